/-! THE MODEL: the best plan, assign (rows by wip/whole/gen/m7.py) -/
theorem pl_i_lt {F : Nat} (h : F < 12) : pl_i F = nI F := if_neg (by omega)
theorem pl_i_m1 {F : Nat} (h : F ≤ 12) : pl_i F = -1 ↔ F = 12 := by
  unfold pl_i
  by_cases e : F = 12
  · simp [e]
  · rw [if_neg e]; exact ⟨fun z => absurd z (nI_m1 F (by omega)), fun z => absurd z e⟩
set_option maxRecDepth 100000 in
set_option maxHeartbeats 4000000 in
theorem kl_best1 {l : Launch} (hls : l.stackTraces = false) {D : va_G} {w : wd_T} {S : Nat → Nat → Int32} {L : Nat → Nat → Int64} {G : Nat → Nat → Int32} (hA : ok_A w G) (hR0 : md_R w G S) {T : Nat → Nat → Int32} (hI : cl_I w G S T w.2.2.1) (hn8 : (fa_cN G w.2.2.1) ≤ 8) {M : Nat → Nat → Int64} {g t : Nat} (hg : g < (fa_cN G w.2.2.1)) (htk : t < 2 ^ w.2.2.2) (hz : ly M 425 (2 ^ w.2.2.2) (dv_V w G ((fa_cN G w.2.2.1) - (g + 1)))) {lf : Int64} {Qp : jd_P} (hnext : ∀ F, bs_I w G g t lf.toInt 0 F → jd_J l D w zn_M zb_M_best 7 (Option.none : Option Jvm.ClassFile.FieldType) [] ({ frames := 1, cells := 0, slots := 0, locals := 27 } : Room) 0 0 Qp 0 0 125 [(0, av_r 400), (1, av_i (nI t)), (2, av_l lf), (4, av_i (nI g)), (5, av_i (pl_i F))] [] T M) : ∀ (k i : Nat), i ≤ w.2.2.2 → w.2.2.2 < i + k → ∀ (x : Int32) (F : Nat), x = nI (w.2.2.2 - i) - 1 → bs_I w G g t lf.toInt (w.2.2.2 - i) F → jd_J l D w zn_M zb_M_best 7 (Option.none : Option Jvm.ClassFile.FieldType) [] ({ frames := 1, cells := 0, slots := 0, locals := 27 } : Room) 0 0 Qp 0 0 45 [(0, av_r 400), (1, av_i (nI t)), (2, av_l lf), (4, av_i (nI g)), (5, av_i (pl_i F)), (6, av_i x)] [] T M := by
  have h12 := hA.1.1
  have h13 := hA.1.2.1
  have hcle := fa_cN_le G w.2.2.1
  intro k
  induction k with
  | zero => intro i h1 h2; omega
  | succ k ih =>
    intro i hu hk x F hx hb9
    refine jd_iload zd_M_best_45 rfl ?_
    refine jd_if_lt 125 zd_M_best_47 (by decide) (fun h_47 => ?_) (fun h_47 => ?_)
    · rw [hx, nI_dlt0 (by omega)] at h_47
      rw [h_47] at hb9
      exact jd_sub [(0, av_r 400), (1, av_i (nI t)), (2, av_l lf), (4, av_i (nI g)), (5, av_i (pl_i F))] ⟨rfl, rfl, rfl, rfl, rfl, trivial⟩ (hnext F hb9)
    · rw [hx, nI_dlt0 (by omega)] at h_47
      obtain ⟨p, hp⟩ : ∃ p, w.2.2.2 - i = p + 1 := ⟨w.2.2.2 - i - 1, by omega⟩
      have e_p : w.2.2.2 - (i + 1) = p := by omega
      have hpP : p < w.2.2.2 := by omega
      have e_x : x = nI p := by rw [hx, hp]; exact nI_pred _
      subst e_x
      rw [hp] at hb9
      refine jd_iload_n zd_M_best_50 rfl ?_
      refine jd_iload zd_M_best_51 rfl ?_
      refine jd_ishr zd_M_best_53 ?_
      refine jd_iconst (v := 1) zd_M_best_54 (by decide) ?_
      refine jd_iand zd_M_best_55 ?_
      refine jd_iconst (v := 1) zd_M_best_56 (by decide) ?_
      refine jd_icmp_eq 119 zd_M_best_57 (by decide) (fun h_57 => ?_) (fun h_57 => ?_)
      · refine jd_iinc (v := nI p - 1) zd_M_best_119 rfl (nI_dec _) (by decide) ?_
        refine jd_goto 45 zd_M_best_122 (by decide) ?_
        exact jd_sub [(0, av_r 400), (1, av_i (nI t)), (2, av_l lf), (4, av_i (nI g)), (5, av_i (pl_i F)), (6, av_i (nI p - 1))] ⟨rfl, rfl, rfl, rfl, rfl, rfl, trivial⟩ (ih (i + 1) (by omega) (by omega) _ F (by rw [e_p]) (by rw [e_p]; exact bs_N hb9 (fun z => by rw [(set_is (by omega)).mp h_57] at z; exact absurd z.2.1 (by decide))))
      · have hb : t.testBit p = false := by cases q : t.testBit p with | false => rfl | true => exact absurd ((set_is (by omega)).mpr q) h_57
        refine jd_aload_n zd_M_best_60 rfl ?_
        refine jd_get rfl rfl zl_M 23 (by decide) zi_703 rfl rfl (rl_m (by decide)) (by decide) zd_M_best_61 ?_
        refine jd_bipush (v := 12) zd_M_best_64 (by decide) ?_
        refine jd_iload zd_M_best_66 rfl ?_
        refine jd_imul zd_M_best_68 ?_
        refine jd_iload zd_M_best_69 rfl ?_
        refine jd_iadd zd_M_best_71 ?_
        refine jd_ildN (r := 424) (c := 12 * g + p) rfl (ix12 _ _) (by omega) (n := 144) (by decide) (rl_m (by decide)) (by decide) zd_M_best_72 ?_
        rw [hI.2.2.2.2 _ p hg hpP]
        refine jd_iconst (v := (-1)) zd_M_best_73 (by decide) ?_
        refine jd_icmp_ne 80 zd_M_best_74 (by decide) (fun h_74 => ?_) (fun h_74 => ?_)
        · have ha : fa_al G w.2.2.1 w.2.2.2 g p := by rcases Classical.em (fa_al G w.2.2.1 w.2.2.2 g p) with z | z; exact z; exact absurd (pr_no hpP z) h_74
          obtain ⟨-, e_c⟩ := pr_yes hA hg ha
          have h9 : t ||| 2 ^ p < 2 ^ w.2.2.2 := set_lt htk hpP
          have h94 := set_sz _ h13
          have e_v := ly_v (hz (t ||| 2 ^ p) h9) (dv_in hA (by omega)).1 (Int.le_trans (dv_in hA (by omega)).2 (by omega)) e_c (ok_hC hA _ _ hg ha).1 (ok_hC hA _ _ hg ha).2
          refine jd_aload_n zd_M_best_80 rfl ?_
          refine jd_get rfl rfl zl_M 24 (by decide) zi_704 rfl rfl (rl_m (by decide)) (by decide) zd_M_best_81 ?_
          refine jd_iload_n zd_M_best_84 rfl ?_
          refine jd_iconst (v := 1) zd_M_best_85 (by decide) ?_
          refine jd_iload zd_M_best_86 rfl ?_
          refine jd_ishl zd_M_best_88 ?_
          refine jd_ior zd_M_best_89 ?_
          refine jd_lldN (r := 425) (c := t ||| 2 ^ p) rfl (set_or (by omega)) (Nat.lt_of_lt_of_le h9 h94) (n := 4096) (by decide) (rl_m (by decide)) (by decide) zd_M_best_90 ?_
          refine jd_ldc2 zi_843 zd_M_best_91 ?_
          refine jd_ladd zd_M_best_94 ?_
          refine jd_aload_n zd_M_best_95 rfl ?_
          refine jd_get rfl rfl zl_M 23 (by decide) zi_703 rfl rfl (rl_m (by decide)) (by decide) zd_M_best_96 ?_
          refine jd_bipush (v := 12) zd_M_best_99 (by decide) ?_
          refine jd_iload zd_M_best_101 rfl ?_
          refine jd_imul zd_M_best_103 ?_
          refine jd_iload zd_M_best_104 rfl ?_
          refine jd_iadd zd_M_best_106 ?_
          refine jd_ildN (r := 424) (c := 12 * g + p) rfl (ix12 _ _) (by omega) (n := 144) (by decide) (rl_m (by decide)) (by decide) zd_M_best_107 ?_
          rw [hI.2.2.2.2 _ p hg hpP]
          refine jd_i2l zd_M_best_108 ?_
          refine jd_lsub zd_M_best_109 ?_
          refine jd_lload_n zd_M_best_110 rfl ?_
          refine jd_lcmp zd_M_best_111 ?_
          refine jd_if_ne 119 zd_M_best_112 (by decide) (fun h_112 => ?_) (fun h_112 => ?_)
          · have h_ne : ¬ dv_V w G ((fa_cN G w.2.2.1) - (g + 1)) (t ||| 2 ^ p) + 1099511627776 - fa_cost G w.2.2.1 g p = lf.toInt := by rw [← e_v]; exact fun z => h_112 ((lg_cmp_eq _ _).mpr (Int64.toInt_inj.mp z))
            refine jd_iinc (v := nI p - 1) zd_M_best_119 rfl (nI_dec _) (by decide) ?_
            refine jd_goto 45 zd_M_best_122 (by decide) ?_
            exact jd_sub [(0, av_r 400), (1, av_i (nI t)), (2, av_l lf), (4, av_i (nI g)), (5, av_i (pl_i F)), (6, av_i (nI p - 1))] ⟨rfl, rfl, rfl, rfl, rfl, rfl, trivial⟩ (ih (i + 1) (by omega) (by omega) _ F (by rw [e_p]) (by rw [e_p]; exact bs_N hb9 (fun z => h_ne z.2.2)))
          · have h_eq : dv_V w G ((fa_cN G w.2.2.1) - (g + 1)) (t ||| 2 ^ p) + 1099511627776 - fa_cost G w.2.2.1 g p = lf.toInt := by rw [← e_v, (lg_cmp_eq _ _).mp h_112]
            refine jd_iload zd_M_best_115 rfl ?_
            refine jd_istore zd_M_best_117 (by decide) ?_
            refine jd_iinc (v := nI p - 1) zd_M_best_119 rfl (nI_dec _) (by decide) ?_
            refine jd_goto 45 zd_M_best_122 (by decide) ?_
            exact jd_sub [(0, av_r 400), (1, av_i (nI t)), (2, av_l lf), (4, av_i (nI g)), (5, av_i (pl_i p)), (6, av_i (nI p - 1))] ⟨rfl, rfl, rfl, rfl, by rw [pl_i_lt (show p < 12 by omega)]; rfl, rfl, trivial⟩ (ih (i + 1) (by omega) (by omega) _ p (by rw [e_p]) (by rw [e_p]; exact bs_Y (by omega) ha hb h_eq))
        · refine jd_goto 119 zd_M_best_77 (by decide) ?_
          refine jd_iinc (v := nI p - 1) zd_M_best_119 rfl (nI_dec _) (by decide) ?_
          refine jd_goto 45 zd_M_best_122 (by decide) ?_
          exact jd_sub [(0, av_r 400), (1, av_i (nI t)), (2, av_l lf), (4, av_i (nI g)), (5, av_i (pl_i F)), (6, av_i (nI p - 1))] ⟨rfl, rfl, rfl, rfl, rfl, rfl, trivial⟩ (ih (i + 1) (by omega) (by omega) _ F (by rw [e_p]) (by rw [e_p]; exact bs_N hb9 (fun z => (pr_yes hA hg z.1).1 h_74)))
set_option maxRecDepth 100000 in
set_option maxHeartbeats 4000000 in
theorem kl_best2 {l : Launch} (hls : l.stackTraces = false) {D : va_G} {w : wd_T} {S : Nat → Nat → Int32} {L : Nat → Nat → Int64} {G : Nat → Nat → Int32} (hA : ok_A w G) (hR0 : md_R w G S) (hn8 : (fa_cN G w.2.2.1) ≤ 8) {Qp : jd_P} (hQ : ∀ T M f tk, cl_I w G S T w.2.2.1 → sm_L L M → bs_T w G f tk (fa_cN G w.2.2.1) → (∀ i, i < (fa_cN G w.2.2.1) → T 423 i = pl_i (f i)) → Qp.1 none T M) : ∀ (k g : Nat), g ≤ (fa_cN G w.2.2.1) → (fa_cN G w.2.2.1) < g + k → ∀ (T : Nat → Nat → Int32) (M : Nat → Nat → Int64) (f tk : Nat → Nat) (t : Nat) (lf : Int64), cl_I w G S T w.2.2.1 → sm_L L M → bs_T w G f tk g → t = tk g → lf.toInt = dv_V w G ((fa_cN G w.2.2.1) - g) (tk g) → (∀ i, i < g → T 423 i = pl_i (f i)) → jd_J l D w zn_M zb_M_best 7 (Option.none : Option Jvm.ClassFile.FieldType) [] ({ frames := 1, cells := 0, slots := 0, locals := 27 } : Room) 0 0 Qp 0 0 17 [(0, av_r 400), (1, av_i (nI t)), (2, av_l lf), (4, av_i (nI g))] [] T M := by
  have h12 := hA.1.1
  have h13 := hA.1.2.1
  have hcle := fa_cN_le G w.2.2.1
  intro k
  induction k with
  | zero => intro g h1 h2; omega
  | succ k ih =>
    intro g hu hk T M f tk t lf hI hM hT ht hlf hgv
    refine jd_iload zd_M_best_17 rfl ?_
    refine jd_aload_n zd_M_best_19 rfl ?_
    refine jd_get rfl rfl zl_M 20 (by decide) zi_700 rfl rfl (rl_m (by decide)) (by decide) zd_M_best_20 ?_
    rw [hI.2.2.1]
    refine jd_icmp_ge 160 zd_M_best_23 (by decide) (fun h_23 => ?_) (fun h_23 => ?_)
    · have e_u := nI_end rfl (by omega) hu h_23
      subst e_u
      exact jd_vret rfl (hQ T M f tk hI hM hT hgv) (by decide) (by decide) zd_M_best_160
    · have hu2 := nI_on rfl (by omega) hu h_23
      have htk := bs_tk hT
      have h94 := set_sz _ h13
      subst ht
      refine jd_aload_n zd_M_best_26 rfl ?_
      refine jd_iload zd_M_best_27 rfl ?_
      refine jd_iconst (v := 1) zd_M_best_29 (by decide) ?_
      refine jd_iadd zd_M_best_30 ?_
      rw [nI_1]
      refine jd_callV (n := 1) (kc_lay hls hA hR0 hI (f := g + 1) (by omega) hn8) rfl rfl rfl (rl_m (by decide)) (by decide) zi_839 zi_841 zi_35 zi_44 zi_842 (by decide +kernel) rfl rfl rfl (by decide) (Nat.le_of_ble_eq_true rfl) (by decide) zd_M_best_31 (fun _ _ _ h => h.elim) (fun v T9 M2 hq => ?_)
      obtain ⟨rfl, rfl, hM9, hz⟩ := hq
      have hM2 := hM.tr hM9
      refine jd_iconst (v := (-1)) zd_M_best_34 (by decide) ?_
      refine jd_istore zd_M_best_35 (by decide) ?_
      refine jd_aload_n zd_M_best_37 rfl ?_
      refine jd_get rfl rfl zl_M 10 (by decide) zi_690 rfl rfl (rl_m (by decide)) (by decide) zd_M_best_38 ?_
      rw [(md_sm hI.1 hR0).1.2.1]
      refine jd_iconst (v := 1) zd_M_best_41 (by decide) ?_
      refine jd_isub zd_M_best_42 ?_
      refine jd_istore zd_M_best_43 (by decide) ?_
      refine jd_sub [(0, av_r 400), (1, av_i (nI (tk g))), (2, av_l lf), (4, av_i (nI g)), (5, av_i (pl_i 12)), (6, av_i (nI w.2.2.2 - 1))] ⟨rfl, rfl, rfl, rfl, rfl, rfl, trivial⟩ (kl_best1 (L := L) hls hA hR0 hI hn8 hu2 htk hz (fun F hb9 => ?_) (w.2.2.2 + 1) 0 (by omega) (by omega) _ 12 rfl bs_0)
      rw [hlf] at hb9
      have hF12 : F ≤ 12 := by rcases hb9 with ⟨a, -⟩ | ⟨a, -⟩ <;> omega
      refine jd_aload_n zd_M_best_125 rfl ?_
      refine jd_get rfl rfl zl_M 22 (by decide) zi_702 rfl rfl (rl_m (by decide)) (by decide) zd_M_best_126 ?_
      refine jd_iload zd_M_best_129 rfl ?_
      refine jd_iload zd_M_best_131 rfl ?_
      refine jd_istN (r := 423) (c := g) (fun _ => rfl) rfl (by omega) (n := 12) (by decide) (rl_m (by decide)) (by decide) zd_M_best_133 ?_
      refine jd_iload zd_M_best_134 rfl ?_
      refine jd_iconst (v := (-1)) zd_M_best_136 (by decide) ?_
      refine jd_icmp_eq 147 zd_M_best_137 (by decide) (fun h_137 => ?_) (fun h_137 => ?_)
      · have h_F : F = 12 := (pl_i_m1 hF12).mp h_137
        refine jd_aload_n zd_M_best_147 rfl ?_
        refine jd_get rfl rfl zl_M 24 (by decide) zi_704 rfl rfl (rl_m (by decide)) (by decide) zd_M_best_148 ?_
        refine jd_iload_n zd_M_best_151 rfl ?_
        refine jd_lldN (r := 425) (c := (tk g)) rfl rfl (Nat.lt_of_lt_of_le htk h94) (n := 4096) (by decide) (rl_m (by decide)) (by decide) zd_M_best_152 ?_
        refine jd_lstore_n zd_M_best_153 (by decide) ?_
        refine jd_iinc (v := nI (g + 1)) zd_M_best_154 rfl (nI_inc g) (by decide) ?_
        refine jd_goto 17 zd_M_best_157 (by decide) ?_
        have e_t : (if g + 1 = g + 1 then (if F = 12 then tk g else tk g ||| 2 ^ F) else tk (g + 1)) = (tk g) := by rw [if_pos rfl, if_pos h_F]
        exact jd_sub [(0, av_r 400), (1, av_i (nI (tk g))), (2, av_l _), (4, av_i (nI (g + 1)))] ⟨rfl, rfl, rfl, rfl, trivial⟩ (ih (g + 1) (by omega) (by omega) _ _ _ _ _ _ (cl_up hI _) hM2 (bs_st hT h13 hb9) e_t.symm (by rw [e_t]; exact hz _ (htk)) (us_up (P := fun i y => y = pl_i (if i = g then F else f i)) (fun i hi => by rw [if_neg (show ¬ i = g by omega)]; exact hgv i hi) (by rw [if_pos rfl])))
      · have h_F : ¬ F = 12 := fun z => h_137 ((pl_i_m1 hF12).mpr z)
        have hFP : F < w.2.2.2 := by rcases hb9 with ⟨a, -⟩ | ⟨a, -⟩; exact absurd a h_F; exact a
        refine jd_iload_n zd_M_best_140 rfl ?_
        refine jd_iconst (v := 1) zd_M_best_141 (by decide) ?_
        refine jd_iload zd_M_best_142 rfl ?_
        rw [pl_i_lt (show F < 12 by omega)]
        refine jd_ishl zd_M_best_144 ?_
        refine jd_ior zd_M_best_145 ?_
        rw [set_or (show F < 32 by omega)]
        refine jd_istore_n zd_M_best_146 (by decide) ?_
        refine jd_aload_n zd_M_best_147 rfl ?_
        refine jd_get rfl rfl zl_M 24 (by decide) zi_704 rfl rfl (rl_m (by decide)) (by decide) zd_M_best_148 ?_
        refine jd_iload_n zd_M_best_151 rfl ?_
        refine jd_lldN (r := 425) (c := (tk g ||| 2 ^ F)) rfl rfl (Nat.lt_of_lt_of_le (set_lt htk hFP) h94) (n := 4096) (by decide) (rl_m (by decide)) (by decide) zd_M_best_152 ?_
        refine jd_lstore_n zd_M_best_153 (by decide) ?_
        refine jd_iinc (v := nI (g + 1)) zd_M_best_154 rfl (nI_inc g) (by decide) ?_
        refine jd_goto 17 zd_M_best_157 (by decide) ?_
        have e_t : (if g + 1 = g + 1 then (if F = 12 then tk g else tk g ||| 2 ^ F) else tk (g + 1)) = (tk g ||| 2 ^ F) := by rw [if_pos rfl, if_neg h_F]
        exact jd_sub [(0, av_r 400), (1, av_i (nI (tk g ||| 2 ^ F))), (2, av_l _), (4, av_i (nI (g + 1)))] ⟨rfl, rfl, rfl, rfl, trivial⟩ (ih (g + 1) (by omega) (by omega) _ _ _ _ _ _ (cl_up hI _) hM2 (bs_st hT h13 hb9) e_t.symm (by rw [e_t]; exact hz _ (set_lt htk hFP)) (us_up (P := fun i y => y = pl_i (if i = g then F else f i)) (fun i hi => by rw [if_neg (show ¬ i = g by omega)]; exact hgv i hi) (by rw [if_pos rfl, pl_i_lt (show F < 12 by omega)])))
def po_bI (w : wd_T) (G S : Nat → Nat → Int32) (L : Nat → Nat → Int64) : jd_P := (fun v' S' L' => ∃ f, pl_min (fa_cN G w.2.2.1) (fa_cost G w.2.2.1) (fa_al G w.2.2.1 w.2.2.2) f ∧ v' = none ∧ sm_L L L' ∧ cl_I w G S S' w.2.2.1 ∧ ∀ r, r < fa_cN G w.2.2.1 → S' 423 r = pl_i (f r), fun _ _ _ => False)
set_option maxRecDepth 100000 in
set_option maxHeartbeats 4000000 in
theorem kc_best {l : Launch} (hls : l.stackTraces = false) {D : va_G} {w : wd_T} {S : Nat → Nat → Int32} {L : Nat → Nat → Int64} {G : Nat → Nat → Int32} (hA : ok_A w G) (hR0 : md_R w G S) {T : Nat → Nat → Int32} (hI : cl_I w G S T w.2.2.1) (hn8 : (fa_cN G w.2.2.1) ≤ 8) : ct_M l D w zy_M_best (Cond.code zy_M_best zb_M_best 7 (Option.none : Option Jvm.ClassFile.FieldType)) ({ frames := 1, cells := 0, slots := 0, locals := 27 } : Room) [av_r 400] T L (po_bI w G S L) 0 0 := by
  have h12 := hA.1.1
  have h13 := hA.1.2.1
  refine ct_intro hls (own := zn_M) (by decide) rfl (Nat.le_of_ble_eq_true rfl) ?_
  refine jd_iconst (v := 0) zd_M_best_0 (by decide) ?_
  refine jd_istore_n zd_M_best_1 (by decide) ?_
  refine jd_aload_n zd_M_best_2 rfl ?_
  refine jd_iconst (v := 0) zd_M_best_3 (by decide) ?_
  refine jd_callV (n := 1) (kc_lay hls hA hR0 hI (f := 0) (by omega) hn8) rfl rfl rfl (rl_m (by decide)) (by decide) zi_839 zi_841 zi_35 zi_44 zi_842 (by decide +kernel) rfl rfl rfl (by decide) (Nat.le_of_ble_eq_true rfl) (by decide) zd_M_best_4 (fun _ _ _ h => h.elim) (fun v T9 M2 hq => ?_)
  obtain ⟨rfl, rfl, hM2, hz⟩ := hq
  refine jd_aload_n zd_M_best_7 rfl ?_
  refine jd_get rfl rfl zl_M 24 (by decide) zi_704 rfl rfl (rl_m (by decide)) (by decide) zd_M_best_8 ?_
  refine jd_iconst (v := 0) zd_M_best_11 (by decide) ?_
  refine jd_lldN (r := 425) (c := 0) rfl rfl (by omega) (n := 4096) (by decide) (rl_m (by decide)) (by decide) zd_M_best_12 ?_
  refine jd_lstore_n zd_M_best_13 (by decide) ?_
  refine jd_iconst (v := 0) zd_M_best_14 (by decide) ?_
  refine jd_istore zd_M_best_15 (by decide) ?_
  exact jd_sub [(0, av_r 400), (1, av_i (nI 0)), (2, av_l _), (4, av_i (nI 0))] ⟨rfl, rfl, rfl, rfl, trivial⟩ (kl_best2 (Qp := po_bI w G S L) hls hA hR0 hn8 (fun T M f tk hI hM hT hgv => ⟨f, dp_min hn8 h13 (fun i p _ h => h.1) (ok_hC hA) (bs_rd h13 hT), rfl, hM, hI, hgv⟩) ((fa_cN G w.2.2.1) + 1) 0 (by omega) (by omega) T9 M2 (fun _ => 0) (fun _ => 0) 0 _ hI hM2 ⟨rfl, fun i hi => by omega, fun i hi => by omega⟩ rfl (hz 0 (Nat.two_pow_pos _)) (fun i hi => by omega))
