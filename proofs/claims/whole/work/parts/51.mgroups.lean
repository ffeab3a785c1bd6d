/-! THE MODEL: its groups (rows by wip/whole/gen/m5.py) -/
set_option maxRecDepth 100000 in
set_option maxHeartbeats 4000000 in
theorem kl_collect1 {l : Launch} (hls : l.stackTraces = false) {D : va_G} {w : wd_T} {S : Nat → Nat → Int32} {L : Nat → Nat → Int64} {G : Nat → Nat → Int32} (hA : ok_A w G) (hR0 : md_R w G S) {u : Nat} (hu1 : u < w.2.2.1) (hg : fa_gr G u = true) {Qp : jd_P} (hnext : ∀ T, cl_J w G S T u w.2.2.2 → jd_J l D w zn_M zb_M_collect 3 (Option.none : Option Jvm.ClassFile.FieldType) [] ({ frames := 3, cells := 0, slots := 0, locals := 72 } : Room) 0 0 Qp 0 0 86 [(0, av_r 400), (1, av_i (nI u))] [] T L) : ∀ (k p : Nat), p ≤ w.2.2.2 → w.2.2.2 < p + k → ∀ T, cl_J w G S T u p → jd_J l D w zn_M zb_M_collect 3 (Option.none : Option Jvm.ClassFile.FieldType) [] ({ frames := 3, cells := 0, slots := 0, locals := 72 } : Room) 0 0 Qp 0 0 38 [(0, av_r 400), (1, av_i (nI u)), (2, av_i (nI p))] [] T L := by
  have h12 := hA.1.1
  have h13 := hA.1.2.1
  have hcl := fa_cN_lt (S := G) hu1 hg
  have hcle := fa_cN_le G w.2.2.1
  intro k
  induction k with
  | zero => intro p h1 h2; omega
  | succ k ih =>
    intro p hu hk T hI
    refine jd_iload_n zd_M_collect_38 rfl ?_
    refine jd_aload_n zd_M_collect_39 rfl ?_
    refine jd_get rfl rfl zl_M 10 (by decide) zi_690 rfl rfl (rl_m (by decide)) (by decide) zd_M_collect_40 ?_
    rw [(md_sm hI.1 hR0).1.2.1]
    refine jd_icmp_ge 86 zd_M_collect_43 (by decide) (fun h_43 => ?_) (fun h_43 => ?_)
    · have e_u := nI_end rfl (by omega) hu h_43
      subst e_u
      exact jd_sub [(0, av_r 400), (1, av_i (nI u))] ⟨rfl, rfl, trivial⟩ (hnext T hI)
    · have hu2 := nI_on rfl (by omega) hu h_43
      have hR := md_sm hI.1 hR0
      refine jd_aload_n zd_M_collect_46 rfl ?_
      refine jd_get rfl rfl zl_M 23 (by decide) zi_703 rfl rfl (rl_m (by decide)) (by decide) zd_M_collect_47 ?_
      refine jd_bipush (v := 12) zd_M_collect_50 (by decide) ?_
      refine jd_aload_n zd_M_collect_52 rfl ?_
      refine jd_get rfl rfl zl_M 20 (by decide) zi_700 rfl rfl (rl_m (by decide)) (by decide) zd_M_collect_53 ?_
      rw [hI.2.2.1]
      refine jd_imul zd_M_collect_56 ?_
      refine jd_iload_n zd_M_collect_57 rfl ?_
      refine jd_iadd zd_M_collect_58 ?_
      refine jd_aload_n zd_M_collect_59 rfl ?_
      refine jd_iload_n zd_M_collect_60 rfl ?_
      refine jd_iload_n zd_M_collect_61 rfl ?_
      refine jd_iconst (v := nI 5) zd_M_collect_62 (by decide) ?_
      refine jd_callV (n := 3) (kc_isAllowed hls hA hR hu1 hg hu2 (t := 5) (by omega)) rfl rfl rfl (rl_m (by decide)) (by decide) zi_819 zi_821 zi_30 zi_44 zi_822 (by decide +kernel) rfl rfl rfl (by decide) (Nat.le_of_ble_eq_true rfl) (by decide) zd_M_collect_63 (fun _ _ _ h => h.elim) (fun v S2 L2 hq => ?_)
      obtain ⟨rfl, rfl, rfl⟩ := hq
      rw [fa_ka_5]
      refine jd_if_eq 78 zd_M_collect_66 (by decide) (fun h_66 => ?_) (fun h_66 => ?_)
      · refine jd_iconst (v := (-1)) zd_M_collect_78 (by decide) ?_
        refine jd_istN (r := 424) (c := 12 * fa_cN G u + p) (fun _ => rfl) (ix12 _ _) (by omega) (n := 144) (by decide) (rl_m (by decide)) (by decide) zd_M_collect_79 ?_
        refine jd_iinc (v := nI (p + 1)) zd_M_collect_80 rfl (nI_inc p) (by decide) ?_
        refine jd_goto 38 zd_M_collect_83 (by decide) ?_
        exact jd_sub [(0, av_r 400), (1, av_i (nI u)), (2, av_i (nI (p + 1)))] ⟨rfl, rfl, rfl, trivial⟩ (ih (p + 1) (by omega) (by omega) _ (cl_JJ h13 hI hu2 (by unfold cl_pr; rw [if_neg (of_decide_eq_false (bi_z h_66))])))
      · refine jd_aload_n zd_M_collect_69 rfl ?_
        refine jd_iload_n zd_M_collect_70 rfl ?_
        refine jd_iload_n zd_M_collect_71 rfl ?_
        refine jd_callV (n := 2) (kc_costOf hls hA hR hu1 hg hu2) rfl rfl rfl (rl_m (by decide)) (by decide) zi_831 zi_833 zi_33 zi_44 zi_834 (by decide +kernel) rfl rfl rfl (by decide) (Nat.le_of_ble_eq_true rfl) (by decide) zd_M_collect_72 (fun _ _ _ h => h.elim) (fun v S2 L2 hq => ?_)
        obtain ⟨rfl, rfl, rfl⟩ := hq
        refine jd_goto 79 zd_M_collect_75 (by decide) ?_
        refine jd_istN (r := 424) (c := 12 * fa_cN G u + p) (fun _ => rfl) (ix12 _ _) (by omega) (n := 144) (by decide) (rl_m (by decide)) (by decide) zd_M_collect_79 ?_
        refine jd_iinc (v := nI (p + 1)) zd_M_collect_80 rfl (nI_inc p) (by decide) ?_
        refine jd_goto 38 zd_M_collect_83 (by decide) ?_
        exact jd_sub [(0, av_r 400), (1, av_i (nI u)), (2, av_i (nI (p + 1)))] ⟨rfl, rfl, rfl, trivial⟩ (ih (p + 1) (by omega) (by omega) _ (cl_JJ h13 hI hu2 (by unfold cl_pr; rw [if_pos (of_decide_eq_true (bi_n h_66))])))
set_option maxRecDepth 100000 in
set_option maxHeartbeats 4000000 in
theorem kl_collect2 {l : Launch} (hls : l.stackTraces = false) {D : va_G} {w : wd_T} {S : Nat → Nat → Int32} {L : Nat → Nat → Int64} {G : Nat → Nat → Int32} (hA : ok_A w G) (hR0 : md_R w G S)  {Qp : jd_P} (hQ : ∀ T, cl_I w G S T w.2.2.1 → Qp.1 none T L) : ∀ (k u : Nat), u ≤ w.2.2.1 → w.2.2.1 < u + k → ∀ T, cl_I w G S T u → jd_J l D w zn_M zb_M_collect 3 (Option.none : Option Jvm.ClassFile.FieldType) [] ({ frames := 3, cells := 0, slots := 0, locals := 72 } : Room) 0 0 Qp 0 0 7 [(0, av_r 400), (1, av_i (nI u))] [] T L := by
  have h12 := hA.1.1
  have h13 := hA.1.2.1
  intro k
  induction k with
  | zero => intro u h1 h2; omega
  | succ k ih =>
    intro u hu hk T hI
    refine jd_iload_n zd_M_collect_7 rfl ?_
    refine jd_aload_n zd_M_collect_8 rfl ?_
    refine jd_get rfl rfl zl_M 1 (by decide) zi_681 rfl rfl (rl_m (by decide)) (by decide) zd_M_collect_9 ?_
    rw [(md_sm hI.1 hR0).1.1]
    refine jd_icmp_ge 102 zd_M_collect_12 (by decide) (fun h_12 => ?_) (fun h_12 => ?_)
    · have e_u := nI_end rfl (by omega) hu h_12
      subst e_u
      exact jd_vret rfl (hQ T hI) (by decide) (by decide) zd_M_collect_102
    · have hu2 := nI_on rfl (by omega) hu h_12
      have hR := md_sm hI.1 hR0
      refine jd_aload_n zd_M_collect_15 rfl ?_
      refine jd_iload_n zd_M_collect_16 rfl ?_
      refine jd_callV (n := 1) (kc_MisGroup hls hA hR hu2) rfl rfl rfl (rl_m (by decide)) (by decide) zi_815 zi_817 zi_29 zi_44 zi_818 (by decide +kernel) rfl rfl rfl (by decide) (Nat.le_of_ble_eq_true rfl) (by decide) zd_M_collect_17 (fun _ _ _ h => h.elim) (fun v S2 L2 hq => ?_)
      obtain ⟨rfl, rfl, rfl⟩ := hq
      refine jd_if_ne 26 zd_M_collect_20 (by decide) (fun h_20 => ?_) (fun h_20 => ?_)
      · have hg := bi_n h_20
        have hcl := fa_cN_lt (S := G) hu2 hg
        have hcle := fa_cN_le G w.2.2.1
        refine jd_aload_n zd_M_collect_26 rfl ?_
        refine jd_get rfl rfl zl_M 21 (by decide) zi_701 rfl rfl (rl_m (by decide)) (by decide) zd_M_collect_27 ?_
        refine jd_aload_n zd_M_collect_30 rfl ?_
        refine jd_get rfl rfl zl_M 20 (by decide) zi_700 rfl rfl (rl_m (by decide)) (by decide) zd_M_collect_31 ?_
        rw [hI.2.2.1]
        refine jd_iload_n zd_M_collect_34 rfl ?_
        refine jd_istN (r := 422) (c := fa_cN G u) (fun _ => rfl) rfl (by omega) (n := 12) (by decide) (rl_m (by decide)) (by decide) zd_M_collect_35 ?_
        refine jd_iconst (v := 0) zd_M_collect_36 (by decide) ?_
        refine jd_istore_n zd_M_collect_37 (by decide) ?_
        refine jd_sub [(0, av_r 400), (1, av_i (nI u)), (2, av_i (nI 0))] ⟨rfl, rfl, rfl, trivial⟩ (kl_collect1 hls hA hR0 hu2 hg (fun T hJ => ?_) (w.2.2.2 + 1) 0 (by omega) (by omega) _ (cl_IJ hI hg hu2))
        refine jd_aload_n zd_M_collect_86 rfl ?_
        refine jd_dup zd_M_collect_87 rfl ?_
        refine jd_get rfl rfl zl_M 20 (by decide) zi_700 rfl rfl (rl_m (by decide)) (by decide) zd_M_collect_88 ?_
        rw [hJ.2.2.1]
        refine jd_iconst (v := 1) zd_M_collect_91 (by decide) ?_
        refine jd_iadd zd_M_collect_92 ?_
        refine jd_put rfl rfl zl_M zp_M zm_M 20 (by decide) zi_700 rfl rfl rfl rfl rfl (Nat.le_of_ble_eq_true rfl) rfl (rl_m (by decide)) (by decide) zd_M_collect_93 ?_
        refine jd_iinc (v := nI (u + 1)) zd_M_collect_96 rfl (nI_inc u) (by decide) ?_
        refine jd_goto 7 zd_M_collect_99 (by decide) ?_
        exact jd_sub [(0, av_r 400), (1, av_i (nI (u + 1)))] ⟨rfl, rfl, trivial⟩ (ih (u + 1) (by omega) (by omega) _ (cl_JI hJ hg hu2))
      · refine jd_goto 96 zd_M_collect_23 (by decide) ?_
        refine jd_iinc (v := nI (u + 1)) zd_M_collect_96 rfl (nI_inc u) (by decide) ?_
        refine jd_goto 7 zd_M_collect_99 (by decide) ?_
        exact jd_sub [(0, av_r 400), (1, av_i (nI (u + 1)))] ⟨rfl, rfl, trivial⟩ (ih (u + 1) (by omega) (by omega) _ (cl_N hI (by rw [bi_z h_20]; decide)))
def po_cI (w : wd_T) (G S : Nat → Nat → Int32) (L : Nat → Nat → Int64) : jd_P := (fun v' S' L' => v' = none ∧ L' = L ∧ cl_I w G S S' w.2.2.1, fun _ _ _ => False)
set_option maxRecDepth 100000 in
set_option maxHeartbeats 4000000 in
theorem kc_collect {l : Launch} (hls : l.stackTraces = false) {D : va_G} {w : wd_T} {S : Nat → Nat → Int32} {L : Nat → Nat → Int64} {G : Nat → Nat → Int32} (hA : ok_A w G) (hR0 : md_R w G S) : ct_M l D w zy_M_collect (Cond.code zy_M_collect zb_M_collect 3 (Option.none : Option Jvm.ClassFile.FieldType)) ({ frames := 3, cells := 0, slots := 0, locals := 72 } : Room) [av_r 400] S L (po_cI w G S L) 0 0 := by
  have h12 := hA.1.1
  have h13 := hA.1.2.1
  refine ct_intro hls (own := zn_M) (by decide) rfl (Nat.le_of_ble_eq_true rfl) ?_
  refine jd_aload_n zd_M_collect_0 rfl ?_
  refine jd_iconst (v := 0) zd_M_collect_1 (by decide) ?_
  refine jd_put rfl rfl zl_M zp_M zm_M 20 (by decide) zi_700 rfl rfl rfl rfl rfl (Nat.le_of_ble_eq_true rfl) rfl (rl_m (by decide)) (by decide) zd_M_collect_2 ?_
  refine jd_iconst (v := 0) zd_M_collect_5 (by decide) ?_
  refine jd_istore_n zd_M_collect_6 (by decide) ?_
  exact jd_sub [(0, av_r 400), (1, av_i (nI 0))] ⟨rfl, rfl, trivial⟩ (kl_collect2 (Qp := po_cI w G S L) hls hA hR0 (fun T hI => ⟨rfl, rfl, hI⟩) (w.2.2.1 + 1) 0 (by omega) (by omega) _ cl_0)
set_option maxRecDepth 100000 in
set_option maxHeartbeats 4000000 in
theorem kl_Mbound {l : Launch} (hls : l.stackTraces = false) {D : va_G} {w : wd_T} {S : Nat → Nat → Int32} {L : Nat → Nat → Int64} {G : Nat → Nat → Int32} (hA : ok_A w G) (hR0 : md_R w G S) {T : Nat → Nat → Int32} (hI : cl_I w G S T w.2.2.1) {Qp : jd_P}  : ∀ (k r : Nat), r ≤ (fa_cN G w.2.2.1) → (fa_cN G w.2.2.1) < r + k → ∀ c : Int32, Qp.1 (some (av_i (fm_bd G w.2.2.1 w.2.2.2 ((fa_cN G w.2.2.1) - r) r c))) T L → jd_J l D w zn_M zb_M_bound 4 (Option.some Jvm.ClassFile.FieldType.int) [] ({ frames := 4, cells := 0, slots := 0, locals := 96 } : Room) 0 0 Qp 0 0 13 [(0, av_r 400), (1, av_i c), (2, av_i (nI r))] [] T L := by
  have h12 := hA.1.1
  have h13 := hA.1.2.1
  have hcle := fa_cN_le G w.2.2.1
  have hR := md_sm hI.1 hR0
  intro k
  induction k with
  | zero => intro r h1 h2; omega
  | succ k ih =>
    intro r hu hk c hQ
    refine jd_iload_n zd_M_bound_13 rfl ?_
    refine jd_aload_n zd_M_bound_14 rfl ?_
    refine jd_get rfl rfl zl_M 20 (by decide) zi_700 rfl rfl (rl_m (by decide)) (by decide) zd_M_bound_15 ?_
    rw [hI.2.2.1]
    refine jd_icmp_ge 60 zd_M_bound_18 (by decide) (fun h_18 => ?_) (fun h_18 => ?_)
    · have e_u := nI_end rfl (by omega) hu h_18
      subst e_u
      rw [Nat.sub_self] at hQ
      refine jd_iload_n zd_M_bound_60 rfl ?_
      exact jd_iret rfl hQ (by decide) (by decide) zd_M_bound_61
    · have hu2 := nI_on rfl (by omega) hu h_18
      obtain ⟨hle, hlg, hlc⟩ := fa_le_in w.2.2.1 hu2
      have e_k : (fa_cN G w.2.2.1) - r = ((fa_cN G w.2.2.1) - (r + 1)) + 1 := by omega
      rw [e_k] at hQ
      simp only [fm_bd] at hQ
      refine jd_aload_n zd_M_bound_21 rfl ?_
      refine jd_aload_n zd_M_bound_22 rfl ?_
      refine jd_get rfl rfl zl_M 21 (by decide) zi_701 rfl rfl (rl_m (by decide)) (by decide) zd_M_bound_23 ?_
      refine jd_iload_n zd_M_bound_26 rfl ?_
      refine jd_ildN (r := 422) (c := r) rfl rfl (by omega) (n := 12) (by decide) (rl_m (by decide)) (by decide) zd_M_bound_27 ?_
      rw [hI.2.2.2.1 r hu2]
      refine jd_iconst (v := 0) zd_M_bound_28 (by decide) ?_
      refine jd_callV (n := 2) (kc_Mcheapest hls hA hR hle hlg 0) rfl rfl rfl (rl_m (by decide)) (by decide) zi_848 zi_850 zi_37 zi_44 zi_851 (by decide +kernel) rfl rfl rfl (by decide) (Nat.le_of_ble_eq_true rfl) (by decide) zd_M_bound_29 (fun _ _ _ h => h.elim) (fun v S2 L2 hq => ?_)
      obtain ⟨rfl, rfl, rfl⟩ := hq
      refine jd_istore_n zd_M_bound_32 (by decide) ?_
      refine jd_iload_n zd_M_bound_33 rfl ?_
      refine jd_iconst (v := (-1)) zd_M_bound_34 (by decide) ?_
      refine jd_icmp_ne 40 zd_M_bound_35 (by decide) (fun h_35 => ?_) (fun h_35 => ?_)
      · rw [if_neg h_35] at hQ
        obtain ⟨p, hp, ep⟩ : ∃ p, p < w.2.2.2 ∧ (fa_ch G (fa_ga G (nI (fa_le G w.2.2.1 r)) w.2.2.1) (fa_le G w.2.2.1 r) 0 w.2.2.2).1 = nI p := (fa_ch_in _ _ _ _ _).resolve_left h_35
        rw [ep, nI_clamp (show p < 2 ^ 31 by omega)] at hQ
        refine jd_iload_n zd_M_bound_40 rfl ?_
        refine jd_aload_n zd_M_bound_41 rfl ?_
        refine jd_aload_n zd_M_bound_42 rfl ?_
        refine jd_get rfl rfl zl_M 21 (by decide) zi_701 rfl rfl (rl_m (by decide)) (by decide) zd_M_bound_43 ?_
        refine jd_iload_n zd_M_bound_46 rfl ?_
        refine jd_ildN (r := 422) (c := r) rfl rfl (by omega) (n := 12) (by decide) (rl_m (by decide)) (by decide) zd_M_bound_47 ?_
        rw [hI.2.2.2.1 r hu2]
        refine jd_iload_n zd_M_bound_48 rfl ?_
        rw [ep]
        refine jd_callV (n := 2) (kc_costOf hls hA hR hle hlg hp) rfl rfl rfl (rl_m (by decide)) (by decide) zi_831 zi_833 zi_33 zi_44 zi_834 (by decide +kernel) rfl rfl rfl (by decide) (Nat.le_of_ble_eq_true rfl) (by decide) zd_M_bound_49 (fun _ _ _ h => h.elim) (fun v S2 L2 hq => ?_)
        obtain ⟨rfl, rfl, rfl⟩ := hq
        refine jd_iadd zd_M_bound_52 ?_
        refine jd_istore_n zd_M_bound_53 (by decide) ?_
        refine jd_iinc (v := nI (r + 1)) zd_M_bound_54 rfl (nI_inc r) (by decide) ?_
        refine jd_goto 13 zd_M_bound_57 (by decide) ?_
        exact jd_sub [(0, av_r 400), (1, av_i _), (2, av_i (nI (r + 1)))] ⟨rfl, rfl, rfl, trivial⟩ (ih (r + 1) (by omega) (by omega) _ hQ)
      · rw [if_pos h_35] at hQ
        refine jd_iconst (v := (-1)) zd_M_bound_38 (by decide) ?_
        exact jd_iret rfl hQ (by decide) (by decide) zd_M_bound_39
set_option maxRecDepth 100000 in
set_option maxHeartbeats 4000000 in
theorem kc_Mbound {l : Launch} (hls : l.stackTraces = false) {D : va_G} {w : wd_T} {S : Nat → Nat → Int32} {L : Nat → Nat → Int64} {G : Nat → Nat → Int32} (hA : ok_A w G) (hR0 : md_R w G S) : ct_M l D w zy_M_bound (Cond.code zy_M_bound zb_M_bound 4 (Option.some Jvm.ClassFile.FieldType.int)) ({ frames := 4, cells := 0, slots := 0, locals := 96 } : Room) [av_r 400] S L (po_M w 0 (fa_bd G w.2.2.1 w.2.2.2 w.2.2.1 0 0) G S L) 0 0 := by
  have h12 := hA.1.1
  have h13 := hA.1.2.1
  have hs := sm_refl S
  refine ct_intro hls (own := zn_M) (by decide) rfl (Nat.le_of_ble_eq_true rfl) ?_
  refine jd_aload_n zd_M_bound_0 rfl ?_
  refine jd_iconst (v := 0) zd_M_bound_1 (by decide) ?_
  refine jd_put rfl rfl zl_M zp_M zm_M 0 (by decide) zi_680 rfl rfl rfl rfl rfl (Nat.le_of_ble_eq_true rfl) rfl (rl_m (by decide)) (by decide) zd_M_bound_2 ?_
  have hs := hs.fld (k := 0) (Or.inl rfl) (0 : Int32)
  have hc := cd_at hs
  have hR := md_sm hs hR0
  refine jd_aload_n zd_M_bound_5 rfl ?_
  refine jd_callV (n := 0) (kc_collect hls hA hR) rfl rfl rfl (rl_m (by decide)) (by decide) zi_811 zi_813 zi_28 zi_44 zi_814 (by decide +kernel) rfl rfl rfl (by decide) (Nat.le_of_ble_eq_true rfl) (by decide) zd_M_bound_6 (fun _ _ _ h => h.elim) (fun v T2 L2 hq => ?_)
  obtain ⟨rfl, rfl, hI⟩ := hq
  refine jd_iconst (v := 0) zd_M_bound_9 (by decide) ?_
  refine jd_istore_n zd_M_bound_10 (by decide) ?_
  refine jd_iconst (v := 0) zd_M_bound_11 (by decide) ?_
  refine jd_istore_n zd_M_bound_12 (by decide) ?_
  exact jd_sub [(0, av_r 400), (1, av_i 0), (2, av_i (nI 0))] ⟨rfl, rfl, rfl, trivial⟩ (kl_Mbound (Qp := po_M w 0 (fa_bd G w.2.2.1 w.2.2.2 w.2.2.1 0 0) G S L2) hls hA hR hI (w.2.2.1 + 1) 0 (by omega) (by have := fa_cN_le G w.2.2.1; omega) 0 ⟨_, rfl, fun _ => (bd_fm w.2.2.1 0 0 (by omega)).symm, hI.2.1.trans hc, md_sm hI.1 hR, sm_fr (hs.tr hI.1), sm_reflL _⟩)
set_option maxRecDepth 100000 in
set_option maxHeartbeats 4000000 in
theorem kl_MoneByOne {l : Launch} (hls : l.stackTraces = false) {D : va_G} {w : wd_T} {S : Nat → Nat → Int32} {L : Nat → Nat → Int64} {G : Nat → Nat → Int32} (hA : ok_A w G) (hR0 : md_R w G S)  {Qp : jd_P} (hQ : ∀ T, cl_I w G S T w.2.2.1 → (∀ r, r < (fa_cN G w.2.2.1) → T 423 r = fm_gv G w.2.2.1 w.2.2.2 r) → Qp.1 none T L) : ∀ (k r : Nat), r ≤ (fa_cN G w.2.2.1) → (fa_cN G w.2.2.1) < r + k → ∀ T, cl_I w G S T w.2.2.1 → (∀ i, i < r → T 423 i = fm_gv G w.2.2.1 w.2.2.2 i) → jd_J l D w zn_M zb_M_oneByOne 3 (Option.none : Option Jvm.ClassFile.FieldType) [] ({ frames := 4, cells := 0, slots := 0, locals := 96 } : Room) 0 0 Qp 0 0 4 [(0, av_r 400), (1, av_i (fm_o1 G w.2.2.1 w.2.2.2 r)), (2, av_i (nI r))] [] T L := by
  have h12 := hA.1.1
  have h13 := hA.1.2.1
  have hcle := fa_cN_le G w.2.2.1
  intro k
  induction k with
  | zero => intro r h1 h2; omega
  | succ k ih =>
    intro r hu hk T hI hgv
    refine jd_iload_n zd_M_oneByOne_4 rfl ?_
    refine jd_aload_n zd_M_oneByOne_5 rfl ?_
    refine jd_get rfl rfl zl_M 20 (by decide) zi_700 rfl rfl (rl_m (by decide)) (by decide) zd_M_oneByOne_6 ?_
    rw [hI.2.2.1]
    refine jd_icmp_ge 56 zd_M_oneByOne_9 (by decide) (fun h_9 => ?_) (fun h_9 => ?_)
    · have e_u := nI_end rfl (by omega) hu h_9
      subst e_u
      exact jd_vret rfl (hQ T hI hgv) (by decide) (by decide) zd_M_oneByOne_56
    · have hu2 := nI_on rfl (by omega) hu h_9
      obtain ⟨hle, hlg, hlc⟩ := fa_le_in w.2.2.1 hu2
      have hR := md_sm hI.1 hR0
      refine jd_aload_n zd_M_oneByOne_12 rfl ?_
      refine jd_get rfl rfl zl_M 22 (by decide) zi_702 rfl rfl (rl_m (by decide)) (by decide) zd_M_oneByOne_13 ?_
      refine jd_iload_n zd_M_oneByOne_16 rfl ?_
      refine jd_aload_n zd_M_oneByOne_17 rfl ?_
      refine jd_aload_n zd_M_oneByOne_18 rfl ?_
      refine jd_get rfl rfl zl_M 21 (by decide) zi_701 rfl rfl (rl_m (by decide)) (by decide) zd_M_oneByOne_19 ?_
      refine jd_iload_n zd_M_oneByOne_22 rfl ?_
      refine jd_ildN (r := 422) (c := r) rfl rfl (by omega) (n := 12) (by decide) (rl_m (by decide)) (by decide) zd_M_oneByOne_23 ?_
      rw [hI.2.2.2.1 r hu2]
      refine jd_iload_n zd_M_oneByOne_24 rfl ?_
      refine jd_callV (n := 2) (kc_Mcheapest hls hA hR hle hlg _) rfl rfl rfl (rl_m (by decide)) (by decide) zi_848 zi_850 zi_37 zi_44 zi_851 (by decide +kernel) rfl rfl rfl (by decide) (Nat.le_of_ble_eq_true rfl) (by decide) zd_M_oneByOne_25 (fun _ _ _ h => h.elim) (fun v S2 L2 hq => ?_)
      obtain ⟨rfl, rfl, rfl⟩ := hq
      refine jd_istN (r := 423) (c := r) (fun _ => rfl) rfl (by omega) (n := 12) (by decide) (rl_m (by decide)) (by decide) zd_M_oneByOne_28 ?_
      have hI2 := cl_up hI (upd (T 423) r (fa_ch G (fa_ga G (nI (fa_le G w.2.2.1 r)) w.2.2.1) (fa_le G w.2.2.1 r) (fm_o1 G w.2.2.1 w.2.2.2 r) w.2.2.2).1)
      refine jd_aload_n zd_M_oneByOne_29 rfl ?_
      refine jd_get rfl rfl zl_M 22 (by decide) zi_702 rfl rfl (rl_m (by decide)) (by decide) zd_M_oneByOne_30 ?_
      refine jd_iload_n zd_M_oneByOne_33 rfl ?_
      refine jd_ildN (r := 423) (c := r) rfl rfl (by omega) (n := 12) (by decide) (rl_m (by decide)) (by decide) zd_M_oneByOne_34 ?_
      rw [va_up_self, pk_us]
      refine jd_iconst (v := (-1)) zd_M_oneByOne_35 (by decide) ?_
      refine jd_icmp_eq 50 zd_M_oneByOne_36 (by decide) (fun h_36 => ?_) (fun h_36 => ?_)
      · refine jd_iinc (v := nI (r + 1)) zd_M_oneByOne_50 rfl (nI_inc r) (by decide) ?_
        refine jd_goto 4 zd_M_oneByOne_53 (by decide) ?_
        exact jd_sub [(0, av_r 400), (1, av_i (fm_o1 G w.2.2.1 w.2.2.2 (r + 1))), (2, av_i (nI (r + 1)))] ⟨rfl, by simp only [fm_o1]; rw [if_pos h_36]; rfl, rfl, trivial⟩ (ih (r + 1) (by omega) (by omega) _ hI2 (us_up (P := fun i x => x = fm_gv G w.2.2.1 w.2.2.2 i) hgv rfl))
      · refine jd_iload_n zd_M_oneByOne_39 rfl ?_
        refine jd_iconst (v := 1) zd_M_oneByOne_40 (by decide) ?_
        refine jd_aload_n zd_M_oneByOne_41 rfl ?_
        refine jd_get rfl rfl zl_M 22 (by decide) zi_702 rfl rfl (rl_m (by decide)) (by decide) zd_M_oneByOne_42 ?_
        refine jd_iload_n zd_M_oneByOne_45 rfl ?_
        refine jd_ildN (r := 423) (c := r) rfl rfl (by omega) (n := 12) (by decide) (rl_m (by decide)) (by decide) zd_M_oneByOne_46 ?_
        rw [va_up_self, pk_us]
        refine jd_ishl zd_M_oneByOne_47 ?_
        refine jd_ior zd_M_oneByOne_48 ?_
        refine jd_istore_n zd_M_oneByOne_49 (by decide) ?_
        refine jd_iinc (v := nI (r + 1)) zd_M_oneByOne_50 rfl (nI_inc r) (by decide) ?_
        refine jd_goto 4 zd_M_oneByOne_53 (by decide) ?_
        exact jd_sub [(0, av_r 400), (1, av_i (fm_o1 G w.2.2.1 w.2.2.2 (r + 1))), (2, av_i (nI (r + 1)))] ⟨rfl, by simp only [fm_o1]; rw [if_neg h_36]; rfl, rfl, trivial⟩ (ih (r + 1) (by omega) (by omega) _ hI2 (us_up (P := fun i x => x = fm_gv G w.2.2.1 w.2.2.2 i) hgv rfl))
def po_gI (w : wd_T) (G S : Nat → Nat → Int32) (L : Nat → Nat → Int64) (gv : Nat → Int32) : jd_P := (fun v' S' L' => v' = none ∧ sm_L L L' ∧ cl_I w G S S' w.2.2.1 ∧ ∀ r, r < fa_cN G w.2.2.1 → S' 423 r = gv r, fun _ _ _ => False)
set_option maxRecDepth 100000 in
set_option maxHeartbeats 4000000 in
theorem kc_MoneByOne {l : Launch} (hls : l.stackTraces = false) {D : va_G} {w : wd_T} {S : Nat → Nat → Int32} {L : Nat → Nat → Int64} {G : Nat → Nat → Int32} (hA : ok_A w G) (hR0 : md_R w G S) {T : Nat → Nat → Int32} (hI : cl_I w G S T w.2.2.1) : ct_M l D w zy_M_oneByOne (Cond.code zy_M_oneByOne zb_M_oneByOne 3 (Option.none : Option Jvm.ClassFile.FieldType)) ({ frames := 4, cells := 0, slots := 0, locals := 96 } : Room) [av_r 400] T L (po_gI w G S L (fm_gv G w.2.2.1 w.2.2.2)) 0 0 := by
  have h12 := hA.1.1
  have h13 := hA.1.2.1
  refine ct_intro hls (own := zn_M) (by decide) rfl (Nat.le_of_ble_eq_true rfl) ?_
  refine jd_iconst (v := 0) zd_M_oneByOne_0 (by decide) ?_
  refine jd_istore_n zd_M_oneByOne_1 (by decide) ?_
  refine jd_iconst (v := 0) zd_M_oneByOne_2 (by decide) ?_
  refine jd_istore_n zd_M_oneByOne_3 (by decide) ?_
  exact jd_sub [(0, av_r 400), (1, av_i 0), (2, av_i (nI 0))] ⟨rfl, rfl, rfl, trivial⟩ (kl_MoneByOne (Qp := po_gI w G S L (fm_gv G w.2.2.1 w.2.2.2)) hls hA hR0 (fun T hI hgv => ⟨rfl, sm_reflL _, hI, hgv⟩) (w.2.2.1 + 1) 0 (by omega) (by have := fa_cN_le G w.2.2.1; omega) _ hI (fun i hi => by omega))
