/-! THE MODEL: assign (rows by wip/whole/gen/m8.py) -/
set_option maxRecDepth 100000 in
set_option maxHeartbeats 4000000 in
theorem kl_Masg1 {l : Launch} (hls : l.stackTraces = false) {D : va_G} {w : wd_T} {S : Nat → Nat → Int32} {L : Nat → Nat → Int64} {G : Nat → Nat → Int32} (hA : ok_A w G) (hR0 : md_R w G S) {T : Nat → Nat → Int32} (hI : cl_I w G S T w.2.2.1) {gv : Nat → Int32} (hin : ∀ r, r < (fa_cN G w.2.2.1) → gv r = -1 ∨ ∃ p, p < w.2.2.2 ∧ gv r = nI p) (hgv : ∀ r, r < (fa_cN G w.2.2.1) → T 423 r = gv r) {x b : Int32} {Qp : jd_P} (hnext : jd_J l D w zn_M zb_M_assign 6 (Option.some Jvm.ClassFile.FieldType.int) [] ({ frames := 5, cells := 0, slots := 0, locals := 118 } : Room) 0 0 Qp 0 0 114 [(0, av_r 400), (1, av_i x), (2, av_i b), (3, av_i (fm_sm G w.2.2.1 gv (fa_cN G w.2.2.1)))] [] T L) : ∀ (k r : Nat), r ≤ (fa_cN G w.2.2.1) → (fa_cN G w.2.2.1) < r + k → jd_J l D w zn_M zb_M_assign 6 (Option.some Jvm.ClassFile.FieldType.int) [] ({ frames := 5, cells := 0, slots := 0, locals := 118 } : Room) 0 0 Qp 0 0 63 [(0, av_r 400), (1, av_i x), (2, av_i b), (3, av_i (fm_sm G w.2.2.1 gv r)), (4, av_i (nI r))] [] T L := by
  have h12 := hA.1.1
  have h13 := hA.1.2.1
  have hcle := fa_cN_le G w.2.2.1
  intro k
  induction k with
  | zero => intro r h1 h2; omega
  | succ k ih =>
    intro r hu hk
    refine jd_iload zd_M_assign_63 rfl ?_
    refine jd_aload_n zd_M_assign_65 rfl ?_
    refine jd_get rfl rfl zl_M 20 (by decide) zi_700 rfl rfl (rl_m (by decide)) (by decide) zd_M_assign_66 ?_
    rw [hI.2.2.1]
    refine jd_icmp_ge 114 zd_M_assign_69 (by decide) (fun h_69 => ?_) (fun h_69 => ?_)
    · have e_u := nI_end rfl (by omega) hu h_69
      subst e_u
      exact jd_sub [(0, av_r 400), (1, av_i x), (2, av_i b), (3, av_i (fm_sm G w.2.2.1 gv (fa_cN G w.2.2.1)))] ⟨rfl, rfl, rfl, rfl, trivial⟩ hnext
    · have hu2 := nI_on rfl (by omega) hu h_69
      obtain ⟨hle, hlg, hlc⟩ := fa_le_in w.2.2.1 hu2
      refine jd_iload_n zd_M_assign_72 rfl ?_
      refine jd_aload_n zd_M_assign_73 rfl ?_
      refine jd_get rfl rfl zl_M 22 (by decide) zi_702 rfl rfl (rl_m (by decide)) (by decide) zd_M_assign_74 ?_
      refine jd_iload zd_M_assign_77 rfl ?_
      refine jd_ildN (r := 423) (c := r) rfl rfl (by omega) (n := 12) (by decide) (rl_m (by decide)) (by decide) zd_M_assign_79 ?_
      rw [hgv r hu2]
      refine jd_iconst (v := (-1)) zd_M_assign_80 (by decide) ?_
      refine jd_icmp_ne 88 zd_M_assign_81 (by decide) (fun h_81 => ?_) (fun h_81 => ?_)
      · obtain ⟨p, hp, ep⟩ : ∃ p, p < w.2.2.2 ∧ gv r = nI p := (hin r hu2).resolve_left h_81
        refine jd_aload_n zd_M_assign_88 rfl ?_
        refine jd_aload_n zd_M_assign_89 rfl ?_
        refine jd_get rfl rfl zl_M 21 (by decide) zi_701 rfl rfl (rl_m (by decide)) (by decide) zd_M_assign_90 ?_
        refine jd_iload zd_M_assign_93 rfl ?_
        refine jd_ildN (r := 422) (c := r) rfl rfl (by omega) (n := 12) (by decide) (rl_m (by decide)) (by decide) zd_M_assign_95 ?_
        rw [hI.2.2.2.1 r hu2]
        refine jd_aload_n zd_M_assign_96 rfl ?_
        refine jd_get rfl rfl zl_M 22 (by decide) zi_702 rfl rfl (rl_m (by decide)) (by decide) zd_M_assign_97 ?_
        refine jd_iload zd_M_assign_100 rfl ?_
        refine jd_ildN (r := 423) (c := r) rfl rfl (by omega) (n := 12) (by decide) (rl_m (by decide)) (by decide) zd_M_assign_102 ?_
        rw [hgv r hu2, ep]
        refine jd_callV (n := 2) (kc_costOf hls hA (md_sm hI.1 hR0) hle hlg hp) rfl rfl rfl (rl_m (by decide)) (by decide) zi_831 zi_833 zi_33 zi_44 zi_834 (by decide +kernel) rfl rfl rfl (by decide) (Nat.le_of_ble_eq_true rfl) (by decide) zd_M_assign_103 (fun _ _ _ h => h.elim) (fun v S2 L2 hq => ?_)
        obtain ⟨rfl, rfl, rfl⟩ := hq
        refine jd_iadd zd_M_assign_106 ?_
        refine jd_istore_n zd_M_assign_107 (by decide) ?_
        refine jd_iinc (v := nI (r + 1)) zd_M_assign_108 rfl (nI_inc r) (by decide) ?_
        refine jd_goto 63 zd_M_assign_111 (by decide) ?_
        exact jd_sub [(0, av_r 400), (1, av_i x), (2, av_i b), (3, av_i (fm_sm G w.2.2.1 gv (r + 1))), (4, av_i (nI (r + 1)))] ⟨rfl, rfl, rfl, by simp only [fm_sm]; rw [if_neg (show ¬ gv r = -1 from h_81), ep, nI_clamp (show p < 2 ^ 31 by omega)]; rfl, rfl, trivial⟩ (ih (r + 1) (by omega) (by omega))
      · refine jd_iconst (v := 0) zd_M_assign_84 (by decide) ?_
        refine jd_goto 106 zd_M_assign_85 (by decide) ?_
        refine jd_iadd zd_M_assign_106 ?_
        refine jd_istore_n zd_M_assign_107 (by decide) ?_
        refine jd_iinc (v := nI (r + 1)) zd_M_assign_108 rfl (nI_inc r) (by decide) ?_
        refine jd_goto 63 zd_M_assign_111 (by decide) ?_
        exact jd_sub [(0, av_r 400), (1, av_i x), (2, av_i b), (3, av_i (fm_sm G w.2.2.1 gv (r + 1))), (4, av_i (nI (r + 1)))] ⟨rfl, rfl, rfl, by simp only [fm_sm]; rw [if_pos h_81, Int32.add_zero]; rfl, rfl, trivial⟩ (ih (r + 1) (by omega) (by omega))
set_option maxRecDepth 100000 in
set_option maxHeartbeats 4000000 in
theorem kl_Masg2 {l : Launch} (hls : l.stackTraces = false) {D : va_G} {w : wd_T} {S : Nat → Nat → Int32} {L : Nat → Nat → Int64} {G : Nat → Nat → Int32} (hA : ok_A w G) {B : Nat → Nat → Int32} (hB1 : B 400 1 = nI w.2.2.1) (hB20 : B 400 20 = nI (fa_cN G w.2.2.1)) (hB5 : ∀ v, v < w.2.2.1 → B 405 v = G (100 + v) 2) (hB22 : ∀ r, r < (fa_cN G w.2.2.1) → B 422 r = nI (fa_le G w.2.2.1 r)) {gv : Nat → Int32} (hB23 : ∀ r, r < (fa_cN G w.2.2.1) → B 423 r = gv r) {y : Int32} {r : Nat} (hr : r < (fa_cN G w.2.2.1)) {Qp : jd_P} (hnext : ∀ T, as_w w.2.2.1 G B T gv r w.2.2.1 → jd_J l D w zn_M zb_M_assign 6 (Option.some Jvm.ClassFile.FieldType.int) [] ({ frames := 5, cells := 0, slots := 0, locals := 118 } : Room) 0 0 Qp 0 0 187 [(0, av_r 400), (3, av_i y), (4, av_i (nI r))] [] T L) : ∀ (k v : Nat), v ≤ w.2.2.1 → w.2.2.1 < v + k → ∀ T, as_w w.2.2.1 G B T gv r v → jd_J l D w zn_M zb_M_assign 6 (Option.some Jvm.ClassFile.FieldType.int) [] ({ frames := 5, cells := 0, slots := 0, locals := 118 } : Room) 0 0 Qp 0 0 141 [(0, av_r 400), (3, av_i y), (4, av_i (nI r)), (5, av_i (nI v))] [] T L := by
  have h12 := hA.1.1
  have h13 := hA.1.2.1
  have hcle := fa_cN_le G w.2.2.1
  intro k
  induction k with
  | zero => intro v h1 h2; omega
  | succ k ih =>
    intro v hu hk T hW
    refine jd_iload zd_M_assign_141 rfl ?_
    refine jd_aload_n zd_M_assign_143 rfl ?_
    refine jd_get rfl rfl zl_M 1 (by decide) zi_681 rfl rfl (rl_m (by decide)) (by decide) zd_M_assign_144 ?_
    rw [hW.1 400 (by decide), hB1]
    refine jd_icmp_ge 187 zd_M_assign_147 (by decide) (fun h_147 => ?_) (fun h_147 => ?_)
    · have e_u := nI_end rfl (by omega) hu h_147
      subst e_u
      exact jd_sub [(0, av_r 400), (3, av_i y), (4, av_i (nI r))] ⟨rfl, rfl, rfl, trivial⟩ (hnext T hW)
    · have hu2 := nI_on rfl (by omega) hu h_147
      refine jd_aload_n zd_M_assign_150 rfl ?_
      refine jd_get rfl rfl zl_M 4 (by decide) zi_684 rfl rfl (rl_m (by decide)) (by decide) zd_M_assign_151 ?_
      refine jd_iload zd_M_assign_154 rfl ?_
      refine jd_ildN (r := 405) (c := v) rfl rfl (by omega) (n := 12) (by decide) (rl_m (by decide)) (by decide) zd_M_assign_156 ?_
      rw [hW.1 405 (by decide), hB5 v hu2]
      refine jd_aload_n zd_M_assign_157 rfl ?_
      refine jd_get rfl rfl zl_M 21 (by decide) zi_701 rfl rfl (rl_m (by decide)) (by decide) zd_M_assign_158 ?_
      refine jd_iload zd_M_assign_161 rfl ?_
      refine jd_ildN (r := 422) (c := r) rfl rfl (by omega) (n := 12) (by decide) (rl_m (by decide)) (by decide) zd_M_assign_163 ?_
      rw [hW.1 422 (by decide), hB22 r hr]
      refine jd_icmp_ne 181 zd_M_assign_164 (by decide) (fun h_164 => ?_) (fun h_164 => ?_)
      · refine jd_iinc (v := nI (v + 1)) zd_M_assign_181 rfl (nI_inc v) (by decide) ?_
        refine jd_goto 141 zd_M_assign_184 (by decide) ?_
        exact jd_sub [(0, av_r 400), (3, av_i y), (4, av_i (nI r)), (5, av_i (nI (v + 1)))] ⟨rfl, rfl, rfl, rfl, trivial⟩ (ih (v + 1) (by omega) (by omega) _ (as_wN hW (fun z => h_164 ((as_in hA hu2 hr).mpr z))))
      · refine jd_aload_n zd_M_assign_167 rfl ?_
        refine jd_get rfl rfl zl_M 6 (by decide) zi_686 rfl rfl (rl_m (by decide)) (by decide) zd_M_assign_168 ?_
        refine jd_iload zd_M_assign_171 rfl ?_
        refine jd_aload_n zd_M_assign_173 rfl ?_
        refine jd_get rfl rfl zl_M 22 (by decide) zi_702 rfl rfl (rl_m (by decide)) (by decide) zd_M_assign_174 ?_
        refine jd_iload zd_M_assign_177 rfl ?_
        refine jd_ildN (r := 423) (c := r) rfl rfl (by omega) (n := 12) (by decide) (rl_m (by decide)) (by decide) zd_M_assign_179 ?_
        rw [hW.1 423 (by decide), hB23 r hr]
        refine jd_istN (r := 407) (c := v) (fun _ => rfl) rfl (by omega) (n := 12) (by decide) (rl_m (by decide)) (by decide) zd_M_assign_180 ?_
        refine jd_iinc (v := nI (v + 1)) zd_M_assign_181 rfl (nI_inc v) (by decide) ?_
        refine jd_goto 141 zd_M_assign_184 (by decide) ?_
        exact jd_sub [(0, av_r 400), (3, av_i y), (4, av_i (nI r)), (5, av_i (nI (v + 1)))] ⟨rfl, rfl, rfl, rfl, trivial⟩ (ih (v + 1) (by omega) (by omega) _ (as_wY hW hu2 ((as_in hA hu2 hr).mp h_164).1 ((as_in hA hu2 hr).mp h_164).2))
set_option maxRecDepth 100000 in
set_option maxHeartbeats 4000000 in
theorem kl_Masg3 {l : Launch} (hls : l.stackTraces = false) {D : va_G} {w : wd_T} {S : Nat → Nat → Int32} {L : Nat → Nat → Int64} {G : Nat → Nat → Int32} (hA : ok_A w G) {B : Nat → Nat → Int32} (hB1 : B 400 1 = nI w.2.2.1) (hB20 : B 400 20 = nI (fa_cN G w.2.2.1)) (hB5 : ∀ v, v < w.2.2.1 → B 405 v = G (100 + v) 2) (hB22 : ∀ r, r < (fa_cN G w.2.2.1) → B 422 r = nI (fa_le G w.2.2.1 r)) {gv : Nat → Int32} (hB23 : ∀ r, r < (fa_cN G w.2.2.1) → B 423 r = gv r) {y : Int32} {Qp : jd_P} (hQ : ∀ T, as_w w.2.2.1 G B T gv (fa_cN G w.2.2.1) 0 → Qp.1 (some (av_i y)) T L) : ∀ (k r : Nat), r ≤ (fa_cN G w.2.2.1) → (fa_cN G w.2.2.1) < r + k → ∀ T, as_w w.2.2.1 G B T gv r 0 → jd_J l D w zn_M zb_M_assign 6 (Option.some Jvm.ClassFile.FieldType.int) [] ({ frames := 5, cells := 0, slots := 0, locals := 118 } : Room) 0 0 Qp 0 0 129 [(0, av_r 400), (3, av_i y), (4, av_i (nI r))] [] T L := by
  have h12 := hA.1.1
  have h13 := hA.1.2.1
  have hcle := fa_cN_le G w.2.2.1
  intro k
  induction k with
  | zero => intro r h1 h2; omega
  | succ k ih =>
    intro r hu hk T hW
    refine jd_iload zd_M_assign_129 rfl ?_
    refine jd_aload_n zd_M_assign_131 rfl ?_
    refine jd_get rfl rfl zl_M 20 (by decide) zi_700 rfl rfl (rl_m (by decide)) (by decide) zd_M_assign_132 ?_
    rw [hW.1 400 (by decide), hB20]
    refine jd_icmp_ge 193 zd_M_assign_135 (by decide) (fun h_135 => ?_) (fun h_135 => ?_)
    · have e_u := nI_end rfl (by omega) hu h_135
      subst e_u
      refine jd_iload_n zd_M_assign_193 rfl ?_
      exact jd_iret rfl (hQ T hW) (by decide) (by decide) zd_M_assign_194
    · have hu2 := nI_on rfl (by omega) hu h_135
      refine jd_iconst (v := 0) zd_M_assign_138 (by decide) ?_
      refine jd_istore zd_M_assign_139 (by decide) ?_
      refine jd_sub [(0, av_r 400), (3, av_i y), (4, av_i (nI r)), (5, av_i (nI 0))] ⟨rfl, rfl, rfl, rfl, trivial⟩ (kl_Masg2 (S := S) hls hA hB1 hB20 hB5 hB22 hB23 hu2 (fun T hW => ?_) (w.2.2.1 + 1) 0 (by omega) (by omega) _ hW)
      refine jd_iinc (v := nI (r + 1)) zd_M_assign_187 rfl (nI_inc r) (by decide) ?_
      refine jd_goto 129 zd_M_assign_190 (by decide) ?_
      exact jd_sub [(0, av_r 400), (3, av_i y), (4, av_i (nI (r + 1)))] ⟨rfl, rfl, rfl, trivial⟩ (ih (r + 1) (by omega) (by omega) _ (as_wS hW))
set_option maxRecDepth 100000 in
set_option maxHeartbeats 4000000 in
theorem kl_Masg4 {l : Launch} (hls : l.stackTraces = false) {D : va_G} {w : wd_T} {S : Nat → Nat → Int32} {L : Nat → Nat → Int64} {G : Nat → Nat → Int32} (hA : ok_A w G) (hR0 : md_R w G S) {S0 : Nat → Nat → Int32} {L0 : Nat → Nat → Int64} (hc0 : S 400 0 = 0) (hfr : fr_M S0 S) (hM : sm_L L0 L) {T : Nat → Nat → Int32} (hI : cl_I w G S T w.2.2.1) {gv : Nat → Int32} (hin : ∀ r, r < (fa_cN G w.2.2.1) → gv r = -1 ∨ ∃ p, p < w.2.2.2 ∧ gv r = nI p) (hgv : ∀ r, r < (fa_cN G w.2.2.1) → T 423 r = gv r) {x b v : Int32} (hb : b = 0 ∨ b = 1) {d : Nat → Int32} (hd : ∀ u, u < w.2.2.1 → fa_gr G u = true → d u = gv (fa_cN G u)) {N : Nat → Nat → Int32} (hend : (¬ fa_sm G w.2.2.1 d w.2.2.1 ≤ x ∧ v = -1 ∧ N = G) ∨ (fa_sm G w.2.2.1 d w.2.2.1 ≤ x ∧ v = fa_sm G w.2.2.1 d w.2.2.1 ∧ N = va_up (fa_as G w.2.2.1 d) 0 (upd (G 0) 10 b))) : jd_J l D w zn_M zb_M_assign 6 (Option.some Jvm.ClassFile.FieldType.int) [] ({ frames := 5, cells := 0, slots := 0, locals := 118 } : Room) 0 0 (po_M w 0 v N S0 L0) 0 0 58 [(0, av_r 400), (1, av_i x), (2, av_i b)] [] T L := by
  have h12 := hA.1.1
  have h13 := hA.1.2.1
  have hcle := fa_cN_le G w.2.2.1
  have hR := md_sm hI.1 hR0
  refine jd_iconst (v := 0) zd_M_assign_58 (by decide) ?_
  refine jd_istore_n zd_M_assign_59 (by decide) ?_
  refine jd_iconst (v := 0) zd_M_assign_60 (by decide) ?_
  refine jd_istore zd_M_assign_61 (by decide) ?_
  refine jd_sub [(0, av_r 400), (1, av_i x), (2, av_i b), (3, av_i 0), (4, av_i (nI 0))] ⟨rfl, rfl, rfl, rfl, rfl, trivial⟩ (kl_Masg1 hls hA hR0 hI hin hgv ?_ (w.2.2.1 + 1) 0 (by omega) (by omega))
  rw [sm_fm hd _ (Nat.le_refl _)] at hend
  refine jd_iload_n zd_M_assign_114 rfl ?_
  refine jd_iload_n zd_M_assign_115 rfl ?_
  refine jd_icmp_le 121 zd_M_assign_116 (by decide) (fun h_116 => ?_) (fun h_116 => ?_)
  · rcases hend with ⟨h9, -⟩ | ⟨-, rfl, rfl⟩
    · exact absurd h_116 h9
    refine jd_aload_n zd_M_assign_121 rfl ?_
    refine jd_iload_n zd_M_assign_122 rfl ?_
    refine jd_put rfl rfl zl_M zp_M zm_M 19 (by decide) zi_699 rfl rfl rfl (by rcases hb with q | q <;> subst q <;> first | rfl | decide) (by rcases hb with q | q <;> subst q <;> first | rfl | decide) (Nat.le_of_ble_eq_true rfl) rfl (rl_m (by decide)) (by decide) zd_M_assign_123 ?_
    refine jd_iconst (v := 0) zd_M_assign_126 (by decide) ?_
    refine jd_istore zd_M_assign_127 (by decide) ?_
    exact jd_sub [(0, av_r 400), (3, av_i (fm_sm G w.2.2.1 gv (fa_cN G w.2.2.1))), (4, av_i (nI 0))] ⟨rfl, rfl, rfl, trivial⟩ (kl_Masg3 (S := S) (Qp := po_M w 0 (fm_sm G w.2.2.1 gv (fa_cN G w.2.2.1)) (va_up (fa_as G w.2.2.1 d) 0 (upd (G 0) 10 b)) S0 L0) (B := (va_up T 400 (upd (T 400) 19 b))) hls hA (by rw [va_up_self, pk_un (by decide)]; exact hR.1.1) (by rw [va_up_self, pk_un (by decide)]; exact hI.2.2.1) (fun v hv => by rw [va_up_ne _ _ (by decide)]; exact mr_405 hR hv) (fun r hr => by rw [va_up_ne _ _ (by decide)]; exact hI.2.2.2.1 r hr) (fun r hr => by rw [va_up_ne _ _ (by decide)]; exact hgv r hr) (fun T2 hW => ⟨_, rfl, fun _ => rfl, by rw [hW.1 400 (by decide), va_up_self, pk_un (by decide)]; exact hI.2.1.trans hc0, as_md hA hR hd hW, (hfr.tr ((sm_fr hI.1).up (by decide) (by decide) _)).tr (fun r hr => hW.1 r (by omega)), hM⟩) (w.2.2.1 + 1) 0 (by omega) (by omega) _ as_w0)
  · rcases hend with ⟨-, rfl, rfl⟩ | ⟨h9, -⟩
    rotate_left
    · exact absurd h9 h_116
    refine jd_iconst (v := (-1)) zd_M_assign_119 (by decide) ?_
    exact jd_iret rfl ⟨_, rfl, fun _ => rfl, hI.2.1.trans hc0, md_sm hI.1 hR0, hfr.tr (sm_fr hI.1), hM⟩ (by decide) (by decide) zd_M_assign_120
set_option maxRecDepth 100000 in
set_option maxHeartbeats 4000000 in
theorem kc_Massign {l : Launch} (hls : l.stackTraces = false) {D : va_G} {w : wd_T} {S : Nat → Nat → Int32} {L : Nat → Nat → Int64} {G : Nat → Nat → Int32} (hA : ok_A w G) (hR0 : md_R w G S) {x : Int32} {c v : Int32} {N : Nat → Nat → Int32} (hO : ou_assign w G x c v N) : ct_M l D w zy_M_assign (Cond.code zy_M_assign zb_M_assign 6 (Option.some Jvm.ClassFile.FieldType.int)) ({ frames := 5, cells := 0, slots := 0, locals := 118 } : Room) [av_r 400, av_i x] S L (po_M w c v N S L) 0 0 := by
  have h12 := hA.1.1
  have h13 := hA.1.2.1
  have hs := sm_refl S
  have hR := hR0
  have hcle := fa_cN_le G w.2.2.1
  obtain ⟨e8, he8, h8⟩ := hA.2.2.2.2.2.2.1
  rcases hO with ⟨h_x, rfl, hN⟩ | ⟨h_x, rfl, b, d, ⟨h_8, rfl, f, hmin, hdd⟩ | ⟨h_8, rfl, hdd⟩, hend⟩
  · rw [hN]
    refine ct_intro hls (own := zn_M) (by decide) rfl (Nat.le_of_ble_eq_true rfl) ?_
    refine jd_aload_n zd_M_assign_0 rfl ?_
    refine jd_iload_n zd_M_assign_1 rfl ?_
    refine jd_if_ge 9 zd_M_assign_2 (by decide) (fun h => absurd h h_x) (fun _ => ?_)
    refine jd_iconst (v := 1) zd_M_assign_5 (by decide) ?_
    refine jd_goto 10 zd_M_assign_6 (by decide) ?_
    refine jd_put rfl rfl zl_M zp_M zm_M 0 (by decide) zi_680 rfl rfl rfl rfl rfl (Nat.le_of_ble_eq_true rfl) rfl (rl_m (by decide)) (by decide) zd_M_assign_10 ?_
    have hs := hs.fld (k := 0) (Or.inl rfl) (1 : Int32)
    have hc := cd_at hs
    have hR := md_sm hs hR0
    refine jd_aload_n zd_M_assign_13 rfl ?_
    refine jd_get rfl rfl zl_M 0 (by decide) zi_680 rfl rfl (rl_m (by decide)) (by decide) zd_M_assign_14 ?_
    rw [hc]
    refine jd_if_le 22 zd_M_assign_17 (by decide) (fun h => absurd h (by decide)) (fun _ => ?_)
    refine jd_iconst (v := 0) zd_M_assign_20 (by decide) ?_
    exact jd_iret rfl ⟨_, rfl, fun h => absurd h (by decide), hc, hR, sm_fr hs, sm_reflL _⟩ (by decide) (by decide) zd_M_assign_21
  · have hn8 : (fa_cN G w.2.2.1) ≤ 8 := by rw [fa_cnt_cN, h8, nI_ltI (by omega) (by omega)] at h_8; omega
    refine ct_intro hls (own := zn_M) (by decide) rfl (Nat.le_of_ble_eq_true rfl) ?_
    refine jd_aload_n zd_M_assign_0 rfl ?_
    refine jd_iload_n zd_M_assign_1 rfl ?_
    refine jd_if_ge 9 zd_M_assign_2 (by decide) (fun _ => ?_) (fun h => absurd h_x h)
    refine jd_iconst (v := 0) zd_M_assign_9 (by decide) ?_
    refine jd_put rfl rfl zl_M zp_M zm_M 0 (by decide) zi_680 rfl rfl rfl rfl rfl (Nat.le_of_ble_eq_true rfl) rfl (rl_m (by decide)) (by decide) zd_M_assign_10 ?_
    have hs := hs.fld (k := 0) (Or.inl rfl) (0 : Int32)
    have hc := cd_at hs
    have hR := md_sm hs hR0
    refine jd_aload_n zd_M_assign_13 rfl ?_
    refine jd_get rfl rfl zl_M 0 (by decide) zi_680 rfl rfl (rl_m (by decide)) (by decide) zd_M_assign_14 ?_
    rw [hc]
    refine jd_if_le 22 zd_M_assign_17 (by decide) (fun _ => ?_) (fun h => absurd h (by decide))
    refine jd_aload_n zd_M_assign_22 rfl ?_
    refine jd_callV (n := 0) (kc_collect hls hA hR) rfl rfl rfl (rl_m (by decide)) (by decide) zi_811 zi_813 zi_28 zi_44 zi_814 (by decide +kernel) rfl rfl rfl (by decide) (Nat.le_of_ble_eq_true rfl) (by decide) zd_M_assign_23 (fun _ _ _ h => h.elim) (fun v9 T2 L2 hq => ?_)
    obtain ⟨rfl, rfl, hI⟩ := hq
    have hR2 := md_sm hI.1 hR
    refine jd_aload_n zd_M_assign_26 rfl ?_
    refine jd_get rfl rfl zl_M 20 (by decide) zi_700 rfl rfl (rl_m (by decide)) (by decide) zd_M_assign_27 ?_
    rw [hI.2.2.1]
    refine jd_aload_n zd_M_assign_30 rfl ?_
    refine jd_get rfl rfl zl_M 17 (by decide) zi_697 rfl rfl (rl_m (by decide)) (by decide) zd_M_assign_31 ?_
    rw [hR2.1.2.2.1]
    rw [← fa_cnt_cN]
    refine jd_icmp_gt 41 zd_M_assign_34 (by decide) (fun h => absurd h h_8) (fun _ => ?_)
    refine jd_iconst (v := 1) zd_M_assign_37 (by decide) ?_
    refine jd_goto 42 zd_M_assign_38 (by decide) ?_
    refine jd_istore_n zd_M_assign_42 (by decide) ?_
    refine jd_iload_n zd_M_assign_43 rfl ?_
    refine jd_if_eq 54 zd_M_assign_44 (by decide) (fun h => absurd h (by decide)) (fun _ => ?_)
    refine jd_aload_n zd_M_assign_47 rfl ?_
    refine jd_callV (n := 0) (kc_best hls hA hR hI hn8) rfl rfl rfl (rl_m (by decide)) (by decide) zi_835 zi_837 zi_34 zi_44 zi_838 (by decide +kernel) rfl rfl rfl (by decide) (Nat.le_of_ble_eq_true rfl) (by decide) zd_M_assign_48 (fun _ _ _ h => h.elim) (fun v9 T9 L9 hq => ?_)
    obtain ⟨f9, hmin9, rfl, hM9, hI9, hgv9⟩ := hq
    have hff : ∀ i, i < (fa_cN G w.2.2.1) → f i = f9 i := pl_uniq hn8 (fun i hi => (hmin.1.1 i hi).1) (fun i hi => (hmin9.1.1 i hi).1) (Int.le_antisymm (hmin.2 f9 hmin9.1) (hmin9.2 f hmin.1))
    refine jd_goto 58 zd_M_assign_51 (by decide) ?_
    exact jd_sub [(0, av_r 400), (1, av_i x), (2, av_i 1)] ⟨rfl, rfl, rfl, trivial⟩ (kl_Masg4 hls hA hR hc (sm_fr hs) hM9 (gv := fun r => pl_i (f9 r)) hI9 (fun r hr => by
            by_cases z : f9 r = 12
            · left; show pl_i (f9 r) = -1; unfold pl_i; rw [if_pos z]
            · right; exact ⟨f9 r, ((hmin9.1.1 r hr).2 z).1, if_neg z⟩) hgv9 (Or.inr rfl) (fun u hu hg => by rw [hdd]; show pl_i (f (fa_cN G u)) = pl_i (f9 (fa_cN G u)); rw [hff _ (fa_cN_lt hu hg)]) hend)
  · refine ct_intro hls (own := zn_M) (by decide) rfl (Nat.le_of_ble_eq_true rfl) ?_
    refine jd_aload_n zd_M_assign_0 rfl ?_
    refine jd_iload_n zd_M_assign_1 rfl ?_
    refine jd_if_ge 9 zd_M_assign_2 (by decide) (fun _ => ?_) (fun h => absurd h_x h)
    refine jd_iconst (v := 0) zd_M_assign_9 (by decide) ?_
    refine jd_put rfl rfl zl_M zp_M zm_M 0 (by decide) zi_680 rfl rfl rfl rfl rfl (Nat.le_of_ble_eq_true rfl) rfl (rl_m (by decide)) (by decide) zd_M_assign_10 ?_
    have hs := hs.fld (k := 0) (Or.inl rfl) (0 : Int32)
    have hc := cd_at hs
    have hR := md_sm hs hR0
    refine jd_aload_n zd_M_assign_13 rfl ?_
    refine jd_get rfl rfl zl_M 0 (by decide) zi_680 rfl rfl (rl_m (by decide)) (by decide) zd_M_assign_14 ?_
    rw [hc]
    refine jd_if_le 22 zd_M_assign_17 (by decide) (fun _ => ?_) (fun h => absurd h (by decide))
    refine jd_aload_n zd_M_assign_22 rfl ?_
    refine jd_callV (n := 0) (kc_collect hls hA hR) rfl rfl rfl (rl_m (by decide)) (by decide) zi_811 zi_813 zi_28 zi_44 zi_814 (by decide +kernel) rfl rfl rfl (by decide) (Nat.le_of_ble_eq_true rfl) (by decide) zd_M_assign_23 (fun _ _ _ h => h.elim) (fun v9 T2 L2 hq => ?_)
    obtain ⟨rfl, rfl, hI⟩ := hq
    have hR2 := md_sm hI.1 hR
    refine jd_aload_n zd_M_assign_26 rfl ?_
    refine jd_get rfl rfl zl_M 20 (by decide) zi_700 rfl rfl (rl_m (by decide)) (by decide) zd_M_assign_27 ?_
    rw [hI.2.2.1]
    refine jd_aload_n zd_M_assign_30 rfl ?_
    refine jd_get rfl rfl zl_M 17 (by decide) zi_697 rfl rfl (rl_m (by decide)) (by decide) zd_M_assign_31 ?_
    rw [hR2.1.2.2.1]
    rw [← fa_cnt_cN]
    refine jd_icmp_gt 41 zd_M_assign_34 (by decide) (fun _ => ?_) (fun h => absurd h_8 h)
    refine jd_iconst (v := 0) zd_M_assign_41 (by decide) ?_
    refine jd_istore_n zd_M_assign_42 (by decide) ?_
    refine jd_iload_n zd_M_assign_43 rfl ?_
    refine jd_if_eq 54 zd_M_assign_44 (by decide) (fun _ => ?_) (fun h => absurd h (by decide))
    refine jd_aload_n zd_M_assign_54 rfl ?_
    refine jd_callV (n := 0) (kc_MoneByOne hls hA hR hI) rfl rfl rfl (rl_m (by decide)) (by decide) zi_844 zi_846 zi_36 zi_44 zi_847 (by decide +kernel) rfl rfl rfl (by decide) (Nat.le_of_ble_eq_true rfl) (by decide) zd_M_assign_55 (fun _ _ _ h => h.elim) (fun v9 T9 L9 hq => ?_)
    obtain ⟨rfl, hM9, hI9, hgv9⟩ := hq
    exact jd_sub [(0, av_r 400), (1, av_i x), (2, av_i 0)] ⟨rfl, rfl, rfl, trivial⟩ (kl_Masg4 hls hA hR hc (sm_fr hs) hM9 (gv := fm_gv G w.2.2.1 w.2.2.2) hI9 (fun r hr => fa_ch_in _ _ _ _ _) hgv9 (Or.inl rfl) (fun u hu hg => by rw [hdd]; exact gv_d1 hu hg) hend)
