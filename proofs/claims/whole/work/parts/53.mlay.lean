/-! THE MODEL: the layers (rows by wip/whole/gen/m6.py) -/
set_option maxRecDepth 100000 in
set_option maxHeartbeats 4000000 in
theorem kl_lay1 {l : Launch} (hls : l.stackTraces = false) {D : va_G} {w : wd_T} {S : Nat → Nat → Int32} {L : Nat → Nat → Int64} {G : Nat → Nat → Int32} (hA : ok_A w G) (hR0 : md_R w G S) {T : Nat → Nat → Int32} (hI : cl_I w G S T w.2.2.1) {N : Nat} (hN : N = 2 ^ w.2.2.2) (x : Int32) {Qp : jd_P} (hnext : ∀ M, sm_L L M → ly M 425 N (fun _ => 0) → jd_J l D w zn_M zb_M_lay 8 (Option.none : Option Jvm.ClassFile.FieldType) [] ({ frames := 0, cells := 0, slots := 0, locals := 0 } : Room) 0 0 Qp 0 0 27 [(0, av_r 400), (1, av_i x), (2, av_i (nI N))] [] T M) : ∀ (k s : Nat), s ≤ N → N < s + k → ∀ M, sm_L L M → ly M 425 s (fun _ => 0) → jd_J l D w zn_M zb_M_lay 8 (Option.none : Option Jvm.ClassFile.FieldType) [] ({ frames := 0, cells := 0, slots := 0, locals := 0 } : Room) 0 0 Qp 0 0 9 [(0, av_r 400), (1, av_i x), (2, av_i (nI N)), (3, av_i (nI s))] [] T M := by
  have h12 := hA.1.1
  have h13 := hA.1.2.1
  have hN4 : N ≤ 4096 := by rw [hN]; exact set_sz _ h13
  intro k
  induction k with
  | zero => intro s h1 h2; omega
  | succ k ih =>
    intro s hu hk M hM hz
    refine jd_iload_n zd_M_lay_9 rfl ?_
    refine jd_iload_n zd_M_lay_10 rfl ?_
    refine jd_icmp_ge 27 zd_M_lay_11 (by decide) (fun h_11 => ?_) (fun h_11 => ?_)
    · have e_u := nI_end rfl (by omega) hu h_11
      subst e_u
      exact jd_sub [(0, av_r 400), (1, av_i x), (2, av_i (nI s))] ⟨rfl, rfl, rfl, trivial⟩ (hnext M hM hz)
    · have hu2 := nI_on rfl (by omega) hu h_11
      refine jd_aload_n zd_M_lay_14 rfl ?_
      refine jd_get rfl rfl zl_M 24 (by decide) zi_704 rfl rfl (rl_m (by decide)) (by decide) zd_M_lay_15 ?_
      refine jd_iload_n zd_M_lay_18 rfl ?_
      refine jd_lconst (v := 0) zd_M_lay_19 (by decide) ?_
      refine jd_lstN (r := 425) (c := s) (fun _ => rfl) rfl (by omega) (n := 4096) (by decide) (rl_m (by decide)) (by decide) zd_M_lay_20 ?_
      refine jd_iinc (v := nI (s + 1)) zd_M_lay_21 rfl (nI_inc s) (by decide) ?_
      refine jd_goto 9 zd_M_lay_24 (by decide) ?_
      exact jd_sub [(0, av_r 400), (1, av_i x), (2, av_i (nI N)), (3, av_i (nI (s + 1)))] ⟨rfl, rfl, rfl, rfl, trivial⟩ (ih (s + 1) (by omega) (by omega) _ (hM.up (Or.inl rfl) _) (ly_up hz rfl))
set_option maxRecDepth 100000 in
set_option maxHeartbeats 4000000 in
theorem kl_lay2 {l : Launch} (hls : l.stackTraces = false) {D : va_G} {w : wd_T} {S : Nat → Nat → Int32} {L : Nat → Nat → Int64} {G : Nat → Nat → Int32} (hA : ok_A w G) (hR0 : md_R w G S) {T : Nat → Nat → Int32} (hI : cl_I w G S T w.2.2.1) {N : Nat} (hN : N = 2 ^ w.2.2.2) (x : Int32) (g : Nat) (V : Nat → Int) {Qp : jd_P} (hnext : ∀ M, sm_L L M → ly M 425 N V → ly M 426 N V → jd_J l D w zn_M zb_M_lay 8 (Option.none : Option Jvm.ClassFile.FieldType) [] ({ frames := 0, cells := 0, slots := 0, locals := 0 } : Room) 0 0 Qp 0 0 68 [(0, av_r 400), (1, av_i x), (2, av_i (nI N)), (3, av_i (nI g))] [] T M) : ∀ (k s : Nat), s ≤ N → N < s + k → ∀ M, sm_L L M → ly M 425 N V → ly M 426 s V → jd_J l D w zn_M zb_M_lay 8 (Option.none : Option Jvm.ClassFile.FieldType) [] ({ frames := 0, cells := 0, slots := 0, locals := 0 } : Room) 0 0 Qp 0 0 42 [(0, av_r 400), (1, av_i x), (2, av_i (nI N)), (3, av_i (nI g)), (4, av_i (nI s))] [] T M := by
  have h12 := hA.1.1
  have h13 := hA.1.2.1
  have hN4 : N ≤ 4096 := by rw [hN]; exact set_sz _ h13
  intro k
  induction k with
  | zero => intro s h1 h2; omega
  | succ k ih =>
    intro s hu hk M hM hz hy
    refine jd_iload zd_M_lay_42 rfl ?_
    refine jd_iload_n zd_M_lay_44 rfl ?_
    refine jd_icmp_ge 68 zd_M_lay_45 (by decide) (fun h_45 => ?_) (fun h_45 => ?_)
    · have e_u := nI_end rfl (by omega) hu h_45
      subst e_u
      exact jd_sub [(0, av_r 400), (1, av_i x), (2, av_i (nI s)), (3, av_i (nI g))] ⟨rfl, rfl, rfl, rfl, trivial⟩ (hnext M hM hz hy)
    · have hu2 := nI_on rfl (by omega) hu h_45
      refine jd_aload_n zd_M_lay_48 rfl ?_
      refine jd_get rfl rfl zl_M 25 (by decide) zi_705 rfl rfl (rl_m (by decide)) (by decide) zd_M_lay_49 ?_
      refine jd_iload zd_M_lay_52 rfl ?_
      refine jd_aload_n zd_M_lay_54 rfl ?_
      refine jd_get rfl rfl zl_M 24 (by decide) zi_704 rfl rfl (rl_m (by decide)) (by decide) zd_M_lay_55 ?_
      refine jd_iload zd_M_lay_58 rfl ?_
      refine jd_lldN (r := 425) (c := s) rfl rfl (by omega) (n := 4096) (by decide) (rl_m (by decide)) (by decide) zd_M_lay_60 ?_
      refine jd_lstN (r := 426) (c := s) (fun _ => rfl) rfl (by omega) (n := 4096) (by decide) (rl_m (by decide)) (by decide) zd_M_lay_61 ?_
      refine jd_iinc (v := nI (s + 1)) zd_M_lay_62 rfl (nI_inc s) (by decide) ?_
      refine jd_goto 42 zd_M_lay_65 (by decide) ?_
      exact jd_sub [(0, av_r 400), (1, av_i x), (2, av_i (nI N)), (3, av_i (nI g)), (4, av_i (nI (s + 1)))] ⟨rfl, rfl, rfl, rfl, rfl, trivial⟩ (ih (s + 1) (by omega) (by omega) _ (hM.up (Or.inr rfl) _) (ly_ne hz (by decide)) (ly_up hy (hz s hu2)))
set_option maxRecDepth 100000 in
set_option maxHeartbeats 4000000 in
theorem kl_lay5 {l : Launch} (hls : l.stackTraces = false) {D : va_G} {w : wd_T} {S : Nat → Nat → Int32} {L : Nat → Nat → Int64} {G : Nat → Nat → Int32} (hA : ok_A w G) (hR0 : md_R w G S) {T : Nat → Nat → Int32} (hI : cl_I w G S T w.2.2.1) {N : Nat} (hN : N = 2 ^ w.2.2.2) (x : Int32) (g : Nat) (V : Nat → Int) {Qp : jd_P} (hnext : ∀ M, sm_L L M → ly M 425 N V → jd_J l D w zn_M zb_M_lay 8 (Option.none : Option Jvm.ClassFile.FieldType) [] ({ frames := 0, cells := 0, slots := 0, locals := 0 } : Room) 0 0 Qp 0 0 214 [(0, av_r 400), (1, av_i x), (2, av_i (nI N)), (3, av_i (nI g))] [] T M) : ∀ (k s : Nat), s ≤ N → N < s + k → ∀ M, sm_L L M → ly M 425 s V → ly M 426 N V → jd_J l D w zn_M zb_M_lay 8 (Option.none : Option Jvm.ClassFile.FieldType) [] ({ frames := 0, cells := 0, slots := 0, locals := 0 } : Room) 0 0 Qp 0 0 188 [(0, av_r 400), (1, av_i x), (2, av_i (nI N)), (3, av_i (nI g)), (4, av_i (nI s))] [] T M := by
  have h12 := hA.1.1
  have h13 := hA.1.2.1
  have hN4 : N ≤ 4096 := by rw [hN]; exact set_sz _ h13
  intro k
  induction k with
  | zero => intro s h1 h2; omega
  | succ k ih =>
    intro s hu hk M hM hz hy
    refine jd_iload zd_M_lay_188 rfl ?_
    refine jd_iload_n zd_M_lay_190 rfl ?_
    refine jd_icmp_ge 214 zd_M_lay_191 (by decide) (fun h_191 => ?_) (fun h_191 => ?_)
    · have e_u := nI_end rfl (by omega) hu h_191
      subst e_u
      exact jd_sub [(0, av_r 400), (1, av_i x), (2, av_i (nI s)), (3, av_i (nI g))] ⟨rfl, rfl, rfl, rfl, trivial⟩ (hnext M hM hz)
    · have hu2 := nI_on rfl (by omega) hu h_191
      refine jd_aload_n zd_M_lay_194 rfl ?_
      refine jd_get rfl rfl zl_M 24 (by decide) zi_704 rfl rfl (rl_m (by decide)) (by decide) zd_M_lay_195 ?_
      refine jd_iload zd_M_lay_198 rfl ?_
      refine jd_aload_n zd_M_lay_200 rfl ?_
      refine jd_get rfl rfl zl_M 25 (by decide) zi_705 rfl rfl (rl_m (by decide)) (by decide) zd_M_lay_201 ?_
      refine jd_iload zd_M_lay_204 rfl ?_
      refine jd_lldN (r := 426) (c := s) rfl rfl (by omega) (n := 4096) (by decide) (rl_m (by decide)) (by decide) zd_M_lay_206 ?_
      refine jd_lstN (r := 425) (c := s) (fun _ => rfl) rfl (by omega) (n := 4096) (by decide) (rl_m (by decide)) (by decide) zd_M_lay_207 ?_
      refine jd_iinc (v := nI (s + 1)) zd_M_lay_208 rfl (nI_inc s) (by decide) ?_
      refine jd_goto 188 zd_M_lay_211 (by decide) ?_
      exact jd_sub [(0, av_r 400), (1, av_i x), (2, av_i (nI N)), (3, av_i (nI g)), (4, av_i (nI (s + 1)))] ⟨rfl, rfl, rfl, rfl, rfl, trivial⟩ (ih (s + 1) (by omega) (by omega) _ (hM.up (Or.inl rfl) _) (ly_up hz (hy s hu2)) (ly_ne hy (by decide)))
set_option maxRecDepth 100000 in
set_option maxHeartbeats 4000000 in
theorem kl_lay3 {l : Launch} (hls : l.stackTraces = false) {D : va_G} {w : wd_T} {S : Nat → Nat → Int32} {L : Nat → Nat → Int64} {G : Nat → Nat → Int32} (hA : ok_A w G) (hR0 : md_R w G S) {T : Nat → Nat → Int32} (hI : cl_I w G S T w.2.2.1) {N : Nat} (hN : N = 2 ^ w.2.2.2) (x : Int32) {j : Nat} (hj : j < (fa_cN G w.2.2.1)) (hn8 : (fa_cN G w.2.2.1) ≤ 8) {s : Nat} (hs : s < N) {Qp : jd_P} (hnext : ∀ M, sm_L L M → ly_d w G j M N s w.2.2.2 → jd_J l D w zn_M zb_M_lay 8 (Option.none : Option Jvm.ClassFile.FieldType) [] ({ frames := 0, cells := 0, slots := 0, locals := 0 } : Room) 0 0 Qp 0 0 179 [(0, av_r 400), (1, av_i x), (2, av_i (nI N)), (3, av_i (nI ((fa_cN G w.2.2.1) - (j + 1)))), (4, av_i (nI s))] [] T M) : ∀ (k p : Nat), p ≤ w.2.2.2 → w.2.2.2 < p + k → ∀ M, sm_L L M → ly_d w G j M N s p → jd_J l D w zn_M zb_M_lay 8 (Option.none : Option Jvm.ClassFile.FieldType) [] ({ frames := 0, cells := 0, slots := 0, locals := 0 } : Room) 0 0 Qp 0 0 80 [(0, av_r 400), (1, av_i x), (2, av_i (nI N)), (3, av_i (nI ((fa_cN G w.2.2.1) - (j + 1)))), (4, av_i (nI s)), (5, av_i (nI p))] [] T M := by
  have h12 := hA.1.1
  have h13 := hA.1.2.1
  have hN4 : N ≤ 4096 := by rw [hN]; exact set_sz _ h13
  have hcle := fa_cN_le G w.2.2.1
  intro k
  induction k with
  | zero => intro p h1 h2; omega
  | succ k ih =>
    intro p hu hk M hM hd
    refine jd_iload zd_M_lay_80 rfl ?_
    refine jd_aload_n zd_M_lay_82 rfl ?_
    refine jd_get rfl rfl zl_M 10 (by decide) zi_690 rfl rfl (rl_m (by decide)) (by decide) zd_M_lay_83 ?_
    rw [(md_sm hI.1 hR0).1.2.1]
    refine jd_icmp_ge 179 zd_M_lay_86 (by decide) (fun h_86 => ?_) (fun h_86 => ?_)
    · have e_u := nI_end rfl (by omega) hu h_86
      subst e_u
      exact jd_sub [(0, av_r 400), (1, av_i x), (2, av_i (nI N)), (3, av_i (nI ((fa_cN G w.2.2.1) - (j + 1)))), (4, av_i (nI s))] ⟨rfl, rfl, rfl, rfl, rfl, trivial⟩ (hnext M hM hd)
    · have hu2 := nI_on rfl (by omega) hu h_86
      refine jd_iload zd_M_lay_89 rfl ?_
      refine jd_iload zd_M_lay_91 rfl ?_
      refine jd_ishr zd_M_lay_93 ?_
      refine jd_iconst (v := 1) zd_M_lay_94 (by decide) ?_
      refine jd_iand zd_M_lay_95 ?_
      refine jd_iconst (v := 1) zd_M_lay_96 (by decide) ?_
      refine jd_icmp_eq 173 zd_M_lay_97 (by decide) (fun h_97 => ?_) (fun h_97 => ?_)
      · refine jd_iinc (v := nI (p + 1)) zd_M_lay_173 rfl (nI_inc p) (by decide) ?_
        refine jd_goto 80 zd_M_lay_176 (by decide) ?_
        exact jd_sub [(0, av_r 400), (1, av_i x), (2, av_i (nI N)), (3, av_i (nI ((fa_cN G w.2.2.1) - (j + 1)))), (4, av_i (nI s)), (5, av_i (nI (p + 1)))] ⟨rfl, rfl, rfl, rfl, rfl, rfl, trivial⟩ (ih (p + 1) (by omega) (by omega) _ hM (ly_dN hd (dv_oN (fun z => by rw [(set_is (by omega)).mp h_97] at z; exact absurd z.1.2 (by decide)))))
      · have hb : s.testBit p = false := by cases q : s.testBit p with | false => rfl | true => exact absurd ((set_is (by omega)).mpr q) h_97
        refine jd_aload_n zd_M_lay_100 rfl ?_
        refine jd_get rfl rfl zl_M 23 (by decide) zi_703 rfl rfl (rl_m (by decide)) (by decide) zd_M_lay_101 ?_
        refine jd_bipush (v := 12) zd_M_lay_104 (by decide) ?_
        refine jd_iload_n zd_M_lay_106 rfl ?_
        refine jd_imul zd_M_lay_107 ?_
        refine jd_iload zd_M_lay_108 rfl ?_
        refine jd_iadd zd_M_lay_110 ?_
        refine jd_ildN (r := 424) (c := 12 * ((fa_cN G w.2.2.1) - (j + 1)) + p) rfl (ix12 _ _) (by omega) (n := 144) (by decide) (rl_m (by decide)) (by decide) zd_M_lay_111 ?_
        rw [hI.2.2.2.2 _ p (by omega) hu2]
        refine jd_iconst (v := (-1)) zd_M_lay_112 (by decide) ?_
        refine jd_icmp_ne 119 zd_M_lay_113 (by decide) (fun h_113 => ?_) (fun h_113 => ?_)
        · have ha : fa_al G w.2.2.1 w.2.2.2 ((fa_cN G w.2.2.1) - (j + 1)) p := by rcases Classical.em (fa_al G w.2.2.1 w.2.2.2 ((fa_cN G w.2.2.1) - (j + 1)) p) with z | z; exact z; exact absurd (pr_no hu2 z) h_113
          obtain ⟨-, e_c⟩ := pr_yes hA (show (fa_cN G w.2.2.1) - (j + 1) < (fa_cN G w.2.2.1) by omega) ha
          have h9 : s ||| 2 ^ p < N := by rw [hN]; exact set_lt (by omega) hu2
          have e_v := ly_v (hd.1 (s ||| 2 ^ p) (by rw [hN]; exact set_lt (by omega) hu2)) (dv_in hA (by omega)).1 (Int.le_trans (dv_in hA (by omega)).2 (by omega)) e_c (ok_hC hA _ _ (by omega) ha).1 (ok_hC hA _ _ (by omega) ha).2
          refine jd_aload_n zd_M_lay_119 rfl ?_
          refine jd_get rfl rfl zl_M 24 (by decide) zi_704 rfl rfl (rl_m (by decide)) (by decide) zd_M_lay_120 ?_
          refine jd_iload zd_M_lay_123 rfl ?_
          refine jd_iconst (v := 1) zd_M_lay_125 (by decide) ?_
          refine jd_iload zd_M_lay_126 rfl ?_
          refine jd_ishl zd_M_lay_128 ?_
          refine jd_ior zd_M_lay_129 ?_
          refine jd_lldN (r := 425) (c := s ||| 2 ^ p) rfl (set_or (by omega)) (by omega) (n := 4096) (by decide) (rl_m (by decide)) (by decide) zd_M_lay_130 ?_
          refine jd_ldc2 zi_843 zd_M_lay_131 ?_
          refine jd_ladd zd_M_lay_134 ?_
          refine jd_aload_n zd_M_lay_135 rfl ?_
          refine jd_get rfl rfl zl_M 23 (by decide) zi_703 rfl rfl (rl_m (by decide)) (by decide) zd_M_lay_136 ?_
          refine jd_bipush (v := 12) zd_M_lay_139 (by decide) ?_
          refine jd_iload_n zd_M_lay_141 rfl ?_
          refine jd_imul zd_M_lay_142 ?_
          refine jd_iload zd_M_lay_143 rfl ?_
          refine jd_iadd zd_M_lay_145 ?_
          refine jd_ildN (r := 424) (c := 12 * ((fa_cN G w.2.2.1) - (j + 1)) + p) rfl (ix12 _ _) (by omega) (n := 144) (by decide) (rl_m (by decide)) (by decide) zd_M_lay_146 ?_
          rw [hI.2.2.2.2 _ p (by omega) hu2]
          refine jd_i2l zd_M_lay_147 ?_
          refine jd_lsub zd_M_lay_148 ?_
          refine jd_lstore zd_M_lay_149 (by decide) ?_
          refine jd_lload zd_M_lay_151 rfl ?_
          refine jd_aload_n zd_M_lay_153 rfl ?_
          refine jd_get rfl rfl zl_M 25 (by decide) zi_705 rfl rfl (rl_m (by decide)) (by decide) zd_M_lay_154 ?_
          refine jd_iload zd_M_lay_157 rfl ?_
          refine jd_lldN (r := 426) (c := s) rfl rfl (by omega) (n := 4096) (by decide) (rl_m (by decide)) (by decide) zd_M_lay_159 ?_
          refine jd_lcmp zd_M_lay_160 ?_
          refine jd_if_le 173 zd_M_lay_161 (by decide) (fun h_161 => ?_) (fun h_161 => ?_)
          · have h_nl : ¬ dv_o w G j s p < dv_V w G j (s ||| 2 ^ p) + 1099511627776 - fa_cost G w.2.2.1 ((fa_cN G w.2.2.1) - (j + 1)) p := by rw [← ly_at hd hs, ← e_v]; exact Int.not_lt.mpr (Int64.le_iff_toInt_le.mp ((lg_cmp_le _ _).mp h_161))
            refine jd_iinc (v := nI (p + 1)) zd_M_lay_173 rfl (nI_inc p) (by decide) ?_
            refine jd_goto 80 zd_M_lay_176 (by decide) ?_
            exact jd_sub [(0, av_r 400), (1, av_i x), (2, av_i (nI N)), (3, av_i (nI ((fa_cN G w.2.2.1) - (j + 1)))), (4, av_i (nI s)), (5, av_i (nI (p + 1)))] ⟨rfl, rfl, rfl, rfl, rfl, rfl, trivial⟩ (ih (p + 1) (by omega) (by omega) _ hM (ly_dN hd (dv_oN (fun z => h_nl z.2))))
          · have h_lt : dv_o w G j s p < dv_V w G j (s ||| 2 ^ p) + 1099511627776 - fa_cost G w.2.2.1 ((fa_cN G w.2.2.1) - (j + 1)) p := by rw [← ly_at hd hs, ← e_v]; exact Int64.lt_iff_toInt_lt.mp (Int64.not_le.mp (fun q => h_161 ((lg_cmp_le _ _).mpr q)))
            refine jd_aload_n zd_M_lay_164 rfl ?_
            refine jd_get rfl rfl zl_M 25 (by decide) zi_705 rfl rfl (rl_m (by decide)) (by decide) zd_M_lay_165 ?_
            refine jd_iload zd_M_lay_168 rfl ?_
            refine jd_lload zd_M_lay_170 rfl ?_
            refine jd_lstN (r := 426) (c := s) (fun _ => rfl) rfl (by omega) (n := 4096) (by decide) (rl_m (by decide)) (by decide) zd_M_lay_172 ?_
            refine jd_iinc (v := nI (p + 1)) zd_M_lay_173 rfl (nI_inc p) (by decide) ?_
            refine jd_goto 80 zd_M_lay_176 (by decide) ?_
            exact jd_sub [(0, av_r 400), (1, av_i x), (2, av_i (nI N)), (3, av_i (nI ((fa_cN G w.2.2.1) - (j + 1)))), (4, av_i (nI s)), (5, av_i (nI (p + 1)))] ⟨rfl, rfl, rfl, rfl, rfl, rfl, trivial⟩ (ih (p + 1) (by omega) (by omega) _ (hM.up (Or.inr rfl) _) (ly_dY hd (by rw [e_v, dv_oY ha hb h_lt])))
        · refine jd_goto 173 zd_M_lay_116 (by decide) ?_
          refine jd_iinc (v := nI (p + 1)) zd_M_lay_173 rfl (nI_inc p) (by decide) ?_
          refine jd_goto 80 zd_M_lay_176 (by decide) ?_
          exact jd_sub [(0, av_r 400), (1, av_i x), (2, av_i (nI N)), (3, av_i (nI ((fa_cN G w.2.2.1) - (j + 1)))), (4, av_i (nI s)), (5, av_i (nI (p + 1)))] ⟨rfl, rfl, rfl, rfl, rfl, rfl, trivial⟩ (ih (p + 1) (by omega) (by omega) _ hM (ly_dN hd (dv_oN (fun z => (pr_yes hA (by omega) z.1.1).1 h_113))))
set_option maxRecDepth 100000 in
set_option maxHeartbeats 4000000 in
theorem kl_lay4 {l : Launch} (hls : l.stackTraces = false) {D : va_G} {w : wd_T} {S : Nat → Nat → Int32} {L : Nat → Nat → Int64} {G : Nat → Nat → Int32} (hA : ok_A w G) (hR0 : md_R w G S) {T : Nat → Nat → Int32} (hI : cl_I w G S T w.2.2.1) {N : Nat} (hN : N = 2 ^ w.2.2.2) (x : Int32) {j : Nat} (hj : j < (fa_cN G w.2.2.1)) (hn8 : (fa_cN G w.2.2.1) ≤ 8) {Qp : jd_P} (hnext : ∀ M, sm_L L M → ly_d w G j M N N 0 → jd_J l D w zn_M zb_M_lay 8 (Option.none : Option Jvm.ClassFile.FieldType) [] ({ frames := 0, cells := 0, slots := 0, locals := 0 } : Room) 0 0 Qp 0 0 185 [(0, av_r 400), (1, av_i x), (2, av_i (nI N)), (3, av_i (nI ((fa_cN G w.2.2.1) - (j + 1))))] [] T M) : ∀ (k s : Nat), s ≤ N → N < s + k → ∀ M, sm_L L M → ly_d w G j M N s 0 → jd_J l D w zn_M zb_M_lay 8 (Option.none : Option Jvm.ClassFile.FieldType) [] ({ frames := 0, cells := 0, slots := 0, locals := 0 } : Room) 0 0 Qp 0 0 71 [(0, av_r 400), (1, av_i x), (2, av_i (nI N)), (3, av_i (nI ((fa_cN G w.2.2.1) - (j + 1)))), (4, av_i (nI s))] [] T M := by
  have h12 := hA.1.1
  have h13 := hA.1.2.1
  have hN4 : N ≤ 4096 := by rw [hN]; exact set_sz _ h13
  have hcle := fa_cN_le G w.2.2.1
  intro k
  induction k with
  | zero => intro s h1 h2; omega
  | succ k ih =>
    intro s hu hk M hM hd
    refine jd_iload zd_M_lay_71 rfl ?_
    refine jd_iload_n zd_M_lay_73 rfl ?_
    refine jd_icmp_ge 185 zd_M_lay_74 (by decide) (fun h_74 => ?_) (fun h_74 => ?_)
    · have e_u := nI_end rfl (by omega) hu h_74
      subst e_u
      exact jd_sub [(0, av_r 400), (1, av_i x), (2, av_i (nI s)), (3, av_i (nI ((fa_cN G w.2.2.1) - (j + 1))))] ⟨rfl, rfl, rfl, rfl, trivial⟩ (hnext M hM hd)
    · have hu2 := nI_on rfl (by omega) hu h_74
      refine jd_iconst (v := 0) zd_M_lay_77 (by decide) ?_
      refine jd_istore zd_M_lay_78 (by decide) ?_
      refine jd_sub [(0, av_r 400), (1, av_i x), (2, av_i (nI N)), (3, av_i (nI ((fa_cN G w.2.2.1) - (j + 1)))), (4, av_i (nI s)), (5, av_i (nI 0))] ⟨rfl, rfl, rfl, rfl, rfl, rfl, trivial⟩ (kl_lay3 hls hA hR0 hI hN x hj hn8 hu2 (fun M hM hd => ?_) (w.2.2.2 + 1) 0 (by omega) (by omega) _ hM hd)
      refine jd_iinc (v := nI (s + 1)) zd_M_lay_179 rfl (nI_inc s) (by decide) ?_
      refine jd_goto 71 zd_M_lay_182 (by decide) ?_
      exact jd_sub [(0, av_r 400), (1, av_i x), (2, av_i (nI N)), (3, av_i (nI ((fa_cN G w.2.2.1) - (j + 1)))), (4, av_i (nI (s + 1)))] ⟨rfl, rfl, rfl, rfl, rfl, trivial⟩ (ih (s + 1) (by omega) (by omega) _ hM (ly_dS hd))
set_option maxRecDepth 100000 in
set_option maxHeartbeats 4000000 in
theorem kl_lay6 {l : Launch} (hls : l.stackTraces = false) {D : va_G} {w : wd_T} {S : Nat → Nat → Int32} {L : Nat → Nat → Int64} {G : Nat → Nat → Int32} (hA : ok_A w G) (hR0 : md_R w G S) {T : Nat → Nat → Int32} (hI : cl_I w G S T w.2.2.1) {N : Nat} (hN : N = 2 ^ w.2.2.2) {f : Nat} (hf : f ≤ (fa_cN G w.2.2.1)) (hn8 : (fa_cN G w.2.2.1) ≤ 8) {Qp : jd_P} (hQ : ∀ M, sm_L L M → ly M 425 N (dv_V w G ((fa_cN G w.2.2.1) - f)) → Qp.1 none T M) : ∀ (k j : Nat), j ≤ ((fa_cN G w.2.2.1) - f) → ((fa_cN G w.2.2.1) - f) < j + k → ∀ (x : Int32) (M : Nat → Nat → Int64), x = nI ((fa_cN G w.2.2.1) - j) - 1 → sm_L L M → ly M 425 N (dv_V w G j) → jd_J l D w zn_M zb_M_lay 8 (Option.none : Option Jvm.ClassFile.FieldType) [] ({ frames := 0, cells := 0, slots := 0, locals := 0 } : Room) 0 0 Qp 0 0 34 [(0, av_r 400), (1, av_i (nI f)), (2, av_i (nI N)), (3, av_i x)] [] T M := by
  have h12 := hA.1.1
  have h13 := hA.1.2.1
  have hN4 : N ≤ 4096 := by rw [hN]; exact set_sz _ h13
  have hcle := fa_cN_le G w.2.2.1
  intro k
  induction k with
  | zero => intro j h1 h2; omega
  | succ k ih =>
    intro j hu hk x M hx hM hz
    refine jd_iload_n zd_M_lay_34 rfl ?_
    refine jd_iload_n zd_M_lay_35 rfl ?_
    refine jd_icmp_lt 220 zd_M_lay_36 (by decide) (fun h_36 => ?_) (fun h_36 => ?_)
    · rw [hx, nI_dlt (by omega) (by omega)] at h_36
      have e_j : j = (fa_cN G w.2.2.1) - f := by omega
      subst e_j
      exact jd_vret rfl (hQ M hM hz) (by decide) (by decide) zd_M_lay_220
    · rw [hx, nI_dlt (by omega) (by omega)] at h_36
      have e_x : x = nI ((fa_cN G w.2.2.1) - (j + 1)) := by rw [hx, show (fa_cN G w.2.2.1) - j = ((fa_cN G w.2.2.1) - (j + 1)) + 1 by omega]; exact nI_pred _
      subst e_x
      refine jd_iconst (v := 0) zd_M_lay_39 (by decide) ?_
      refine jd_istore zd_M_lay_40 (by decide) ?_
      refine jd_sub [(0, av_r 400), (1, av_i (nI f)), (2, av_i (nI N)), (3, av_i (nI ((fa_cN G w.2.2.1) - (j + 1)))), (4, av_i (nI 0))] ⟨rfl, rfl, rfl, rfl, rfl, trivial⟩ (kl_lay2 hls hA hR0 hI hN _ _ (dv_V w G j) (fun M hM hz hy => ?_) (N + 1) 0 (by omega) (by omega) _ hM hz (fun s hs => by omega))
      refine jd_iconst (v := 0) zd_M_lay_68 (by decide) ?_
      refine jd_istore zd_M_lay_69 (by decide) ?_
      refine jd_sub [(0, av_r 400), (1, av_i (nI f)), (2, av_i (nI N)), (3, av_i (nI ((fa_cN G w.2.2.1) - (j + 1)))), (4, av_i (nI 0))] ⟨rfl, rfl, rfl, rfl, rfl, trivial⟩ (kl_lay4 hls hA hR0 hI hN _ (by omega) hn8 (fun M hM hd => ?_) (N + 1) 0 (by omega) (by omega) _ hM (ly_d0 hz hy))
      refine jd_iconst (v := 0) zd_M_lay_185 (by decide) ?_
      refine jd_istore zd_M_lay_186 (by decide) ?_
      refine jd_sub [(0, av_r 400), (1, av_i (nI f)), (2, av_i (nI N)), (3, av_i (nI ((fa_cN G w.2.2.1) - (j + 1)))), (4, av_i (nI 0))] ⟨rfl, rfl, rfl, rfl, rfl, trivial⟩ (kl_lay5 hls hA hR0 hI hN _ _ (dv_V w G (j + 1)) (fun M hM hz => ?_) (N + 1) 0 (by omega) (by omega) _ hM (fun s hs => by omega) (ly_dE hd))
      refine jd_iinc (v := nI ((fa_cN G w.2.2.1) - (j + 1)) - 1) zd_M_lay_214 rfl (nI_dec _) (by decide) ?_
      refine jd_goto 34 zd_M_lay_217 (by decide) ?_
      exact jd_sub [(0, av_r 400), (1, av_i (nI f)), (2, av_i (nI N)), (3, av_i _)] ⟨rfl, rfl, rfl, rfl, trivial⟩ (ih (j + 1) (by omega) (by omega) _ _ rfl hM hz)
def po_ly (w : wd_T) (G T : Nat → Nat → Int32) (L : Nat → Nat → Int64) (j : Nat) : jd_P := (fun v' S' L' => v' = none ∧ S' = T ∧ sm_L L L' ∧ ly L' 425 (2 ^ w.2.2.2) (dv_V w G j), fun _ _ _ => False)
set_option maxRecDepth 100000 in
set_option maxHeartbeats 4000000 in
theorem kc_lay {l : Launch} (hls : l.stackTraces = false) {D : va_G} {w : wd_T} {S : Nat → Nat → Int32} {L : Nat → Nat → Int64} {G : Nat → Nat → Int32} (hA : ok_A w G) (hR0 : md_R w G S) {T : Nat → Nat → Int32} (hI : cl_I w G S T w.2.2.1) {f : Nat} (hf : f ≤ (fa_cN G w.2.2.1)) (hn8 : (fa_cN G w.2.2.1) ≤ 8) : ct_M l D w zy_M_lay (Cond.code zy_M_lay zb_M_lay 8 (Option.none : Option Jvm.ClassFile.FieldType)) ({ frames := 0, cells := 0, slots := 0, locals := 0 } : Room) [av_r 400, av_i (nI f)] T L (po_ly w G T L ((fa_cN G w.2.2.1) - f)) 0 0 := by
  have h12 := hA.1.1
  have h13 := hA.1.2.1
  refine ct_intro hls (own := zn_M) (by decide) rfl (Nat.le_of_ble_eq_true rfl) ?_
  refine jd_iconst (v := 1) zd_M_lay_0 (by decide) ?_
  refine jd_aload_n zd_M_lay_1 rfl ?_
  refine jd_get rfl rfl zl_M 10 (by decide) zi_690 rfl rfl (rl_m (by decide)) (by decide) zd_M_lay_2 ?_
  rw [(md_sm hI.1 hR0).1.2.1]
  refine jd_ishl zd_M_lay_5 ?_
  rw [set_sh _ h13]
  refine jd_istore_n zd_M_lay_6 (by decide) ?_
  refine jd_iconst (v := 0) zd_M_lay_7 (by decide) ?_
  refine jd_istore_n zd_M_lay_8 (by decide) ?_
  refine jd_sub [(0, av_r 400), (1, av_i (nI f)), (2, av_i (nI (2 ^ w.2.2.2))), (3, av_i (nI 0))] ⟨rfl, rfl, rfl, rfl, trivial⟩ (kl_lay1 hls hA hR0 hI rfl _ (fun M hM hz => ?_) (2 ^ w.2.2.2 + 1) 0 (Nat.zero_le _) (Nat.lt_succ_self _ |> fun h => by rw [Nat.zero_add]; exact h) _ (sm_reflL L) (fun s hs => by omega))
  refine jd_aload_n zd_M_lay_27 rfl ?_
  refine jd_get rfl rfl zl_M 20 (by decide) zi_700 rfl rfl (rl_m (by decide)) (by decide) zd_M_lay_28 ?_
  rw [hI.2.2.1]
  refine jd_iconst (v := 1) zd_M_lay_31 (by decide) ?_
  refine jd_isub zd_M_lay_32 ?_
  refine jd_istore_n zd_M_lay_33 (by decide) ?_
  exact jd_sub [(0, av_r 400), (1, av_i (nI f)), (2, av_i (nI (2 ^ w.2.2.2))), (3, av_i (nI (fa_cN G w.2.2.1) - 1))] ⟨rfl, rfl, rfl, rfl, trivial⟩ (kl_lay6 (Qp := po_ly w G T L ((fa_cN G w.2.2.1) - f)) hls hA hR0 hI rfl hf hn8 (fun M hM hz => ⟨rfl, rfl, hM, hz⟩) ((fa_cN G w.2.2.1) - f + 1) 0 (by omega) (by omega) _ _ rfl hM hz)
