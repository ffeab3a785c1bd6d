/-! THE CLASS: its small readers (rows by wip/whole/gen/a1.py) -/
theorem bi_nar (b : Bool) : narrow .boolean (.int (bi_of b)) = .int (bi_of b) := by cases b <;> decide
set_option maxRecDepth 100000 in
set_option maxHeartbeats 4000000 in
theorem kc_outside {l : Launch} (hls : l.stackTraces = false) {D : va_G} {w : wd_T} {S : Nat → Nat → Int32} {L : Nat → Nat → Int64} (x a b : Int32) : ct_M l D w zy_A_outside (Cond.code zy_A_outside zb_A_outside 3 (Option.some Jvm.ClassFile.FieldType.boolean)) ({ frames := 0, cells := 0, slots := 0, locals := 0 } : Room) [av_i x, av_i a, av_i b] S L (po_i (bi_of (decide (x < a) || decide (b < x))) S L) 0 0 := by
  refine ct_intro hls (own := zn_A) (by decide) rfl (Nat.le_of_ble_eq_true rfl) ?_
  refine jd_iload_n zd_A_outside_0 rfl ?_
  refine jd_iload_n zd_A_outside_1 rfl ?_
  refine jd_icmp_lt 10 zd_A_outside_2 (by decide) (fun h_2 => ?_) (fun h_2 => ?_)
  · refine jd_iconst (v := 1) zd_A_outside_10 (by decide) ?_
    refine jd_goto 15 zd_A_outside_11 (by decide) ?_
    exact jd_zret rfl (by first | rfl | decide | assumption) ⟨by simp_all [bi_of], rfl, rfl⟩ (by decide) (by decide) zd_A_outside_15
  · refine jd_iload_n zd_A_outside_5 rfl ?_
    refine jd_iload_n zd_A_outside_6 rfl ?_
    refine jd_icmp_le 14 zd_A_outside_7 (by decide) (fun h_7 => ?_) (fun h_7 => ?_)
    · refine jd_iconst (v := 0) zd_A_outside_14 (by decide) ?_
      exact jd_zret rfl (by first | rfl | decide | assumption) ⟨by simp_all [bi_of], rfl, rfl⟩ (by decide) (by decide) zd_A_outside_15
    · refine jd_iconst (v := 1) zd_A_outside_10 (by decide) ?_
      refine jd_goto 15 zd_A_outside_11 (by decide) ?_
      exact jd_zret rfl (by first | rfl | decide | assumption) ⟨by simp_all [bi_of], rfl, rfl⟩ (by decide) (by decide) zd_A_outside_15
set_option maxRecDepth 100000 in
set_option maxHeartbeats 4000000 in
theorem kc_isIn {l : Launch} (hls : l.stackTraces = false) {D : va_G} {w : wd_T} {S : Nat → Nat → Int32} {L : Nat → Nat → Int64} (h12 : w.2.2.1 ≤ 12) {u : Nat} (hu : u < w.2.2.1) (g : Int32) : ct_M l D w zy_A_isIn (Cond.code zy_A_isIn zb_A_isIn 3 (Option.some Jvm.ClassFile.FieldType.boolean)) ({ frames := 0, cells := 0, slots := 0, locals := 0 } : Room) [av_r 0, av_i (nI u), av_i g] S L (po_i (bi_of (fa_in S u g)) S L) 0 0 := by
  refine ct_intro hls (own := zn_A) (by decide) rfl (Nat.le_of_ble_eq_true rfl) ?_
  refine jd_aload_n zd_A_isIn_0 rfl ?_
  refine jd_get rfl rfl zl_A 0 (by decide) zi_142 rfl rfl rfl (by decide) zd_A_isIn_1 ?_
  refine jd_iload_n zd_A_isIn_4 rfl ?_
  refine jd_unit rfl hu h12 zd_A_isIn_5 ?_
  refine jd_get (ac_U (by omega)) rfl zl_U 5 (by decide) zi_347 rfl rfl (rl_U (by omega)) (by omega) zd_A_isIn_6 ?_
  refine jd_if_ne 29 zd_A_isIn_9 (by decide) (fun h_9 => ?_) (fun h_9 => ?_)
  · refine jd_iconst (v := 0) zd_A_isIn_29 (by decide) ?_
    exact jd_zret rfl (by first | rfl | decide | assumption) ⟨by simp_all [bi_of, fa_in], rfl, rfl⟩ (by decide) (by decide) zd_A_isIn_30
  · refine jd_aload_n zd_A_isIn_12 rfl ?_
    refine jd_get rfl rfl zl_A 0 (by decide) zi_142 rfl rfl rfl (by decide) zd_A_isIn_13 ?_
    refine jd_iload_n zd_A_isIn_16 rfl ?_
    refine jd_unit rfl hu h12 zd_A_isIn_17 ?_
    refine jd_get (ac_U (by omega)) rfl zl_U 2 (by decide) zi_341 rfl rfl (rl_U (by omega)) (by omega) zd_A_isIn_18 ?_
    refine jd_iload_n zd_A_isIn_21 rfl ?_
    refine jd_icmp_ne 29 zd_A_isIn_22 (by decide) (fun h_22 => ?_) (fun h_22 => ?_)
    · refine jd_iconst (v := 0) zd_A_isIn_29 (by decide) ?_
      exact jd_zret rfl (by first | rfl | decide | assumption) ⟨by simp_all [bi_of, fa_in], rfl, rfl⟩ (by decide) (by decide) zd_A_isIn_30
    · refine jd_iconst (v := 1) zd_A_isIn_25 (by decide) ?_
      refine jd_goto 30 zd_A_isIn_26 (by decide) ?_
      exact jd_zret rfl (by first | rfl | decide | assumption) ⟨by simp_all [bi_of, fa_in], rfl, rfl⟩ (by decide) (by decide) zd_A_isIn_30
set_option maxRecDepth 100000 in
set_option maxHeartbeats 4000000 in
theorem kc_isGroup {l : Launch} (hls : l.stackTraces = false) {D : va_G} {w : wd_T} {S : Nat → Nat → Int32} {L : Nat → Nat → Int64} (h12 : w.2.2.1 ≤ 12) {u : Nat} (hu : u < w.2.2.1) : ct_M l D w zy_A_isGroup (Cond.code zy_A_isGroup zb_A_isGroup 2 (Option.some Jvm.ClassFile.FieldType.boolean)) ({ frames := 1, cells := 0, slots := 0, locals := 22 } : Room) [av_r 0, av_i (nI u)] S L (po_i (bi_of (fa_gr S u)) S L) 0 0 := by
  refine ct_intro hls (own := zn_A) (by decide) rfl (Nat.le_of_ble_eq_true rfl) ?_
  refine jd_aload_n zd_A_isGroup_0 rfl ?_
  refine jd_iload_n zd_A_isGroup_1 rfl ?_
  refine jd_iload_n zd_A_isGroup_2 rfl ?_
  refine jd_callV (n := 2) (kc_isIn hls h12 hu (nI u)) rfl rfl rfl rfl (by decide) zi_188 zi_190 zi_1 zi_41 zi_191 (by decide +kernel) rfl rfl rfl (by decide) (Nat.le_of_ble_eq_true rfl) (by decide) zd_A_isGroup_3 (fun _ _ _ h => h.elim) (fun v S2 L2 hq => ?_)
  obtain ⟨rfl, rfl, rfl⟩ := hq
  exact jd_zret rfl (bi_nar _) ⟨rfl, rfl, rfl⟩ (by decide) (by decide) zd_A_isGroup_6
set_option maxRecDepth 100000 in
set_option maxHeartbeats 4000000 in
theorem kc_isPlanned {l : Launch} (hls : l.stackTraces = false) {D : va_G} {w : wd_T} {S : Nat → Nat → Int32} {L : Nat → Nat → Int64} {u : Nat} (hu : u < w.2.2.1) (h12 : w.2.2.1 ≤ 12) : ct_M l D w zy_A_isPlanned (Cond.code zy_A_isPlanned zb_A_isPlanned 1 (Option.some Jvm.ClassFile.FieldType.boolean)) ({ frames := 0, cells := 0, slots := 0, locals := 0 } : Room) [av_r (100 + u)] S L (po_i (bi_of (fa_pl S u)) S L) 0 0 := by
  refine ct_intro hls (own := zn_A) (by decide) rfl (Nat.le_of_ble_eq_true rfl) ?_
  refine jd_aload_n zd_A_isPlanned_0 rfl ?_
  refine jd_get (ac_U (by omega)) rfl zl_U 5 (by decide) zi_347 rfl rfl (rl_U (by omega)) (by omega) zd_A_isPlanned_1 ?_
  refine jd_if_ne 19 zd_A_isPlanned_4 (by decide) (fun h_4 => ?_) (fun h_4 => ?_)
  · refine jd_iconst (v := 0) zd_A_isPlanned_19 (by decide) ?_
    exact jd_zret rfl (by first | rfl | decide | assumption) ⟨by simp_all [bi_of, fa_pl], rfl, rfl⟩ (by decide) (by decide) zd_A_isPlanned_20
  · refine jd_aload_n zd_A_isPlanned_7 rfl ?_
    refine jd_get (ac_U (by omega)) rfl zl_U 3 (by decide) zi_343 rfl rfl (rl_U (by omega)) (by omega) zd_A_isPlanned_8 ?_
    refine jd_iconst (v := (-1)) zd_A_isPlanned_11 (by decide) ?_
    refine jd_icmp_eq 19 zd_A_isPlanned_12 (by decide) (fun h_12 => ?_) (fun h_12 => ?_)
    · refine jd_iconst (v := 0) zd_A_isPlanned_19 (by decide) ?_
      exact jd_zret rfl (by first | rfl | decide | assumption) ⟨by simp_all [bi_of, fa_pl], rfl, rfl⟩ (by decide) (by decide) zd_A_isPlanned_20
    · refine jd_iconst (v := 1) zd_A_isPlanned_15 (by decide) ?_
      refine jd_goto 20 zd_A_isPlanned_16 (by decide) ?_
      exact jd_zret rfl (by first | rfl | decide | assumption) ⟨by simp_all [bi_of, fa_pl], rfl, rfl⟩ (by decide) (by decide) zd_A_isPlanned_20
set_option maxRecDepth 100000 in
set_option maxHeartbeats 4000000 in
theorem kl_groupCount {l : Launch} (hls : l.stackTraces = false) {D : va_G} {w : wd_T} {S : Nat → Nat → Int32} {L : Nat → Nat → Int64} (hN : ok_N w S) {Qp : jd_P} (hQ : Qp.1 (some (av_i (fa_cnt S w.2.2.1))) S L) : ∀ (k u : Nat), u ≤ w.2.2.1 → w.2.2.1 < u + k → ∀ c : Int32, c = fa_cnt S u → jd_J l D w zn_A zb_A_groupCount 3 (Option.some Jvm.ClassFile.FieldType.int) [] ({ frames := 2, cells := 0, slots := 0, locals := 43 } : Room) 0 0 Qp 0 0 4 [(0, av_r 0), (1, av_i c), (2, av_i (nI u))] [] S L := by
  have h12 := hN.1
  intro k
  induction k with
  | zero => intro u h1 h2; omega
  | succ k ih =>
    intro u hu hk c hc
    refine jd_iload_n zd_A_groupCount_4 rfl ?_
    refine jd_aload_n zd_A_groupCount_5 rfl ?_
    refine jd_get rfl rfl zl_A 6 (by decide) zi_148 rfl rfl rfl (by decide) zd_A_groupCount_6 ?_
    refine jd_icmp_ge 29 zd_A_groupCount_9 (by decide) (fun h_9 => ?_) (fun h_9 => ?_)
    · have e_u := nI_end hN.2.2.1 (by omega) hu h_9
      subst e_u
      refine jd_iload_n zd_A_groupCount_29 rfl ?_
      exact jd_iret rfl (by rw [hc]; exact hQ) (by decide) (by decide) zd_A_groupCount_30
    · have hu2 := nI_on hN.2.2.1 (by omega) hu h_9
      refine jd_aload_n zd_A_groupCount_12 rfl ?_
      refine jd_iload_n zd_A_groupCount_13 rfl ?_
      refine jd_callV (n := 1) (kc_isGroup hls (by omega) hu2) rfl rfl rfl rfl (by decide) zi_184 zi_186 zi_0 zi_41 zi_187 (by decide +kernel) rfl rfl rfl (by decide) (Nat.le_of_ble_eq_true rfl) (by decide) zd_A_groupCount_14 (fun _ _ _ h => h.elim) (fun v S2 L2 hq => ?_)
      obtain ⟨rfl, rfl, rfl⟩ := hq
      refine jd_if_eq 23 zd_A_groupCount_17 (by decide) (fun h_17 => ?_) (fun h_17 => ?_)
      · refine jd_iinc (v := nI (u + 1)) zd_A_groupCount_23 rfl (nI_inc u) (by decide) ?_
        refine jd_goto 4 zd_A_groupCount_26 (by decide) ?_
        exact jd_sub [(0, av_r 0), (1, av_i _), (2, av_i (nI (u + 1)))] ⟨rfl, rfl, rfl, trivial⟩ (ih (u + 1) (by omega) (by omega) _ (by simp_all [fa_cnt, bi_of]))
      · refine jd_iinc (v := c + 1) zd_A_groupCount_20 rfl rfl (by decide) ?_
        refine jd_iinc (v := nI (u + 1)) zd_A_groupCount_23 rfl (nI_inc u) (by decide) ?_
        refine jd_goto 4 zd_A_groupCount_26 (by decide) ?_
        exact jd_sub [(0, av_r 0), (1, av_i _), (2, av_i (nI (u + 1)))] ⟨rfl, rfl, rfl, trivial⟩ (ih (u + 1) (by omega) (by omega) _ (by simp_all [fa_cnt, bi_of]))
set_option maxRecDepth 100000 in
set_option maxHeartbeats 4000000 in
theorem kc_groupCount {l : Launch} (hls : l.stackTraces = false) {D : va_G} {w : wd_T} {S : Nat → Nat → Int32} {L : Nat → Nat → Int64} (hN : ok_N w S) : ct_M l D w zy_A_groupCount (Cond.code zy_A_groupCount zb_A_groupCount 3 (Option.some Jvm.ClassFile.FieldType.int)) ({ frames := 2, cells := 0, slots := 0, locals := 43 } : Room) [av_r 0] S L (po_i (fa_cnt S w.2.2.1) S L) 0 0 := by
  refine ct_intro hls (own := zn_A) (by decide) rfl (Nat.le_of_ble_eq_true rfl) ?_
  refine jd_iconst (v := 0) zd_A_groupCount_0 (by decide) ?_
  refine jd_istore_n zd_A_groupCount_1 (by decide) ?_
  refine jd_iconst (v := 0) zd_A_groupCount_2 (by decide) ?_
  refine jd_istore_n zd_A_groupCount_3 (by decide) ?_
  exact jd_sub [(0, av_r 0), (1, av_i 0), (2, av_i (nI 0))] ⟨rfl, rfl, rfl, trivial⟩ (kl_groupCount (Qp := po_i (fa_cnt S w.2.2.1) S L) hls hN ⟨rfl, rfl, rfl⟩ (w.2.2.1 + 1) 0 (by omega) (by omega) 0 rfl)
