/-! THE CLASS: writers, groups, rules and costs (rows by wip/whole/gen/a3.py) -/
set_option maxRecDepth 100000 in
set_option maxHeartbeats 4000000 in
theorem kl_join {l : Launch} (hls : l.stackTraces = false) {D : va_G} {w : wd_T} {S : Nat → Nat → Int32} {L : Nat → Nat → Int64} (hN : ok_N w S) (g other : Int32) {Qp : jd_P} (hQ : Qp.1 none (fa_wr S (fun u => fa_in S u other) (fun row => upd row 2 g) w.2.2.1) L) : ∀ (k u : Nat), u ≤ w.2.2.1 → w.2.2.1 < u + k → jd_J l D w zn_A zb_A_join 4 (Option.none : Option Jvm.ClassFile.FieldType) [] ({ frames := 1, cells := 0, slots := 0, locals := 22 } : Room) 0 0 Qp 0 0 2 [(0, av_r 0), (1, av_i g), (2, av_i other), (3, av_i (nI u))] [] (fa_wr S (fun u => fa_in S u other) (fun row => upd row 2 g) u) L := by
  have h12 := hN.1
  intro k
  induction k with
  | zero => intro u h1 h2; omega
  | succ k ih =>
    intro u hu hk
    refine jd_iload_n zd_A_join_2 rfl ?_
    refine jd_aload_n zd_A_join_3 rfl ?_
    refine jd_get rfl rfl zl_A 6 (by decide) zi_148 rfl rfl rfl (by decide) zd_A_join_4 ?_
    refine jd_icmp_ge 35 zd_A_join_7 (by decide) (fun h_7 => ?_) (fun h_7 => ?_)
    · have e_u := nI_end (ok_N_wr hN).2.2.1 (by omega) hu h_7
      subst e_u
      exact jd_vret rfl hQ (by decide) (by decide) zd_A_join_35
    · have hu2 := nI_on (ok_N_wr hN).2.2.1 (by omega) hu h_7
      refine jd_aload_n zd_A_join_10 rfl ?_
      refine jd_iload_n zd_A_join_11 rfl ?_
      refine jd_iload_n zd_A_join_12 rfl ?_
      refine jd_callV (n := 2) (kc_isIn hls h12 hu2 other) rfl rfl rfl rfl (by decide) zi_188 zi_190 zi_1 zi_41 zi_191 (by decide +kernel) rfl rfl rfl (by decide) (Nat.le_of_ble_eq_true rfl) (by decide) zd_A_join_13 (fun _ _ _ h => h.elim) (fun v S2 L2 hq => ?_)
      obtain ⟨rfl, rfl, rfl⟩ := hq
      rw [fa_in_wr]
      refine jd_if_eq 29 zd_A_join_16 (by decide) (fun h_16 => ?_) (fun h_16 => ?_)
      · refine jd_iinc (v := nI (u + 1)) zd_A_join_29 rfl (nI_inc u) (by decide) ?_
        refine jd_goto 2 zd_A_join_32 (by decide) ?_
        refine jd_eqS (S' := (fa_wr S (fun u => fa_in S u other) (fun row => upd row 2 g) (u + 1))) (by cases hg : fa_in S u other <;> simp_all [fa_wr, bi_of, fa_wr_at]) ?_
        exact jd_sub [(0, av_r 0), (1, av_i g), (2, av_i other), (3, av_i (nI (u + 1)))] ⟨rfl, rfl, rfl, rfl, trivial⟩ (ih (u + 1) (by omega) (by omega))
      · refine jd_aload_n zd_A_join_19 rfl ?_
        refine jd_get rfl rfl zl_A 0 (by decide) zi_142 rfl rfl rfl (by decide) zd_A_join_20 ?_
        refine jd_iload_n zd_A_join_23 rfl ?_
        refine jd_unit rfl hu2 h12 zd_A_join_24 ?_
        refine jd_iload_n zd_A_join_25 rfl ?_
        refine jd_put (ac_U (by omega)) rfl zl_U zp_U zm_U 2 (by decide) zi_341 rfl rfl rfl rfl rfl (Nat.le_of_ble_eq_true rfl) (ac_U (by omega)) (rl_U (by omega)) (by omega) zd_A_join_26 ?_
        refine jd_iinc (v := nI (u + 1)) zd_A_join_29 rfl (nI_inc u) (by decide) ?_
        refine jd_goto 2 zd_A_join_32 (by decide) ?_
        refine jd_eqS (S' := (fa_wr S (fun u => fa_in S u other) (fun row => upd row 2 g) (u + 1))) (by cases hg : fa_in S u other <;> simp_all [fa_wr, bi_of, fa_wr_at]) ?_
        exact jd_sub [(0, av_r 0), (1, av_i g), (2, av_i other), (3, av_i (nI (u + 1)))] ⟨rfl, rfl, rfl, rfl, trivial⟩ (ih (u + 1) (by omega) (by omega))
set_option maxRecDepth 100000 in
set_option maxHeartbeats 4000000 in
theorem kc_join {l : Launch} (hls : l.stackTraces = false) {D : va_G} {w : wd_T} {S : Nat → Nat → Int32} {L : Nat → Nat → Int64} (hN : ok_N w S) (g other : Int32) : ct_M l D w zy_A_join (Cond.code zy_A_join zb_A_join 4 (Option.none : Option Jvm.ClassFile.FieldType)) ({ frames := 1, cells := 0, slots := 0, locals := 22 } : Room) [av_r 0, av_i g, av_i other] S L (po_S (fa_wr S (fun u => fa_in S u other) (fun row => upd row 2 g) w.2.2.1) L) 0 0 := by
  refine ct_intro hls (own := zn_A) (by decide) rfl (Nat.le_of_ble_eq_true rfl) ?_
  refine jd_iconst (v := 0) zd_A_join_0 (by decide) ?_
  refine jd_istore_n zd_A_join_1 (by decide) ?_
  exact jd_sub [(0, av_r 0), (1, av_i g), (2, av_i other), (3, av_i (nI 0))] ⟨rfl, rfl, rfl, rfl, trivial⟩ (kl_join (Qp := po_S (fa_wr S (fun u => fa_in S u other) (fun row => upd row 2 g) w.2.2.1) L) hls hN g other ⟨rfl, rfl, rfl⟩ (w.2.2.1 + 1) 0 (by omega) (by omega))
set_option maxRecDepth 100000 in
set_option maxHeartbeats 4000000 in
theorem kl_planFor {l : Launch} (hls : l.stackTraces = false) {D : va_G} {w : wd_T} {S : Nat → Nat → Int32} {L : Nat → Nat → Int64} (hN : ok_N w S) (g x : Int32) {Qp : jd_P} (hQ : Qp.1 none (fa_wr S (fun u => fa_in S u g) (fun row => upd row 3 x) w.2.2.1) L) : ∀ (k u : Nat), u ≤ w.2.2.1 → w.2.2.1 < u + k → jd_J l D w zn_A zb_A_planFor 4 (Option.none : Option Jvm.ClassFile.FieldType) [] ({ frames := 1, cells := 0, slots := 0, locals := 22 } : Room) 0 0 Qp 0 0 2 [(0, av_r 0), (1, av_i g), (2, av_i x), (3, av_i (nI u))] [] (fa_wr S (fun u => fa_in S u g) (fun row => upd row 3 x) u) L := by
  have h12 := hN.1
  intro k
  induction k with
  | zero => intro u h1 h2; omega
  | succ k ih =>
    intro u hu hk
    refine jd_iload_n zd_A_planFor_2 rfl ?_
    refine jd_aload_n zd_A_planFor_3 rfl ?_
    refine jd_get rfl rfl zl_A 6 (by decide) zi_148 rfl rfl rfl (by decide) zd_A_planFor_4 ?_
    refine jd_icmp_ge 35 zd_A_planFor_7 (by decide) (fun h_7 => ?_) (fun h_7 => ?_)
    · have e_u := nI_end (ok_N_wr hN).2.2.1 (by omega) hu h_7
      subst e_u
      exact jd_vret rfl hQ (by decide) (by decide) zd_A_planFor_35
    · have hu2 := nI_on (ok_N_wr hN).2.2.1 (by omega) hu h_7
      refine jd_aload_n zd_A_planFor_10 rfl ?_
      refine jd_iload_n zd_A_planFor_11 rfl ?_
      refine jd_iload_n zd_A_planFor_12 rfl ?_
      refine jd_callV (n := 2) (kc_isIn hls h12 hu2 g) rfl rfl rfl rfl (by decide) zi_188 zi_190 zi_1 zi_41 zi_191 (by decide +kernel) rfl rfl rfl (by decide) (Nat.le_of_ble_eq_true rfl) (by decide) zd_A_planFor_13 (fun _ _ _ h => h.elim) (fun v S2 L2 hq => ?_)
      obtain ⟨rfl, rfl, rfl⟩ := hq
      rw [fa_in_wr]
      refine jd_if_eq 29 zd_A_planFor_16 (by decide) (fun h_16 => ?_) (fun h_16 => ?_)
      · refine jd_iinc (v := nI (u + 1)) zd_A_planFor_29 rfl (nI_inc u) (by decide) ?_
        refine jd_goto 2 zd_A_planFor_32 (by decide) ?_
        refine jd_eqS (S' := (fa_wr S (fun u => fa_in S u g) (fun row => upd row 3 x) (u + 1))) (by cases hg : fa_in S u g <;> simp_all [fa_wr, bi_of, fa_wr_at]) ?_
        exact jd_sub [(0, av_r 0), (1, av_i g), (2, av_i x), (3, av_i (nI (u + 1)))] ⟨rfl, rfl, rfl, rfl, trivial⟩ (ih (u + 1) (by omega) (by omega))
      · refine jd_aload_n zd_A_planFor_19 rfl ?_
        refine jd_get rfl rfl zl_A 0 (by decide) zi_142 rfl rfl rfl (by decide) zd_A_planFor_20 ?_
        refine jd_iload_n zd_A_planFor_23 rfl ?_
        refine jd_unit rfl hu2 h12 zd_A_planFor_24 ?_
        refine jd_iload_n zd_A_planFor_25 rfl ?_
        refine jd_put (ac_U (by omega)) rfl zl_U zp_U zm_U 3 (by decide) zi_343 rfl rfl rfl rfl rfl (Nat.le_of_ble_eq_true rfl) (ac_U (by omega)) (rl_U (by omega)) (by omega) zd_A_planFor_26 ?_
        refine jd_iinc (v := nI (u + 1)) zd_A_planFor_29 rfl (nI_inc u) (by decide) ?_
        refine jd_goto 2 zd_A_planFor_32 (by decide) ?_
        refine jd_eqS (S' := (fa_wr S (fun u => fa_in S u g) (fun row => upd row 3 x) (u + 1))) (by cases hg : fa_in S u g <;> simp_all [fa_wr, bi_of, fa_wr_at]) ?_
        exact jd_sub [(0, av_r 0), (1, av_i g), (2, av_i x), (3, av_i (nI (u + 1)))] ⟨rfl, rfl, rfl, rfl, trivial⟩ (ih (u + 1) (by omega) (by omega))
set_option maxRecDepth 100000 in
set_option maxHeartbeats 4000000 in
theorem kc_planFor {l : Launch} (hls : l.stackTraces = false) {D : va_G} {w : wd_T} {S : Nat → Nat → Int32} {L : Nat → Nat → Int64} (hN : ok_N w S) (g x : Int32) : ct_M l D w zy_A_planFor (Cond.code zy_A_planFor zb_A_planFor 4 (Option.none : Option Jvm.ClassFile.FieldType)) ({ frames := 1, cells := 0, slots := 0, locals := 22 } : Room) [av_r 0, av_i g, av_i x] S L (po_S (fa_wr S (fun u => fa_in S u g) (fun row => upd row 3 x) w.2.2.1) L) 0 0 := by
  refine ct_intro hls (own := zn_A) (by decide) rfl (Nat.le_of_ble_eq_true rfl) ?_
  refine jd_iconst (v := 0) zd_A_planFor_0 (by decide) ?_
  refine jd_istore_n zd_A_planFor_1 (by decide) ?_
  exact jd_sub [(0, av_r 0), (1, av_i g), (2, av_i x), (3, av_i (nI 0))] ⟨rfl, rfl, rfl, rfl, trivial⟩ (kl_planFor (Qp := po_S (fa_wr S (fun u => fa_in S u g) (fun row => upd row 3 x) w.2.2.1) L) hls hN g x ⟨rfl, rfl, rfl⟩ (w.2.2.1 + 1) 0 (by omega) (by omega))
set_option maxRecDepth 100000 in
set_option maxHeartbeats 4000000 in
theorem kl_finish {l : Launch} (hls : l.stackTraces = false) {D : va_G} {w : wd_T} {S : Nat → Nat → Int32} {L : Nat → Nat → Int64} (hN : ok_N w S) (g : Int32) {Qp : jd_P} (hQ : Qp.1 none (fa_wr S (fun u => fa_in S u g) (fun row => upd row 5 1) w.2.2.1) L) : ∀ (k u : Nat), u ≤ w.2.2.1 → w.2.2.1 < u + k → jd_J l D w zn_A zb_A_finish 3 (Option.none : Option Jvm.ClassFile.FieldType) [] ({ frames := 1, cells := 0, slots := 0, locals := 22 } : Room) 0 0 Qp 0 0 2 [(0, av_r 0), (1, av_i g), (2, av_i (nI u))] [] (fa_wr S (fun u => fa_in S u g) (fun row => upd row 5 1) u) L := by
  have h12 := hN.1
  intro k
  induction k with
  | zero => intro u h1 h2; omega
  | succ k ih =>
    intro u hu hk
    refine jd_iload_n zd_A_finish_2 rfl ?_
    refine jd_aload_n zd_A_finish_3 rfl ?_
    refine jd_get rfl rfl zl_A 6 (by decide) zi_148 rfl rfl rfl (by decide) zd_A_finish_4 ?_
    refine jd_icmp_ge 35 zd_A_finish_7 (by decide) (fun h_7 => ?_) (fun h_7 => ?_)
    · have e_u := nI_end (ok_N_wr hN).2.2.1 (by omega) hu h_7
      subst e_u
      exact jd_vret rfl hQ (by decide) (by decide) zd_A_finish_35
    · have hu2 := nI_on (ok_N_wr hN).2.2.1 (by omega) hu h_7
      refine jd_aload_n zd_A_finish_10 rfl ?_
      refine jd_iload_n zd_A_finish_11 rfl ?_
      refine jd_iload_n zd_A_finish_12 rfl ?_
      refine jd_callV (n := 2) (kc_isIn hls h12 hu2 g) rfl rfl rfl rfl (by decide) zi_188 zi_190 zi_1 zi_41 zi_191 (by decide +kernel) rfl rfl rfl (by decide) (Nat.le_of_ble_eq_true rfl) (by decide) zd_A_finish_13 (fun _ _ _ h => h.elim) (fun v S2 L2 hq => ?_)
      obtain ⟨rfl, rfl, rfl⟩ := hq
      rw [fa_in_wr]
      refine jd_if_eq 29 zd_A_finish_16 (by decide) (fun h_16 => ?_) (fun h_16 => ?_)
      · refine jd_iinc (v := nI (u + 1)) zd_A_finish_29 rfl (nI_inc u) (by decide) ?_
        refine jd_goto 2 zd_A_finish_32 (by decide) ?_
        refine jd_eqS (S' := (fa_wr S (fun u => fa_in S u g) (fun row => upd row 5 1) (u + 1))) (by cases hg : fa_in S u g <;> simp_all [fa_wr, bi_of, fa_wr_at]) ?_
        exact jd_sub [(0, av_r 0), (1, av_i g), (2, av_i (nI (u + 1)))] ⟨rfl, rfl, rfl, trivial⟩ (ih (u + 1) (by omega) (by omega))
      · refine jd_aload_n zd_A_finish_19 rfl ?_
        refine jd_get rfl rfl zl_A 0 (by decide) zi_142 rfl rfl rfl (by decide) zd_A_finish_20 ?_
        refine jd_iload_n zd_A_finish_23 rfl ?_
        refine jd_unit rfl hu2 h12 zd_A_finish_24 ?_
        refine jd_iconst (v := 1) zd_A_finish_25 (by decide) ?_
        refine jd_put (ac_U (by omega)) rfl zl_U zp_U zm_U 5 (by decide) zi_347 rfl rfl rfl (by first | rfl | decide | assumption) (by first | rfl | decide | assumption) (Nat.le_of_ble_eq_true rfl) (ac_U (by omega)) (rl_U (by omega)) (by omega) zd_A_finish_26 ?_
        refine jd_iinc (v := nI (u + 1)) zd_A_finish_29 rfl (nI_inc u) (by decide) ?_
        refine jd_goto 2 zd_A_finish_32 (by decide) ?_
        refine jd_eqS (S' := (fa_wr S (fun u => fa_in S u g) (fun row => upd row 5 1) (u + 1))) (by cases hg : fa_in S u g <;> simp_all [fa_wr, bi_of, fa_wr_at]) ?_
        exact jd_sub [(0, av_r 0), (1, av_i g), (2, av_i (nI (u + 1)))] ⟨rfl, rfl, rfl, trivial⟩ (ih (u + 1) (by omega) (by omega))
set_option maxRecDepth 100000 in
set_option maxHeartbeats 4000000 in
theorem kc_finish {l : Launch} (hls : l.stackTraces = false) {D : va_G} {w : wd_T} {S : Nat → Nat → Int32} {L : Nat → Nat → Int64} (hN : ok_N w S) (g : Int32) : ct_M l D w zy_A_finish (Cond.code zy_A_finish zb_A_finish 3 (Option.none : Option Jvm.ClassFile.FieldType)) ({ frames := 1, cells := 0, slots := 0, locals := 22 } : Room) [av_r 0, av_i g] S L (po_S (fa_wr S (fun u => fa_in S u g) (fun row => upd row 5 1) w.2.2.1) L) 0 0 := by
  refine ct_intro hls (own := zn_A) (by decide) rfl (Nat.le_of_ble_eq_true rfl) ?_
  refine jd_iconst (v := 0) zd_A_finish_0 (by decide) ?_
  refine jd_istore_n zd_A_finish_1 (by decide) ?_
  exact jd_sub [(0, av_r 0), (1, av_i g), (2, av_i (nI 0))] ⟨rfl, rfl, rfl, trivial⟩ (kl_finish (Qp := po_S (fa_wr S (fun u => fa_in S u g) (fun row => upd row 5 1) w.2.2.1) L) hls hN g ⟨rfl, rfl, rfl⟩ (w.2.2.1 + 1) 0 (by omega) (by omega))
set_option maxRecDepth 100000 in
set_option maxHeartbeats 4000000 in
theorem kc_clear {l : Launch} (hls : l.stackTraces = false) {D : va_G} {w : wd_T} {S : Nat → Nat → Int32} {L : Nat → Nat → Int64} (n : Int32) : ct_M l D w zy_G_clear (Cond.code zy_G_clear zb_G_clear 2 (Option.none : Option Jvm.ClassFile.FieldType)) ({ frames := 0, cells := 0, slots := 0, locals := 0 } : Room) [av_r 4, av_i n] S L (po_S (va_up S 4 (fa_g0 n)) L) 0 0 := by
  refine ct_intro hls (own := zn_G) (by decide) rfl (Nat.le_of_ble_eq_true rfl) ?_
  refine jd_aload_n zd_G_clear_0 rfl ?_
  refine jd_iload_n zd_G_clear_1 rfl ?_
  refine jd_put rfl rfl zl_G zp_G zm_G 0 (by decide) zi_74 rfl rfl rfl rfl rfl (Nat.le_of_ble_eq_true rfl) rfl rfl (by decide) zd_G_clear_2 ?_
  try simp only [up_44, bx_uu, up_4u]
  refine jd_aload_n zd_G_clear_5 rfl ?_
  refine jd_iconst (v := 0) zd_G_clear_6 (by decide) ?_
  refine jd_put rfl rfl zl_G zp_G zm_G 1 (by decide) zi_76 rfl rfl rfl rfl rfl (Nat.le_of_ble_eq_true rfl) rfl rfl (by decide) zd_G_clear_7 ?_
  try simp only [up_44, bx_uu, up_4u]
  refine jd_aload_n zd_G_clear_10 rfl ?_
  refine jd_iconst (v := 0) zd_G_clear_11 (by decide) ?_
  refine jd_put rfl rfl zl_G zp_G zm_G 2 (by decide) zi_78 rfl rfl rfl rfl rfl (Nat.le_of_ble_eq_true rfl) rfl rfl (by decide) zd_G_clear_12 ?_
  try simp only [up_44, bx_uu, up_4u]
  refine jd_aload_n zd_G_clear_15 rfl ?_
  refine jd_iconst (v := 0) zd_G_clear_16 (by decide) ?_
  refine jd_put rfl rfl zl_G zp_G zm_G 3 (by decide) zi_80 rfl rfl rfl rfl rfl (Nat.le_of_ble_eq_true rfl) rfl rfl (by decide) zd_G_clear_17 ?_
  try simp only [up_44, bx_uu, up_4u]
  refine jd_aload_n zd_G_clear_20 rfl ?_
  refine jd_iconst (v := 0) zd_G_clear_21 (by decide) ?_
  refine jd_put rfl rfl zl_G zp_G zm_G 4 (by decide) zi_82 rfl rfl rfl rfl rfl (Nat.le_of_ble_eq_true rfl) rfl rfl (by decide) zd_G_clear_22 ?_
  try simp only [up_44, bx_uu, up_4u]
  refine jd_aload_n zd_G_clear_25 rfl ?_
  refine jd_iconst (v := 0) zd_G_clear_26 (by decide) ?_
  refine jd_put rfl rfl zl_G zp_G zm_G 5 (by decide) zi_84 rfl rfl rfl rfl rfl (Nat.le_of_ble_eq_true rfl) rfl rfl (by decide) zd_G_clear_27 ?_
  try simp only [up_44, bx_uu, up_4u]
  refine jd_aload_n zd_G_clear_30 rfl ?_
  refine jd_iconst (v := (-1)) zd_G_clear_31 (by decide) ?_
  refine jd_put rfl rfl zl_G zp_G zm_G 6 (by decide) zi_86 rfl rfl rfl rfl rfl (Nat.le_of_ble_eq_true rfl) rfl rfl (by decide) zd_G_clear_32 ?_
  try simp only [up_44, bx_uu, up_4u]
  refine jd_same (S' := va_up S 4 (fa_g0 n)) (L' := L) (wd_same4 (fun k hk => by rcases (show k = 0 ∨ k = 1 ∨ k = 2 ∨ k = 3 ∨ k = 4 ∨ k = 5 ∨ k = 6 by omega) with rfl | rfl | rfl | rfl | rfl | rfl | rfl <;> simp_all [upd, fa_g0, fa_tk, up_44])) ?_
  exact jd_vret rfl ⟨rfl, rfl, rfl⟩ (by decide) (by decide) zd_G_clear_35
set_option maxRecDepth 100000 in
set_option maxHeartbeats 4000000 in
theorem kc_take {l : Launch} (hls : l.stackTraces = false) {D : va_G} {w : wd_T} {S : Nat → Nat → Int32} {L : Nat → Nat → Int64} (h12 : w.2.2.1 ≤ 12) {u : Nat} (hu : u < w.2.2.1) (wt : Int32) : ct_M l D w zy_G_take (Cond.code zy_G_take zb_G_take 3 (Option.none : Option Jvm.ClassFile.FieldType)) ({ frames := 1, cells := 0, slots := 0, locals := 21 } : Room) [av_r 4, av_r (100 + u), av_i wt] S L (po_S (va_up S 4 (fa_tk (S 4) (S (100 + u)) wt)) L) 0 0 := by
  refine ct_intro hls (own := zn_G) (by decide) rfl (Nat.le_of_ble_eq_true rfl) ?_
  refine jd_aload_n zd_G_take_0 rfl ?_
  refine jd_dup zd_G_take_1 rfl ?_
  refine jd_get rfl rfl zl_G 1 (by decide) zi_76 rfl rfl rfl (by decide) zd_G_take_2 ?_
  refine jd_iconst (v := 1) zd_G_take_5 (by decide) ?_
  refine jd_iadd zd_G_take_6 ?_
  refine jd_put rfl rfl zl_G zp_G zm_G 1 (by decide) zi_76 rfl rfl rfl rfl rfl (Nat.le_of_ble_eq_true rfl) rfl rfl (by decide) zd_G_take_7 ?_
  try simp only [up_44, bx_uu, up_4u]
  refine jd_aload_n zd_G_take_10 rfl ?_
  refine jd_dup zd_G_take_11 rfl ?_
  refine jd_get rfl rfl zl_G 2 (by decide) zi_78 rfl rfl rfl (by decide) zd_G_take_12 ?_
  refine jd_aload_n zd_G_take_15 rfl ?_
  refine jd_get (ac_U (by omega)) rfl zl_U 1 (by decide) zi_338 rfl rfl (rl_U (by omega)) (by omega) zd_G_take_16 ?_
  try simp only [up_44, bx_uu, up_4u]
  refine jd_iadd zd_G_take_19 ?_
  refine jd_put rfl rfl zl_G zp_G zm_G 2 (by decide) zi_78 rfl rfl rfl rfl rfl (Nat.le_of_ble_eq_true rfl) rfl rfl (by decide) zd_G_take_20 ?_
  try simp only [up_44, bx_uu, up_4u]
  refine jd_aload_n zd_G_take_23 rfl ?_
  refine jd_aload_n zd_G_take_24 rfl ?_
  refine jd_get rfl rfl zl_G 3 (by decide) zi_80 rfl rfl rfl (by decide) zd_G_take_25 ?_
  refine jd_iload_n zd_G_take_28 rfl ?_
  refine jd_max zi_204 zi_205 zi_54 zi_206 (by decide) (by decide) (by decide) (by decide) zd_G_take_29 ?_
  refine jd_put rfl rfl zl_G zp_G zm_G 3 (by decide) zi_80 rfl rfl rfl rfl rfl (Nat.le_of_ble_eq_true rfl) rfl rfl (by decide) zd_G_take_32 ?_
  try simp only [up_44, bx_uu, up_4u]
  refine jd_aload_n zd_G_take_35 rfl ?_
  refine jd_dup zd_G_take_36 rfl ?_
  refine jd_get rfl rfl zl_G 4 (by decide) zi_82 rfl rfl rfl (by decide) zd_G_take_37 ?_
  refine jd_iconst (v := 1) zd_G_take_40 (by decide) ?_
  refine jd_aload_n zd_G_take_41 rfl ?_
  refine jd_get (ac_U (by omega)) rfl zl_U 0 (by decide) zi_335 rfl rfl (rl_U (by omega)) (by omega) zd_G_take_42 ?_
  try simp only [up_44, bx_uu, up_4u]
  refine jd_ishl zd_G_take_45 ?_
  refine jd_ior zd_G_take_46 ?_
  refine jd_put rfl rfl zl_G zp_G zm_G 4 (by decide) zi_82 rfl rfl rfl rfl rfl (Nat.le_of_ble_eq_true rfl) rfl rfl (by decide) zd_G_take_47 ?_
  try simp only [up_44, bx_uu, up_4u]
  refine jd_aload_n zd_G_take_50 rfl ?_
  refine jd_dup zd_G_take_51 rfl ?_
  refine jd_get rfl rfl zl_G 5 (by decide) zi_84 rfl rfl rfl (by decide) zd_G_take_52 ?_
  refine jd_aload_n zd_G_take_55 rfl ?_
  refine jd_get (ac_U (by omega)) rfl zl_U 6 (by decide) zi_348 rfl rfl (rl_U (by omega)) (by omega) zd_G_take_56 ?_
  try simp only [up_44, bx_uu, up_4u]
  refine jd_ior zd_G_take_59 ?_
  refine jd_put rfl rfl zl_G zp_G zm_G 5 (by decide) zi_84 rfl rfl rfl rfl rfl (Nat.le_of_ble_eq_true rfl) rfl rfl (by decide) zd_G_take_60 ?_
  try simp only [up_44, bx_uu, up_4u]
  refine jd_aload_n zd_G_take_63 rfl ?_
  refine jd_get (ac_U (by omega)) rfl zl_U 4 (by decide) zi_345 rfl rfl (rl_U (by omega)) (by omega) zd_G_take_64 ?_
  try simp only [up_44, bx_uu, up_4u]
  refine jd_iconst (v := (-1)) zd_G_take_67 (by decide) ?_
  refine jd_icmp_eq 103 zd_G_take_68 (by decide) (fun h_68 => ?_) (fun h_68 => ?_)
  · refine jd_same (S' := va_up S 4 (fa_tk (S 4) (S (100 + u)) wt)) (L' := L) (wd_same4 (fun k hk => by rcases (show k = 0 ∨ k = 1 ∨ k = 2 ∨ k = 3 ∨ k = 4 ∨ k = 5 ∨ k = 6 by omega) with rfl | rfl | rfl | rfl | rfl | rfl | rfl <;> simp_all [upd, fa_g0, fa_tk, up_44])) ?_
    exact jd_vret rfl ⟨rfl, rfl, rfl⟩ (by decide) (by decide) zd_G_take_103
  · refine jd_aload_n zd_G_take_71 rfl ?_
    refine jd_aload_n zd_G_take_72 rfl ?_
    refine jd_get rfl rfl zl_G 6 (by decide) zi_86 rfl rfl rfl (by decide) zd_G_take_73 ?_
    refine jd_iconst (v := (-1)) zd_G_take_76 (by decide) ?_
    refine jd_icmp_eq 91 zd_G_take_77 (by decide) (fun h_77 => ?_) (fun h_77 => ?_)
    · refine jd_aload_n zd_G_take_91 rfl ?_
      refine jd_get (ac_U (by omega)) rfl zl_U 4 (by decide) zi_345 rfl rfl (rl_U (by omega)) (by omega) zd_G_take_92 ?_
      try simp only [up_44, bx_uu, up_4u]
      refine jd_goto 100 zd_G_take_95 (by decide) ?_
      refine jd_put rfl rfl zl_G zp_G zm_G 6 (by decide) zi_86 rfl rfl rfl rfl rfl (Nat.le_of_ble_eq_true rfl) rfl rfl (by decide) zd_G_take_100 ?_
      try simp only [up_44, bx_uu, up_4u]
      refine jd_same (S' := va_up S 4 (fa_tk (S 4) (S (100 + u)) wt)) (L' := L) (wd_same4 (fun k hk => by rcases (show k = 0 ∨ k = 1 ∨ k = 2 ∨ k = 3 ∨ k = 4 ∨ k = 5 ∨ k = 6 by omega) with rfl | rfl | rfl | rfl | rfl | rfl | rfl <;> simp_all [upd, fa_g0, fa_tk, up_44])) ?_
      exact jd_vret rfl ⟨rfl, rfl, rfl⟩ (by decide) (by decide) zd_G_take_103
    · refine jd_aload_n zd_G_take_80 rfl ?_
      refine jd_get rfl rfl zl_G 6 (by decide) zi_86 rfl rfl rfl (by decide) zd_G_take_81 ?_
      refine jd_aload_n zd_G_take_84 rfl ?_
      refine jd_get (ac_U (by omega)) rfl zl_U 4 (by decide) zi_345 rfl rfl (rl_U (by omega)) (by omega) zd_G_take_85 ?_
      try simp only [up_44, bx_uu, up_4u]
      refine jd_icmp_ne 98 zd_G_take_88 (by decide) (fun h_88 => ?_) (fun h_88 => ?_)
      · refine jd_bipush (v := (-2)) zd_G_take_98 (by decide) ?_
        refine jd_put rfl rfl zl_G zp_G zm_G 6 (by decide) zi_86 rfl rfl rfl rfl rfl (Nat.le_of_ble_eq_true rfl) rfl rfl (by decide) zd_G_take_100 ?_
        try simp only [up_44, bx_uu, up_4u]
        refine jd_same (S' := va_up S 4 (fa_tk (S 4) (S (100 + u)) wt)) (L' := L) (wd_same4 (fun k hk => by rcases (show k = 0 ∨ k = 1 ∨ k = 2 ∨ k = 3 ∨ k = 4 ∨ k = 5 ∨ k = 6 by omega) with rfl | rfl | rfl | rfl | rfl | rfl | rfl <;> simp_all [upd, fa_g0, fa_tk, up_44])) ?_
        exact jd_vret rfl ⟨rfl, rfl, rfl⟩ (by decide) (by decide) zd_G_take_103
      · refine jd_aload_n zd_G_take_91 rfl ?_
        refine jd_get (ac_U (by omega)) rfl zl_U 4 (by decide) zi_345 rfl rfl (rl_U (by omega)) (by omega) zd_G_take_92 ?_
        try simp only [up_44, bx_uu, up_4u]
        refine jd_goto 100 zd_G_take_95 (by decide) ?_
        refine jd_put rfl rfl zl_G zp_G zm_G 6 (by decide) zi_86 rfl rfl rfl rfl rfl (Nat.le_of_ble_eq_true rfl) rfl rfl (by decide) zd_G_take_100 ?_
        try simp only [up_44, bx_uu, up_4u]
        refine jd_same (S' := va_up S 4 (fa_tk (S 4) (S (100 + u)) wt)) (L' := L) (wd_same4 (fun k hk => by rcases (show k = 0 ∨ k = 1 ∨ k = 2 ∨ k = 3 ∨ k = 4 ∨ k = 5 ∨ k = 6 by omega) with rfl | rfl | rfl | rfl | rfl | rfl | rfl <;> simp_all [upd, fa_g0, fa_tk, up_44])) ?_
        exact jd_vret rfl ⟨rfl, rfl, rfl⟩ (by decide) (by decide) zd_G_take_103
