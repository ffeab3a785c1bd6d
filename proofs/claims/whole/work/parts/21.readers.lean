/-! THE CLASS: more readers (rows by wip/whole/gen/a2.py) -/
set_option maxRecDepth 100000 in
set_option maxHeartbeats 4000000 in
theorem kc_exact {l : Launch} (hls : l.stackTraces = false) {D : va_G} {w : wd_T} {S : Nat → Nat → Int32} {L : Nat → Nat → Int64} (hb : narrow .boolean (.int (S 0 10)) = .int (S 0 10)) : ct_M l D w zy_A_exact (Cond.code zy_A_exact zb_A_exact 1 (Option.some Jvm.ClassFile.FieldType.boolean)) ({ frames := 0, cells := 0, slots := 0, locals := 0 } : Room) [av_r 0] S L (po_i (S 0 10) S L) 0 0 := by
  refine ct_intro hls (own := zn_A) (by decide) rfl (Nat.le_of_ble_eq_true rfl) ?_
  refine jd_aload_n zd_A_exact_0 rfl ?_
  refine jd_get rfl rfl zl_A 10 (by decide) zi_152 rfl rfl rfl (by decide) zd_A_exact_1 ?_
  exact jd_zret rfl (by first | rfl | decide | assumption) ⟨rfl, rfl, rfl⟩ (by decide) (by decide) zd_A_exact_4
set_option maxRecDepth 100000 in
set_option maxHeartbeats 4000000 in
theorem kl_doneCount {l : Launch} (hls : l.stackTraces = false) {D : va_G} {w : wd_T} {S : Nat → Nat → Int32} {L : Nat → Nat → Int64} (hN : ok_N w S) {Qp : jd_P} (hQ : Qp.1 (some (av_i (fa_dn S w.2.2.1))) S L) : ∀ (k u : Nat), u ≤ w.2.2.1 → w.2.2.1 < u + k → ∀ c : Int32, c = fa_dn S u → jd_J l D w zn_A zb_A_doneCount 3 (Option.some Jvm.ClassFile.FieldType.int) [] ({ frames := 0, cells := 0, slots := 0, locals := 0 } : Room) 0 0 Qp 0 0 4 [(0, av_r 0), (1, av_i c), (2, av_i (nI u))] [] S L := by
  have h12 := hN.1
  intro k
  induction k with
  | zero => intro u h1 h2; omega
  | succ k ih =>
    intro u hu hk c hc
    refine jd_iload_n zd_A_doneCount_4 rfl ?_
    refine jd_aload_n zd_A_doneCount_5 rfl ?_
    refine jd_get rfl rfl zl_A 6 (by decide) zi_148 rfl rfl rfl (by decide) zd_A_doneCount_6 ?_
    refine jd_icmp_ge 33 zd_A_doneCount_9 (by decide) (fun h_9 => ?_) (fun h_9 => ?_)
    · have e_u := nI_end hN.2.2.1 (by omega) hu h_9
      subst e_u
      refine jd_iload_n zd_A_doneCount_33 rfl ?_
      exact jd_iret rfl (by rw [hc]; exact hQ) (by decide) (by decide) zd_A_doneCount_34
    · have hu2 := nI_on hN.2.2.1 (by omega) hu h_9
      refine jd_aload_n zd_A_doneCount_12 rfl ?_
      refine jd_get rfl rfl zl_A 0 (by decide) zi_142 rfl rfl rfl (by decide) zd_A_doneCount_13 ?_
      refine jd_iload_n zd_A_doneCount_16 rfl ?_
      refine jd_unit rfl hu2 h12 zd_A_doneCount_17 ?_
      refine jd_get (ac_U (by omega)) rfl zl_U 5 (by decide) zi_347 rfl rfl (rl_U (by omega)) (by omega) zd_A_doneCount_18 ?_
      refine jd_if_eq 27 zd_A_doneCount_21 (by decide) (fun h_21 => ?_) (fun h_21 => ?_)
      · refine jd_iinc (v := nI (u + 1)) zd_A_doneCount_27 rfl (nI_inc u) (by decide) ?_
        refine jd_goto 4 zd_A_doneCount_30 (by decide) ?_
        exact jd_sub [(0, av_r 0), (1, av_i _), (2, av_i (nI (u + 1)))] ⟨rfl, rfl, rfl, trivial⟩ (ih (u + 1) (by omega) (by omega) _ (by simp_all [fa_dn]))
      · refine jd_iinc (v := c + 1) zd_A_doneCount_24 rfl rfl (by decide) ?_
        refine jd_iinc (v := nI (u + 1)) zd_A_doneCount_27 rfl (nI_inc u) (by decide) ?_
        refine jd_goto 4 zd_A_doneCount_30 (by decide) ?_
        exact jd_sub [(0, av_r 0), (1, av_i _), (2, av_i (nI (u + 1)))] ⟨rfl, rfl, rfl, trivial⟩ (ih (u + 1) (by omega) (by omega) _ (by simp_all [fa_dn]))
set_option maxRecDepth 100000 in
set_option maxHeartbeats 4000000 in
theorem kc_doneCount {l : Launch} (hls : l.stackTraces = false) {D : va_G} {w : wd_T} {S : Nat → Nat → Int32} {L : Nat → Nat → Int64} (hN : ok_N w S) : ct_M l D w zy_A_doneCount (Cond.code zy_A_doneCount zb_A_doneCount 3 (Option.some Jvm.ClassFile.FieldType.int)) ({ frames := 0, cells := 0, slots := 0, locals := 0 } : Room) [av_r 0] S L (po_i (fa_dn S w.2.2.1) S L) 0 0 := by
  refine ct_intro hls (own := zn_A) (by decide) rfl (Nat.le_of_ble_eq_true rfl) ?_
  refine jd_iconst (v := 0) zd_A_doneCount_0 (by decide) ?_
  refine jd_istore_n zd_A_doneCount_1 (by decide) ?_
  refine jd_iconst (v := 0) zd_A_doneCount_2 (by decide) ?_
  refine jd_istore_n zd_A_doneCount_3 (by decide) ?_
  exact jd_sub [(0, av_r 0), (1, av_i 0), (2, av_i (nI 0))] ⟨rfl, rfl, rfl, trivial⟩ (kl_doneCount (Qp := po_i (fa_dn S w.2.2.1) S L) hls hN ⟨rfl, rfl, rfl⟩ (w.2.2.1 + 1) 0 (by omega) (by omega) 0 rfl)
set_option maxRecDepth 100000 in
set_option maxHeartbeats 4000000 in
theorem kl_plannedFor {l : Launch} (hls : l.stackTraces = false) {D : va_G} {w : wd_T} {S : Nat → Nat → Int32} {L : Nat → Nat → Int64} (hN : ok_N w S) (p : Int32) {Qp : jd_P}  : ∀ (k u : Nat), u ≤ w.2.2.1 → w.2.2.1 < u + k → Qp.1 (some (av_i (fa_pf S p (w.2.2.1 - u) u))) S L → jd_J l D w zn_A zb_A_groupPlannedFor 3 (Option.some Jvm.ClassFile.FieldType.int) [] ({ frames := 2, cells := 0, slots := 0, locals := 43 } : Room) 0 0 Qp 0 0 2 [(0, av_r 0), (1, av_i p), (2, av_i (nI u))] [] S L := by
  have h12 := hN.1
  intro k
  induction k with
  | zero => intro u h1 h2; omega
  | succ k ih =>
    intro u hu hk hQ
    refine jd_iload_n zd_A_groupPlannedFor_2 rfl ?_
    refine jd_aload_n zd_A_groupPlannedFor_3 rfl ?_
    refine jd_get rfl rfl zl_A 6 (by decide) zi_148 rfl rfl rfl (by decide) zd_A_groupPlannedFor_4 ?_
    refine jd_icmp_ge 39 zd_A_groupPlannedFor_7 (by decide) (fun h_7 => ?_) (fun h_7 => ?_)
    · have e_u := nI_end hN.2.2.1 (by omega) hu h_7
      subst e_u
      refine jd_iconst (v := (-1)) zd_A_groupPlannedFor_39 (by decide) ?_
      exact jd_iret rfl (by simp [fa_pf] at hQ; exact hQ) (by decide) (by decide) zd_A_groupPlannedFor_40
    · have hu2 := nI_on hN.2.2.1 (by omega) hu h_7
      have e_k : w.2.2.1 - u = (w.2.2.1 - (u + 1)) + 1 := by omega
      rw [e_k] at hQ
      simp only [fa_pf] at hQ
      refine jd_aload_n zd_A_groupPlannedFor_10 rfl ?_
      refine jd_iload_n zd_A_groupPlannedFor_11 rfl ?_
      refine jd_callV (n := 1) (kc_isGroup hls (by omega) hu2) rfl rfl rfl rfl (by decide) zi_184 zi_186 zi_0 zi_41 zi_187 (by decide +kernel) rfl rfl rfl (by decide) (Nat.le_of_ble_eq_true rfl) (by decide) zd_A_groupPlannedFor_12 (fun _ _ _ h => h.elim) (fun v S2 L2 hq => ?_)
      obtain ⟨rfl, rfl, rfl⟩ := hq
      refine jd_if_eq 33 zd_A_groupPlannedFor_15 (by decide) (fun h_15 => ?_) (fun h_15 => ?_)
      · rw [if_neg (by rintro ⟨q1, q2⟩; simp_all [bi_of])] at hQ
        refine jd_iinc (v := nI (u + 1)) zd_A_groupPlannedFor_33 rfl (nI_inc u) (by decide) ?_
        refine jd_goto 2 zd_A_groupPlannedFor_36 (by decide) ?_
        exact jd_sub [(0, av_r 0), (1, av_i p), (2, av_i (nI (u + 1)))] ⟨rfl, rfl, rfl, trivial⟩ (ih (u + 1) (by omega) (by omega) hQ)
      · refine jd_aload_n zd_A_groupPlannedFor_18 rfl ?_
        refine jd_get rfl rfl zl_A 0 (by decide) zi_142 rfl rfl rfl (by decide) zd_A_groupPlannedFor_19 ?_
        refine jd_iload_n zd_A_groupPlannedFor_22 rfl ?_
        refine jd_unit rfl hu2 h12 zd_A_groupPlannedFor_23 ?_
        refine jd_get (ac_U (by omega)) rfl zl_U 3 (by decide) zi_343 rfl rfl (rl_U (by omega)) (by omega) zd_A_groupPlannedFor_24 ?_
        refine jd_iload_n zd_A_groupPlannedFor_27 rfl ?_
        refine jd_icmp_ne 33 zd_A_groupPlannedFor_28 (by decide) (fun h_28 => ?_) (fun h_28 => ?_)
        · rw [if_neg (by rintro ⟨q1, q2⟩; simp_all [bi_of])] at hQ
          refine jd_iinc (v := nI (u + 1)) zd_A_groupPlannedFor_33 rfl (nI_inc u) (by decide) ?_
          refine jd_goto 2 zd_A_groupPlannedFor_36 (by decide) ?_
          exact jd_sub [(0, av_r 0), (1, av_i p), (2, av_i (nI (u + 1)))] ⟨rfl, rfl, rfl, trivial⟩ (ih (u + 1) (by omega) (by omega) hQ)
        · refine jd_iload_n zd_A_groupPlannedFor_31 rfl ?_
          rw [if_pos ⟨by cases hg : fa_gr S u <;> simp_all [bi_of], h_28⟩] at hQ
          exact jd_iret rfl hQ (by decide) (by decide) zd_A_groupPlannedFor_32
set_option maxRecDepth 100000 in
set_option maxHeartbeats 4000000 in
theorem kc_plannedFor {l : Launch} (hls : l.stackTraces = false) {D : va_G} {w : wd_T} {S : Nat → Nat → Int32} {L : Nat → Nat → Int64} (hN : ok_N w S) (p : Int32) : ct_M l D w zy_A_groupPlannedFor (Cond.code zy_A_groupPlannedFor zb_A_groupPlannedFor 3 (Option.some Jvm.ClassFile.FieldType.int)) ({ frames := 2, cells := 0, slots := 0, locals := 43 } : Room) [av_r 0, av_i p] S L (po_i (fa_pf S p w.2.2.1 0) S L) 0 0 := by
  refine ct_intro hls (own := zn_A) (by decide) rfl (Nat.le_of_ble_eq_true rfl) ?_
  refine jd_iconst (v := 0) zd_A_groupPlannedFor_0 (by decide) ?_
  refine jd_istore_n zd_A_groupPlannedFor_1 (by decide) ?_
  exact jd_sub [(0, av_r 0), (1, av_i p), (2, av_i (nI 0))] ⟨rfl, rfl, rfl, trivial⟩ (kl_plannedFor (Qp := po_i (fa_pf S p w.2.2.1 0) S L) hls hN p (w.2.2.1 + 1) 0 (by omega) (by omega) ⟨rfl, rfl, rfl⟩)
set_option maxRecDepth 100000 in
set_option maxHeartbeats 4000000 in
theorem kl_plannedPlaces {l : Launch} (hls : l.stackTraces = false) {D : va_G} {w : wd_T} {S : Nat → Nat → Int32} {L : Nat → Nat → Int64} (hN : ok_N w S) {Qp : jd_P} (hQ : Qp.1 (some (av_i (fa_pp S w.2.2.1))) S L) : ∀ (k u : Nat), u ≤ w.2.2.1 → w.2.2.1 < u + k → ∀ c : Int32, c = fa_pp S u → jd_J l D w zn_A zb_A_plannedPlaces 3 (Option.some Jvm.ClassFile.FieldType.int) [] ({ frames := 1, cells := 0, slots := 0, locals := 20 } : Room) 0 0 Qp 0 0 4 [(0, av_r 0), (1, av_i c), (2, av_i (nI u))] [] S L := by
  have h12 := hN.1
  intro k
  induction k with
  | zero => intro u h1 h2; omega
  | succ k ih =>
    intro u hu hk c hc
    refine jd_iload_n zd_A_plannedPlaces_4 rfl ?_
    refine jd_aload_n zd_A_plannedPlaces_5 rfl ?_
    refine jd_get rfl rfl zl_A 6 (by decide) zi_148 rfl rfl rfl (by decide) zd_A_plannedPlaces_6 ?_
    refine jd_icmp_ge 44 zd_A_plannedPlaces_9 (by decide) (fun h_9 => ?_) (fun h_9 => ?_)
    · have e_u := nI_end hN.2.2.1 (by omega) hu h_9
      subst e_u
      refine jd_iload_n zd_A_plannedPlaces_44 rfl ?_
      exact jd_iret rfl (by rw [hc]; exact hQ) (by decide) (by decide) zd_A_plannedPlaces_45
    · have hu2 := nI_on hN.2.2.1 (by omega) hu h_9
      refine jd_aload_n zd_A_plannedPlaces_12 rfl ?_
      refine jd_get rfl rfl zl_A 0 (by decide) zi_142 rfl rfl rfl (by decide) zd_A_plannedPlaces_13 ?_
      refine jd_iload_n zd_A_plannedPlaces_16 rfl ?_
      refine jd_unit rfl hu2 h12 zd_A_plannedPlaces_17 ?_
      refine jd_callS (n := 1) (kc_isPlanned hls hu2 h12) rfl zi_594 zi_595 zi_41 zi_596 (by decide +kernel) rfl rfl rfl (by decide) (Nat.le_of_ble_eq_true rfl) (by decide) zd_A_plannedPlaces_18 (fun _ _ _ h => h.elim) (fun v S2 L2 hq => ?_)
      obtain ⟨rfl, rfl, rfl⟩ := hq
      refine jd_if_eq 38 zd_A_plannedPlaces_21 (by decide) (fun h_21 => ?_) (fun h_21 => ?_)
      · refine jd_iinc (v := nI (u + 1)) zd_A_plannedPlaces_38 rfl (nI_inc u) (by decide) ?_
        refine jd_goto 4 zd_A_plannedPlaces_41 (by decide) ?_
        exact jd_sub [(0, av_r 0), (1, av_i _), (2, av_i (nI (u + 1)))] ⟨rfl, rfl, rfl, trivial⟩ (ih (u + 1) (by omega) (by omega) _ (by cases hg : fa_pl S u <;> simp_all [fa_pp, bi_of]))
      · refine jd_iload_n zd_A_plannedPlaces_24 rfl ?_
        refine jd_iconst (v := 1) zd_A_plannedPlaces_25 (by decide) ?_
        refine jd_aload_n zd_A_plannedPlaces_26 rfl ?_
        refine jd_get rfl rfl zl_A 0 (by decide) zi_142 rfl rfl rfl (by decide) zd_A_plannedPlaces_27 ?_
        refine jd_iload_n zd_A_plannedPlaces_30 rfl ?_
        refine jd_unit rfl hu2 h12 zd_A_plannedPlaces_31 ?_
        refine jd_get (ac_U (by omega)) rfl zl_U 3 (by decide) zi_343 rfl rfl (rl_U (by omega)) (by omega) zd_A_plannedPlaces_32 ?_
        refine jd_ishl zd_A_plannedPlaces_35 ?_
        refine jd_ior zd_A_plannedPlaces_36 ?_
        refine jd_istore_n zd_A_plannedPlaces_37 (by decide) ?_
        refine jd_iinc (v := nI (u + 1)) zd_A_plannedPlaces_38 rfl (nI_inc u) (by decide) ?_
        refine jd_goto 4 zd_A_plannedPlaces_41 (by decide) ?_
        exact jd_sub [(0, av_r 0), (1, av_i _), (2, av_i (nI (u + 1)))] ⟨rfl, rfl, rfl, trivial⟩ (ih (u + 1) (by omega) (by omega) _ (by cases hg : fa_pl S u <;> simp_all [fa_pp, bi_of]))
set_option maxRecDepth 100000 in
set_option maxHeartbeats 4000000 in
theorem kc_plannedPlaces {l : Launch} (hls : l.stackTraces = false) {D : va_G} {w : wd_T} {S : Nat → Nat → Int32} {L : Nat → Nat → Int64} (hN : ok_N w S) : ct_M l D w zy_A_plannedPlaces (Cond.code zy_A_plannedPlaces zb_A_plannedPlaces 3 (Option.some Jvm.ClassFile.FieldType.int)) ({ frames := 1, cells := 0, slots := 0, locals := 20 } : Room) [av_r 0] S L (po_i (fa_pp S w.2.2.1) S L) 0 0 := by
  refine ct_intro hls (own := zn_A) (by decide) rfl (Nat.le_of_ble_eq_true rfl) ?_
  refine jd_iconst (v := 0) zd_A_plannedPlaces_0 (by decide) ?_
  refine jd_istore_n zd_A_plannedPlaces_1 (by decide) ?_
  refine jd_iconst (v := 0) zd_A_plannedPlaces_2 (by decide) ?_
  refine jd_istore_n zd_A_plannedPlaces_3 (by decide) ?_
  exact jd_sub [(0, av_r 0), (1, av_i 0), (2, av_i (nI 0))] ⟨rfl, rfl, rfl, trivial⟩ (kl_plannedPlaces (Qp := po_i (fa_pp S w.2.2.1) S L) hls hN ⟨rfl, rfl, rfl⟩ (w.2.2.1 + 1) 0 (by omega) (by omega) 0 rfl)
set_option maxRecDepth 100000 in
set_option maxHeartbeats 4000000 in
theorem kc_goesTo {l : Launch} (hls : l.stackTraces = false) {D : va_G} {w : wd_T} {S : Nat → Nat → Int32} {L : Nat → Nat → Int64} (hN : ok_N w S) (hU : ok_U w S) {u : Nat} (hu : u < w.2.2.1) (z : Int32) : ct_M l D w zy_A_goesTo (Cond.code zy_A_goesTo zb_A_goesTo 3 (Option.some Jvm.ClassFile.FieldType.boolean)) ({ frames := 1, cells := 0, slots := 0, locals := 20 } : Room) [av_r 0, av_r (100 + u), av_i z] S L (po_i (bi_of (fa_gt S u z)) S L) 0 0 := by
  have h12 := hN.1
  refine ct_intro hls (own := zn_A) (by decide) rfl (Nat.le_of_ble_eq_true rfl) ?_
  refine jd_aload_n zd_A_goesTo_0 rfl ?_
  refine jd_callS (n := 1) (kc_isPlanned hls hu hN.1) rfl zi_594 zi_595 zi_41 zi_596 (by decide +kernel) rfl rfl rfl (by decide) (Nat.le_of_ble_eq_true rfl) (by decide) zd_A_goesTo_1 (fun _ _ _ h => h.elim) (fun v S2 L2 hq => ?_)
  obtain ⟨rfl, rfl, rfl⟩ := hq
  refine jd_if_eq 27 zd_A_goesTo_4 (by decide) (fun h_4 => ?_) (fun h_4 => ?_)
  · refine jd_iconst (v := 0) zd_A_goesTo_27 (by decide) ?_
    exact jd_zret rfl (by first | rfl | decide | assumption) ⟨by cases hg : fa_pl S u <;> simp_all [bi_of, fa_gt], rfl, rfl⟩ (by decide) (by decide) zd_A_goesTo_28
  · have hg : fa_pl S u = true := by cases hg : fa_pl S u <;> simp_all [bi_of]
    obtain ⟨p, hp, ep⟩ : ∃ p, p < w.2.2.2 ∧ S (100 + u) 3 = nI p := by
      rcases (hU u hu).2.2.1 with e | e
      · simp [fa_pl, e] at hg
      · exact e
    have h12 := hN.1
    have h13 := hN.2.1
    refine jd_aload_n zd_A_goesTo_7 rfl ?_
    refine jd_get rfl rfl zl_A 1 (by decide) zi_143 rfl rfl rfl (by decide) zd_A_goesTo_8 ?_
    refine jd_aload_n zd_A_goesTo_11 rfl ?_
    refine jd_get (ac_U (by omega)) rfl zl_U 3 (by decide) zi_343 rfl rfl (rl_U (by omega)) (by omega) zd_A_goesTo_12 ?_
    refine jd_plc ep hp h13 zd_A_goesTo_15 ?_
    refine jd_get (ac_P (by omega)) rfl zl_P 1 (by decide) zi_387 rfl rfl (rl_P (by omega)) (by omega) zd_A_goesTo_16 ?_
    refine jd_iload_n zd_A_goesTo_19 rfl ?_
    refine jd_icmp_ne 27 zd_A_goesTo_20 (by decide) (fun h_20 => ?_) (fun h_20 => ?_)
    · refine jd_iconst (v := 0) zd_A_goesTo_27 (by decide) ?_
      exact jd_zret rfl (by first | rfl | decide | assumption) ⟨by cases hg : fa_pl S u <;> simp_all [bi_of, fa_gt, nI_clamp, show p < 2 ^ 31 from by omega], rfl, rfl⟩ (by decide) (by decide) zd_A_goesTo_28
    · refine jd_iconst (v := 1) zd_A_goesTo_23 (by decide) ?_
      refine jd_goto 28 zd_A_goesTo_24 (by decide) ?_
      exact jd_zret rfl (by first | rfl | decide | assumption) ⟨by cases hg : fa_pl S u <;> simp_all [bi_of, fa_gt, nI_clamp, show p < 2 ^ 31 from by omega], rfl, rfl⟩ (by decide) (by decide) zd_A_goesTo_28
set_option maxRecDepth 100000 in
set_option maxHeartbeats 4000000 in
theorem kc_count {l : Launch} (hls : l.stackTraces = false) {D : va_G} {w : wd_T} {S : Nat → Nat → Int32} {L : Nat → Nat → Int64} (hN : ok_N w S) (x : Int32) : ct_M l D w zy_A_count (Cond.code zy_A_count zb_A_count 2 (Option.some Jvm.ClassFile.FieldType.int)) ({ frames := 3, cells := 0, slots := 0, locals := 65 } : Room) [av_r 0, av_i x] S L (po_i (fa_ct S w.2.2.1 x) S L) 0 0 := by
  refine ct_intro hls (own := zn_A) (by decide) rfl (Nat.le_of_ble_eq_true rfl) ?_
  refine jd_iload_n zd_A_count_0 rfl ?_
  rcases i32_4 x with e | e | e | e | ⟨e, n0, n1, n2, n3⟩
  · subst e
    refine jd_tabIn 32 zd_A_count_1 (by decide) (by decide) (off := 31) (by decide) (by decide) ?_
    refine jd_aload_n zd_A_count_32 rfl ?_
    refine jd_get rfl rfl zl_A 6 (by decide) zi_148 rfl rfl rfl (by decide) zd_A_count_33 ?_
    exact jd_iret rfl ⟨rfl, rfl, rfl⟩ (by decide) (by decide) zd_A_count_36
  · subst e
    refine jd_tabIn 37 zd_A_count_1 (by decide) (by decide) (off := 36) (by decide) (by decide) ?_
    refine jd_aload_n zd_A_count_37 rfl ?_
    refine jd_get rfl rfl zl_A 7 (by decide) zi_149 rfl rfl rfl (by decide) zd_A_count_38 ?_
    exact jd_iret rfl ⟨rfl, rfl, rfl⟩ (by decide) (by decide) zd_A_count_41
  · subst e
    refine jd_tabIn 42 zd_A_count_1 (by decide) (by decide) (off := 41) (by decide) (by decide) ?_
    refine jd_aload_n zd_A_count_42 rfl ?_
    refine jd_callV (n := 0) (kc_groupCount hls hN) rfl rfl rfl rfl (by decide) zi_223 zi_225 zi_6 zi_41 zi_226 (by decide +kernel) rfl rfl rfl (by decide) (Nat.le_of_ble_eq_true rfl) (by decide) zd_A_count_43 (fun _ _ _ h => h.elim) (fun v S2 L2 hq => ?_)
    obtain ⟨rfl, rfl, rfl⟩ := hq
    exact jd_iret rfl ⟨rfl, rfl, rfl⟩ (by decide) (by decide) zd_A_count_46
  · subst e
    refine jd_tabIn 47 zd_A_count_1 (by decide) (by decide) (off := 46) (by decide) (by decide) ?_
    refine jd_aload_n zd_A_count_47 rfl ?_
    refine jd_callV (n := 0) (kc_doneCount hls hN) rfl rfl rfl rfl (by decide) zi_227 zi_229 zi_7 zi_41 zi_230 (by decide +kernel) rfl rfl rfl (by decide) (Nat.le_of_ble_eq_true rfl) (by decide) zd_A_count_48 (fun _ _ _ h => h.elim) (fun v S2 L2 hq => ?_)
    obtain ⟨rfl, rfl, rfl⟩ := hq
    exact jd_iret rfl ⟨rfl, rfl, rfl⟩ (by decide) (by decide) zd_A_count_51
  · refine jd_tabOut 52 zd_A_count_1 e (by decide) ?_
    refine jd_iconst (v := (-1)) zd_A_count_52 (by decide) ?_
    exact jd_iret rfl ⟨by simp [fa_ct, n0, n1, n2, n3], rfl, rfl⟩ (by decide) (by decide) zd_A_count_53
