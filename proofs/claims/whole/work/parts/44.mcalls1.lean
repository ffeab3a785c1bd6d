/-! THE MODEL: its calls (rows by wip/whole/gen/m2.py) -/
theorem ob_j7 : ∀ j, j < 8 → ob (nI j) 0 7 = false := by decide +kernel
theorem kc_isUnitT {l : Launch} (hls : l.stackTraces = false) {D : va_G} {w : wd_T} {S : Nat → Nat → Int32} {L : Nat → Nat → Int64} {G : Nat → Nat → Int32} (hR : md_R w G S) {x : Int32} (h : ob x 0 (nI w.2.2.1 - 1) = false) : ct_M l D w zy_M_isUnit (Cond.code zy_M_isUnit zb_M_isUnit 2 (Option.some Jvm.ClassFile.FieldType.boolean)) ({ frames := 1, cells := 0, slots := 0, locals := 22 } : Room) [av_r 400, av_i x] S L (po_i 1 S L) 0 0 := by
  have h9 := kc_isUnit (L := L) (D := D) hls hR x
  rw [h] at h9
  exact h9
theorem kc_isUnitF {l : Launch} (hls : l.stackTraces = false) {D : va_G} {w : wd_T} {S : Nat → Nat → Int32} {L : Nat → Nat → Int64} {G : Nat → Nat → Int32} (hR : md_R w G S) {x : Int32} (h : ob x 0 (nI w.2.2.1 - 1) = true) : ct_M l D w zy_M_isUnit (Cond.code zy_M_isUnit zb_M_isUnit 2 (Option.some Jvm.ClassFile.FieldType.boolean)) ({ frames := 1, cells := 0, slots := 0, locals := 22 } : Room) [av_r 400, av_i x] S L (po_i 0 S L) 0 0 := by
  have h9 := kc_isUnit (L := L) (D := D) hls hR x
  rw [h] at h9
  exact h9
theorem kc_isPlaceT {l : Launch} (hls : l.stackTraces = false) {D : va_G} {w : wd_T} {S : Nat → Nat → Int32} {L : Nat → Nat → Int64} {G : Nat → Nat → Int32} (hR : md_R w G S) {x : Int32} (h : ob x 0 (nI w.2.2.2 - 1) = false) : ct_M l D w zy_M_isPlace (Cond.code zy_M_isPlace zb_M_isPlace 2 (Option.some Jvm.ClassFile.FieldType.boolean)) ({ frames := 1, cells := 0, slots := 0, locals := 22 } : Room) [av_r 400, av_i x] S L (po_i 1 S L) 0 0 := by
  have h9 := kc_isPlace (L := L) (D := D) hls hR x
  rw [h] at h9
  exact h9
theorem kc_isPlaceF {l : Launch} (hls : l.stackTraces = false) {D : va_G} {w : wd_T} {S : Nat → Nat → Int32} {L : Nat → Nat → Int64} {G : Nat → Nat → Int32} (hR : md_R w G S) {x : Int32} (h : ob x 0 (nI w.2.2.2 - 1) = true) : ct_M l D w zy_M_isPlace (Cond.code zy_M_isPlace zb_M_isPlace 2 (Option.some Jvm.ClassFile.FieldType.boolean)) ({ frames := 1, cells := 0, slots := 0, locals := 22 } : Room) [av_r 400, av_i x] S L (po_i 0 S L) 0 0 := by
  have h9 := kc_isPlace (L := L) (D := D) hls hR x
  rw [h] at h9
  exact h9
theorem kc_MinT {l : Launch} (hls : l.stackTraces = false) {D : va_G} {w : wd_T} {S : Nat → Nat → Int32} {L : Nat → Nat → Int64} {x a b : Int32} (h : ob x a b = false) : ct_M l D w zy_M_in (Cond.code zy_M_in zb_M_in 3 (Option.some Jvm.ClassFile.FieldType.boolean)) ({ frames := 0, cells := 0, slots := 0, locals := 0 } : Room) [av_i x, av_i a, av_i b] S L (po_i 1 S L) 0 0 := by
  have h9 := kc_Min (S := S) (L := L) (D := D) (w := w) hls x a b
  rw [h] at h9
  exact h9
theorem kc_MinF {l : Launch} (hls : l.stackTraces = false) {D : va_G} {w : wd_T} {S : Nat → Nat → Int32} {L : Nat → Nat → Int64} {x a b : Int32} (h : ob x a b = true) : ct_M l D w zy_M_in (Cond.code zy_M_in zb_M_in 3 (Option.some Jvm.ClassFile.FieldType.boolean)) ({ frames := 0, cells := 0, slots := 0, locals := 0 } : Room) [av_i x, av_i a, av_i b] S L (po_i 0 S L) 0 0 := by
  have h9 := kc_Min (S := S) (L := L) (D := D) (w := w) hls x a b
  rw [h] at h9
  exact h9
set_option maxRecDepth 100000 in
set_option maxHeartbeats 4000000 in
theorem kc_Mat {l : Launch} (hls : l.stackTraces = false) {D : va_G} {w : wd_T} {S : Nat → Nat → Int32} {L : Nat → Nat → Int64} {G : Nat → Nat → Int32} (hA : ok_A w G) (hR0 : md_R w G S) {x : Int32} {c v : Int32} {N : Nat → Nat → Int32} (hO : ou_at w G x c v N) : ct_M l D w zy_M_at (Cond.code zy_M_at zb_M_at 2 (Option.some Jvm.ClassFile.FieldType.int)) ({ frames := 2, cells := 0, slots := 0, locals := 43 } : Room) [av_r 400, av_i x] S L (po_M w c v N S L) 0 0 := by
  have h12 := hA.1.1
  have h13 := hA.1.2.1
  have hs := sm_refl S
  have hR := hR0
  rcases hO with ⟨h_o, rfl, hN⟩ | ⟨a, ha, rfl, rfl, rfl, hN⟩
  · rw [hN]
    refine ct_intro hls (own := zn_M) (by decide) rfl (Nat.le_of_ble_eq_true rfl) ?_
    refine jd_aload_n zd_M_at_0 rfl ?_
    refine jd_aload_n zd_M_at_1 rfl ?_
    refine jd_iload_n zd_M_at_2 rfl ?_
    refine jd_callV (n := 1) (kc_isUnitF hls hR h_o) rfl rfl rfl (rl_m (by decide)) (by decide) zi_782 zi_784 zi_26 zi_44 zi_785 (by decide +kernel) rfl rfl rfl (by decide) (Nat.le_of_ble_eq_true rfl) (by decide) zd_M_at_3 (fun _ _ _ h => h.elim) (fun v S2 L2 hq => ?_)
    obtain ⟨rfl, rfl, rfl⟩ := hq
    refine jd_if_eq 13 zd_M_at_6 (by decide) (fun _ => ?_) (fun h => absurd h (by decide))
    refine jd_iconst (v := 1) zd_M_at_13 (by decide) ?_
    refine jd_put rfl rfl zl_M zp_M zm_M 0 (by decide) zi_680 rfl rfl rfl rfl rfl (Nat.le_of_ble_eq_true rfl) rfl (rl_m (by decide)) (by decide) zd_M_at_14 ?_
    have hs := hs.fld (k := 0) (Or.inl rfl) (1 : Int32)
    have hc := cd_at hs
    have hR := md_sm hs hR0
    refine jd_aload_n zd_M_at_17 rfl ?_
    refine jd_get rfl rfl zl_M 0 (by decide) zi_680 rfl rfl (rl_m (by decide)) (by decide) zd_M_at_18 ?_
    rw [hc]
    refine jd_if_le 28 zd_M_at_21 (by decide) (fun h => absurd h (by decide)) (fun _ => ?_)
    refine jd_iconst (v := 0) zd_M_at_24 (by decide) ?_
    refine jd_goto 34 zd_M_at_25 (by decide) ?_
    exact jd_iret rfl ⟨_, rfl, fun h => absurd h (by decide), hc, hR, sm_fr hs, sm_reflL _⟩ (by decide) (by decide) zd_M_at_34
  · rw [hN]
    refine ct_intro hls (own := zn_M) (by decide) rfl (Nat.le_of_ble_eq_true rfl) ?_
    refine jd_aload_n zd_M_at_0 rfl ?_
    refine jd_aload_n zd_M_at_1 rfl ?_
    refine jd_iload_n zd_M_at_2 rfl ?_
    refine jd_callV (n := 1) (kc_isUnitT hls hR (ob_nI h12 ha)) rfl rfl rfl (rl_m (by decide)) (by decide) zi_782 zi_784 zi_26 zi_44 zi_785 (by decide +kernel) rfl rfl rfl (by decide) (Nat.le_of_ble_eq_true rfl) (by decide) zd_M_at_3 (fun _ _ _ h => h.elim) (fun v S2 L2 hq => ?_)
    obtain ⟨rfl, rfl, rfl⟩ := hq
    refine jd_if_eq 13 zd_M_at_6 (by decide) (fun h => absurd h (by decide)) (fun _ => ?_)
    refine jd_iconst (v := 0) zd_M_at_9 (by decide) ?_
    refine jd_goto 14 zd_M_at_10 (by decide) ?_
    refine jd_put rfl rfl zl_M zp_M zm_M 0 (by decide) zi_680 rfl rfl rfl rfl rfl (Nat.le_of_ble_eq_true rfl) rfl (rl_m (by decide)) (by decide) zd_M_at_14 ?_
    have hs := hs.fld (k := 0) (Or.inl rfl) (0 : Int32)
    have hc := cd_at hs
    have hR := md_sm hs hR0
    refine jd_aload_n zd_M_at_17 rfl ?_
    refine jd_get rfl rfl zl_M 0 (by decide) zi_680 rfl rfl (rl_m (by decide)) (by decide) zd_M_at_18 ?_
    rw [hc]
    refine jd_if_le 28 zd_M_at_21 (by decide) (fun _ => ?_) (fun h => absurd h (by decide))
    refine jd_aload_n zd_M_at_28 rfl ?_
    refine jd_get rfl rfl zl_M 6 (by decide) zi_686 rfl rfl (rl_m (by decide)) (by decide) zd_M_at_29 ?_
    refine jd_iload_n zd_M_at_32 rfl ?_
    refine jd_ildN (r := 407) (c := a) rfl rfl (by omega) (n := 12) (by decide) (rl_m (by decide)) (by decide) zd_M_at_33 ?_
    rw [mr_407 hR ha]
    exact jd_iret rfl ⟨_, rfl, fun _ => rfl, hc, hR, sm_fr hs, sm_reflL _⟩ (by decide) (by decide) zd_M_at_34
set_option maxRecDepth 100000 in
set_option maxHeartbeats 4000000 in
theorem kc_Mweight {l : Launch} (hls : l.stackTraces = false) {D : va_G} {w : wd_T} {S : Nat → Nat → Int32} {L : Nat → Nat → Int64} {G : Nat → Nat → Int32} (hA : ok_A w G) (hR0 : md_R w G S) {x y : Int32} {c v : Int32} {N : Nat → Nat → Int32} (hO : ou_weight G x y c v N) : ct_M l D w zy_M_weight (Cond.code zy_M_weight zb_M_weight 3 (Option.none : Option Jvm.ClassFile.FieldType)) ({ frames := 1, cells := 0, slots := 0, locals := 22 } : Room) [av_r 400, av_i x, av_i y] S L (po_Mv w c N S L) 0 0 := by
  have h12 := hA.1.1
  have h13 := hA.1.2.1
  have hs := sm_refl S
  have hR := hR0
  rcases hO with ⟨h_o, rfl, hN⟩ | ⟨j, hj, rfl, h_y, rfl, hN⟩
  · rw [hN]
    have h_d : ob x 0 7 = true ∨ (ob x 0 7 = false ∧ ob y 0 100 = true) := by cases q1 : ob x 0 7 <;> cases q2 : ob y 0 100 <;> simp_all
    rcases h_d with h_d | ⟨h_d, h_d2⟩
    · refine ct_intro hls (own := zn_M) (by decide) rfl (Nat.le_of_ble_eq_true rfl) ?_
      refine jd_aload_n zd_M_weight_0 rfl ?_
      refine jd_iload_n zd_M_weight_1 rfl ?_
      refine jd_iconst (v := 0) zd_M_weight_2 (by decide) ?_
      refine jd_bipush (v := 7) zd_M_weight_3 (by decide) ?_
      refine jd_callS (n := 3) (kc_MinF hls h_d) rfl zi_767 zi_768 zi_44 zi_769 (by decide +kernel) rfl rfl rfl (by decide) (Nat.le_of_ble_eq_true rfl) (by decide) zd_M_weight_5 (fun _ _ _ h => h.elim) (fun v S2 L2 hq => ?_)
      obtain ⟨rfl, rfl, rfl⟩ := hq
      refine jd_if_eq 25 zd_M_weight_8 (by decide) (fun _ => ?_) (fun h => absurd h (by decide))
      refine jd_iconst (v := 1) zd_M_weight_25 (by decide) ?_
      refine jd_put rfl rfl zl_M zp_M zm_M 0 (by decide) zi_680 rfl rfl rfl rfl rfl (Nat.le_of_ble_eq_true rfl) rfl (rl_m (by decide)) (by decide) zd_M_weight_26 ?_
      have hs := hs.fld (k := 0) (Or.inl rfl) (1 : Int32)
      have hc := cd_at hs
      have hR := md_sm hs hR0
      refine jd_aload_n zd_M_weight_29 rfl ?_
      refine jd_get rfl rfl zl_M 0 (by decide) zi_680 rfl rfl (rl_m (by decide)) (by decide) zd_M_weight_30 ?_
      rw [hc]
      refine jd_if_ne 43 zd_M_weight_33 (by decide) (fun _ => ?_) (fun h => absurd h (by decide))
      exact jd_vret rfl ⟨rfl, hc, hR, sm_fr hs, sm_reflL _⟩ (by decide) (by decide) zd_M_weight_43
    · refine ct_intro hls (own := zn_M) (by decide) rfl (Nat.le_of_ble_eq_true rfl) ?_
      refine jd_aload_n zd_M_weight_0 rfl ?_
      refine jd_iload_n zd_M_weight_1 rfl ?_
      refine jd_iconst (v := 0) zd_M_weight_2 (by decide) ?_
      refine jd_bipush (v := 7) zd_M_weight_3 (by decide) ?_
      refine jd_callS (n := 3) (kc_MinT hls h_d) rfl zi_767 zi_768 zi_44 zi_769 (by decide +kernel) rfl rfl rfl (by decide) (Nat.le_of_ble_eq_true rfl) (by decide) zd_M_weight_5 (fun _ _ _ h => h.elim) (fun v S2 L2 hq => ?_)
      obtain ⟨rfl, rfl, rfl⟩ := hq
      refine jd_if_eq 25 zd_M_weight_8 (by decide) (fun h => absurd h (by decide)) (fun _ => ?_)
      refine jd_iload_n zd_M_weight_11 rfl ?_
      refine jd_iconst (v := 0) zd_M_weight_12 (by decide) ?_
      refine jd_bipush (v := 100) zd_M_weight_13 (by decide) ?_
      refine jd_callS (n := 3) (kc_MinF hls h_d2) rfl zi_767 zi_768 zi_44 zi_769 (by decide +kernel) rfl rfl rfl (by decide) (Nat.le_of_ble_eq_true rfl) (by decide) zd_M_weight_15 (fun _ _ _ h => h.elim) (fun v S2 L2 hq => ?_)
      obtain ⟨rfl, rfl, rfl⟩ := hq
      refine jd_if_eq 25 zd_M_weight_18 (by decide) (fun _ => ?_) (fun h => absurd h (by decide))
      refine jd_iconst (v := 1) zd_M_weight_25 (by decide) ?_
      refine jd_put rfl rfl zl_M zp_M zm_M 0 (by decide) zi_680 rfl rfl rfl rfl rfl (Nat.le_of_ble_eq_true rfl) rfl (rl_m (by decide)) (by decide) zd_M_weight_26 ?_
      have hs := hs.fld (k := 0) (Or.inl rfl) (1 : Int32)
      have hc := cd_at hs
      have hR := md_sm hs hR0
      refine jd_aload_n zd_M_weight_29 rfl ?_
      refine jd_get rfl rfl zl_M 0 (by decide) zi_680 rfl rfl (rl_m (by decide)) (by decide) zd_M_weight_30 ?_
      rw [hc]
      refine jd_if_ne 43 zd_M_weight_33 (by decide) (fun _ => ?_) (fun h => absurd h (by decide))
      exact jd_vret rfl ⟨rfl, hc, hR, sm_fr hs, sm_reflL _⟩ (by decide) (by decide) zd_M_weight_43
  · rw [hN]
    have h_x : ob (nI j) 0 7 = false := ob_j7 j hj
    refine ct_intro hls (own := zn_M) (by decide) rfl (Nat.le_of_ble_eq_true rfl) ?_
    refine jd_aload_n zd_M_weight_0 rfl ?_
    refine jd_iload_n zd_M_weight_1 rfl ?_
    refine jd_iconst (v := 0) zd_M_weight_2 (by decide) ?_
    refine jd_bipush (v := 7) zd_M_weight_3 (by decide) ?_
    refine jd_callS (n := 3) (kc_MinT hls h_x) rfl zi_767 zi_768 zi_44 zi_769 (by decide +kernel) rfl rfl rfl (by decide) (Nat.le_of_ble_eq_true rfl) (by decide) zd_M_weight_5 (fun _ _ _ h => h.elim) (fun v S2 L2 hq => ?_)
    obtain ⟨rfl, rfl, rfl⟩ := hq
    refine jd_if_eq 25 zd_M_weight_8 (by decide) (fun h => absurd h (by decide)) (fun _ => ?_)
    refine jd_iload_n zd_M_weight_11 rfl ?_
    refine jd_iconst (v := 0) zd_M_weight_12 (by decide) ?_
    refine jd_bipush (v := 100) zd_M_weight_13 (by decide) ?_
    refine jd_callS (n := 3) (kc_MinT hls h_y) rfl zi_767 zi_768 zi_44 zi_769 (by decide +kernel) rfl rfl rfl (by decide) (Nat.le_of_ble_eq_true rfl) (by decide) zd_M_weight_15 (fun _ _ _ h => h.elim) (fun v S2 L2 hq => ?_)
    obtain ⟨rfl, rfl, rfl⟩ := hq
    refine jd_if_eq 25 zd_M_weight_18 (by decide) (fun h => absurd h (by decide)) (fun _ => ?_)
    refine jd_iconst (v := 0) zd_M_weight_21 (by decide) ?_
    refine jd_goto 26 zd_M_weight_22 (by decide) ?_
    refine jd_put rfl rfl zl_M zp_M zm_M 0 (by decide) zi_680 rfl rfl rfl rfl rfl (Nat.le_of_ble_eq_true rfl) rfl (rl_m (by decide)) (by decide) zd_M_weight_26 ?_
    have hs := hs.fld (k := 0) (Or.inl rfl) (0 : Int32)
    have hc := cd_at hs
    have hR := md_sm hs hR0
    refine jd_aload_n zd_M_weight_29 rfl ?_
    refine jd_get rfl rfl zl_M 0 (by decide) zi_680 rfl rfl (rl_m (by decide)) (by decide) zd_M_weight_30 ?_
    rw [hc]
    refine jd_if_ne 43 zd_M_weight_33 (by decide) (fun h => absurd h (by decide)) (fun _ => ?_)
    refine jd_aload_n zd_M_weight_36 rfl ?_
    refine jd_get rfl rfl zl_M 16 (by decide) zi_696 rfl rfl (rl_m (by decide)) (by decide) zd_M_weight_37 ?_
    refine jd_iload_n zd_M_weight_40 rfl ?_
    refine jd_iload_n zd_M_weight_41 rfl ?_
    refine jd_istN (r := 417) (c := j) (fun _ => rfl) rfl (by omega) (n := 8) (by decide) (rl_m (by decide)) (by decide) zd_M_weight_42 ?_
    exact jd_vret rfl ⟨rfl, by rw [va_up_ne _ _ (by decide)]; exact hc, md_weight hR y, (sm_fr hs).up (by decide) (by decide) _, sm_reflL _⟩ (by decide) (by decide) zd_M_weight_43
set_option maxRecDepth 100000 in
set_option maxHeartbeats 4000000 in
theorem kc_Mlimits {l : Launch} (hls : l.stackTraces = false) {D : va_G} {w : wd_T} {S : Nat → Nat → Int32} {L : Nat → Nat → Int64} {G : Nat → Nat → Int32} (hA : ok_A w G) (hR0 : md_R w G S) {x y : Int32} {c v : Int32} {N : Nat → Nat → Int32} (hO : ou_limits G x y c v N) : ct_M l D w zy_M_limits (Cond.code zy_M_limits zb_M_limits 3 (Option.none : Option Jvm.ClassFile.FieldType)) ({ frames := 1, cells := 0, slots := 0, locals := 22 } : Room) [av_r 400, av_i x, av_i y] S L (po_Mv w c N S L) 0 0 := by
  have h12 := hA.1.1
  have h13 := hA.1.2.1
  have hs := sm_refl S
  have hR := hR0
  rcases hO with ⟨h_o, rfl, hN⟩ | ⟨h_x, h_y, rfl, hN⟩
  · rw [hN]
    have h_d : ob x 0 8 = true ∨ (ob x 0 8 = false ∧ ob y 1 1000 = true) := by cases q1 : ob x 0 8 <;> cases q2 : ob y 1 1000 <;> simp_all
    rcases h_d with h_d | ⟨h_d, h_d2⟩
    · refine ct_intro hls (own := zn_M) (by decide) rfl (Nat.le_of_ble_eq_true rfl) ?_
      refine jd_aload_n zd_M_limits_0 rfl ?_
      refine jd_iload_n zd_M_limits_1 rfl ?_
      refine jd_iconst (v := 0) zd_M_limits_2 (by decide) ?_
      refine jd_bipush (v := 8) zd_M_limits_3 (by decide) ?_
      refine jd_callS (n := 3) (kc_MinF hls h_d) rfl zi_767 zi_768 zi_44 zi_769 (by decide +kernel) rfl rfl rfl (by decide) (Nat.le_of_ble_eq_true rfl) (by decide) zd_M_limits_5 (fun _ _ _ h => h.elim) (fun v S2 L2 hq => ?_)
      obtain ⟨rfl, rfl, rfl⟩ := hq
      refine jd_if_eq 26 zd_M_limits_8 (by decide) (fun _ => ?_) (fun h => absurd h (by decide))
      refine jd_iconst (v := 1) zd_M_limits_26 (by decide) ?_
      refine jd_put rfl rfl zl_M zp_M zm_M 0 (by decide) zi_680 rfl rfl rfl rfl rfl (Nat.le_of_ble_eq_true rfl) rfl (rl_m (by decide)) (by decide) zd_M_limits_27 ?_
      have hs := hs.fld (k := 0) (Or.inl rfl) (1 : Int32)
      have hc := cd_at hs
      have hR := md_sm hs hR0
      refine jd_aload_n zd_M_limits_30 rfl ?_
      refine jd_get rfl rfl zl_M 0 (by decide) zi_680 rfl rfl (rl_m (by decide)) (by decide) zd_M_limits_31 ?_
      rw [hc]
      refine jd_if_le 38 zd_M_limits_34 (by decide) (fun h => absurd h (by decide)) (fun _ => ?_)
      exact jd_vret rfl ⟨rfl, hc, hR, sm_fr hs, sm_reflL _⟩ (by decide) (by decide) zd_M_limits_37
    · refine ct_intro hls (own := zn_M) (by decide) rfl (Nat.le_of_ble_eq_true rfl) ?_
      refine jd_aload_n zd_M_limits_0 rfl ?_
      refine jd_iload_n zd_M_limits_1 rfl ?_
      refine jd_iconst (v := 0) zd_M_limits_2 (by decide) ?_
      refine jd_bipush (v := 8) zd_M_limits_3 (by decide) ?_
      refine jd_callS (n := 3) (kc_MinT hls h_d) rfl zi_767 zi_768 zi_44 zi_769 (by decide +kernel) rfl rfl rfl (by decide) (Nat.le_of_ble_eq_true rfl) (by decide) zd_M_limits_5 (fun _ _ _ h => h.elim) (fun v S2 L2 hq => ?_)
      obtain ⟨rfl, rfl, rfl⟩ := hq
      refine jd_if_eq 26 zd_M_limits_8 (by decide) (fun h => absurd h (by decide)) (fun _ => ?_)
      refine jd_iload_n zd_M_limits_11 rfl ?_
      refine jd_iconst (v := 1) zd_M_limits_12 (by decide) ?_
      refine jd_sipush (v := 1000) zd_M_limits_13 (by decide) ?_
      refine jd_callS (n := 3) (kc_MinF hls h_d2) rfl zi_767 zi_768 zi_44 zi_769 (by decide +kernel) rfl rfl rfl (by decide) (Nat.le_of_ble_eq_true rfl) (by decide) zd_M_limits_16 (fun _ _ _ h => h.elim) (fun v S2 L2 hq => ?_)
      obtain ⟨rfl, rfl, rfl⟩ := hq
      refine jd_if_eq 26 zd_M_limits_19 (by decide) (fun _ => ?_) (fun h => absurd h (by decide))
      refine jd_iconst (v := 1) zd_M_limits_26 (by decide) ?_
      refine jd_put rfl rfl zl_M zp_M zm_M 0 (by decide) zi_680 rfl rfl rfl rfl rfl (Nat.le_of_ble_eq_true rfl) rfl (rl_m (by decide)) (by decide) zd_M_limits_27 ?_
      have hs := hs.fld (k := 0) (Or.inl rfl) (1 : Int32)
      have hc := cd_at hs
      have hR := md_sm hs hR0
      refine jd_aload_n zd_M_limits_30 rfl ?_
      refine jd_get rfl rfl zl_M 0 (by decide) zi_680 rfl rfl (rl_m (by decide)) (by decide) zd_M_limits_31 ?_
      rw [hc]
      refine jd_if_le 38 zd_M_limits_34 (by decide) (fun h => absurd h (by decide)) (fun _ => ?_)
      exact jd_vret rfl ⟨rfl, hc, hR, sm_fr hs, sm_reflL _⟩ (by decide) (by decide) zd_M_limits_37
  · rw [hN]
    refine ct_intro hls (own := zn_M) (by decide) rfl (Nat.le_of_ble_eq_true rfl) ?_
    refine jd_aload_n zd_M_limits_0 rfl ?_
    refine jd_iload_n zd_M_limits_1 rfl ?_
    refine jd_iconst (v := 0) zd_M_limits_2 (by decide) ?_
    refine jd_bipush (v := 8) zd_M_limits_3 (by decide) ?_
    refine jd_callS (n := 3) (kc_MinT hls h_x) rfl zi_767 zi_768 zi_44 zi_769 (by decide +kernel) rfl rfl rfl (by decide) (Nat.le_of_ble_eq_true rfl) (by decide) zd_M_limits_5 (fun _ _ _ h => h.elim) (fun v S2 L2 hq => ?_)
    obtain ⟨rfl, rfl, rfl⟩ := hq
    refine jd_if_eq 26 zd_M_limits_8 (by decide) (fun h => absurd h (by decide)) (fun _ => ?_)
    refine jd_iload_n zd_M_limits_11 rfl ?_
    refine jd_iconst (v := 1) zd_M_limits_12 (by decide) ?_
    refine jd_sipush (v := 1000) zd_M_limits_13 (by decide) ?_
    refine jd_callS (n := 3) (kc_MinT hls h_y) rfl zi_767 zi_768 zi_44 zi_769 (by decide +kernel) rfl rfl rfl (by decide) (Nat.le_of_ble_eq_true rfl) (by decide) zd_M_limits_16 (fun _ _ _ h => h.elim) (fun v S2 L2 hq => ?_)
    obtain ⟨rfl, rfl, rfl⟩ := hq
    refine jd_if_eq 26 zd_M_limits_19 (by decide) (fun h => absurd h (by decide)) (fun _ => ?_)
    refine jd_iconst (v := 0) zd_M_limits_22 (by decide) ?_
    refine jd_goto 27 zd_M_limits_23 (by decide) ?_
    refine jd_put rfl rfl zl_M zp_M zm_M 0 (by decide) zi_680 rfl rfl rfl rfl rfl (Nat.le_of_ble_eq_true rfl) rfl (rl_m (by decide)) (by decide) zd_M_limits_27 ?_
    have hs := hs.fld (k := 0) (Or.inl rfl) (0 : Int32)
    have hc := cd_at hs
    have hR := md_sm hs hR0
    refine jd_aload_n zd_M_limits_30 rfl ?_
    refine jd_get rfl rfl zl_M 0 (by decide) zi_680 rfl rfl (rl_m (by decide)) (by decide) zd_M_limits_31 ?_
    rw [hc]
    refine jd_if_le 38 zd_M_limits_34 (by decide) (fun _ => ?_) (fun h => absurd h (by decide))
    refine jd_aload_n zd_M_limits_38 rfl ?_
    refine jd_iload_n zd_M_limits_39 rfl ?_
    refine jd_put rfl rfl zl_M zp_M zm_M 17 (by decide) zi_697 rfl rfl rfl rfl rfl (Nat.le_of_ble_eq_true rfl) rfl (rl_m (by decide)) (by decide) zd_M_limits_40 ?_
    refine jd_aload_n zd_M_limits_43 rfl ?_
    refine jd_iload_n zd_M_limits_44 rfl ?_
    refine jd_put rfl rfl zl_M zp_M zm_M 18 (by decide) zi_698 rfl rfl rfl rfl rfl (Nat.le_of_ble_eq_true rfl) rfl (rl_m (by decide)) (by decide) zd_M_limits_45 ?_
    exact jd_vret rfl ⟨rfl, by rw [va_up_self]; simp only [upd]; rw [if_neg (by decide), va_up_self]; simp only [upd]; rw [if_neg (by decide)]; exact hc, by rw [va_up_self, bx_uu]; exact md_limits hR x y, ((sm_fr hs).up (by decide) (by decide) _).up (by decide) (by decide) _, sm_reflL _⟩ (by decide) (by decide) zd_M_limits_48
set_option maxRecDepth 100000 in
set_option maxHeartbeats 4000000 in
theorem kc_Mfits {l : Launch} (hls : l.stackTraces = false) {D : va_G} {w : wd_T} {S : Nat → Nat → Int32} {L : Nat → Nat → Int64} {G : Nat → Nat → Int32} (hA : ok_A w G) (hR0 : md_R w G S) {x y may : Int32} {c v : Int32} {N : Nat → Nat → Int32} (hO : ou_fits w G x y may c v N) : ct_M l D w zy_M_fits (Cond.code zy_M_fits zb_M_fits 4 (Option.none : Option Jvm.ClassFile.FieldType)) ({ frames := 2, cells := 0, slots := 0, locals := 43 } : Room) [av_r 400, av_i x, av_i y, av_i may] S L (po_Mv w c N S L) 0 0 := by
  have h12 := hA.1.1
  have h13 := hA.1.2.1
  have hs := sm_refl S
  have hR := hR0
  rcases hO with ⟨h_o, rfl, hN⟩ | ⟨a, b, ha, hb, rfl, rfl, rfl, hN⟩
  · rw [hN]
    have h_d : ob x 0 (nI w.2.2.1 - 1) = true ∨ (ob x 0 (nI w.2.2.1 - 1) = false ∧ ob y 0 (nI w.2.2.2 - 1) = true) := by cases q1 : ob x 0 (nI w.2.2.1 - 1) <;> cases q2 : ob y 0 (nI w.2.2.2 - 1) <;> simp_all
    rcases h_d with h_d | ⟨h_d, h_d2⟩
    · refine ct_intro hls (own := zn_M) (by decide) rfl (Nat.le_of_ble_eq_true rfl) ?_
      refine jd_aload_n zd_M_fits_0 rfl ?_
      refine jd_aload_n zd_M_fits_1 rfl ?_
      refine jd_iload_n zd_M_fits_2 rfl ?_
      refine jd_callV (n := 1) (kc_isUnitF hls hR h_d) rfl rfl rfl (rl_m (by decide)) (by decide) zi_782 zi_784 zi_26 zi_44 zi_785 (by decide +kernel) rfl rfl rfl (by decide) (Nat.le_of_ble_eq_true rfl) (by decide) zd_M_fits_3 (fun _ _ _ h => h.elim) (fun v S2 L2 hq => ?_)
      obtain ⟨rfl, rfl, rfl⟩ := hq
      refine jd_if_eq 21 zd_M_fits_6 (by decide) (fun _ => ?_) (fun h => absurd h (by decide))
      refine jd_iconst (v := 1) zd_M_fits_21 (by decide) ?_
      refine jd_put rfl rfl zl_M zp_M zm_M 0 (by decide) zi_680 rfl rfl rfl rfl rfl (Nat.le_of_ble_eq_true rfl) rfl (rl_m (by decide)) (by decide) zd_M_fits_22 ?_
      have hs := hs.fld (k := 0) (Or.inl rfl) (1 : Int32)
      have hc := cd_at hs
      have hR := md_sm hs hR0
      refine jd_aload_n zd_M_fits_25 rfl ?_
      refine jd_get rfl rfl zl_M 0 (by decide) zi_680 rfl rfl (rl_m (by decide)) (by decide) zd_M_fits_26 ?_
      rw [hc]
      refine jd_if_ne 52 zd_M_fits_29 (by decide) (fun _ => ?_) (fun h => absurd h (by decide))
      exact jd_vret rfl ⟨rfl, hc, hR, sm_fr hs, sm_reflL _⟩ (by decide) (by decide) zd_M_fits_52
    · refine ct_intro hls (own := zn_M) (by decide) rfl (Nat.le_of_ble_eq_true rfl) ?_
      refine jd_aload_n zd_M_fits_0 rfl ?_
      refine jd_aload_n zd_M_fits_1 rfl ?_
      refine jd_iload_n zd_M_fits_2 rfl ?_
      refine jd_callV (n := 1) (kc_isUnitT hls hR h_d) rfl rfl rfl (rl_m (by decide)) (by decide) zi_782 zi_784 zi_26 zi_44 zi_785 (by decide +kernel) rfl rfl rfl (by decide) (Nat.le_of_ble_eq_true rfl) (by decide) zd_M_fits_3 (fun _ _ _ h => h.elim) (fun v S2 L2 hq => ?_)
      obtain ⟨rfl, rfl, rfl⟩ := hq
      refine jd_if_eq 21 zd_M_fits_6 (by decide) (fun h => absurd h (by decide)) (fun _ => ?_)
      refine jd_aload_n zd_M_fits_9 rfl ?_
      refine jd_iload_n zd_M_fits_10 rfl ?_
      refine jd_callV (n := 1) (kc_isPlaceF hls hR h_d2) rfl rfl rfl (rl_m (by decide)) (by decide) zi_786 zi_788 zi_27 zi_44 zi_789 (by decide +kernel) rfl rfl rfl (by decide) (Nat.le_of_ble_eq_true rfl) (by decide) zd_M_fits_11 (fun _ _ _ h => h.elim) (fun v S2 L2 hq => ?_)
      obtain ⟨rfl, rfl, rfl⟩ := hq
      refine jd_if_eq 21 zd_M_fits_14 (by decide) (fun _ => ?_) (fun h => absurd h (by decide))
      refine jd_iconst (v := 1) zd_M_fits_21 (by decide) ?_
      refine jd_put rfl rfl zl_M zp_M zm_M 0 (by decide) zi_680 rfl rfl rfl rfl rfl (Nat.le_of_ble_eq_true rfl) rfl (rl_m (by decide)) (by decide) zd_M_fits_22 ?_
      have hs := hs.fld (k := 0) (Or.inl rfl) (1 : Int32)
      have hc := cd_at hs
      have hR := md_sm hs hR0
      refine jd_aload_n zd_M_fits_25 rfl ?_
      refine jd_get rfl rfl zl_M 0 (by decide) zi_680 rfl rfl (rl_m (by decide)) (by decide) zd_M_fits_26 ?_
      rw [hc]
      refine jd_if_ne 52 zd_M_fits_29 (by decide) (fun _ => ?_) (fun h => absurd h (by decide))
      exact jd_vret rfl ⟨rfl, hc, hR, sm_fr hs, sm_reflL _⟩ (by decide) (by decide) zd_M_fits_52
  · rw [hN]
    refine ct_intro hls (own := zn_M) (by decide) rfl (Nat.le_of_ble_eq_true rfl) ?_
    refine jd_aload_n zd_M_fits_0 rfl ?_
    refine jd_aload_n zd_M_fits_1 rfl ?_
    refine jd_iload_n zd_M_fits_2 rfl ?_
    refine jd_callV (n := 1) (kc_isUnitT hls hR (ob_nI h12 ha)) rfl rfl rfl (rl_m (by decide)) (by decide) zi_782 zi_784 zi_26 zi_44 zi_785 (by decide +kernel) rfl rfl rfl (by decide) (Nat.le_of_ble_eq_true rfl) (by decide) zd_M_fits_3 (fun _ _ _ h => h.elim) (fun v S2 L2 hq => ?_)
    obtain ⟨rfl, rfl, rfl⟩ := hq
    refine jd_if_eq 21 zd_M_fits_6 (by decide) (fun h => absurd h (by decide)) (fun _ => ?_)
    refine jd_aload_n zd_M_fits_9 rfl ?_
    refine jd_iload_n zd_M_fits_10 rfl ?_
    refine jd_callV (n := 1) (kc_isPlaceT hls hR (ob_nI h13 hb)) rfl rfl rfl (rl_m (by decide)) (by decide) zi_786 zi_788 zi_27 zi_44 zi_789 (by decide +kernel) rfl rfl rfl (by decide) (Nat.le_of_ble_eq_true rfl) (by decide) zd_M_fits_11 (fun _ _ _ h => h.elim) (fun v S2 L2 hq => ?_)
    obtain ⟨rfl, rfl, rfl⟩ := hq
    refine jd_if_eq 21 zd_M_fits_14 (by decide) (fun h => absurd h (by decide)) (fun _ => ?_)
    refine jd_iconst (v := 0) zd_M_fits_17 (by decide) ?_
    refine jd_goto 22 zd_M_fits_18 (by decide) ?_
    refine jd_put rfl rfl zl_M zp_M zm_M 0 (by decide) zi_680 rfl rfl rfl rfl rfl (Nat.le_of_ble_eq_true rfl) rfl (rl_m (by decide)) (by decide) zd_M_fits_22 ?_
    have hs := hs.fld (k := 0) (Or.inl rfl) (0 : Int32)
    have hc := cd_at hs
    have hR := md_sm hs hR0
    refine jd_aload_n zd_M_fits_25 rfl ?_
    refine jd_get rfl rfl zl_M 0 (by decide) zi_680 rfl rfl (rl_m (by decide)) (by decide) zd_M_fits_26 ?_
    rw [hc]
    refine jd_if_ne 52 zd_M_fits_29 (by decide) (fun h => absurd h (by decide)) (fun _ => ?_)
    refine jd_aload_n zd_M_fits_32 rfl ?_
    refine jd_get rfl rfl zl_M 8 (by decide) zi_688 rfl rfl (rl_m (by decide)) (by decide) zd_M_fits_33 ?_
    refine jd_bipush (v := 12) zd_M_fits_36 (by decide) ?_
    refine jd_iload_n zd_M_fits_38 rfl ?_
    refine jd_imul zd_M_fits_39 ?_
    refine jd_iload_n zd_M_fits_40 rfl ?_
    refine jd_iadd zd_M_fits_41 ?_
    refine jd_iload_n zd_M_fits_42 rfl ?_
    refine jd_if_ne 50 zd_M_fits_43 (by decide) (fun h_43 => ?_) (fun h_43 => ?_)
    · refine jd_iconst (v := 0) zd_M_fits_50 (by decide) ?_
      refine jd_zstN (r := 409) (c := 12 * a + b) (fun _ => rfl) (by decide) (ix12 a b) (by omega) (n := 144) (by decide) (rl_m (by decide)) (by decide) zd_M_fits_51 ?_
      exact jd_vret rfl ⟨rfl, by rw [va_up_ne _ _ (by decide)]; exact hc, by rw [if_neg h_43]; exact md_fits h12 hR ha (by omega) (x := G (100 + a) 6 &&& (((1 : Int32) <<< (nI b &&& 31)) ^^^ (-1))) (y := 0) ⟨fun _ => by rw [bt_and, bt_not _ (by omega), bt_one b (by omega) b (by omega)]; simp, fun _ => rfl⟩ (fun p hp hne => by rw [bt_and, bt_not _ (by omega), bt_one b (by omega) p (by omega)]; simp [hne]), (sm_fr hs).up (by decide) (by decide) _, sm_reflL _⟩ (by decide) (by decide) zd_M_fits_52
    · refine jd_iconst (v := 1) zd_M_fits_46 (by decide) ?_
      refine jd_goto 51 zd_M_fits_47 (by decide) ?_
      refine jd_zstN (r := 409) (c := 12 * a + b) (fun _ => rfl) (by decide) (ix12 a b) (by omega) (n := 144) (by decide) (rl_m (by decide)) (by decide) zd_M_fits_51 ?_
      exact jd_vret rfl ⟨rfl, by rw [va_up_ne _ _ (by decide)]; exact hc, by rw [if_pos h_43]; exact md_fits h12 hR ha (by omega) (x := G (100 + a) 6 ||| ((1 : Int32) <<< (nI b &&& 31))) (y := 1) ⟨fun h => absurd h (by decide), fun h => by rw [bt_or, bt_one b (by omega) b (by omega)] at h; simp at h⟩ (fun p hp hne => by rw [bt_or, bt_one b (by omega) p (by omega)]; simp [hne]), (sm_fr hs).up (by decide) (by decide) _, sm_reflL _⟩ (by decide) (by decide) zd_M_fits_52
set_option maxRecDepth 100000 in
set_option maxHeartbeats 4000000 in
theorem kc_Mcost {l : Launch} (hls : l.stackTraces = false) {D : va_G} {w : wd_T} {S : Nat → Nat → Int32} {L : Nat → Nat → Int64} {G : Nat → Nat → Int32} (hA : ok_A w G) (hR0 : md_R w G S) {x y z : Int32} {c v : Int32} {N : Nat → Nat → Int32} (hO : ou_cost w G x y z c v N) : ct_M l D w zy_M_cost (Cond.code zy_M_cost zb_M_cost 4 (Option.none : Option Jvm.ClassFile.FieldType)) ({ frames := 2, cells := 0, slots := 0, locals := 43 } : Room) [av_r 400, av_i x, av_i y, av_i z] S L (po_Mv w c N S L) 0 0 := by
  have h12 := hA.1.1
  have h13 := hA.1.2.1
  have hs := sm_refl S
  have hR := hR0
  rcases hO with ⟨h_o, rfl, hN⟩ | ⟨a, b, ha, hb, rfl, rfl, ⟨h_z, rfl, hN⟩ | ⟨h_z, rfl, hN⟩⟩
  · rw [hN]
    have h_d : ob x 0 (nI w.2.2.1 - 1) = true ∨ (ob x 0 (nI w.2.2.1 - 1) = false ∧ ob y 0 (nI w.2.2.2 - 1) = true) := by cases q1 : ob x 0 (nI w.2.2.1 - 1) <;> cases q2 : ob y 0 (nI w.2.2.2 - 1) <;> simp_all
    rcases h_d with h_d | ⟨h_d, h_d2⟩
    · refine ct_intro hls (own := zn_M) (by decide) rfl (Nat.le_of_ble_eq_true rfl) ?_
      refine jd_aload_n zd_M_cost_0 rfl ?_
      refine jd_aload_n zd_M_cost_1 rfl ?_
      refine jd_iload_n zd_M_cost_2 rfl ?_
      refine jd_callV (n := 1) (kc_isUnitF hls hR h_d) rfl rfl rfl (rl_m (by decide)) (by decide) zi_782 zi_784 zi_26 zi_44 zi_785 (by decide +kernel) rfl rfl rfl (by decide) (Nat.le_of_ble_eq_true rfl) (by decide) zd_M_cost_3 (fun _ _ _ h => h.elim) (fun v S2 L2 hq => ?_)
      obtain ⟨rfl, rfl, rfl⟩ := hq
      refine jd_if_eq 17 zd_M_cost_6 (by decide) (fun _ => ?_) (fun h => absurd h (by decide))
      refine jd_iconst (v := 1) zd_M_cost_17 (by decide) ?_
      refine jd_goto 32 zd_M_cost_18 (by decide) ?_
      refine jd_put rfl rfl zl_M zp_M zm_M 0 (by decide) zi_680 rfl rfl rfl rfl rfl (Nat.le_of_ble_eq_true rfl) rfl (rl_m (by decide)) (by decide) zd_M_cost_32 ?_
      have hs := hs.fld (k := 0) (Or.inl rfl) (1 : Int32)
      have hc := cd_at hs
      have hR := md_sm hs hR0
      refine jd_aload_n zd_M_cost_35 rfl ?_
      refine jd_get rfl rfl zl_M 0 (by decide) zi_680 rfl rfl (rl_m (by decide)) (by decide) zd_M_cost_36 ?_
      rw [hc]
      refine jd_if_ne 62 zd_M_cost_39 (by decide) (fun _ => ?_) (fun h => absurd h (by decide))
      exact jd_vret rfl ⟨rfl, hc, hR, sm_fr hs, sm_reflL _⟩ (by decide) (by decide) zd_M_cost_62
    · refine ct_intro hls (own := zn_M) (by decide) rfl (Nat.le_of_ble_eq_true rfl) ?_
      refine jd_aload_n zd_M_cost_0 rfl ?_
      refine jd_aload_n zd_M_cost_1 rfl ?_
      refine jd_iload_n zd_M_cost_2 rfl ?_
      refine jd_callV (n := 1) (kc_isUnitT hls hR h_d) rfl rfl rfl (rl_m (by decide)) (by decide) zi_782 zi_784 zi_26 zi_44 zi_785 (by decide +kernel) rfl rfl rfl (by decide) (Nat.le_of_ble_eq_true rfl) (by decide) zd_M_cost_3 (fun _ _ _ h => h.elim) (fun v S2 L2 hq => ?_)
      obtain ⟨rfl, rfl, rfl⟩ := hq
      refine jd_if_eq 17 zd_M_cost_6 (by decide) (fun h => absurd h (by decide)) (fun _ => ?_)
      refine jd_aload_n zd_M_cost_9 rfl ?_
      refine jd_iload_n zd_M_cost_10 rfl ?_
      refine jd_callV (n := 1) (kc_isPlaceF hls hR h_d2) rfl rfl rfl (rl_m (by decide)) (by decide) zi_786 zi_788 zi_27 zi_44 zi_789 (by decide +kernel) rfl rfl rfl (by decide) (Nat.le_of_ble_eq_true rfl) (by decide) zd_M_cost_11 (fun _ _ _ h => h.elim) (fun v S2 L2 hq => ?_)
      obtain ⟨rfl, rfl, rfl⟩ := hq
      refine jd_if_ne 21 zd_M_cost_14 (by decide) (fun h => absurd h (by decide)) (fun _ => ?_)
      refine jd_iconst (v := 1) zd_M_cost_17 (by decide) ?_
      refine jd_goto 32 zd_M_cost_18 (by decide) ?_
      refine jd_put rfl rfl zl_M zp_M zm_M 0 (by decide) zi_680 rfl rfl rfl rfl rfl (Nat.le_of_ble_eq_true rfl) rfl (rl_m (by decide)) (by decide) zd_M_cost_32 ?_
      have hs := hs.fld (k := 0) (Or.inl rfl) (1 : Int32)
      have hc := cd_at hs
      have hR := md_sm hs hR0
      refine jd_aload_n zd_M_cost_35 rfl ?_
      refine jd_get rfl rfl zl_M 0 (by decide) zi_680 rfl rfl (rl_m (by decide)) (by decide) zd_M_cost_36 ?_
      rw [hc]
      refine jd_if_ne 62 zd_M_cost_39 (by decide) (fun _ => ?_) (fun h => absurd h (by decide))
      exact jd_vret rfl ⟨rfl, hc, hR, sm_fr hs, sm_reflL _⟩ (by decide) (by decide) zd_M_cost_62
  · rw [hN]
    refine ct_intro hls (own := zn_M) (by decide) rfl (Nat.le_of_ble_eq_true rfl) ?_
    refine jd_aload_n zd_M_cost_0 rfl ?_
    refine jd_aload_n zd_M_cost_1 rfl ?_
    refine jd_iload_n zd_M_cost_2 rfl ?_
    refine jd_callV (n := 1) (kc_isUnitT hls hR (ob_nI h12 ha)) rfl rfl rfl (rl_m (by decide)) (by decide) zi_782 zi_784 zi_26 zi_44 zi_785 (by decide +kernel) rfl rfl rfl (by decide) (Nat.le_of_ble_eq_true rfl) (by decide) zd_M_cost_3 (fun _ _ _ h => h.elim) (fun v S2 L2 hq => ?_)
    obtain ⟨rfl, rfl, rfl⟩ := hq
    refine jd_if_eq 17 zd_M_cost_6 (by decide) (fun h => absurd h (by decide)) (fun _ => ?_)
    refine jd_aload_n zd_M_cost_9 rfl ?_
    refine jd_iload_n zd_M_cost_10 rfl ?_
    refine jd_callV (n := 1) (kc_isPlaceT hls hR (ob_nI h13 hb)) rfl rfl rfl (rl_m (by decide)) (by decide) zi_786 zi_788 zi_27 zi_44 zi_789 (by decide +kernel) rfl rfl rfl (by decide) (Nat.le_of_ble_eq_true rfl) (by decide) zd_M_cost_11 (fun _ _ _ h => h.elim) (fun v S2 L2 hq => ?_)
    obtain ⟨rfl, rfl, rfl⟩ := hq
    refine jd_if_ne 21 zd_M_cost_14 (by decide) (fun _ => ?_) (fun h => absurd h (by decide))
    refine jd_iload_n zd_M_cost_21 rfl ?_
    refine jd_ldc (v := 1000000) zi_794 zd_M_cost_22 ?_
    refine jd_icmp_le 31 zd_M_cost_24 (by decide) (fun h => absurd h h_z) (fun h => ?_)
    refine jd_iconst (v := 2) zd_M_cost_27 (by decide) ?_
    refine jd_goto 32 zd_M_cost_28 (by decide) ?_
    refine jd_put rfl rfl zl_M zp_M zm_M 0 (by decide) zi_680 rfl rfl rfl rfl rfl (Nat.le_of_ble_eq_true rfl) rfl (rl_m (by decide)) (by decide) zd_M_cost_32 ?_
    have hs := hs.fld (k := 0) (Or.inl rfl) (2 : Int32)
    have hc := cd_at hs
    have hR := md_sm hs hR0
    refine jd_aload_n zd_M_cost_35 rfl ?_
    refine jd_get rfl rfl zl_M 0 (by decide) zi_680 rfl rfl (rl_m (by decide)) (by decide) zd_M_cost_36 ?_
    rw [hc]
    refine jd_if_ne 62 zd_M_cost_39 (by decide) (fun _ => ?_) (fun h => absurd h (by decide))
    exact jd_vret rfl ⟨rfl, hc, hR, sm_fr hs, sm_reflL _⟩ (by decide) (by decide) zd_M_cost_62
  · rw [hN]
    refine ct_intro hls (own := zn_M) (by decide) rfl (Nat.le_of_ble_eq_true rfl) ?_
    refine jd_aload_n zd_M_cost_0 rfl ?_
    refine jd_aload_n zd_M_cost_1 rfl ?_
    refine jd_iload_n zd_M_cost_2 rfl ?_
    refine jd_callV (n := 1) (kc_isUnitT hls hR (ob_nI h12 ha)) rfl rfl rfl (rl_m (by decide)) (by decide) zi_782 zi_784 zi_26 zi_44 zi_785 (by decide +kernel) rfl rfl rfl (by decide) (Nat.le_of_ble_eq_true rfl) (by decide) zd_M_cost_3 (fun _ _ _ h => h.elim) (fun v S2 L2 hq => ?_)
    obtain ⟨rfl, rfl, rfl⟩ := hq
    refine jd_if_eq 17 zd_M_cost_6 (by decide) (fun h => absurd h (by decide)) (fun _ => ?_)
    refine jd_aload_n zd_M_cost_9 rfl ?_
    refine jd_iload_n zd_M_cost_10 rfl ?_
    refine jd_callV (n := 1) (kc_isPlaceT hls hR (ob_nI h13 hb)) rfl rfl rfl (rl_m (by decide)) (by decide) zi_786 zi_788 zi_27 zi_44 zi_789 (by decide +kernel) rfl rfl rfl (by decide) (Nat.le_of_ble_eq_true rfl) (by decide) zd_M_cost_11 (fun _ _ _ h => h.elim) (fun v S2 L2 hq => ?_)
    obtain ⟨rfl, rfl, rfl⟩ := hq
    refine jd_if_ne 21 zd_M_cost_14 (by decide) (fun _ => ?_) (fun h => absurd h (by decide))
    refine jd_iload_n zd_M_cost_21 rfl ?_
    refine jd_ldc (v := 1000000) zi_794 zd_M_cost_22 ?_
    refine jd_icmp_le 31 zd_M_cost_24 (by decide) (fun h => ?_) (fun h => absurd h_z h)
    refine jd_iconst (v := 0) zd_M_cost_31 (by decide) ?_
    refine jd_put rfl rfl zl_M zp_M zm_M 0 (by decide) zi_680 rfl rfl rfl rfl rfl (Nat.le_of_ble_eq_true rfl) rfl (rl_m (by decide)) (by decide) zd_M_cost_32 ?_
    have hs := hs.fld (k := 0) (Or.inl rfl) (0 : Int32)
    have hc := cd_at hs
    have hR := md_sm hs hR0
    refine jd_aload_n zd_M_cost_35 rfl ?_
    refine jd_get rfl rfl zl_M 0 (by decide) zi_680 rfl rfl (rl_m (by decide)) (by decide) zd_M_cost_36 ?_
    rw [hc]
    refine jd_if_ne 62 zd_M_cost_39 (by decide) (fun h => absurd h (by decide)) (fun _ => ?_)
    refine jd_aload_n zd_M_cost_42 rfl ?_
    refine jd_get rfl rfl zl_M 9 (by decide) zi_689 rfl rfl (rl_m (by decide)) (by decide) zd_M_cost_43 ?_
    refine jd_bipush (v := 12) zd_M_cost_46 (by decide) ?_
    refine jd_iload_n zd_M_cost_48 rfl ?_
    refine jd_imul zd_M_cost_49 ?_
    refine jd_iload_n zd_M_cost_50 rfl ?_
    refine jd_iadd zd_M_cost_51 ?_
    refine jd_iload_n zd_M_cost_52 rfl ?_
    refine jd_if_ge 60 zd_M_cost_53 (by decide) (fun h_53 => ?_) (fun h_53 => ?_)
    · refine jd_iload_n zd_M_cost_60 rfl ?_
      refine jd_istN (r := 410) (c := 12 * a + b) (fun _ => rfl) (ix12 a b) (by omega) (n := 144) (by decide) (rl_m (by decide)) (by decide) zd_M_cost_61 ?_
      exact jd_vret rfl ⟨rfl, by rw [va_up_ne _ _ (by decide)]; exact hc, by rw [if_pos h_53]; exact md_cost h12 hR ha (by omega) _, (sm_fr hs).up (by decide) (by decide) _, sm_reflL _⟩ (by decide) (by decide) zd_M_cost_62
    · refine jd_iconst (v := (-1)) zd_M_cost_56 (by decide) ?_
      refine jd_goto 61 zd_M_cost_57 (by decide) ?_
      refine jd_istN (r := 410) (c := 12 * a + b) (fun _ => rfl) (ix12 a b) (by omega) (n := 144) (by decide) (rl_m (by decide)) (by decide) zd_M_cost_61 ?_
      exact jd_vret rfl ⟨rfl, by rw [va_up_ne _ _ (by decide)]; exact hc, by rw [if_neg h_53]; exact md_cost h12 hR ha (by omega) _, (sm_fr hs).up (by decide) (by decide) _, sm_reflL _⟩ (by decide) (by decide) zd_M_cost_62
set_option maxRecDepth 100000 in
set_option maxHeartbeats 4000000 in
theorem kc_Mfix {l : Launch} (hls : l.stackTraces = false) {D : va_G} {w : wd_T} {S : Nat → Nat → Int32} {L : Nat → Nat → Int64} {G : Nat → Nat → Int32} (hA : ok_A w G) (hR0 : md_R w G S) {x y : Int32} {c v : Int32} {N : Nat → Nat → Int32} (hO : ou_fix w G x y c v N) : ct_M l D w zy_M_fix (Cond.code zy_M_fix zb_M_fix 3 (Option.none : Option Jvm.ClassFile.FieldType)) ({ frames := 2, cells := 0, slots := 0, locals := 43 } : Room) [av_r 400, av_i x, av_i y] S L (po_Mv w c N S L) 0 0 := by
  have h12 := hA.1.1
  have h13 := hA.1.2.1
  have hs := sm_refl S
  have hR := hR0
  rcases hO with ⟨h_o | ⟨h_y, h_o⟩, rfl, hN⟩ | ⟨a, ha, rfl, h_y | ⟨b, hb, rfl⟩, ⟨h_5, rfl, hN⟩ | ⟨h_5, rfl, hN⟩⟩
  · rw [hN]
    refine ct_intro hls (own := zn_M) (by decide) rfl (Nat.le_of_ble_eq_true rfl) ?_
    refine jd_aload_n zd_M_fix_0 rfl ?_
    refine jd_aload_n zd_M_fix_1 rfl ?_
    refine jd_iload_n zd_M_fix_2 rfl ?_
    refine jd_callV (n := 1) (kc_isUnitF hls hR h_o) rfl rfl rfl (rl_m (by decide)) (by decide) zi_782 zi_784 zi_26 zi_44 zi_785 (by decide +kernel) rfl rfl rfl (by decide) (Nat.le_of_ble_eq_true rfl) (by decide) zd_M_fix_3 (fun _ _ _ h => h.elim) (fun v S2 L2 hq => ?_)
    obtain ⟨rfl, rfl, rfl⟩ := hq
    refine jd_if_eq 22 zd_M_fix_6 (by decide) (fun _ => ?_) (fun h => absurd h (by decide))
    refine jd_iconst (v := 1) zd_M_fix_22 (by decide) ?_
    refine jd_goto 27 zd_M_fix_23 (by decide) ?_
    refine jd_put rfl rfl zl_M zp_M zm_M 0 (by decide) zi_680 rfl rfl rfl rfl rfl (Nat.le_of_ble_eq_true rfl) rfl (rl_m (by decide)) (by decide) zd_M_fix_27 ?_
    have hs := hs.fld (k := 0) (Or.inl rfl) (1 : Int32)
    have hc := cd_at hs
    have hR := md_sm hs hR0
    refine jd_aload_n zd_M_fix_30 rfl ?_
    refine jd_get rfl rfl zl_M 0 (by decide) zi_680 rfl rfl (rl_m (by decide)) (by decide) zd_M_fix_31 ?_
    rw [hc]
    refine jd_if_ne 55 zd_M_fix_34 (by decide) (fun _ => ?_) (fun h => absurd h (by decide))
    refine jd_aload_n zd_M_fix_55 rfl ?_
    refine jd_get rfl rfl zl_M 0 (by decide) zi_680 rfl rfl (rl_m (by decide)) (by decide) zd_M_fix_56 ?_
    rw [hc]
    refine jd_if_ne 69 zd_M_fix_59 (by decide) (fun _ => ?_) (fun h => absurd h (by decide))
    exact jd_vret rfl ⟨rfl, hc, hR, sm_fr hs, sm_reflL _⟩ (by decide) (by decide) zd_M_fix_69
  · rw [hN]
    cases h_x : ob x 0 (nI w.2.2.1 - 1) with
    | true =>
      refine ct_intro hls (own := zn_M) (by decide) rfl (Nat.le_of_ble_eq_true rfl) ?_
      refine jd_aload_n zd_M_fix_0 rfl ?_
      refine jd_aload_n zd_M_fix_1 rfl ?_
      refine jd_iload_n zd_M_fix_2 rfl ?_
      refine jd_callV (n := 1) (kc_isUnitF hls hR h_x) rfl rfl rfl (rl_m (by decide)) (by decide) zi_782 zi_784 zi_26 zi_44 zi_785 (by decide +kernel) rfl rfl rfl (by decide) (Nat.le_of_ble_eq_true rfl) (by decide) zd_M_fix_3 (fun _ _ _ h => h.elim) (fun v S2 L2 hq => ?_)
      obtain ⟨rfl, rfl, rfl⟩ := hq
      refine jd_if_eq 22 zd_M_fix_6 (by decide) (fun _ => ?_) (fun h => absurd h (by decide))
      refine jd_iconst (v := 1) zd_M_fix_22 (by decide) ?_
      refine jd_goto 27 zd_M_fix_23 (by decide) ?_
      refine jd_put rfl rfl zl_M zp_M zm_M 0 (by decide) zi_680 rfl rfl rfl rfl rfl (Nat.le_of_ble_eq_true rfl) rfl (rl_m (by decide)) (by decide) zd_M_fix_27 ?_
      have hs := hs.fld (k := 0) (Or.inl rfl) (1 : Int32)
      have hc := cd_at hs
      have hR := md_sm hs hR0
      refine jd_aload_n zd_M_fix_30 rfl ?_
      refine jd_get rfl rfl zl_M 0 (by decide) zi_680 rfl rfl (rl_m (by decide)) (by decide) zd_M_fix_31 ?_
      rw [hc]
      refine jd_if_ne 55 zd_M_fix_34 (by decide) (fun _ => ?_) (fun h => absurd h (by decide))
      refine jd_aload_n zd_M_fix_55 rfl ?_
      refine jd_get rfl rfl zl_M 0 (by decide) zi_680 rfl rfl (rl_m (by decide)) (by decide) zd_M_fix_56 ?_
      rw [hc]
      refine jd_if_ne 69 zd_M_fix_59 (by decide) (fun _ => ?_) (fun h => absurd h (by decide))
      exact jd_vret rfl ⟨rfl, hc, hR, sm_fr hs, sm_reflL _⟩ (by decide) (by decide) zd_M_fix_69
    | false =>
      refine ct_intro hls (own := zn_M) (by decide) rfl (Nat.le_of_ble_eq_true rfl) ?_
      refine jd_aload_n zd_M_fix_0 rfl ?_
      refine jd_aload_n zd_M_fix_1 rfl ?_
      refine jd_iload_n zd_M_fix_2 rfl ?_
      refine jd_callV (n := 1) (kc_isUnitT hls hR h_x) rfl rfl rfl (rl_m (by decide)) (by decide) zi_782 zi_784 zi_26 zi_44 zi_785 (by decide +kernel) rfl rfl rfl (by decide) (Nat.le_of_ble_eq_true rfl) (by decide) zd_M_fix_3 (fun _ _ _ h => h.elim) (fun v S2 L2 hq => ?_)
      obtain ⟨rfl, rfl, rfl⟩ := hq
      refine jd_if_eq 22 zd_M_fix_6 (by decide) (fun h => absurd h (by decide)) (fun _ => ?_)
      refine jd_iload_n zd_M_fix_9 rfl ?_
      refine jd_iconst (v := (-1)) zd_M_fix_10 (by decide) ?_
      refine jd_icmp_eq 26 zd_M_fix_11 (by decide) (fun h => absurd h h_y) (fun h => ?_)
      refine jd_aload_n zd_M_fix_14 rfl ?_
      refine jd_iload_n zd_M_fix_15 rfl ?_
      refine jd_callV (n := 1) (kc_isPlaceF hls hR h_o) rfl rfl rfl (rl_m (by decide)) (by decide) zi_786 zi_788 zi_27 zi_44 zi_789 (by decide +kernel) rfl rfl rfl (by decide) (Nat.le_of_ble_eq_true rfl) (by decide) zd_M_fix_16 (fun _ _ _ h => h.elim) (fun v S2 L2 hq => ?_)
      obtain ⟨rfl, rfl, rfl⟩ := hq
      refine jd_if_ne 26 zd_M_fix_19 (by decide) (fun h => absurd h (by decide)) (fun _ => ?_)
      refine jd_iconst (v := 1) zd_M_fix_22 (by decide) ?_
      refine jd_goto 27 zd_M_fix_23 (by decide) ?_
      refine jd_put rfl rfl zl_M zp_M zm_M 0 (by decide) zi_680 rfl rfl rfl rfl rfl (Nat.le_of_ble_eq_true rfl) rfl (rl_m (by decide)) (by decide) zd_M_fix_27 ?_
      have hs := hs.fld (k := 0) (Or.inl rfl) (1 : Int32)
      have hc := cd_at hs
      have hR := md_sm hs hR0
      refine jd_aload_n zd_M_fix_30 rfl ?_
      refine jd_get rfl rfl zl_M 0 (by decide) zi_680 rfl rfl (rl_m (by decide)) (by decide) zd_M_fix_31 ?_
      rw [hc]
      refine jd_if_ne 55 zd_M_fix_34 (by decide) (fun _ => ?_) (fun h => absurd h (by decide))
      refine jd_aload_n zd_M_fix_55 rfl ?_
      refine jd_get rfl rfl zl_M 0 (by decide) zi_680 rfl rfl (rl_m (by decide)) (by decide) zd_M_fix_56 ?_
      rw [hc]
      refine jd_if_ne 69 zd_M_fix_59 (by decide) (fun _ => ?_) (fun h => absurd h (by decide))
      exact jd_vret rfl ⟨rfl, hc, hR, sm_fr hs, sm_reflL _⟩ (by decide) (by decide) zd_M_fix_69
  · rw [hN]
    refine ct_intro hls (own := zn_M) (by decide) rfl (Nat.le_of_ble_eq_true rfl) ?_
    refine jd_aload_n zd_M_fix_0 rfl ?_
    refine jd_aload_n zd_M_fix_1 rfl ?_
    refine jd_iload_n zd_M_fix_2 rfl ?_
    refine jd_callV (n := 1) (kc_isUnitT hls hR (ob_nI h12 ha)) rfl rfl rfl (rl_m (by decide)) (by decide) zi_782 zi_784 zi_26 zi_44 zi_785 (by decide +kernel) rfl rfl rfl (by decide) (Nat.le_of_ble_eq_true rfl) (by decide) zd_M_fix_3 (fun _ _ _ h => h.elim) (fun v S2 L2 hq => ?_)
    obtain ⟨rfl, rfl, rfl⟩ := hq
    refine jd_if_eq 22 zd_M_fix_6 (by decide) (fun h => absurd h (by decide)) (fun _ => ?_)
    refine jd_iload_n zd_M_fix_9 rfl ?_
    refine jd_iconst (v := (-1)) zd_M_fix_10 (by decide) ?_
    refine jd_icmp_eq 26 zd_M_fix_11 (by decide) (fun h => ?_) (fun h => absurd h_y h)
    refine jd_iconst (v := 0) zd_M_fix_26 (by decide) ?_
    refine jd_put rfl rfl zl_M zp_M zm_M 0 (by decide) zi_680 rfl rfl rfl rfl rfl (Nat.le_of_ble_eq_true rfl) rfl (rl_m (by decide)) (by decide) zd_M_fix_27 ?_
    have hs := hs.fld (k := 0) (Or.inl rfl) (0 : Int32)
    have hc := cd_at hs
    have hR := md_sm hs hR0
    refine jd_aload_n zd_M_fix_30 rfl ?_
    refine jd_get rfl rfl zl_M 0 (by decide) zi_680 rfl rfl (rl_m (by decide)) (by decide) zd_M_fix_31 ?_
    rw [hc]
    refine jd_if_ne 55 zd_M_fix_34 (by decide) (fun h => absurd h (by decide)) (fun _ => ?_)
    refine jd_aload_n zd_M_fix_37 rfl ?_
    refine jd_aload_n zd_M_fix_38 rfl ?_
    refine jd_get rfl rfl zl_M 7 (by decide) zi_687 rfl rfl (rl_m (by decide)) (by decide) zd_M_fix_39 ?_
    refine jd_iload_n zd_M_fix_42 rfl ?_
    refine jd_zldN (r := 408) (c := a) rfl rfl (by omega) (n := 12) (by decide) (rl_m (by decide)) (by decide) zd_M_fix_43 ?_
    rw [mr_408 hR ha]
    refine jd_if_eq 51 zd_M_fix_44 (by decide) (fun h => absurd h h_5) (fun h => ?_)
    refine jd_iconst (v := 2) zd_M_fix_47 (by decide) ?_
    refine jd_goto 52 zd_M_fix_48 (by decide) ?_
    refine jd_put rfl rfl zl_M zp_M zm_M 0 (by decide) zi_680 rfl rfl rfl rfl rfl (Nat.le_of_ble_eq_true rfl) rfl (rl_m (by decide)) (by decide) zd_M_fix_52 ?_
    have hs := hs.fld (k := 0) (Or.inl rfl) (2 : Int32)
    have hc := cd_at hs
    have hR := md_sm hs hR0
    refine jd_aload_n zd_M_fix_55 rfl ?_
    refine jd_get rfl rfl zl_M 0 (by decide) zi_680 rfl rfl (rl_m (by decide)) (by decide) zd_M_fix_56 ?_
    rw [hc]
    refine jd_if_ne 69 zd_M_fix_59 (by decide) (fun _ => ?_) (fun h => absurd h (by decide))
    exact jd_vret rfl ⟨rfl, hc, hR, sm_fr hs, sm_reflL _⟩ (by decide) (by decide) zd_M_fix_69
  · rw [hN]
    refine ct_intro hls (own := zn_M) (by decide) rfl (Nat.le_of_ble_eq_true rfl) ?_
    refine jd_aload_n zd_M_fix_0 rfl ?_
    refine jd_aload_n zd_M_fix_1 rfl ?_
    refine jd_iload_n zd_M_fix_2 rfl ?_
    refine jd_callV (n := 1) (kc_isUnitT hls hR (ob_nI h12 ha)) rfl rfl rfl (rl_m (by decide)) (by decide) zi_782 zi_784 zi_26 zi_44 zi_785 (by decide +kernel) rfl rfl rfl (by decide) (Nat.le_of_ble_eq_true rfl) (by decide) zd_M_fix_3 (fun _ _ _ h => h.elim) (fun v S2 L2 hq => ?_)
    obtain ⟨rfl, rfl, rfl⟩ := hq
    refine jd_if_eq 22 zd_M_fix_6 (by decide) (fun h => absurd h (by decide)) (fun _ => ?_)
    refine jd_iload_n zd_M_fix_9 rfl ?_
    refine jd_iconst (v := (-1)) zd_M_fix_10 (by decide) ?_
    refine jd_icmp_eq 26 zd_M_fix_11 (by decide) (fun h => ?_) (fun h => absurd h_y h)
    refine jd_iconst (v := 0) zd_M_fix_26 (by decide) ?_
    refine jd_put rfl rfl zl_M zp_M zm_M 0 (by decide) zi_680 rfl rfl rfl rfl rfl (Nat.le_of_ble_eq_true rfl) rfl (rl_m (by decide)) (by decide) zd_M_fix_27 ?_
    have hs := hs.fld (k := 0) (Or.inl rfl) (0 : Int32)
    have hc := cd_at hs
    have hR := md_sm hs hR0
    refine jd_aload_n zd_M_fix_30 rfl ?_
    refine jd_get rfl rfl zl_M 0 (by decide) zi_680 rfl rfl (rl_m (by decide)) (by decide) zd_M_fix_31 ?_
    rw [hc]
    refine jd_if_ne 55 zd_M_fix_34 (by decide) (fun h => absurd h (by decide)) (fun _ => ?_)
    refine jd_aload_n zd_M_fix_37 rfl ?_
    refine jd_aload_n zd_M_fix_38 rfl ?_
    refine jd_get rfl rfl zl_M 7 (by decide) zi_687 rfl rfl (rl_m (by decide)) (by decide) zd_M_fix_39 ?_
    refine jd_iload_n zd_M_fix_42 rfl ?_
    refine jd_zldN (r := 408) (c := a) rfl rfl (by omega) (n := 12) (by decide) (rl_m (by decide)) (by decide) zd_M_fix_43 ?_
    rw [mr_408 hR ha]
    refine jd_if_eq 51 zd_M_fix_44 (by decide) (fun h => ?_) (fun h => absurd h_5 h)
    refine jd_iconst (v := 0) zd_M_fix_51 (by decide) ?_
    refine jd_put rfl rfl zl_M zp_M zm_M 0 (by decide) zi_680 rfl rfl rfl rfl rfl (Nat.le_of_ble_eq_true rfl) rfl (rl_m (by decide)) (by decide) zd_M_fix_52 ?_
    have hs := hs.fld (k := 0) (Or.inl rfl) (0 : Int32)
    have hc := cd_at hs
    have hR := md_sm hs hR0
    refine jd_aload_n zd_M_fix_55 rfl ?_
    refine jd_get rfl rfl zl_M 0 (by decide) zi_680 rfl rfl (rl_m (by decide)) (by decide) zd_M_fix_56 ?_
    rw [hc]
    refine jd_if_ne 69 zd_M_fix_59 (by decide) (fun h => absurd h (by decide)) (fun _ => ?_)
    refine jd_aload_n zd_M_fix_62 rfl ?_
    refine jd_get rfl rfl zl_M 5 (by decide) zi_685 rfl rfl (rl_m (by decide)) (by decide) zd_M_fix_63 ?_
    refine jd_iload_n zd_M_fix_66 rfl ?_
    refine jd_iload_n zd_M_fix_67 rfl ?_
    refine jd_istN (r := 406) (c := a) (fun _ => rfl) rfl (by omega) (n := 12) (by decide) (rl_m (by decide)) (by decide) zd_M_fix_68 ?_
    exact jd_vret rfl ⟨rfl, by rw [va_up_ne _ _ (by decide)]; exact hc, md_fix h12 hR ha _, (sm_fr hs).up (by decide) (by decide) _, sm_reflL _⟩ (by decide) (by decide) zd_M_fix_69
  · rw [hN]
    have h_y := nI_m1 b (by omega)
    refine ct_intro hls (own := zn_M) (by decide) rfl (Nat.le_of_ble_eq_true rfl) ?_
    refine jd_aload_n zd_M_fix_0 rfl ?_
    refine jd_aload_n zd_M_fix_1 rfl ?_
    refine jd_iload_n zd_M_fix_2 rfl ?_
    refine jd_callV (n := 1) (kc_isUnitT hls hR (ob_nI h12 ha)) rfl rfl rfl (rl_m (by decide)) (by decide) zi_782 zi_784 zi_26 zi_44 zi_785 (by decide +kernel) rfl rfl rfl (by decide) (Nat.le_of_ble_eq_true rfl) (by decide) zd_M_fix_3 (fun _ _ _ h => h.elim) (fun v S2 L2 hq => ?_)
    obtain ⟨rfl, rfl, rfl⟩ := hq
    refine jd_if_eq 22 zd_M_fix_6 (by decide) (fun h => absurd h (by decide)) (fun _ => ?_)
    refine jd_iload_n zd_M_fix_9 rfl ?_
    refine jd_iconst (v := (-1)) zd_M_fix_10 (by decide) ?_
    refine jd_icmp_eq 26 zd_M_fix_11 (by decide) (fun h => absurd h h_y) (fun h => ?_)
    refine jd_aload_n zd_M_fix_14 rfl ?_
    refine jd_iload_n zd_M_fix_15 rfl ?_
    refine jd_callV (n := 1) (kc_isPlaceT hls hR (ob_nI h13 hb)) rfl rfl rfl (rl_m (by decide)) (by decide) zi_786 zi_788 zi_27 zi_44 zi_789 (by decide +kernel) rfl rfl rfl (by decide) (Nat.le_of_ble_eq_true rfl) (by decide) zd_M_fix_16 (fun _ _ _ h => h.elim) (fun v S2 L2 hq => ?_)
    obtain ⟨rfl, rfl, rfl⟩ := hq
    refine jd_if_ne 26 zd_M_fix_19 (by decide) (fun _ => ?_) (fun h => absurd h (by decide))
    refine jd_iconst (v := 0) zd_M_fix_26 (by decide) ?_
    refine jd_put rfl rfl zl_M zp_M zm_M 0 (by decide) zi_680 rfl rfl rfl rfl rfl (Nat.le_of_ble_eq_true rfl) rfl (rl_m (by decide)) (by decide) zd_M_fix_27 ?_
    have hs := hs.fld (k := 0) (Or.inl rfl) (0 : Int32)
    have hc := cd_at hs
    have hR := md_sm hs hR0
    refine jd_aload_n zd_M_fix_30 rfl ?_
    refine jd_get rfl rfl zl_M 0 (by decide) zi_680 rfl rfl (rl_m (by decide)) (by decide) zd_M_fix_31 ?_
    rw [hc]
    refine jd_if_ne 55 zd_M_fix_34 (by decide) (fun h => absurd h (by decide)) (fun _ => ?_)
    refine jd_aload_n zd_M_fix_37 rfl ?_
    refine jd_aload_n zd_M_fix_38 rfl ?_
    refine jd_get rfl rfl zl_M 7 (by decide) zi_687 rfl rfl (rl_m (by decide)) (by decide) zd_M_fix_39 ?_
    refine jd_iload_n zd_M_fix_42 rfl ?_
    refine jd_zldN (r := 408) (c := a) rfl rfl (by omega) (n := 12) (by decide) (rl_m (by decide)) (by decide) zd_M_fix_43 ?_
    rw [mr_408 hR ha]
    refine jd_if_eq 51 zd_M_fix_44 (by decide) (fun h => absurd h h_5) (fun h => ?_)
    refine jd_iconst (v := 2) zd_M_fix_47 (by decide) ?_
    refine jd_goto 52 zd_M_fix_48 (by decide) ?_
    refine jd_put rfl rfl zl_M zp_M zm_M 0 (by decide) zi_680 rfl rfl rfl rfl rfl (Nat.le_of_ble_eq_true rfl) rfl (rl_m (by decide)) (by decide) zd_M_fix_52 ?_
    have hs := hs.fld (k := 0) (Or.inl rfl) (2 : Int32)
    have hc := cd_at hs
    have hR := md_sm hs hR0
    refine jd_aload_n zd_M_fix_55 rfl ?_
    refine jd_get rfl rfl zl_M 0 (by decide) zi_680 rfl rfl (rl_m (by decide)) (by decide) zd_M_fix_56 ?_
    rw [hc]
    refine jd_if_ne 69 zd_M_fix_59 (by decide) (fun _ => ?_) (fun h => absurd h (by decide))
    exact jd_vret rfl ⟨rfl, hc, hR, sm_fr hs, sm_reflL _⟩ (by decide) (by decide) zd_M_fix_69
  · rw [hN]
    have h_y := nI_m1 b (by omega)
    refine ct_intro hls (own := zn_M) (by decide) rfl (Nat.le_of_ble_eq_true rfl) ?_
    refine jd_aload_n zd_M_fix_0 rfl ?_
    refine jd_aload_n zd_M_fix_1 rfl ?_
    refine jd_iload_n zd_M_fix_2 rfl ?_
    refine jd_callV (n := 1) (kc_isUnitT hls hR (ob_nI h12 ha)) rfl rfl rfl (rl_m (by decide)) (by decide) zi_782 zi_784 zi_26 zi_44 zi_785 (by decide +kernel) rfl rfl rfl (by decide) (Nat.le_of_ble_eq_true rfl) (by decide) zd_M_fix_3 (fun _ _ _ h => h.elim) (fun v S2 L2 hq => ?_)
    obtain ⟨rfl, rfl, rfl⟩ := hq
    refine jd_if_eq 22 zd_M_fix_6 (by decide) (fun h => absurd h (by decide)) (fun _ => ?_)
    refine jd_iload_n zd_M_fix_9 rfl ?_
    refine jd_iconst (v := (-1)) zd_M_fix_10 (by decide) ?_
    refine jd_icmp_eq 26 zd_M_fix_11 (by decide) (fun h => absurd h h_y) (fun h => ?_)
    refine jd_aload_n zd_M_fix_14 rfl ?_
    refine jd_iload_n zd_M_fix_15 rfl ?_
    refine jd_callV (n := 1) (kc_isPlaceT hls hR (ob_nI h13 hb)) rfl rfl rfl (rl_m (by decide)) (by decide) zi_786 zi_788 zi_27 zi_44 zi_789 (by decide +kernel) rfl rfl rfl (by decide) (Nat.le_of_ble_eq_true rfl) (by decide) zd_M_fix_16 (fun _ _ _ h => h.elim) (fun v S2 L2 hq => ?_)
    obtain ⟨rfl, rfl, rfl⟩ := hq
    refine jd_if_ne 26 zd_M_fix_19 (by decide) (fun _ => ?_) (fun h => absurd h (by decide))
    refine jd_iconst (v := 0) zd_M_fix_26 (by decide) ?_
    refine jd_put rfl rfl zl_M zp_M zm_M 0 (by decide) zi_680 rfl rfl rfl rfl rfl (Nat.le_of_ble_eq_true rfl) rfl (rl_m (by decide)) (by decide) zd_M_fix_27 ?_
    have hs := hs.fld (k := 0) (Or.inl rfl) (0 : Int32)
    have hc := cd_at hs
    have hR := md_sm hs hR0
    refine jd_aload_n zd_M_fix_30 rfl ?_
    refine jd_get rfl rfl zl_M 0 (by decide) zi_680 rfl rfl (rl_m (by decide)) (by decide) zd_M_fix_31 ?_
    rw [hc]
    refine jd_if_ne 55 zd_M_fix_34 (by decide) (fun h => absurd h (by decide)) (fun _ => ?_)
    refine jd_aload_n zd_M_fix_37 rfl ?_
    refine jd_aload_n zd_M_fix_38 rfl ?_
    refine jd_get rfl rfl zl_M 7 (by decide) zi_687 rfl rfl (rl_m (by decide)) (by decide) zd_M_fix_39 ?_
    refine jd_iload_n zd_M_fix_42 rfl ?_
    refine jd_zldN (r := 408) (c := a) rfl rfl (by omega) (n := 12) (by decide) (rl_m (by decide)) (by decide) zd_M_fix_43 ?_
    rw [mr_408 hR ha]
    refine jd_if_eq 51 zd_M_fix_44 (by decide) (fun h => ?_) (fun h => absurd h_5 h)
    refine jd_iconst (v := 0) zd_M_fix_51 (by decide) ?_
    refine jd_put rfl rfl zl_M zp_M zm_M 0 (by decide) zi_680 rfl rfl rfl rfl rfl (Nat.le_of_ble_eq_true rfl) rfl (rl_m (by decide)) (by decide) zd_M_fix_52 ?_
    have hs := hs.fld (k := 0) (Or.inl rfl) (0 : Int32)
    have hc := cd_at hs
    have hR := md_sm hs hR0
    refine jd_aload_n zd_M_fix_55 rfl ?_
    refine jd_get rfl rfl zl_M 0 (by decide) zi_680 rfl rfl (rl_m (by decide)) (by decide) zd_M_fix_56 ?_
    rw [hc]
    refine jd_if_ne 69 zd_M_fix_59 (by decide) (fun h => absurd h (by decide)) (fun _ => ?_)
    refine jd_aload_n zd_M_fix_62 rfl ?_
    refine jd_get rfl rfl zl_M 5 (by decide) zi_685 rfl rfl (rl_m (by decide)) (by decide) zd_M_fix_63 ?_
    refine jd_iload_n zd_M_fix_66 rfl ?_
    refine jd_iload_n zd_M_fix_67 rfl ?_
    refine jd_istN (r := 406) (c := a) (fun _ => rfl) rfl (by omega) (n := 12) (by decide) (rl_m (by decide)) (by decide) zd_M_fix_68 ?_
    exact jd_vret rfl ⟨rfl, by rw [va_up_ne _ _ (by decide)]; exact hc, md_fix h12 hR ha _, (sm_fr hs).up (by decide) (by decide) _, sm_reflL _⟩ (by decide) (by decide) zd_M_fix_69
set_option maxRecDepth 100000 in
set_option maxHeartbeats 4000000 in
theorem kc_Mopen {l : Launch} (hls : l.stackTraces = false) {D : va_G} {w : wd_T} {S : Nat → Nat → Int32} {L : Nat → Nat → Int64} {G : Nat → Nat → Int32} (hA : ok_A w G) (hR0 : md_R w G S) {x : Int32} {c v : Int32} {N : Nat → Nat → Int32} (hO : ou_open w G x c v N) : ct_M l D w zy_M_open (Cond.code zy_M_open zb_M_open 2 (Option.none : Option Jvm.ClassFile.FieldType)) ({ frames := 2, cells := 0, slots := 0, locals := 43 } : Room) [av_r 400, av_i x] S L (po_Mv w c N S L) 0 0 := by
  have h12 := hA.1.1
  have h13 := hA.1.2.1
  have hs := sm_refl S
  have hR := hR0
  rcases hO with ⟨h_o, rfl, hN⟩ | ⟨b, hb, rfl, ⟨h_5, rfl, hN⟩ | ⟨h_5, rfl, hN⟩⟩
  · rw [hN]
    refine ct_intro hls (own := zn_M) (by decide) rfl (Nat.le_of_ble_eq_true rfl) ?_
    refine jd_aload_n zd_M_open_0 rfl ?_
    refine jd_aload_n zd_M_open_1 rfl ?_
    refine jd_iload_n zd_M_open_2 rfl ?_
    refine jd_callV (n := 1) (kc_isPlaceF hls hR h_o) rfl rfl rfl (rl_m (by decide)) (by decide) zi_786 zi_788 zi_27 zi_44 zi_789 (by decide +kernel) rfl rfl rfl (by decide) (Nat.le_of_ble_eq_true rfl) (by decide) zd_M_open_3 (fun _ _ _ h => h.elim) (fun v S2 L2 hq => ?_)
    obtain ⟨rfl, rfl, rfl⟩ := hq
    refine jd_if_ne 13 zd_M_open_6 (by decide) (fun h => absurd h (by decide)) (fun _ => ?_)
    refine jd_iconst (v := 1) zd_M_open_9 (by decide) ?_
    refine jd_goto 14 zd_M_open_10 (by decide) ?_
    refine jd_put rfl rfl zl_M zp_M zm_M 0 (by decide) zi_680 rfl rfl rfl rfl rfl (Nat.le_of_ble_eq_true rfl) rfl (rl_m (by decide)) (by decide) zd_M_open_14 ?_
    have hs := hs.fld (k := 0) (Or.inl rfl) (1 : Int32)
    have hc := cd_at hs
    have hR := md_sm hs hR0
    refine jd_aload_n zd_M_open_17 rfl ?_
    refine jd_get rfl rfl zl_M 0 (by decide) zi_680 rfl rfl (rl_m (by decide)) (by decide) zd_M_open_18 ?_
    rw [hc]
    refine jd_if_ne 42 zd_M_open_21 (by decide) (fun _ => ?_) (fun h => absurd h (by decide))
    refine jd_aload_n zd_M_open_42 rfl ?_
    refine jd_get rfl rfl zl_M 0 (by decide) zi_680 rfl rfl (rl_m (by decide)) (by decide) zd_M_open_43 ?_
    rw [hc]
    refine jd_if_ne 56 zd_M_open_46 (by decide) (fun _ => ?_) (fun h => absurd h (by decide))
    exact jd_vret rfl ⟨rfl, hc, hR, sm_fr hs, sm_reflL _⟩ (by decide) (by decide) zd_M_open_56
  · rw [hN]
    refine ct_intro hls (own := zn_M) (by decide) rfl (Nat.le_of_ble_eq_true rfl) ?_
    refine jd_aload_n zd_M_open_0 rfl ?_
    refine jd_aload_n zd_M_open_1 rfl ?_
    refine jd_iload_n zd_M_open_2 rfl ?_
    refine jd_callV (n := 1) (kc_isPlaceT hls hR (ob_nI h13 hb)) rfl rfl rfl (rl_m (by decide)) (by decide) zi_786 zi_788 zi_27 zi_44 zi_789 (by decide +kernel) rfl rfl rfl (by decide) (Nat.le_of_ble_eq_true rfl) (by decide) zd_M_open_3 (fun _ _ _ h => h.elim) (fun v S2 L2 hq => ?_)
    obtain ⟨rfl, rfl, rfl⟩ := hq
    refine jd_if_ne 13 zd_M_open_6 (by decide) (fun _ => ?_) (fun h => absurd h (by decide))
    refine jd_iconst (v := 0) zd_M_open_13 (by decide) ?_
    refine jd_put rfl rfl zl_M zp_M zm_M 0 (by decide) zi_680 rfl rfl rfl rfl rfl (Nat.le_of_ble_eq_true rfl) rfl (rl_m (by decide)) (by decide) zd_M_open_14 ?_
    have hs := hs.fld (k := 0) (Or.inl rfl) (0 : Int32)
    have hc := cd_at hs
    have hR := md_sm hs hR0
    refine jd_aload_n zd_M_open_17 rfl ?_
    refine jd_get rfl rfl zl_M 0 (by decide) zi_680 rfl rfl (rl_m (by decide)) (by decide) zd_M_open_18 ?_
    rw [hc]
    refine jd_if_ne 42 zd_M_open_21 (by decide) (fun h => absurd h (by decide)) (fun _ => ?_)
    refine jd_aload_n zd_M_open_24 rfl ?_
    refine jd_aload_n zd_M_open_25 rfl ?_
    refine jd_get rfl rfl zl_M 15 (by decide) zi_695 rfl rfl (rl_m (by decide)) (by decide) zd_M_open_26 ?_
    refine jd_iload_n zd_M_open_29 rfl ?_
    refine jd_zldN (r := 416) (c := b) rfl rfl (by omega) (n := 12) (by decide) (rl_m (by decide)) (by decide) zd_M_open_30 ?_
    rw [mr_416 hR hb]
    refine jd_if_eq 38 zd_M_open_31 (by decide) (fun h => ?_) (fun h => absurd h_5 h)
    refine jd_iconst (v := 2) zd_M_open_38 (by decide) ?_
    refine jd_put rfl rfl zl_M zp_M zm_M 0 (by decide) zi_680 rfl rfl rfl rfl rfl (Nat.le_of_ble_eq_true rfl) rfl (rl_m (by decide)) (by decide) zd_M_open_39 ?_
    have hs := hs.fld (k := 0) (Or.inl rfl) (2 : Int32)
    have hc := cd_at hs
    have hR := md_sm hs hR0
    refine jd_aload_n zd_M_open_42 rfl ?_
    refine jd_get rfl rfl zl_M 0 (by decide) zi_680 rfl rfl (rl_m (by decide)) (by decide) zd_M_open_43 ?_
    rw [hc]
    refine jd_if_ne 56 zd_M_open_46 (by decide) (fun _ => ?_) (fun h => absurd h (by decide))
    exact jd_vret rfl ⟨rfl, hc, hR, sm_fr hs, sm_reflL _⟩ (by decide) (by decide) zd_M_open_56
  · rw [hN]
    refine ct_intro hls (own := zn_M) (by decide) rfl (Nat.le_of_ble_eq_true rfl) ?_
    refine jd_aload_n zd_M_open_0 rfl ?_
    refine jd_aload_n zd_M_open_1 rfl ?_
    refine jd_iload_n zd_M_open_2 rfl ?_
    refine jd_callV (n := 1) (kc_isPlaceT hls hR (ob_nI h13 hb)) rfl rfl rfl (rl_m (by decide)) (by decide) zi_786 zi_788 zi_27 zi_44 zi_789 (by decide +kernel) rfl rfl rfl (by decide) (Nat.le_of_ble_eq_true rfl) (by decide) zd_M_open_3 (fun _ _ _ h => h.elim) (fun v S2 L2 hq => ?_)
    obtain ⟨rfl, rfl, rfl⟩ := hq
    refine jd_if_ne 13 zd_M_open_6 (by decide) (fun _ => ?_) (fun h => absurd h (by decide))
    refine jd_iconst (v := 0) zd_M_open_13 (by decide) ?_
    refine jd_put rfl rfl zl_M zp_M zm_M 0 (by decide) zi_680 rfl rfl rfl rfl rfl (Nat.le_of_ble_eq_true rfl) rfl (rl_m (by decide)) (by decide) zd_M_open_14 ?_
    have hs := hs.fld (k := 0) (Or.inl rfl) (0 : Int32)
    have hc := cd_at hs
    have hR := md_sm hs hR0
    refine jd_aload_n zd_M_open_17 rfl ?_
    refine jd_get rfl rfl zl_M 0 (by decide) zi_680 rfl rfl (rl_m (by decide)) (by decide) zd_M_open_18 ?_
    rw [hc]
    refine jd_if_ne 42 zd_M_open_21 (by decide) (fun h => absurd h (by decide)) (fun _ => ?_)
    refine jd_aload_n zd_M_open_24 rfl ?_
    refine jd_aload_n zd_M_open_25 rfl ?_
    refine jd_get rfl rfl zl_M 15 (by decide) zi_695 rfl rfl (rl_m (by decide)) (by decide) zd_M_open_26 ?_
    refine jd_iload_n zd_M_open_29 rfl ?_
    refine jd_zldN (r := 416) (c := b) rfl rfl (by omega) (n := 12) (by decide) (rl_m (by decide)) (by decide) zd_M_open_30 ?_
    rw [mr_416 hR hb]
    refine jd_if_eq 38 zd_M_open_31 (by decide) (fun h => absurd h h_5) (fun h => ?_)
    refine jd_iconst (v := 0) zd_M_open_34 (by decide) ?_
    refine jd_goto 39 zd_M_open_35 (by decide) ?_
    refine jd_put rfl rfl zl_M zp_M zm_M 0 (by decide) zi_680 rfl rfl rfl rfl rfl (Nat.le_of_ble_eq_true rfl) rfl (rl_m (by decide)) (by decide) zd_M_open_39 ?_
    have hs := hs.fld (k := 0) (Or.inl rfl) (0 : Int32)
    have hc := cd_at hs
    have hR := md_sm hs hR0
    refine jd_aload_n zd_M_open_42 rfl ?_
    refine jd_get rfl rfl zl_M 0 (by decide) zi_680 rfl rfl (rl_m (by decide)) (by decide) zd_M_open_43 ?_
    rw [hc]
    refine jd_if_ne 56 zd_M_open_46 (by decide) (fun h => absurd h (by decide)) (fun _ => ?_)
    refine jd_aload_n zd_M_open_49 rfl ?_
    refine jd_get rfl rfl zl_M 15 (by decide) zi_695 rfl rfl (rl_m (by decide)) (by decide) zd_M_open_50 ?_
    refine jd_iload_n zd_M_open_53 rfl ?_
    refine jd_iconst (v := 0) zd_M_open_54 (by decide) ?_
    refine jd_zstN (r := 416) (c := b) (fun _ => rfl) (by decide) rfl (by omega) (n := 12) (by decide) (rl_m (by decide)) (by decide) zd_M_open_55 ?_
    exact jd_vret rfl ⟨rfl, by rw [va_up_ne _ _ (by decide)]; exact hc, md_bl h12 h13 hR hb _, (sm_fr hs).up (by decide) (by decide) _, sm_reflL _⟩ (by decide) (by decide) zd_M_open_56
set_option maxRecDepth 100000 in
set_option maxHeartbeats 4000000 in
theorem kc_Mtold {l : Launch} (hls : l.stackTraces = false) {D : va_G} {w : wd_T} {S : Nat → Nat → Int32} {L : Nat → Nat → Int64} {G : Nat → Nat → Int32} (hA : ok_A w G) (hR0 : md_R w G S) {x y : Int32} {c v : Int32} {N : Nat → Nat → Int32} (hO : ou_told w G x y c v N) : ct_M l D w zy_M_told (Cond.code zy_M_told zb_M_told 3 (Option.some Jvm.ClassFile.FieldType.int)) ({ frames := 2, cells := 0, slots := 0, locals := 43 } : Room) [av_r 400, av_i x, av_i y] S L (po_M w c v N S L) 0 0 := by
  have h12 := hA.1.1
  have h13 := hA.1.2.1
  have hs := sm_refl S
  have hR := hR0
  rcases hO with ⟨hN, ⟨h_o, rfl⟩ | ⟨b, hb, rfl, ⟨h_y, rfl⟩ | ⟨rfl, rfl, rfl⟩ | ⟨rfl, rfl, rfl⟩ | ⟨rfl, rfl, rfl⟩ | ⟨rfl, rfl, rfl⟩⟩⟩
  · rw [hN]
    refine ct_intro hls (own := zn_M) (by decide) rfl (Nat.le_of_ble_eq_true rfl) ?_
    refine jd_aload_n zd_M_told_0 rfl ?_
    refine jd_aload_n zd_M_told_1 rfl ?_
    refine jd_iload_n zd_M_told_2 rfl ?_
    refine jd_callV (n := 1) (kc_isPlaceF hls hR h_o) rfl rfl rfl (rl_m (by decide)) (by decide) zi_786 zi_788 zi_27 zi_44 zi_789 (by decide +kernel) rfl rfl rfl (by decide) (Nat.le_of_ble_eq_true rfl) (by decide) zd_M_told_3 (fun _ _ _ h => h.elim) (fun v S2 L2 hq => ?_)
    obtain ⟨rfl, rfl, rfl⟩ := hq
    refine jd_if_ne 13 zd_M_told_6 (by decide) (fun h => absurd h (by decide)) (fun _ => ?_)
    refine jd_iconst (v := 1) zd_M_told_9 (by decide) ?_
    refine jd_goto 27 zd_M_told_10 (by decide) ?_
    refine jd_put rfl rfl zl_M zp_M zm_M 0 (by decide) zi_680 rfl rfl rfl rfl rfl (Nat.le_of_ble_eq_true rfl) rfl (rl_m (by decide)) (by decide) zd_M_told_27 ?_
    have hs := hs.fld (k := 0) (Or.inl rfl) (1 : Int32)
    have hc := cd_at hs
    have hR := md_sm hs hR0
    refine jd_aload_n zd_M_told_30 rfl ?_
    refine jd_get rfl rfl zl_M 0 (by decide) zi_680 rfl rfl (rl_m (by decide)) (by decide) zd_M_told_31 ?_
    rw [hc]
    refine jd_if_le 39 zd_M_told_34 (by decide) (fun h => absurd h (by decide)) (fun _ => ?_)
    refine jd_iconst (v := 0) zd_M_told_37 (by decide) ?_
    exact jd_iret rfl ⟨_, rfl, fun h => absurd h (by decide), hc, hR, sm_fr hs, sm_reflL _⟩ (by decide) (by decide) zd_M_told_38
  · rw [hN]
    refine ct_intro hls (own := zn_M) (by decide) rfl (Nat.le_of_ble_eq_true rfl) ?_
    refine jd_aload_n zd_M_told_0 rfl ?_
    refine jd_aload_n zd_M_told_1 rfl ?_
    refine jd_iload_n zd_M_told_2 rfl ?_
    refine jd_callV (n := 1) (kc_isPlaceT hls hR (ob_nI h13 hb)) rfl rfl rfl (rl_m (by decide)) (by decide) zi_786 zi_788 zi_27 zi_44 zi_789 (by decide +kernel) rfl rfl rfl (by decide) (Nat.le_of_ble_eq_true rfl) (by decide) zd_M_told_3 (fun _ _ _ h => h.elim) (fun v S2 L2 hq => ?_)
    obtain ⟨rfl, rfl, rfl⟩ := hq
    refine jd_if_ne 13 zd_M_told_6 (by decide) (fun _ => ?_) (fun h => absurd h (by decide))
    refine jd_iload_n zd_M_told_13 rfl ?_
    refine jd_iconst (v := 0) zd_M_told_14 (by decide) ?_
    refine jd_iconst (v := 3) zd_M_told_15 (by decide) ?_
    refine jd_callS (n := 3) (kc_MinF hls h_y) rfl zi_767 zi_768 zi_44 zi_769 (by decide +kernel) rfl rfl rfl (by decide) (Nat.le_of_ble_eq_true rfl) (by decide) zd_M_told_16 (fun _ _ _ h => h.elim) (fun v S2 L2 hq => ?_)
    obtain ⟨rfl, rfl, rfl⟩ := hq
    refine jd_if_ne 26 zd_M_told_19 (by decide) (fun h => absurd h (by decide)) (fun _ => ?_)
    refine jd_iconst (v := 2) zd_M_told_22 (by decide) ?_
    refine jd_goto 27 zd_M_told_23 (by decide) ?_
    refine jd_put rfl rfl zl_M zp_M zm_M 0 (by decide) zi_680 rfl rfl rfl rfl rfl (Nat.le_of_ble_eq_true rfl) rfl (rl_m (by decide)) (by decide) zd_M_told_27 ?_
    have hs := hs.fld (k := 0) (Or.inl rfl) (2 : Int32)
    have hc := cd_at hs
    have hR := md_sm hs hR0
    refine jd_aload_n zd_M_told_30 rfl ?_
    refine jd_get rfl rfl zl_M 0 (by decide) zi_680 rfl rfl (rl_m (by decide)) (by decide) zd_M_told_31 ?_
    rw [hc]
    refine jd_if_le 39 zd_M_told_34 (by decide) (fun h => absurd h (by decide)) (fun _ => ?_)
    refine jd_iconst (v := 0) zd_M_told_37 (by decide) ?_
    exact jd_iret rfl ⟨_, rfl, fun h => absurd h (by decide), hc, hR, sm_fr hs, sm_reflL _⟩ (by decide) (by decide) zd_M_told_38
  · rw [hN]
    refine ct_intro hls (own := zn_M) (by decide) rfl (Nat.le_of_ble_eq_true rfl) ?_
    refine jd_aload_n zd_M_told_0 rfl ?_
    refine jd_aload_n zd_M_told_1 rfl ?_
    refine jd_iload_n zd_M_told_2 rfl ?_
    refine jd_callV (n := 1) (kc_isPlaceT hls hR (ob_nI h13 hb)) rfl rfl rfl (rl_m (by decide)) (by decide) zi_786 zi_788 zi_27 zi_44 zi_789 (by decide +kernel) rfl rfl rfl (by decide) (Nat.le_of_ble_eq_true rfl) (by decide) zd_M_told_3 (fun _ _ _ h => h.elim) (fun v S2 L2 hq => ?_)
    obtain ⟨rfl, rfl, rfl⟩ := hq
    refine jd_if_ne 13 zd_M_told_6 (by decide) (fun _ => ?_) (fun h => absurd h (by decide))
    refine jd_iload_n zd_M_told_13 rfl ?_
    refine jd_iconst (v := 0) zd_M_told_14 (by decide) ?_
    refine jd_iconst (v := 3) zd_M_told_15 (by decide) ?_
    refine jd_callS (n := 3) (kc_MinT hls (by decide)) rfl zi_767 zi_768 zi_44 zi_769 (by decide +kernel) rfl rfl rfl (by decide) (Nat.le_of_ble_eq_true rfl) (by decide) zd_M_told_16 (fun _ _ _ h => h.elim) (fun v S2 L2 hq => ?_)
    obtain ⟨rfl, rfl, rfl⟩ := hq
    refine jd_if_ne 26 zd_M_told_19 (by decide) (fun _ => ?_) (fun h => absurd h (by decide))
    refine jd_iconst (v := 0) zd_M_told_26 (by decide) ?_
    refine jd_put rfl rfl zl_M zp_M zm_M 0 (by decide) zi_680 rfl rfl rfl rfl rfl (Nat.le_of_ble_eq_true rfl) rfl (rl_m (by decide)) (by decide) zd_M_told_27 ?_
    have hs := hs.fld (k := 0) (Or.inl rfl) (0 : Int32)
    have hc := cd_at hs
    have hR := md_sm hs hR0
    refine jd_aload_n zd_M_told_30 rfl ?_
    refine jd_get rfl rfl zl_M 0 (by decide) zi_680 rfl rfl (rl_m (by decide)) (by decide) zd_M_told_31 ?_
    rw [hc]
    refine jd_if_le 39 zd_M_told_34 (by decide) (fun _ => ?_) (fun h => absurd h (by decide))
    refine jd_iload_n zd_M_told_39 rfl ?_
    refine jd_if_ne 50 zd_M_told_40 (by decide) (fun h => absurd h (by decide)) (fun _ => ?_)
    refine jd_aload_n zd_M_told_43 rfl ?_
    refine jd_get rfl rfl zl_M 13 (by decide) zi_693 rfl rfl (rl_m (by decide)) (by decide) zd_M_told_44 ?_
    refine jd_iload_n zd_M_told_47 rfl ?_
    refine jd_ildN (r := 414) (c := b) rfl rfl (by omega) (n := 12) (by decide) (rl_m (by decide)) (by decide) zd_M_told_48 ?_
    rw [mr_414 hR hb]
    exact jd_iret rfl ⟨_, rfl, fun _ => rfl, hc, hR, sm_fr hs, sm_reflL _⟩ (by decide) (by decide) zd_M_told_49
  · rw [hN]
    refine ct_intro hls (own := zn_M) (by decide) rfl (Nat.le_of_ble_eq_true rfl) ?_
    refine jd_aload_n zd_M_told_0 rfl ?_
    refine jd_aload_n zd_M_told_1 rfl ?_
    refine jd_iload_n zd_M_told_2 rfl ?_
    refine jd_callV (n := 1) (kc_isPlaceT hls hR (ob_nI h13 hb)) rfl rfl rfl (rl_m (by decide)) (by decide) zi_786 zi_788 zi_27 zi_44 zi_789 (by decide +kernel) rfl rfl rfl (by decide) (Nat.le_of_ble_eq_true rfl) (by decide) zd_M_told_3 (fun _ _ _ h => h.elim) (fun v S2 L2 hq => ?_)
    obtain ⟨rfl, rfl, rfl⟩ := hq
    refine jd_if_ne 13 zd_M_told_6 (by decide) (fun _ => ?_) (fun h => absurd h (by decide))
    refine jd_iload_n zd_M_told_13 rfl ?_
    refine jd_iconst (v := 0) zd_M_told_14 (by decide) ?_
    refine jd_iconst (v := 3) zd_M_told_15 (by decide) ?_
    refine jd_callS (n := 3) (kc_MinT hls (by decide)) rfl zi_767 zi_768 zi_44 zi_769 (by decide +kernel) rfl rfl rfl (by decide) (Nat.le_of_ble_eq_true rfl) (by decide) zd_M_told_16 (fun _ _ _ h => h.elim) (fun v S2 L2 hq => ?_)
    obtain ⟨rfl, rfl, rfl⟩ := hq
    refine jd_if_ne 26 zd_M_told_19 (by decide) (fun _ => ?_) (fun h => absurd h (by decide))
    refine jd_iconst (v := 0) zd_M_told_26 (by decide) ?_
    refine jd_put rfl rfl zl_M zp_M zm_M 0 (by decide) zi_680 rfl rfl rfl rfl rfl (Nat.le_of_ble_eq_true rfl) rfl (rl_m (by decide)) (by decide) zd_M_told_27 ?_
    have hs := hs.fld (k := 0) (Or.inl rfl) (0 : Int32)
    have hc := cd_at hs
    have hR := md_sm hs hR0
    refine jd_aload_n zd_M_told_30 rfl ?_
    refine jd_get rfl rfl zl_M 0 (by decide) zi_680 rfl rfl (rl_m (by decide)) (by decide) zd_M_told_31 ?_
    rw [hc]
    refine jd_if_le 39 zd_M_told_34 (by decide) (fun _ => ?_) (fun h => absurd h (by decide))
    refine jd_iload_n zd_M_told_39 rfl ?_
    refine jd_if_ne 50 zd_M_told_40 (by decide) (fun _ => ?_) (fun h => absurd h (by decide))
    refine jd_iload_n zd_M_told_50 rfl ?_
    refine jd_iconst (v := 1) zd_M_told_51 (by decide) ?_
    refine jd_icmp_ne 62 zd_M_told_52 (by decide) (fun h => absurd h (by decide)) (fun _ => ?_)
    refine jd_aload_n zd_M_told_55 rfl ?_
    refine jd_get rfl rfl zl_M 12 (by decide) zi_692 rfl rfl (rl_m (by decide)) (by decide) zd_M_told_56 ?_
    refine jd_iload_n zd_M_told_59 rfl ?_
    refine jd_ildN (r := 413) (c := b) rfl rfl (by omega) (n := 12) (by decide) (rl_m (by decide)) (by decide) zd_M_told_60 ?_
    rw [mr_413 hR hb]
    exact jd_iret rfl ⟨_, rfl, fun _ => rfl, hc, hR, sm_fr hs, sm_reflL _⟩ (by decide) (by decide) zd_M_told_61
  · rw [hN]
    refine ct_intro hls (own := zn_M) (by decide) rfl (Nat.le_of_ble_eq_true rfl) ?_
    refine jd_aload_n zd_M_told_0 rfl ?_
    refine jd_aload_n zd_M_told_1 rfl ?_
    refine jd_iload_n zd_M_told_2 rfl ?_
    refine jd_callV (n := 1) (kc_isPlaceT hls hR (ob_nI h13 hb)) rfl rfl rfl (rl_m (by decide)) (by decide) zi_786 zi_788 zi_27 zi_44 zi_789 (by decide +kernel) rfl rfl rfl (by decide) (Nat.le_of_ble_eq_true rfl) (by decide) zd_M_told_3 (fun _ _ _ h => h.elim) (fun v S2 L2 hq => ?_)
    obtain ⟨rfl, rfl, rfl⟩ := hq
    refine jd_if_ne 13 zd_M_told_6 (by decide) (fun _ => ?_) (fun h => absurd h (by decide))
    refine jd_iload_n zd_M_told_13 rfl ?_
    refine jd_iconst (v := 0) zd_M_told_14 (by decide) ?_
    refine jd_iconst (v := 3) zd_M_told_15 (by decide) ?_
    refine jd_callS (n := 3) (kc_MinT hls (by decide)) rfl zi_767 zi_768 zi_44 zi_769 (by decide +kernel) rfl rfl rfl (by decide) (Nat.le_of_ble_eq_true rfl) (by decide) zd_M_told_16 (fun _ _ _ h => h.elim) (fun v S2 L2 hq => ?_)
    obtain ⟨rfl, rfl, rfl⟩ := hq
    refine jd_if_ne 26 zd_M_told_19 (by decide) (fun _ => ?_) (fun h => absurd h (by decide))
    refine jd_iconst (v := 0) zd_M_told_26 (by decide) ?_
    refine jd_put rfl rfl zl_M zp_M zm_M 0 (by decide) zi_680 rfl rfl rfl rfl rfl (Nat.le_of_ble_eq_true rfl) rfl (rl_m (by decide)) (by decide) zd_M_told_27 ?_
    have hs := hs.fld (k := 0) (Or.inl rfl) (0 : Int32)
    have hc := cd_at hs
    have hR := md_sm hs hR0
    refine jd_aload_n zd_M_told_30 rfl ?_
    refine jd_get rfl rfl zl_M 0 (by decide) zi_680 rfl rfl (rl_m (by decide)) (by decide) zd_M_told_31 ?_
    rw [hc]
    refine jd_if_le 39 zd_M_told_34 (by decide) (fun _ => ?_) (fun h => absurd h (by decide))
    refine jd_iload_n zd_M_told_39 rfl ?_
    refine jd_if_ne 50 zd_M_told_40 (by decide) (fun _ => ?_) (fun h => absurd h (by decide))
    refine jd_iload_n zd_M_told_50 rfl ?_
    refine jd_iconst (v := 1) zd_M_told_51 (by decide) ?_
    refine jd_icmp_ne 62 zd_M_told_52 (by decide) (fun _ => ?_) (fun h => absurd h (by decide))
    refine jd_iload_n zd_M_told_62 rfl ?_
    refine jd_iconst (v := 2) zd_M_told_63 (by decide) ?_
    refine jd_icmp_ne 84 zd_M_told_64 (by decide) (fun h => absurd h (by decide)) (fun _ => ?_)
    refine jd_aload_n zd_M_told_67 rfl ?_
    refine jd_get rfl rfl zl_M 15 (by decide) zi_695 rfl rfl (rl_m (by decide)) (by decide) zd_M_told_68 ?_
    refine jd_iload_n zd_M_told_71 rfl ?_
    refine jd_zldN (r := 416) (c := b) rfl rfl (by omega) (n := 12) (by decide) (rl_m (by decide)) (by decide) zd_M_told_72 ?_
    rw [mr_416 hR hb]
    refine jd_if_eq 80 zd_M_told_73 (by decide) (fun h_73 => ?_) (fun h_73 => ?_)
    · refine jd_iconst (v := 0) zd_M_told_80 (by decide) ?_
      refine jd_goto 89 zd_M_told_81 (by decide) ?_
      exact jd_iret rfl ⟨_, rfl, fun _ => by rw [if_pos h_73], hc, hR, sm_fr hs, sm_reflL _⟩ (by decide) (by decide) zd_M_told_89
    · refine jd_iconst (v := 1) zd_M_told_76 (by decide) ?_
      refine jd_goto 89 zd_M_told_77 (by decide) ?_
      exact jd_iret rfl ⟨_, rfl, fun _ => by rw [if_neg h_73], hc, hR, sm_fr hs, sm_reflL _⟩ (by decide) (by decide) zd_M_told_89
  · rw [hN]
    refine ct_intro hls (own := zn_M) (by decide) rfl (Nat.le_of_ble_eq_true rfl) ?_
    refine jd_aload_n zd_M_told_0 rfl ?_
    refine jd_aload_n zd_M_told_1 rfl ?_
    refine jd_iload_n zd_M_told_2 rfl ?_
    refine jd_callV (n := 1) (kc_isPlaceT hls hR (ob_nI h13 hb)) rfl rfl rfl (rl_m (by decide)) (by decide) zi_786 zi_788 zi_27 zi_44 zi_789 (by decide +kernel) rfl rfl rfl (by decide) (Nat.le_of_ble_eq_true rfl) (by decide) zd_M_told_3 (fun _ _ _ h => h.elim) (fun v S2 L2 hq => ?_)
    obtain ⟨rfl, rfl, rfl⟩ := hq
    refine jd_if_ne 13 zd_M_told_6 (by decide) (fun _ => ?_) (fun h => absurd h (by decide))
    refine jd_iload_n zd_M_told_13 rfl ?_
    refine jd_iconst (v := 0) zd_M_told_14 (by decide) ?_
    refine jd_iconst (v := 3) zd_M_told_15 (by decide) ?_
    refine jd_callS (n := 3) (kc_MinT hls (by decide)) rfl zi_767 zi_768 zi_44 zi_769 (by decide +kernel) rfl rfl rfl (by decide) (Nat.le_of_ble_eq_true rfl) (by decide) zd_M_told_16 (fun _ _ _ h => h.elim) (fun v S2 L2 hq => ?_)
    obtain ⟨rfl, rfl, rfl⟩ := hq
    refine jd_if_ne 26 zd_M_told_19 (by decide) (fun _ => ?_) (fun h => absurd h (by decide))
    refine jd_iconst (v := 0) zd_M_told_26 (by decide) ?_
    refine jd_put rfl rfl zl_M zp_M zm_M 0 (by decide) zi_680 rfl rfl rfl rfl rfl (Nat.le_of_ble_eq_true rfl) rfl (rl_m (by decide)) (by decide) zd_M_told_27 ?_
    have hs := hs.fld (k := 0) (Or.inl rfl) (0 : Int32)
    have hc := cd_at hs
    have hR := md_sm hs hR0
    refine jd_aload_n zd_M_told_30 rfl ?_
    refine jd_get rfl rfl zl_M 0 (by decide) zi_680 rfl rfl (rl_m (by decide)) (by decide) zd_M_told_31 ?_
    rw [hc]
    refine jd_if_le 39 zd_M_told_34 (by decide) (fun _ => ?_) (fun h => absurd h (by decide))
    refine jd_iload_n zd_M_told_39 rfl ?_
    refine jd_if_ne 50 zd_M_told_40 (by decide) (fun _ => ?_) (fun h => absurd h (by decide))
    refine jd_iload_n zd_M_told_50 rfl ?_
    refine jd_iconst (v := 1) zd_M_told_51 (by decide) ?_
    refine jd_icmp_ne 62 zd_M_told_52 (by decide) (fun _ => ?_) (fun h => absurd h (by decide))
    refine jd_iload_n zd_M_told_62 rfl ?_
    refine jd_iconst (v := 2) zd_M_told_63 (by decide) ?_
    refine jd_icmp_ne 84 zd_M_told_64 (by decide) (fun _ => ?_) (fun h => absurd h (by decide))
    refine jd_aload_n zd_M_told_84 rfl ?_
    refine jd_iload_n zd_M_told_85 rfl ?_
    refine jd_callV (n := 1) (kc_MplannedFor hls hA hR (nI b)) rfl rfl rfl (rl_m (by decide)) (by decide) zi_876 zi_878 zi_38 zi_44 zi_879 (by decide +kernel) rfl rfl rfl (by decide) (Nat.le_of_ble_eq_true rfl) (by decide) zd_M_told_86 (fun _ _ _ h => h.elim) (fun v S2 L2 hq => ?_)
    obtain ⟨rfl, rfl, rfl⟩ := hq
    exact jd_iret rfl ⟨_, rfl, fun _ => rfl, hc, hR, sm_fr hs, sm_reflL _⟩ (by decide) (by decide) zd_M_told_89
set_option maxRecDepth 100000 in
set_option maxHeartbeats 4000000 in
theorem kc_Mexact {l : Launch} (hls : l.stackTraces = false) {D : va_G} {w : wd_T} {S : Nat → Nat → Int32} {L : Nat → Nat → Int64} {G : Nat → Nat → Int32} (hA : ok_A w G) (hR0 : md_R w G S) : ct_M l D w zy_M_exact (Cond.code zy_M_exact zb_M_exact 1 (Option.some Jvm.ClassFile.FieldType.boolean)) ({ frames := 0, cells := 0, slots := 0, locals := 0 } : Room) [av_r 400] S L (po_M w 0 (G 0 10) G S L) 0 0 := by
  have hs := sm_refl S
  refine ct_intro hls (own := zn_M) (by decide) rfl (Nat.le_of_ble_eq_true rfl) ?_
  refine jd_aload_n zd_M_exact_0 rfl ?_
  refine jd_iconst (v := 0) zd_M_exact_1 (by decide) ?_
  refine jd_put rfl rfl zl_M zp_M zm_M 0 (by decide) zi_680 rfl rfl rfl rfl rfl (Nat.le_of_ble_eq_true rfl) rfl (rl_m (by decide)) (by decide) zd_M_exact_2 ?_
  have hs := hs.fld (k := 0) (Or.inl rfl) (0 : Int32)
  have hc := cd_at hs
  have hR := md_sm hs hR0
  refine jd_aload_n zd_M_exact_5 rfl ?_
  refine jd_get rfl rfl zl_M 19 (by decide) zi_699 rfl rfl (rl_m (by decide)) (by decide) zd_M_exact_6 ?_
  rw [hR.1.2.2.2.2]
  exact jd_zret rfl (by rcases hA.2.2.2.2.2.2.2.1 with q | q <;> rw [q] <;> decide) ⟨_, rfl, fun _ => rfl, hc, hR, sm_fr hs, sm_reflL _⟩ (by decide) (by decide) zd_M_exact_9
