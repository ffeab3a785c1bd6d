/-! THE CLASS: calls that may throw (rows by wip/whole/gen/c1.py) -/
theorem ob_eq {x a b : Int32} : (decide (x < a) || decide (b < x)) = ob x a b := rfl
theorem bi_z {b : Bool} (h : bi_of b = 0) : b = false := by cases b <;> simp_all [bi_of]
theorem bi_n {b : Bool} (h : ¬ bi_of b = 0) : b = true := by cases b <;> simp_all [bi_of]
set_option maxRecDepth 100000 in
set_option maxHeartbeats 4000000 in
theorem kc_unitOf {l : Launch} (hls : l.stackTraces = false) {D : va_G} {w : wd_T} {S : Nat → Nat → Int32} {L : Nat → Nat → Int64} (h12 : w.2.2.1 ≤ 12) (hN : ok_N w S) (x : Int32) : ct_M l D w zy_A_unitOf (Cond.code zy_A_unitOf zb_A_unitOf 2 (Option.some (Jvm.ClassFile.FieldType.object "PutAwayAssign$Unit"))) ({ frames := 6, cells := 1, slots := 6, locals := 90 } : Room) [av_r 0, av_i x] S L (po_uo w.2.2.1 100 x S L) 1 6 := by
  refine ct_intro hls (own := zn_A) (by decide) rfl (Nat.le_of_ble_eq_true rfl) ?_
  refine jd_iload_n zd_A_unitOf_0 rfl ?_
  refine jd_iconst (v := 0) zd_A_unitOf_1 (by decide) ?_
  refine jd_aload_n zd_A_unitOf_2 rfl ?_
  refine jd_get rfl rfl zl_A 6 (by decide) zi_148 rfl rfl rfl (by decide) zd_A_unitOf_3 ?_
  rw [hN.2.2.1]
  refine jd_iconst (v := 1) zd_A_unitOf_6 (by decide) ?_
  refine jd_isub zd_A_unitOf_7 ?_
  refine jd_callS (n := 3) (kc_outside hls x 0 (nI w.2.2.1 - 1)) rfl zi_240 zi_241 zi_41 zi_242 (by decide +kernel) rfl rfl rfl (by decide) (Nat.le_of_ble_eq_true rfl) (by decide) zd_A_unitOf_8 (fun _ _ _ h => h.elim) (fun v S2 L2 hq => ?_)
  obtain ⟨rfl, rfl, rfl⟩ := hq
  rw [ob_eq]
  refine jd_if_eq 24 zd_A_unitOf_11 (by decide) (fun h_11 => ?_) (fun h_11 => ?_)
  · obtain ⟨u, hu, rfl⟩ := ob_n h12 (bi_z h_11)
    refine jd_aload_n zd_A_unitOf_24 rfl ?_
    refine jd_get rfl rfl zl_A 0 (by decide) zi_142 rfl rfl rfl (by decide) zd_A_unitOf_25 ?_
    refine jd_iload_n zd_A_unitOf_28 rfl ?_
    refine jd_unit rfl hu h12 zd_A_unitOf_29 ?_
    exact jd_aret rfl ⟨u, hu, rfl, rfl, rfl, rfl⟩ (by decide) (by decide) zd_A_unitOf_30
  · exact jd_throwN (text := "no such unit") (by decide +kernel) rfl ⟨rfl, bi_n h_11, rfl, rfl⟩ zd_A_unitOf_14 zd_A_unitOf_17 zd_A_unitOf_18 zd_A_unitOf_20 zd_A_unitOf_23 (by decide) (Nat.le_of_ble_eq_true rfl) (by decide) (by decide) (by decide) (by decide)
set_option maxRecDepth 100000 in
set_option maxHeartbeats 4000000 in
theorem kc_placeOf {l : Launch} (hls : l.stackTraces = false) {D : va_G} {w : wd_T} {S : Nat → Nat → Int32} {L : Nat → Nat → Int64} (h12 : w.2.2.2 ≤ 12) (hN : ok_N w S) (x : Int32) : ct_M l D w zy_A_placeOf (Cond.code zy_A_placeOf zb_A_placeOf 2 (Option.some (Jvm.ClassFile.FieldType.object "PutAwayAssign$Place"))) ({ frames := 6, cells := 1, slots := 6, locals := 90 } : Room) [av_r 0, av_i x] S L (po_uo w.2.2.2 300 x S L) 1 6 := by
  refine ct_intro hls (own := zn_A) (by decide) rfl (Nat.le_of_ble_eq_true rfl) ?_
  refine jd_iload_n zd_A_placeOf_0 rfl ?_
  refine jd_iconst (v := 0) zd_A_placeOf_1 (by decide) ?_
  refine jd_aload_n zd_A_placeOf_2 rfl ?_
  refine jd_get rfl rfl zl_A 7 (by decide) zi_149 rfl rfl rfl (by decide) zd_A_placeOf_3 ?_
  rw [hN.2.2.2]
  refine jd_iconst (v := 1) zd_A_placeOf_6 (by decide) ?_
  refine jd_isub zd_A_placeOf_7 ?_
  refine jd_callS (n := 3) (kc_outside hls x 0 (nI w.2.2.2 - 1)) rfl zi_240 zi_241 zi_41 zi_242 (by decide +kernel) rfl rfl rfl (by decide) (Nat.le_of_ble_eq_true rfl) (by decide) zd_A_placeOf_8 (fun _ _ _ h => h.elim) (fun v S2 L2 hq => ?_)
  obtain ⟨rfl, rfl, rfl⟩ := hq
  rw [ob_eq]
  refine jd_if_eq 24 zd_A_placeOf_11 (by decide) (fun h_11 => ?_) (fun h_11 => ?_)
  · obtain ⟨u, hu, rfl⟩ := ob_n h12 (bi_z h_11)
    refine jd_aload_n zd_A_placeOf_24 rfl ?_
    refine jd_get rfl rfl zl_A 1 (by decide) zi_143 rfl rfl rfl (by decide) zd_A_placeOf_25 ?_
    refine jd_iload_n zd_A_placeOf_28 rfl ?_
    refine jd_plc rfl hu h12 zd_A_placeOf_29 ?_
    exact jd_aret rfl ⟨u, hu, rfl, rfl, rfl, rfl⟩ (by decide) (by decide) zd_A_placeOf_30
  · exact jd_throwN (text := "no such place") (by decide +kernel) rfl ⟨rfl, bi_n h_11, rfl, rfl⟩ zd_A_placeOf_14 zd_A_placeOf_17 zd_A_placeOf_18 zd_A_placeOf_20 zd_A_placeOf_23 (by decide) (Nat.le_of_ble_eq_true rfl) (by decide) (by decide) (by decide) (by decide)
set_option maxRecDepth 100000 in
set_option maxHeartbeats 4000000 in
theorem kc_weight {l : Launch} (hls : l.stackTraces = false) {D : va_G} {w : wd_T} {S : Nat → Nat → Int32} {L : Nat → Nat → Int64} (x y : Int32) : ct_M l D w zy_A_weight (Cond.code zy_A_weight zb_A_weight 3 (Option.none : Option Jvm.ClassFile.FieldType)) ({ frames := 6, cells := 1, slots := 6, locals := 90 } : Room) [av_r 0, av_i x, av_i y] S L (po_Ov (ou_weight S x y) [(1, kE_I)] L) 1 6 := by
  refine ct_intro hls (own := zn_A) (by decide) rfl (Nat.le_of_ble_eq_true rfl) ?_
  refine jd_iload_n zd_A_weight_0 rfl ?_
  refine jd_iconst (v := 0) zd_A_weight_1 (by decide) ?_
  refine jd_bipush (v := 7) zd_A_weight_2 (by decide) ?_
  refine jd_callS (n := 3) (kc_outside hls x 0 7) rfl zi_240 zi_241 zi_41 zi_242 (by decide +kernel) rfl rfl rfl (by decide) (Nat.le_of_ble_eq_true rfl) (by decide) zd_A_weight_4 (fun _ _ _ h => h.elim) (fun v S2 L2 hq => ?_)
  obtain ⟨rfl, rfl, rfl⟩ := hq
  rw [ob_eq]
  refine jd_if_ne 20 zd_A_weight_7 (by decide) (fun h_7 => ?_) (fun h_7 => ?_)
  · exact jd_throw (text := "a kind is 0 .. 7, a weight 0 .. 100") th_iae (by decide +kernel) rfl ⟨1, 0, _, Or.inl ⟨by rw [bi_n h_7]; rfl, rfl, rfl⟩, by decide +kernel, sw_refl _, sw_reflL _⟩ zd_A_weight_20 zd_A_weight_23 zd_A_weight_24 zd_A_weight_26 zd_A_weight_29 (by decide) (Nat.le_of_ble_eq_true rfl) (by decide) (by decide) (by decide) (by decide)
  · refine jd_iload_n zd_A_weight_10 rfl ?_
    refine jd_iconst (v := 0) zd_A_weight_11 (by decide) ?_
    refine jd_bipush (v := 100) zd_A_weight_12 (by decide) ?_
    refine jd_callS (n := 3) (kc_outside hls y 0 100) rfl zi_240 zi_241 zi_41 zi_242 (by decide +kernel) rfl rfl rfl (by decide) (Nat.le_of_ble_eq_true rfl) (by decide) zd_A_weight_14 (fun _ _ _ h => h.elim) (fun v S2 L2 hq => ?_)
    obtain ⟨rfl, rfl, rfl⟩ := hq
    rw [ob_eq]
    refine jd_if_eq 30 zd_A_weight_17 (by decide) (fun h_17 => ?_) (fun h_17 => ?_)
    · have h_x := bi_z h_7
      have h_y := bi_z h_17
      obtain ⟨j, hj, rfl⟩ := ob_of (n := 7) (by decide) h_x
      refine jd_aload_n zd_A_weight_30 rfl ?_
      refine jd_get rfl rfl zl_A 2 (by decide) zi_144 rfl rfl rfl (by decide) zd_A_weight_31 ?_
      refine jd_iload_n zd_A_weight_34 rfl ?_
      refine jd_iload_n zd_A_weight_35 rfl ?_
      refine jd_istN (r := 3) (c := j) (fun _ => rfl) rfl (by omega) (n := 8) (by decide) rfl (by decide) zd_A_weight_36 ?_
      exact jd_vret rfl ⟨0, _, Or.inr ⟨j, by omega, rfl, h_y, rfl, rfl⟩, rfl, sw_refl _, sw_reflL _⟩ (by decide) (by decide) zd_A_weight_37
    · exact jd_throw (text := "a kind is 0 .. 7, a weight 0 .. 100") th_iae (by decide +kernel) rfl ⟨1, 0, _, Or.inl ⟨by rw [bi_n h_17]; simp, rfl, rfl⟩, by decide +kernel, sw_refl _, sw_reflL _⟩ zd_A_weight_20 zd_A_weight_23 zd_A_weight_24 zd_A_weight_26 zd_A_weight_29 (by decide) (Nat.le_of_ble_eq_true rfl) (by decide) (by decide) (by decide) (by decide)
set_option maxRecDepth 100000 in
set_option maxHeartbeats 4000000 in
theorem kc_limits {l : Launch} (hls : l.stackTraces = false) {D : va_G} {w : wd_T} {S : Nat → Nat → Int32} {L : Nat → Nat → Int64} (x y : Int32) : ct_M l D w zy_A_limits (Cond.code zy_A_limits zb_A_limits 3 (Option.none : Option Jvm.ClassFile.FieldType)) ({ frames := 6, cells := 1, slots := 6, locals := 90 } : Room) [av_r 0, av_i x, av_i y] S L (po_Ov (ou_limits S x y) [(1, kE_I)] L) 1 6 := by
  refine ct_intro hls (own := zn_A) (by decide) rfl (Nat.le_of_ble_eq_true rfl) ?_
  refine jd_iload_n zd_A_limits_0 rfl ?_
  refine jd_iconst (v := 0) zd_A_limits_1 (by decide) ?_
  refine jd_bipush (v := 8) zd_A_limits_2 (by decide) ?_
  refine jd_callS (n := 3) (kc_outside hls x 0 8) rfl zi_240 zi_241 zi_41 zi_242 (by decide +kernel) rfl rfl rfl (by decide) (Nat.le_of_ble_eq_true rfl) (by decide) zd_A_limits_4 (fun _ _ _ h => h.elim) (fun v S2 L2 hq => ?_)
  obtain ⟨rfl, rfl, rfl⟩ := hq
  rw [ob_eq]
  refine jd_if_ne 21 zd_A_limits_7 (by decide) (fun h_7 => ?_) (fun h_7 => ?_)
  · exact jd_throw (text := "exact is 0 .. 8, a cart 1 .. 1000") th_iae (by decide +kernel) rfl ⟨1, 0, _, Or.inl ⟨by rw [bi_n h_7]; rfl, rfl, rfl⟩, by decide +kernel, sw_refl _, sw_reflL _⟩ zd_A_limits_21 zd_A_limits_24 zd_A_limits_25 zd_A_limits_27 zd_A_limits_30 (by decide) (Nat.le_of_ble_eq_true rfl) (by decide) (by decide) (by decide) (by decide)
  · refine jd_iload_n zd_A_limits_10 rfl ?_
    refine jd_iconst (v := 1) zd_A_limits_11 (by decide) ?_
    refine jd_sipush (v := 1000) zd_A_limits_12 (by decide) ?_
    refine jd_callS (n := 3) (kc_outside hls y 1 1000) rfl zi_240 zi_241 zi_41 zi_242 (by decide +kernel) rfl rfl rfl (by decide) (Nat.le_of_ble_eq_true rfl) (by decide) zd_A_limits_15 (fun _ _ _ h => h.elim) (fun v S2 L2 hq => ?_)
    obtain ⟨rfl, rfl, rfl⟩ := hq
    rw [ob_eq]
    refine jd_if_eq 31 zd_A_limits_18 (by decide) (fun h_18 => ?_) (fun h_18 => ?_)
    · have h_x := bi_z h_7
      have h_y := bi_z h_18
      refine jd_aload_n zd_A_limits_31 rfl ?_
      refine jd_iload_n zd_A_limits_32 rfl ?_
      refine jd_put rfl rfl zl_A zp_A zm_A 8 (by decide) zi_150 rfl rfl rfl rfl rfl (Nat.le_of_ble_eq_true rfl) rfl rfl (by decide) zd_A_limits_33 ?_
      refine jd_aload_n zd_A_limits_36 rfl ?_
      refine jd_iload_n zd_A_limits_37 rfl ?_
      refine jd_put rfl rfl zl_A zp_A zm_A 9 (by decide) zi_151 rfl rfl rfl rfl rfl (Nat.le_of_ble_eq_true rfl) rfl rfl (by decide) zd_A_limits_38 ?_
      exact jd_vret rfl ⟨0, _, Or.inr ⟨h_x, h_y, rfl, rfl⟩, rfl, by rw [va_up_self, bx_uu]; exact sw_refl _, sw_reflL _⟩ (by decide) (by decide) zd_A_limits_41
    · exact jd_throw (text := "exact is 0 .. 8, a cart 1 .. 1000") th_iae (by decide +kernel) rfl ⟨1, 0, _, Or.inl ⟨by rw [bi_n h_18]; simp, rfl, rfl⟩, by decide +kernel, sw_refl _, sw_reflL _⟩ zd_A_limits_21 zd_A_limits_24 zd_A_limits_25 zd_A_limits_27 zd_A_limits_30 (by decide) (Nat.le_of_ble_eq_true rfl) (by decide) (by decide) (by decide) (by decide)
set_option maxRecDepth 100000 in
set_option maxHeartbeats 4000000 in
theorem kc_fits {l : Launch} (hls : l.stackTraces = false) {D : va_G} {w : wd_T} {S : Nat → Nat → Int32} {L : Nat → Nat → Int64} (hN : ok_N w S) (x y may : Int32) : ct_M l D w zy_A_fits (Cond.code zy_A_fits zb_A_fits 5 (Option.none : Option Jvm.ClassFile.FieldType)) ({ frames := 7, cells := 2, slots := 12, locals := 111 } : Room) [av_r 0, av_i x, av_i y, av_i may] S L (po_Ov (ou_fits w S x y may) [(1, nx_E)] L) 2 12 := by
  refine ct_intro hls (own := zn_A) (by decide) rfl (Nat.le_of_ble_eq_true rfl) ?_
  refine jd_aload_n zd_A_fits_0 rfl ?_
  refine jd_iload_n zd_A_fits_1 rfl ?_
  refine jd_callV (n := 1) (kc_unitOf hls hN.1 hN x) rfl rfl rfl rfl (by decide) zi_420 zi_422 zi_9 zi_41 zi_423 (by decide +kernel) rfl rfl rfl (by decide) (Nat.le_of_ble_eq_true rfl) (by decide) zd_A_fits_2 (fun E S2 L2 h => jd_out rfl (by obtain ⟨rfl, h_e, rfl, rfl⟩ := h; exact ⟨1, 0, _, Or.inl ⟨by rw [h_e]; rfl, rfl, rfl⟩, by decide +kernel, sw_refl _, sw_reflL _⟩) (by decide) (by decide)) (fun v S2 L2 hq => ?_)
  obtain ⟨a, ha, rfl, rfl, rfl, rfl⟩ := hq
  refine jd_astore zd_A_fits_5 (by decide) ?_
  refine jd_aload_n zd_A_fits_7 rfl ?_
  refine jd_iload_n zd_A_fits_8 rfl ?_
  refine jd_callV (n := 1) (kc_placeOf hls hN.2.1 hN y) rfl rfl rfl rfl (by decide) zi_440 zi_442 zi_10 zi_41 zi_443 (by decide +kernel) rfl rfl rfl (by decide) (Nat.le_of_ble_eq_true rfl) (by decide) zd_A_fits_9 (fun E S2 L2 h => jd_out rfl (by obtain ⟨rfl, h_e, rfl, rfl⟩ := h; exact ⟨1, 0, _, Or.inl ⟨by rw [h_e]; simp, rfl, rfl⟩, by decide +kernel, sw_refl _, sw_reflL _⟩) (by decide) (by decide)) (fun v S2 L2 hq => ?_)
  obtain ⟨b, hb, rfl, rfl, rfl, rfl⟩ := hq
  have h12 := hN.1
  have h13 := hN.2.1
  refine jd_pop zd_A_fits_12 rfl ?_
  refine jd_iload_n zd_A_fits_13 rfl ?_
  refine jd_if_eq 35 zd_A_fits_14 (by decide) (fun h_14 => ?_) (fun h_14 => ?_)
  · refine jd_aload zd_A_fits_35 rfl ?_
    refine jd_dup zd_A_fits_37 rfl ?_
    refine jd_get (ac_U (by omega)) rfl zl_U 6 (by decide) zi_349 rfl rfl (rl_U (by omega)) (by omega) zd_A_fits_38 ?_
    refine jd_iconst (v := 1) zd_A_fits_41 (by decide) ?_
    refine jd_iload_n zd_A_fits_42 rfl ?_
    refine jd_ishl zd_A_fits_43 ?_
    refine jd_ior zd_A_fits_44 ?_
    refine jd_put (ac_U (by omega)) rfl zl_U zp_U zm_U 6 (by decide) zi_349 rfl rfl rfl rfl rfl (Nat.le_of_ble_eq_true rfl) (ac_U (by omega)) (rl_U (by omega)) (by omega) zd_A_fits_45 ?_
    exact jd_vret rfl ⟨0, _, Or.inr ⟨a, b, ha, hb, rfl, rfl, rfl, by simp_all⟩, rfl, sw_refl _, sw_reflL _⟩ (by decide) (by decide) zd_A_fits_48
  · refine jd_aload zd_A_fits_17 rfl ?_
    refine jd_dup zd_A_fits_19 rfl ?_
    refine jd_get (ac_U (by omega)) rfl zl_U 6 (by decide) zi_349 rfl rfl (rl_U (by omega)) (by omega) zd_A_fits_20 ?_
    refine jd_iconst (v := 1) zd_A_fits_23 (by decide) ?_
    refine jd_iload_n zd_A_fits_24 rfl ?_
    refine jd_ishl zd_A_fits_25 ?_
    refine jd_iconst (v := (-1)) zd_A_fits_26 (by decide) ?_
    refine jd_ixor zd_A_fits_27 ?_
    refine jd_iand zd_A_fits_28 ?_
    refine jd_put (ac_U (by omega)) rfl zl_U zp_U zm_U 6 (by decide) zi_349 rfl rfl rfl rfl rfl (Nat.le_of_ble_eq_true rfl) (ac_U (by omega)) (rl_U (by omega)) (by omega) zd_A_fits_29 ?_
    refine jd_goto 48 zd_A_fits_32 (by decide) ?_
    exact jd_vret rfl ⟨0, _, Or.inr ⟨a, b, ha, hb, rfl, rfl, rfl, by simp_all⟩, rfl, sw_refl _, sw_reflL _⟩ (by decide) (by decide) zd_A_fits_48
set_option maxRecDepth 100000 in
set_option maxHeartbeats 4000000 in
theorem kc_cost {l : Launch} (hls : l.stackTraces = false) {D : va_G} {w : wd_T} {S : Nat → Nat → Int32} {L : Nat → Nat → Int64} (hN : ok_N w S) (x y z : Int32) : ct_M l D w zy_A_cost (Cond.code zy_A_cost zb_A_cost 5 (Option.none : Option Jvm.ClassFile.FieldType)) ({ frames := 7, cells := 3, slots := 18, locals := 111 } : Room) [av_r 0, av_i x, av_i y, av_i z] S L (po_Ov (ou_cost w S x y z) [(1, nx_E), (2, kE_I)] L) 3 18 := by
  refine ct_intro hls (own := zn_A) (by decide) rfl (Nat.le_of_ble_eq_true rfl) ?_
  refine jd_aload_n zd_A_cost_0 rfl ?_
  refine jd_iload_n zd_A_cost_1 rfl ?_
  refine jd_callV (n := 1) (kc_unitOf hls hN.1 hN x) rfl rfl rfl rfl (by decide) zi_420 zi_422 zi_9 zi_41 zi_423 (by decide +kernel) rfl rfl rfl (by decide) (Nat.le_of_ble_eq_true rfl) (by decide) zd_A_cost_2 (fun E S2 L2 h => jd_out rfl (by obtain ⟨rfl, h_e, rfl, rfl⟩ := h; exact ⟨1, 0, _, Or.inl ⟨by rw [h_e]; rfl, rfl, rfl⟩, by decide +kernel, sw_refl _, sw_reflL _⟩) (by decide) (by decide)) (fun v S2 L2 hq => ?_)
  obtain ⟨a, ha, rfl, rfl, rfl, rfl⟩ := hq
  refine jd_astore zd_A_cost_5 (by decide) ?_
  refine jd_aload_n zd_A_cost_7 rfl ?_
  refine jd_iload_n zd_A_cost_8 rfl ?_
  refine jd_callV (n := 1) (kc_placeOf hls hN.2.1 hN y) rfl rfl rfl rfl (by decide) zi_440 zi_442 zi_10 zi_41 zi_443 (by decide +kernel) rfl rfl rfl (by decide) (Nat.le_of_ble_eq_true rfl) (by decide) zd_A_cost_9 (fun E S2 L2 h => jd_out rfl (by obtain ⟨rfl, h_e, rfl, rfl⟩ := h; exact ⟨1, 0, _, Or.inl ⟨by rw [h_e]; simp, rfl, rfl⟩, by decide +kernel, sw_refl _, sw_reflL _⟩) (by decide) (by decide)) (fun v S2 L2 hq => ?_)
  obtain ⟨b, hb, rfl, rfl, rfl, rfl⟩ := hq
  have h12 := hN.1
  have h13 := hN.2.1
  refine jd_pop zd_A_cost_12 rfl ?_
  refine jd_iload_n zd_A_cost_13 rfl ?_
  refine jd_ldc (v := 1000000) zi_452 zd_A_cost_14 ?_
  refine jd_icmp_le 29 zd_A_cost_16 (by decide) (fun h_16 => ?_) (fun h_16 => ?_)
  · refine jd_aload zd_A_cost_29 rfl ?_
    refine jd_get (ac_U (by omega)) rfl zl_U 7 (by decide) zi_351 rfl rfl (rl_U (by omega)) (by omega) zd_A_cost_31 ?_
    refine jd_iload_n zd_A_cost_34 rfl ?_
    refine jd_iload_n zd_A_cost_35 rfl ?_
    refine jd_if_ge 43 zd_A_cost_36 (by decide) (fun h_36 => ?_) (fun h_36 => ?_)
    · refine jd_iload_n zd_A_cost_43 rfl ?_
      refine jd_istN (c := b) (fun _ => ac_C (by omega)) rfl (by omega) (by decide) (rl_C ha) (by omega) zd_A_cost_44 ?_
      exact jd_vret rfl ⟨0, _, Or.inr ⟨a, b, ha, hb, rfl, rfl, Or.inr ⟨h_16, rfl, by rw [if_pos h_36]⟩⟩, rfl, sw_refl _, sw_reflL _⟩ (by decide) (by decide) zd_A_cost_45
    · refine jd_iconst (v := (-1)) zd_A_cost_39 (by decide) ?_
      refine jd_goto 44 zd_A_cost_40 (by decide) ?_
      refine jd_istN (c := b) (fun _ => ac_C (by omega)) rfl (by omega) (by decide) (rl_C ha) (by omega) zd_A_cost_44 ?_
      exact jd_vret rfl ⟨0, _, Or.inr ⟨a, b, ha, hb, rfl, rfl, Or.inr ⟨h_16, rfl, by rw [if_neg h_36]⟩⟩, rfl, sw_refl _, sw_reflL _⟩ (by decide) (by decide) zd_A_cost_45
  · exact jd_throw (text := "a cost is at most 1000000") th_iae (by decide +kernel) rfl ⟨2, 0, _, Or.inr ⟨a, b, ha, hb, rfl, rfl, Or.inl ⟨h_16, rfl, rfl⟩⟩, by decide +kernel, sw_refl _, sw_reflL _⟩ zd_A_cost_19 zd_A_cost_22 zd_A_cost_23 zd_A_cost_25 zd_A_cost_28 (by decide) (Nat.le_of_ble_eq_true rfl) (by decide) (by decide) (by decide) (by decide)
set_option maxRecDepth 100000 in
set_option maxHeartbeats 4000000 in
theorem kc_fix {l : Launch} (hls : l.stackTraces = false) {D : va_G} {w : wd_T} {S : Nat → Nat → Int32} {L : Nat → Nat → Int64} (hN : ok_N w S) (x y : Int32) : ct_M l D w zy_A_fix (Cond.code zy_A_fix zb_A_fix 4 (Option.none : Option Jvm.ClassFile.FieldType)) ({ frames := 7, cells := 3, slots := 18, locals := 111 } : Room) [av_r 0, av_i x, av_i y] S L (po_Ov (ou_fix w S x y) [(1, nx_E), (2, kE_S)] L) 3 18 := by
  refine ct_intro hls (own := zn_A) (by decide) rfl (Nat.le_of_ble_eq_true rfl) ?_
  refine jd_aload_n zd_A_fix_0 rfl ?_
  refine jd_iload_n zd_A_fix_1 rfl ?_
  refine jd_callV (n := 1) (kc_unitOf hls hN.1 hN x) rfl rfl rfl rfl (by decide) zi_420 zi_422 zi_9 zi_41 zi_423 (by decide +kernel) rfl rfl rfl (by decide) (Nat.le_of_ble_eq_true rfl) (by decide) zd_A_fix_2 (fun E S2 L2 h => jd_out rfl (by obtain ⟨rfl, h_e, rfl, rfl⟩ := h; exact ⟨1, 0, _, Or.inl ⟨Or.inl h_e, rfl, rfl⟩, by decide +kernel, sw_refl _, sw_reflL _⟩) (by decide) (by decide)) (fun v S2 L2 hq => ?_)
  obtain ⟨a, ha, rfl, rfl, rfl, rfl⟩ := hq
  have h12 := hN.1
  refine jd_astore_n zd_A_fix_5 (by decide) ?_
  refine jd_iload_n zd_A_fix_6 rfl ?_
  refine jd_iconst (v := (-1)) zd_A_fix_7 (by decide) ?_
  refine jd_icmp_eq 17 zd_A_fix_8 (by decide) (fun h_8 => ?_) (fun h_8 => ?_)
  · refine jd_aload_n zd_A_fix_17 rfl ?_
    refine jd_get (ac_U (by omega)) rfl zl_U 5 (by decide) zi_347 rfl rfl (rl_U (by omega)) (by omega) zd_A_fix_18 ?_
    refine jd_if_eq 34 zd_A_fix_21 (by decide) (fun h_21 => ?_) (fun h_21 => ?_)
    · refine jd_aload_n zd_A_fix_34 rfl ?_
      refine jd_iload_n zd_A_fix_35 rfl ?_
      refine jd_put (ac_U (by omega)) rfl zl_U zp_U zm_U 4 (by decide) zi_346 rfl rfl rfl rfl rfl (Nat.le_of_ble_eq_true rfl) (ac_U (by omega)) (rl_U (by omega)) (by omega) zd_A_fix_36 ?_
      exact jd_vret rfl ⟨0, _, Or.inr ⟨a, ha, rfl, Or.inl h_8, Or.inr ⟨h_21, rfl, rfl⟩⟩, rfl, sw_refl _, sw_reflL _⟩ (by decide) (by decide) zd_A_fix_39
    · exact jd_throw (text := "the unit is done") th_ise (by decide +kernel) rfl ⟨2, 0, _, Or.inr ⟨a, ha, rfl, Or.inl h_8, Or.inl ⟨h_21, rfl, rfl⟩⟩, by decide +kernel, sw_refl _, sw_reflL _⟩ zd_A_fix_24 zd_A_fix_27 zd_A_fix_28 zd_A_fix_30 zd_A_fix_33 (by decide) (Nat.le_of_ble_eq_true rfl) (by decide) (by decide) (by decide) (by decide)
  · refine jd_aload_n zd_A_fix_11 rfl ?_
    refine jd_iload_n zd_A_fix_12 rfl ?_
    refine jd_callV (n := 1) (kc_placeOf hls hN.2.1 hN y) rfl rfl rfl rfl (by decide) zi_440 zi_442 zi_10 zi_41 zi_443 (by decide +kernel) rfl rfl rfl (by decide) (Nat.le_of_ble_eq_true rfl) (by decide) zd_A_fix_13 (fun E S2 L2 h => jd_out rfl (by obtain ⟨rfl, h_e, rfl, rfl⟩ := h; exact ⟨1, 0, _, Or.inl ⟨Or.inr ⟨h_8, h_e⟩, rfl, rfl⟩, by decide +kernel, sw_refl _, sw_reflL _⟩) (by decide) (by decide)) (fun v S2 L2 hq => ?_)
    obtain ⟨b, hb, rfl, rfl, rfl, rfl⟩ := hq
    refine jd_pop zd_A_fix_16 rfl ?_
    refine jd_aload_n zd_A_fix_17 rfl ?_
    refine jd_get (ac_U (by omega)) rfl zl_U 5 (by decide) zi_347 rfl rfl (rl_U (by omega)) (by omega) zd_A_fix_18 ?_
    refine jd_if_eq 34 zd_A_fix_21 (by decide) (fun h_21 => ?_) (fun h_21 => ?_)
    · refine jd_aload_n zd_A_fix_34 rfl ?_
      refine jd_iload_n zd_A_fix_35 rfl ?_
      refine jd_put (ac_U (by omega)) rfl zl_U zp_U zm_U 4 (by decide) zi_346 rfl rfl rfl rfl rfl (Nat.le_of_ble_eq_true rfl) (ac_U (by omega)) (rl_U (by omega)) (by omega) zd_A_fix_36 ?_
      exact jd_vret rfl ⟨0, _, Or.inr ⟨a, ha, rfl, Or.inr ⟨b, hb, rfl⟩, Or.inr ⟨h_21, rfl, rfl⟩⟩, rfl, sw_refl _, sw_reflL _⟩ (by decide) (by decide) zd_A_fix_39
    · exact jd_throw (text := "the unit is done") th_ise (by decide +kernel) rfl ⟨2, 0, _, Or.inr ⟨a, ha, rfl, Or.inr ⟨b, hb, rfl⟩, Or.inl ⟨h_21, rfl, rfl⟩⟩, by decide +kernel, sw_refl _, sw_reflL _⟩ zd_A_fix_24 zd_A_fix_27 zd_A_fix_28 zd_A_fix_30 zd_A_fix_33 (by decide) (Nat.le_of_ble_eq_true rfl) (by decide) (by decide) (by decide) (by decide)
set_option maxRecDepth 100000 in
set_option maxHeartbeats 4000000 in
theorem kc_at {l : Launch} (hls : l.stackTraces = false) {D : va_G} {w : wd_T} {S : Nat → Nat → Int32} {L : Nat → Nat → Int64} (hN : ok_N w S) (x : Int32) : ct_M l D w zy_A_at (Cond.code zy_A_at zb_A_at 2 (Option.some Jvm.ClassFile.FieldType.int)) ({ frames := 7, cells := 1, slots := 6, locals := 111 } : Room) [av_r 0, av_i x] S L (po_O (ou_at w S x) [(1, nx_E)] L) 1 6 := by
  refine ct_intro hls (own := zn_A) (by decide) rfl (Nat.le_of_ble_eq_true rfl) ?_
  refine jd_aload_n zd_A_at_0 rfl ?_
  refine jd_iload_n zd_A_at_1 rfl ?_
  refine jd_callV (n := 1) (kc_unitOf hls hN.1 hN x) rfl rfl rfl rfl (by decide) zi_420 zi_422 zi_9 zi_41 zi_423 (by decide +kernel) rfl rfl rfl (by decide) (Nat.le_of_ble_eq_true rfl) (by decide) zd_A_at_2 (fun E S2 L2 h => jd_out rfl (by obtain ⟨rfl, h_e, rfl, rfl⟩ := h; exact ⟨1, 0, _, Or.inl ⟨h_e, rfl, rfl⟩, by decide +kernel, sw_refl _, sw_reflL _⟩) (by decide) (by decide)) (fun v S2 L2 hq => ?_)
  obtain ⟨a, ha, rfl, rfl, rfl, rfl⟩ := hq
  have h12 := hN.1
  refine jd_get (ac_U (by omega)) rfl zl_U 3 (by decide) zi_343 rfl rfl (rl_U (by omega)) (by omega) zd_A_at_5 ?_
  exact jd_iret rfl ⟨_, _, Or.inr ⟨a, ha, rfl, rfl, rfl, rfl⟩, rfl, sw_refl _, sw_reflL _⟩ (by decide) (by decide) zd_A_at_8
set_option maxRecDepth 100000 in
set_option maxHeartbeats 4000000 in
theorem kc_open {l : Launch} (hls : l.stackTraces = false) {D : va_G} {w : wd_T} {S : Nat → Nat → Int32} {L : Nat → Nat → Int64} (hN : ok_N w S) (x : Int32) : ct_M l D w zy_A_open (Cond.code zy_A_open zb_A_open 3 (Option.none : Option Jvm.ClassFile.FieldType)) ({ frames := 7, cells := 2, slots := 12, locals := 111 } : Room) [av_r 0, av_i x] S L (po_Ov (ou_open w S x) [(1, nx_E), (2, kE_S)] L) 2 12 := by
  refine ct_intro hls (own := zn_A) (by decide) rfl (Nat.le_of_ble_eq_true rfl) ?_
  refine jd_aload_n zd_A_open_0 rfl ?_
  refine jd_iload_n zd_A_open_1 rfl ?_
  refine jd_callV (n := 1) (kc_placeOf hls hN.2.1 hN x) rfl rfl rfl rfl (by decide) zi_440 zi_442 zi_10 zi_41 zi_443 (by decide +kernel) rfl rfl rfl (by decide) (Nat.le_of_ble_eq_true rfl) (by decide) zd_A_open_2 (fun E S2 L2 h => jd_out rfl (by obtain ⟨rfl, h_e, rfl, rfl⟩ := h; exact ⟨1, 0, _, Or.inl ⟨h_e, rfl, rfl⟩, by decide +kernel, sw_refl _, sw_reflL _⟩) (by decide) (by decide)) (fun v S2 L2 hq => ?_)
  obtain ⟨b, hb, rfl, rfl, rfl, rfl⟩ := hq
  have h13 := hN.2.1
  refine jd_astore_n zd_A_open_5 (by decide) ?_
  refine jd_aload_n zd_A_open_6 rfl ?_
  refine jd_get (ac_P (by omega)) rfl zl_P 4 (by decide) zi_392 rfl rfl (rl_P (by omega)) (by omega) zd_A_open_7 ?_
  refine jd_if_ne 23 zd_A_open_10 (by decide) (fun h_10 => ?_) (fun h_10 => ?_)
  · refine jd_aload_n zd_A_open_23 rfl ?_
    refine jd_iconst (v := 0) zd_A_open_24 (by decide) ?_
    refine jd_put (ac_P (by omega)) rfl zl_P zp_P zm_P 4 (by decide) zi_392 rfl rfl rfl (by first | rfl | decide | assumption) (by first | rfl | decide | assumption) (Nat.le_of_ble_eq_true rfl) (ac_P (by omega)) (rl_P (by omega)) (by omega) zd_A_open_25 ?_
    exact jd_vret rfl ⟨0, _, Or.inr ⟨b, hb, rfl, Or.inr ⟨h_10, rfl, rfl⟩⟩, rfl, sw_refl _, sw_reflL _⟩ (by decide) (by decide) zd_A_open_28
  · exact jd_throw (text := "the place is not blocked") th_ise (by decide +kernel) rfl ⟨2, 0, _, Or.inr ⟨b, hb, rfl, Or.inl ⟨h_10, rfl, rfl⟩⟩, by decide +kernel, sw_refl _, sw_reflL _⟩ zd_A_open_13 zd_A_open_16 zd_A_open_17 zd_A_open_19 zd_A_open_22 (by decide) (Nat.le_of_ble_eq_true rfl) (by decide) (by decide) (by decide) (by decide)
theorem ob_03 {y : Int32} (e : y.toInt < 0 ∨ 3 < y.toInt) : ob y 0 3 = true := by
  simp only [ob, Bool.or_eq_true, decide_eq_true_eq, Int32.lt_iff_toInt_lt]
  have e1 : (0 : Int32).toInt = 0 := by decide
  have e2 : (3 : Int32).toInt = 3 := by decide
  omega
set_option maxRecDepth 100000 in
set_option maxHeartbeats 4000000 in
theorem kc_told {l : Launch} (hls : l.stackTraces = false) {D : va_G} {w : wd_T} {S : Nat → Nat → Int32} {L : Nat → Nat → Int64} (hN : ok_N w S) (x y : Int32) : ct_M l D w zy_A_told (Cond.code zy_A_told zb_A_told 4 (Option.some Jvm.ClassFile.FieldType.int)) ({ frames := 7, cells := 2, slots := 12, locals := 111 } : Room) [av_r 0, av_i x, av_i y] S L (po_O (ou_told w S x y) [(1, nx_E), (2, kE_I)] L) 2 12 := by
  refine ct_intro hls (own := zn_A) (by decide) rfl (Nat.le_of_ble_eq_true rfl) ?_
  refine jd_aload_n zd_A_told_0 rfl ?_
  refine jd_iload_n zd_A_told_1 rfl ?_
  refine jd_callV (n := 1) (kc_placeOf hls hN.2.1 hN x) rfl rfl rfl rfl (by decide) zi_440 zi_442 zi_10 zi_41 zi_443 (by decide +kernel) rfl rfl rfl (by decide) (Nat.le_of_ble_eq_true rfl) (by decide) zd_A_told_2 (fun E S2 L2 h => jd_out rfl (by obtain ⟨rfl, h_e, rfl, rfl⟩ := h; exact ⟨1, 0, _, ⟨rfl, Or.inl ⟨h_e, rfl⟩⟩, by decide +kernel, sw_refl _, sw_reflL _⟩) (by decide) (by decide)) (fun v S2 L2 hq => ?_)
  obtain ⟨b, hb, rfl, rfl, rfl, rfl⟩ := hq
  have h13 := hN.2.1
  refine jd_astore_n zd_A_told_5 (by decide) ?_
  refine jd_iload_n zd_A_told_6 rfl ?_
  rcases i32_4 y with e | e | e | e | ⟨e, n0, n1, n2, n3⟩
  · subst e
    refine jd_tabIn 36 zd_A_told_7 (by decide) (by decide) (off := 29) (by decide) (by decide) ?_
    refine jd_aload_n zd_A_told_36 rfl ?_
    refine jd_get (ac_P (by omega)) rfl zl_P 3 (by decide) zi_391 rfl rfl (rl_P (by omega)) (by omega) zd_A_told_37 ?_
    exact jd_iret rfl ⟨_, _, ⟨rfl, Or.inr ⟨b, hb, rfl, Or.inr (Or.inl ⟨rfl, rfl, rfl⟩)⟩⟩, rfl, sw_refl _, sw_reflL _⟩ (by decide) (by decide) zd_A_told_40
  · subst e
    refine jd_tabIn 41 zd_A_told_7 (by decide) (by decide) (off := 34) (by decide) (by decide) ?_
    refine jd_aload_n zd_A_told_41 rfl ?_
    refine jd_get (ac_P (by omega)) rfl zl_P 1 (by decide) zi_387 rfl rfl (rl_P (by omega)) (by omega) zd_A_told_42 ?_
    exact jd_iret rfl ⟨_, _, ⟨rfl, Or.inr ⟨b, hb, rfl, Or.inr (Or.inr (Or.inl ⟨rfl, rfl, rfl⟩))⟩⟩, rfl, sw_refl _, sw_reflL _⟩ (by decide) (by decide) zd_A_told_45
  · subst e
    refine jd_tabIn 46 zd_A_told_7 (by decide) (by decide) (off := 39) (by decide) (by decide) ?_
    refine jd_aload_n zd_A_told_46 rfl ?_
    refine jd_get (ac_P (by omega)) rfl zl_P 4 (by decide) zi_392 rfl rfl (rl_P (by omega)) (by omega) zd_A_told_47 ?_
    refine jd_if_eq 57 zd_A_told_50 (by decide) (fun h_50 => ?_) (fun h_50 => ?_)
    · refine jd_iconst (v := 0) zd_A_told_57 (by decide) ?_
      exact jd_iret rfl ⟨_, _, ⟨rfl, Or.inr ⟨b, hb, rfl, Or.inr (Or.inr (Or.inr (Or.inl ⟨rfl, rfl, by simp_all⟩)))⟩⟩, rfl, sw_refl _, sw_reflL _⟩ (by decide) (by decide) zd_A_told_58
    · refine jd_iconst (v := 1) zd_A_told_53 (by decide) ?_
      refine jd_goto 58 zd_A_told_54 (by decide) ?_
      exact jd_iret rfl ⟨_, _, ⟨rfl, Or.inr ⟨b, hb, rfl, Or.inr (Or.inr (Or.inr (Or.inl ⟨rfl, rfl, by simp_all⟩)))⟩⟩, rfl, sw_refl _, sw_reflL _⟩ (by decide) (by decide) zd_A_told_58
  · subst e
    refine jd_tabIn 59 zd_A_told_7 (by decide) (by decide) (off := 52) (by decide) (by decide) ?_
    refine jd_aload_n zd_A_told_59 rfl ?_
    refine jd_iload_n zd_A_told_60 rfl ?_
    refine jd_callV (n := 1) (kc_plannedFor hls hN (nI b)) rfl rfl rfl rfl (by decide) zi_611 zi_613 zi_22 zi_41 zi_614 (by decide +kernel) rfl rfl rfl (by decide) (Nat.le_of_ble_eq_true rfl) (by decide) zd_A_told_61 (fun _ _ _ h => h.elim) (fun v S2 L2 hq => ?_)
    obtain ⟨rfl, rfl, rfl⟩ := hq
    exact jd_iret rfl ⟨_, _, ⟨rfl, Or.inr ⟨b, hb, rfl, Or.inr (Or.inr (Or.inr (Or.inr ⟨rfl, rfl, rfl⟩)))⟩⟩, rfl, sw_refl _, sw_reflL _⟩ (by decide) (by decide) zd_A_told_64
  · refine jd_tabOut 65 zd_A_told_7 e (by decide) ?_
    exact jd_throw (text := "what is 0 .. 3") th_iae (by decide +kernel) rfl ⟨2, 0, _, ⟨rfl, Or.inr ⟨b, hb, rfl, Or.inl ⟨ob_03 e, rfl⟩⟩⟩, by decide +kernel, sw_refl _, sw_reflL _⟩ zd_A_told_65 zd_A_told_68 zd_A_told_69 zd_A_told_71 zd_A_told_74 (by decide) (Nat.le_of_ble_eq_true rfl) (by decide) (by decide) (by decide) (by decide)
