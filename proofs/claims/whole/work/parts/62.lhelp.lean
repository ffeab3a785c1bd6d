/-! THE LAW: its helpers (rows by wip/whole/gen/l1.py) -/
def lw_L (L M : Nat → Nat → Int64) : Prop := ∀ r, 23 ≤ r → r ≠ 500 → M r = L r
theorem sw_lw {L M : Nat → Nat → Int64} (h : sw_L L M) : lw_L L M := fun r h1 _ => h r h1
theorem lw_up {L M : Nat → Nat → Int64} (h : sw_L L M) (row : Nat → Int64) : lw_L L (va_up M 500 row) := fun r h1 h2 => by rw [va_up_ne _ _ h2]; exact h r h1
def po_L (ou : ou_T) (L : Nat → Nat → Int64) : jd_P := (fun v' S' L' => ∃ c v N, v' = some (av_i c) ∧ ou c v N ∧ sw_S N S' ∧ lw_L L L' ∧ (c = 0 → L' 500 0 = v.toInt64), fun _ _ _ => False)
def po_Lv (ou : ou_T) (L : Nat → Nat → Int64) : jd_P := (fun v' S' L' => ∃ c v N, v' = some (av_i c) ∧ ou c v N ∧ sw_S N S' ∧ lw_L L L', fun _ _ _ => False)
set_option maxRecDepth 100000 in
set_option maxHeartbeats 4000000 in
theorem kc_Lweight {l : Launch} (hls : l.stackTraces = false) {D : va_G} {w : wd_T} {S : Nat → Nat → Int32} {L : Nat → Nat → Int64} (x y : Int32) : ct_M l D w zy_L_weight (Cond.codeWith zy_L_weight zb_L_weight 4 (Option.some Jvm.ClassFile.FieldType.int) [((0 : Nat), (6 : Nat), (9 : Nat), (13 : Nat))]) ({ frames := 7, cells := 1, slots := 6, locals := 112 } : Room) [av_r 0, av_i x, av_i y] S L (po_Lv (ou_weight S x y) L) 1 6 := by
  refine ct_introH hls (own := zn_L) (by decide) rfl (Nat.le_of_ble_eq_true rfl) ?_
  refine jd_aload_n zd_L_weight_0 rfl ?_
  refine jd_iload_n zd_L_weight_1 rfl ?_
  refine jd_iload_n zd_L_weight_2 rfl ?_
  refine jd_callV (n := 2) (kc_weight hls x y) rfl rfl rfl rfl (by decide) zi_407 zi_408 zi_409 zi_41 zi_410 (by decide +kernel) rfl rfl rfl (by decide) (Nat.le_of_ble_eq_true rfl) (by decide) zd_L_weight_3 (fun E S9 L9 hq => ?_) (fun v9 S9 L9 hq => ?_)
  · obtain ⟨c, v, N, hO, hks, hN, hL⟩ := hq
    simp only [List.mem_cons, List.not_mem_nil, or_false, Prod.mk.injEq] at hks
    obtain ⟨rfl, rfl⟩ := hks
    refine jd_catch (by decide +kernel) [] { startPc := 0, endPc := 6, handlerPc := 9, catchType := 13 } [] rfl (fun z hz => by cases hz) (by decide) (by decide) zi_234 (fun q => ?_)
    refine jd_astore_nX zd_L_weight_9 (by decide) ?_
    refine jd_iconst (v := 1) zd_L_weight_10 (by decide) ?_
    exact jd_iret rfl ⟨1, v, N, rfl, hO, hN, sw_lw hL⟩ (by decide) (by decide) zd_L_weight_11
  · obtain ⟨v, N, hO, rfl, hN, hL⟩ := hq
    refine jd_goto 12 zd_L_weight_6 (by decide) ?_
    refine jd_iconst (v := 0) zd_L_weight_12 (by decide) ?_
    exact jd_iret rfl ⟨0, v, N, rfl, hO, hN, sw_lw hL⟩ (by decide) (by decide) zd_L_weight_13
set_option maxRecDepth 100000 in
set_option maxHeartbeats 4000000 in
theorem kc_Llimits {l : Launch} (hls : l.stackTraces = false) {D : va_G} {w : wd_T} {S : Nat → Nat → Int32} {L : Nat → Nat → Int64} (x y : Int32) : ct_M l D w zy_L_limits (Cond.codeWith zy_L_limits zb_L_limits 4 (Option.some Jvm.ClassFile.FieldType.int) [((0 : Nat), (6 : Nat), (9 : Nat), (13 : Nat))]) ({ frames := 7, cells := 1, slots := 6, locals := 112 } : Room) [av_r 0, av_i x, av_i y] S L (po_Lv (ou_limits S x y) L) 1 6 := by
  refine ct_introH hls (own := zn_L) (by decide) rfl (Nat.le_of_ble_eq_true rfl) ?_
  refine jd_aload_n zd_L_limits_0 rfl ?_
  refine jd_iload_n zd_L_limits_1 rfl ?_
  refine jd_iload_n zd_L_limits_2 rfl ?_
  refine jd_callV (n := 2) (kc_limits hls x y) rfl rfl rfl rfl (by decide) zi_502 zi_503 zi_504 zi_41 zi_505 (by decide +kernel) rfl rfl rfl (by decide) (Nat.le_of_ble_eq_true rfl) (by decide) zd_L_limits_3 (fun E S9 L9 hq => ?_) (fun v9 S9 L9 hq => ?_)
  · obtain ⟨c, v, N, hO, hks, hN, hL⟩ := hq
    simp only [List.mem_cons, List.not_mem_nil, or_false, Prod.mk.injEq] at hks
    obtain ⟨rfl, rfl⟩ := hks
    refine jd_catch (by decide +kernel) [] { startPc := 0, endPc := 6, handlerPc := 9, catchType := 13 } [] rfl (fun z hz => by cases hz) (by decide) (by decide) zi_234 (fun q => ?_)
    refine jd_astore_nX zd_L_limits_9 (by decide) ?_
    refine jd_iconst (v := 1) zd_L_limits_10 (by decide) ?_
    exact jd_iret rfl ⟨1, v, N, rfl, hO, hN, sw_lw hL⟩ (by decide) (by decide) zd_L_limits_11
  · obtain ⟨v, N, hO, rfl, hN, hL⟩ := hq
    refine jd_goto 12 zd_L_limits_6 (by decide) ?_
    refine jd_iconst (v := 0) zd_L_limits_12 (by decide) ?_
    exact jd_iret rfl ⟨0, v, N, rfl, hO, hN, sw_lw hL⟩ (by decide) (by decide) zd_L_limits_13
set_option maxRecDepth 100000 in
set_option maxHeartbeats 4000000 in
theorem kc_Lfits {l : Launch} (hls : l.stackTraces = false) {D : va_G} {w : wd_T} {S : Nat → Nat → Int32} {L : Nat → Nat → Int64} (hA : ok_A w S) (x y z : Int32) : ct_M l D w zy_L_fits (Cond.codeWith zy_L_fits zb_L_fits 5 (Option.some Jvm.ClassFile.FieldType.int) [((0 : Nat), (7 : Nat), (10 : Nat), (29 : Nat))]) ({ frames := 8, cells := 2, slots := 12, locals := 135 } : Room) [av_r 0, av_i x, av_i y, av_i z] S L (po_Lv (ou_fits w S x y z) L) 2 12 := by
  refine ct_introH hls (own := zn_L) (by decide) rfl (Nat.le_of_ble_eq_true rfl) ?_
  refine jd_aload_n zd_L_fits_0 rfl ?_
  refine jd_iload_n zd_L_fits_1 rfl ?_
  refine jd_iload_n zd_L_fits_2 rfl ?_
  refine jd_iload_n zd_L_fits_3 rfl ?_
  refine jd_callV (n := 3) (kc_fits hls hA.1 x y z) rfl rfl rfl rfl (by decide) zi_416 zi_417 zi_418 zi_41 zi_419 (by decide +kernel) rfl rfl rfl (by decide) (Nat.le_of_ble_eq_true rfl) (by decide) zd_L_fits_4 (fun E S9 L9 hq => ?_) (fun v9 S9 L9 hq => ?_)
  · obtain ⟨c, v, N, hO, hks, hN, hL⟩ := hq
    simp only [List.mem_cons, List.not_mem_nil, or_false, Prod.mk.injEq] at hks
    obtain ⟨rfl, rfl⟩ := hks
    refine jd_catch (by decide +kernel) [] { startPc := 0, endPc := 7, handlerPc := 10, catchType := 29 } [] rfl (fun z hz => by cases hz) (by decide) (by decide) zi_415 (fun q => ?_)
    refine jd_astoreX zd_L_fits_10 (by decide) ?_
    refine jd_iconst (v := 1) zd_L_fits_12 (by decide) ?_
    exact jd_iret rfl ⟨1, v, N, rfl, hO, hN, sw_lw hL⟩ (by decide) (by decide) zd_L_fits_13
  · obtain ⟨v, N, hO, rfl, hN, hL⟩ := hq
    refine jd_goto 14 zd_L_fits_7 (by decide) ?_
    refine jd_iconst (v := 0) zd_L_fits_14 (by decide) ?_
    exact jd_iret rfl ⟨0, v, N, rfl, hO, hN, sw_lw hL⟩ (by decide) (by decide) zd_L_fits_15
set_option maxRecDepth 100000 in
set_option maxHeartbeats 4000000 in
theorem kc_Lcost {l : Launch} (hls : l.stackTraces = false) {D : va_G} {w : wd_T} {S : Nat → Nat → Int32} {L : Nat → Nat → Int64} (hA : ok_A w S) (x y z : Int32) : ct_M l D w zy_L_cost (Cond.codeWith zy_L_cost zb_L_cost 5 (Option.some Jvm.ClassFile.FieldType.int) [((0 : Nat), (7 : Nat), (10 : Nat), (29 : Nat)), ((0 : Nat), (7 : Nat), (14 : Nat), (13 : Nat))]) ({ frames := 8, cells := 3, slots := 18, locals := 135 } : Room) [av_r 0, av_i x, av_i y, av_i z] S L (po_Lv (ou_cost w S x y z) L) 3 18 := by
  refine ct_introH hls (own := zn_L) (by decide) rfl (Nat.le_of_ble_eq_true rfl) ?_
  refine jd_aload_n zd_L_cost_0 rfl ?_
  refine jd_iload_n zd_L_cost_1 rfl ?_
  refine jd_iload_n zd_L_cost_2 rfl ?_
  refine jd_iload_n zd_L_cost_3 rfl ?_
  refine jd_callV (n := 3) (kc_cost hls hA.1 x y z) rfl rfl rfl rfl (by decide) zi_448 zi_449 zi_450 zi_41 zi_451 (by decide +kernel) rfl rfl rfl (by decide) (Nat.le_of_ble_eq_true rfl) (by decide) zd_L_cost_4 (fun E S9 L9 hq => ?_) (fun v9 S9 L9 hq => ?_)
  · obtain ⟨c, v, N, hO, hks, hN, hL⟩ := hq
    simp only [List.mem_cons, List.not_mem_nil, or_false, Prod.mk.injEq] at hks
    rcases hks with ⟨rfl, rfl⟩ | ⟨rfl, rfl⟩
    · refine jd_catch (by decide +kernel) [] { startPc := 0, endPc := 7, handlerPc := 10, catchType := 29 } [{ startPc := 0, endPc := 7, handlerPc := 14, catchType := 13 }] rfl (fun z hz => by cases hz) (by decide) (by decide) zi_415 (fun q => ?_)
      refine jd_astoreX zd_L_cost_10 (by decide) ?_
      refine jd_iconst (v := 1) zd_L_cost_12 (by decide) ?_
      exact jd_iret rfl ⟨1, v, N, rfl, hO, hN, sw_lw hL⟩ (by decide) (by decide) zd_L_cost_13
    · refine jd_catch (by decide +kernel) [{ startPc := 0, endPc := 7, handlerPc := 10, catchType := 29 }] { startPc := 0, endPc := 7, handlerPc := 14, catchType := 13 } [] rfl (fun z hz => by
          simp only [List.mem_cons, List.not_mem_nil, or_false] at hz
          rcases hz with rfl
          · exact ⟨by decide, nx_E, by decide +kernel, by decide +kernel, zi_415⟩) (by decide) (by decide) zi_234 (fun q => ?_)
      refine jd_astoreX zd_L_cost_14 (by decide) ?_
      refine jd_iconst (v := 2) zd_L_cost_16 (by decide) ?_
      exact jd_iret rfl ⟨2, v, N, rfl, hO, hN, sw_lw hL⟩ (by decide) (by decide) zd_L_cost_17
  · obtain ⟨v, N, hO, rfl, hN, hL⟩ := hq
    refine jd_goto 18 zd_L_cost_7 (by decide) ?_
    refine jd_iconst (v := 0) zd_L_cost_18 (by decide) ?_
    exact jd_iret rfl ⟨0, v, N, rfl, hO, hN, sw_lw hL⟩ (by decide) (by decide) zd_L_cost_19
set_option maxRecDepth 100000 in
set_option maxHeartbeats 4000000 in
theorem kc_Lfix {l : Launch} (hls : l.stackTraces = false) {D : va_G} {w : wd_T} {S : Nat → Nat → Int32} {L : Nat → Nat → Int64} (hA : ok_A w S) (x y : Int32) : ct_M l D w zy_L_fix (Cond.codeWith zy_L_fix zb_L_fix 4 (Option.some Jvm.ClassFile.FieldType.int) [((0 : Nat), (6 : Nat), (9 : Nat), (29 : Nat)), ((0 : Nat), (6 : Nat), (12 : Nat), (38 : Nat))]) ({ frames := 8, cells := 3, slots := 18, locals := 134 } : Room) [av_r 0, av_i x, av_i y] S L (po_Lv (ou_fix w S x y) L) 3 18 := by
  refine ct_introH hls (own := zn_L) (by decide) rfl (Nat.le_of_ble_eq_true rfl) ?_
  refine jd_aload_n zd_L_fix_0 rfl ?_
  refine jd_iload_n zd_L_fix_1 rfl ?_
  refine jd_iload_n zd_L_fix_2 rfl ?_
  refine jd_callV (n := 2) (kc_fix hls hA.1 x y) rfl rfl rfl rfl (by decide) zi_494 zi_495 zi_496 zi_41 zi_497 (by decide +kernel) rfl rfl rfl (by decide) (Nat.le_of_ble_eq_true rfl) (by decide) zd_L_fix_3 (fun E S9 L9 hq => ?_) (fun v9 S9 L9 hq => ?_)
  · obtain ⟨c, v, N, hO, hks, hN, hL⟩ := hq
    simp only [List.mem_cons, List.not_mem_nil, or_false, Prod.mk.injEq] at hks
    rcases hks with ⟨rfl, rfl⟩ | ⟨rfl, rfl⟩
    · refine jd_catch (by decide +kernel) [] { startPc := 0, endPc := 6, handlerPc := 9, catchType := 29 } [{ startPc := 0, endPc := 6, handlerPc := 12, catchType := 38 }] rfl (fun z hz => by cases hz) (by decide) (by decide) zi_415 (fun q => ?_)
      refine jd_astore_nX zd_L_fix_9 (by decide) ?_
      refine jd_iconst (v := 1) zd_L_fix_10 (by decide) ?_
      exact jd_iret rfl ⟨1, v, N, rfl, hO, hN, sw_lw hL⟩ (by decide) (by decide) zd_L_fix_11
    · refine jd_catch (by decide +kernel) [{ startPc := 0, endPc := 6, handlerPc := 9, catchType := 29 }] { startPc := 0, endPc := 6, handlerPc := 12, catchType := 38 } [] rfl (fun z hz => by
          simp only [List.mem_cons, List.not_mem_nil, or_false] at hz
          rcases hz with rfl
          · exact ⟨by decide, nx_E, by decide +kernel, by decide +kernel, zi_415⟩) (by decide) (by decide) zi_457 (fun q => ?_)
      refine jd_astore_nX zd_L_fix_12 (by decide) ?_
      refine jd_iconst (v := 2) zd_L_fix_13 (by decide) ?_
      exact jd_iret rfl ⟨2, v, N, rfl, hO, hN, sw_lw hL⟩ (by decide) (by decide) zd_L_fix_14
  · obtain ⟨v, N, hO, rfl, hN, hL⟩ := hq
    refine jd_goto 15 zd_L_fix_6 (by decide) ?_
    refine jd_iconst (v := 0) zd_L_fix_15 (by decide) ?_
    exact jd_iret rfl ⟨0, v, N, rfl, hO, hN, sw_lw hL⟩ (by decide) (by decide) zd_L_fix_16
set_option maxRecDepth 100000 in
set_option maxHeartbeats 4000000 in
theorem kc_Lopen {l : Launch} (hls : l.stackTraces = false) {D : va_G} {w : wd_T} {S : Nat → Nat → Int32} {L : Nat → Nat → Int64} (hA : ok_A w S) (x : Int32) : ct_M l D w zy_L_open (Cond.codeWith zy_L_open zb_L_open 3 (Option.some Jvm.ClassFile.FieldType.int) [((0 : Nat), (5 : Nat), (8 : Nat), (29 : Nat)), ((0 : Nat), (5 : Nat), (11 : Nat), (38 : Nat))]) ({ frames := 8, cells := 2, slots := 12, locals := 133 } : Room) [av_r 0, av_i x] S L (po_Lv (ou_open w S x) L) 2 12 := by
  refine ct_introH hls (own := zn_L) (by decide) rfl (Nat.le_of_ble_eq_true rfl) ?_
  refine jd_aload_n zd_L_open_0 rfl ?_
  refine jd_iload_n zd_L_open_1 rfl ?_
  refine jd_callV (n := 1) (kc_open hls hA.1 x) rfl rfl rfl rfl (by decide) zi_622 zi_623 zi_624 zi_41 zi_625 (by decide +kernel) rfl rfl rfl (by decide) (Nat.le_of_ble_eq_true rfl) (by decide) zd_L_open_2 (fun E S9 L9 hq => ?_) (fun v9 S9 L9 hq => ?_)
  · obtain ⟨c, v, N, hO, hks, hN, hL⟩ := hq
    simp only [List.mem_cons, List.not_mem_nil, or_false, Prod.mk.injEq] at hks
    rcases hks with ⟨rfl, rfl⟩ | ⟨rfl, rfl⟩
    · refine jd_catch (by decide +kernel) [] { startPc := 0, endPc := 5, handlerPc := 8, catchType := 29 } [{ startPc := 0, endPc := 5, handlerPc := 11, catchType := 38 }] rfl (fun z hz => by cases hz) (by decide) (by decide) zi_415 (fun q => ?_)
      refine jd_astore_nX zd_L_open_8 (by decide) ?_
      refine jd_iconst (v := 1) zd_L_open_9 (by decide) ?_
      exact jd_iret rfl ⟨1, v, N, rfl, hO, hN, sw_lw hL⟩ (by decide) (by decide) zd_L_open_10
    · refine jd_catch (by decide +kernel) [{ startPc := 0, endPc := 5, handlerPc := 8, catchType := 29 }] { startPc := 0, endPc := 5, handlerPc := 11, catchType := 38 } [] rfl (fun z hz => by
          simp only [List.mem_cons, List.not_mem_nil, or_false] at hz
          rcases hz with rfl
          · exact ⟨by decide, nx_E, by decide +kernel, by decide +kernel, zi_415⟩) (by decide) (by decide) zi_457 (fun q => ?_)
      refine jd_astore_nX zd_L_open_11 (by decide) ?_
      refine jd_iconst (v := 2) zd_L_open_12 (by decide) ?_
      exact jd_iret rfl ⟨2, v, N, rfl, hO, hN, sw_lw hL⟩ (by decide) (by decide) zd_L_open_13
  · obtain ⟨v, N, hO, rfl, hN, hL⟩ := hq
    refine jd_goto 14 zd_L_open_5 (by decide) ?_
    refine jd_iconst (v := 0) zd_L_open_14 (by decide) ?_
    exact jd_iret rfl ⟨0, v, N, rfl, hO, hN, sw_lw hL⟩ (by decide) (by decide) zd_L_open_15
set_option maxRecDepth 100000 in
set_option maxHeartbeats 4000000 in
theorem kc_Ltogether {l : Launch} (hls : l.stackTraces = false) {D : va_G} {w : wd_T} {S : Nat → Nat → Int32} {L : Nat → Nat → Int64} (hA : ok_A w S) (x y : Int32) : ct_M l D w zy_L_together (Cond.codeWith zy_L_together zb_L_together 5 (Option.some Jvm.ClassFile.FieldType.int) [((0 : Nat), (10 : Nat), (13 : Nat), (29 : Nat)), ((0 : Nat), (10 : Nat), (17 : Nat), (38 : Nat))]) ({ frames := 8, cells := 3, slots := 18, locals := 136 } : Room) [av_r 0, av_i x, av_i y, av_r 500] S L (po_L (ou_together w S x y) L) 3 18 := by
  refine ct_introH hls (own := zn_L) (by decide) rfl (Nat.le_of_ble_eq_true rfl) ?_
  refine jd_aload_n zd_L_together_0 rfl ?_
  refine jd_iconst (v := 0) zd_L_together_1 (by decide) ?_
  refine jd_aload_n zd_L_together_2 rfl ?_
  refine jd_iload_n zd_L_together_3 rfl ?_
  refine jd_iload_n zd_L_together_4 rfl ?_
  refine jd_callV (n := 2) (kc_together hls hA.1 hA.2.1 x y) rfl rfl rfl rfl (by decide) zi_458 zi_459 zi_460 zi_41 zi_461 (by decide +kernel) rfl rfl rfl (by decide) (Nat.le_of_ble_eq_true rfl) (by decide) zd_L_together_5 (fun E S9 L9 hq => ?_) (fun v9 S9 L9 hq => ?_)
  · obtain ⟨c, v, N, hO, hks, hN, hL⟩ := hq
    simp only [List.mem_cons, List.not_mem_nil, or_false, Prod.mk.injEq] at hks
    rcases hks with ⟨rfl, rfl⟩ | ⟨rfl, rfl⟩
    · refine jd_catch (by decide +kernel) [] { startPc := 0, endPc := 10, handlerPc := 13, catchType := 29 } [{ startPc := 0, endPc := 10, handlerPc := 17, catchType := 38 }] rfl (fun z hz => by cases hz) (by decide) (by decide) zi_415 (fun q => ?_)
      refine jd_astoreX zd_L_together_13 (by decide) ?_
      refine jd_iconst (v := 1) zd_L_together_15 (by decide) ?_
      exact jd_iret rfl ⟨1, v, N, rfl, hO, hN, sw_lw hL, fun h => absurd h (by decide)⟩ (by decide) (by decide) zd_L_together_16
    · refine jd_catch (by decide +kernel) [{ startPc := 0, endPc := 10, handlerPc := 13, catchType := 29 }] { startPc := 0, endPc := 10, handlerPc := 17, catchType := 38 } [] rfl (fun z hz => by
          simp only [List.mem_cons, List.not_mem_nil, or_false] at hz
          rcases hz with rfl
          · exact ⟨by decide, nx_E, by decide +kernel, by decide +kernel, zi_415⟩) (by decide) (by decide) zi_457 (fun q => ?_)
      refine jd_astoreX zd_L_together_17 (by decide) ?_
      refine jd_iconst (v := 2) zd_L_together_19 (by decide) ?_
      exact jd_iret rfl ⟨2, v, N, rfl, hO, hN, sw_lw hL, fun h => absurd h (by decide)⟩ (by decide) (by decide) zd_L_together_20
  · obtain ⟨v, N, hO, rfl, hN, hL⟩ := hq
    refine jd_i2l zd_L_together_8 ?_
    refine jd_lstN (r := 500) (c := 0) (fun _ => rfl) rfl (by decide) (n := 1) (by decide) (rl_m (by decide)) (by decide) zd_L_together_9 ?_
    refine jd_goto 21 zd_L_together_10 (by decide) ?_
    refine jd_iconst (v := 0) zd_L_together_21 (by decide) ?_
    exact jd_iret rfl ⟨0, v, N, rfl, hO, hN, lw_up hL _, fun _ => by rw [va_up_self]; exact pk_uLs⟩ (by decide) (by decide) zd_L_together_22
set_option maxRecDepth 100000 in
set_option maxHeartbeats 4000000 in
theorem kc_Ltold {l : Launch} (hls : l.stackTraces = false) {D : va_G} {w : wd_T} {S : Nat → Nat → Int32} {L : Nat → Nat → Int64} (hA : ok_A w S) (x y : Int32) : ct_M l D w zy_L_told (Cond.codeWith zy_L_told zb_L_told 5 (Option.some Jvm.ClassFile.FieldType.int) [((0 : Nat), (10 : Nat), (13 : Nat), (29 : Nat)), ((0 : Nat), (10 : Nat), (17 : Nat), (13 : Nat))]) ({ frames := 8, cells := 2, slots := 12, locals := 134 } : Room) [av_r 0, av_i x, av_i y, av_r 500] S L (po_L (ou_told w S x y) L) 2 12 := by
  refine ct_introH hls (own := zn_L) (by decide) rfl (Nat.le_of_ble_eq_true rfl) ?_
  refine jd_aload_n zd_L_told_0 rfl ?_
  refine jd_iconst (v := 0) zd_L_told_1 (by decide) ?_
  refine jd_aload_n zd_L_told_2 rfl ?_
  refine jd_iload_n zd_L_told_3 rfl ?_
  refine jd_iload_n zd_L_told_4 rfl ?_
  refine jd_callV (n := 2) (kc_told hls hA.1 x y) rfl rfl rfl rfl (by decide) zi_669 zi_670 zi_671 zi_41 zi_672 (by decide +kernel) rfl rfl rfl (by decide) (Nat.le_of_ble_eq_true rfl) (by decide) zd_L_told_5 (fun E S9 L9 hq => ?_) (fun v9 S9 L9 hq => ?_)
  · obtain ⟨c, v, N, hO, hks, hN, hL⟩ := hq
    simp only [List.mem_cons, List.not_mem_nil, or_false, Prod.mk.injEq] at hks
    rcases hks with ⟨rfl, rfl⟩ | ⟨rfl, rfl⟩
    · refine jd_catch (by decide +kernel) [] { startPc := 0, endPc := 10, handlerPc := 13, catchType := 29 } [{ startPc := 0, endPc := 10, handlerPc := 17, catchType := 13 }] rfl (fun z hz => by cases hz) (by decide) (by decide) zi_415 (fun q => ?_)
      refine jd_astoreX zd_L_told_13 (by decide) ?_
      refine jd_iconst (v := 1) zd_L_told_15 (by decide) ?_
      exact jd_iret rfl ⟨1, v, N, rfl, hO, hN, sw_lw hL, fun h => absurd h (by decide)⟩ (by decide) (by decide) zd_L_told_16
    · refine jd_catch (by decide +kernel) [{ startPc := 0, endPc := 10, handlerPc := 13, catchType := 29 }] { startPc := 0, endPc := 10, handlerPc := 17, catchType := 13 } [] rfl (fun z hz => by
          simp only [List.mem_cons, List.not_mem_nil, or_false] at hz
          rcases hz with rfl
          · exact ⟨by decide, nx_E, by decide +kernel, by decide +kernel, zi_415⟩) (by decide) (by decide) zi_234 (fun q => ?_)
      refine jd_astoreX zd_L_told_17 (by decide) ?_
      refine jd_iconst (v := 2) zd_L_told_19 (by decide) ?_
      exact jd_iret rfl ⟨2, v, N, rfl, hO, hN, sw_lw hL, fun h => absurd h (by decide)⟩ (by decide) (by decide) zd_L_told_20
  · obtain ⟨v, N, hO, rfl, hN, hL⟩ := hq
    refine jd_i2l zd_L_told_8 ?_
    refine jd_lstN (r := 500) (c := 0) (fun _ => rfl) rfl (by decide) (n := 1) (by decide) (rl_m (by decide)) (by decide) zd_L_told_9 ?_
    refine jd_goto 21 zd_L_told_10 (by decide) ?_
    refine jd_iconst (v := 0) zd_L_told_21 (by decide) ?_
    exact jd_iret rfl ⟨0, v, N, rfl, hO, hN, lw_up hL _, fun _ => by rw [va_up_self]; exact pk_uLs⟩ (by decide) (by decide) zd_L_told_22
set_option maxRecDepth 100000 in
set_option maxHeartbeats 4000000 in
theorem kc_Lat {l : Launch} (hls : l.stackTraces = false) {D : va_G} {w : wd_T} {S : Nat → Nat → Int32} {L : Nat → Nat → Int64} (hA : ok_A w S) (x : Int32) : ct_M l D w zy_L_at (Cond.codeWith zy_L_at zb_L_at 4 (Option.some Jvm.ClassFile.FieldType.int) [((0 : Nat), (9 : Nat), (12 : Nat), (29 : Nat))]) ({ frames := 8, cells := 1, slots := 6, locals := 132 } : Room) [av_r 0, av_i x, av_r 500] S L (po_L (ou_at w S x) L) 1 6 := by
  refine ct_introH hls (own := zn_L) (by decide) rfl (Nat.le_of_ble_eq_true rfl) ?_
  refine jd_aload_n zd_L_at_0 rfl ?_
  refine jd_iconst (v := 0) zd_L_at_1 (by decide) ?_
  refine jd_aload_n zd_L_at_2 rfl ?_
  refine jd_iload_n zd_L_at_3 rfl ?_
  refine jd_callV (n := 1) (kc_at hls hA.1 x) rfl rfl rfl rfl (by decide) zi_576 zi_577 zi_578 zi_41 zi_579 (by decide +kernel) rfl rfl rfl (by decide) (Nat.le_of_ble_eq_true rfl) (by decide) zd_L_at_4 (fun E S9 L9 hq => ?_) (fun v9 S9 L9 hq => ?_)
  · obtain ⟨c, v, N, hO, hks, hN, hL⟩ := hq
    simp only [List.mem_cons, List.not_mem_nil, or_false, Prod.mk.injEq] at hks
    obtain ⟨rfl, rfl⟩ := hks
    refine jd_catch (by decide +kernel) [] { startPc := 0, endPc := 9, handlerPc := 12, catchType := 29 } [] rfl (fun z hz => by cases hz) (by decide) (by decide) zi_415 (fun q => ?_)
    refine jd_astore_nX zd_L_at_12 (by decide) ?_
    refine jd_iconst (v := 1) zd_L_at_13 (by decide) ?_
    exact jd_iret rfl ⟨1, v, N, rfl, hO, hN, sw_lw hL, fun h => absurd h (by decide)⟩ (by decide) (by decide) zd_L_at_14
  · obtain ⟨v, N, hO, rfl, hN, hL⟩ := hq
    refine jd_i2l zd_L_at_7 ?_
    refine jd_lstN (r := 500) (c := 0) (fun _ => rfl) rfl (by decide) (n := 1) (by decide) (rl_m (by decide)) (by decide) zd_L_at_8 ?_
    refine jd_goto 15 zd_L_at_9 (by decide) ?_
    refine jd_iconst (v := 0) zd_L_at_15 (by decide) ?_
    exact jd_iret rfl ⟨0, v, N, rfl, hO, hN, lw_up hL _, fun _ => by rw [va_up_self]; exact pk_uLs⟩ (by decide) (by decide) zd_L_at_16
set_option maxRecDepth 100000 in
set_option maxHeartbeats 4000000 in
theorem kc_Ltrip {l : Launch} (hls : l.stackTraces = false) {D : va_G} {w : wd_T} {S : Nat → Nat → Int32} {L : Nat → Nat → Int64} (hA : ok_A w S) (x : Int32) : ct_M l D w zy_L_trip (Cond.codeWith zy_L_trip zb_L_trip 4 (Option.some Jvm.ClassFile.FieldType.int) [((0 : Nat), (9 : Nat), (12 : Nat), (29 : Nat))]) ({ frames := 8, cells := 1, slots := 6, locals := 137 } : Room) [av_r 0, av_i x, av_r 500] S L (po_L (ou_trip w S x) L) 1 6 := by
  refine ct_introH hls (own := zn_L) (by decide) rfl (Nat.le_of_ble_eq_true rfl) ?_
  refine jd_aload_n zd_L_trip_0 rfl ?_
  refine jd_iconst (v := 0) zd_L_trip_1 (by decide) ?_
  refine jd_aload_n zd_L_trip_2 rfl ?_
  refine jd_iload_n zd_L_trip_3 rfl ?_
  refine jd_callV (n := 1) (kc_trip hls hA.1 hA.2.1 x) rfl rfl rfl rfl (by decide) zi_658 zi_659 zi_660 zi_41 zi_661 (by decide +kernel) rfl rfl rfl (by decide) (Nat.le_of_ble_eq_true rfl) (by decide) zd_L_trip_4 (fun E S9 L9 hq => ?_) (fun v9 S9 L9 hq => ?_)
  · obtain ⟨c, v, N, hO, hks, hN, hL⟩ := hq
    simp only [List.mem_cons, List.not_mem_nil, or_false, Prod.mk.injEq] at hks
    obtain ⟨rfl, rfl⟩ := hks
    refine jd_catch (by decide +kernel) [] { startPc := 0, endPc := 9, handlerPc := 12, catchType := 29 } [] rfl (fun z hz => by cases hz) (by decide) (by decide) zi_415 (fun q => ?_)
    refine jd_astore_nX zd_L_trip_12 (by decide) ?_
    refine jd_iconst (v := 1) zd_L_trip_13 (by decide) ?_
    exact jd_iret rfl ⟨1, v, N, rfl, hO, hN, sw_lw hL, fun h => absurd h (by decide)⟩ (by decide) (by decide) zd_L_trip_14
  · obtain ⟨v, N, hO, rfl, hN, hL⟩ := hq
    refine jd_i2l zd_L_trip_7 ?_
    refine jd_lstN (r := 500) (c := 0) (fun _ => rfl) rfl (by decide) (n := 1) (by decide) (rl_m (by decide)) (by decide) zd_L_trip_8 ?_
    refine jd_goto 15 zd_L_trip_9 (by decide) ?_
    refine jd_iconst (v := 0) zd_L_trip_15 (by decide) ?_
    exact jd_iret rfl ⟨0, v, N, rfl, hO, hN, lw_up hL _, fun _ => by rw [va_up_self]; exact pk_uLs⟩ (by decide) (by decide) zd_L_trip_16
set_option maxRecDepth 100000 in
set_option maxHeartbeats 4000000 in
theorem kc_Lbarred {l : Launch} (hls : l.stackTraces = false) {D : va_G} {w : wd_T} {S : Nat → Nat → Int32} {L : Nat → Nat → Int64} (hA : ok_A w S) (x : Int32) : ct_M l D w zy_L_barred (Cond.codeWith zy_L_barred zb_L_barred 4 (Option.some Jvm.ClassFile.FieldType.int) [((0 : Nat), (9 : Nat), (12 : Nat), (29 : Nat)), ((0 : Nat), (9 : Nat), (15 : Nat), (38 : Nat))]) ({ frames := 8, cells := 2, slots := 12, locals := 137 } : Room) [av_r 0, av_i x, av_r 500] S L (po_L (ou_barred w S x) L) 2 12 := by
  refine ct_introH hls (own := zn_L) (by decide) rfl (Nat.le_of_ble_eq_true rfl) ?_
  refine jd_aload_n zd_L_barred_0 rfl ?_
  refine jd_iconst (v := 0) zd_L_barred_1 (by decide) ?_
  refine jd_aload_n zd_L_barred_2 rfl ?_
  refine jd_iload_n zd_L_barred_3 rfl ?_
  refine jd_callV (n := 1) (kc_barred hls hA.1 hA.2.1 x) rfl rfl rfl rfl (by decide) zi_583 zi_584 zi_585 zi_41 zi_586 (by decide +kernel) rfl rfl rfl (by decide) (Nat.le_of_ble_eq_true rfl) (by decide) zd_L_barred_4 (fun E S9 L9 hq => ?_) (fun v9 S9 L9 hq => ?_)
  · obtain ⟨c, v, N, hO, hks, hN, hL⟩ := hq
    simp only [List.mem_cons, List.not_mem_nil, or_false, Prod.mk.injEq] at hks
    rcases hks with ⟨rfl, rfl⟩ | ⟨rfl, rfl⟩
    · refine jd_catch (by decide +kernel) [] { startPc := 0, endPc := 9, handlerPc := 12, catchType := 29 } [{ startPc := 0, endPc := 9, handlerPc := 15, catchType := 38 }] rfl (fun z hz => by cases hz) (by decide) (by decide) zi_415 (fun q => ?_)
      refine jd_astore_nX zd_L_barred_12 (by decide) ?_
      refine jd_iconst (v := 1) zd_L_barred_13 (by decide) ?_
      exact jd_iret rfl ⟨1, v, N, rfl, hO, hN, sw_lw hL, fun h => absurd h (by decide)⟩ (by decide) (by decide) zd_L_barred_14
    · refine jd_catch (by decide +kernel) [{ startPc := 0, endPc := 9, handlerPc := 12, catchType := 29 }] { startPc := 0, endPc := 9, handlerPc := 15, catchType := 38 } [] rfl (fun z hz => by
          simp only [List.mem_cons, List.not_mem_nil, or_false] at hz
          rcases hz with rfl
          · exact ⟨by decide, nx_E, by decide +kernel, by decide +kernel, zi_415⟩) (by decide) (by decide) zi_457 (fun q => ?_)
      refine jd_astore_nX zd_L_barred_15 (by decide) ?_
      refine jd_iconst (v := 2) zd_L_barred_16 (by decide) ?_
      exact jd_iret rfl ⟨2, v, N, rfl, hO, hN, sw_lw hL, fun h => absurd h (by decide)⟩ (by decide) (by decide) zd_L_barred_17
  · obtain ⟨v, N, hO, rfl, hN, hL⟩ := hq
    refine jd_i2l zd_L_barred_7 ?_
    refine jd_lstN (r := 500) (c := 0) (fun _ => rfl) rfl (by decide) (n := 1) (by decide) (rl_m (by decide)) (by decide) zd_L_barred_8 ?_
    refine jd_goto 18 zd_L_barred_9 (by decide) ?_
    refine jd_iconst (v := 0) zd_L_barred_18 (by decide) ?_
    exact jd_iret rfl ⟨0, v, N, rfl, hO, hN, lw_up hL _, fun _ => by rw [va_up_self]; exact pk_uLs⟩ (by decide) (by decide) zd_L_barred_19
set_option maxRecDepth 100000 in
set_option maxHeartbeats 4000000 in
theorem kc_Lput {l : Launch} (hls : l.stackTraces = false) {D : va_G} {w : wd_T} {S : Nat → Nat → Int32} {L : Nat → Nat → Int64} (hA : ok_A w S) (x : Int32) : ct_M l D w zy_L_put (Cond.codeWith zy_L_put zb_L_put 4 (Option.some Jvm.ClassFile.FieldType.int) [((0 : Nat), (9 : Nat), (12 : Nat), (29 : Nat)), ((0 : Nat), (9 : Nat), (15 : Nat), (38 : Nat))]) ({ frames := 8, cells := 3, slots := 18, locals := 134 } : Room) [av_r 0, av_i x, av_r 500] S L (po_L (ou_put w S x) L) 3 18 := by
  refine ct_introH hls (own := zn_L) (by decide) rfl (Nat.le_of_ble_eq_true rfl) ?_
  refine jd_aload_n zd_L_put_0 rfl ?_
  refine jd_iconst (v := 0) zd_L_put_1 (by decide) ?_
  refine jd_aload_n zd_L_put_2 rfl ?_
  refine jd_iload_n zd_L_put_3 rfl ?_
  refine jd_callV (n := 1) (kc_put hls hA.1 hA.2.1 x) rfl rfl rfl rfl (by decide) zi_590 zi_591 zi_592 zi_41 zi_593 (by decide +kernel) rfl rfl rfl (by decide) (Nat.le_of_ble_eq_true rfl) (by decide) zd_L_put_4 (fun E S9 L9 hq => ?_) (fun v9 S9 L9 hq => ?_)
  · obtain ⟨c, v, N, hO, hks, hN, hL⟩ := hq
    simp only [List.mem_cons, List.not_mem_nil, or_false, Prod.mk.injEq] at hks
    rcases hks with ⟨rfl, rfl⟩ | ⟨rfl, rfl⟩
    · refine jd_catch (by decide +kernel) [] { startPc := 0, endPc := 9, handlerPc := 12, catchType := 29 } [{ startPc := 0, endPc := 9, handlerPc := 15, catchType := 38 }] rfl (fun z hz => by cases hz) (by decide) (by decide) zi_415 (fun q => ?_)
      refine jd_astore_nX zd_L_put_12 (by decide) ?_
      refine jd_iconst (v := 1) zd_L_put_13 (by decide) ?_
      exact jd_iret rfl ⟨1, v, N, rfl, hO, hN, sw_lw hL, fun h => absurd h (by decide)⟩ (by decide) (by decide) zd_L_put_14
    · refine jd_catch (by decide +kernel) [{ startPc := 0, endPc := 9, handlerPc := 12, catchType := 29 }] { startPc := 0, endPc := 9, handlerPc := 15, catchType := 38 } [] rfl (fun z hz => by
          simp only [List.mem_cons, List.not_mem_nil, or_false] at hz
          rcases hz with rfl
          · exact ⟨by decide, nx_E, by decide +kernel, by decide +kernel, zi_415⟩) (by decide) (by decide) zi_457 (fun q => ?_)
      refine jd_astore_nX zd_L_put_15 (by decide) ?_
      refine jd_iconst (v := 2) zd_L_put_16 (by decide) ?_
      exact jd_iret rfl ⟨2, v, N, rfl, hO, hN, sw_lw hL, fun h => absurd h (by decide)⟩ (by decide) (by decide) zd_L_put_17
  · obtain ⟨v, N, hO, rfl, hN, hL⟩ := hq
    refine jd_i2l zd_L_put_7 ?_
    refine jd_lstN (r := 500) (c := 0) (fun _ => rfl) rfl (by decide) (n := 1) (by decide) (rl_m (by decide)) (by decide) zd_L_put_8 ?_
    refine jd_goto 18 zd_L_put_9 (by decide) ?_
    refine jd_iconst (v := 0) zd_L_put_18 (by decide) ?_
    exact jd_iret rfl ⟨0, v, N, rfl, hO, hN, lw_up hL _, fun _ => by rw [va_up_self]; exact pk_uLs⟩ (by decide) (by decide) zd_L_put_19
set_option maxRecDepth 100000 in
set_option maxHeartbeats 4000000 in
theorem kc_Lblock {l : Launch} (hls : l.stackTraces = false) {D : va_G} {w : wd_T} {S : Nat → Nat → Int32} {L : Nat → Nat → Int64} (hA : ok_A w S) (x : Int32) : ct_M l D w zy_L_block (Cond.codeWith zy_L_block zb_L_block 4 (Option.some Jvm.ClassFile.FieldType.int) [((0 : Nat), (9 : Nat), (12 : Nat), (29 : Nat)), ((0 : Nat), (9 : Nat), (15 : Nat), (38 : Nat))]) ({ frames := 8, cells := 2, slots := 12, locals := 135 } : Room) [av_r 0, av_i x, av_r 500] S L (po_L (ou_block w S x) L) 2 12 := by
  refine ct_introH hls (own := zn_L) (by decide) rfl (Nat.le_of_ble_eq_true rfl) ?_
  refine jd_aload_n zd_L_block_0 rfl ?_
  refine jd_iconst (v := 0) zd_L_block_1 (by decide) ?_
  refine jd_aload_n zd_L_block_2 rfl ?_
  refine jd_iload_n zd_L_block_3 rfl ?_
  refine jd_callV (n := 1) (kc_block hls hA.1 hA.2.1 x) rfl rfl rfl rfl (by decide) zi_606 zi_607 zi_608 zi_41 zi_609 (by decide +kernel) rfl rfl rfl (by decide) (Nat.le_of_ble_eq_true rfl) (by decide) zd_L_block_4 (fun E S9 L9 hq => ?_) (fun v9 S9 L9 hq => ?_)
  · obtain ⟨c, v, N, hO, hks, hN, hL⟩ := hq
    simp only [List.mem_cons, List.not_mem_nil, or_false, Prod.mk.injEq] at hks
    rcases hks with ⟨rfl, rfl⟩ | ⟨rfl, rfl⟩
    · refine jd_catch (by decide +kernel) [] { startPc := 0, endPc := 9, handlerPc := 12, catchType := 29 } [{ startPc := 0, endPc := 9, handlerPc := 15, catchType := 38 }] rfl (fun z hz => by cases hz) (by decide) (by decide) zi_415 (fun q => ?_)
      refine jd_astore_nX zd_L_block_12 (by decide) ?_
      refine jd_iconst (v := 1) zd_L_block_13 (by decide) ?_
      exact jd_iret rfl ⟨1, v, N, rfl, hO, hN, sw_lw hL, fun h => absurd h (by decide)⟩ (by decide) (by decide) zd_L_block_14
    · refine jd_catch (by decide +kernel) [{ startPc := 0, endPc := 9, handlerPc := 12, catchType := 29 }] { startPc := 0, endPc := 9, handlerPc := 15, catchType := 38 } [] rfl (fun z hz => by
          simp only [List.mem_cons, List.not_mem_nil, or_false] at hz
          rcases hz with rfl
          · exact ⟨by decide, nx_E, by decide +kernel, by decide +kernel, zi_415⟩) (by decide) (by decide) zi_457 (fun q => ?_)
      refine jd_astore_nX zd_L_block_15 (by decide) ?_
      refine jd_iconst (v := 2) zd_L_block_16 (by decide) ?_
      exact jd_iret rfl ⟨2, v, N, rfl, hO, hN, sw_lw hL, fun h => absurd h (by decide)⟩ (by decide) (by decide) zd_L_block_17
  · obtain ⟨v, N, hO, rfl, hN, hL⟩ := hq
    refine jd_i2l zd_L_block_7 ?_
    refine jd_lstN (r := 500) (c := 0) (fun _ => rfl) rfl (by decide) (n := 1) (by decide) (rl_m (by decide)) (by decide) zd_L_block_8 ?_
    refine jd_goto 18 zd_L_block_9 (by decide) ?_
    refine jd_iconst (v := 0) zd_L_block_18 (by decide) ?_
    exact jd_iret rfl ⟨0, v, N, rfl, hO, hN, lw_up hL _, fun _ => by rw [va_up_self]; exact pk_uLs⟩ (by decide) (by decide) zd_L_block_19
set_option maxRecDepth 100000 in
set_option maxHeartbeats 4000000 in
theorem kc_Lshare {l : Launch} (hls : l.stackTraces = false) {D : va_G} {w : wd_T} {S : Nat → Nat → Int32} {L : Nat → Nat → Int64} (hA : ok_A w S) (x : Int32) : ct_M l D w zy_L_share (Cond.codeWith zy_L_share zb_L_share 4 (Option.some Jvm.ClassFile.FieldType.int) [((0 : Nat), (9 : Nat), (12 : Nat), (29 : Nat)), ((0 : Nat), (9 : Nat), (15 : Nat), (38 : Nat)), ((0 : Nat), (9 : Nat), (18 : Nat), (69 : Nat))]) ({ frames := 8, cells := 3, slots := 18, locals := 134 } : Room) [av_r 0, av_i x, av_r 500] S L (po_L (ou_share w S x) L) 3 18 := by
  refine ct_introH hls (own := zn_L) (by decide) rfl (Nat.le_of_ble_eq_true rfl) ?_
  refine jd_aload_n zd_L_share_0 rfl ?_
  refine jd_iconst (v := 0) zd_L_share_1 (by decide) ?_
  refine jd_aload_n zd_L_share_2 rfl ?_
  refine jd_iload_n zd_L_share_3 rfl ?_
  refine jd_callV (n := 1) (kc_share hls hA.1 hA.2.1 x) rfl rfl rfl rfl (by decide) zi_631 zi_632 zi_633 zi_41 zi_634 (by decide +kernel) rfl rfl rfl (by decide) (Nat.le_of_ble_eq_true rfl) (by decide) zd_L_share_4 (fun E S9 L9 hq => ?_) (fun v9 S9 L9 hq => ?_)
  · obtain ⟨c, v, N, hO, hks, hN, hL⟩ := hq
    simp only [List.mem_cons, List.not_mem_nil, or_false, Prod.mk.injEq] at hks
    rcases hks with ⟨rfl, rfl⟩ | ⟨rfl, rfl⟩ | ⟨rfl, rfl⟩
    · refine jd_catch (by decide +kernel) [] { startPc := 0, endPc := 9, handlerPc := 12, catchType := 29 } [{ startPc := 0, endPc := 9, handlerPc := 15, catchType := 38 }, { startPc := 0, endPc := 9, handlerPc := 18, catchType := 69 }] rfl (fun z hz => by cases hz) (by decide) (by decide) zi_415 (fun q => ?_)
      refine jd_astore_nX zd_L_share_12 (by decide) ?_
      refine jd_iconst (v := 1) zd_L_share_13 (by decide) ?_
      exact jd_iret rfl ⟨1, v, N, rfl, hO, hN, sw_lw hL, fun h => absurd h (by decide)⟩ (by decide) (by decide) zd_L_share_14
    · refine jd_catch (by decide +kernel) [{ startPc := 0, endPc := 9, handlerPc := 12, catchType := 29 }] { startPc := 0, endPc := 9, handlerPc := 15, catchType := 38 } [{ startPc := 0, endPc := 9, handlerPc := 18, catchType := 69 }] rfl (fun z hz => by
          simp only [List.mem_cons, List.not_mem_nil, or_false] at hz
          rcases hz with rfl
          · exact ⟨by decide, nx_E, by decide +kernel, by decide +kernel, zi_415⟩) (by decide) (by decide) zi_457 (fun q => ?_)
      refine jd_astore_nX zd_L_share_15 (by decide) ?_
      refine jd_iconst (v := 2) zd_L_share_16 (by decide) ?_
      exact jd_iret rfl ⟨2, v, N, rfl, hO, hN, sw_lw hL, fun h => absurd h (by decide)⟩ (by decide) (by decide) zd_L_share_17
    · refine jd_catch (by decide +kernel) [{ startPc := 0, endPc := 9, handlerPc := 12, catchType := 29 }, { startPc := 0, endPc := 9, handlerPc := 15, catchType := 38 }] { startPc := 0, endPc := 9, handlerPc := 18, catchType := 69 } [] rfl (fun z hz => by
          simp only [List.mem_cons, List.not_mem_nil, or_false] at hz
          rcases hz with rfl | rfl
          · exact ⟨by decide, nx_E, by decide +kernel, by decide +kernel, zi_415⟩
          · exact ⟨by decide, kE_S, by decide +kernel, by decide +kernel, zi_457⟩) (by decide) (by decide) zi_630 (fun q => ?_)
      refine jd_astore_nX zd_L_share_18 (by decide) ?_
      refine jd_iconst (v := 3) zd_L_share_19 (by decide) ?_
      exact jd_iret rfl ⟨3, v, N, rfl, hO, hN, sw_lw hL, fun h => absurd h (by decide)⟩ (by decide) (by decide) zd_L_share_20
  · obtain ⟨v, N, hO, rfl, hN, hL⟩ := hq
    refine jd_i2l zd_L_share_7 ?_
    refine jd_lstN (r := 500) (c := 0) (fun _ => rfl) rfl (by decide) (n := 1) (by decide) (rl_m (by decide)) (by decide) zd_L_share_8 ?_
    refine jd_goto 21 zd_L_share_9 (by decide) ?_
    refine jd_iconst (v := 0) zd_L_share_21 (by decide) ?_
    exact jd_iret rfl ⟨0, v, N, rfl, hO, hN, lw_up hL _, fun _ => by rw [va_up_self]; exact pk_uLs⟩ (by decide) (by decide) zd_L_share_22
set_option maxRecDepth 100000 in
set_option maxHeartbeats 4000000 in
theorem kc_Lassign {l : Launch} (hls : l.stackTraces = false) {D : va_G} {w : wd_T} {S : Nat → Nat → Int32} {L : Nat → Nat → Int64} (hA : ok_A w S) (x : Int32) : ct_M l D w zy_L_assign (Cond.codeWith zy_L_assign zb_L_assign 4 (Option.some Jvm.ClassFile.FieldType.int) [((0 : Nat), (9 : Nat), (12 : Nat), (13 : Nat))]) ({ frames := 7, cells := 1, slots := 6, locals := 116 } : Room) [av_r 0, av_i x, av_r 500] S L (po_L (ou_assign w S x) L) 1 6 := by
  obtain ⟨e8, he8, h8⟩ := hA.2.2.2.2.2.2.1
  refine ct_introH hls (own := zn_L) (by decide) rfl (Nat.le_of_ble_eq_true rfl) ?_
  refine jd_aload_n zd_L_assign_0 rfl ?_
  refine jd_iconst (v := 0) zd_L_assign_1 (by decide) ?_
  refine jd_aload_n zd_L_assign_2 rfl ?_
  refine jd_iload_n zd_L_assign_3 rfl ?_
  refine jd_callV (n := 1) (kc_assign hls hA.1 hA.2.1 hA.2.2.1 h8 he8 (fun _ => ok_hC hA) x) rfl rfl rfl rfl (by decide) zi_510 zi_511 zi_512 zi_41 zi_513 (by decide +kernel) rfl rfl rfl (by decide) (Nat.le_of_ble_eq_true rfl) (by decide) zd_L_assign_4 (fun E S9 L9 hq => ?_) (fun v9 S9 L9 hq => ?_)
  · obtain ⟨c, v, N, hO, hks, hN, hL⟩ := hq
    simp only [List.mem_cons, List.not_mem_nil, or_false, Prod.mk.injEq] at hks
    obtain ⟨rfl, rfl⟩ := hks
    refine jd_catch (by decide +kernel) [] { startPc := 0, endPc := 9, handlerPc := 12, catchType := 13 } [] rfl (fun z hz => by cases hz) (by decide) (by decide) zi_234 (fun q => ?_)
    refine jd_astore_nX zd_L_assign_12 (by decide) ?_
    refine jd_iconst (v := 1) zd_L_assign_13 (by decide) ?_
    exact jd_iret rfl ⟨1, v, N, rfl, hO, hN, sw_lw hL, fun h => absurd h (by decide)⟩ (by decide) (by decide) zd_L_assign_14
  · obtain ⟨v, N, hO, rfl, hN, hL⟩ := hq
    refine jd_i2l zd_L_assign_7 ?_
    refine jd_lstN (r := 500) (c := 0) (fun _ => rfl) rfl (by decide) (n := 1) (by decide) (rl_m (by decide)) (by decide) zd_L_assign_8 ?_
    refine jd_goto 15 zd_L_assign_9 (by decide) ?_
    refine jd_iconst (v := 0) zd_L_assign_15 (by decide) ?_
    exact jd_iret rfl ⟨0, v, N, rfl, hO, hN, lw_up hL _, fun _ => by rw [va_up_self]; exact pk_uLs⟩ (by decide) (by decide) zd_L_assign_16
