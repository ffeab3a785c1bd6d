/-! UNIT AND PLACE: refused, and made (rows by wip/whole/gen/n3.py) -/
def ou_unitF (w : wd_T) (S : Nat → Nat → Int32) (x y : Int32) : ou_T := fun c _ N => N = S ∧ (((ob x 0 7 || ob y 1 100) = true ∧ c = 1) ∨ (ob x 0 7 = false ∧ ob y 1 100 = false ∧ w.2.2.1 = 12 ∧ c = 2))
def ou_placeF (w : wd_T) (S : Nat → Nat → Int32) (f z y x : Int32) : ou_T := fun c _ N => N = S ∧ (((ob f 0 255 || ob z 0 3 || ob y 0 1000 || ob x 0 1000) = true ∧ c = 1) ∨ (ob f 0 255 = false ∧ ob z 0 3 = false ∧ ob y 0 1000 = false ∧ ob x 0 1000 = false ∧ w.2.2.2 = 12 ∧ c = 2))
def qg_unit (w : wd_T) (S : Nat → Nat → Int32) (L : Nat → Nat → Int64) (x y : Int32) : cg_P := fun v w' S' L' => ∃ q q2, v = some (av_i (nI w.2.2.1)) ∧ w' = wu w q q2 ∧ S' = nu_G w.2.2.1 S x y ∧ L' = L
def qg_place (w : wd_T) (S : Nat → Nat → Int32) (L : Nat → Nat → Int64) (f z y x : Int32) : cg_P := fun v w' S' L' => ∃ q, v = some (av_i (nI w.2.2.2)) ∧ w' = wp w q ∧ S' = np_G w.2.2.2 S f z y x ∧ L' = L
def ql_unit (w : wd_T) (S : Nat → Nat → Int32) (L : Nat → Nat → Int64) (x y : Int32) : cg_P := fun v w' S' L' => ∃ q q2, v = some (av_i 0) ∧ w' = wu w q q2 ∧ S' = nu_G w.2.2.1 S x y ∧ L' = va_up L 500 (vp_updL (L 500) 0 (nI w.2.2.1).toInt64)
def ql_place (w : wd_T) (S : Nat → Nat → Int32) (L : Nat → Nat → Int64) (f z y x : Int32) : cg_P := fun v w' S' L' => ∃ q, v = some (av_i 0) ∧ w' = wp w q ∧ S' = np_G w.2.2.2 S f z y x ∧ L' = va_up L 500 (vp_updL (L 500) 0 (nI w.2.2.2).toInt64)
set_option maxRecDepth 100000 in
set_option maxHeartbeats 4000000 in
theorem kc_unitF {l : Launch} (hls : l.stackTraces = false) {D : va_G} {w : wd_T} {S : Nat → Nat → Int32} {L : Nat → Nat → Int64} (hN : ok_N w S) {x y : Int32} (hF : (ob x 0 7 || ob y 1 100) = true ∨ w.2.2.1 = 12) : ct_M l D w zy_A_unit (Cond.code zy_A_unit zb_A_unit 3 (Option.some Jvm.ClassFile.FieldType.int)) ({ frames := 6, cells := 1, slots := 6, locals := 90 } : Room) [av_r 0, av_i x, av_i y] S L (po_O (ou_unitF w S x y) [(1, kE_I), (2, kE_U)] L) 1 6 := by
  have h12 := hN.1
  refine ct_intro hls (own := zn_A) (by decide) rfl (Nat.le_of_ble_eq_true rfl) ?_
  refine jd_iload_n zd_A_unit_0 rfl ?_
  refine jd_iconst (v := 0) zd_A_unit_1 (by decide) ?_
  refine jd_bipush (v := 7) zd_A_unit_2 (by decide) ?_
  refine jd_callS (n := 3) (kc_outside hls x 0 7) rfl zi_240 zi_241 zi_41 zi_242 (by decide +kernel) rfl rfl rfl (by decide) (Nat.le_of_ble_eq_true rfl) (by decide) zd_A_unit_4 (fun _ _ _ h => h.elim) (fun v S2 L2 hq => ?_)
  obtain ⟨rfl, rfl, rfl⟩ := hq
  rw [ob_eq]
  refine jd_if_ne 20 zd_A_unit_7 (by decide) (fun h_7 => ?_) (fun h_7 => ?_)
  · exact jd_throw (text := "a kind is 0 .. 7, a size 1 .. 100") th_iae (by decide +kernel) rfl ⟨1, 0, _, ⟨rfl, Or.inl ⟨by rw [bi_n h_7]; rfl, rfl⟩⟩, by decide +kernel, sw_refl _, sw_reflL _⟩ zd_A_unit_20 zd_A_unit_23 zd_A_unit_24 zd_A_unit_26 zd_A_unit_29 (by decide) (Nat.le_of_ble_eq_true rfl) (by decide) (by decide) (by decide) (by decide)
  · refine jd_iload_n zd_A_unit_10 rfl ?_
    refine jd_iconst (v := 1) zd_A_unit_11 (by decide) ?_
    refine jd_bipush (v := 100) zd_A_unit_12 (by decide) ?_
    refine jd_callS (n := 3) (kc_outside hls y 1 100) rfl zi_240 zi_241 zi_41 zi_242 (by decide +kernel) rfl rfl rfl (by decide) (Nat.le_of_ble_eq_true rfl) (by decide) zd_A_unit_14 (fun _ _ _ h => h.elim) (fun v S2 L2 hq => ?_)
    obtain ⟨rfl, rfl, rfl⟩ := hq
    rw [ob_eq]
    refine jd_if_eq 30 zd_A_unit_17 (by decide) (fun h_17 => ?_) (fun h_17 => ?_)
    · refine jd_aload_n zd_A_unit_30 rfl ?_
      refine jd_get rfl rfl zl_A 6 (by decide) zi_148 rfl rfl rfl (by decide) zd_A_unit_31 ?_
      rw [hN.2.2.1]
      refine jd_bipush (v := nI 12) zd_A_unit_34 (by decide) ?_
      refine jd_icmp_lt 49 zd_A_unit_36 (by decide) (fun h_36 => ?_) (fun h_36 => ?_)
      · exfalso
        rw [nI_ltI (by omega) (by omega)] at h_36
        rcases hF with h | h
        · rw [bi_z h_7, bi_z h_17] at h; exact absurd h (by decide)
        · omega
      · have h_full : w.2.2.1 = 12 := by rw [nI_ltI (by omega) (by omega)] at h_36; omega
        exact jd_throw (text := "no room for another unit") th_uoe (by decide +kernel) rfl ⟨2, 0, _, ⟨rfl, Or.inr ⟨bi_z h_7, bi_z h_17, h_full, rfl⟩⟩, by decide +kernel, sw_refl _, sw_reflL _⟩ zd_A_unit_39 zd_A_unit_42 zd_A_unit_43 zd_A_unit_45 zd_A_unit_48 (by decide) (Nat.le_of_ble_eq_true rfl) (by decide) (by decide) (by decide) (by decide)
    · exact jd_throw (text := "a kind is 0 .. 7, a size 1 .. 100") th_iae (by decide +kernel) rfl ⟨1, 0, _, ⟨rfl, Or.inl ⟨by rw [bi_n h_17]; simp, rfl⟩⟩, by decide +kernel, sw_refl _, sw_reflL _⟩ zd_A_unit_20 zd_A_unit_23 zd_A_unit_24 zd_A_unit_26 zd_A_unit_29 (by decide) (Nat.le_of_ble_eq_true rfl) (by decide) (by decide) (by decide) (by decide)
set_option maxRecDepth 100000 in
set_option maxHeartbeats 4000000 in
theorem kc_placeF {l : Launch} (hls : l.stackTraces = false) {D : va_G} {w : wd_T} {S : Nat → Nat → Int32} {L : Nat → Nat → Int64} (hN : ok_N w S) {f z y x : Int32} (hF : (ob f 0 255 || ob z 0 3 || ob y 0 1000 || ob x 0 1000) = true ∨ w.2.2.2 = 12) : ct_M l D w zy_A_place (Cond.code zy_A_place zb_A_place 5 (Option.some Jvm.ClassFile.FieldType.int)) ({ frames := 6, cells := 1, slots := 6, locals := 90 } : Room) [av_r 0, av_i f, av_i z, av_i y, av_i x] S L (po_O (ou_placeF w S f z y x) [(1, kE_I), (2, kE_U)] L) 1 6 := by
  have h13 := hN.2.1
  refine ct_intro hls (own := zn_A) (by decide) rfl (Nat.le_of_ble_eq_true rfl) ?_
  refine jd_iload_n zd_A_place_0 rfl ?_
  refine jd_iconst (v := 0) zd_A_place_1 (by decide) ?_
  refine jd_sipush (v := 255) zd_A_place_2 (by decide) ?_
  refine jd_callS (n := 3) (kc_outside hls f 0 255) rfl zi_240 zi_241 zi_41 zi_242 (by decide +kernel) rfl rfl rfl (by decide) (Nat.le_of_ble_eq_true rfl) (by decide) zd_A_place_5 (fun _ _ _ h => h.elim) (fun v S2 L2 hq => ?_)
  obtain ⟨rfl, rfl, rfl⟩ := hq
  rw [ob_eq]
  refine jd_if_ne 20 zd_A_place_8 (by decide) (fun h_8 => ?_) (fun h_8 => ?_)
  · exact jd_throw (text := "fits are 0 .. 255, a zone is 0 .. 3") th_iae (by decide +kernel) rfl ⟨1, 0, _, ⟨rfl, Or.inl ⟨by rw [bi_n h_8]; simp, rfl⟩⟩, by decide +kernel, sw_refl _, sw_reflL _⟩ zd_A_place_20 zd_A_place_23 zd_A_place_24 zd_A_place_26 zd_A_place_29 (by decide) (Nat.le_of_ble_eq_true rfl) (by decide) (by decide) (by decide) (by decide)
  · refine jd_iload_n zd_A_place_11 rfl ?_
    refine jd_iconst (v := 0) zd_A_place_12 (by decide) ?_
    refine jd_iconst (v := 3) zd_A_place_13 (by decide) ?_
    refine jd_callS (n := 3) (kc_outside hls z 0 3) rfl zi_240 zi_241 zi_41 zi_242 (by decide +kernel) rfl rfl rfl (by decide) (Nat.le_of_ble_eq_true rfl) (by decide) zd_A_place_14 (fun _ _ _ h => h.elim) (fun v S2 L2 hq => ?_)
    obtain ⟨rfl, rfl, rfl⟩ := hq
    rw [ob_eq]
    refine jd_if_eq 30 zd_A_place_17 (by decide) (fun h_17 => ?_) (fun h_17 => ?_)
    · refine jd_iload_n zd_A_place_30 rfl ?_
      refine jd_iconst (v := 0) zd_A_place_31 (by decide) ?_
      refine jd_sipush (v := 1000) zd_A_place_32 (by decide) ?_
      refine jd_callS (n := 3) (kc_outside hls y 0 1000) rfl zi_240 zi_241 zi_41 zi_242 (by decide +kernel) rfl rfl rfl (by decide) (Nat.le_of_ble_eq_true rfl) (by decide) zd_A_place_35 (fun _ _ _ h => h.elim) (fun v S2 L2 hq => ?_)
      obtain ⟨rfl, rfl, rfl⟩ := hq
      rw [ob_eq]
      refine jd_if_ne 53 zd_A_place_38 (by decide) (fun h_38 => ?_) (fun h_38 => ?_)
      · exact jd_throw (text := "free room and way are 0 .. 1000") th_iae (by decide +kernel) rfl ⟨1, 0, _, ⟨rfl, Or.inl ⟨by rw [bi_n h_38]; simp, rfl⟩⟩, by decide +kernel, sw_refl _, sw_reflL _⟩ zd_A_place_53 zd_A_place_56 zd_A_place_57 zd_A_place_59 zd_A_place_62 (by decide) (Nat.le_of_ble_eq_true rfl) (by decide) (by decide) (by decide) (by decide)
      · refine jd_iload zd_A_place_41 rfl ?_
        refine jd_iconst (v := 0) zd_A_place_43 (by decide) ?_
        refine jd_sipush (v := 1000) zd_A_place_44 (by decide) ?_
        refine jd_callS (n := 3) (kc_outside hls x 0 1000) rfl zi_240 zi_241 zi_41 zi_242 (by decide +kernel) rfl rfl rfl (by decide) (Nat.le_of_ble_eq_true rfl) (by decide) zd_A_place_47 (fun _ _ _ h => h.elim) (fun v S2 L2 hq => ?_)
        obtain ⟨rfl, rfl, rfl⟩ := hq
        rw [ob_eq]
        refine jd_if_eq 63 zd_A_place_50 (by decide) (fun h_50 => ?_) (fun h_50 => ?_)
        · refine jd_aload_n zd_A_place_63 rfl ?_
          refine jd_get rfl rfl zl_A 7 (by decide) zi_149 rfl rfl rfl (by decide) zd_A_place_64 ?_
          rw [hN.2.2.2]
          refine jd_bipush (v := nI 12) zd_A_place_67 (by decide) ?_
          refine jd_icmp_lt 82 zd_A_place_69 (by decide) (fun h_69 => ?_) (fun h_69 => ?_)
          · exfalso
            rw [nI_ltI (by omega) (by omega)] at h_69
            rcases hF with h | h
            · rw [bi_z h_8, bi_z h_17, bi_z h_38, bi_z h_50] at h; exact absurd h (by decide)
            · omega
          · have h_full : w.2.2.2 = 12 := by rw [nI_ltI (by omega) (by omega)] at h_69; omega
            exact jd_throw (text := "no room for another place") th_uoe (by decide +kernel) rfl ⟨2, 0, _, ⟨rfl, Or.inr ⟨bi_z h_8, bi_z h_17, bi_z h_38, bi_z h_50, h_full, rfl⟩⟩, by decide +kernel, sw_refl _, sw_reflL _⟩ zd_A_place_72 zd_A_place_75 zd_A_place_76 zd_A_place_78 zd_A_place_81 (by decide) (Nat.le_of_ble_eq_true rfl) (by decide) (by decide) (by decide) (by decide)
        · exact jd_throw (text := "free room and way are 0 .. 1000") th_iae (by decide +kernel) rfl ⟨1, 0, _, ⟨rfl, Or.inl ⟨by rw [bi_n h_50]; simp, rfl⟩⟩, by decide +kernel, sw_refl _, sw_reflL _⟩ zd_A_place_53 zd_A_place_56 zd_A_place_57 zd_A_place_59 zd_A_place_62 (by decide) (Nat.le_of_ble_eq_true rfl) (by decide) (by decide) (by decide) (by decide)
    · exact jd_throw (text := "fits are 0 .. 255, a zone is 0 .. 3") th_iae (by decide +kernel) rfl ⟨1, 0, _, ⟨rfl, Or.inl ⟨by rw [bi_n h_17]; simp, rfl⟩⟩, by decide +kernel, sw_refl _, sw_reflL _⟩ zd_A_place_20 zd_A_place_23 zd_A_place_24 zd_A_place_26 zd_A_place_29 (by decide) (Nat.le_of_ble_eq_true rfl) (by decide) (by decide) (by decide) (by decide)
set_option maxRecDepth 100000 in
set_option maxHeartbeats 4000000 in
theorem kc_unitG {l : Launch} (hls : l.stackTraces = false) {D : va_G} {w : wd_T} {S : Nat → Nat → Int32} {L : Nat → Nat → Int64} (hN : ok_N w S) (h12 : w.2.2.1 < 12) {x y : Int32} (hx7 : ob x 0 7 = false) (hy7 : ob y 1 100 = false) : cg_M l D w zy_A_unit (Cond.code zy_A_unit zb_A_unit 3 (Option.some Jvm.ClassFile.FieldType.int)) ({ frames := 6, cells := 2, slots := 20, locals := 90 } : Room) [av_r 0, av_i x, av_i y] S L (qg_unit w S L x y) 2 20 := by
  refine cg_intro hls (own := zn_A) (by decide) rfl (Nat.le_of_ble_eq_true rfl) ?_
  intro p e s m args below meth c0 sz
  refine jw_iload_n zd_A_unit_0 rfl ?_
  refine jw_iconst (v := 0) zd_A_unit_1 (by decide) ?_
  refine jw_bipush (v := 7) zd_A_unit_2 (by decide) ?_
  refine jw_callS (n := 3) (kc_outside hls x 0 7) rfl zi_240 zi_241 zi_41 zi_242 (by decide +kernel) rfl rfl rfl (by decide) (Nat.le_of_ble_eq_true rfl) (by decide) zd_A_unit_4 (fun _ _ _ h => h.elim) (fun v S2 L2 hq => ?_)
  obtain ⟨rfl, rfl, rfl⟩ := hq
  rw [ob_eq, hx7]
  refine jw_if_ne 20 zd_A_unit_7 (by decide) (fun h => absurd rfl h) (fun _ => ?_)
  refine jw_iload_n zd_A_unit_10 rfl ?_
  refine jw_iconst (v := 1) zd_A_unit_11 (by decide) ?_
  refine jw_bipush (v := 100) zd_A_unit_12 (by decide) ?_
  refine jw_callS (n := 3) (kc_outside hls y 1 100) rfl zi_240 zi_241 zi_41 zi_242 (by decide +kernel) rfl rfl rfl (by decide) (Nat.le_of_ble_eq_true rfl) (by decide) zd_A_unit_14 (fun _ _ _ h => h.elim) (fun v S2 L2 hq => ?_)
  obtain ⟨rfl, rfl, rfl⟩ := hq
  rw [ob_eq, hy7]
  refine jw_if_eq 30 zd_A_unit_17 (by decide) (fun _ => ?_) (fun h => absurd rfl h)
  refine jw_aload_n zd_A_unit_30 rfl ?_
  refine jw_get rfl rfl zl_A 6 (by decide) zi_148 rfl rfl rfl (by decide) zd_A_unit_31 ?_
  rw [hN.2.2.1]
  refine jw_bipush (v := nI 12) zd_A_unit_34 (by decide) ?_
  refine jw_icmp_lt 49 zd_A_unit_36 (by decide) (fun _ => ?_) (fun h => absurd (nI_lt h12 (by decide)) h)
  refine jw_aload_n zd_A_unit_49 rfl ?_
  refine jw_get rfl rfl zl_A 0 (by decide) zi_142 rfl rfl rfl (by decide) zd_A_unit_50 ?_
  refine jw_aload_n zd_A_unit_53 rfl ?_
  refine jw_get rfl rfl zl_A 6 (by decide) zi_148 rfl rfl rfl (by decide) zd_A_unit_54 ?_
  rw [hN.2.2.1]
  refine jw_sub [(0, av_r 0), (1, av_i x), (2, av_i y)] ⟨rfl, rfl, rfl, trivial⟩ (gu_unit rfl h12 hN.2.1 hN.2.2.1 (Nat.le_of_ble_eq_true rfl) (Nat.le_of_ble_eq_true rfl) (Nat.le_of_ble_eq_true rfl) (Nat.le_of_ble_eq_true rfl) (fun q q2 => ?_))
  refine jw_aload_n zd_A_unit_71 rfl ?_
  refine jw_dup zd_A_unit_72 rfl ?_
  refine jw_get rfl rfl zl_A 6 (by decide) zi_148 rfl rfl rfl (by decide) zd_A_unit_73 ?_
  rw [va_up_ne _ _ (show (0 : Nat) ≠ 100 + w.2.2.1 + 100 by omega), va_up_ne _ _ (show (0 : Nat) ≠ 100 + w.2.2.1 by omega), hN.2.2.1]
  refine jw_iconst (v := 1) zd_A_unit_76 (by decide) ?_
  refine jw_iadd zd_A_unit_77 ?_
  refine jw_put rfl rfl zl_A zp_A zm_A 6 (by decide) zi_148 rfl rfl rfl rfl rfl (Nat.le_of_ble_eq_true rfl) rfl rfl (by decide) zd_A_unit_78 ?_
  refine jw_aload_n zd_A_unit_81 rfl ?_
  refine jw_get rfl rfl zl_A 6 (by decide) zi_148 rfl rfl rfl (by decide) zd_A_unit_82 ?_
  rw [va_up_self, pk_us, nI_1]
  refine jw_iconst (v := 1) zd_A_unit_85 (by decide) ?_
  refine jw_isub zd_A_unit_86 ?_
  rw [nI_pred]
  exact jw_giret rfl ⟨q, q2, rfl, rfl, by unfold nu_G; rw [va_up_ne _ _ (show (0 : Nat) ≠ 100 + w.2.2.1 + 100 by omega), va_up_ne _ _ (show (0 : Nat) ≠ 100 + w.2.2.1 by omega)], rfl⟩ (Nat.le_of_ble_eq_true rfl) (Nat.le_of_ble_eq_true rfl) zd_A_unit_87
set_option maxRecDepth 100000 in
set_option maxHeartbeats 4000000 in
theorem kc_placeG {l : Launch} (hls : l.stackTraces = false) {D : va_G} {w : wd_T} {S : Nat → Nat → Int32} {L : Nat → Nat → Int64} (hN : ok_N w S) (h13 : w.2.2.2 < 12) {f z y x : Int32} (hf : ob f 0 255 = false) (hz : ob z 0 3 = false) (hy : ob y 0 1000 = false) (hx : ob x 0 1000 = false) : cg_M l D w zy_A_place (Cond.code zy_A_place zb_A_place 5 (Option.some Jvm.ClassFile.FieldType.int)) ({ frames := 6, cells := 1, slots := 5, locals := 90 } : Room) [av_r 0, av_i f, av_i z, av_i y, av_i x] S L (qg_place w S L f z y x) 1 5 := by
  refine cg_intro hls (own := zn_A) (by decide) rfl (Nat.le_of_ble_eq_true rfl) ?_
  intro p e s m args below meth c0 sz
  refine jw_iload_n zd_A_place_0 rfl ?_
  refine jw_iconst (v := 0) zd_A_place_1 (by decide) ?_
  refine jw_sipush (v := 255) zd_A_place_2 (by decide) ?_
  refine jw_callS (n := 3) (kc_outside hls f 0 255) rfl zi_240 zi_241 zi_41 zi_242 (by decide +kernel) rfl rfl rfl (by decide) (Nat.le_of_ble_eq_true rfl) (by decide) zd_A_place_5 (fun _ _ _ h => h.elim) (fun v S2 L2 hq => ?_)
  obtain ⟨rfl, rfl, rfl⟩ := hq
  rw [ob_eq, hf]
  refine jw_if_ne 20 zd_A_place_8 (by decide) (fun h => absurd rfl h) (fun _ => ?_)
  refine jw_iload_n zd_A_place_11 rfl ?_
  refine jw_iconst (v := 0) zd_A_place_12 (by decide) ?_
  refine jw_iconst (v := 3) zd_A_place_13 (by decide) ?_
  refine jw_callS (n := 3) (kc_outside hls z 0 3) rfl zi_240 zi_241 zi_41 zi_242 (by decide +kernel) rfl rfl rfl (by decide) (Nat.le_of_ble_eq_true rfl) (by decide) zd_A_place_14 (fun _ _ _ h => h.elim) (fun v S2 L2 hq => ?_)
  obtain ⟨rfl, rfl, rfl⟩ := hq
  rw [ob_eq, hz]
  refine jw_if_eq 30 zd_A_place_17 (by decide) (fun _ => ?_) (fun h => absurd rfl h)
  refine jw_iload_n zd_A_place_30 rfl ?_
  refine jw_iconst (v := 0) zd_A_place_31 (by decide) ?_
  refine jw_sipush (v := 1000) zd_A_place_32 (by decide) ?_
  refine jw_callS (n := 3) (kc_outside hls y 0 1000) rfl zi_240 zi_241 zi_41 zi_242 (by decide +kernel) rfl rfl rfl (by decide) (Nat.le_of_ble_eq_true rfl) (by decide) zd_A_place_35 (fun _ _ _ h => h.elim) (fun v S2 L2 hq => ?_)
  obtain ⟨rfl, rfl, rfl⟩ := hq
  rw [ob_eq, hy]
  refine jw_if_ne 53 zd_A_place_38 (by decide) (fun h => absurd rfl h) (fun _ => ?_)
  refine jw_iload zd_A_place_41 rfl ?_
  refine jw_iconst (v := 0) zd_A_place_43 (by decide) ?_
  refine jw_sipush (v := 1000) zd_A_place_44 (by decide) ?_
  refine jw_callS (n := 3) (kc_outside hls x 0 1000) rfl zi_240 zi_241 zi_41 zi_242 (by decide +kernel) rfl rfl rfl (by decide) (Nat.le_of_ble_eq_true rfl) (by decide) zd_A_place_47 (fun _ _ _ h => h.elim) (fun v S2 L2 hq => ?_)
  obtain ⟨rfl, rfl, rfl⟩ := hq
  rw [ob_eq, hx]
  refine jw_if_eq 63 zd_A_place_50 (by decide) (fun _ => ?_) (fun h => absurd rfl h)
  refine jw_aload_n zd_A_place_63 rfl ?_
  refine jw_get rfl rfl zl_A 7 (by decide) zi_149 rfl rfl rfl (by decide) zd_A_place_64 ?_
  rw [hN.2.2.2]
  refine jw_bipush (v := nI 12) zd_A_place_67 (by decide) ?_
  refine jw_icmp_lt 82 zd_A_place_69 (by decide) (fun _ => ?_) (fun h => absurd (nI_lt h13 (by decide)) h)
  refine jw_aload_n zd_A_place_82 rfl ?_
  refine jw_get rfl rfl zl_A 1 (by decide) zi_143 rfl rfl rfl (by decide) zd_A_place_83 ?_
  refine jw_aload_n zd_A_place_86 rfl ?_
  refine jw_get rfl rfl zl_A 7 (by decide) zi_149 rfl rfl rfl (by decide) zd_A_place_87 ?_
  rw [hN.2.2.2]
  refine jw_sub [(0, av_r 0), (1, av_i f), (2, av_i z), (3, av_i y), (4, av_i x)] ⟨rfl, rfl, rfl, rfl, rfl, trivial⟩ (gp_place rfl hN.1 h13 (Nat.le_of_ble_eq_true rfl) (Nat.le_of_ble_eq_true rfl) (Nat.le_of_ble_eq_true rfl) (Nat.le_of_ble_eq_true rfl) (fun q => ?_))
  refine jw_aload_n zd_A_place_103 rfl ?_
  refine jw_dup zd_A_place_104 rfl ?_
  refine jw_get rfl rfl zl_A 7 (by decide) zi_149 rfl rfl rfl (by decide) zd_A_place_105 ?_
  rw [va_up_ne _ _ (show (0 : Nat) ≠ 300 + w.2.2.2 by omega), hN.2.2.2]
  refine jw_iconst (v := 1) zd_A_place_108 (by decide) ?_
  refine jw_iadd zd_A_place_109 ?_
  refine jw_put rfl rfl zl_A zp_A zm_A 7 (by decide) zi_149 rfl rfl rfl rfl rfl (Nat.le_of_ble_eq_true rfl) rfl rfl (by decide) zd_A_place_110 ?_
  refine jw_aload_n zd_A_place_113 rfl ?_
  refine jw_get rfl rfl zl_A 7 (by decide) zi_149 rfl rfl rfl (by decide) zd_A_place_114 ?_
  rw [va_up_self, pk_us, nI_1]
  refine jw_iconst (v := 1) zd_A_place_117 (by decide) ?_
  refine jw_isub zd_A_place_118 ?_
  rw [nI_pred]
  exact jw_giret rfl ⟨q, rfl, rfl, by unfold np_G; rw [va_up_ne _ _ (show (0 : Nat) ≠ 300 + w.2.2.2 by omega)], rfl⟩ (Nat.le_of_ble_eq_true rfl) (Nat.le_of_ble_eq_true rfl) zd_A_place_119
set_option maxRecDepth 100000 in
set_option maxHeartbeats 4000000 in
theorem kc_LunitF {l : Launch} (hls : l.stackTraces = false) {D : va_G} {w : wd_T} {S : Nat → Nat → Int32} {L : Nat → Nat → Int64} (hN : ok_N w S) {x y : Int32} (hF : (ob x 0 7 || ob y 1 100) = true ∨ w.2.2.1 = 12) : ct_M l D w zy_L_unit (Cond.codeWith zy_L_unit zb_L_unit 5 (Option.some Jvm.ClassFile.FieldType.int) [((0 : Nat), (10 : Nat), (13 : Nat), (13 : Nat)), ((0 : Nat), (10 : Nat), (17 : Nat), (15 : Nat))]) ({ frames := 7, cells := 1, slots := 6, locals := 112 } : Room) [av_r 0, av_i x, av_i y, av_r 500] S L (po_L (ou_unitF w S x y) L) 1 6 := by
  refine ct_introH hls (own := zn_L) (by decide) rfl (Nat.le_of_ble_eq_true rfl) ?_
  refine jd_aload_n zd_L_unit_0 rfl ?_
  refine jd_iconst (v := 0) zd_L_unit_1 (by decide) ?_
  refine jd_aload_n zd_L_unit_2 rfl ?_
  refine jd_iload_n zd_L_unit_3 rfl ?_
  refine jd_iload_n zd_L_unit_4 rfl ?_
  refine jd_callV (n := 2) (kc_unitF hls hN hF) rfl rfl rfl rfl (by decide) zi_236 zi_237 zi_238 zi_41 zi_239 (by decide +kernel) rfl rfl rfl (by decide) (Nat.le_of_ble_eq_true rfl) (by decide) zd_L_unit_5 (fun E S9 L9 hq => ?_) (fun v9 S9 L9 hq => ?_)
  · obtain ⟨c, v, N, hO, hks, hN, hL⟩ := hq
    simp only [List.mem_cons, List.not_mem_nil, or_false, Prod.mk.injEq] at hks
    rcases hks with ⟨rfl, rfl⟩ | ⟨rfl, rfl⟩
    · refine jd_catch (by decide +kernel) [] { startPc := 0, endPc := 10, handlerPc := 13, catchType := 13 } [{ startPc := 0, endPc := 10, handlerPc := 17, catchType := 15 }] rfl (fun z hz => by cases hz) (by decide) (by decide) zi_234 (fun q => ?_)
      refine jd_astoreX zd_L_unit_13 (by decide) ?_
      refine jd_iconst (v := 1) zd_L_unit_15 (by decide) ?_
      exact jd_iret rfl ⟨1, v, N, rfl, hO, hN, sw_lw hL, fun h => absurd h (by decide)⟩ (by decide) (by decide) zd_L_unit_16
    · refine jd_catch (by decide +kernel) [{ startPc := 0, endPc := 10, handlerPc := 13, catchType := 13 }] { startPc := 0, endPc := 10, handlerPc := 17, catchType := 15 } [] rfl (fun z hz => by
          simp only [List.mem_cons, List.not_mem_nil, or_false] at hz
          rcases hz with rfl
          · exact ⟨by decide, kE_I, by decide +kernel, by decide +kernel, zi_234⟩) (by decide) (by decide) zi_235 (fun q => ?_)
      refine jd_astoreX zd_L_unit_17 (by decide) ?_
      refine jd_iconst (v := 2) zd_L_unit_19 (by decide) ?_
      exact jd_iret rfl ⟨2, v, N, rfl, hO, hN, sw_lw hL, fun h => absurd h (by decide)⟩ (by decide) (by decide) zd_L_unit_20
  · obtain ⟨v, N, hO, rfl, hN, hL⟩ := hq
    refine jd_i2l zd_L_unit_8 ?_
    refine jd_lstN (r := 500) (c := 0) (fun _ => rfl) rfl (by decide) (n := 1) (by decide) (rl_m (by decide)) (by decide) zd_L_unit_9 ?_
    refine jd_goto 21 zd_L_unit_10 (by decide) ?_
    refine jd_iconst (v := 0) zd_L_unit_21 (by decide) ?_
    exact jd_iret rfl ⟨0, v, N, rfl, hO, hN, lw_up hL _, fun _ => by rw [va_up_self]; exact pk_uLs⟩ (by decide) (by decide) zd_L_unit_22
set_option maxRecDepth 100000 in
set_option maxHeartbeats 4000000 in
theorem kc_LplaceF {l : Launch} (hls : l.stackTraces = false) {D : va_G} {w : wd_T} {S : Nat → Nat → Int32} {L : Nat → Nat → Int64} (hN : ok_N w S) {f z y x : Int32} (hF : (ob f 0 255 || ob z 0 3 || ob y 0 1000 || ob x 0 1000) = true ∨ w.2.2.2 = 12) : ct_M l D w zy_L_place (Cond.codeWith zy_L_place zb_L_place 7 (Option.some Jvm.ClassFile.FieldType.int) [((0 : Nat), (14 : Nat), (17 : Nat), (13 : Nat)), ((0 : Nat), (14 : Nat), (21 : Nat), (15 : Nat))]) ({ frames := 7, cells := 1, slots := 6, locals := 114 } : Room) [av_r 0, av_i f, av_i z, av_i y, av_i x, av_r 500] S L (po_L (ou_placeF w S f z y x) L) 1 6 := by
  refine ct_introH hls (own := zn_L) (by decide) rfl (Nat.le_of_ble_eq_true rfl) ?_
  refine jd_aload zd_L_place_0 rfl ?_
  refine jd_iconst (v := 0) zd_L_place_2 (by decide) ?_
  refine jd_aload_n zd_L_place_3 rfl ?_
  refine jd_iload_n zd_L_place_4 rfl ?_
  refine jd_iload_n zd_L_place_5 rfl ?_
  refine jd_iload_n zd_L_place_6 rfl ?_
  refine jd_iload zd_L_place_7 rfl ?_
  refine jd_callV (n := 4) (kc_placeF hls hN hF) rfl rfl rfl rfl (by decide) zi_372 zi_373 zi_374 zi_41 zi_375 (by decide +kernel) rfl rfl rfl (by decide) (Nat.le_of_ble_eq_true rfl) (by decide) zd_L_place_9 (fun E S9 L9 hq => ?_) (fun v9 S9 L9 hq => ?_)
  · obtain ⟨c, v, N, hO, hks, hN, hL⟩ := hq
    simp only [List.mem_cons, List.not_mem_nil, or_false, Prod.mk.injEq] at hks
    rcases hks with ⟨rfl, rfl⟩ | ⟨rfl, rfl⟩
    · refine jd_catch (by decide +kernel) [] { startPc := 0, endPc := 14, handlerPc := 17, catchType := 13 } [{ startPc := 0, endPc := 14, handlerPc := 21, catchType := 15 }] rfl (fun z hz => by cases hz) (by decide) (by decide) zi_234 (fun q => ?_)
      refine jd_astoreX zd_L_place_17 (by decide) ?_
      refine jd_iconst (v := 1) zd_L_place_19 (by decide) ?_
      exact jd_iret rfl ⟨1, v, N, rfl, hO, hN, sw_lw hL, fun h => absurd h (by decide)⟩ (by decide) (by decide) zd_L_place_20
    · refine jd_catch (by decide +kernel) [{ startPc := 0, endPc := 14, handlerPc := 17, catchType := 13 }] { startPc := 0, endPc := 14, handlerPc := 21, catchType := 15 } [] rfl (fun z hz => by
          simp only [List.mem_cons, List.not_mem_nil, or_false] at hz
          rcases hz with rfl
          · exact ⟨by decide, kE_I, by decide +kernel, by decide +kernel, zi_234⟩) (by decide) (by decide) zi_235 (fun q => ?_)
      refine jd_astoreX zd_L_place_21 (by decide) ?_
      refine jd_iconst (v := 2) zd_L_place_23 (by decide) ?_
      exact jd_iret rfl ⟨2, v, N, rfl, hO, hN, sw_lw hL, fun h => absurd h (by decide)⟩ (by decide) (by decide) zd_L_place_24
  · obtain ⟨v, N, hO, rfl, hN, hL⟩ := hq
    refine jd_i2l zd_L_place_12 ?_
    refine jd_lstN (r := 500) (c := 0) (fun _ => rfl) rfl (by decide) (n := 1) (by decide) (rl_m (by decide)) (by decide) zd_L_place_13 ?_
    refine jd_goto 25 zd_L_place_14 (by decide) ?_
    refine jd_iconst (v := 0) zd_L_place_25 (by decide) ?_
    exact jd_iret rfl ⟨0, v, N, rfl, hO, hN, lw_up hL _, fun _ => by rw [va_up_self]; exact pk_uLs⟩ (by decide) (by decide) zd_L_place_26
set_option maxRecDepth 100000 in
set_option maxHeartbeats 4000000 in
theorem kc_LunitG {l : Launch} (hls : l.stackTraces = false) {D : va_G} {w : wd_T} {S : Nat → Nat → Int32} {L : Nat → Nat → Int64} (hN : ok_N w S) (h12 : w.2.2.1 < 12) {x y : Int32} (hx7 : ob x 0 7 = false) (hy7 : ob y 1 100 = false) : cg_M l D w zy_L_unit (Cond.codeWith zy_L_unit zb_L_unit 5 (Option.some Jvm.ClassFile.FieldType.int) [((0 : Nat), (10 : Nat), (13 : Nat), (13 : Nat)), ((0 : Nat), (10 : Nat), (17 : Nat), (15 : Nat))]) ({ frames := 7, cells := 2, slots := 20, locals := 112 } : Room) [av_r 0, av_i x, av_i y, av_r 500] S L (ql_unit w S L x y) 2 20 := by
  refine cg_introH hls (own := zn_L) (by decide) rfl (Nat.le_of_ble_eq_true rfl) ?_
  intro p e s m args below meth c0 sz
  refine jw_aload_n zd_L_unit_0 rfl ?_
  refine jw_iconst (v := 0) zd_L_unit_1 (by decide) ?_
  refine jw_aload_n zd_L_unit_2 rfl ?_
  refine jw_iload_n zd_L_unit_3 rfl ?_
  refine jw_iload_n zd_L_unit_4 rfl ?_
  refine jw_callGV (n := 2) (kc_unitG hls hN h12 hx7 hy7) rfl rfl rfl rfl (by decide) zi_236 zi_237 zi_238 zi_41 zi_239 (by decide +kernel) rfl rfl rfl (by decide) (Nat.le_of_ble_eq_true rfl) (by decide) zd_L_unit_5 (fun v9 w9 S9 L9 hq => ?_) (fun v9 w9 S9 L9 hq => ?_)
  · obtain ⟨q, q2, rfl, rfl, rfl, rfl⟩ := hq
    refine ⟨rfl, jl_same (fun z hz => ?_), ?_⟩
    · simp only [jl_args, jl_s1, List.mem_cons, List.not_mem_nil, or_false] at hz
      rcases hz with rfl | rfl | rfl | rfl <;> first | rfl | (show Value.ref _ = Value.ref _; rw [wu_o (by omega) (by omega)])
    · show [Value.int 0, Value.ref _] = [Value.int 0, Value.ref _]
      rw [wu_o (by omega) (by omega)]
  obtain ⟨q, q2, rfl, rfl, rfl, rfl⟩ := hq
  refine jw_i2l zd_L_unit_8 ?_
  refine jw_lstN (r := 500) (c := 0) (fun _ => rfl) rfl (by decide) (n := 1) (by decide) (rl_m (by decide)) (by decide) zd_L_unit_9 ?_
  refine jw_goto 21 zd_L_unit_10 (by decide) ?_
  refine jw_iconst (v := 0) zd_L_unit_21 (by decide) ?_
  exact jw_giret rfl ⟨q, q2, rfl, rfl, rfl, rfl⟩ (Nat.le_of_ble_eq_true rfl) (Nat.le_of_ble_eq_true rfl) zd_L_unit_22
set_option maxRecDepth 100000 in
set_option maxHeartbeats 4000000 in
theorem kc_LplaceG {l : Launch} (hls : l.stackTraces = false) {D : va_G} {w : wd_T} {S : Nat → Nat → Int32} {L : Nat → Nat → Int64} (hN : ok_N w S) (h13 : w.2.2.2 < 12) {f z y x : Int32} (hf : ob f 0 255 = false) (hz : ob z 0 3 = false) (hy : ob y 0 1000 = false) (hx : ob x 0 1000 = false) : cg_M l D w zy_L_place (Cond.codeWith zy_L_place zb_L_place 7 (Option.some Jvm.ClassFile.FieldType.int) [((0 : Nat), (14 : Nat), (17 : Nat), (13 : Nat)), ((0 : Nat), (14 : Nat), (21 : Nat), (15 : Nat))]) ({ frames := 7, cells := 1, slots := 5, locals := 114 } : Room) [av_r 0, av_i f, av_i z, av_i y, av_i x, av_r 500] S L (ql_place w S L f z y x) 1 5 := by
  refine cg_introH hls (own := zn_L) (by decide) rfl (Nat.le_of_ble_eq_true rfl) ?_
  intro p e s m args below meth c0 sz
  refine jw_aload zd_L_place_0 rfl ?_
  refine jw_iconst (v := 0) zd_L_place_2 (by decide) ?_
  refine jw_aload_n zd_L_place_3 rfl ?_
  refine jw_iload_n zd_L_place_4 rfl ?_
  refine jw_iload_n zd_L_place_5 rfl ?_
  refine jw_iload_n zd_L_place_6 rfl ?_
  refine jw_iload zd_L_place_7 rfl ?_
  refine jw_callGV (n := 4) (kc_placeG hls hN h13 hf hz hy hx) rfl rfl rfl rfl (by decide) zi_372 zi_373 zi_374 zi_41 zi_375 (by decide +kernel) rfl rfl rfl (by decide) (Nat.le_of_ble_eq_true rfl) (by decide) zd_L_place_9 (fun v9 w9 S9 L9 hq => ?_) (fun v9 w9 S9 L9 hq => ?_)
  · obtain ⟨q, rfl, rfl, rfl, rfl⟩ := hq
    refine ⟨rfl, jl_same (fun z hz => ?_), ?_⟩
    · simp only [jl_args, jl_s1, List.mem_cons, List.not_mem_nil, or_false] at hz
      rcases hz with rfl | rfl | rfl | rfl | rfl | rfl <;> first | rfl | (show Value.ref _ = Value.ref _; rw [wp_o (by omega)])
    · show [Value.int 0, Value.ref _] = [Value.int 0, Value.ref _]
      rw [wp_o (by omega)]
  obtain ⟨q, rfl, rfl, rfl, rfl⟩ := hq
  refine jw_i2l zd_L_place_12 ?_
  refine jw_lstN (r := 500) (c := 0) (fun _ => rfl) rfl (by decide) (n := 1) (by decide) (rl_m (by decide)) (by decide) zd_L_place_13 ?_
  refine jw_goto 25 zd_L_place_14 (by decide) ?_
  refine jw_iconst (v := 0) zd_L_place_25 (by decide) ?_
  exact jw_giret rfl ⟨q, rfl, rfl, rfl, rfl⟩ (Nat.le_of_ble_eq_true rfl) (Nat.le_of_ble_eq_true rfl) zd_L_place_26
