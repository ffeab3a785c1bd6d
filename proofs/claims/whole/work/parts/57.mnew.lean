/-! THE MODEL: unit and place (rows by wip/whole/gen/m9.py) -/
set_option maxRecDepth 100000 in
set_option maxHeartbeats 4000000 in
theorem kc_MunitA {l : Launch} (hls : l.stackTraces = false) {D : va_G} {w : wd_T} {S : Nat → Nat → Int32} {L : Nat → Nat → Int64} {G : Nat → Nat → Int32} {w0 : wd_T} (hR0 : md_R w0 G S) {x y v : Int32} (h : ob x 0 7 = true) : ct_M l D w zy_M_unit (Cond.code zy_M_unit zb_M_unit 3 (Option.some Jvm.ClassFile.FieldType.int)) ({ frames := 1, cells := 0, slots := 0, locals := 22 } : Room) [av_r 400, av_i x, av_i y] S L (po_M w0 1 v G S L) 0 0 := by
  have hs := sm_refl S
  have hR := hR0
  refine ct_intro hls (own := zn_M) (by decide) rfl (Nat.le_of_ble_eq_true rfl) ?_
  refine jd_aload_n zd_M_unit_0 rfl ?_
  refine jd_iload_n zd_M_unit_1 rfl ?_
  refine jd_iconst (v := 0) zd_M_unit_2 (by decide) ?_
  refine jd_bipush (v := 7) zd_M_unit_3 (by decide) ?_
  refine jd_callS (n := 3) (kc_MinF hls h) rfl zi_767 zi_768 zi_44 zi_769 (by decide +kernel) rfl rfl rfl (by decide) (Nat.le_of_ble_eq_true rfl) (by decide) zd_M_unit_5 (fun _ _ _ h => h.elim) (fun v S2 L2 hq => ?_)
  obtain ⟨rfl, rfl, rfl⟩ := hq
  refine jd_if_eq 21 zd_M_unit_8 (by decide) (fun _ => ?_) (fun h => absurd h (by decide))
  refine jd_iconst (v := 1) zd_M_unit_21 (by decide) ?_
  refine jd_goto 39 zd_M_unit_22 (by decide) ?_
  refine jd_put rfl rfl zl_M zp_M zm_M 0 (by decide) zi_680 rfl rfl rfl rfl rfl (Nat.le_of_ble_eq_true rfl) rfl (rl_m (by decide)) (by decide) zd_M_unit_39 ?_
  have hs := hs.fld (k := 0) (Or.inl rfl) (1 : Int32)
  have hc := cd_at hs
  have hR := md_sm hs hR0
  refine jd_aload_n zd_M_unit_42 rfl ?_
  refine jd_get rfl rfl zl_M 0 (by decide) zi_680 rfl rfl (rl_m (by decide)) (by decide) zd_M_unit_43 ?_
  rw [hc]
  refine jd_if_le 51 zd_M_unit_46 (by decide) (fun h => absurd h (by decide)) (fun _ => ?_)
  refine jd_iconst (v := 0) zd_M_unit_49 (by decide) ?_
  exact jd_iret rfl ⟨_, rfl, fun h => absurd h (by decide), hc, hR, sm_fr hs, sm_reflL _⟩ (by decide) (by decide) zd_M_unit_50
set_option maxRecDepth 100000 in
set_option maxHeartbeats 4000000 in
theorem kc_MunitB {l : Launch} (hls : l.stackTraces = false) {D : va_G} {w : wd_T} {S : Nat → Nat → Int32} {L : Nat → Nat → Int64} {G : Nat → Nat → Int32} {w0 : wd_T} (hR0 : md_R w0 G S) {x y v : Int32} (h : ob x 0 7 = false) (h2 : ob y 1 100 = true) : ct_M l D w zy_M_unit (Cond.code zy_M_unit zb_M_unit 3 (Option.some Jvm.ClassFile.FieldType.int)) ({ frames := 1, cells := 0, slots := 0, locals := 22 } : Room) [av_r 400, av_i x, av_i y] S L (po_M w0 1 v G S L) 0 0 := by
  have hs := sm_refl S
  have hR := hR0
  refine ct_intro hls (own := zn_M) (by decide) rfl (Nat.le_of_ble_eq_true rfl) ?_
  refine jd_aload_n zd_M_unit_0 rfl ?_
  refine jd_iload_n zd_M_unit_1 rfl ?_
  refine jd_iconst (v := 0) zd_M_unit_2 (by decide) ?_
  refine jd_bipush (v := 7) zd_M_unit_3 (by decide) ?_
  refine jd_callS (n := 3) (kc_MinT hls h) rfl zi_767 zi_768 zi_44 zi_769 (by decide +kernel) rfl rfl rfl (by decide) (Nat.le_of_ble_eq_true rfl) (by decide) zd_M_unit_5 (fun _ _ _ h => h.elim) (fun v S2 L2 hq => ?_)
  obtain ⟨rfl, rfl, rfl⟩ := hq
  refine jd_if_eq 21 zd_M_unit_8 (by decide) (fun h => absurd h (by decide)) (fun _ => ?_)
  refine jd_iload_n zd_M_unit_11 rfl ?_
  refine jd_iconst (v := 1) zd_M_unit_12 (by decide) ?_
  refine jd_bipush (v := 100) zd_M_unit_13 (by decide) ?_
  refine jd_callS (n := 3) (kc_MinF hls h2) rfl zi_767 zi_768 zi_44 zi_769 (by decide +kernel) rfl rfl rfl (by decide) (Nat.le_of_ble_eq_true rfl) (by decide) zd_M_unit_15 (fun _ _ _ h => h.elim) (fun v S2 L2 hq => ?_)
  obtain ⟨rfl, rfl, rfl⟩ := hq
  refine jd_if_ne 25 zd_M_unit_18 (by decide) (fun h => absurd h (by decide)) (fun _ => ?_)
  refine jd_iconst (v := 1) zd_M_unit_21 (by decide) ?_
  refine jd_goto 39 zd_M_unit_22 (by decide) ?_
  refine jd_put rfl rfl zl_M zp_M zm_M 0 (by decide) zi_680 rfl rfl rfl rfl rfl (Nat.le_of_ble_eq_true rfl) rfl (rl_m (by decide)) (by decide) zd_M_unit_39 ?_
  have hs := hs.fld (k := 0) (Or.inl rfl) (1 : Int32)
  have hc := cd_at hs
  have hR := md_sm hs hR0
  refine jd_aload_n zd_M_unit_42 rfl ?_
  refine jd_get rfl rfl zl_M 0 (by decide) zi_680 rfl rfl (rl_m (by decide)) (by decide) zd_M_unit_43 ?_
  rw [hc]
  refine jd_if_le 51 zd_M_unit_46 (by decide) (fun h => absurd h (by decide)) (fun _ => ?_)
  refine jd_iconst (v := 0) zd_M_unit_49 (by decide) ?_
  exact jd_iret rfl ⟨_, rfl, fun h => absurd h (by decide), hc, hR, sm_fr hs, sm_reflL _⟩ (by decide) (by decide) zd_M_unit_50
set_option maxRecDepth 100000 in
set_option maxHeartbeats 4000000 in
theorem kc_MunitC {l : Launch} (hls : l.stackTraces = false) {D : va_G} {w : wd_T} {S : Nat → Nat → Int32} {L : Nat → Nat → Int64} {G : Nat → Nat → Int32} {w0 : wd_T} (hR0 : md_R w0 G S) {x y v : Int32} (h : ob x 0 7 = false) (h2 : ob y 1 100 = false) (h3 : w0.2.2.1 = 12) : ct_M l D w zy_M_unit (Cond.code zy_M_unit zb_M_unit 3 (Option.some Jvm.ClassFile.FieldType.int)) ({ frames := 1, cells := 0, slots := 0, locals := 22 } : Room) [av_r 400, av_i x, av_i y] S L (po_M w0 2 v G S L) 0 0 := by
  have hs := sm_refl S
  have hR := hR0
  refine ct_intro hls (own := zn_M) (by decide) rfl (Nat.le_of_ble_eq_true rfl) ?_
  refine jd_aload_n zd_M_unit_0 rfl ?_
  refine jd_iload_n zd_M_unit_1 rfl ?_
  refine jd_iconst (v := 0) zd_M_unit_2 (by decide) ?_
  refine jd_bipush (v := 7) zd_M_unit_3 (by decide) ?_
  refine jd_callS (n := 3) (kc_MinT hls h) rfl zi_767 zi_768 zi_44 zi_769 (by decide +kernel) rfl rfl rfl (by decide) (Nat.le_of_ble_eq_true rfl) (by decide) zd_M_unit_5 (fun _ _ _ h => h.elim) (fun v S2 L2 hq => ?_)
  obtain ⟨rfl, rfl, rfl⟩ := hq
  refine jd_if_eq 21 zd_M_unit_8 (by decide) (fun h => absurd h (by decide)) (fun _ => ?_)
  refine jd_iload_n zd_M_unit_11 rfl ?_
  refine jd_iconst (v := 1) zd_M_unit_12 (by decide) ?_
  refine jd_bipush (v := 100) zd_M_unit_13 (by decide) ?_
  refine jd_callS (n := 3) (kc_MinT hls h2) rfl zi_767 zi_768 zi_44 zi_769 (by decide +kernel) rfl rfl rfl (by decide) (Nat.le_of_ble_eq_true rfl) (by decide) zd_M_unit_15 (fun _ _ _ h => h.elim) (fun v S2 L2 hq => ?_)
  obtain ⟨rfl, rfl, rfl⟩ := hq
  refine jd_if_ne 25 zd_M_unit_18 (by decide) (fun _ => ?_) (fun h => absurd h (by decide))
  refine jd_aload_n zd_M_unit_25 rfl ?_
  refine jd_get rfl rfl zl_M 1 (by decide) zi_681 rfl rfl (rl_m (by decide)) (by decide) zd_M_unit_26 ?_
  rw [hR.1.1, h3]
  refine jd_bipush (v := nI 12) zd_M_unit_29 (by decide) ?_
  refine jd_icmp_ne 38 zd_M_unit_31 (by decide) (fun h => absurd rfl h) (fun _ => ?_)
  refine jd_iconst (v := 2) zd_M_unit_34 (by decide) ?_
  refine jd_goto 39 zd_M_unit_35 (by decide) ?_
  refine jd_put rfl rfl zl_M zp_M zm_M 0 (by decide) zi_680 rfl rfl rfl rfl rfl (Nat.le_of_ble_eq_true rfl) rfl (rl_m (by decide)) (by decide) zd_M_unit_39 ?_
  have hs := hs.fld (k := 0) (Or.inl rfl) (2 : Int32)
  have hc := cd_at hs
  have hR := md_sm hs hR0
  refine jd_aload_n zd_M_unit_42 rfl ?_
  refine jd_get rfl rfl zl_M 0 (by decide) zi_680 rfl rfl (rl_m (by decide)) (by decide) zd_M_unit_43 ?_
  rw [hc]
  refine jd_if_le 51 zd_M_unit_46 (by decide) (fun h => absurd h (by decide)) (fun _ => ?_)
  refine jd_iconst (v := 0) zd_M_unit_49 (by decide) ?_
  exact jd_iret rfl ⟨_, rfl, fun h => absurd h (by decide), hc, hR, sm_fr hs, sm_reflL _⟩ (by decide) (by decide) zd_M_unit_50
set_option maxRecDepth 100000 in
set_option maxHeartbeats 4000000 in
theorem kc_MunitD {l : Launch} (hls : l.stackTraces = false) {D : va_G} {w : wd_T} {S : Nat → Nat → Int32} {L : Nat → Nat → Int64} {G : Nat → Nat → Int32} {w0 : wd_T} (hR0 : md_R w0 G S) {x y : Int32} {n : Nat} (hn : n < 12) {w1 : wd_T} (e0 : w0.2.2.1 = n) (e1 : w1.2.2.1 = n + 1) (e2 : w1.2.2.2 = w0.2.2.2) (h13 : w0.2.2.2 ≤ 12) (h : ob x 0 7 = false) (h2 : ob y 1 100 = false) : ct_M l D w zy_M_unit (Cond.code zy_M_unit zb_M_unit 3 (Option.some Jvm.ClassFile.FieldType.int)) ({ frames := 1, cells := 0, slots := 0, locals := 22 } : Room) [av_r 400, av_i x, av_i y] S L (po_M w1 0 (nI n) (nu_G n G x y) S L) 0 0 := by
  have hs := sm_refl S
  have hR := hR0
  have hn12 : ¬ nI n = nI 12 := fun z => by rw [nI_eq (by omega) (by omega)] at z; omega
  refine ct_intro hls (own := zn_M) (by decide) rfl (Nat.le_of_ble_eq_true rfl) ?_
  refine jd_aload_n zd_M_unit_0 rfl ?_
  refine jd_iload_n zd_M_unit_1 rfl ?_
  refine jd_iconst (v := 0) zd_M_unit_2 (by decide) ?_
  refine jd_bipush (v := 7) zd_M_unit_3 (by decide) ?_
  refine jd_callS (n := 3) (kc_MinT hls h) rfl zi_767 zi_768 zi_44 zi_769 (by decide +kernel) rfl rfl rfl (by decide) (Nat.le_of_ble_eq_true rfl) (by decide) zd_M_unit_5 (fun _ _ _ h => h.elim) (fun v S2 L2 hq => ?_)
  obtain ⟨rfl, rfl, rfl⟩ := hq
  refine jd_if_eq 21 zd_M_unit_8 (by decide) (fun h => absurd h (by decide)) (fun _ => ?_)
  refine jd_iload_n zd_M_unit_11 rfl ?_
  refine jd_iconst (v := 1) zd_M_unit_12 (by decide) ?_
  refine jd_bipush (v := 100) zd_M_unit_13 (by decide) ?_
  refine jd_callS (n := 3) (kc_MinT hls h2) rfl zi_767 zi_768 zi_44 zi_769 (by decide +kernel) rfl rfl rfl (by decide) (Nat.le_of_ble_eq_true rfl) (by decide) zd_M_unit_15 (fun _ _ _ h => h.elim) (fun v S2 L2 hq => ?_)
  obtain ⟨rfl, rfl, rfl⟩ := hq
  refine jd_if_ne 25 zd_M_unit_18 (by decide) (fun _ => ?_) (fun h => absurd h (by decide))
  refine jd_aload_n zd_M_unit_25 rfl ?_
  refine jd_get rfl rfl zl_M 1 (by decide) zi_681 rfl rfl (rl_m (by decide)) (by decide) zd_M_unit_26 ?_
  rw [hR.1.1, e0]
  refine jd_bipush (v := nI 12) zd_M_unit_29 (by decide) ?_
  refine jd_icmp_ne 38 zd_M_unit_31 (by decide) (fun _ => ?_) (fun h => absurd h hn12)
  refine jd_iconst (v := 0) zd_M_unit_38 (by decide) ?_
  refine jd_put rfl rfl zl_M zp_M zm_M 0 (by decide) zi_680 rfl rfl rfl rfl rfl (Nat.le_of_ble_eq_true rfl) rfl (rl_m (by decide)) (by decide) zd_M_unit_39 ?_
  have hs := hs.fld (k := 0) (Or.inl rfl) (0 : Int32)
  have hc := cd_at hs
  have hR := md_sm hs hR0
  refine jd_aload_n zd_M_unit_42 rfl ?_
  refine jd_get rfl rfl zl_M 0 (by decide) zi_680 rfl rfl (rl_m (by decide)) (by decide) zd_M_unit_43 ?_
  rw [hc]
  refine jd_if_le 51 zd_M_unit_46 (by decide) (fun _ => ?_) (fun h => absurd h (by decide))
  refine jd_aload_n zd_M_unit_51 rfl ?_
  refine jd_get rfl rfl zl_M 2 (by decide) zi_682 rfl rfl (rl_m (by decide)) (by decide) zd_M_unit_52 ?_
  refine jd_aload_n zd_M_unit_55 rfl ?_
  refine jd_get rfl rfl zl_M 1 (by decide) zi_681 rfl rfl (rl_m (by decide)) (by decide) zd_M_unit_56 ?_
  rw [hR.1.1, e0]
  refine jd_iload_n zd_M_unit_59 rfl ?_
  refine jd_istN (r := 403) (c := n) (fun _ => rfl) rfl (by omega) (n := 12) (by decide) (rl_m (by decide)) (by decide) zd_M_unit_60 ?_
  refine jd_aload_n zd_M_unit_61 rfl ?_
  refine jd_get rfl rfl zl_M 3 (by decide) zi_683 rfl rfl (rl_m (by decide)) (by decide) zd_M_unit_62 ?_
  refine jd_aload_n zd_M_unit_65 rfl ?_
  refine jd_get rfl rfl zl_M 1 (by decide) zi_681 rfl rfl (rl_m (by decide)) (by decide) zd_M_unit_66 ?_
  rw [va_up_ne _ _ (show (400 : Nat) ≠ _ by decide), hR.1.1, e0]
  refine jd_iload_n zd_M_unit_69 rfl ?_
  refine jd_istN (r := 404) (c := n) (fun _ => rfl) rfl (by omega) (n := 12) (by decide) (rl_m (by decide)) (by decide) zd_M_unit_70 ?_
  refine jd_aload_n zd_M_unit_71 rfl ?_
  refine jd_get rfl rfl zl_M 4 (by decide) zi_684 rfl rfl (rl_m (by decide)) (by decide) zd_M_unit_72 ?_
  refine jd_aload_n zd_M_unit_75 rfl ?_
  refine jd_get rfl rfl zl_M 1 (by decide) zi_681 rfl rfl (rl_m (by decide)) (by decide) zd_M_unit_76 ?_
  rw [va_up_ne _ _ (show (400 : Nat) ≠ _ by decide), va_up_ne _ _ (show (400 : Nat) ≠ _ by decide), hR.1.1, e0]
  refine jd_aload_n zd_M_unit_79 rfl ?_
  refine jd_get rfl rfl zl_M 1 (by decide) zi_681 rfl rfl (rl_m (by decide)) (by decide) zd_M_unit_80 ?_
  rw [va_up_ne _ _ (show (400 : Nat) ≠ _ by decide), va_up_ne _ _ (show (400 : Nat) ≠ _ by decide), hR.1.1, e0]
  refine jd_istN (r := 405) (c := n) (fun _ => rfl) rfl (by omega) (n := 12) (by decide) (rl_m (by decide)) (by decide) zd_M_unit_83 ?_
  refine jd_aload_n zd_M_unit_84 rfl ?_
  refine jd_get rfl rfl zl_M 5 (by decide) zi_685 rfl rfl (rl_m (by decide)) (by decide) zd_M_unit_85 ?_
  refine jd_aload_n zd_M_unit_88 rfl ?_
  refine jd_get rfl rfl zl_M 1 (by decide) zi_681 rfl rfl (rl_m (by decide)) (by decide) zd_M_unit_89 ?_
  rw [va_up_ne _ _ (show (400 : Nat) ≠ _ by decide), va_up_ne _ _ (show (400 : Nat) ≠ _ by decide), va_up_ne _ _ (show (400 : Nat) ≠ _ by decide), hR.1.1, e0]
  refine jd_iconst (v := (-1)) zd_M_unit_92 (by decide) ?_
  refine jd_istN (r := 406) (c := n) (fun _ => rfl) rfl (by omega) (n := 12) (by decide) (rl_m (by decide)) (by decide) zd_M_unit_93 ?_
  refine jd_aload_n zd_M_unit_94 rfl ?_
  refine jd_get rfl rfl zl_M 6 (by decide) zi_686 rfl rfl (rl_m (by decide)) (by decide) zd_M_unit_95 ?_
  refine jd_aload_n zd_M_unit_98 rfl ?_
  refine jd_get rfl rfl zl_M 1 (by decide) zi_681 rfl rfl (rl_m (by decide)) (by decide) zd_M_unit_99 ?_
  rw [va_up_ne _ _ (show (400 : Nat) ≠ _ by decide), va_up_ne _ _ (show (400 : Nat) ≠ _ by decide), va_up_ne _ _ (show (400 : Nat) ≠ _ by decide), va_up_ne _ _ (show (400 : Nat) ≠ _ by decide), hR.1.1, e0]
  refine jd_iconst (v := (-1)) zd_M_unit_102 (by decide) ?_
  refine jd_istN (r := 407) (c := n) (fun _ => rfl) rfl (by omega) (n := 12) (by decide) (rl_m (by decide)) (by decide) zd_M_unit_103 ?_
  refine jd_aload_n zd_M_unit_104 rfl ?_
  refine jd_dup zd_M_unit_105 rfl ?_
  refine jd_get rfl rfl zl_M 1 (by decide) zi_681 rfl rfl (rl_m (by decide)) (by decide) zd_M_unit_106 ?_
  rw [va_up_ne _ _ (show (400 : Nat) ≠ _ by decide), va_up_ne _ _ (show (400 : Nat) ≠ _ by decide), va_up_ne _ _ (show (400 : Nat) ≠ _ by decide), va_up_ne _ _ (show (400 : Nat) ≠ _ by decide), va_up_ne _ _ (show (400 : Nat) ≠ _ by decide), hR.1.1, e0]
  refine jd_iconst (v := 1) zd_M_unit_109 (by decide) ?_
  refine jd_iadd zd_M_unit_110 ?_
  refine jd_put rfl rfl zl_M zp_M zm_M 1 (by decide) zi_681 rfl rfl rfl rfl rfl (Nat.le_of_ble_eq_true rfl) rfl (rl_m (by decide)) (by decide) zd_M_unit_111 ?_
  refine jd_aload_n zd_M_unit_114 rfl ?_
  refine jd_get rfl rfl zl_M 1 (by decide) zi_681 rfl rfl (rl_m (by decide)) (by decide) zd_M_unit_115 ?_
  rw [va_up_self, pk_us, nI_1]
  refine jd_iconst (v := 1) zd_M_unit_118 (by decide) ?_
  refine jd_isub zd_M_unit_119 ?_
  rw [nI_pred]
  exact jd_iret rfl ⟨_, rfl, fun _ => rfl, by rw [va_up_self, pk_un (by decide), va_up_ne _ _ (show (400 : Nat) ≠ 407 by decide), va_up_ne _ _ (show (400 : Nat) ≠ 406 by decide), va_up_ne _ _ (show (400 : Nat) ≠ 405 by decide), va_up_ne _ _ (show (400 : Nat) ≠ 404 by decide), va_up_ne _ _ (show (400 : Nat) ≠ 403 by decide)]; exact hc, md_unit hn e0 e1 e2 h13 hR (fun r r1 r2 => by rw [va_up_ne _ _ r1, va_up_ne _ _ (show r ≠ 407 by omega), va_up_ne _ _ (show r ≠ 406 by omega), va_up_ne _ _ (show r ≠ 405 by omega), va_up_ne _ _ (show r ≠ 404 by omega), va_up_ne _ _ (show r ≠ 403 by omega)]) (by rw [va_up_self, va_up_ne _ _ (show (400 : Nat) ≠ 407 by decide), va_up_ne _ _ (show (400 : Nat) ≠ 406 by decide), va_up_ne _ _ (show (400 : Nat) ≠ 405 by decide), va_up_ne _ _ (show (400 : Nat) ≠ 404 by decide), va_up_ne _ _ (show (400 : Nat) ≠ 403 by decide)]) (by rw [va_up_ne _ _ (show (403 : Nat) ≠ 400 by decide), va_up_ne _ _ (show (403 : Nat) ≠ 407 by decide), va_up_ne _ _ (show (403 : Nat) ≠ 406 by decide), va_up_ne _ _ (show (403 : Nat) ≠ 405 by decide), va_up_ne _ _ (show (403 : Nat) ≠ 404 by decide), va_up_self]) (by rw [va_up_ne _ _ (show (404 : Nat) ≠ 400 by decide), va_up_ne _ _ (show (404 : Nat) ≠ 407 by decide), va_up_ne _ _ (show (404 : Nat) ≠ 406 by decide), va_up_ne _ _ (show (404 : Nat) ≠ 405 by decide), va_up_self, va_up_ne _ _ (show (404 : Nat) ≠ 403 by decide)]) (by rw [va_up_ne _ _ (show (405 : Nat) ≠ 400 by decide), va_up_ne _ _ (show (405 : Nat) ≠ 407 by decide), va_up_ne _ _ (show (405 : Nat) ≠ 406 by decide), va_up_self, va_up_ne _ _ (show (405 : Nat) ≠ 404 by decide), va_up_ne _ _ (show (405 : Nat) ≠ 403 by decide)]) (by rw [va_up_ne _ _ (show (406 : Nat) ≠ 400 by decide), va_up_ne _ _ (show (406 : Nat) ≠ 407 by decide), va_up_self, va_up_ne _ _ (show (406 : Nat) ≠ 405 by decide), va_up_ne _ _ (show (406 : Nat) ≠ 404 by decide), va_up_ne _ _ (show (406 : Nat) ≠ 403 by decide)]) (by rw [va_up_ne _ _ (show (407 : Nat) ≠ 400 by decide), va_up_self, va_up_ne _ _ (show (407 : Nat) ≠ 406 by decide), va_up_ne _ _ (show (407 : Nat) ≠ 405 by decide), va_up_ne _ _ (show (407 : Nat) ≠ 404 by decide), va_up_ne _ _ (show (407 : Nat) ≠ 403 by decide)]), (((((((sm_fr hs).up (by decide) (by decide) _).up (by decide) (by decide) _).up (by decide) (by decide) _).up (by decide) (by decide) _).up (by decide) (by decide) _).up (by decide) (by decide) _), sm_reflL _⟩ (by decide) (by decide) zd_M_unit_120
set_option maxRecDepth 100000 in
set_option maxHeartbeats 4000000 in
theorem kc_MplaceA {l : Launch} (hls : l.stackTraces = false) {D : va_G} {w : wd_T} {S : Nat → Nat → Int32} {L : Nat → Nat → Int64} {G : Nat → Nat → Int32} {w0 : wd_T} (hR0 : md_R w0 G S) {f z y x v : Int32}  (h0 : ob f 0 255 = true) : ct_M l D w zy_M_place (Cond.code zy_M_place zb_M_place 5 (Option.some Jvm.ClassFile.FieldType.int)) ({ frames := 1, cells := 0, slots := 0, locals := 22 } : Room) [av_r 400, av_i f, av_i z, av_i y, av_i x] S L (po_M w0 1 v G S L) 0 0 := by
  have hs := sm_refl S
  have hR := hR0
  refine ct_intro hls (own := zn_M) (by decide) rfl (Nat.le_of_ble_eq_true rfl) ?_
  refine jd_aload_n zd_M_place_0 rfl ?_
  refine jd_iload_n zd_M_place_1 rfl ?_
  refine jd_iconst (v := 0) zd_M_place_2 (by decide) ?_
  refine jd_sipush (v := 255) zd_M_place_3 (by decide) ?_
  refine jd_callS (n := 3) (kc_MinF hls h0) rfl zi_767 zi_768 zi_44 zi_769 (by decide +kernel) rfl rfl rfl (by decide) (Nat.le_of_ble_eq_true rfl) (by decide) zd_M_place_6 (fun _ _ _ h => h.elim) (fun v S2 L2 hq => ?_)
  obtain ⟨rfl, rfl, rfl⟩ := hq
  refine jd_if_eq 44 zd_M_place_9 (by decide) (fun _ => ?_) (fun h => absurd h (by decide))
  refine jd_iconst (v := 1) zd_M_place_44 (by decide) ?_
  refine jd_goto 62 zd_M_place_45 (by decide) ?_
  refine jd_put rfl rfl zl_M zp_M zm_M 0 (by decide) zi_680 rfl rfl rfl rfl rfl (Nat.le_of_ble_eq_true rfl) rfl (rl_m (by decide)) (by decide) zd_M_place_62 ?_
  have hs := hs.fld (k := 0) (Or.inl rfl) (1 : Int32)
  have hc := cd_at hs
  have hR := md_sm hs hR0
  refine jd_aload_n zd_M_place_65 rfl ?_
  refine jd_get rfl rfl zl_M 0 (by decide) zi_680 rfl rfl (rl_m (by decide)) (by decide) zd_M_place_66 ?_
  rw [hc]
  refine jd_if_le 74 zd_M_place_69 (by decide) (fun h => absurd h (by decide)) (fun _ => ?_)
  refine jd_iconst (v := 0) zd_M_place_72 (by decide) ?_
  exact jd_iret rfl ⟨_, rfl, fun h => absurd h (by decide), hc, hR, sm_fr hs, sm_reflL _⟩ (by decide) (by decide) zd_M_place_73
set_option maxRecDepth 100000 in
set_option maxHeartbeats 4000000 in
theorem kc_MplaceB {l : Launch} (hls : l.stackTraces = false) {D : va_G} {w : wd_T} {S : Nat → Nat → Int32} {L : Nat → Nat → Int64} {G : Nat → Nat → Int32} {w0 : wd_T} (hR0 : md_R w0 G S) {f z y x v : Int32} (h0 : ob f 0 255 = false) (h1 : ob z 0 3 = true) : ct_M l D w zy_M_place (Cond.code zy_M_place zb_M_place 5 (Option.some Jvm.ClassFile.FieldType.int)) ({ frames := 1, cells := 0, slots := 0, locals := 22 } : Room) [av_r 400, av_i f, av_i z, av_i y, av_i x] S L (po_M w0 1 v G S L) 0 0 := by
  have hs := sm_refl S
  have hR := hR0
  refine ct_intro hls (own := zn_M) (by decide) rfl (Nat.le_of_ble_eq_true rfl) ?_
  refine jd_aload_n zd_M_place_0 rfl ?_
  refine jd_iload_n zd_M_place_1 rfl ?_
  refine jd_iconst (v := 0) zd_M_place_2 (by decide) ?_
  refine jd_sipush (v := 255) zd_M_place_3 (by decide) ?_
  refine jd_callS (n := 3) (kc_MinT hls h0) rfl zi_767 zi_768 zi_44 zi_769 (by decide +kernel) rfl rfl rfl (by decide) (Nat.le_of_ble_eq_true rfl) (by decide) zd_M_place_6 (fun _ _ _ h => h.elim) (fun v S2 L2 hq => ?_)
  obtain ⟨rfl, rfl, rfl⟩ := hq
  refine jd_if_eq 44 zd_M_place_9 (by decide) (fun h => absurd h (by decide)) (fun _ => ?_)
  refine jd_iload_n zd_M_place_12 rfl ?_
  refine jd_iconst (v := 0) zd_M_place_13 (by decide) ?_
  refine jd_iconst (v := 3) zd_M_place_14 (by decide) ?_
  refine jd_callS (n := 3) (kc_MinF hls h1) rfl zi_767 zi_768 zi_44 zi_769 (by decide +kernel) rfl rfl rfl (by decide) (Nat.le_of_ble_eq_true rfl) (by decide) zd_M_place_15 (fun _ _ _ h => h.elim) (fun v S2 L2 hq => ?_)
  obtain ⟨rfl, rfl, rfl⟩ := hq
  refine jd_if_eq 44 zd_M_place_18 (by decide) (fun _ => ?_) (fun h => absurd h (by decide))
  refine jd_iconst (v := 1) zd_M_place_44 (by decide) ?_
  refine jd_goto 62 zd_M_place_45 (by decide) ?_
  refine jd_put rfl rfl zl_M zp_M zm_M 0 (by decide) zi_680 rfl rfl rfl rfl rfl (Nat.le_of_ble_eq_true rfl) rfl (rl_m (by decide)) (by decide) zd_M_place_62 ?_
  have hs := hs.fld (k := 0) (Or.inl rfl) (1 : Int32)
  have hc := cd_at hs
  have hR := md_sm hs hR0
  refine jd_aload_n zd_M_place_65 rfl ?_
  refine jd_get rfl rfl zl_M 0 (by decide) zi_680 rfl rfl (rl_m (by decide)) (by decide) zd_M_place_66 ?_
  rw [hc]
  refine jd_if_le 74 zd_M_place_69 (by decide) (fun h => absurd h (by decide)) (fun _ => ?_)
  refine jd_iconst (v := 0) zd_M_place_72 (by decide) ?_
  exact jd_iret rfl ⟨_, rfl, fun h => absurd h (by decide), hc, hR, sm_fr hs, sm_reflL _⟩ (by decide) (by decide) zd_M_place_73
set_option maxRecDepth 100000 in
set_option maxHeartbeats 4000000 in
theorem kc_MplaceC {l : Launch} (hls : l.stackTraces = false) {D : va_G} {w : wd_T} {S : Nat → Nat → Int32} {L : Nat → Nat → Int64} {G : Nat → Nat → Int32} {w0 : wd_T} (hR0 : md_R w0 G S) {f z y x v : Int32} (h0 : ob f 0 255 = false) (h1 : ob z 0 3 = false) (h2 : ob y 0 1000 = true) : ct_M l D w zy_M_place (Cond.code zy_M_place zb_M_place 5 (Option.some Jvm.ClassFile.FieldType.int)) ({ frames := 1, cells := 0, slots := 0, locals := 22 } : Room) [av_r 400, av_i f, av_i z, av_i y, av_i x] S L (po_M w0 1 v G S L) 0 0 := by
  have hs := sm_refl S
  have hR := hR0
  refine ct_intro hls (own := zn_M) (by decide) rfl (Nat.le_of_ble_eq_true rfl) ?_
  refine jd_aload_n zd_M_place_0 rfl ?_
  refine jd_iload_n zd_M_place_1 rfl ?_
  refine jd_iconst (v := 0) zd_M_place_2 (by decide) ?_
  refine jd_sipush (v := 255) zd_M_place_3 (by decide) ?_
  refine jd_callS (n := 3) (kc_MinT hls h0) rfl zi_767 zi_768 zi_44 zi_769 (by decide +kernel) rfl rfl rfl (by decide) (Nat.le_of_ble_eq_true rfl) (by decide) zd_M_place_6 (fun _ _ _ h => h.elim) (fun v S2 L2 hq => ?_)
  obtain ⟨rfl, rfl, rfl⟩ := hq
  refine jd_if_eq 44 zd_M_place_9 (by decide) (fun h => absurd h (by decide)) (fun _ => ?_)
  refine jd_iload_n zd_M_place_12 rfl ?_
  refine jd_iconst (v := 0) zd_M_place_13 (by decide) ?_
  refine jd_iconst (v := 3) zd_M_place_14 (by decide) ?_
  refine jd_callS (n := 3) (kc_MinT hls h1) rfl zi_767 zi_768 zi_44 zi_769 (by decide +kernel) rfl rfl rfl (by decide) (Nat.le_of_ble_eq_true rfl) (by decide) zd_M_place_15 (fun _ _ _ h => h.elim) (fun v S2 L2 hq => ?_)
  obtain ⟨rfl, rfl, rfl⟩ := hq
  refine jd_if_eq 44 zd_M_place_18 (by decide) (fun h => absurd h (by decide)) (fun _ => ?_)
  refine jd_iload_n zd_M_place_21 rfl ?_
  refine jd_iconst (v := 0) zd_M_place_22 (by decide) ?_
  refine jd_sipush (v := 1000) zd_M_place_23 (by decide) ?_
  refine jd_callS (n := 3) (kc_MinF hls h2) rfl zi_767 zi_768 zi_44 zi_769 (by decide +kernel) rfl rfl rfl (by decide) (Nat.le_of_ble_eq_true rfl) (by decide) zd_M_place_26 (fun _ _ _ h => h.elim) (fun v S2 L2 hq => ?_)
  obtain ⟨rfl, rfl, rfl⟩ := hq
  refine jd_if_eq 44 zd_M_place_29 (by decide) (fun _ => ?_) (fun h => absurd h (by decide))
  refine jd_iconst (v := 1) zd_M_place_44 (by decide) ?_
  refine jd_goto 62 zd_M_place_45 (by decide) ?_
  refine jd_put rfl rfl zl_M zp_M zm_M 0 (by decide) zi_680 rfl rfl rfl rfl rfl (Nat.le_of_ble_eq_true rfl) rfl (rl_m (by decide)) (by decide) zd_M_place_62 ?_
  have hs := hs.fld (k := 0) (Or.inl rfl) (1 : Int32)
  have hc := cd_at hs
  have hR := md_sm hs hR0
  refine jd_aload_n zd_M_place_65 rfl ?_
  refine jd_get rfl rfl zl_M 0 (by decide) zi_680 rfl rfl (rl_m (by decide)) (by decide) zd_M_place_66 ?_
  rw [hc]
  refine jd_if_le 74 zd_M_place_69 (by decide) (fun h => absurd h (by decide)) (fun _ => ?_)
  refine jd_iconst (v := 0) zd_M_place_72 (by decide) ?_
  exact jd_iret rfl ⟨_, rfl, fun h => absurd h (by decide), hc, hR, sm_fr hs, sm_reflL _⟩ (by decide) (by decide) zd_M_place_73
set_option maxRecDepth 100000 in
set_option maxHeartbeats 4000000 in
theorem kc_MplaceD {l : Launch} (hls : l.stackTraces = false) {D : va_G} {w : wd_T} {S : Nat → Nat → Int32} {L : Nat → Nat → Int64} {G : Nat → Nat → Int32} {w0 : wd_T} (hR0 : md_R w0 G S) {f z y x v : Int32} (h0 : ob f 0 255 = false) (h1 : ob z 0 3 = false) (h2 : ob y 0 1000 = false) (h3 : ob x 0 1000 = true) : ct_M l D w zy_M_place (Cond.code zy_M_place zb_M_place 5 (Option.some Jvm.ClassFile.FieldType.int)) ({ frames := 1, cells := 0, slots := 0, locals := 22 } : Room) [av_r 400, av_i f, av_i z, av_i y, av_i x] S L (po_M w0 1 v G S L) 0 0 := by
  have hs := sm_refl S
  have hR := hR0
  refine ct_intro hls (own := zn_M) (by decide) rfl (Nat.le_of_ble_eq_true rfl) ?_
  refine jd_aload_n zd_M_place_0 rfl ?_
  refine jd_iload_n zd_M_place_1 rfl ?_
  refine jd_iconst (v := 0) zd_M_place_2 (by decide) ?_
  refine jd_sipush (v := 255) zd_M_place_3 (by decide) ?_
  refine jd_callS (n := 3) (kc_MinT hls h0) rfl zi_767 zi_768 zi_44 zi_769 (by decide +kernel) rfl rfl rfl (by decide) (Nat.le_of_ble_eq_true rfl) (by decide) zd_M_place_6 (fun _ _ _ h => h.elim) (fun v S2 L2 hq => ?_)
  obtain ⟨rfl, rfl, rfl⟩ := hq
  refine jd_if_eq 44 zd_M_place_9 (by decide) (fun h => absurd h (by decide)) (fun _ => ?_)
  refine jd_iload_n zd_M_place_12 rfl ?_
  refine jd_iconst (v := 0) zd_M_place_13 (by decide) ?_
  refine jd_iconst (v := 3) zd_M_place_14 (by decide) ?_
  refine jd_callS (n := 3) (kc_MinT hls h1) rfl zi_767 zi_768 zi_44 zi_769 (by decide +kernel) rfl rfl rfl (by decide) (Nat.le_of_ble_eq_true rfl) (by decide) zd_M_place_15 (fun _ _ _ h => h.elim) (fun v S2 L2 hq => ?_)
  obtain ⟨rfl, rfl, rfl⟩ := hq
  refine jd_if_eq 44 zd_M_place_18 (by decide) (fun h => absurd h (by decide)) (fun _ => ?_)
  refine jd_iload_n zd_M_place_21 rfl ?_
  refine jd_iconst (v := 0) zd_M_place_22 (by decide) ?_
  refine jd_sipush (v := 1000) zd_M_place_23 (by decide) ?_
  refine jd_callS (n := 3) (kc_MinT hls h2) rfl zi_767 zi_768 zi_44 zi_769 (by decide +kernel) rfl rfl rfl (by decide) (Nat.le_of_ble_eq_true rfl) (by decide) zd_M_place_26 (fun _ _ _ h => h.elim) (fun v S2 L2 hq => ?_)
  obtain ⟨rfl, rfl, rfl⟩ := hq
  refine jd_if_eq 44 zd_M_place_29 (by decide) (fun h => absurd h (by decide)) (fun _ => ?_)
  refine jd_iload zd_M_place_32 rfl ?_
  refine jd_iconst (v := 0) zd_M_place_34 (by decide) ?_
  refine jd_sipush (v := 1000) zd_M_place_35 (by decide) ?_
  refine jd_callS (n := 3) (kc_MinF hls h3) rfl zi_767 zi_768 zi_44 zi_769 (by decide +kernel) rfl rfl rfl (by decide) (Nat.le_of_ble_eq_true rfl) (by decide) zd_M_place_38 (fun _ _ _ h => h.elim) (fun v S2 L2 hq => ?_)
  obtain ⟨rfl, rfl, rfl⟩ := hq
  refine jd_if_ne 48 zd_M_place_41 (by decide) (fun h => absurd h (by decide)) (fun _ => ?_)
  refine jd_iconst (v := 1) zd_M_place_44 (by decide) ?_
  refine jd_goto 62 zd_M_place_45 (by decide) ?_
  refine jd_put rfl rfl zl_M zp_M zm_M 0 (by decide) zi_680 rfl rfl rfl rfl rfl (Nat.le_of_ble_eq_true rfl) rfl (rl_m (by decide)) (by decide) zd_M_place_62 ?_
  have hs := hs.fld (k := 0) (Or.inl rfl) (1 : Int32)
  have hc := cd_at hs
  have hR := md_sm hs hR0
  refine jd_aload_n zd_M_place_65 rfl ?_
  refine jd_get rfl rfl zl_M 0 (by decide) zi_680 rfl rfl (rl_m (by decide)) (by decide) zd_M_place_66 ?_
  rw [hc]
  refine jd_if_le 74 zd_M_place_69 (by decide) (fun h => absurd h (by decide)) (fun _ => ?_)
  refine jd_iconst (v := 0) zd_M_place_72 (by decide) ?_
  exact jd_iret rfl ⟨_, rfl, fun h => absurd h (by decide), hc, hR, sm_fr hs, sm_reflL _⟩ (by decide) (by decide) zd_M_place_73
set_option maxRecDepth 100000 in
set_option maxHeartbeats 4000000 in
theorem kc_MplaceE {l : Launch} (hls : l.stackTraces = false) {D : va_G} {w : wd_T} {S : Nat → Nat → Int32} {L : Nat → Nat → Int64} {G : Nat → Nat → Int32} {w0 : wd_T} (hR0 : md_R w0 G S) {f z y x v : Int32} (h0 : ob f 0 255 = false) (h1 : ob z 0 3 = false) (h2 : ob y 0 1000 = false) (h3 : ob x 0 1000 = false) (h9 : w0.2.2.2 = 12) : ct_M l D w zy_M_place (Cond.code zy_M_place zb_M_place 5 (Option.some Jvm.ClassFile.FieldType.int)) ({ frames := 1, cells := 0, slots := 0, locals := 22 } : Room) [av_r 400, av_i f, av_i z, av_i y, av_i x] S L (po_M w0 2 v G S L) 0 0 := by
  have hs := sm_refl S
  have hR := hR0
  refine ct_intro hls (own := zn_M) (by decide) rfl (Nat.le_of_ble_eq_true rfl) ?_
  refine jd_aload_n zd_M_place_0 rfl ?_
  refine jd_iload_n zd_M_place_1 rfl ?_
  refine jd_iconst (v := 0) zd_M_place_2 (by decide) ?_
  refine jd_sipush (v := 255) zd_M_place_3 (by decide) ?_
  refine jd_callS (n := 3) (kc_MinT hls h0) rfl zi_767 zi_768 zi_44 zi_769 (by decide +kernel) rfl rfl rfl (by decide) (Nat.le_of_ble_eq_true rfl) (by decide) zd_M_place_6 (fun _ _ _ h => h.elim) (fun v S2 L2 hq => ?_)
  obtain ⟨rfl, rfl, rfl⟩ := hq
  refine jd_if_eq 44 zd_M_place_9 (by decide) (fun h => absurd h (by decide)) (fun _ => ?_)
  refine jd_iload_n zd_M_place_12 rfl ?_
  refine jd_iconst (v := 0) zd_M_place_13 (by decide) ?_
  refine jd_iconst (v := 3) zd_M_place_14 (by decide) ?_
  refine jd_callS (n := 3) (kc_MinT hls h1) rfl zi_767 zi_768 zi_44 zi_769 (by decide +kernel) rfl rfl rfl (by decide) (Nat.le_of_ble_eq_true rfl) (by decide) zd_M_place_15 (fun _ _ _ h => h.elim) (fun v S2 L2 hq => ?_)
  obtain ⟨rfl, rfl, rfl⟩ := hq
  refine jd_if_eq 44 zd_M_place_18 (by decide) (fun h => absurd h (by decide)) (fun _ => ?_)
  refine jd_iload_n zd_M_place_21 rfl ?_
  refine jd_iconst (v := 0) zd_M_place_22 (by decide) ?_
  refine jd_sipush (v := 1000) zd_M_place_23 (by decide) ?_
  refine jd_callS (n := 3) (kc_MinT hls h2) rfl zi_767 zi_768 zi_44 zi_769 (by decide +kernel) rfl rfl rfl (by decide) (Nat.le_of_ble_eq_true rfl) (by decide) zd_M_place_26 (fun _ _ _ h => h.elim) (fun v S2 L2 hq => ?_)
  obtain ⟨rfl, rfl, rfl⟩ := hq
  refine jd_if_eq 44 zd_M_place_29 (by decide) (fun h => absurd h (by decide)) (fun _ => ?_)
  refine jd_iload zd_M_place_32 rfl ?_
  refine jd_iconst (v := 0) zd_M_place_34 (by decide) ?_
  refine jd_sipush (v := 1000) zd_M_place_35 (by decide) ?_
  refine jd_callS (n := 3) (kc_MinT hls h3) rfl zi_767 zi_768 zi_44 zi_769 (by decide +kernel) rfl rfl rfl (by decide) (Nat.le_of_ble_eq_true rfl) (by decide) zd_M_place_38 (fun _ _ _ h => h.elim) (fun v S2 L2 hq => ?_)
  obtain ⟨rfl, rfl, rfl⟩ := hq
  refine jd_if_ne 48 zd_M_place_41 (by decide) (fun _ => ?_) (fun h => absurd h (by decide))
  refine jd_aload_n zd_M_place_48 rfl ?_
  refine jd_get rfl rfl zl_M 10 (by decide) zi_690 rfl rfl (rl_m (by decide)) (by decide) zd_M_place_49 ?_
  rw [hR.1.2.1, h9]
  refine jd_bipush (v := nI 12) zd_M_place_52 (by decide) ?_
  refine jd_icmp_ne 61 zd_M_place_54 (by decide) (fun h => absurd rfl h) (fun _ => ?_)
  refine jd_iconst (v := 2) zd_M_place_57 (by decide) ?_
  refine jd_goto 62 zd_M_place_58 (by decide) ?_
  refine jd_put rfl rfl zl_M zp_M zm_M 0 (by decide) zi_680 rfl rfl rfl rfl rfl (Nat.le_of_ble_eq_true rfl) rfl (rl_m (by decide)) (by decide) zd_M_place_62 ?_
  have hs := hs.fld (k := 0) (Or.inl rfl) (2 : Int32)
  have hc := cd_at hs
  have hR := md_sm hs hR0
  refine jd_aload_n zd_M_place_65 rfl ?_
  refine jd_get rfl rfl zl_M 0 (by decide) zi_680 rfl rfl (rl_m (by decide)) (by decide) zd_M_place_66 ?_
  rw [hc]
  refine jd_if_le 74 zd_M_place_69 (by decide) (fun h => absurd h (by decide)) (fun _ => ?_)
  refine jd_iconst (v := 0) zd_M_place_72 (by decide) ?_
  exact jd_iret rfl ⟨_, rfl, fun h => absurd h (by decide), hc, hR, sm_fr hs, sm_reflL _⟩ (by decide) (by decide) zd_M_place_73
set_option maxRecDepth 100000 in
set_option maxHeartbeats 4000000 in
theorem kc_MplaceF {l : Launch} (hls : l.stackTraces = false) {D : va_G} {w : wd_T} {S : Nat → Nat → Int32} {L : Nat → Nat → Int64} {G : Nat → Nat → Int32} {w0 : wd_T} (hR0 : md_R w0 G S) {f z y x : Int32} {n : Nat} (hn : n < 12) {w1 : wd_T} (e0 : w0.2.2.2 = n) (e1 : w1.2.2.2 = n + 1) (e2 : w1.2.2.1 = w0.2.2.1) (h12 : w0.2.2.1 ≤ 12) (h0 : ob f 0 255 = false) (h1 : ob z 0 3 = false) (h2 : ob y 0 1000 = false) (h3 : ob x 0 1000 = false) : ct_M l D w zy_M_place (Cond.code zy_M_place zb_M_place 5 (Option.some Jvm.ClassFile.FieldType.int)) ({ frames := 1, cells := 0, slots := 0, locals := 22 } : Room) [av_r 400, av_i f, av_i z, av_i y, av_i x] S L (po_M w1 0 (nI n) (np_G n G f z y x) S L) 0 0 := by
  have hs := sm_refl S
  have hR := hR0
  have hn12 : ¬ nI n = nI 12 := fun z => by rw [nI_eq (by omega) (by omega)] at z; omega
  refine ct_intro hls (own := zn_M) (by decide) rfl (Nat.le_of_ble_eq_true rfl) ?_
  refine jd_aload_n zd_M_place_0 rfl ?_
  refine jd_iload_n zd_M_place_1 rfl ?_
  refine jd_iconst (v := 0) zd_M_place_2 (by decide) ?_
  refine jd_sipush (v := 255) zd_M_place_3 (by decide) ?_
  refine jd_callS (n := 3) (kc_MinT hls h0) rfl zi_767 zi_768 zi_44 zi_769 (by decide +kernel) rfl rfl rfl (by decide) (Nat.le_of_ble_eq_true rfl) (by decide) zd_M_place_6 (fun _ _ _ h => h.elim) (fun v S2 L2 hq => ?_)
  obtain ⟨rfl, rfl, rfl⟩ := hq
  refine jd_if_eq 44 zd_M_place_9 (by decide) (fun h => absurd h (by decide)) (fun _ => ?_)
  refine jd_iload_n zd_M_place_12 rfl ?_
  refine jd_iconst (v := 0) zd_M_place_13 (by decide) ?_
  refine jd_iconst (v := 3) zd_M_place_14 (by decide) ?_
  refine jd_callS (n := 3) (kc_MinT hls h1) rfl zi_767 zi_768 zi_44 zi_769 (by decide +kernel) rfl rfl rfl (by decide) (Nat.le_of_ble_eq_true rfl) (by decide) zd_M_place_15 (fun _ _ _ h => h.elim) (fun v S2 L2 hq => ?_)
  obtain ⟨rfl, rfl, rfl⟩ := hq
  refine jd_if_eq 44 zd_M_place_18 (by decide) (fun h => absurd h (by decide)) (fun _ => ?_)
  refine jd_iload_n zd_M_place_21 rfl ?_
  refine jd_iconst (v := 0) zd_M_place_22 (by decide) ?_
  refine jd_sipush (v := 1000) zd_M_place_23 (by decide) ?_
  refine jd_callS (n := 3) (kc_MinT hls h2) rfl zi_767 zi_768 zi_44 zi_769 (by decide +kernel) rfl rfl rfl (by decide) (Nat.le_of_ble_eq_true rfl) (by decide) zd_M_place_26 (fun _ _ _ h => h.elim) (fun v S2 L2 hq => ?_)
  obtain ⟨rfl, rfl, rfl⟩ := hq
  refine jd_if_eq 44 zd_M_place_29 (by decide) (fun h => absurd h (by decide)) (fun _ => ?_)
  refine jd_iload zd_M_place_32 rfl ?_
  refine jd_iconst (v := 0) zd_M_place_34 (by decide) ?_
  refine jd_sipush (v := 1000) zd_M_place_35 (by decide) ?_
  refine jd_callS (n := 3) (kc_MinT hls h3) rfl zi_767 zi_768 zi_44 zi_769 (by decide +kernel) rfl rfl rfl (by decide) (Nat.le_of_ble_eq_true rfl) (by decide) zd_M_place_38 (fun _ _ _ h => h.elim) (fun v S2 L2 hq => ?_)
  obtain ⟨rfl, rfl, rfl⟩ := hq
  refine jd_if_ne 48 zd_M_place_41 (by decide) (fun _ => ?_) (fun h => absurd h (by decide))
  refine jd_aload_n zd_M_place_48 rfl ?_
  refine jd_get rfl rfl zl_M 10 (by decide) zi_690 rfl rfl (rl_m (by decide)) (by decide) zd_M_place_49 ?_
  rw [hR.1.2.1, e0]
  refine jd_bipush (v := nI 12) zd_M_place_52 (by decide) ?_
  refine jd_icmp_ne 61 zd_M_place_54 (by decide) (fun _ => ?_) (fun h => absurd h hn12)
  refine jd_iconst (v := 0) zd_M_place_61 (by decide) ?_
  refine jd_put rfl rfl zl_M zp_M zm_M 0 (by decide) zi_680 rfl rfl rfl rfl rfl (Nat.le_of_ble_eq_true rfl) rfl (rl_m (by decide)) (by decide) zd_M_place_62 ?_
  have hs := hs.fld (k := 0) (Or.inl rfl) (0 : Int32)
  have hc := cd_at hs
  have hR := md_sm hs hR0
  refine jd_aload_n zd_M_place_65 rfl ?_
  refine jd_get rfl rfl zl_M 0 (by decide) zi_680 rfl rfl (rl_m (by decide)) (by decide) zd_M_place_66 ?_
  rw [hc]
  refine jd_if_le 74 zd_M_place_69 (by decide) (fun _ => ?_) (fun h => absurd h (by decide))
  refine jd_aload_n zd_M_place_74 rfl ?_
  refine jd_get rfl rfl zl_M 11 (by decide) zi_691 rfl rfl (rl_m (by decide)) (by decide) zd_M_place_75 ?_
  refine jd_aload_n zd_M_place_78 rfl ?_
  refine jd_get rfl rfl zl_M 10 (by decide) zi_690 rfl rfl (rl_m (by decide)) (by decide) zd_M_place_79 ?_
  rw [hR.1.2.1, e0]
  refine jd_iload_n zd_M_place_82 rfl ?_
  refine jd_istN (r := 412) (c := n) (fun _ => rfl) rfl (by omega) (n := 12) (by decide) (rl_m (by decide)) (by decide) zd_M_place_83 ?_
  refine jd_aload_n zd_M_place_84 rfl ?_
  refine jd_get rfl rfl zl_M 12 (by decide) zi_692 rfl rfl (rl_m (by decide)) (by decide) zd_M_place_85 ?_
  refine jd_aload_n zd_M_place_88 rfl ?_
  refine jd_get rfl rfl zl_M 10 (by decide) zi_690 rfl rfl (rl_m (by decide)) (by decide) zd_M_place_89 ?_
  rw [va_up_ne _ _ (show (400 : Nat) ≠ _ by decide), hR.1.2.1, e0]
  refine jd_iload_n zd_M_place_92 rfl ?_
  refine jd_istN (r := 413) (c := n) (fun _ => rfl) rfl (by omega) (n := 12) (by decide) (rl_m (by decide)) (by decide) zd_M_place_93 ?_
  refine jd_aload_n zd_M_place_94 rfl ?_
  refine jd_get rfl rfl zl_M 13 (by decide) zi_693 rfl rfl (rl_m (by decide)) (by decide) zd_M_place_95 ?_
  refine jd_aload_n zd_M_place_98 rfl ?_
  refine jd_get rfl rfl zl_M 10 (by decide) zi_690 rfl rfl (rl_m (by decide)) (by decide) zd_M_place_99 ?_
  rw [va_up_ne _ _ (show (400 : Nat) ≠ _ by decide), va_up_ne _ _ (show (400 : Nat) ≠ _ by decide), hR.1.2.1, e0]
  refine jd_iload_n zd_M_place_102 rfl ?_
  refine jd_istN (r := 414) (c := n) (fun _ => rfl) rfl (by omega) (n := 12) (by decide) (rl_m (by decide)) (by decide) zd_M_place_103 ?_
  refine jd_aload_n zd_M_place_104 rfl ?_
  refine jd_get rfl rfl zl_M 14 (by decide) zi_694 rfl rfl (rl_m (by decide)) (by decide) zd_M_place_105 ?_
  refine jd_aload_n zd_M_place_108 rfl ?_
  refine jd_get rfl rfl zl_M 10 (by decide) zi_690 rfl rfl (rl_m (by decide)) (by decide) zd_M_place_109 ?_
  rw [va_up_ne _ _ (show (400 : Nat) ≠ _ by decide), va_up_ne _ _ (show (400 : Nat) ≠ _ by decide), va_up_ne _ _ (show (400 : Nat) ≠ _ by decide), hR.1.2.1, e0]
  refine jd_iload zd_M_place_112 rfl ?_
  refine jd_istN (r := 415) (c := n) (fun _ => rfl) rfl (by omega) (n := 12) (by decide) (rl_m (by decide)) (by decide) zd_M_place_114 ?_
  refine jd_aload_n zd_M_place_115 rfl ?_
  refine jd_dup zd_M_place_116 rfl ?_
  refine jd_get rfl rfl zl_M 10 (by decide) zi_690 rfl rfl (rl_m (by decide)) (by decide) zd_M_place_117 ?_
  rw [va_up_ne _ _ (show (400 : Nat) ≠ _ by decide), va_up_ne _ _ (show (400 : Nat) ≠ _ by decide), va_up_ne _ _ (show (400 : Nat) ≠ _ by decide), va_up_ne _ _ (show (400 : Nat) ≠ _ by decide), hR.1.2.1, e0]
  refine jd_iconst (v := 1) zd_M_place_120 (by decide) ?_
  refine jd_iadd zd_M_place_121 ?_
  refine jd_put rfl rfl zl_M zp_M zm_M 10 (by decide) zi_690 rfl rfl rfl rfl rfl (Nat.le_of_ble_eq_true rfl) rfl (rl_m (by decide)) (by decide) zd_M_place_122 ?_
  refine jd_aload_n zd_M_place_125 rfl ?_
  refine jd_get rfl rfl zl_M 10 (by decide) zi_690 rfl rfl (rl_m (by decide)) (by decide) zd_M_place_126 ?_
  rw [va_up_self, pk_us, nI_1]
  refine jd_iconst (v := 1) zd_M_place_129 (by decide) ?_
  refine jd_isub zd_M_place_130 ?_
  rw [nI_pred]
  exact jd_iret rfl ⟨_, rfl, fun _ => rfl, by rw [va_up_self, pk_un (by decide), va_up_ne _ _ (show (400 : Nat) ≠ 415 by decide), va_up_ne _ _ (show (400 : Nat) ≠ 414 by decide), va_up_ne _ _ (show (400 : Nat) ≠ 413 by decide), va_up_ne _ _ (show (400 : Nat) ≠ 412 by decide)]; exact hc, md_place hn e0 e1 e2 h12 hR (fun r r1 r2 => by rw [va_up_ne _ _ r1, va_up_ne _ _ (show r ≠ 415 by omega), va_up_ne _ _ (show r ≠ 414 by omega), va_up_ne _ _ (show r ≠ 413 by omega), va_up_ne _ _ (show r ≠ 412 by omega)]) (by rw [va_up_self, va_up_ne _ _ (show (400 : Nat) ≠ 415 by decide), va_up_ne _ _ (show (400 : Nat) ≠ 414 by decide), va_up_ne _ _ (show (400 : Nat) ≠ 413 by decide), va_up_ne _ _ (show (400 : Nat) ≠ 412 by decide)]) (by rw [va_up_ne _ _ (show (412 : Nat) ≠ 400 by decide), va_up_ne _ _ (show (412 : Nat) ≠ 415 by decide), va_up_ne _ _ (show (412 : Nat) ≠ 414 by decide), va_up_ne _ _ (show (412 : Nat) ≠ 413 by decide), va_up_self]) (by rw [va_up_ne _ _ (show (413 : Nat) ≠ 400 by decide), va_up_ne _ _ (show (413 : Nat) ≠ 415 by decide), va_up_ne _ _ (show (413 : Nat) ≠ 414 by decide), va_up_self, va_up_ne _ _ (show (413 : Nat) ≠ 412 by decide)]) (by rw [va_up_ne _ _ (show (414 : Nat) ≠ 400 by decide), va_up_ne _ _ (show (414 : Nat) ≠ 415 by decide), va_up_self, va_up_ne _ _ (show (414 : Nat) ≠ 413 by decide), va_up_ne _ _ (show (414 : Nat) ≠ 412 by decide)]) (by rw [va_up_ne _ _ (show (415 : Nat) ≠ 400 by decide), va_up_self, va_up_ne _ _ (show (415 : Nat) ≠ 414 by decide), va_up_ne _ _ (show (415 : Nat) ≠ 413 by decide), va_up_ne _ _ (show (415 : Nat) ≠ 412 by decide)]), ((((((sm_fr hs).up (by decide) (by decide) _).up (by decide) (by decide) _).up (by decide) (by decide) _).up (by decide) (by decide) _).up (by decide) (by decide) _), sm_reflL _⟩ (by decide) (by decide) zd_M_place_131
