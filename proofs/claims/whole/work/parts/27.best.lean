/-! THE BEST PLAN: its methods (rows by wip/whole/gen/b1.py) -/
set_option maxRecDepth 100000 in
set_option maxHeartbeats 4000000 in
theorem kl_clear1 {l : Launch} (hls : l.stackTraces = false) {D : va_G} {w : wd_T} {S : Nat → Nat → Int32} {L0 : Nat → Nat → Int64} {Qp : jd_P} (hnext : ∀ M, sw_L L0 M → M 5 8 = 815730721 → (∀ i, i < 9 → M 8 i = 0) → jd_J l D w zn_B zb_B_clear 2 (Option.none : Option Jvm.ClassFile.FieldType) [] ({ frames := 0, cells := 0, slots := 0, locals := 0 } : Room) 0 0 Qp 0 0 33 [(0, av_r 5), (1, av_i (nI 9))] [] S M) : ∀ (k c : Nat), c ≤ 9 → 9 < c + k → ∀ M, sw_L L0 M → M 5 8 = 815730721 → (∀ i, i < c → M 8 i = 0) → jd_J l D w zn_B zb_B_clear 2 (Option.none : Option Jvm.ClassFile.FieldType) [] ({ frames := 0, cells := 0, slots := 0, locals := 0 } : Room) 0 0 Qp 0 0 14 [(0, av_r 5), (1, av_i (nI c))] [] S M := by
  intro k
  induction k with
  | zero => intro c h1 h2; omega
  | succ k ih =>
    intro c hc hk M hM h58 hz
    refine jd_iload_n zd_B_clear_14 rfl ?_
    refine jd_bipush (v := nI 8) zd_B_clear_15 (by decide) ?_
    refine jd_icmp_gt 33 zd_B_clear_17 (by decide) (fun h_17 => ?_) (fun h_17 => ?_)
    · have e_c := cb_end (by decide) hc h_17
      subst e_c
      exact jd_sub [(0, av_r 5), (1, av_i (nI 9))] ⟨rfl, rfl, trivial⟩ (hnext M hM h58 hz)
    · have hc2 := cb_on (by decide) hc h_17
      refine jd_aload_n zd_B_clear_20 rfl ?_
      refine jd_get rfl rfl zl_B 1 (by decide) zi_113 rfl rfl rfl (by decide) zd_B_clear_21 ?_
      refine jd_iload_n zd_B_clear_24 rfl ?_
      refine jd_lconst (v := 0) zd_B_clear_25 (by decide) ?_
      refine jd_lstN (r := 8) (c := c) (fun _ => rfl) rfl (by omega) (n := 9) (by decide) rfl (by decide) zd_B_clear_26 ?_
      refine jd_iinc (v := nI (c + 1)) zd_B_clear_27 rfl (nI_inc c) (by decide) ?_
      refine jd_goto 14 zd_B_clear_30 (by decide) ?_
      exact jd_sub [(0, av_r 5), (1, av_i (nI (c + 1)))] ⟨rfl, rfl, trivial⟩ (ih (c + 1) (by omega) (by omega) _ (hM.up (by decide) _) (by rw [va_up_ne _ _ (by decide)]; exact h58) (ul_up (P := fun _ x => x = 0) hz rfl))
set_option maxRecDepth 100000 in
set_option maxHeartbeats 4000000 in
theorem kl_clear2 {l : Launch} (hls : l.stackTraces = false) {D : va_G} {w : wd_T} {S0 : Nat → Nat → Int32} {L0 : Nat → Nat → Int64} {Qp : jd_P} (hQ : ∀ T M, (sw_S S0 T ∧ T 5 7 = 0 ∧ ∀ i, i < 21 → T 10 i = 0) → (sw_L L0 M ∧ M 5 8 = 815730721 ∧ (∀ i, i < 9 → M 8 i = 0) ∧ ∀ i, i < 21 → M 9 i = 0) → Qp.1 none T M) : ∀ (k c : Nat), c ≤ 21 → 21 < c + k → ∀ T M, (sw_S S0 T ∧ T 5 7 = 0 ∧ ∀ i, i < c → T 10 i = 0) → (sw_L L0 M ∧ M 5 8 = 815730721 ∧ (∀ i, i < 9 → M 8 i = 0) ∧ ∀ i, i < c → M 9 i = 0) → jd_J l D w zn_B zb_B_clear 2 (Option.none : Option Jvm.ClassFile.FieldType) [] ({ frames := 0, cells := 0, slots := 0, locals := 0 } : Room) 0 0 Qp 0 0 35 [(0, av_r 5), (1, av_i (nI c))] [] T M := by
  intro k
  induction k with
  | zero => intro c h1 h2; omega
  | succ k ih =>
    intro c hc hk T M hT hM
    refine jd_iload_n zd_B_clear_35 rfl ?_
    refine jd_bipush (v := nI 20) zd_B_clear_36 (by decide) ?_
    refine jd_icmp_gt 61 zd_B_clear_38 (by decide) (fun h_38 => ?_) (fun h_38 => ?_)
    · have e_c := cb_end (by decide) hc h_38
      subst e_c
      exact jd_vret rfl (hQ T M hT hM) (by decide) (by decide) zd_B_clear_61
    · have hc2 := cb_on (by decide) hc h_38
      obtain ⟨t1, t2, t3⟩ := hT
      obtain ⟨m1, m2, m3, m4⟩ := hM
      refine jd_aload_n zd_B_clear_41 rfl ?_
      refine jd_get rfl rfl zl_B 2 (by decide) zi_114 rfl rfl rfl (by decide) zd_B_clear_42 ?_
      refine jd_iload_n zd_B_clear_45 rfl ?_
      refine jd_lconst (v := 0) zd_B_clear_46 (by decide) ?_
      refine jd_lstN (r := 9) (c := c) (fun _ => rfl) rfl (by omega) (n := 21) (by decide) rfl (by decide) zd_B_clear_47 ?_
      refine jd_aload_n zd_B_clear_48 rfl ?_
      refine jd_get rfl rfl zl_B 3 (by decide) zi_115 rfl rfl rfl (by decide) zd_B_clear_49 ?_
      refine jd_iload_n zd_B_clear_52 rfl ?_
      refine jd_iconst (v := 0) zd_B_clear_53 (by decide) ?_
      refine jd_istN (r := 10) (c := c) (fun _ => rfl) rfl (by omega) (n := 21) (by decide) rfl (by decide) zd_B_clear_54 ?_
      refine jd_iinc (v := nI (c + 1)) zd_B_clear_55 rfl (nI_inc c) (by decide) ?_
      refine jd_goto 35 zd_B_clear_58 (by decide) ?_
      exact jd_sub [(0, av_r 5), (1, av_i (nI (c + 1)))] ⟨rfl, rfl, trivial⟩ (ih (c + 1) (by omega) (by omega) _ _ ⟨t1.up (by decide) (by decide) _, by rw [va_up_ne _ _ (by decide)]; exact t2, us_up (P := fun _ x => x = 0) t3 rfl⟩ ⟨m1.up (by decide) _, by rw [va_up_ne _ _ (by decide)]; exact m2, by rw [va_up_ne _ _ (by decide)]; exact m3, ul_up (P := fun _ x => x = 0) m4 rfl⟩)
def po_cl (S : Nat → Nat → Int32) (L : Nat → Nat → Int64) : jd_P := (fun v S' L' => v = none ∧ bp_cl S S' L L', fun _ _ _ => False)
set_option maxRecDepth 100000 in
set_option maxHeartbeats 4000000 in
theorem kc_Bclear {l : Launch} (hls : l.stackTraces = false) {D : va_G} {w : wd_T} {S : Nat → Nat → Int32} {L : Nat → Nat → Int64}  : ct_M l D w zy_B_clear (Cond.code zy_B_clear zb_B_clear 2 (Option.none : Option Jvm.ClassFile.FieldType)) ({ frames := 0, cells := 0, slots := 0, locals := 0 } : Room) [av_r 5] S L (po_cl S L) 0 0 := by
  refine ct_intro hls (own := zn_B) (by decide) rfl (Nat.le_of_ble_eq_true rfl) ?_
  refine jd_aload_n zd_B_clear_0 rfl ?_
  refine jd_iconst (v := 0) zd_B_clear_1 (by decide) ?_
  refine jd_put rfl rfl zl_B zp_B zm_B 7 (by decide) zi_119 rfl rfl rfl rfl rfl (Nat.le_of_ble_eq_true rfl) rfl rfl (by decide) zd_B_clear_2 ?_
  refine jd_aload_n zd_B_clear_5 rfl ?_
  refine jd_ldc2 zi_523 zd_B_clear_6 ?_
  refine jd_putL rfl rfl zl_B zp_B zm_B 8 (by decide) zi_120 rfl rfl rfl rfl rfl (Nat.le_of_ble_eq_true rfl) rfl rfl (by decide) zd_B_clear_9 ?_
  refine jd_iconst (v := 0) zd_B_clear_12 (by decide) ?_
  refine jd_istore_n zd_B_clear_13 (by decide) ?_
  refine jd_sub [(0, av_r 5), (1, av_i (nI 0))] ⟨rfl, rfl, trivial⟩ (kl_clear1 (L0 := L) hls (fun M hM h58 hz => ?_) 10 0 (by omega) (by omega) _ ((sw_reflL L).up (by decide) _) (by rw [va_up_self]; exact pk_uLs) (fun i hi => by omega))
  refine jd_iconst (v := 0) zd_B_clear_33 (by decide) ?_
  refine jd_istore_n zd_B_clear_34 (by decide) ?_
  exact jd_sub [(0, av_r 5), (1, av_i (nI 0))] ⟨rfl, rfl, trivial⟩ (kl_clear2 (S0 := S) (L0 := L) (Qp := po_cl S L) hls (fun T M hT hM => ⟨rfl, hT.1, hM.1, hT.2.1, hM.2.1, hM.2.2.1, hM.2.2.2, hT.2.2⟩) 22 0 (by omega) (by omega) _ _ ⟨(sw_refl S).up (by decide) (by decide) _, by rw [va_up_self]; rfl, fun i hi => by omega⟩ ⟨hM, h58, hz, fun i hi => by omega⟩)
set_option maxRecDepth 100000 in
set_option maxHeartbeats 4000000 in
theorem kl_addGroup {l : Launch} (hls : l.stackTraces = false) {D : va_G} {w : wd_T} {S : Nat → Nat → Int32} {L : Nat → Nat → Int64} {r : Nat} (hr : r < 8) {Qp : jd_P} (hQ : Qp.1 none (va_up S 5 (upd (S 5) 7 (nI (r + 1)))) (va_up (va_up L 5 (vp_updL (L 5) 8 (L 5 8 / 13))) (14 + (r + 1)) (bp_ag (L (14 + (r + 1))) (L 5 8 / 13) 21))) : ∀ (k c : Nat), c ≤ 21 → 21 < c + k → 1 ≤ c → jd_J l D w zn_B zb_B_addGroup 2 (Option.none : Option Jvm.ClassFile.FieldType) [] ({ frames := 0, cells := 0, slots := 0, locals := 0 } : Room) 0 0 Qp 0 0 34 [(0, av_r 5), (1, av_i (nI c))] [] (va_up S 5 (upd (S 5) 7 (nI (r + 1)))) (va_up (va_up L 5 (vp_updL (L 5) 8 (L 5 8 / 13))) (14 + (r + 1)) (bp_ag (L (14 + (r + 1))) (L 5 8 / 13) c)) := by
  intro k
  induction k with
  | zero => intro c h1 h2; omega
  | succ k ih =>
    intro c hc hk h1c
    refine jd_iload_n zd_B_addGroup_34 rfl ?_
    refine jd_bipush (v := nI 20) zd_B_addGroup_35 (by decide) ?_
    refine jd_icmp_gt 81 zd_B_addGroup_37 (by decide) (fun h_37 => ?_) (fun h_37 => ?_)
    · have e_c := cb_end (by decide) hc h_37
      subst e_c
      exact jd_vret rfl hQ (by decide) (by decide) zd_B_addGroup_81
    · have hc2 := cb_on (by decide) hc h_37
      refine jd_aload_n zd_B_addGroup_40 rfl ?_
      refine jd_get rfl rfl zl_B 0 (by decide) zi_112 rfl rfl rfl (by decide) zd_B_addGroup_41 ?_
      refine jd_aload_n zd_B_addGroup_44 rfl ?_
      refine jd_get rfl rfl zl_B 7 (by decide) zi_119 rfl rfl rfl (by decide) zd_B_addGroup_45 ?_
      rw [va_up_self]
      simp only [upd, if_true]
      refine jd_row rfl (show r + 1 < 9 by omega) zd_B_addGroup_48 ?_
      refine jd_iload_n zd_B_addGroup_49 rfl ?_
      refine jd_iload_n zd_B_addGroup_50 rfl ?_
      refine jd_bipush (v := nI 12) zd_B_addGroup_51 (by decide) ?_
      refine jd_icmp_gt 62 zd_B_addGroup_53 (by decide) (fun h_53 => ?_) (fun h_53 => ?_)
      · refine jd_ldc2 zi_534 zd_B_addGroup_62 ?_
        refine jd_ldc2 zi_535 zd_B_addGroup_65 ?_
        refine jd_aload_n zd_B_addGroup_68 rfl ?_
        refine jd_get rfl rfl zl_B 8 (by decide) zi_120 rfl rfl rfl (by decide) zd_B_addGroup_69 ?_
        rw [va_up_ne _ _ (show (5 : Nat) ≠ 14 + (r + 1) by omega), va_up_self, pk_uLs]
        refine jd_lmul zd_B_addGroup_72 ?_
        refine jd_ladd zd_B_addGroup_73 ?_
        refine jd_lstN (c := c) (fun _ => ac_R (by omega)) rfl (by omega) (by decide) (rl_R (by omega)) (by omega) zd_B_addGroup_74 ?_
        rw [va_up_self, bx_uu, bp_ag_at h1c (by rw [if_neg (by rw [nI_ltI (by omega) (by omega)] at h_53; omega)])]
        refine jd_iinc (v := nI (c + 1)) zd_B_addGroup_75 rfl (nI_inc c) (by decide) ?_
        refine jd_goto 34 zd_B_addGroup_78 (by decide) ?_
        exact jd_sub [(0, av_r 5), (1, av_i (nI (c + 1)))] ⟨rfl, rfl, trivial⟩ (ih (c + 1) (by omega) (by omega) (by omega))
      · refine jd_ldc2 zi_533 zd_B_addGroup_56 ?_
        refine jd_goto 74 zd_B_addGroup_59 (by decide) ?_
        refine jd_lstN (c := c) (fun _ => ac_R (by omega)) rfl (by omega) (by decide) (rl_R (by omega)) (by omega) zd_B_addGroup_74 ?_
        rw [va_up_self, bx_uu, bp_ag_at h1c (by rw [if_pos (by rw [nI_ltI (by omega) (by omega)] at h_53; omega)])]
        refine jd_iinc (v := nI (c + 1)) zd_B_addGroup_75 rfl (nI_inc c) (by decide) ?_
        refine jd_goto 34 zd_B_addGroup_78 (by decide) ?_
        exact jd_sub [(0, av_r 5), (1, av_i (nI (c + 1)))] ⟨rfl, rfl, trivial⟩ (ih (c + 1) (by omega) (by omega) (by omega))
def po_SL (S : Nat → Nat → Int32) (L : Nat → Nat → Int64) : jd_P := (fun v S' L' => v = none ∧ S = S' ∧ L = L', fun _ _ _ => False)
theorem va_up_ne_self {L : Nat → Nat → Int64} {r : Nat} {row : Nat → Int64} : va_up (va_up L 5 row) (14 + (r + 1)) (L (14 + (r + 1))) = va_up L 5 row := by
  funext q
  by_cases e : q = 14 + (r + 1)
  · subst e; rw [va_up_self, va_up_ne _ _ (by omega)]
  · rw [va_up_ne _ _ e]
set_option maxRecDepth 100000 in
set_option maxHeartbeats 4000000 in
theorem kc_addGroup {l : Launch} (hls : l.stackTraces = false) {D : va_G} {w : wd_T} {S : Nat → Nat → Int32} {L : Nat → Nat → Int64} {r : Nat} (hr : r < 8) (h57 : S 5 7 = nI r) : ct_M l D w zy_B_addGroup (Cond.code zy_B_addGroup zb_B_addGroup 2 (Option.none : Option Jvm.ClassFile.FieldType)) ({ frames := 0, cells := 0, slots := 0, locals := 0 } : Room) [av_r 5] S L (po_SL (va_up S 5 (upd (S 5) 7 (nI (r + 1)))) (va_up (va_up L 5 (vp_updL (L 5) 8 (L 5 8 / 13))) (14 + (r + 1)) (bp_ag (L (14 + (r + 1))) (L 5 8 / 13) 21))) 0 0 := by
  refine ct_intro hls (own := zn_B) (by decide) rfl (Nat.le_of_ble_eq_true rfl) ?_
  refine jd_aload_n zd_B_addGroup_0 rfl ?_
  refine jd_get rfl rfl zl_B 7 (by decide) zi_119 rfl rfl rfl (by decide) zd_B_addGroup_1 ?_
  rw [h57]
  refine jd_bipush (v := nI 8) zd_B_addGroup_4 (by decide) ?_
  refine jd_icmp_lt 10 zd_B_addGroup_6 (by decide) (fun h_6 => ?_) (fun h_6 => ?_)
  · refine jd_aload_n zd_B_addGroup_10 rfl ?_
    refine jd_dup zd_B_addGroup_11 rfl ?_
    refine jd_get rfl rfl zl_B 7 (by decide) zi_119 rfl rfl rfl (by decide) zd_B_addGroup_12 ?_
    rw [h57]
    refine jd_iconst (v := 1) zd_B_addGroup_15 (by decide) ?_
    refine jd_iadd zd_B_addGroup_16 ?_
    rw [nI_1]
    refine jd_put rfl rfl zl_B zp_B zm_B 7 (by decide) zi_119 rfl rfl rfl rfl rfl (Nat.le_of_ble_eq_true rfl) rfl rfl (by decide) zd_B_addGroup_17 ?_
    refine jd_aload_n zd_B_addGroup_20 rfl ?_
    refine jd_dup zd_B_addGroup_21 rfl ?_
    refine jd_get rfl rfl zl_B 8 (by decide) zi_120 rfl rfl rfl (by decide) zd_B_addGroup_22 ?_
    refine jd_ldc2 zi_532 zd_B_addGroup_25 ?_
    refine jd_ldiv zd_B_addGroup_28 (by decide) ?_
    refine jd_putL rfl rfl zl_B zp_B zm_B 8 (by decide) zi_120 rfl rfl rfl rfl rfl (Nat.le_of_ble_eq_true rfl) rfl rfl (by decide) zd_B_addGroup_29 ?_
    refine jd_iconst (v := 1) zd_B_addGroup_32 (by decide) ?_
    refine jd_istore_n zd_B_addGroup_33 (by decide) ?_
    refine jd_eqL (L' := (va_up (va_up L 5 (vp_updL (L 5) 8 (L 5 8 / 13))) (14 + (r + 1)) (bp_ag (L (14 + (r + 1))) (L 5 8 / 13) 1))) (by rw [bp_ag_1]; exact (va_up_ne_self).symm) ?_
    exact jd_sub [(0, av_r 5), (1, av_i (nI 1))] ⟨rfl, rfl, trivial⟩ (kl_addGroup (Qp := po_SL (va_up S 5 (upd (S 5) 7 (nI (r + 1)))) (va_up (va_up L 5 (vp_updL (L 5) 8 (L 5 8 / 13))) (14 + (r + 1)) (bp_ag (L (14 + (r + 1))) (L 5 8 / 13) 21))) hls hr ⟨rfl, rfl, rfl⟩ 22 1 (by omega) (by omega) (by omega))
  · exact absurd (nI_lt hr (by decide)) h_6
set_option maxRecDepth 100000 in
set_option maxHeartbeats 4000000 in
theorem kc_offer {l : Launch} (hls : l.stackTraces = false) {D : va_G} {w : wd_T} {S : Nat → Nat → Int32} {L : Nat → Nat → Int64} {r : Nat} (hr : r < 9) (h57 : S 5 7 = nI r) {p : Nat} (hp : p < 12) (x : Int32) : ct_M l D w zy_B_offer (Cond.code zy_B_offer zb_B_offer 3 (Option.none : Option Jvm.ClassFile.FieldType)) ({ frames := 0, cells := 0, slots := 0, locals := 0 } : Room) [av_r 5, av_i (nI p), av_i x] S L (po_SL S (va_up L (14 + r) (vp_updL (L (14 + r)) (p + 1) (x.toInt64 * 815730721 + (nI p).toInt64 * L 5 8)))) 0 0 := by
  refine ct_intro hls (own := zn_B) (by decide) rfl (Nat.le_of_ble_eq_true rfl) ?_
  refine jd_aload_n zd_B_offer_0 rfl ?_
  refine jd_get rfl rfl zl_B 0 (by decide) zi_112 rfl rfl rfl (by decide) zd_B_offer_1 ?_
  refine jd_aload_n zd_B_offer_4 rfl ?_
  refine jd_get rfl rfl zl_B 7 (by decide) zi_119 rfl rfl rfl (by decide) zd_B_offer_5 ?_
  rw [h57]
  refine jd_row rfl hr zd_B_offer_8 ?_
  refine jd_iload_n zd_B_offer_9 rfl ?_
  refine jd_iconst (v := 1) zd_B_offer_10 (by decide) ?_
  refine jd_iadd zd_B_offer_11 ?_
  rw [nI_1]
  refine jd_iload_n zd_B_offer_12 rfl ?_
  refine jd_i2l zd_B_offer_13 ?_
  refine jd_ldc2 zi_523 zd_B_offer_14 ?_
  refine jd_lmul zd_B_offer_17 ?_
  refine jd_iload_n zd_B_offer_18 rfl ?_
  refine jd_i2l zd_B_offer_19 ?_
  refine jd_aload_n zd_B_offer_20 rfl ?_
  refine jd_get rfl rfl zl_B 8 (by decide) zi_120 rfl rfl rfl (by decide) zd_B_offer_21 ?_
  refine jd_lmul zd_B_offer_24 ?_
  refine jd_ladd zd_B_offer_25 ?_
  refine jd_lstN (c := p + 1) (fun _ => ac_R hr) rfl (by omega) (by decide) (rl_R hr) (by omega) zd_B_offer_26 ?_
  exact jd_vret rfl ⟨rfl, rfl, rfl⟩ (by decide) (by decide) zd_B_offer_27
set_option maxRecDepth 100000 in
set_option maxHeartbeats 4000000 in
theorem kl_placeGiven {l : Launch} (hls : l.stackTraces = false) {D : va_G} {w : wd_T} {S : Nat → Nat → Int32} {L : Nat → Nat → Int64} (r : Int32) {Qp : jd_P}  : ∀ (k c : Nat), c ≤ 13 → 13 < c + k → 1 ≤ c → Qp.1 (some (av_i (bp_pg S r (13 - c) c))) S L → jd_J l D w zn_B zb_B_placeGiven 3 (Option.some Jvm.ClassFile.FieldType.int) [] ({ frames := 0, cells := 0, slots := 0, locals := 0 } : Room) 0 0 Qp 0 0 2 [(0, av_r 5), (1, av_i r), (2, av_i (nI c))] [] S L := by
  intro k
  induction k with
  | zero => intro c h1 h2; omega
  | succ k ih =>
    intro c hc hk h1c hQ
    refine jd_iload_n zd_B_placeGiven_2 rfl ?_
    refine jd_bipush (v := nI 12) zd_B_placeGiven_3 (by decide) ?_
    refine jd_icmp_gt 28 zd_B_placeGiven_5 (by decide) (fun h_5 => ?_) (fun h_5 => ?_)
    · have e_c := cb_end (by decide) hc h_5
      subst e_c
      refine jd_iconst (v := (-1)) zd_B_placeGiven_28 (by decide) ?_
      exact jd_iret rfl hQ (by decide) (by decide) zd_B_placeGiven_29
    · have hc2 := cb_on (by decide) hc h_5
      have e_k : 13 - c = (13 - (c + 1)) + 1 := by omega
      rw [e_k] at hQ
      simp only [bp_pg] at hQ
      refine jd_aload_n zd_B_placeGiven_8 rfl ?_
      refine jd_get rfl rfl zl_B 3 (by decide) zi_115 rfl rfl rfl (by decide) zd_B_placeGiven_9 ?_
      refine jd_iload_n zd_B_placeGiven_12 rfl ?_
      refine jd_ildN (r := 10) (c := c) rfl rfl (by omega) (n := 21) (by decide) rfl (by decide) zd_B_placeGiven_13 ?_
      refine jd_iload_n zd_B_placeGiven_14 rfl ?_
      refine jd_icmp_ne 22 zd_B_placeGiven_15 (by decide) (fun h_15 => ?_) (fun h_15 => ?_)
      · rw [if_neg h_15] at hQ
        refine jd_iinc (v := nI (c + 1)) zd_B_placeGiven_22 rfl (nI_inc c) (by decide) ?_
        refine jd_goto 2 zd_B_placeGiven_25 (by decide) ?_
        exact jd_sub [(0, av_r 5), (1, av_i r), (2, av_i (nI (c + 1)))] ⟨rfl, rfl, rfl, trivial⟩ (ih (c + 1) (by omega) (by omega) (by omega) hQ)
      · rw [if_pos h_15] at hQ
        refine jd_iload_n zd_B_placeGiven_18 rfl ?_
        refine jd_iconst (v := 1) zd_B_placeGiven_19 (by decide) ?_
        refine jd_isub zd_B_placeGiven_20 ?_
        exact jd_iret rfl hQ (by decide) (by decide) zd_B_placeGiven_21
set_option maxRecDepth 100000 in
set_option maxHeartbeats 4000000 in
theorem kc_placeGiven {l : Launch} (hls : l.stackTraces = false) {D : va_G} {w : wd_T} {S : Nat → Nat → Int32} {L : Nat → Nat → Int64} (r : Int32) : ct_M l D w zy_B_placeGiven (Cond.code zy_B_placeGiven zb_B_placeGiven 3 (Option.some Jvm.ClassFile.FieldType.int)) ({ frames := 0, cells := 0, slots := 0, locals := 0 } : Room) [av_r 5, av_i r] S L (po_i (bp_pg S r 12 1) S L) 0 0 := by
  refine ct_intro hls (own := zn_B) (by decide) rfl (Nat.le_of_ble_eq_true rfl) ?_
  refine jd_iconst (v := 1) zd_B_placeGiven_0 (by decide) ?_
  refine jd_istore_n zd_B_placeGiven_1 (by decide) ?_
  exact jd_sub [(0, av_r 5), (1, av_i r), (2, av_i (nI 1))] ⟨rfl, rfl, rfl, trivial⟩ (kl_placeGiven (Qp := po_i (bp_pg S r 12 1) S L) hls r 14 1 (by omega) (by omega) (by omega) ⟨rfl, rfl, rfl⟩)
set_option maxRecDepth 100000 in
set_option maxHeartbeats 4000000 in
theorem kl_measure {l : Launch} (hls : l.stackTraces = false) {D : va_G} {w : wd_T} {S : Nat → Nat → Int32} {L : Nat → Nat → Int64} {row : Nat} (hrow : row ≤ 8) (f : Nat) (hr12 : 14 + row ≠ 12) {Qp : jd_P} (hQ : Qp.1 none (va_up S 11 (bp_w S L row f 21)) (va_up L 12 (bp_d S L row 21))) : ∀ (k c : Nat), c ≤ 21 → 21 < c + k → 1 ≤ c → jd_J l D w zn_B zb_B_measureFrom 6 (Option.none : Option Jvm.ClassFile.FieldType) [] ({ frames := 0, cells := 0, slots := 0, locals := 0 } : Room) 0 0 Qp 0 0 9 [(0, av_r 5), (1, av_i (nI f)), (2, av_i (nI row)), (3, av_i (nI c))] [] (va_up S 11 (bp_w S L row f c)) (va_up L 12 (bp_d S L row c)) := by
  intro k
  induction k with
  | zero => intro c h1 h2; omega
  | succ k ih =>
    intro c hc hk h1c
    refine jd_iload_n zd_B_measureFrom_9 rfl ?_
    refine jd_bipush (v := nI 20) zd_B_measureFrom_10 (by decide) ?_
    refine jd_icmp_gt 81 zd_B_measureFrom_12 (by decide) (fun h_12 => ?_) (fun h_12 => ?_)
    · have e_c := cb_end (by decide) hc h_12
      subst e_c
      exact jd_vret rfl hQ (by decide) (by decide) zd_B_measureFrom_81
    · have hc2 := cb_on (by decide) hc h_12
      refine jd_aload_n zd_B_measureFrom_15 rfl ?_
      refine jd_get rfl rfl zl_B 6 (by decide) zi_118 rfl rfl rfl (by decide) zd_B_measureFrom_16 ?_
      refine jd_iload_n zd_B_measureFrom_19 rfl ?_
      refine jd_zldN (r := 13) (c := c) rfl rfl (by omega) (n := 21) (by decide) rfl (by decide) zd_B_measureFrom_20 ?_
      rw [va_up_ne _ _ (show (13 : Nat) ≠ 11 by decide)]
      refine jd_if_ne 75 zd_B_measureFrom_21 (by decide) (fun h_21 => ?_) (fun h_21 => ?_)
      · refine jd_iinc (v := nI (c + 1)) zd_B_measureFrom_75 rfl (nI_inc c) (by decide) ?_
        refine jd_goto 9 zd_B_measureFrom_78 (by decide) ?_
        rw [bp_wN (f := f) h1c (fun q => h_21 q.1), bp_dN h1c (fun q => h_21 q.1)]
        exact jd_sub [(0, av_r 5), (1, av_i (nI f)), (2, av_i (nI row)), (3, av_i (nI (c + 1)))] ⟨rfl, rfl, rfl, rfl, trivial⟩ (ih (c + 1) (by omega) (by omega) (by omega))
      · refine jd_aload_n zd_B_measureFrom_24 rfl ?_
        refine jd_get rfl rfl zl_B 0 (by decide) zi_112 rfl rfl rfl (by decide) zd_B_measureFrom_25 ?_
        refine jd_iload_n zd_B_measureFrom_28 rfl ?_
        refine jd_row rfl (show row < 9 by omega) zd_B_measureFrom_29 ?_
        refine jd_iload_n zd_B_measureFrom_30 rfl ?_
        refine jd_lldN (c := c) (ac_R (by omega)) rfl (by omega) (by decide) (rl_R (by omega)) (by omega) zd_B_measureFrom_31 ?_
        rw [va_up_ne _ _ hr12]
        refine jd_aload_n zd_B_measureFrom_32 rfl ?_
        refine jd_get rfl rfl zl_B 1 (by decide) zi_113 rfl rfl rfl (by decide) zd_B_measureFrom_33 ?_
        refine jd_iload_n zd_B_measureFrom_36 rfl ?_
        refine jd_lldN (r := 8) (c := row) rfl rfl (by omega) (n := 9) (by decide) rfl (by decide) zd_B_measureFrom_37 ?_
        rw [va_up_ne _ _ (show (8 : Nat) ≠ 12 by decide)]
        refine jd_lsub zd_B_measureFrom_38 ?_
        refine jd_aload_n zd_B_measureFrom_39 rfl ?_
        refine jd_get rfl rfl zl_B 2 (by decide) zi_114 rfl rfl rfl (by decide) zd_B_measureFrom_40 ?_
        refine jd_iload_n zd_B_measureFrom_43 rfl ?_
        refine jd_lldN (r := 9) (c := c) rfl rfl (by omega) (n := 21) (by decide) rfl (by decide) zd_B_measureFrom_44 ?_
        rw [va_up_ne _ _ (show (9 : Nat) ≠ 12 by decide)]
        refine jd_lsub zd_B_measureFrom_45 ?_
        rw [show L (14 + row) c - L 8 row - L 9 c = bp_far L row c from rfl]
        refine jd_lstore zd_B_measureFrom_46 (by decide) ?_
        refine jd_lload zd_B_measureFrom_48 rfl ?_
        refine jd_aload_n zd_B_measureFrom_50 rfl ?_
        refine jd_get rfl rfl zl_B 5 (by decide) zi_117 rfl rfl rfl (by decide) zd_B_measureFrom_51 ?_
        refine jd_iload_n zd_B_measureFrom_54 rfl ?_
        refine jd_lldN (r := 12) (c := c) rfl rfl (by omega) (n := 21) (by decide) rfl (by decide) zd_B_measureFrom_55 ?_
        rw [va_up_self, bp_d_at]
        refine jd_lcmp zd_B_measureFrom_56 ?_
        refine jd_if_ge 75 zd_B_measureFrom_57 (by decide) (fun h_57 => ?_) (fun h_57 => ?_)
        · refine jd_iinc (v := nI (c + 1)) zd_B_measureFrom_75 rfl (nI_inc c) (by decide) ?_
          refine jd_goto 9 zd_B_measureFrom_78 (by decide) ?_
          rw [bp_wN (f := f) h1c (fun q => absurd q.2 (Int64.not_lt.mpr ((lg_cmp_ge _ _).mp h_57))), bp_dN h1c (fun q => absurd q.2 (Int64.not_lt.mpr ((lg_cmp_ge _ _).mp h_57)))]
          exact jd_sub [(0, av_r 5), (1, av_i (nI f)), (2, av_i (nI row)), (3, av_i (nI (c + 1)))] ⟨rfl, rfl, rfl, rfl, trivial⟩ (ih (c + 1) (by omega) (by omega) (by omega))
        · have h_f := Int64.not_le.mp (fun q => h_57 ((lg_cmp_ge _ _).mpr q))
          refine jd_aload_n zd_B_measureFrom_60 rfl ?_
          refine jd_get rfl rfl zl_B 5 (by decide) zi_117 rfl rfl rfl (by decide) zd_B_measureFrom_61 ?_
          refine jd_iload_n zd_B_measureFrom_64 rfl ?_
          refine jd_lload zd_B_measureFrom_65 rfl ?_
          refine jd_lstN (r := 12) (c := c) (fun _ => rfl) rfl (by omega) (n := 21) (by decide) rfl (by decide) zd_B_measureFrom_67 ?_
          rw [va_up_self, bx_uu, bp_dY h1c h_21 h_f]
          refine jd_aload_n zd_B_measureFrom_68 rfl ?_
          refine jd_get rfl rfl zl_B 4 (by decide) zi_116 rfl rfl rfl (by decide) zd_B_measureFrom_69 ?_
          refine jd_iload_n zd_B_measureFrom_72 rfl ?_
          refine jd_iload_n zd_B_measureFrom_73 rfl ?_
          refine jd_istN (r := 11) (c := c) (fun _ => rfl) rfl (by omega) (n := 21) (by decide) rfl (by decide) zd_B_measureFrom_74 ?_
          rw [va_up_self, bx_uu, bp_wY h1c h_21 h_f]
          refine jd_iinc (v := nI (c + 1)) zd_B_measureFrom_75 rfl (nI_inc c) (by decide) ?_
          refine jd_goto 9 zd_B_measureFrom_78 (by decide) ?_
          exact jd_sub [(0, av_r 5), (1, av_i (nI f)), (2, av_i (nI row)), (3, av_i (nI (c + 1)))] ⟨rfl, rfl, rfl, rfl, trivial⟩ (ih (c + 1) (by omega) (by omega) (by omega))
theorem bp_w1 {S : Nat → Nat → Int32} {L : Nat → Nat → Int64} {row f : Nat} : va_up S 11 (bp_w S L row f 1) = S := by
  have e : bp_w S L row f 1 = S 11 := by funext c; simp only [bp_w]; rw [if_neg (by simp only [bp_u, Bool.and_eq_true, decide_eq_true_eq]; omega)]
  rw [e]; funext q; by_cases h : q = 11
  · subst h; rw [va_up_self]
  · rw [va_up_ne _ _ h]
theorem bp_d1 {S : Nat → Nat → Int32} {L : Nat → Nat → Int64} {row : Nat} : va_up L 12 (bp_d S L row 1) = L := by
  have e : bp_d S L row 1 = L 12 := by funext c; simp only [bp_d]; rw [if_neg (by simp only [bp_u, Bool.and_eq_true, decide_eq_true_eq]; omega)]
  rw [e]; funext q; by_cases h : q = 12
  · subst h; rw [va_up_self]
  · rw [va_up_ne _ _ h]
set_option maxRecDepth 100000 in
set_option maxHeartbeats 4000000 in
theorem kc_measure {l : Launch} (hls : l.stackTraces = false) {D : va_G} {w : wd_T} {S : Nat → Nat → Int32} {L : Nat → Nat → Int64} {f row : Nat} (hf : f ≤ 20) (hp : S 10 f = nI row) (hrow : row ≤ 8) : ct_M l D w zy_B_measureFrom (Cond.code zy_B_measureFrom zb_B_measureFrom 6 (Option.none : Option Jvm.ClassFile.FieldType)) ({ frames := 0, cells := 0, slots := 0, locals := 0 } : Room) [av_r 5, av_i (nI f)] S L (po_SL (va_up S 11 (bp_w S L row f 21)) (va_up L 12 (bp_d S L row 21))) 0 0 := by
  refine ct_intro hls (own := zn_B) (by decide) rfl (Nat.le_of_ble_eq_true rfl) ?_
  refine jd_aload_n zd_B_measureFrom_0 rfl ?_
  refine jd_get rfl rfl zl_B 3 (by decide) zi_115 rfl rfl rfl (by decide) zd_B_measureFrom_1 ?_
  refine jd_iload_n zd_B_measureFrom_4 rfl ?_
  refine jd_ildN (r := 10) (c := f) rfl rfl (by omega) (n := 21) (by decide) rfl (by decide) zd_B_measureFrom_5 ?_
  rw [hp]
  refine jd_istore_n zd_B_measureFrom_6 (by decide) ?_
  refine jd_iconst (v := 1) zd_B_measureFrom_7 (by decide) ?_
  refine jd_istore_n zd_B_measureFrom_8 (by decide) ?_
  refine jd_eqS (S' := (va_up S 11 (bp_w S L row f 1))) bp_w1.symm ?_
  refine jd_eqL (L' := (va_up L 12 (bp_d S L row 1))) bp_d1.symm ?_
  exact jd_sub [(0, av_r 5), (1, av_i (nI f)), (2, av_i (nI row)), (3, av_i (nI 1))] ⟨rfl, rfl, rfl, rfl, trivial⟩ (kl_measure (Qp := po_SL (va_up S 11 (bp_w S L row f 21)) (va_up L 12 (bp_d S L row 21))) hls hrow f (by omega) ⟨rfl, rfl, rfl⟩ 22 1 (by omega) (by omega) (by omega))
set_option maxRecDepth 100000 in
set_option maxHeartbeats 4000000 in
theorem kl_nearest {l : Launch} (hls : l.stackTraces = false) {D : va_G} {w : wd_T} {S : Nat → Nat → Int32} {L : Nat → Nat → Int64}  {Qp : jd_P} (hQ : Qp.1 (some (av_i (nI (bp_n S L 21)))) S L) : ∀ (k c : Nat), c ≤ 21 → 21 < c + k → 1 ≤ c → jd_J l D w zn_B zb_B_nearestColumn 3 (Option.some Jvm.ClassFile.FieldType.int) [] ({ frames := 0, cells := 0, slots := 0, locals := 0 } : Room) 0 0 Qp 0 0 4 [(0, av_r 5), (1, av_i (nI (bp_n S L c))), (2, av_i (nI c))] [] S L := by
  intro k
  induction k with
  | zero => intro c h1 h2; omega
  | succ k ih =>
    intro c hc hk h1c
    refine jd_iload_n zd_B_nearestColumn_4 rfl ?_
    refine jd_bipush (v := nI 20) zd_B_nearestColumn_5 (by decide) ?_
    refine jd_icmp_gt 47 zd_B_nearestColumn_7 (by decide) (fun h_7 => ?_) (fun h_7 => ?_)
    · have e_c := cb_end (by decide) hc h_7
      subst e_c
      refine jd_iload_n zd_B_nearestColumn_47 rfl ?_
      exact jd_iret rfl hQ (by decide) (by decide) zd_B_nearestColumn_48
    · have hc2 := cb_on (by decide) hc h_7
      have hbn := bp_n_le (S := S) (L := L) c
      refine jd_aload_n zd_B_nearestColumn_10 rfl ?_
      refine jd_get rfl rfl zl_B 6 (by decide) zi_118 rfl rfl rfl (by decide) zd_B_nearestColumn_11 ?_
      refine jd_iload_n zd_B_nearestColumn_14 rfl ?_
      refine jd_zldN (r := 13) (c := c) rfl rfl (by omega) (n := 21) (by decide) rfl (by decide) zd_B_nearestColumn_15 ?_
      refine jd_if_ne 41 zd_B_nearestColumn_16 (by decide) (fun h_16 => ?_) (fun h_16 => ?_)
      · refine jd_iinc (v := nI (c + 1)) zd_B_nearestColumn_41 rfl (nI_inc c) (by decide) ?_
        refine jd_goto 4 zd_B_nearestColumn_44 (by decide) ?_
        have e_c : bp_n S L (c + 1) = bp_n S L c := by simp only [bp_n]; rw [if_neg (fun q => h_16 q.2.1)]
        exact jd_sub [(0, av_r 5), (1, av_i (nI (bp_n S L (c + 1)))), (2, av_i (nI (c + 1)))] ⟨rfl, by rw [e_c]; rfl, rfl, trivial⟩ (ih (c + 1) (by omega) (by omega) (by omega))
      · refine jd_iload_n zd_B_nearestColumn_19 rfl ?_
        refine jd_if_eq 39 zd_B_nearestColumn_20 (by decide) (fun h_20 => ?_) (fun h_20 => ?_)
        · have h_z : bp_n S L c = 0 := by rcases Nat.eq_zero_or_pos (bp_n S L c) with q | q; exact q; exact absurd h_20 (nI_ne0 q (by omega))
          refine jd_iload_n zd_B_nearestColumn_39 rfl ?_
          refine jd_istore_n zd_B_nearestColumn_40 (by decide) ?_
          refine jd_iinc (v := nI (c + 1)) zd_B_nearestColumn_41 rfl (nI_inc c) (by decide) ?_
          refine jd_goto 4 zd_B_nearestColumn_44 (by decide) ?_
          have e_c : bp_n S L (c + 1) = c := by simp only [bp_n]; rw [if_pos ⟨h1c, h_16, Or.inl h_z⟩]
          exact jd_sub [(0, av_r 5), (1, av_i (nI (bp_n S L (c + 1)))), (2, av_i (nI (c + 1)))] ⟨rfl, by rw [e_c]; rfl, rfl, trivial⟩ (ih (c + 1) (by omega) (by omega) (by omega))
        · have h_z : ¬ bp_n S L c = 0 := fun q => h_20 (by rw [q]; rfl)
          refine jd_aload_n zd_B_nearestColumn_23 rfl ?_
          refine jd_get rfl rfl zl_B 5 (by decide) zi_117 rfl rfl rfl (by decide) zd_B_nearestColumn_24 ?_
          refine jd_iload_n zd_B_nearestColumn_27 rfl ?_
          refine jd_lldN (r := 12) (c := c) rfl rfl (by omega) (n := 21) (by decide) rfl (by decide) zd_B_nearestColumn_28 ?_
          refine jd_aload_n zd_B_nearestColumn_29 rfl ?_
          refine jd_get rfl rfl zl_B 5 (by decide) zi_117 rfl rfl rfl (by decide) zd_B_nearestColumn_30 ?_
          refine jd_iload_n zd_B_nearestColumn_33 rfl ?_
          refine jd_lldN (r := 12) (c := (bp_n S L c)) rfl rfl (by omega) (n := 21) (by decide) rfl (by decide) zd_B_nearestColumn_34 ?_
          refine jd_lcmp zd_B_nearestColumn_35 ?_
          refine jd_if_ge 41 zd_B_nearestColumn_36 (by decide) (fun h_36 => ?_) (fun h_36 => ?_)
          · refine jd_iinc (v := nI (c + 1)) zd_B_nearestColumn_41 rfl (nI_inc c) (by decide) ?_
            refine jd_goto 4 zd_B_nearestColumn_44 (by decide) ?_
            have e_c : bp_n S L (c + 1) = bp_n S L c := by simp only [bp_n]; rw [if_neg (fun q => by rcases q.2.2 with q2 | q2; exact h_z q2; exact absurd q2 (Int64.not_lt.mpr ((lg_cmp_ge _ _).mp h_36)))]
            exact jd_sub [(0, av_r 5), (1, av_i (nI (bp_n S L (c + 1)))), (2, av_i (nI (c + 1)))] ⟨rfl, by rw [e_c]; rfl, rfl, trivial⟩ (ih (c + 1) (by omega) (by omega) (by omega))
          · refine jd_iload_n zd_B_nearestColumn_39 rfl ?_
            refine jd_istore_n zd_B_nearestColumn_40 (by decide) ?_
            refine jd_iinc (v := nI (c + 1)) zd_B_nearestColumn_41 rfl (nI_inc c) (by decide) ?_
            refine jd_goto 4 zd_B_nearestColumn_44 (by decide) ?_
            have e_c : bp_n S L (c + 1) = c := by simp only [bp_n]; rw [if_pos ⟨h1c, h_16, Or.inr ((Int64.not_le.mp (fun q => h_36 ((lg_cmp_ge _ _).mpr q))))⟩]
            exact jd_sub [(0, av_r 5), (1, av_i (nI (bp_n S L (c + 1)))), (2, av_i (nI (c + 1)))] ⟨rfl, by rw [e_c]; rfl, rfl, trivial⟩ (ih (c + 1) (by omega) (by omega) (by omega))
set_option maxRecDepth 100000 in
set_option maxHeartbeats 4000000 in
theorem kc_nearest {l : Launch} (hls : l.stackTraces = false) {D : va_G} {w : wd_T} {S : Nat → Nat → Int32} {L : Nat → Nat → Int64}  : ct_M l D w zy_B_nearestColumn (Cond.code zy_B_nearestColumn zb_B_nearestColumn 3 (Option.some Jvm.ClassFile.FieldType.int)) ({ frames := 0, cells := 0, slots := 0, locals := 0 } : Room) [av_r 5] S L (po_i (nI (bp_n S L 21)) S L) 0 0 := by
  refine ct_intro hls (own := zn_B) (by decide) rfl (Nat.le_of_ble_eq_true rfl) ?_
  refine jd_iconst (v := 0) zd_B_nearestColumn_0 (by decide) ?_
  refine jd_istore_n zd_B_nearestColumn_1 (by decide) ?_
  refine jd_iconst (v := 1) zd_B_nearestColumn_2 (by decide) ?_
  refine jd_istore_n zd_B_nearestColumn_3 (by decide) ?_
  exact jd_sub [(0, av_r 5), (1, av_i (nI (bp_n S L 1))), (2, av_i (nI 1))] ⟨rfl, rfl, rfl, trivial⟩ (kl_nearest (Qp := po_i (nI (bp_n S L 21)) S L) hls ⟨rfl, rfl, rfl⟩ 22 1 (by omega) (by omega) (by omega))
set_option maxRecDepth 100000 in
set_option maxHeartbeats 4000000 in
theorem kl_shiftBy {l : Launch} (hls : l.stackTraces = false) {D : va_G} {w : wd_T} {S : Nat → Nat → Int32} {L : Nat → Nat → Int64} (x : Int64) (hrw : ∀ c, c ≤ 20 → ¬ S 13 c = 0 → ∃ r, r < 9 ∧ S 10 c = nI r) {Qp : jd_P} (hQ : Qp.1 none S (bp_s S L x 21)) : ∀ (k c : Nat), c ≤ 21 → 21 < c + k → jd_J l D w zn_B zb_B_shiftBy 4 (Option.none : Option Jvm.ClassFile.FieldType) [] ({ frames := 0, cells := 0, slots := 0, locals := 0 } : Room) 0 0 Qp 0 0 2 [(0, av_r 5), (1, av_l x), (3, av_i (nI c))] [] S (bp_s S L x c) := by
  intro k
  induction k with
  | zero => intro c h1 h2; omega
  | succ k ih =>
    intro c hc hk
    refine jd_iload_n zd_B_shiftBy_2 rfl ?_
    refine jd_bipush (v := nI 20) zd_B_shiftBy_3 (by decide) ?_
    refine jd_icmp_gt 61 zd_B_shiftBy_5 (by decide) (fun h_5 => ?_) (fun h_5 => ?_)
    · have e_c := cb_end (by decide) hc h_5
      subst e_c
      exact jd_vret rfl hQ (by decide) (by decide) zd_B_shiftBy_61
    · have hc2 := cb_on (by decide) hc h_5
      refine jd_aload_n zd_B_shiftBy_8 rfl ?_
      refine jd_get rfl rfl zl_B 6 (by decide) zi_118 rfl rfl rfl (by decide) zd_B_shiftBy_9 ?_
      refine jd_iload_n zd_B_shiftBy_12 rfl ?_
      refine jd_zldN (r := 13) (c := c) rfl rfl (by omega) (n := 21) (by decide) rfl (by decide) zd_B_shiftBy_13 ?_
      refine jd_if_eq 45 zd_B_shiftBy_14 (by decide) (fun h_14 => ?_) (fun h_14 => ?_)
      · refine jd_aload_n zd_B_shiftBy_45 rfl ?_
        refine jd_get rfl rfl zl_B 5 (by decide) zi_117 rfl rfl rfl (by decide) zd_B_shiftBy_46 ?_
        refine jd_iload_n zd_B_shiftBy_49 rfl ?_
        refine jd_dup2 zd_B_shiftBy_50 rfl rfl ?_
        refine jd_lldN (r := 12) (c := c) rfl rfl (by omega) (n := 21) (by decide) rfl (by decide) zd_B_shiftBy_51 ?_
        refine jd_lload_n zd_B_shiftBy_52 rfl ?_
        refine jd_lsub zd_B_shiftBy_53 ?_
        refine jd_lstN (r := 12) (c := c) (fun _ => rfl) rfl (by omega) (n := 21) (by decide) rfl (by decide) zd_B_shiftBy_54 ?_
        refine jd_eqL (L' := bp_s S L x (c + 1)) (by simp only [bp_s]; rw [if_pos h_14]) ?_
        refine jd_iinc (v := nI (c + 1)) zd_B_shiftBy_55 rfl (nI_inc c) (by decide) ?_
        refine jd_goto 2 zd_B_shiftBy_58 (by decide) ?_
        exact jd_sub [(0, av_r 5), (1, av_l x), (3, av_i (nI (c + 1)))] ⟨rfl, rfl, rfl, trivial⟩ (ih (c + 1) (by omega) (by omega))
      · obtain ⟨r, hr9, er⟩ := hrw c hc2 h_14
        refine jd_aload_n zd_B_shiftBy_17 rfl ?_
        refine jd_get rfl rfl zl_B 1 (by decide) zi_113 rfl rfl rfl (by decide) zd_B_shiftBy_18 ?_
        refine jd_aload_n zd_B_shiftBy_21 rfl ?_
        refine jd_get rfl rfl zl_B 3 (by decide) zi_115 rfl rfl rfl (by decide) zd_B_shiftBy_22 ?_
        refine jd_iload_n zd_B_shiftBy_25 rfl ?_
        refine jd_ildN (r := 10) (c := c) rfl rfl (by omega) (n := 21) (by decide) rfl (by decide) zd_B_shiftBy_26 ?_
        refine jd_dup2 zd_B_shiftBy_27 rfl rfl ?_
        refine jd_lldN (r := 8) (c := r) rfl er (by omega) (n := 9) (by decide) rfl (by decide) zd_B_shiftBy_28 ?_
        refine jd_lload_n zd_B_shiftBy_29 rfl ?_
        refine jd_ladd zd_B_shiftBy_30 ?_
        refine jd_lstN (r := 8) (c := r) (fun _ => rfl) er (by omega) (n := 9) (by decide) rfl (by decide) zd_B_shiftBy_31 ?_
        refine jd_aload_n zd_B_shiftBy_32 rfl ?_
        refine jd_get rfl rfl zl_B 2 (by decide) zi_114 rfl rfl rfl (by decide) zd_B_shiftBy_33 ?_
        refine jd_iload_n zd_B_shiftBy_36 rfl ?_
        refine jd_dup2 zd_B_shiftBy_37 rfl rfl ?_
        refine jd_lldN (r := 9) (c := c) rfl rfl (by omega) (n := 21) (by decide) rfl (by decide) zd_B_shiftBy_38 ?_
        refine jd_lload_n zd_B_shiftBy_39 rfl ?_
        refine jd_lsub zd_B_shiftBy_40 ?_
        refine jd_lstN (r := 9) (c := c) (fun _ => rfl) rfl (by omega) (n := 21) (by decide) rfl (by decide) zd_B_shiftBy_41 ?_
        rw [va_up_ne _ _ (show (9 : Nat) ≠ 8 by decide)]
        refine jd_eqL (L' := bp_s S L x (c + 1)) (by simp only [bp_s]; rw [if_neg h_14, er, nI_clamp (by omega)]) ?_
        refine jd_goto 55 zd_B_shiftBy_42 (by decide) ?_
        refine jd_iinc (v := nI (c + 1)) zd_B_shiftBy_55 rfl (nI_inc c) (by decide) ?_
        refine jd_goto 2 zd_B_shiftBy_58 (by decide) ?_
        exact jd_sub [(0, av_r 5), (1, av_l x), (3, av_i (nI (c + 1)))] ⟨rfl, rfl, rfl, trivial⟩ (ih (c + 1) (by omega) (by omega))
set_option maxRecDepth 100000 in
set_option maxHeartbeats 4000000 in
theorem kc_shiftBy {l : Launch} (hls : l.stackTraces = false) {D : va_G} {w : wd_T} {S : Nat → Nat → Int32} {L : Nat → Nat → Int64} (x : Int64) (hrw : ∀ c, c ≤ 20 → ¬ S 13 c = 0 → ∃ r, r < 9 ∧ S 10 c = nI r) : ct_M l D w zy_B_shiftBy (Cond.code zy_B_shiftBy zb_B_shiftBy 4 (Option.none : Option Jvm.ClassFile.FieldType)) ({ frames := 0, cells := 0, slots := 0, locals := 0 } : Room) [av_r 5, av_l x] S L (po_SL S (bp_s S L x 21)) 0 0 := by
  refine ct_intro hls (own := zn_B) (by decide) rfl (Nat.le_of_ble_eq_true rfl) ?_
  refine jd_iconst (v := 0) zd_B_shiftBy_0 (by decide) ?_
  refine jd_istore_n zd_B_shiftBy_1 (by decide) ?_
  exact jd_sub [(0, av_r 5), (1, av_l x), (3, av_i (nI 0))] ⟨rfl, rfl, rfl, trivial⟩ (kl_shiftBy (Qp := po_SL S (bp_s S L x 21)) hls x hrw ⟨rfl, rfl, rfl⟩ 22 0 (by omega) (by omega))
