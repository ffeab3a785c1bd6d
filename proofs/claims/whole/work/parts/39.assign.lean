/-! THE CLASS: assign (rows by wip/whole/gen/c3.py) -/
set_option maxRecDepth 100000 in
set_option maxHeartbeats 4000000 in
theorem kc_assign {l : Launch} (hls : l.stackTraces = false) {D : va_G} {w : wd_T} {S : Nat → Nat → Int32} {L : Nat → Nat → Int64} (hN : ok_N w S) (hU : ok_U w S) (hG : ok_G w S) {e8 : Nat} (h8 : S 0 8 = nI e8) (he8 : e8 ≤ 8) (hC : fa_cN S w.2.2.1 ≤ 8 → ∀ r p, r < fa_cN S w.2.2.1 → fa_al S w.2.2.1 w.2.2.2 r p → 0 ≤ fa_cost S w.2.2.1 r p ∧ fa_cost S w.2.2.1 r p ≤ 1000000) (x : Int32) : ct_M l D w zy_A_assign (Cond.code zy_A_assign zb_A_assign 4 (Option.some Jvm.ClassFile.FieldType.int)) ({ frames := 6, cells := 1, slots := 6, locals := 93 } : Room) [av_r 0, av_i x] S L (po_O (ou_assign w S x) [(1, kE_I)] L) 1 6 := by
  have h12 := hN.1
  refine ct_intro hls (own := zn_A) (by decide) rfl (Nat.le_of_ble_eq_true rfl) ?_
  refine jd_iload_n zd_A_assign_0 rfl ?_
  refine jd_if_ge 14 zd_A_assign_1 (by decide) (fun h_1 => ?_) (fun h_1 => ?_)
  · refine jd_aload_n zd_A_assign_14 rfl ?_
    refine jd_callV (n := 0) (kc_groupCount hls hN) rfl rfl rfl rfl (by decide) zi_223 zi_225 zi_6 zi_41 zi_226 (by decide +kernel) rfl rfl rfl (by decide) (Nat.le_of_ble_eq_true rfl) (by decide) zd_A_assign_15 (fun _ _ _ h => h.elim) (fun v S2 L2 hq => ?_)
    obtain ⟨rfl, rfl, rfl⟩ := hq
    refine jd_aload_n zd_A_assign_18 rfl ?_
    refine jd_get rfl rfl zl_A 8 (by decide) zi_150 rfl rfl rfl (by decide) zd_A_assign_19 ?_
    refine jd_icmp_gt 29 zd_A_assign_22 (by decide) (fun h_22 => ?_) (fun h_22 => ?_)
    · refine jd_iconst (v := 0) zd_A_assign_29 (by decide) ?_
      refine jd_istore_n zd_A_assign_30 (by decide) ?_
      refine jd_iload_n zd_A_assign_31 rfl ?_
      refine jd_if_eq 42 zd_A_assign_32 (by decide) (fun h_32 => ?_) (fun h_32 => ?_)
      rotate_left
      · exact absurd rfl h_32
      refine jd_aload_n zd_A_assign_42 rfl ?_
      refine jd_callV (n := 0) (kc_oneByOne hls hN hU) rfl rfl rfl rfl (by decide) zi_565 zi_567 zi_19 zi_41 zi_568 (by decide +kernel) rfl rfl rfl (by decide) (Nat.le_of_ble_eq_true rfl) (by decide) zd_A_assign_43 (fun _ _ _ h => h.elim) (fun v9 T M hq => ?_)
      obtain ⟨rfl, hd, hT, hM⟩ := hq
      rw [← d1_sm _ (Nat.le_refl _)]
      refine jd_istore_n zd_A_assign_46 (by decide) ?_
      refine jd_iload_n zd_A_assign_47 rfl ?_
      refine jd_iload_n zd_A_assign_48 rfl ?_
      refine jd_icmp_le 54 zd_A_assign_49 (by decide) (fun h_49 => ?_) (fun h_49 => ?_)
      · refine jd_aload_n zd_A_assign_54 rfl ?_
        refine jd_callV (n := 0) (kc_takeDraft hls (ok_N_sw hT hN)) rfl rfl rfl rfl (by decide) zi_569 zi_571 zi_20 zi_41 zi_572 (by decide +kernel) rfl rfl rfl (by decide) (Nat.le_of_ble_eq_true rfl) (by decide) zd_A_assign_55 (fun _ _ _ h => h.elim) (fun v S2 L2 hq => ?_)
        obtain ⟨rfl, rfl, rfl⟩ := hq
        refine jd_aload_n zd_A_assign_58 rfl ?_
        refine jd_iload_n zd_A_assign_59 rfl ?_
        refine jd_put rfl rfl zl_A zp_A zm_A 10 (by decide) zi_152 rfl rfl rfl (by first | rfl | decide | assumption) (by first | rfl | decide | assumption) (Nat.le_of_ble_eq_true rfl) rfl rfl (by decide) zd_A_assign_60 ?_
        refine jd_iload_n zd_A_assign_63 rfl ?_
        exact jd_iret rfl ⟨_, _, Or.inr ⟨h_1, rfl, _, _, Or.inr ⟨h_22, rfl, rfl⟩, Or.inr ⟨h_49, rfl, rfl⟩⟩, rfl, as_end h12 hG hT hd, hM⟩ (by decide) (by decide) zd_A_assign_64
      · refine jd_iconst (v := (-1)) zd_A_assign_52 (by decide) ?_
        exact jd_iret rfl ⟨-1, _, Or.inr ⟨h_1, rfl, _, _, Or.inr ⟨h_22, rfl, rfl⟩, Or.inl ⟨h_49, rfl, rfl⟩⟩, rfl, hT, hM⟩ (by decide) (by decide) zd_A_assign_53
    · refine jd_iconst (v := 1) zd_A_assign_25 (by decide) ?_
      refine jd_goto 30 zd_A_assign_26 (by decide) ?_
      refine jd_istore_n zd_A_assign_30 (by decide) ?_
      refine jd_iload_n zd_A_assign_31 rfl ?_
      refine jd_if_eq 42 zd_A_assign_32 (by decide) (fun h_32 => ?_) (fun h_32 => ?_)
      · exact absurd h_32 (by decide)
      refine jd_aload_n zd_A_assign_35 rfl ?_
      have hn8 : fa_cN S w.2.2.1 ≤ 8 := by
        rw [fa_cnt_cN, h8] at h_22
        have := fa_cN_le S w.2.2.1
        rw [nI_ltI (by omega) (by omega)] at h_22
        omega
      refine jd_callV (n := 0) (kc_draftBest hls hN hU hn8 (hC hn8)) rfl rfl rfl rfl (by decide) zi_515 zi_517 zi_13 zi_41 zi_518 (by decide +kernel) rfl rfl rfl (by decide) (Nat.le_of_ble_eq_true rfl) (by decide) zd_A_assign_36 (fun _ _ _ h => h.elim) (fun v9 T M hq => ?_)
      obtain ⟨f, hmin, rfl, hd, hT, hM⟩ := hq
      refine jd_goto 46 zd_A_assign_39 (by decide) ?_
      refine jd_istore_n zd_A_assign_46 (by decide) ?_
      refine jd_iload_n zd_A_assign_47 rfl ?_
      refine jd_iload_n zd_A_assign_48 rfl ?_
      refine jd_icmp_le 54 zd_A_assign_49 (by decide) (fun h_49 => ?_) (fun h_49 => ?_)
      · refine jd_aload_n zd_A_assign_54 rfl ?_
        refine jd_callV (n := 0) (kc_takeDraft hls (ok_N_sw hT hN)) rfl rfl rfl rfl (by decide) zi_569 zi_571 zi_20 zi_41 zi_572 (by decide +kernel) rfl rfl rfl (by decide) (Nat.le_of_ble_eq_true rfl) (by decide) zd_A_assign_55 (fun _ _ _ h => h.elim) (fun v S2 L2 hq => ?_)
        obtain ⟨rfl, rfl, rfl⟩ := hq
        refine jd_aload_n zd_A_assign_58 rfl ?_
        refine jd_iload_n zd_A_assign_59 rfl ?_
        refine jd_put rfl rfl zl_A zp_A zm_A 10 (by decide) zi_152 rfl rfl rfl (by first | rfl | decide | assumption) (by first | rfl | decide | assumption) (Nat.le_of_ble_eq_true rfl) rfl rfl (by decide) zd_A_assign_60 ?_
        refine jd_iload_n zd_A_assign_63 rfl ?_
        exact jd_iret rfl ⟨_, _, Or.inr ⟨h_1, rfl, _, _, Or.inl ⟨h_22, rfl, f, hmin, rfl⟩, Or.inr ⟨h_49, rfl, rfl⟩⟩, rfl, as_end h12 hG hT hd, hM⟩ (by decide) (by decide) zd_A_assign_64
      · refine jd_iconst (v := (-1)) zd_A_assign_52 (by decide) ?_
        exact jd_iret rfl ⟨-1, _, Or.inr ⟨h_1, rfl, _, _, Or.inl ⟨h_22, rfl, f, hmin, rfl⟩, Or.inl ⟨h_49, rfl, rfl⟩⟩, rfl, hT, hM⟩ (by decide) (by decide) zd_A_assign_53
  · exact jd_throw (text := "most is below 0") th_iae (by decide +kernel) rfl ⟨1, 0, _, Or.inl ⟨h_1, rfl, rfl⟩, by decide +kernel, sw_refl _, sw_reflL _⟩ zd_A_assign_4 zd_A_assign_7 zd_A_assign_8 zd_A_assign_10 zd_A_assign_13 (by decide) (Nat.le_of_ble_eq_true rfl) (by decide) (by decide) (by decide) (by decide)
