/-! THE MODEL: its calls, on (rows by wip/whole/gen/m3.py) -/
set_option maxRecDepth 100000 in
set_option maxHeartbeats 4000000 in
theorem kl_Mcount2 {l : Launch} (hls : l.stackTraces = false) {D : va_G} {w : wd_T} {S : Nat → Nat → Int32} {L : Nat → Nat → Int64} {G : Nat → Nat → Int32} (hA : ok_A w G) (hR : md_R w G S)  {Qp : jd_P} (hnext : jd_J l D w zn_M zb_M_count 4 (Option.some Jvm.ClassFile.FieldType.int) [] ({ frames := 1, cells := 0, slots := 0, locals := 21 } : Room) 0 0 Qp 0 0 80 [(0, av_r 400), (1, av_i 2), (2, av_i (fa_cnt G w.2.2.1))] [] S L) : ∀ (k u : Nat), u ≤ w.2.2.1 → w.2.2.1 < u + k → jd_J l D w zn_M zb_M_count 4 (Option.some Jvm.ClassFile.FieldType.int) [] ({ frames := 1, cells := 0, slots := 0, locals := 21 } : Room) 0 0 Qp 0 0 28 [(0, av_r 400), (1, av_i 2), (2, av_i (fa_cnt G u)), (3, av_i (nI u))] [] S L := by
  have h12 := hA.1.1
  have h13 := hA.1.2.1
  intro k
  induction k with
  | zero => intro u h1 h2; omega
  | succ k ih =>
    intro u hu hk
    refine jd_iload_n zd_M_count_28 rfl ?_
    refine jd_aload_n zd_M_count_29 rfl ?_
    refine jd_get rfl rfl zl_M 1 (by decide) zi_681 rfl rfl (rl_m (by decide)) (by decide) zd_M_count_30 ?_
    refine jd_icmp_ge 80 zd_M_count_33 (by decide) (fun h_33 => ?_) (fun h_33 => ?_)
    · have e_u := nI_end hR.1.1 (by omega) hu h_33
      subst e_u
      exact jd_sub [(0, av_r 400), (1, av_i 2), (2, av_i (fa_cnt G w.2.2.1))] ⟨rfl, rfl, rfl, trivial⟩ hnext
    · have hu2 := nI_on hR.1.1 (by omega) hu h_33
      refine jd_iload_n zd_M_count_36 rfl ?_
      refine jd_iload_n zd_M_count_37 rfl ?_
      refine jd_iconst (v := 2) zd_M_count_38 (by decide) ?_
      refine jd_icmp_ne 58 zd_M_count_39 (by decide) (fun h => absurd h (by decide)) (fun _ => ?_)
      refine jd_aload_n zd_M_count_42 rfl ?_
      refine jd_iload_n zd_M_count_43 rfl ?_
      refine jd_callV (n := 1) (kc_MisGroup hls hA hR hu2) rfl rfl rfl (rl_m (by decide)) (by decide) zi_815 zi_817 zi_29 zi_44 zi_818 (by decide +kernel) rfl rfl rfl (by decide) (Nat.le_of_ble_eq_true rfl) (by decide) zd_M_count_44 (fun _ _ _ h => h.elim) (fun v S2 L2 hq => ?_)
      obtain ⟨rfl, rfl, rfl⟩ := hq
      refine jd_if_eq 54 zd_M_count_47 (by decide) (fun h_47 => ?_) (fun h_47 => ?_)
      · refine jd_iconst (v := 0) zd_M_count_54 (by decide) ?_
        refine jd_goto 72 zd_M_count_55 (by decide) ?_
        refine jd_iadd zd_M_count_72 ?_
        refine jd_istore_n zd_M_count_73 (by decide) ?_
        refine jd_iinc (v := nI (u + 1)) zd_M_count_74 rfl (nI_inc u) (by decide) ?_
        refine jd_goto 28 zd_M_count_77 (by decide) ?_
        have e_c : fa_cnt G (u + 1) = fa_cnt G u + 0 := by simp only [fa_cnt]; rw [if_neg (by rw [bi_z h_47]; decide), Int32.add_zero]
        exact jd_sub [(0, av_r 400), (1, av_i 2), (2, av_i (fa_cnt G (u + 1))), (3, av_i (nI (u + 1)))] ⟨rfl, rfl, by rw [e_c]; rfl, rfl, trivial⟩ (ih (u + 1) (by omega) (by omega))
      · refine jd_iconst (v := 1) zd_M_count_50 (by decide) ?_
        refine jd_goto 72 zd_M_count_51 (by decide) ?_
        refine jd_iadd zd_M_count_72 ?_
        refine jd_istore_n zd_M_count_73 (by decide) ?_
        refine jd_iinc (v := nI (u + 1)) zd_M_count_74 rfl (nI_inc u) (by decide) ?_
        refine jd_goto 28 zd_M_count_77 (by decide) ?_
        have e_c : fa_cnt G (u + 1) = fa_cnt G u + 1 := by simp only [fa_cnt]; rw [if_pos (bi_n h_47)]
        exact jd_sub [(0, av_r 400), (1, av_i 2), (2, av_i (fa_cnt G (u + 1))), (3, av_i (nI (u + 1)))] ⟨rfl, rfl, by rw [e_c]; rfl, rfl, trivial⟩ (ih (u + 1) (by omega) (by omega))
set_option maxRecDepth 100000 in
set_option maxHeartbeats 4000000 in
theorem kl_Mcount3 {l : Launch} (hls : l.stackTraces = false) {D : va_G} {w : wd_T} {S : Nat → Nat → Int32} {L : Nat → Nat → Int64} {G : Nat → Nat → Int32} (hA : ok_A w G) (hR : md_R w G S) {x : Int32} (hne : ¬ x = 2) {Qp : jd_P} (hnext : jd_J l D w zn_M zb_M_count 4 (Option.some Jvm.ClassFile.FieldType.int) [] ({ frames := 1, cells := 0, slots := 0, locals := 21 } : Room) 0 0 Qp 0 0 80 [(0, av_r 400), (1, av_i x), (2, av_i (fa_dn G w.2.2.1))] [] S L) : ∀ (k u : Nat), u ≤ w.2.2.1 → w.2.2.1 < u + k → jd_J l D w zn_M zb_M_count 4 (Option.some Jvm.ClassFile.FieldType.int) [] ({ frames := 1, cells := 0, slots := 0, locals := 21 } : Room) 0 0 Qp 0 0 28 [(0, av_r 400), (1, av_i x), (2, av_i (fa_dn G u)), (3, av_i (nI u))] [] S L := by
  have h12 := hA.1.1
  have h13 := hA.1.2.1
  intro k
  induction k with
  | zero => intro u h1 h2; omega
  | succ k ih =>
    intro u hu hk
    refine jd_iload_n zd_M_count_28 rfl ?_
    refine jd_aload_n zd_M_count_29 rfl ?_
    refine jd_get rfl rfl zl_M 1 (by decide) zi_681 rfl rfl (rl_m (by decide)) (by decide) zd_M_count_30 ?_
    refine jd_icmp_ge 80 zd_M_count_33 (by decide) (fun h_33 => ?_) (fun h_33 => ?_)
    · have e_u := nI_end hR.1.1 (by omega) hu h_33
      subst e_u
      exact jd_sub [(0, av_r 400), (1, av_i x), (2, av_i (fa_dn G w.2.2.1))] ⟨rfl, rfl, rfl, trivial⟩ hnext
    · have hu2 := nI_on hR.1.1 (by omega) hu h_33
      refine jd_iload_n zd_M_count_36 rfl ?_
      refine jd_iload_n zd_M_count_37 rfl ?_
      refine jd_iconst (v := 2) zd_M_count_38 (by decide) ?_
      refine jd_icmp_ne 58 zd_M_count_39 (by decide) (fun _ => ?_) (fun h => absurd h hne)
      refine jd_aload_n zd_M_count_58 rfl ?_
      refine jd_get rfl rfl zl_M 7 (by decide) zi_687 rfl rfl (rl_m (by decide)) (by decide) zd_M_count_59 ?_
      refine jd_iload_n zd_M_count_62 rfl ?_
      refine jd_zldN (r := 408) (c := u) rfl rfl (by omega) (n := 12) (by decide) (rl_m (by decide)) (by decide) zd_M_count_63 ?_
      rw [mr_408 hR hu2]
      refine jd_if_eq 71 zd_M_count_64 (by decide) (fun h_64 => ?_) (fun h_64 => ?_)
      · refine jd_iconst (v := 0) zd_M_count_71 (by decide) ?_
        refine jd_iadd zd_M_count_72 ?_
        refine jd_istore_n zd_M_count_73 (by decide) ?_
        refine jd_iinc (v := nI (u + 1)) zd_M_count_74 rfl (nI_inc u) (by decide) ?_
        refine jd_goto 28 zd_M_count_77 (by decide) ?_
        have e_c : fa_dn G (u + 1) = fa_dn G u + 0 := by simp only [fa_dn]; rw [if_pos h_64, Int32.add_zero]
        exact jd_sub [(0, av_r 400), (1, av_i x), (2, av_i (fa_dn G (u + 1))), (3, av_i (nI (u + 1)))] ⟨rfl, rfl, by rw [e_c]; rfl, rfl, trivial⟩ (ih (u + 1) (by omega) (by omega))
      · refine jd_iconst (v := 1) zd_M_count_67 (by decide) ?_
        refine jd_goto 72 zd_M_count_68 (by decide) ?_
        refine jd_iadd zd_M_count_72 ?_
        refine jd_istore_n zd_M_count_73 (by decide) ?_
        refine jd_iinc (v := nI (u + 1)) zd_M_count_74 rfl (nI_inc u) (by decide) ?_
        refine jd_goto 28 zd_M_count_77 (by decide) ?_
        have e_c : fa_dn G (u + 1) = fa_dn G u + 1 := by simp only [fa_dn]; rw [if_neg h_64]
        exact jd_sub [(0, av_r 400), (1, av_i x), (2, av_i (fa_dn G (u + 1))), (3, av_i (nI (u + 1)))] ⟨rfl, rfl, by rw [e_c]; rfl, rfl, trivial⟩ (ih (u + 1) (by omega) (by omega))
set_option maxRecDepth 100000 in
set_option maxHeartbeats 4000000 in
theorem kc_Mcount {l : Launch} (hls : l.stackTraces = false) {D : va_G} {w : wd_T} {S : Nat → Nat → Int32} {L : Nat → Nat → Int64} {G : Nat → Nat → Int32} (hA : ok_A w G) (hR0 : md_R w G S) (x : Int32) : ct_M l D w zy_M_count (Cond.code zy_M_count zb_M_count 4 (Option.some Jvm.ClassFile.FieldType.int)) ({ frames := 1, cells := 0, slots := 0, locals := 21 } : Room) [av_r 400, av_i x] S L (po_M w 0 (fa_ct G w.2.2.1 x) G S L) 0 0 := by
  have h12 := hA.1.1
  have h13 := hA.1.2.1
  have hs := sm_refl S
  have hR := hR0
  rcases i32_4 x with rfl | rfl | rfl | rfl | ⟨-, n0, n1, n2, n3⟩
  · refine ct_intro hls (own := zn_M) (by decide) rfl (Nat.le_of_ble_eq_true rfl) ?_
    refine jd_aload_n zd_M_count_0 rfl ?_
    refine jd_iconst (v := 0) zd_M_count_1 (by decide) ?_
    refine jd_put rfl rfl zl_M zp_M zm_M 0 (by decide) zi_680 rfl rfl rfl rfl rfl (Nat.le_of_ble_eq_true rfl) rfl (rl_m (by decide)) (by decide) zd_M_count_2 ?_
    have hs := hs.fld (k := 0) (Or.inl rfl) (0 : Int32)
    have hc := cd_at hs
    have hR := md_sm hs hR0
    refine jd_iload_n zd_M_count_5 rfl ?_
    refine jd_if_ne 14 zd_M_count_6 (by decide) (fun h => absurd h (by decide)) (fun _ => ?_)
    refine jd_aload_n zd_M_count_9 rfl ?_
    refine jd_get rfl rfl zl_M 1 (by decide) zi_681 rfl rfl (rl_m (by decide)) (by decide) zd_M_count_10 ?_
    rw [hR.1.1]
    exact jd_iret rfl ⟨_, rfl, fun _ => by simp only [fa_ct]; first | rfl | exact hA.1.2.2.1.symm | exact hA.1.2.2.2.symm, hc, hR, sm_fr hs, sm_reflL _⟩ (by decide) (by decide) zd_M_count_13
  · refine ct_intro hls (own := zn_M) (by decide) rfl (Nat.le_of_ble_eq_true rfl) ?_
    refine jd_aload_n zd_M_count_0 rfl ?_
    refine jd_iconst (v := 0) zd_M_count_1 (by decide) ?_
    refine jd_put rfl rfl zl_M zp_M zm_M 0 (by decide) zi_680 rfl rfl rfl rfl rfl (Nat.le_of_ble_eq_true rfl) rfl (rl_m (by decide)) (by decide) zd_M_count_2 ?_
    have hs := hs.fld (k := 0) (Or.inl rfl) (0 : Int32)
    have hc := cd_at hs
    have hR := md_sm hs hR0
    refine jd_iload_n zd_M_count_5 rfl ?_
    refine jd_if_ne 14 zd_M_count_6 (by decide) (fun _ => ?_) (fun h => absurd h (by decide))
    refine jd_iload_n zd_M_count_14 rfl ?_
    refine jd_iconst (v := 1) zd_M_count_15 (by decide) ?_
    refine jd_icmp_ne 24 zd_M_count_16 (by decide) (fun h => absurd h (by decide)) (fun _ => ?_)
    refine jd_aload_n zd_M_count_19 rfl ?_
    refine jd_get rfl rfl zl_M 10 (by decide) zi_690 rfl rfl (rl_m (by decide)) (by decide) zd_M_count_20 ?_
    rw [hR.1.2.1]
    exact jd_iret rfl ⟨_, rfl, fun _ => by simp only [fa_ct]; first | rfl | exact hA.1.2.2.1.symm | exact hA.1.2.2.2.symm, hc, hR, sm_fr hs, sm_reflL _⟩ (by decide) (by decide) zd_M_count_23
  · refine ct_intro hls (own := zn_M) (by decide) rfl (Nat.le_of_ble_eq_true rfl) ?_
    refine jd_aload_n zd_M_count_0 rfl ?_
    refine jd_iconst (v := 0) zd_M_count_1 (by decide) ?_
    refine jd_put rfl rfl zl_M zp_M zm_M 0 (by decide) zi_680 rfl rfl rfl rfl rfl (Nat.le_of_ble_eq_true rfl) rfl (rl_m (by decide)) (by decide) zd_M_count_2 ?_
    have hs := hs.fld (k := 0) (Or.inl rfl) (0 : Int32)
    have hc := cd_at hs
    have hR := md_sm hs hR0
    refine jd_iload_n zd_M_count_5 rfl ?_
    refine jd_if_ne 14 zd_M_count_6 (by decide) (fun _ => ?_) (fun h => absurd h (by decide))
    refine jd_iload_n zd_M_count_14 rfl ?_
    refine jd_iconst (v := 1) zd_M_count_15 (by decide) ?_
    refine jd_icmp_ne 24 zd_M_count_16 (by decide) (fun _ => ?_) (fun h => absurd h (by decide))
    refine jd_iconst (v := 0) zd_M_count_24 (by decide) ?_
    refine jd_istore_n zd_M_count_25 (by decide) ?_
    refine jd_iconst (v := 0) zd_M_count_26 (by decide) ?_
    refine jd_istore_n zd_M_count_27 (by decide) ?_
    refine jd_sub [(0, av_r 400), (1, av_i 2), (2, av_i (fa_cnt G 0)), (3, av_i (nI 0))] ⟨rfl, rfl, rfl, rfl, trivial⟩ (kl_Mcount2 hls hA hR ?_ (w.2.2.1 + 1) 0 (by omega) (by omega))
    refine jd_iload_n zd_M_count_80 rfl ?_
    refine jd_iconst (v := 2) zd_M_count_81 (by decide) ?_
    refine jd_icmp_eq 90 zd_M_count_82 (by decide) (fun _ => ?_) (fun h => absurd h (by decide))
    refine jd_iload_n zd_M_count_90 rfl ?_
    refine jd_goto 95 zd_M_count_91 (by decide) ?_
    exact jd_iret rfl ⟨_, rfl, fun _ => by simp only [fa_ct]; first | rfl | exact hA.1.2.2.1.symm | exact hA.1.2.2.2.symm, hc, hR, sm_fr hs, sm_reflL _⟩ (by decide) (by decide) zd_M_count_95
  · refine ct_intro hls (own := zn_M) (by decide) rfl (Nat.le_of_ble_eq_true rfl) ?_
    refine jd_aload_n zd_M_count_0 rfl ?_
    refine jd_iconst (v := 0) zd_M_count_1 (by decide) ?_
    refine jd_put rfl rfl zl_M zp_M zm_M 0 (by decide) zi_680 rfl rfl rfl rfl rfl (Nat.le_of_ble_eq_true rfl) rfl (rl_m (by decide)) (by decide) zd_M_count_2 ?_
    have hs := hs.fld (k := 0) (Or.inl rfl) (0 : Int32)
    have hc := cd_at hs
    have hR := md_sm hs hR0
    refine jd_iload_n zd_M_count_5 rfl ?_
    refine jd_if_ne 14 zd_M_count_6 (by decide) (fun _ => ?_) (fun h => absurd h (by decide))
    refine jd_iload_n zd_M_count_14 rfl ?_
    refine jd_iconst (v := 1) zd_M_count_15 (by decide) ?_
    refine jd_icmp_ne 24 zd_M_count_16 (by decide) (fun _ => ?_) (fun h => absurd h (by decide))
    refine jd_iconst (v := 0) zd_M_count_24 (by decide) ?_
    refine jd_istore_n zd_M_count_25 (by decide) ?_
    refine jd_iconst (v := 0) zd_M_count_26 (by decide) ?_
    refine jd_istore_n zd_M_count_27 (by decide) ?_
    refine jd_sub [(0, av_r 400), (1, av_i 3), (2, av_i (fa_dn G 0)), (3, av_i (nI 0))] ⟨rfl, rfl, rfl, rfl, trivial⟩ (kl_Mcount3 hls hA hR (x := 3) (by decide) ?_ (w.2.2.1 + 1) 0 (by omega) (by omega))
    refine jd_iload_n zd_M_count_80 rfl ?_
    refine jd_iconst (v := 2) zd_M_count_81 (by decide) ?_
    refine jd_icmp_eq 90 zd_M_count_82 (by decide) (fun h => absurd h (by decide)) (fun _ => ?_)
    refine jd_iload_n zd_M_count_85 rfl ?_
    refine jd_iconst (v := 3) zd_M_count_86 (by decide) ?_
    refine jd_icmp_ne 94 zd_M_count_87 (by decide) (fun h => absurd h (by decide)) (fun _ => ?_)
    refine jd_iload_n zd_M_count_90 rfl ?_
    refine jd_goto 95 zd_M_count_91 (by decide) ?_
    exact jd_iret rfl ⟨_, rfl, fun _ => by simp only [fa_ct]; first | rfl | exact hA.1.2.2.1.symm | exact hA.1.2.2.2.symm, hc, hR, sm_fr hs, sm_reflL _⟩ (by decide) (by decide) zd_M_count_95
  · refine ct_intro hls (own := zn_M) (by decide) rfl (Nat.le_of_ble_eq_true rfl) ?_
    refine jd_aload_n zd_M_count_0 rfl ?_
    refine jd_iconst (v := 0) zd_M_count_1 (by decide) ?_
    refine jd_put rfl rfl zl_M zp_M zm_M 0 (by decide) zi_680 rfl rfl rfl rfl rfl (Nat.le_of_ble_eq_true rfl) rfl (rl_m (by decide)) (by decide) zd_M_count_2 ?_
    have hs := hs.fld (k := 0) (Or.inl rfl) (0 : Int32)
    have hc := cd_at hs
    have hR := md_sm hs hR0
    refine jd_iload_n zd_M_count_5 rfl ?_
    refine jd_if_ne 14 zd_M_count_6 (by decide) (fun _ => ?_) (fun h => absurd h n0)
    refine jd_iload_n zd_M_count_14 rfl ?_
    refine jd_iconst (v := 1) zd_M_count_15 (by decide) ?_
    refine jd_icmp_ne 24 zd_M_count_16 (by decide) (fun _ => ?_) (fun h => absurd h n1)
    refine jd_iconst (v := 0) zd_M_count_24 (by decide) ?_
    refine jd_istore_n zd_M_count_25 (by decide) ?_
    refine jd_iconst (v := 0) zd_M_count_26 (by decide) ?_
    refine jd_istore_n zd_M_count_27 (by decide) ?_
    refine jd_sub [(0, av_r 400), (1, av_i x), (2, av_i (fa_dn G 0)), (3, av_i (nI 0))] ⟨rfl, rfl, rfl, rfl, trivial⟩ (kl_Mcount3 hls hA hR n2 ?_ (w.2.2.1 + 1) 0 (by omega) (by omega))
    refine jd_iload_n zd_M_count_80 rfl ?_
    refine jd_iconst (v := 2) zd_M_count_81 (by decide) ?_
    refine jd_icmp_eq 90 zd_M_count_82 (by decide) (fun h => absurd h n2) (fun _ => ?_)
    refine jd_iload_n zd_M_count_85 rfl ?_
    refine jd_iconst (v := 3) zd_M_count_86 (by decide) ?_
    refine jd_icmp_ne 94 zd_M_count_87 (by decide) (fun _ => ?_) (fun h => absurd h n3)
    refine jd_iconst (v := (-1)) zd_M_count_94 (by decide) ?_
    exact jd_iret rfl ⟨_, rfl, fun _ => by simp [fa_ct, n0, n1, n2, n3], hc, hR, sm_fr hs, sm_reflL _⟩ (by decide) (by decide) zd_M_count_95
set_option maxRecDepth 100000 in
set_option maxHeartbeats 4000000 in
theorem kl_Mshare {l : Launch} (hls : l.stackTraces = false) {D : va_G} {w : wd_T} {S : Nat → Nat → Int32} {L : Nat → Nat → Int64} {G : Nat → Nat → Int32} (hA : ok_A w G) (hR : md_R w G S) (x : Int32) {Qp : jd_P} (hnext : jd_J l D w zn_M zb_M_share 4 (Option.some Jvm.ClassFile.FieldType.int) [] ({ frames := 2, cells := 0, slots := 0, locals := 47 } : Room) 0 0 Qp 0 0 115 [(0, av_r 400), (1, av_i x), (2, av_i (fa_pc G w.2.2.1 w.2.2.1))] [] S L) : ∀ (k u : Nat), u ≤ w.2.2.1 → w.2.2.1 < u + k → jd_J l D w zn_M zb_M_share 4 (Option.some Jvm.ClassFile.FieldType.int) [] ({ frames := 2, cells := 0, slots := 0, locals := 47 } : Room) 0 0 Qp 0 0 65 [(0, av_r 400), (1, av_i x), (2, av_i (fa_pc G w.2.2.1 u)), (3, av_i (nI u))] [] S L := by
  have h12 := hA.1.1
  have h13 := hA.1.2.1
  intro k
  induction k with
  | zero => intro u h1 h2; omega
  | succ k ih =>
    intro u hu hk
    refine jd_iload_n zd_M_share_65 rfl ?_
    refine jd_aload_n zd_M_share_66 rfl ?_
    refine jd_get rfl rfl zl_M 1 (by decide) zi_681 rfl rfl (rl_m (by decide)) (by decide) zd_M_share_67 ?_
    refine jd_icmp_ge 115 zd_M_share_70 (by decide) (fun h_70 => ?_) (fun h_70 => ?_)
    · have e_u := nI_end hR.1.1 (by omega) hu h_70
      subst e_u
      exact jd_sub [(0, av_r 400), (1, av_i x), (2, av_i (fa_pc G w.2.2.1 w.2.2.1))] ⟨rfl, rfl, rfl, trivial⟩ hnext
    · have hu2 := nI_on hR.1.1 (by omega) hu h_70
      refine jd_iload_n zd_M_share_73 rfl ?_
      refine jd_aload_n zd_M_share_74 rfl ?_
      refine jd_iload_n zd_M_share_75 rfl ?_
      refine jd_callV (n := 1) (kc_MisGroup hls hA hR hu2) rfl rfl rfl (rl_m (by decide)) (by decide) zi_815 zi_817 zi_29 zi_44 zi_818 (by decide +kernel) rfl rfl rfl (by decide) (Nat.le_of_ble_eq_true rfl) (by decide) zd_M_share_76 (fun _ _ _ h => h.elim) (fun v S2 L2 hq => ?_)
      obtain ⟨rfl, rfl, rfl⟩ := hq
      refine jd_if_eq 106 zd_M_share_79 (by decide) (fun h_79 => ?_) (fun h_79 => ?_)
      · refine jd_iconst (v := 0) zd_M_share_106 (by decide) ?_
        refine jd_iadd zd_M_share_107 ?_
        refine jd_istore_n zd_M_share_108 (by decide) ?_
        refine jd_iinc (v := nI (u + 1)) zd_M_share_109 rfl (nI_inc u) (by decide) ?_
        refine jd_goto 65 zd_M_share_112 (by decide) ?_
        have e_c : fa_pc G w.2.2.1 (u + 1) = fa_pc G w.2.2.1 u + 0 := by simp only [fa_pc]; rw [if_neg (fun z => by rw [bi_z h_79] at z; exact absurd z.1 (by decide)), Int32.add_zero]
        exact jd_sub [(0, av_r 400), (1, av_i x), (2, av_i (fa_pc G w.2.2.1 (u + 1))), (3, av_i (nI (u + 1)))] ⟨rfl, rfl, by rw [e_c]; rfl, rfl, trivial⟩ (ih (u + 1) (by omega) (by omega))
      · refine jd_aload_n zd_M_share_82 rfl ?_
        refine jd_get rfl rfl zl_M 6 (by decide) zi_686 rfl rfl (rl_m (by decide)) (by decide) zd_M_share_83 ?_
        refine jd_iload_n zd_M_share_86 rfl ?_
        refine jd_ildN (r := 407) (c := u) rfl rfl (by omega) (n := 12) (by decide) (rl_m (by decide)) (by decide) zd_M_share_87 ?_
        rw [mr_407 hR hu2]
        refine jd_iconst (v := (-1)) zd_M_share_88 (by decide) ?_
        refine jd_icmp_eq 106 zd_M_share_89 (by decide) (fun h_89 => ?_) (fun h_89 => ?_)
        · refine jd_iconst (v := 0) zd_M_share_106 (by decide) ?_
          refine jd_iadd zd_M_share_107 ?_
          refine jd_istore_n zd_M_share_108 (by decide) ?_
          refine jd_iinc (v := nI (u + 1)) zd_M_share_109 rfl (nI_inc u) (by decide) ?_
          refine jd_goto 65 zd_M_share_112 (by decide) ?_
          have e_c : fa_pc G w.2.2.1 (u + 1) = fa_pc G w.2.2.1 u + 0 := by simp only [fa_pc]; rw [if_neg (fun z => by have h9 := z.2; simp [fa_pl, h_89] at h9), Int32.add_zero]
          exact jd_sub [(0, av_r 400), (1, av_i x), (2, av_i (fa_pc G w.2.2.1 (u + 1))), (3, av_i (nI (u + 1)))] ⟨rfl, rfl, by rw [e_c]; rfl, rfl, trivial⟩ (ih (u + 1) (by omega) (by omega))
        · have hl := bi_n h_79
          have hpl : fa_pl G u = true := by have h9 := (fa_in_tt hl).1; simp [fa_pl, h9, h_89]
          obtain ⟨p, hp, ep⟩ : ∃ p, p < w.2.2.2 ∧ G (100 + u) 3 = nI p := (hA.2.1 u hu2).2.2.1.resolve_left h_89
          refine jd_aload_n zd_M_share_92 rfl ?_
          refine jd_iload_n zd_M_share_93 rfl ?_
          refine jd_aload_n zd_M_share_94 rfl ?_
          refine jd_get rfl rfl zl_M 6 (by decide) zi_686 rfl rfl (rl_m (by decide)) (by decide) zd_M_share_95 ?_
          refine jd_iload_n zd_M_share_98 rfl ?_
          refine jd_ildN (r := 407) (c := u) rfl rfl (by omega) (n := 12) (by decide) (rl_m (by decide)) (by decide) zd_M_share_99 ?_
          rw [mr_407 hR hu2]
          rw [ep]
          refine jd_callV (n := 2) (kc_costOf hls hA hR hu2 hl hp) rfl rfl rfl (rl_m (by decide)) (by decide) zi_831 zi_833 zi_33 zi_44 zi_834 (by decide +kernel) rfl rfl rfl (by decide) (Nat.le_of_ble_eq_true rfl) (by decide) zd_M_share_100 (fun _ _ _ h => h.elim) (fun v S2 L2 hq => ?_)
          obtain ⟨rfl, rfl, rfl⟩ := hq
          refine jd_goto 107 zd_M_share_103 (by decide) ?_
          refine jd_iadd zd_M_share_107 ?_
          refine jd_istore_n zd_M_share_108 (by decide) ?_
          refine jd_iinc (v := nI (u + 1)) zd_M_share_109 rfl (nI_inc u) (by decide) ?_
          refine jd_goto 65 zd_M_share_112 (by decide) ?_
          have e_c : fa_pc G w.2.2.1 (u + 1) = fa_pc G w.2.2.1 u + fa_co G (fa_ga G (nI u) w.2.2.1) u p := by simp only [fa_pc]; rw [if_pos ⟨hl, hpl⟩, ep, nI_clamp (show p < 2 ^ 31 by omega)]
          exact jd_sub [(0, av_r 400), (1, av_i x), (2, av_i (fa_pc G w.2.2.1 (u + 1))), (3, av_i (nI (u + 1)))] ⟨rfl, rfl, by rw [e_c]; rfl, rfl, trivial⟩ (ih (u + 1) (by omega) (by omega))
set_option maxRecDepth 100000 in
set_option maxHeartbeats 4000000 in
theorem kc_Mshare {l : Launch} (hls : l.stackTraces = false) {D : va_G} {w : wd_T} {S : Nat → Nat → Int32} {L : Nat → Nat → Int64} {G : Nat → Nat → Int32} (hA : ok_A w G) (hR0 : md_R w G S) {x : Int32} {c v : Int32} {N : Nat → Nat → Int32} (hO : ou_share w G x c v N) : ct_M l D w zy_M_share (Cond.code zy_M_share zb_M_share 4 (Option.some Jvm.ClassFile.FieldType.int)) ({ frames := 2, cells := 0, slots := 0, locals := 47 } : Room) [av_r 400, av_i x] S L (po_M w c v N S L) 0 0 := by
  have h12 := hA.1.1
  have h13 := hA.1.2.1
  have hs := sm_refl S
  have hR := hR0
  rcases hO with ⟨hN, ⟨h_o, rfl⟩ | ⟨a, ha, rfl, ⟨h_pl, rfl⟩ | ⟨h_pl, h_0, rfl⟩ | ⟨p, g, hp, ep, hga, eg, h_pl, h_0, rfl, rfl⟩⟩⟩
  · rw [hN]
    refine ct_intro hls (own := zn_M) (by decide) rfl (Nat.le_of_ble_eq_true rfl) ?_
    refine jd_aload_n zd_M_share_0 rfl ?_
    refine jd_aload_n zd_M_share_1 rfl ?_
    refine jd_iload_n zd_M_share_2 rfl ?_
    refine jd_callV (n := 1) (kc_isUnitF hls hR h_o) rfl rfl rfl (rl_m (by decide)) (by decide) zi_782 zi_784 zi_26 zi_44 zi_785 (by decide +kernel) rfl rfl rfl (by decide) (Nat.le_of_ble_eq_true rfl) (by decide) zd_M_share_3 (fun _ _ _ h => h.elim) (fun v S2 L2 hq => ?_)
    obtain ⟨rfl, rfl, rfl⟩ := hq
    refine jd_if_ne 13 zd_M_share_6 (by decide) (fun h => absurd h (by decide)) (fun _ => ?_)
    refine jd_iconst (v := 1) zd_M_share_9 (by decide) ?_
    refine jd_goto 14 zd_M_share_10 (by decide) ?_
    refine jd_put rfl rfl zl_M zp_M zm_M 0 (by decide) zi_680 rfl rfl rfl rfl rfl (Nat.le_of_ble_eq_true rfl) rfl (rl_m (by decide)) (by decide) zd_M_share_14 ?_
    have hs := hs.fld (k := 0) (Or.inl rfl) (1 : Int32)
    have hc := cd_at hs
    have hR := md_sm hs hR0
    refine jd_aload_n zd_M_share_17 rfl ?_
    refine jd_get rfl rfl zl_M 0 (by decide) zi_680 rfl rfl (rl_m (by decide)) (by decide) zd_M_share_18 ?_
    rw [hc]
    refine jd_if_ne 52 zd_M_share_21 (by decide) (fun _ => ?_) (fun h => absurd h (by decide))
    refine jd_aload_n zd_M_share_52 rfl ?_
    refine jd_get rfl rfl zl_M 0 (by decide) zi_680 rfl rfl (rl_m (by decide)) (by decide) zd_M_share_53 ?_
    rw [hc]
    refine jd_if_le 61 zd_M_share_56 (by decide) (fun h => absurd h (by decide)) (fun _ => ?_)
    refine jd_iconst (v := 0) zd_M_share_59 (by decide) ?_
    exact jd_iret rfl ⟨_, rfl, fun h => absurd h (by decide), hc, hR, sm_fr hs, sm_reflL _⟩ (by decide) (by decide) zd_M_share_60
  · rw [hN]
    refine ct_intro hls (own := zn_M) (by decide) rfl (Nat.le_of_ble_eq_true rfl) ?_
    refine jd_aload_n zd_M_share_0 rfl ?_
    refine jd_aload_n zd_M_share_1 rfl ?_
    refine jd_iload_n zd_M_share_2 rfl ?_
    refine jd_callV (n := 1) (kc_isUnitT hls hR (ob_nI h12 ha)) rfl rfl rfl (rl_m (by decide)) (by decide) zi_782 zi_784 zi_26 zi_44 zi_785 (by decide +kernel) rfl rfl rfl (by decide) (Nat.le_of_ble_eq_true rfl) (by decide) zd_M_share_3 (fun _ _ _ h => h.elim) (fun v S2 L2 hq => ?_)
    obtain ⟨rfl, rfl, rfl⟩ := hq
    refine jd_if_ne 13 zd_M_share_6 (by decide) (fun _ => ?_) (fun h => absurd h (by decide))
    refine jd_iconst (v := 0) zd_M_share_13 (by decide) ?_
    refine jd_put rfl rfl zl_M zp_M zm_M 0 (by decide) zi_680 rfl rfl rfl rfl rfl (Nat.le_of_ble_eq_true rfl) rfl (rl_m (by decide)) (by decide) zd_M_share_14 ?_
    have hs := hs.fld (k := 0) (Or.inl rfl) (0 : Int32)
    have hc := cd_at hs
    have hR := md_sm hs hR0
    refine jd_aload_n zd_M_share_17 rfl ?_
    refine jd_get rfl rfl zl_M 0 (by decide) zi_680 rfl rfl (rl_m (by decide)) (by decide) zd_M_share_18 ?_
    rw [hc]
    refine jd_if_ne 52 zd_M_share_21 (by decide) (fun h => absurd h (by decide)) (fun _ => ?_)
    refine jd_aload_n zd_M_share_24 rfl ?_
    refine jd_aload_n zd_M_share_25 rfl ?_
    refine jd_get rfl rfl zl_M 7 (by decide) zi_687 rfl rfl (rl_m (by decide)) (by decide) zd_M_share_26 ?_
    refine jd_iload_n zd_M_share_29 rfl ?_
    refine jd_zldN (r := 408) (c := a) rfl rfl (by omega) (n := 12) (by decide) (rl_m (by decide)) (by decide) zd_M_share_30 ?_
    rw [mr_408 hR ha]
    refine jd_if_ne 44 zd_M_share_31 (by decide) (fun h_31 => ?_) (fun h_31 => ?_)
    · refine jd_iconst (v := 2) zd_M_share_44 (by decide) ?_
      refine jd_goto 49 zd_M_share_45 (by decide) ?_
      refine jd_put rfl rfl zl_M zp_M zm_M 0 (by decide) zi_680 rfl rfl rfl rfl rfl (Nat.le_of_ble_eq_true rfl) rfl (rl_m (by decide)) (by decide) zd_M_share_49 ?_
      have hs := hs.fld (k := 0) (Or.inl rfl) (2 : Int32)
      have hc := cd_at hs
      have hR := md_sm hs hR0
      refine jd_aload_n zd_M_share_52 rfl ?_
      refine jd_get rfl rfl zl_M 0 (by decide) zi_680 rfl rfl (rl_m (by decide)) (by decide) zd_M_share_53 ?_
      rw [hc]
      refine jd_if_le 61 zd_M_share_56 (by decide) (fun h => absurd h (by decide)) (fun _ => ?_)
      refine jd_iconst (v := 0) zd_M_share_59 (by decide) ?_
      exact jd_iret rfl ⟨_, rfl, fun h => absurd h (by decide), hc, hR, sm_fr hs, sm_reflL _⟩ (by decide) (by decide) zd_M_share_60
    · refine jd_aload_n zd_M_share_34 rfl ?_
      refine jd_get rfl rfl zl_M 6 (by decide) zi_686 rfl rfl (rl_m (by decide)) (by decide) zd_M_share_35 ?_
      refine jd_iload_n zd_M_share_38 rfl ?_
      refine jd_ildN (r := 407) (c := a) rfl rfl (by omega) (n := 12) (by decide) (rl_m (by decide)) (by decide) zd_M_share_39 ?_
      rw [mr_407 hR ha]
      refine jd_iconst (v := (-1)) zd_M_share_40 (by decide) ?_
      refine jd_icmp_ne 48 zd_M_share_41 (by decide) (fun h_41 => ?_) (fun h_41 => ?_)
      · exact absurd h_pl (by simp [fa_pl, h_31, h_41])
      · refine jd_iconst (v := 2) zd_M_share_44 (by decide) ?_
        refine jd_goto 49 zd_M_share_45 (by decide) ?_
        refine jd_put rfl rfl zl_M zp_M zm_M 0 (by decide) zi_680 rfl rfl rfl rfl rfl (Nat.le_of_ble_eq_true rfl) rfl (rl_m (by decide)) (by decide) zd_M_share_49 ?_
        have hs := hs.fld (k := 0) (Or.inl rfl) (2 : Int32)
        have hc := cd_at hs
        have hR := md_sm hs hR0
        refine jd_aload_n zd_M_share_52 rfl ?_
        refine jd_get rfl rfl zl_M 0 (by decide) zi_680 rfl rfl (rl_m (by decide)) (by decide) zd_M_share_53 ?_
        rw [hc]
        refine jd_if_le 61 zd_M_share_56 (by decide) (fun h => absurd h (by decide)) (fun _ => ?_)
        refine jd_iconst (v := 0) zd_M_share_59 (by decide) ?_
        exact jd_iret rfl ⟨_, rfl, fun h => absurd h (by decide), hc, hR, sm_fr hs, sm_reflL _⟩ (by decide) (by decide) zd_M_share_60
  · rw [hN]
    refine ct_intro hls (own := zn_M) (by decide) rfl (Nat.le_of_ble_eq_true rfl) ?_
    refine jd_aload_n zd_M_share_0 rfl ?_
    refine jd_aload_n zd_M_share_1 rfl ?_
    refine jd_iload_n zd_M_share_2 rfl ?_
    refine jd_callV (n := 1) (kc_isUnitT hls hR (ob_nI h12 ha)) rfl rfl rfl (rl_m (by decide)) (by decide) zi_782 zi_784 zi_26 zi_44 zi_785 (by decide +kernel) rfl rfl rfl (by decide) (Nat.le_of_ble_eq_true rfl) (by decide) zd_M_share_3 (fun _ _ _ h => h.elim) (fun v S2 L2 hq => ?_)
    obtain ⟨rfl, rfl, rfl⟩ := hq
    refine jd_if_ne 13 zd_M_share_6 (by decide) (fun _ => ?_) (fun h => absurd h (by decide))
    refine jd_iconst (v := 0) zd_M_share_13 (by decide) ?_
    refine jd_put rfl rfl zl_M zp_M zm_M 0 (by decide) zi_680 rfl rfl rfl rfl rfl (Nat.le_of_ble_eq_true rfl) rfl (rl_m (by decide)) (by decide) zd_M_share_14 ?_
    have hs := hs.fld (k := 0) (Or.inl rfl) (0 : Int32)
    have hc := cd_at hs
    have hR := md_sm hs hR0
    refine jd_aload_n zd_M_share_17 rfl ?_
    refine jd_get rfl rfl zl_M 0 (by decide) zi_680 rfl rfl (rl_m (by decide)) (by decide) zd_M_share_18 ?_
    rw [hc]
    refine jd_if_ne 52 zd_M_share_21 (by decide) (fun h => absurd h (by decide)) (fun _ => ?_)
    refine jd_aload_n zd_M_share_24 rfl ?_
    refine jd_aload_n zd_M_share_25 rfl ?_
    refine jd_get rfl rfl zl_M 7 (by decide) zi_687 rfl rfl (rl_m (by decide)) (by decide) zd_M_share_26 ?_
    refine jd_iload_n zd_M_share_29 rfl ?_
    refine jd_zldN (r := 408) (c := a) rfl rfl (by omega) (n := 12) (by decide) (rl_m (by decide)) (by decide) zd_M_share_30 ?_
    rw [mr_408 hR ha]
    refine jd_if_ne 44 zd_M_share_31 (by decide) (fun h_31 => ?_) (fun h_31 => ?_)
    · exact absurd h_pl (by simp [fa_pl, h_31])
    · refine jd_aload_n zd_M_share_34 rfl ?_
      refine jd_get rfl rfl zl_M 6 (by decide) zi_686 rfl rfl (rl_m (by decide)) (by decide) zd_M_share_35 ?_
      refine jd_iload_n zd_M_share_38 rfl ?_
      refine jd_ildN (r := 407) (c := a) rfl rfl (by omega) (n := 12) (by decide) (rl_m (by decide)) (by decide) zd_M_share_39 ?_
      rw [mr_407 hR ha]
      refine jd_iconst (v := (-1)) zd_M_share_40 (by decide) ?_
      refine jd_icmp_ne 48 zd_M_share_41 (by decide) (fun h_41 => ?_) (fun h_41 => ?_)
      · refine jd_iconst (v := 0) zd_M_share_48 (by decide) ?_
        refine jd_put rfl rfl zl_M zp_M zm_M 0 (by decide) zi_680 rfl rfl rfl rfl rfl (Nat.le_of_ble_eq_true rfl) rfl (rl_m (by decide)) (by decide) zd_M_share_49 ?_
        have hs := hs.fld (k := 0) (Or.inl rfl) (0 : Int32)
        have hc := cd_at hs
        have hR := md_sm hs hR0
        refine jd_aload_n zd_M_share_52 rfl ?_
        refine jd_get rfl rfl zl_M 0 (by decide) zi_680 rfl rfl (rl_m (by decide)) (by decide) zd_M_share_53 ?_
        rw [hc]
        refine jd_if_le 61 zd_M_share_56 (by decide) (fun _ => ?_) (fun h => absurd h (by decide))
        refine jd_iconst (v := 0) zd_M_share_61 (by decide) ?_
        refine jd_istore_n zd_M_share_62 (by decide) ?_
        refine jd_iconst (v := 0) zd_M_share_63 (by decide) ?_
        refine jd_istore_n zd_M_share_64 (by decide) ?_
        refine jd_sub [(0, av_r 400), (1, av_i (nI a)), (2, av_i (fa_pc G w.2.2.1 0)), (3, av_i (nI 0))] ⟨rfl, rfl, rfl, rfl, trivial⟩ (kl_Mshare hls hA hR (nI a) ?_ (w.2.2.1 + 1) 0 (by omega) (by omega))
        refine jd_aload_n zd_M_share_115 rfl ?_
        refine jd_iload_n zd_M_share_116 rfl ?_
        refine jd_if_ne 124 zd_M_share_117 (by decide) (fun h => absurd h_0 h) (fun _ => ?_)
        refine jd_iconst (v := 3) zd_M_share_120 (by decide) ?_
        refine jd_goto 125 zd_M_share_121 (by decide) ?_
        refine jd_put rfl rfl zl_M zp_M zm_M 0 (by decide) zi_680 rfl rfl rfl rfl rfl (Nat.le_of_ble_eq_true rfl) rfl (rl_m (by decide)) (by decide) zd_M_share_125 ?_
        have hs := hs.fld (k := 0) (Or.inl rfl) (3 : Int32)
        have hc := cd_at hs
        have hR := md_sm hs hR0
        refine jd_aload_n zd_M_share_128 rfl ?_
        refine jd_get rfl rfl zl_M 0 (by decide) zi_680 rfl rfl (rl_m (by decide)) (by decide) zd_M_share_129 ?_
        rw [hc]
        refine jd_if_le 139 zd_M_share_132 (by decide) (fun h => absurd h (by decide)) (fun _ => ?_)
        refine jd_iconst (v := 0) zd_M_share_135 (by decide) ?_
        refine jd_goto 160 zd_M_share_136 (by decide) ?_
        exact jd_iret rfl ⟨_, rfl, fun h => absurd h (by decide), hc, hR, sm_fr hs, sm_reflL _⟩ (by decide) (by decide) zd_M_share_160
      · exact absurd h_pl (by simp [fa_pl, h_41])
  · rw [hN]
    have h_5 : G (100 + a) 5 = 0 := by cases h9 : decide (G (100 + a) 5 = 0) <;> simp_all [fa_pl]
    obtain ⟨g2, hg2, eg2, hl⟩ := hA.2.2.1 a ha h_5
    have egg : g2 = g := by have h9 := eg2.symm.trans eg; rw [nI_eq (by omega) (by omega)] at h9; exact h9
    subst egg
    refine ct_intro hls (own := zn_M) (by decide) rfl (Nat.le_of_ble_eq_true rfl) ?_
    refine jd_aload_n zd_M_share_0 rfl ?_
    refine jd_aload_n zd_M_share_1 rfl ?_
    refine jd_iload_n zd_M_share_2 rfl ?_
    refine jd_callV (n := 1) (kc_isUnitT hls hR (ob_nI h12 ha)) rfl rfl rfl (rl_m (by decide)) (by decide) zi_782 zi_784 zi_26 zi_44 zi_785 (by decide +kernel) rfl rfl rfl (by decide) (Nat.le_of_ble_eq_true rfl) (by decide) zd_M_share_3 (fun _ _ _ h => h.elim) (fun v S2 L2 hq => ?_)
    obtain ⟨rfl, rfl, rfl⟩ := hq
    refine jd_if_ne 13 zd_M_share_6 (by decide) (fun _ => ?_) (fun h => absurd h (by decide))
    refine jd_iconst (v := 0) zd_M_share_13 (by decide) ?_
    refine jd_put rfl rfl zl_M zp_M zm_M 0 (by decide) zi_680 rfl rfl rfl rfl rfl (Nat.le_of_ble_eq_true rfl) rfl (rl_m (by decide)) (by decide) zd_M_share_14 ?_
    have hs := hs.fld (k := 0) (Or.inl rfl) (0 : Int32)
    have hc := cd_at hs
    have hR := md_sm hs hR0
    refine jd_aload_n zd_M_share_17 rfl ?_
    refine jd_get rfl rfl zl_M 0 (by decide) zi_680 rfl rfl (rl_m (by decide)) (by decide) zd_M_share_18 ?_
    rw [hc]
    refine jd_if_ne 52 zd_M_share_21 (by decide) (fun h => absurd h (by decide)) (fun _ => ?_)
    refine jd_aload_n zd_M_share_24 rfl ?_
    refine jd_aload_n zd_M_share_25 rfl ?_
    refine jd_get rfl rfl zl_M 7 (by decide) zi_687 rfl rfl (rl_m (by decide)) (by decide) zd_M_share_26 ?_
    refine jd_iload_n zd_M_share_29 rfl ?_
    refine jd_zldN (r := 408) (c := a) rfl rfl (by omega) (n := 12) (by decide) (rl_m (by decide)) (by decide) zd_M_share_30 ?_
    rw [mr_408 hR ha]
    refine jd_if_ne 44 zd_M_share_31 (by decide) (fun h_31 => ?_) (fun h_31 => ?_)
    · exact absurd h_pl (by simp [fa_pl, h_31])
    · refine jd_aload_n zd_M_share_34 rfl ?_
      refine jd_get rfl rfl zl_M 6 (by decide) zi_686 rfl rfl (rl_m (by decide)) (by decide) zd_M_share_35 ?_
      refine jd_iload_n zd_M_share_38 rfl ?_
      refine jd_ildN (r := 407) (c := a) rfl rfl (by omega) (n := 12) (by decide) (rl_m (by decide)) (by decide) zd_M_share_39 ?_
      rw [mr_407 hR ha]
      refine jd_iconst (v := (-1)) zd_M_share_40 (by decide) ?_
      refine jd_icmp_ne 48 zd_M_share_41 (by decide) (fun h_41 => ?_) (fun h_41 => ?_)
      · refine jd_iconst (v := 0) zd_M_share_48 (by decide) ?_
        refine jd_put rfl rfl zl_M zp_M zm_M 0 (by decide) zi_680 rfl rfl rfl rfl rfl (Nat.le_of_ble_eq_true rfl) rfl (rl_m (by decide)) (by decide) zd_M_share_49 ?_
        have hs := hs.fld (k := 0) (Or.inl rfl) (0 : Int32)
        have hc := cd_at hs
        have hR := md_sm hs hR0
        refine jd_aload_n zd_M_share_52 rfl ?_
        refine jd_get rfl rfl zl_M 0 (by decide) zi_680 rfl rfl (rl_m (by decide)) (by decide) zd_M_share_53 ?_
        rw [hc]
        refine jd_if_le 61 zd_M_share_56 (by decide) (fun _ => ?_) (fun h => absurd h (by decide))
        refine jd_iconst (v := 0) zd_M_share_61 (by decide) ?_
        refine jd_istore_n zd_M_share_62 (by decide) ?_
        refine jd_iconst (v := 0) zd_M_share_63 (by decide) ?_
        refine jd_istore_n zd_M_share_64 (by decide) ?_
        refine jd_sub [(0, av_r 400), (1, av_i (nI a)), (2, av_i (fa_pc G w.2.2.1 0)), (3, av_i (nI 0))] ⟨rfl, rfl, rfl, rfl, trivial⟩ (kl_Mshare hls hA hR (nI a) ?_ (w.2.2.1 + 1) 0 (by omega) (by omega))
        refine jd_aload_n zd_M_share_115 rfl ?_
        refine jd_iload_n zd_M_share_116 rfl ?_
        refine jd_if_ne 124 zd_M_share_117 (by decide) (fun _ => ?_) (fun h => absurd h h_0)
        refine jd_iconst (v := 0) zd_M_share_124 (by decide) ?_
        refine jd_put rfl rfl zl_M zp_M zm_M 0 (by decide) zi_680 rfl rfl rfl rfl rfl (Nat.le_of_ble_eq_true rfl) rfl (rl_m (by decide)) (by decide) zd_M_share_125 ?_
        have hs := hs.fld (k := 0) (Or.inl rfl) (0 : Int32)
        have hc := cd_at hs
        have hR := md_sm hs hR0
        refine jd_aload_n zd_M_share_128 rfl ?_
        refine jd_get rfl rfl zl_M 0 (by decide) zi_680 rfl rfl (rl_m (by decide)) (by decide) zd_M_share_129 ?_
        rw [hc]
        refine jd_if_le 139 zd_M_share_132 (by decide) (fun _ => ?_) (fun h => absurd h (by decide))
        refine jd_bipush (v := 100) zd_M_share_139 (by decide) ?_
        refine jd_aload_n zd_M_share_141 rfl ?_
        refine jd_aload_n zd_M_share_142 rfl ?_
        refine jd_get rfl rfl zl_M 4 (by decide) zi_684 rfl rfl (rl_m (by decide)) (by decide) zd_M_share_143 ?_
        refine jd_iload_n zd_M_share_146 rfl ?_
        refine jd_ildN (r := 405) (c := a) rfl rfl (by omega) (n := 12) (by decide) (rl_m (by decide)) (by decide) zd_M_share_147 ?_
        rw [mr_405 hR ha]
        refine jd_aload_n zd_M_share_148 rfl ?_
        refine jd_get rfl rfl zl_M 6 (by decide) zi_686 rfl rfl (rl_m (by decide)) (by decide) zd_M_share_149 ?_
        refine jd_iload_n zd_M_share_152 rfl ?_
        refine jd_ildN (r := 407) (c := a) rfl rfl (by omega) (n := 12) (by decide) (rl_m (by decide)) (by decide) zd_M_share_153 ?_
        rw [mr_407 hR ha]
        rw [eg, ep]
        refine jd_callV (n := 2) (kc_costOf hls hA hR (by omega) hl hp) rfl rfl rfl (rl_m (by decide)) (by decide) zi_831 zi_833 zi_33 zi_44 zi_834 (by decide +kernel) rfl rfl rfl (by decide) (Nat.le_of_ble_eq_true rfl) (by decide) zd_M_share_154 (fun _ _ _ h => h.elim) (fun v S2 L2 hq => ?_)
        obtain ⟨rfl, rfl, rfl⟩ := hq
        refine jd_imul zd_M_share_157 ?_
        refine jd_iload_n zd_M_share_158 rfl ?_
        refine jd_idiv zd_M_share_159 h_0 ?_
        exact jd_iret rfl ⟨_, rfl, fun _ => rfl, hc, hR, sm_fr hs, sm_reflL _⟩ (by decide) (by decide) zd_M_share_160
      · exact absurd h_pl (by simp [fa_pl, h_41])
set_option maxRecDepth 100000 in
set_option maxHeartbeats 4000000 in
theorem kl_Mbarred1 {l : Launch} (hls : l.stackTraces = false) {D : va_G} {w : wd_T} {S : Nat → Nat → Int32} {L : Nat → Nat → Int64} {G : Nat → Nat → Int32} (hA : ok_A w G) (hR : md_R w G S) {a g t : Nat} (ha : a < w.2.2.1) (eg : G (100 + a) 2 = nI g) (hg : g < w.2.2.1) (hl : fa_gr G g = true) (ht : t ≤ 5) {Qp : jd_P} (hnext : jd_J l D w zn_M zb_M_barred 5 (Option.some Jvm.ClassFile.FieldType.int) [] ({ frames := 3, cells := 0, slots := 0, locals := 72 } : Room) 0 0 Qp 0 0 105 [(0, av_r 400), (1, av_i (nI a)), (2, av_i (nI t)), (3, av_i (bi_of (fm_some G (fa_ga G (nI g) w.2.2.1) t w.2.2.2)))] [] S L) : ∀ (k u : Nat), u ≤ w.2.2.2 → w.2.2.2 < u + k → jd_J l D w zn_M zb_M_barred 5 (Option.some Jvm.ClassFile.FieldType.int) [] ({ frames := 3, cells := 0, slots := 0, locals := 72 } : Room) 0 0 Qp 0 0 64 [(0, av_r 400), (1, av_i (nI a)), (2, av_i (nI t)), (3, av_i (bi_of (fm_some G (fa_ga G (nI g) w.2.2.1) t u))), (4, av_i (nI u))] [] S L := by
  have h12 := hA.1.1
  have h13 := hA.1.2.1
  intro k
  induction k with
  | zero => intro u h1 h2; omega
  | succ k ih =>
    intro u hu hk
    refine jd_iload zd_M_barred_64 rfl ?_
    refine jd_aload_n zd_M_barred_66 rfl ?_
    refine jd_get rfl rfl zl_M 10 (by decide) zi_690 rfl rfl (rl_m (by decide)) (by decide) zd_M_barred_67 ?_
    refine jd_icmp_ge 105 zd_M_barred_70 (by decide) (fun h_70 => ?_) (fun h_70 => ?_)
    · have e_u := nI_end hR.1.2.1 (by omega) hu h_70
      subst e_u
      exact jd_sub [(0, av_r 400), (1, av_i (nI a)), (2, av_i (nI t)), (3, av_i (bi_of (fm_some G (fa_ga G (nI g) w.2.2.1) t w.2.2.2)))] ⟨rfl, rfl, rfl, rfl, trivial⟩ hnext
    · have hu2 := nI_on hR.1.2.1 (by omega) hu h_70
      refine jd_iload_n zd_M_barred_73 rfl ?_
      refine jd_if_ne 93 zd_M_barred_74 (by decide) (fun h_74 => ?_) (fun h_74 => ?_)
      · refine jd_iconst (v := 1) zd_M_barred_93 (by decide) ?_
        refine jd_goto 98 zd_M_barred_94 (by decide) ?_
        refine jd_istore_n zd_M_barred_98 (by decide) ?_
        refine jd_iinc (v := nI (u + 1)) zd_M_barred_99 rfl (nI_inc u) (by decide) ?_
        refine jd_goto 64 zd_M_barred_102 (by decide) ?_
        exact jd_sub [(0, av_r 400), (1, av_i (nI a)), (2, av_i (nI t)), (3, av_i (bi_of (fm_some G (fa_ga G (nI g) w.2.2.1) t (u + 1)))), (4, av_i (nI (u + 1)))] ⟨rfl, rfl, rfl, by simp only [fm_some]; rw [bi_n h_74, Bool.true_or]; rfl, rfl, trivial⟩ (ih (u + 1) (by omega) (by omega))
      · refine jd_aload_n zd_M_barred_77 rfl ?_
        refine jd_aload_n zd_M_barred_78 rfl ?_
        refine jd_get rfl rfl zl_M 4 (by decide) zi_684 rfl rfl (rl_m (by decide)) (by decide) zd_M_barred_79 ?_
        refine jd_iload_n zd_M_barred_82 rfl ?_
        refine jd_ildN (r := 405) (c := a) rfl rfl (by omega) (n := 12) (by decide) (rl_m (by decide)) (by decide) zd_M_barred_83 ?_
        rw [mr_405 hR ha]
        refine jd_iload zd_M_barred_84 rfl ?_
        refine jd_iload_n zd_M_barred_86 rfl ?_
        rw [eg]
        refine jd_callV (n := 3) (kc_isAllowed hls hA hR hg hl hu2 ht) rfl rfl rfl (rl_m (by decide)) (by decide) zi_819 zi_821 zi_30 zi_44 zi_822 (by decide +kernel) rfl rfl rfl (by decide) (Nat.le_of_ble_eq_true rfl) (by decide) zd_M_barred_87 (fun _ _ _ h => h.elim) (fun v S2 L2 hq => ?_)
        obtain ⟨rfl, rfl, rfl⟩ := hq
        refine jd_if_eq 97 zd_M_barred_90 (by decide) (fun h_90 => ?_) (fun h_90 => ?_)
        · refine jd_iconst (v := 0) zd_M_barred_97 (by decide) ?_
          refine jd_istore_n zd_M_barred_98 (by decide) ?_
          refine jd_iinc (v := nI (u + 1)) zd_M_barred_99 rfl (nI_inc u) (by decide) ?_
          refine jd_goto 64 zd_M_barred_102 (by decide) ?_
          exact jd_sub [(0, av_r 400), (1, av_i (nI a)), (2, av_i (nI t)), (3, av_i (bi_of (fm_some G (fa_ga G (nI g) w.2.2.1) t (u + 1)))), (4, av_i (nI (u + 1)))] ⟨rfl, rfl, rfl, by simp only [fm_some]; rw [bi_z h_74, bi_z h_90]; rfl, rfl, trivial⟩ (ih (u + 1) (by omega) (by omega))
        · refine jd_iconst (v := 1) zd_M_barred_93 (by decide) ?_
          refine jd_goto 98 zd_M_barred_94 (by decide) ?_
          refine jd_istore_n zd_M_barred_98 (by decide) ?_
          refine jd_iinc (v := nI (u + 1)) zd_M_barred_99 rfl (nI_inc u) (by decide) ?_
          refine jd_goto 64 zd_M_barred_102 (by decide) ?_
          exact jd_sub [(0, av_r 400), (1, av_i (nI a)), (2, av_i (nI t)), (3, av_i (bi_of (fm_some G (fa_ga G (nI g) w.2.2.1) t (u + 1)))), (4, av_i (nI (u + 1)))] ⟨rfl, rfl, rfl, by simp only [fm_some]; rw [bi_n h_90, Bool.or_true]; rfl, rfl, trivial⟩ (ih (u + 1) (by omega) (by omega))
set_option maxRecDepth 100000 in
set_option maxHeartbeats 4000000 in
theorem kl_Mbarred2 {l : Launch} (hls : l.stackTraces = false) {D : va_G} {w : wd_T} {S : Nat → Nat → Int32} {L : Nat → Nat → Int64} {G : Nat → Nat → Int32} (hA : ok_A w G) (hR : md_R w G S) {a g i : Nat} (ha : a < w.2.2.1) (eg : G (100 + a) 2 = nI g) (hg : g < w.2.2.1) (hl : fa_gr G g = true) (hi : i ≤ 5) (hsome : ∀ t, 1 ≤ t → t ≤ 5 → (fm_some G (fa_ga G (nI g) w.2.2.1) t w.2.2.2 = true ↔ (i = 0 ∨ t < i))) {Qp : jd_P} (hQ : Qp.1 (some (av_i (nI i))) S L) : ∀ (k u : Nat), u ≤ 5 → 5 < u + k → (i = 0 ∨ u + 1 ≤ i) → jd_J l D w zn_M zb_M_barred 5 (Option.some Jvm.ClassFile.FieldType.int) [] ({ frames := 3, cells := 0, slots := 0, locals := 72 } : Room) 0 0 Qp 0 0 53 [(0, av_r 400), (1, av_i (nI a)), (2, av_i (nI (u + 1)))] [] S L := by
  have h12 := hA.1.1
  have h13 := hA.1.2.1
  intro k
  induction k with
  | zero => intro u h1 h2; omega
  | succ k ih =>
    intro u hu hk hui
    refine jd_iload_n zd_M_barred_53 rfl ?_
    refine jd_bipush (v := nI 6) zd_M_barred_54 (by decide) ?_
    refine jd_icmp_ge 117 zd_M_barred_56 (by decide) (fun h_56 => ?_) (fun h_56 => ?_)
    · rw [nI_leI (by decide) (by omega)] at h_56
      have e_i : i = 0 := by omega
      refine jd_iconst (v := 0) zd_M_barred_117 (by decide) ?_
      exact jd_iret rfl (by rw [e_i] at hQ; exact hQ) (by decide) (by decide) zd_M_barred_118
    · rw [nI_leI (by decide) (by omega)] at h_56
      refine jd_iconst (v := 0) zd_M_barred_59 (by decide) ?_
      refine jd_istore_n zd_M_barred_60 (by decide) ?_
      refine jd_iconst (v := 0) zd_M_barred_61 (by decide) ?_
      refine jd_istore zd_M_barred_62 (by decide) ?_
      refine jd_sub [(0, av_r 400), (1, av_i (nI a)), (2, av_i (nI (u + 1))), (3, av_i (bi_of (fm_some G (fa_ga G (nI g) w.2.2.1) (u + 1) 0))), (4, av_i (nI 0))] ⟨rfl, rfl, rfl, rfl, rfl, trivial⟩ (kl_Mbarred1 hls hA hR ha eg hg hl (t := u + 1) (by omega) ?_ (w.2.2.2 + 1) 0 (by omega) (by omega))
      refine jd_iload_n zd_M_barred_105 rfl ?_
      refine jd_if_ne 111 zd_M_barred_106 (by decide) (fun h_106 => ?_) (fun h_106 => ?_)
      · have h_y : i = 0 ∨ u + 1 < i := (hsome (u + 1) (by omega) (by omega)).mp (bi_n h_106)
        refine jd_iinc (v := nI (u + 1 + 1)) zd_M_barred_111 rfl (nI_inc (u + 1)) (by decide) ?_
        refine jd_goto 53 zd_M_barred_114 (by decide) ?_
        exact jd_sub [(0, av_r 400), (1, av_i (nI a)), (2, av_i (nI (u + 1 + 1)))] ⟨rfl, rfl, rfl, trivial⟩ (ih (u + 1) (by omega) (by omega) (by omega))
      · have h_n : ¬ (i = 0 ∨ u + 1 < i) := fun z => by rw [(hsome (u + 1) (by omega) (by omega)).mpr z] at h_106; exact absurd h_106 (by decide)
        have e_i : i = u + 1 := by omega
        refine jd_iload_n zd_M_barred_109 rfl ?_
        exact jd_iret rfl (by rw [e_i] at hQ; exact hQ) (by decide) (by decide) zd_M_barred_110
set_option maxRecDepth 100000 in
set_option maxHeartbeats 4000000 in
theorem kc_Mbarred {l : Launch} (hls : l.stackTraces = false) {D : va_G} {w : wd_T} {S : Nat → Nat → Int32} {L : Nat → Nat → Int64} {G : Nat → Nat → Int32} (hA : ok_A w G) (hR0 : md_R w G S) {x : Int32} {c v : Int32} {N : Nat → Nat → Int32} (hO : ou_barred w G x c v N) : ct_M l D w zy_M_barred (Cond.code zy_M_barred zb_M_barred 5 (Option.some Jvm.ClassFile.FieldType.int)) ({ frames := 3, cells := 0, slots := 0, locals := 72 } : Room) [av_r 400, av_i x] S L (po_M w c v N S L) 0 0 := by
  have h12 := hA.1.1
  have h13 := hA.1.2.1
  have hs := sm_refl S
  have hR := hR0
  rcases hO with ⟨hN, ⟨h_o, rfl⟩ | ⟨a, ha, rfl, ⟨h_5, rfl⟩ | ⟨h_5, rfl, rfl⟩⟩⟩
  · rw [hN]
    refine ct_intro hls (own := zn_M) (by decide) rfl (Nat.le_of_ble_eq_true rfl) ?_
    refine jd_aload_n zd_M_barred_0 rfl ?_
    refine jd_aload_n zd_M_barred_1 rfl ?_
    refine jd_iload_n zd_M_barred_2 rfl ?_
    refine jd_callV (n := 1) (kc_isUnitF hls hR h_o) rfl rfl rfl (rl_m (by decide)) (by decide) zi_782 zi_784 zi_26 zi_44 zi_785 (by decide +kernel) rfl rfl rfl (by decide) (Nat.le_of_ble_eq_true rfl) (by decide) zd_M_barred_3 (fun _ _ _ h => h.elim) (fun v S2 L2 hq => ?_)
    obtain ⟨rfl, rfl, rfl⟩ := hq
    refine jd_if_ne 13 zd_M_barred_6 (by decide) (fun h => absurd h (by decide)) (fun _ => ?_)
    refine jd_iconst (v := 1) zd_M_barred_9 (by decide) ?_
    refine jd_goto 14 zd_M_barred_10 (by decide) ?_
    refine jd_put rfl rfl zl_M zp_M zm_M 0 (by decide) zi_680 rfl rfl rfl rfl rfl (Nat.le_of_ble_eq_true rfl) rfl (rl_m (by decide)) (by decide) zd_M_barred_14 ?_
    have hs := hs.fld (k := 0) (Or.inl rfl) (1 : Int32)
    have hc := cd_at hs
    have hR := md_sm hs hR0
    refine jd_aload_n zd_M_barred_17 rfl ?_
    refine jd_get rfl rfl zl_M 0 (by decide) zi_680 rfl rfl (rl_m (by decide)) (by decide) zd_M_barred_18 ?_
    rw [hc]
    refine jd_if_ne 42 zd_M_barred_21 (by decide) (fun _ => ?_) (fun h => absurd h (by decide))
    refine jd_aload_n zd_M_barred_42 rfl ?_
    refine jd_get rfl rfl zl_M 0 (by decide) zi_680 rfl rfl (rl_m (by decide)) (by decide) zd_M_barred_43 ?_
    rw [hc]
    refine jd_if_le 51 zd_M_barred_46 (by decide) (fun h => absurd h (by decide)) (fun _ => ?_)
    refine jd_iconst (v := 0) zd_M_barred_49 (by decide) ?_
    exact jd_iret rfl ⟨_, rfl, fun h => absurd h (by decide), hc, hR, sm_fr hs, sm_reflL _⟩ (by decide) (by decide) zd_M_barred_50
  · rw [hN]
    refine ct_intro hls (own := zn_M) (by decide) rfl (Nat.le_of_ble_eq_true rfl) ?_
    refine jd_aload_n zd_M_barred_0 rfl ?_
    refine jd_aload_n zd_M_barred_1 rfl ?_
    refine jd_iload_n zd_M_barred_2 rfl ?_
    refine jd_callV (n := 1) (kc_isUnitT hls hR (ob_nI h12 ha)) rfl rfl rfl (rl_m (by decide)) (by decide) zi_782 zi_784 zi_26 zi_44 zi_785 (by decide +kernel) rfl rfl rfl (by decide) (Nat.le_of_ble_eq_true rfl) (by decide) zd_M_barred_3 (fun _ _ _ h => h.elim) (fun v S2 L2 hq => ?_)
    obtain ⟨rfl, rfl, rfl⟩ := hq
    refine jd_if_ne 13 zd_M_barred_6 (by decide) (fun _ => ?_) (fun h => absurd h (by decide))
    refine jd_iconst (v := 0) zd_M_barred_13 (by decide) ?_
    refine jd_put rfl rfl zl_M zp_M zm_M 0 (by decide) zi_680 rfl rfl rfl rfl rfl (Nat.le_of_ble_eq_true rfl) rfl (rl_m (by decide)) (by decide) zd_M_barred_14 ?_
    have hs := hs.fld (k := 0) (Or.inl rfl) (0 : Int32)
    have hc := cd_at hs
    have hR := md_sm hs hR0
    refine jd_aload_n zd_M_barred_17 rfl ?_
    refine jd_get rfl rfl zl_M 0 (by decide) zi_680 rfl rfl (rl_m (by decide)) (by decide) zd_M_barred_18 ?_
    rw [hc]
    refine jd_if_ne 42 zd_M_barred_21 (by decide) (fun h => absurd h (by decide)) (fun _ => ?_)
    refine jd_aload_n zd_M_barred_24 rfl ?_
    refine jd_aload_n zd_M_barred_25 rfl ?_
    refine jd_get rfl rfl zl_M 7 (by decide) zi_687 rfl rfl (rl_m (by decide)) (by decide) zd_M_barred_26 ?_
    refine jd_iload_n zd_M_barred_29 rfl ?_
    refine jd_zldN (r := 408) (c := a) rfl rfl (by omega) (n := 12) (by decide) (rl_m (by decide)) (by decide) zd_M_barred_30 ?_
    rw [mr_408 hR ha]
    refine jd_if_eq 38 zd_M_barred_31 (by decide) (fun h => absurd h h_5) (fun h => ?_)
    refine jd_iconst (v := 2) zd_M_barred_34 (by decide) ?_
    refine jd_goto 39 zd_M_barred_35 (by decide) ?_
    refine jd_put rfl rfl zl_M zp_M zm_M 0 (by decide) zi_680 rfl rfl rfl rfl rfl (Nat.le_of_ble_eq_true rfl) rfl (rl_m (by decide)) (by decide) zd_M_barred_39 ?_
    have hs := hs.fld (k := 0) (Or.inl rfl) (2 : Int32)
    have hc := cd_at hs
    have hR := md_sm hs hR0
    refine jd_aload_n zd_M_barred_42 rfl ?_
    refine jd_get rfl rfl zl_M 0 (by decide) zi_680 rfl rfl (rl_m (by decide)) (by decide) zd_M_barred_43 ?_
    rw [hc]
    refine jd_if_le 51 zd_M_barred_46 (by decide) (fun h => absurd h (by decide)) (fun _ => ?_)
    refine jd_iconst (v := 0) zd_M_barred_49 (by decide) ?_
    exact jd_iret rfl ⟨_, rfl, fun h => absurd h (by decide), hc, hR, sm_fr hs, sm_reflL _⟩ (by decide) (by decide) zd_M_barred_50
  · rw [hN]
    obtain ⟨g, hga, eg, hl⟩ := hA.2.2.1 a ha h_5
    obtain ⟨i, hi, ei, hsome⟩ := fa_ba_some (G := G) (g := (fa_ga G (nI g) w.2.2.1)) (n := w.2.2.2)
    rw [eg, ei]
    refine ct_intro hls (own := zn_M) (by decide) rfl (Nat.le_of_ble_eq_true rfl) ?_
    refine jd_aload_n zd_M_barred_0 rfl ?_
    refine jd_aload_n zd_M_barred_1 rfl ?_
    refine jd_iload_n zd_M_barred_2 rfl ?_
    refine jd_callV (n := 1) (kc_isUnitT hls hR (ob_nI h12 ha)) rfl rfl rfl (rl_m (by decide)) (by decide) zi_782 zi_784 zi_26 zi_44 zi_785 (by decide +kernel) rfl rfl rfl (by decide) (Nat.le_of_ble_eq_true rfl) (by decide) zd_M_barred_3 (fun _ _ _ h => h.elim) (fun v S2 L2 hq => ?_)
    obtain ⟨rfl, rfl, rfl⟩ := hq
    refine jd_if_ne 13 zd_M_barred_6 (by decide) (fun _ => ?_) (fun h => absurd h (by decide))
    refine jd_iconst (v := 0) zd_M_barred_13 (by decide) ?_
    refine jd_put rfl rfl zl_M zp_M zm_M 0 (by decide) zi_680 rfl rfl rfl rfl rfl (Nat.le_of_ble_eq_true rfl) rfl (rl_m (by decide)) (by decide) zd_M_barred_14 ?_
    have hs := hs.fld (k := 0) (Or.inl rfl) (0 : Int32)
    have hc := cd_at hs
    have hR := md_sm hs hR0
    refine jd_aload_n zd_M_barred_17 rfl ?_
    refine jd_get rfl rfl zl_M 0 (by decide) zi_680 rfl rfl (rl_m (by decide)) (by decide) zd_M_barred_18 ?_
    rw [hc]
    refine jd_if_ne 42 zd_M_barred_21 (by decide) (fun h => absurd h (by decide)) (fun _ => ?_)
    refine jd_aload_n zd_M_barred_24 rfl ?_
    refine jd_aload_n zd_M_barred_25 rfl ?_
    refine jd_get rfl rfl zl_M 7 (by decide) zi_687 rfl rfl (rl_m (by decide)) (by decide) zd_M_barred_26 ?_
    refine jd_iload_n zd_M_barred_29 rfl ?_
    refine jd_zldN (r := 408) (c := a) rfl rfl (by omega) (n := 12) (by decide) (rl_m (by decide)) (by decide) zd_M_barred_30 ?_
    rw [mr_408 hR ha]
    refine jd_if_eq 38 zd_M_barred_31 (by decide) (fun h => ?_) (fun h => absurd h_5 h)
    refine jd_iconst (v := 0) zd_M_barred_38 (by decide) ?_
    refine jd_put rfl rfl zl_M zp_M zm_M 0 (by decide) zi_680 rfl rfl rfl rfl rfl (Nat.le_of_ble_eq_true rfl) rfl (rl_m (by decide)) (by decide) zd_M_barred_39 ?_
    have hs := hs.fld (k := 0) (Or.inl rfl) (0 : Int32)
    have hc := cd_at hs
    have hR := md_sm hs hR0
    refine jd_aload_n zd_M_barred_42 rfl ?_
    refine jd_get rfl rfl zl_M 0 (by decide) zi_680 rfl rfl (rl_m (by decide)) (by decide) zd_M_barred_43 ?_
    rw [hc]
    refine jd_if_le 51 zd_M_barred_46 (by decide) (fun _ => ?_) (fun h => absurd h (by decide))
    refine jd_iconst (v := 1) zd_M_barred_51 (by decide) ?_
    refine jd_istore_n zd_M_barred_52 (by decide) ?_
    exact jd_sub [(0, av_r 400), (1, av_i (nI a)), (2, av_i (nI (0 + 1)))] ⟨rfl, rfl, rfl, trivial⟩ (kl_Mbarred2 (Qp := po_M w 0 (nI i) G S L) hls hA hR ha eg (by omega) hl hi hsome ⟨_, rfl, fun _ => rfl, hc, hR, sm_fr hs, sm_reflL _⟩ 6 0 (by omega) (by omega) (by omega))
set_option maxRecDepth 100000 in
set_option maxHeartbeats 4000000 in
theorem kl_Mtrip1 {l : Launch} (hls : l.stackTraces = false) {D : va_G} {w : wd_T} {S : Nat → Nat → Int32} {L : Nat → Nat → Int64} {G : Nat → Nat → Int32} (hA : ok_A w G) (hR : md_R w G S) (a z : Nat) {Qp : jd_P}  : ∀ (k u : Nat), u ≤ w.2.2.1 → w.2.2.1 < u + k → ∀ num st ld ldm fi : Int32, (st = 0 ∧ fi = 1) ∨ (st = 1 ∧ fi = 0 ∧ ldm = ld) → ((fa_t1 G (nI z) (nI a) (w.2.2.1 - u) u num st ld).1 = true → Qp.1 (some (av_i (fa_t1 G (nI z) (nI a) (w.2.2.1 - u) u num st ld).2)) S L) → ((fa_t1 G (nI z) (nI a) (w.2.2.1 - u) u num st ld).1 = false → ∀ y, jd_J l D w zn_M zb_M_trip 8 (Option.some Jvm.ClassFile.FieldType.int) [] ({ frames := 2, cells := 0, slots := 0, locals := 43 } : Room) 0 0 Qp 0 0 189 [(0, av_r 400), (1, av_i (nI a)), (2, av_i (fa_t1 G (nI z) (nI a) (w.2.2.1 - u) u num st ld).2), (3, av_i y), (4, av_i (nI z))] [] S L) → jd_J l D w zn_M zb_M_trip 8 (Option.some Jvm.ClassFile.FieldType.int) [] ({ frames := 2, cells := 0, slots := 0, locals := 43 } : Room) 0 0 Qp 0 0 55 [(0, av_r 400), (1, av_i (nI a)), (2, av_i num), (3, av_i ldm), (4, av_i (nI z)), (5, av_i fi), (6, av_i (nI u))] [] S L := by
  have h12 := hA.1.1
  have h13 := hA.1.2.1
  intro k
  induction k with
  | zero => intro u h1 h2; omega
  | succ k ih =>
    intro u hu hk num st ld ldm fi hst hF hG
    refine jd_iload zd_M_trip_55 rfl ?_
    refine jd_aload_n zd_M_trip_57 rfl ?_
    refine jd_get rfl rfl zl_M 1 (by decide) zi_681 rfl rfl (rl_m (by decide)) (by decide) zd_M_trip_58 ?_
    refine jd_icmp_ge 189 zd_M_trip_61 (by decide) (fun h_61 => ?_) (fun h_61 => ?_)
    · have e_u := nI_end hR.1.1 (by omega) hu h_61
      subst e_u
      rw [Nat.sub_self] at hG
      exact jd_sub [(0, av_r 400), (1, av_i (nI a)), (2, av_i num), (3, av_i ldm), (4, av_i (nI z))] ⟨rfl, rfl, rfl, rfl, rfl, trivial⟩ (hG rfl ldm)
    · have hu2 := nI_on hR.1.1 (by omega) hu h_61
      have e_k : w.2.2.1 - u = (w.2.2.1 - (u + 1)) + 1 := by omega
      rw [e_k] at hF hG
      simp only [fa_t1] at hF hG
      refine jd_aload_n zd_M_trip_64 rfl ?_
      refine jd_iload zd_M_trip_65 rfl ?_
      refine jd_callV (n := 1) (kc_MisPlanned hls hA hR hu2) rfl rfl rfl (rl_m (by decide)) (by decide) zi_892 zi_894 zi_39 zi_44 zi_895 (by decide +kernel) rfl rfl rfl (by decide) (Nat.le_of_ble_eq_true rfl) (by decide) zd_M_trip_67 (fun _ _ _ h => h.elim) (fun v S2 L2 hq => ?_)
      obtain ⟨rfl, rfl, rfl⟩ := hq
      refine jd_if_eq 183 zd_M_trip_70 (by decide) (fun h_70 => ?_) (fun h_70 => ?_)
      · rw [if_neg (show ¬ fa_gt G u (nI z) = true by simp [fa_gt, bi_z h_70])] at hF hG
        refine jd_iinc (v := nI (u + 1)) zd_M_trip_183 rfl (nI_inc u) (by decide) ?_
        refine jd_goto 55 zd_M_trip_186 (by decide) ?_
        exact jd_sub [(0, av_r 400), (1, av_i (nI a)), (2, av_i _), (3, av_i _), (4, av_i (nI z)), (5, av_i _), (6, av_i (nI (u + 1)))] ⟨rfl, rfl, rfl, rfl, rfl, rfl, rfl, trivial⟩ (ih (u + 1) (by omega) (by omega) _ _ _ _ _ hst hF hG)
      · have h_pu := bi_n h_70
        obtain ⟨p, hp, ep⟩ : ∃ p, p < w.2.2.2 ∧ G (100 + u) 3 = nI p := by
          rcases (hA.2.1 u hu2).2.2.1 with e | e
          · simp [fa_pl, e] at h_pu
          · exact e
        refine jd_aload_n zd_M_trip_73 rfl ?_
        refine jd_get rfl rfl zl_M 12 (by decide) zi_692 rfl rfl (rl_m (by decide)) (by decide) zd_M_trip_74 ?_
        refine jd_aload_n zd_M_trip_77 rfl ?_
        refine jd_iload zd_M_trip_78 rfl ?_
        refine jd_callV (n := 1) (kc_MisPlanned hls hA hR hu2) rfl rfl rfl (rl_m (by decide)) (by decide) zi_892 zi_894 zi_39 zi_44 zi_895 (by decide +kernel) rfl rfl rfl (by decide) (Nat.le_of_ble_eq_true rfl) (by decide) zd_M_trip_80 (fun _ _ _ h => h.elim) (fun v S2 L2 hq => ?_)
        obtain ⟨rfl, rfl, rfl⟩ := hq
        refine jd_if_eq 96 zd_M_trip_83 (by decide) (fun h_83 => ?_) (fun h_83 => ?_)
        · exact absurd h_83 h_70
        · refine jd_aload_n zd_M_trip_86 rfl ?_
          refine jd_get rfl rfl zl_M 6 (by decide) zi_686 rfl rfl (rl_m (by decide)) (by decide) zd_M_trip_87 ?_
          refine jd_iload zd_M_trip_90 rfl ?_
          refine jd_ildN (r := 407) (c := u) rfl rfl (by omega) (n := 12) (by decide) (rl_m (by decide)) (by decide) zd_M_trip_92 ?_
          rw [mr_407 hR hu2]
          refine jd_goto 97 zd_M_trip_93 (by decide) ?_
          refine jd_ildN (r := 413) (c := p) rfl ep (by omega) (n := 12) (by decide) (rl_m (by decide)) (by decide) zd_M_trip_97 ?_
          rw [mr_413 hR hp]
          refine jd_iload zd_M_trip_98 rfl ?_
          refine jd_icmp_eq 106 zd_M_trip_100 (by decide) (fun h_100 => ?_) (fun h_100 => ?_)
          · have h_gt : fa_gt G u (nI z) = true := by simp [fa_gt, h_pu, ep, nI_clamp (show p < 2 ^ 31 by omega), h_100]
            rw [if_pos h_gt] at hF hG
            refine jd_iload zd_M_trip_106 rfl ?_
            refine jd_if_ne 131 zd_M_trip_108 (by decide) (fun h_108 => ?_) (fun h_108 => ?_)
            · rw [if_pos (show st = 0 ∨ G 0 9 < ld + G (100 + u) 1 from Or.inl (by rcases hst with ⟨q1, q2⟩ | ⟨q1, q2, q3⟩; exact q1; exact absurd q2 h_108))] at hF hG
              refine jd_iconst (v := 0) zd_M_trip_131 (by decide) ?_
              refine jd_istore zd_M_trip_132 (by decide) ?_
              refine jd_iload_n zd_M_trip_134 rfl ?_
              refine jd_iload zd_M_trip_135 rfl ?_
              refine jd_if_eq 144 zd_M_trip_137 (by decide) (fun _ => ?_) (fun h => absurd h (by decide))
              refine jd_iconst (v := 1) zd_M_trip_144 (by decide) ?_
              refine jd_iadd zd_M_trip_145 ?_
              refine jd_istore_n zd_M_trip_146 (by decide) ?_
              refine jd_iload zd_M_trip_147 rfl ?_
              refine jd_if_eq 164 zd_M_trip_149 (by decide) (fun _ => ?_) (fun h => absurd h (by decide))
              refine jd_aload_n zd_M_trip_164 rfl ?_
              refine jd_get rfl rfl zl_M 3 (by decide) zi_683 rfl rfl (rl_m (by decide)) (by decide) zd_M_trip_165 ?_
              refine jd_iload zd_M_trip_168 rfl ?_
              refine jd_ildN (r := 404) (c := u) rfl rfl (by omega) (n := 12) (by decide) (rl_m (by decide)) (by decide) zd_M_trip_170 ?_
              rw [mr_404 hR hu2]
              refine jd_istore_n zd_M_trip_171 (by decide) ?_
              refine jd_iconst (v := 0) zd_M_trip_172 (by decide) ?_
              refine jd_istore zd_M_trip_173 (by decide) ?_
              refine jd_iload zd_M_trip_175 rfl ?_
              refine jd_iload_n zd_M_trip_177 rfl ?_
              refine jd_icmp_ne 183 zd_M_trip_178 (by decide) (fun h_178 => ?_) (fun h_178 => ?_)
              · rw [if_neg h_178] at hF hG
                refine jd_iinc (v := nI (u + 1)) zd_M_trip_183 rfl (nI_inc u) (by decide) ?_
                refine jd_goto 55 zd_M_trip_186 (by decide) ?_
                exact jd_sub [(0, av_r 400), (1, av_i (nI a)), (2, av_i _), (3, av_i _), (4, av_i (nI z)), (5, av_i _), (6, av_i (nI (u + 1)))] ⟨rfl, rfl, rfl, rfl, rfl, rfl, rfl, trivial⟩ (ih (u + 1) (by omega) (by omega) _ _ _ _ _ (Or.inr ⟨rfl, rfl, (Int32.zero_add _).symm⟩) hF hG)
              · rw [if_pos h_178] at hF hG
                refine jd_iload_n zd_M_trip_181 rfl ?_
                exact jd_iret rfl (hF rfl) (by decide) (by decide) zd_M_trip_182
            · obtain ⟨e_st, e_ld⟩ : st = 1 ∧ ldm = ld := by rcases hst with ⟨q1, q2⟩ | ⟨q1, q2, q3⟩; exact absurd h_108 (by rw [q2]; decide); exact ⟨q1, q3⟩
              subst e_st
              subst e_ld
              refine jd_iload_n zd_M_trip_111 rfl ?_
              refine jd_aload_n zd_M_trip_112 rfl ?_
              refine jd_get rfl rfl zl_M 3 (by decide) zi_683 rfl rfl (rl_m (by decide)) (by decide) zd_M_trip_113 ?_
              refine jd_iload zd_M_trip_116 rfl ?_
              refine jd_ildN (r := 404) (c := u) rfl rfl (by omega) (n := 12) (by decide) (rl_m (by decide)) (by decide) zd_M_trip_118 ?_
              rw [mr_404 hR hu2]
              refine jd_iadd zd_M_trip_119 ?_
              refine jd_aload_n zd_M_trip_120 rfl ?_
              refine jd_get rfl rfl zl_M 18 (by decide) zi_698 rfl rfl (rl_m (by decide)) (by decide) zd_M_trip_121 ?_
              rw [hR.1.2.2.2.1]
              refine jd_icmp_gt 131 zd_M_trip_124 (by decide) (fun h_124 => ?_) (fun h_124 => ?_)
              · rw [if_pos (show (1 : Int32) = 0 ∨ G 0 9 < ldm + G (100 + u) 1 from Or.inr h_124)] at hF hG
                refine jd_iconst (v := 0) zd_M_trip_131 (by decide) ?_
                refine jd_istore zd_M_trip_132 (by decide) ?_
                refine jd_iload_n zd_M_trip_134 rfl ?_
                refine jd_iload zd_M_trip_135 rfl ?_
                refine jd_if_eq 144 zd_M_trip_137 (by decide) (fun _ => ?_) (fun h => absurd h (by decide))
                refine jd_iconst (v := 1) zd_M_trip_144 (by decide) ?_
                refine jd_iadd zd_M_trip_145 ?_
                refine jd_istore_n zd_M_trip_146 (by decide) ?_
                refine jd_iload zd_M_trip_147 rfl ?_
                refine jd_if_eq 164 zd_M_trip_149 (by decide) (fun _ => ?_) (fun h => absurd h (by decide))
                refine jd_aload_n zd_M_trip_164 rfl ?_
                refine jd_get rfl rfl zl_M 3 (by decide) zi_683 rfl rfl (rl_m (by decide)) (by decide) zd_M_trip_165 ?_
                refine jd_iload zd_M_trip_168 rfl ?_
                refine jd_ildN (r := 404) (c := u) rfl rfl (by omega) (n := 12) (by decide) (rl_m (by decide)) (by decide) zd_M_trip_170 ?_
                rw [mr_404 hR hu2]
                refine jd_istore_n zd_M_trip_171 (by decide) ?_
                refine jd_iconst (v := 0) zd_M_trip_172 (by decide) ?_
                refine jd_istore zd_M_trip_173 (by decide) ?_
                refine jd_iload zd_M_trip_175 rfl ?_
                refine jd_iload_n zd_M_trip_177 rfl ?_
                refine jd_icmp_ne 183 zd_M_trip_178 (by decide) (fun h_178 => ?_) (fun h_178 => ?_)
                · rw [if_neg h_178] at hF hG
                  refine jd_iinc (v := nI (u + 1)) zd_M_trip_183 rfl (nI_inc u) (by decide) ?_
                  refine jd_goto 55 zd_M_trip_186 (by decide) ?_
                  exact jd_sub [(0, av_r 400), (1, av_i (nI a)), (2, av_i _), (3, av_i _), (4, av_i (nI z)), (5, av_i _), (6, av_i (nI (u + 1)))] ⟨rfl, rfl, rfl, rfl, rfl, rfl, rfl, trivial⟩ (ih (u + 1) (by omega) (by omega) _ _ _ _ _ (Or.inr ⟨rfl, rfl, (Int32.zero_add _).symm⟩) hF hG)
                · rw [if_pos h_178] at hF hG
                  refine jd_iload_n zd_M_trip_181 rfl ?_
                  exact jd_iret rfl (hF rfl) (by decide) (by decide) zd_M_trip_182
              · rw [if_neg (show ¬ ((1 : Int32) = 0 ∨ G 0 9 < ldm + G (100 + u) 1) from fun q => by rcases q with q | q; exact absurd q (by decide); exact absurd q h_124)] at hF hG
                refine jd_iconst (v := 1) zd_M_trip_127 (by decide) ?_
                refine jd_goto 132 zd_M_trip_128 (by decide) ?_
                refine jd_istore zd_M_trip_132 (by decide) ?_
                refine jd_iload_n zd_M_trip_134 rfl ?_
                refine jd_iload zd_M_trip_135 rfl ?_
                refine jd_if_eq 144 zd_M_trip_137 (by decide) (fun h => absurd h (by decide)) (fun _ => ?_)
                refine jd_iconst (v := 0) zd_M_trip_140 (by decide) ?_
                refine jd_goto 145 zd_M_trip_141 (by decide) ?_
                refine jd_iadd zd_M_trip_145 ?_
                rw [Int32.add_zero]
                refine jd_istore_n zd_M_trip_146 (by decide) ?_
                refine jd_iload zd_M_trip_147 rfl ?_
                refine jd_if_eq 164 zd_M_trip_149 (by decide) (fun h => absurd h (by decide)) (fun _ => ?_)
                refine jd_iload_n zd_M_trip_152 rfl ?_
                refine jd_aload_n zd_M_trip_153 rfl ?_
                refine jd_get rfl rfl zl_M 3 (by decide) zi_683 rfl rfl (rl_m (by decide)) (by decide) zd_M_trip_154 ?_
                refine jd_iload zd_M_trip_157 rfl ?_
                refine jd_ildN (r := 404) (c := u) rfl rfl (by omega) (n := 12) (by decide) (rl_m (by decide)) (by decide) zd_M_trip_159 ?_
                rw [mr_404 hR hu2]
                refine jd_iadd zd_M_trip_160 ?_
                refine jd_goto 171 zd_M_trip_161 (by decide) ?_
                refine jd_istore_n zd_M_trip_171 (by decide) ?_
                refine jd_iconst (v := 0) zd_M_trip_172 (by decide) ?_
                refine jd_istore zd_M_trip_173 (by decide) ?_
                refine jd_iload zd_M_trip_175 rfl ?_
                refine jd_iload_n zd_M_trip_177 rfl ?_
                refine jd_icmp_ne 183 zd_M_trip_178 (by decide) (fun h_178 => ?_) (fun h_178 => ?_)
                · rw [if_neg h_178] at hF hG
                  refine jd_iinc (v := nI (u + 1)) zd_M_trip_183 rfl (nI_inc u) (by decide) ?_
                  refine jd_goto 55 zd_M_trip_186 (by decide) ?_
                  exact jd_sub [(0, av_r 400), (1, av_i (nI a)), (2, av_i _), (3, av_i _), (4, av_i (nI z)), (5, av_i _), (6, av_i (nI (u + 1)))] ⟨rfl, rfl, rfl, rfl, rfl, rfl, rfl, trivial⟩ (ih (u + 1) (by omega) (by omega) _ _ _ _ _ (Or.inr ⟨rfl, rfl, rfl⟩) hF hG)
                · rw [if_pos h_178] at hF hG
                  refine jd_iload_n zd_M_trip_181 rfl ?_
                  exact jd_iret rfl (hF rfl) (by decide) (by decide) zd_M_trip_182
          · have h_gt : ¬ fa_gt G u (nI z) = true := by simp [fa_gt, h_pu, ep, nI_clamp (show p < 2 ^ 31 by omega), h_100]
            rw [if_neg h_gt] at hF hG
            refine jd_goto 183 zd_M_trip_103 (by decide) ?_
            refine jd_iinc (v := nI (u + 1)) zd_M_trip_183 rfl (nI_inc u) (by decide) ?_
            refine jd_goto 55 zd_M_trip_186 (by decide) ?_
            exact jd_sub [(0, av_r 400), (1, av_i (nI a)), (2, av_i _), (3, av_i _), (4, av_i (nI z)), (5, av_i _), (6, av_i (nI (u + 1)))] ⟨rfl, rfl, rfl, rfl, rfl, rfl, rfl, trivial⟩ (ih (u + 1) (by omega) (by omega) _ _ _ _ _ hst hF hG)
set_option maxRecDepth 100000 in
set_option maxHeartbeats 4000000 in
theorem kl_Mtrip2 {l : Launch} (hls : l.stackTraces = false) {D : va_G} {w : wd_T} {S : Nat → Nat → Int32} {L : Nat → Nat → Int64} {G : Nat → Nat → Int32} (hA : ok_A w G) (hR : md_R w G S) {a z0 : Nat} (ha : a < w.2.2.1) (hz0 : z0 < 4) (hgt : fa_gt G a (nI z0) = true) {Qp : jd_P}  : ∀ (k u : Nat), u ≤ 4 → 4 < u + k → ∀ num ldm : Int32, u ≤ z0 → Qp.1 (some (av_i (fa_t2 G (nI a) w.2.2.1 (4 - u) u num))) S L → jd_J l D w zn_M zb_M_trip 8 (Option.some Jvm.ClassFile.FieldType.int) [] ({ frames := 2, cells := 0, slots := 0, locals := 43 } : Room) 0 0 Qp 0 0 43 [(0, av_r 400), (1, av_i (nI a)), (2, av_i num), (3, av_i ldm), (4, av_i (nI u))] [] S L := by
  have h12 := hA.1.1
  have h13 := hA.1.2.1
  intro k
  induction k with
  | zero => intro u h1 h2; omega
  | succ k ih =>
    intro u hu hk num ldm huz hQ
    refine jd_iload zd_M_trip_43 rfl ?_
    refine jd_iconst (v := nI 4) zd_M_trip_45 (by decide) ?_
    refine jd_icmp_ge 195 zd_M_trip_46 (by decide) (fun h_46 => ?_) (fun h_46 => ?_)
    · rw [nI_leI (by decide) (by omega)] at h_46
      omega
    · rw [nI_leI (by decide) (by omega)] at h_46
      have e_k : 4 - u = (4 - (u + 1)) + 1 := by omega
      rw [e_k] at hQ
      simp only [fa_t2] at hQ
      refine jd_iconst (v := 1) zd_M_trip_49 (by decide) ?_
      refine jd_istore zd_M_trip_50 (by decide) ?_
      refine jd_iconst (v := 0) zd_M_trip_52 (by decide) ?_
      refine jd_istore zd_M_trip_53 (by decide) ?_
      refine jd_sub [(0, av_r 400), (1, av_i (nI a)), (2, av_i num), (3, av_i ldm), (4, av_i (nI u)), (5, av_i 1), (6, av_i (nI 0))] ⟨rfl, rfl, rfl, rfl, rfl, rfl, rfl, trivial⟩ (kl_Mtrip1 hls hA hR a u (w.2.2.1 + 1) 0 (by omega) (by omega) num 0 0 ldm 1 (Or.inl ⟨rfl, rfl⟩) (fun h => by rw [Nat.sub_zero] at h ⊢; rw [if_pos h] at hQ; exact hQ) (fun h y => ?_))
      rw [Nat.sub_zero] at h ⊢
      rw [if_neg (by rw [h]; decide)] at hQ
      have hzu : u ≠ z0 := fun e => by rw [e, fa_t1_yes hgt _ 0 _ _ _ (by omega) (by omega)] at h; exact absurd h (by decide)
      refine jd_iinc (v := nI (u + 1)) zd_M_trip_189 rfl (nI_inc u) (by decide) ?_
      refine jd_goto 43 zd_M_trip_192 (by decide) ?_
      exact jd_sub [(0, av_r 400), (1, av_i (nI a)), (2, av_i _), (3, av_i _), (4, av_i (nI (u + 1)))] ⟨rfl, rfl, rfl, rfl, rfl, trivial⟩ (ih (u + 1) (by omega) (by omega) _ _ (by omega) hQ)
set_option maxRecDepth 100000 in
set_option maxHeartbeats 4000000 in
theorem kc_Mtrip {l : Launch} (hls : l.stackTraces = false) {D : va_G} {w : wd_T} {S : Nat → Nat → Int32} {L : Nat → Nat → Int64} {G : Nat → Nat → Int32} (hA : ok_A w G) (hR0 : md_R w G S) {x : Int32} {c v : Int32} {N : Nat → Nat → Int32} (hO : ou_trip w G x c v N) : ct_M l D w zy_M_trip (Cond.code zy_M_trip zb_M_trip 8 (Option.some Jvm.ClassFile.FieldType.int)) ({ frames := 2, cells := 0, slots := 0, locals := 43 } : Room) [av_r 400, av_i x] S L (po_M w c v N S L) 0 0 := by
  have h12 := hA.1.1
  have h13 := hA.1.2.1
  have hs := sm_refl S
  have hR := hR0
  rcases hO with ⟨hN, ⟨h_o, rfl⟩ | ⟨a, ha, rfl, rfl, rfl⟩⟩
  · rw [hN]
    refine ct_intro hls (own := zn_M) (by decide) rfl (Nat.le_of_ble_eq_true rfl) ?_
    refine jd_aload_n zd_M_trip_0 rfl ?_
    refine jd_aload_n zd_M_trip_1 rfl ?_
    refine jd_iload_n zd_M_trip_2 rfl ?_
    refine jd_callV (n := 1) (kc_isUnitF hls hR h_o) rfl rfl rfl (rl_m (by decide)) (by decide) zi_782 zi_784 zi_26 zi_44 zi_785 (by decide +kernel) rfl rfl rfl (by decide) (Nat.le_of_ble_eq_true rfl) (by decide) zd_M_trip_3 (fun _ _ _ h => h.elim) (fun v S2 L2 hq => ?_)
    obtain ⟨rfl, rfl, rfl⟩ := hq
    refine jd_if_eq 13 zd_M_trip_6 (by decide) (fun _ => ?_) (fun h => absurd h (by decide))
    refine jd_iconst (v := 1) zd_M_trip_13 (by decide) ?_
    refine jd_put rfl rfl zl_M zp_M zm_M 0 (by decide) zi_680 rfl rfl rfl rfl rfl (Nat.le_of_ble_eq_true rfl) rfl (rl_m (by decide)) (by decide) zd_M_trip_14 ?_
    have hs := hs.fld (k := 0) (Or.inl rfl) (1 : Int32)
    have hc := cd_at hs
    have hR := md_sm hs hR0
    refine jd_aload_n zd_M_trip_17 rfl ?_
    refine jd_get rfl rfl zl_M 0 (by decide) zi_680 rfl rfl (rl_m (by decide)) (by decide) zd_M_trip_18 ?_
    rw [hc]
    refine jd_if_le 26 zd_M_trip_21 (by decide) (fun h => absurd h (by decide)) (fun _ => ?_)
    refine jd_iconst (v := 0) zd_M_trip_24 (by decide) ?_
    exact jd_iret rfl ⟨_, rfl, fun h => absurd h (by decide), hc, hR, sm_fr hs, sm_reflL _⟩ (by decide) (by decide) zd_M_trip_25
  · rw [hN]
    cases h_pl : fa_pl G a with
    | false =>
      refine ct_intro hls (own := zn_M) (by decide) rfl (Nat.le_of_ble_eq_true rfl) ?_
      refine jd_aload_n zd_M_trip_0 rfl ?_
      refine jd_aload_n zd_M_trip_1 rfl ?_
      refine jd_iload_n zd_M_trip_2 rfl ?_
      refine jd_callV (n := 1) (kc_isUnitT hls hR (ob_nI h12 ha)) rfl rfl rfl (rl_m (by decide)) (by decide) zi_782 zi_784 zi_26 zi_44 zi_785 (by decide +kernel) rfl rfl rfl (by decide) (Nat.le_of_ble_eq_true rfl) (by decide) zd_M_trip_3 (fun _ _ _ h => h.elim) (fun v S2 L2 hq => ?_)
      obtain ⟨rfl, rfl, rfl⟩ := hq
      refine jd_if_eq 13 zd_M_trip_6 (by decide) (fun h => absurd h (by decide)) (fun _ => ?_)
      refine jd_iconst (v := 0) zd_M_trip_9 (by decide) ?_
      refine jd_goto 14 zd_M_trip_10 (by decide) ?_
      refine jd_put rfl rfl zl_M zp_M zm_M 0 (by decide) zi_680 rfl rfl rfl rfl rfl (Nat.le_of_ble_eq_true rfl) rfl (rl_m (by decide)) (by decide) zd_M_trip_14 ?_
      have hs := hs.fld (k := 0) (Or.inl rfl) (0 : Int32)
      have hc := cd_at hs
      have hR := md_sm hs hR0
      refine jd_aload_n zd_M_trip_17 rfl ?_
      refine jd_get rfl rfl zl_M 0 (by decide) zi_680 rfl rfl (rl_m (by decide)) (by decide) zd_M_trip_18 ?_
      rw [hc]
      refine jd_if_le 26 zd_M_trip_21 (by decide) (fun _ => ?_) (fun h => absurd h (by decide))
      refine jd_aload_n zd_M_trip_26 rfl ?_
      refine jd_iload_n zd_M_trip_27 rfl ?_
      refine jd_callV (n := 1) (kc_MisPlanned hls hA hR ha) rfl rfl rfl (rl_m (by decide)) (by decide) zi_892 zi_894 zi_39 zi_44 zi_895 (by decide +kernel) rfl rfl rfl (by decide) (Nat.le_of_ble_eq_true rfl) (by decide) zd_M_trip_28 (fun _ _ _ h => h.elim) (fun v S2 L2 hq => ?_)
      obtain ⟨rfl, rfl, rfl⟩ := hq
      rw [h_pl]
      refine jd_if_ne 36 zd_M_trip_31 (by decide) (fun h => absurd rfl h) (fun _ => ?_)
      refine jd_iconst (v := (-1)) zd_M_trip_34 (by decide) ?_
      exact jd_iret rfl ⟨_, rfl, fun _ => (fa_t2_no (by omega) (by omega) h_pl 4 0 (-1)).symm, hc, hR, sm_fr hs, sm_reflL _⟩ (by decide) (by decide) zd_M_trip_35
    | true =>
      obtain ⟨p, hp, ep⟩ : ∃ p, p < w.2.2.2 ∧ G (100 + a) 3 = nI p := by
        rcases (hA.2.1 a ha).2.2.1 with e | e
        · simp [fa_pl, e] at h_pl
        · exact e
      obtain ⟨z0, hz0, ez0⟩ := (hA.2.2.2.2.1.2.2.1 p hp).2.2.2
      have hgt : fa_gt G a (nI z0) = true := by simp [fa_gt, h_pl, ep, nI_clamp (show p < 2 ^ 31 by omega), ez0]
      refine ct_intro hls (own := zn_M) (by decide) rfl (Nat.le_of_ble_eq_true rfl) ?_
      refine jd_aload_n zd_M_trip_0 rfl ?_
      refine jd_aload_n zd_M_trip_1 rfl ?_
      refine jd_iload_n zd_M_trip_2 rfl ?_
      refine jd_callV (n := 1) (kc_isUnitT hls hR (ob_nI h12 ha)) rfl rfl rfl (rl_m (by decide)) (by decide) zi_782 zi_784 zi_26 zi_44 zi_785 (by decide +kernel) rfl rfl rfl (by decide) (Nat.le_of_ble_eq_true rfl) (by decide) zd_M_trip_3 (fun _ _ _ h => h.elim) (fun v S2 L2 hq => ?_)
      obtain ⟨rfl, rfl, rfl⟩ := hq
      refine jd_if_eq 13 zd_M_trip_6 (by decide) (fun h => absurd h (by decide)) (fun _ => ?_)
      refine jd_iconst (v := 0) zd_M_trip_9 (by decide) ?_
      refine jd_goto 14 zd_M_trip_10 (by decide) ?_
      refine jd_put rfl rfl zl_M zp_M zm_M 0 (by decide) zi_680 rfl rfl rfl rfl rfl (Nat.le_of_ble_eq_true rfl) rfl (rl_m (by decide)) (by decide) zd_M_trip_14 ?_
      have hs := hs.fld (k := 0) (Or.inl rfl) (0 : Int32)
      have hc := cd_at hs
      have hR := md_sm hs hR0
      refine jd_aload_n zd_M_trip_17 rfl ?_
      refine jd_get rfl rfl zl_M 0 (by decide) zi_680 rfl rfl (rl_m (by decide)) (by decide) zd_M_trip_18 ?_
      rw [hc]
      refine jd_if_le 26 zd_M_trip_21 (by decide) (fun _ => ?_) (fun h => absurd h (by decide))
      refine jd_aload_n zd_M_trip_26 rfl ?_
      refine jd_iload_n zd_M_trip_27 rfl ?_
      refine jd_callV (n := 1) (kc_MisPlanned hls hA hR ha) rfl rfl rfl (rl_m (by decide)) (by decide) zi_892 zi_894 zi_39 zi_44 zi_895 (by decide +kernel) rfl rfl rfl (by decide) (Nat.le_of_ble_eq_true rfl) (by decide) zd_M_trip_28 (fun _ _ _ h => h.elim) (fun v S2 L2 hq => ?_)
      obtain ⟨rfl, rfl, rfl⟩ := hq
      rw [h_pl]
      refine jd_if_ne 36 zd_M_trip_31 (by decide) (fun _ => ?_) (fun h => absurd h (by decide))
      refine jd_iconst (v := (-1)) zd_M_trip_36 (by decide) ?_
      refine jd_istore_n zd_M_trip_37 (by decide) ?_
      refine jd_iconst (v := 0) zd_M_trip_38 (by decide) ?_
      refine jd_istore_n zd_M_trip_39 (by decide) ?_
      refine jd_iconst (v := 0) zd_M_trip_40 (by decide) ?_
      refine jd_istore zd_M_trip_41 (by decide) ?_
      exact jd_sub [(0, av_r 400), (1, av_i (nI a)), (2, av_i (-1)), (3, av_i 0), (4, av_i (nI 0))] ⟨rfl, rfl, rfl, rfl, rfl, trivial⟩ (kl_Mtrip2 (Qp := po_M w 0 (fa_t2 G (nI a) w.2.2.1 4 0 (-1)) G S L) hls hA hR ha hz0 hgt 5 0 (by omega) (by omega) (-1) 0 (by omega) ⟨_, rfl, fun _ => rfl, hc, hR, sm_fr hs, sm_reflL _⟩)
