/-! THE MODEL: put, block, together (rows by wip/whole/gen/m4.py) -/
set_option maxRecDepth 100000 in
set_option maxHeartbeats 4000000 in
theorem kl_Mput {l : Launch} (hls : l.stackTraces = false) {D : va_G} {w : wd_T} {L : Nat → Nat → Int64} {G B : Nat → Nat → Int32} (hA : ok_A w G) (hB1 : B 400 1 = nI w.2.2.1) (hB5 : ∀ v, v < w.2.2.1 → B 405 v = G (100 + v) 2) {a g : Nat} (ha : a < w.2.2.1) (eg : G (100 + a) 2 = nI g) (hg : g < w.2.2.1) (hl : fa_gr G g = true) {Qp : jd_P} (hQ : ∀ T, ml_w w.2.2.1 B T 408 (fun u => fa_in G u (nI g)) 1 w.2.2.1 → Qp.1 (some (av_i (fa_ga G (nI g) w.2.2.1 1))) T L) : ∀ (k u : Nat), u ≤ w.2.2.1 → w.2.2.1 < u + k → ∀ T, ml_w w.2.2.1 B T 408 (fun u => fa_in G u (nI g)) 1 u → jd_J l D w zn_M zb_M_put 4 (Option.some Jvm.ClassFile.FieldType.int) [] ({ frames := 3, cells := 0, slots := 0, locals := 72 } : Room) 0 0 Qp 0 0 125 [(0, av_r 400), (1, av_i (nI a)), (2, av_i (fa_ga G (nI g) u 1)), (3, av_i (nI u))] [] T L := by
  have h12 := hA.1.1
  intro k
  induction k with
  | zero => intro u h1 h2; omega
  | succ k ih =>
    intro u hu hk T hW
    refine jd_iload_n zd_M_put_125 rfl ?_
    refine jd_aload_n zd_M_put_126 rfl ?_
    refine jd_get rfl rfl zl_M 1 (by decide) zi_681 rfl rfl (rl_m (by decide)) (by decide) zd_M_put_127 ?_
    refine jd_icmp_ge 167 zd_M_put_130 (by decide) (fun h_130 => ?_) (fun h_130 => ?_)
    · have e_u := nI_end (show T 400 1 = nI w.2.2.1 by rw [hW.1 400 (by decide)]; exact hB1) (by omega) hu h_130
      subst e_u
      refine jd_iload_n zd_M_put_167 rfl ?_
      exact jd_iret rfl (hQ T hW) (by decide) (by decide) zd_M_put_168
    · have hu2 := nI_on (show T 400 1 = nI w.2.2.1 by rw [hW.1 400 (by decide)]; exact hB1) (by omega) hu h_130
      refine jd_aload_n zd_M_put_133 rfl ?_
      refine jd_get rfl rfl zl_M 4 (by decide) zi_684 rfl rfl (rl_m (by decide)) (by decide) zd_M_put_134 ?_
      refine jd_iload_n zd_M_put_137 rfl ?_
      refine jd_ildN (r := 405) (c := u) rfl rfl (by omega) (n := 12) (by decide) (rl_m (by decide)) (by decide) zd_M_put_138 ?_
      rw [hW.1 405 (by decide), hB5 u hu2]
      refine jd_aload_n zd_M_put_139 rfl ?_
      refine jd_get rfl rfl zl_M 4 (by decide) zi_684 rfl rfl (rl_m (by decide)) (by decide) zd_M_put_140 ?_
      refine jd_iload_n zd_M_put_143 rfl ?_
      refine jd_ildN (r := 405) (c := a) rfl rfl (by omega) (n := 12) (by decide) (rl_m (by decide)) (by decide) zd_M_put_144 ?_
      rw [hW.1 405 (by decide), hB5 a ha, eg]
      refine jd_icmp_eq 151 zd_M_put_145 (by decide) (fun h_145 => ?_) (fun h_145 => ?_)
      · have hin := (mi_in hA hu2 hg hl).mp h_145
        refine jd_aload_n zd_M_put_151 rfl ?_
        refine jd_get rfl rfl zl_M 7 (by decide) zi_687 rfl rfl (rl_m (by decide)) (by decide) zd_M_put_152 ?_
        refine jd_iload_n zd_M_put_155 rfl ?_
        refine jd_iconst (v := 1) zd_M_put_156 (by decide) ?_
        refine jd_zstN (r := 408) (c := u) (fun _ => rfl) (by decide) rfl (by omega) (n := 12) (by decide) (rl_m (by decide)) (by decide) zd_M_put_157 ?_
        refine jd_iinc (v := (fa_ga G (nI g) u 1) + 1) zd_M_put_158 rfl rfl (by decide) ?_
        refine jd_iinc (v := nI (u + 1)) zd_M_put_161 rfl (nI_inc u) (by decide) ?_
        refine jd_goto 125 zd_M_put_164 (by decide) ?_
        exact jd_sub [(0, av_r 400), (1, av_i (nI a)), (2, av_i (fa_ga G (nI g) (u + 1) 1)), (3, av_i (nI (u + 1)))] ⟨rfl, rfl, by rw [ga_cY hin]; rfl, rfl, trivial⟩ (ih (u + 1) (by omega) (by omega) _ (ml_wY hW hu2 hin))
      · refine jd_goto 161 zd_M_put_148 (by decide) ?_
        refine jd_iinc (v := nI (u + 1)) zd_M_put_161 rfl (nI_inc u) (by decide) ?_
        refine jd_goto 125 zd_M_put_164 (by decide) ?_
        have hin : ¬ fa_in G u (nI g) = true := fun z => h_145 ((mi_in hA hu2 hg hl).mpr z)
        exact jd_sub [(0, av_r 400), (1, av_i (nI a)), (2, av_i (fa_ga G (nI g) (u + 1) 1)), (3, av_i (nI (u + 1)))] ⟨rfl, rfl, by rw [ga_cN hin]; rfl, rfl, trivial⟩ (ih (u + 1) (by omega) (by omega) _ (ml_wN hW hin))
theorem ml_cc {n : Nat} {G B T : Nat → Nat → Int32} {p q u : Nat} {g x : Int32} {row : Nat → Int32} (hn : n ≤ 12) (h : ml_w n B T q (fun u => fa_in G u g) x u) : ml_w n B T q (fun u => fa_in (va_up G (300 + p) row) u g) x u := by
  refine ⟨h.1, fun v => ?_⟩
  rw [h.2 v]
  by_cases z : v < n
  · have e : fa_in (va_up G (300 + p) row) v g = fa_in G v g := by unfold fa_in; rw [va_up_ne _ _ (by omega)]
    by_cases y : v < u ∧ v < n ∧ fa_in G v g = true
    · rw [if_pos y, if_pos (show v < u ∧ v < n ∧ fa_in (va_up G (300 + p) row) v g = true by rw [e]; exact y)]
    · rw [if_neg y, if_neg (show ¬ (v < u ∧ v < n ∧ fa_in (va_up G (300 + p) row) v g = true) by rw [e]; exact y)]
  · rw [if_neg (fun y => z y.2.1), if_neg (fun y => z y.2.1)]
set_option maxRecDepth 100000 in
set_option maxHeartbeats 4000000 in
theorem kc_Mput {l : Launch} (hls : l.stackTraces = false) {D : va_G} {w : wd_T} {S : Nat → Nat → Int32} {L : Nat → Nat → Int64} {G : Nat → Nat → Int32} (hA : ok_A w G) (hR0 : md_R w G S) {x : Int32} {c v : Int32} {N : Nat → Nat → Int32} (hO : ou_put w G x c v N) : ct_M l D w zy_M_put (Cond.code zy_M_put zb_M_put 4 (Option.some Jvm.ClassFile.FieldType.int)) ({ frames := 3, cells := 0, slots := 0, locals := 72 } : Room) [av_r 400, av_i x] S L (po_M w c v N S L) 0 0 := by
  have h12 := hA.1.1
  have h13 := hA.1.2.1
  have hs := sm_refl S
  have hR := hR0
  rcases hO with ⟨h_o, rfl, hN⟩ | ⟨a, ha, rfl, ⟨h_pl, rfl, hN⟩ | ⟨p, hp, ep, h_pl, ⟨h_b, rfl, hN⟩ | ⟨h_b, rfl, rfl, hN⟩⟩⟩
  · rw [hN]
    refine ct_intro hls (own := zn_M) (by decide) rfl (Nat.le_of_ble_eq_true rfl) ?_
    refine jd_aload_n zd_M_put_0 rfl ?_
    refine jd_aload_n zd_M_put_1 rfl ?_
    refine jd_iload_n zd_M_put_2 rfl ?_
    refine jd_callV (n := 1) (kc_isUnitF hls hR h_o) rfl rfl rfl (rl_m (by decide)) (by decide) zi_782 zi_784 zi_26 zi_44 zi_785 (by decide +kernel) rfl rfl rfl (by decide) (Nat.le_of_ble_eq_true rfl) (by decide) zd_M_put_3 (fun _ _ _ h => h.elim) (fun v S2 L2 hq => ?_)
    obtain ⟨rfl, rfl, rfl⟩ := hq
    refine jd_if_ne 13 zd_M_put_6 (by decide) (fun h => absurd h (by decide)) (fun _ => ?_)
    refine jd_iconst (v := 1) zd_M_put_9 (by decide) ?_
    refine jd_goto 14 zd_M_put_10 (by decide) ?_
    refine jd_put rfl rfl zl_M zp_M zm_M 0 (by decide) zi_680 rfl rfl rfl rfl rfl (Nat.le_of_ble_eq_true rfl) rfl (rl_m (by decide)) (by decide) zd_M_put_14 ?_
    have hs := hs.fld (k := 0) (Or.inl rfl) (1 : Int32)
    have hc := cd_at hs
    have hR := md_sm hs hR0
    refine jd_aload_n zd_M_put_17 rfl ?_
    refine jd_get rfl rfl zl_M 0 (by decide) zi_680 rfl rfl (rl_m (by decide)) (by decide) zd_M_put_18 ?_
    rw [hc]
    refine jd_if_ne 52 zd_M_put_21 (by decide) (fun _ => ?_) (fun h => absurd h (by decide))
    refine jd_aload_n zd_M_put_52 rfl ?_
    refine jd_get rfl rfl zl_M 0 (by decide) zi_680 rfl rfl (rl_m (by decide)) (by decide) zd_M_put_53 ?_
    rw [hc]
    refine jd_if_ne 88 zd_M_put_56 (by decide) (fun _ => ?_) (fun h => absurd h (by decide))
    refine jd_aload_n zd_M_put_88 rfl ?_
    refine jd_get rfl rfl zl_M 0 (by decide) zi_680 rfl rfl (rl_m (by decide)) (by decide) zd_M_put_89 ?_
    rw [hc]
    refine jd_if_le 97 zd_M_put_92 (by decide) (fun h => absurd h (by decide)) (fun _ => ?_)
    refine jd_iconst (v := 0) zd_M_put_95 (by decide) ?_
    exact jd_iret rfl ⟨_, rfl, fun h => absurd h (by decide), hc, hR, sm_fr hs, sm_reflL _⟩ (by decide) (by decide) zd_M_put_96
  · rw [hN]
    refine ct_intro hls (own := zn_M) (by decide) rfl (Nat.le_of_ble_eq_true rfl) ?_
    refine jd_aload_n zd_M_put_0 rfl ?_
    refine jd_aload_n zd_M_put_1 rfl ?_
    refine jd_iload_n zd_M_put_2 rfl ?_
    refine jd_callV (n := 1) (kc_isUnitT hls hR (ob_nI h12 ha)) rfl rfl rfl (rl_m (by decide)) (by decide) zi_782 zi_784 zi_26 zi_44 zi_785 (by decide +kernel) rfl rfl rfl (by decide) (Nat.le_of_ble_eq_true rfl) (by decide) zd_M_put_3 (fun _ _ _ h => h.elim) (fun v S2 L2 hq => ?_)
    obtain ⟨rfl, rfl, rfl⟩ := hq
    refine jd_if_ne 13 zd_M_put_6 (by decide) (fun _ => ?_) (fun h => absurd h (by decide))
    refine jd_iconst (v := 0) zd_M_put_13 (by decide) ?_
    refine jd_put rfl rfl zl_M zp_M zm_M 0 (by decide) zi_680 rfl rfl rfl rfl rfl (Nat.le_of_ble_eq_true rfl) rfl (rl_m (by decide)) (by decide) zd_M_put_14 ?_
    have hs := hs.fld (k := 0) (Or.inl rfl) (0 : Int32)
    have hc := cd_at hs
    have hR := md_sm hs hR0
    refine jd_aload_n zd_M_put_17 rfl ?_
    refine jd_get rfl rfl zl_M 0 (by decide) zi_680 rfl rfl (rl_m (by decide)) (by decide) zd_M_put_18 ?_
    rw [hc]
    refine jd_if_ne 52 zd_M_put_21 (by decide) (fun h => absurd h (by decide)) (fun _ => ?_)
    refine jd_aload_n zd_M_put_24 rfl ?_
    refine jd_aload_n zd_M_put_25 rfl ?_
    refine jd_get rfl rfl zl_M 7 (by decide) zi_687 rfl rfl (rl_m (by decide)) (by decide) zd_M_put_26 ?_
    refine jd_iload_n zd_M_put_29 rfl ?_
    refine jd_zldN (r := 408) (c := a) rfl rfl (by omega) (n := 12) (by decide) (rl_m (by decide)) (by decide) zd_M_put_30 ?_
    rw [mr_408 hR ha]
    refine jd_if_ne 44 zd_M_put_31 (by decide) (fun h_31 => ?_) (fun h_31 => ?_)
    · refine jd_iconst (v := 2) zd_M_put_44 (by decide) ?_
      refine jd_goto 49 zd_M_put_45 (by decide) ?_
      refine jd_put rfl rfl zl_M zp_M zm_M 0 (by decide) zi_680 rfl rfl rfl rfl rfl (Nat.le_of_ble_eq_true rfl) rfl (rl_m (by decide)) (by decide) zd_M_put_49 ?_
      have hs := hs.fld (k := 0) (Or.inl rfl) (2 : Int32)
      have hc := cd_at hs
      have hR := md_sm hs hR0
      refine jd_aload_n zd_M_put_52 rfl ?_
      refine jd_get rfl rfl zl_M 0 (by decide) zi_680 rfl rfl (rl_m (by decide)) (by decide) zd_M_put_53 ?_
      rw [hc]
      refine jd_if_ne 88 zd_M_put_56 (by decide) (fun _ => ?_) (fun h => absurd h (by decide))
      refine jd_aload_n zd_M_put_88 rfl ?_
      refine jd_get rfl rfl zl_M 0 (by decide) zi_680 rfl rfl (rl_m (by decide)) (by decide) zd_M_put_89 ?_
      rw [hc]
      refine jd_if_le 97 zd_M_put_92 (by decide) (fun h => absurd h (by decide)) (fun _ => ?_)
      refine jd_iconst (v := 0) zd_M_put_95 (by decide) ?_
      exact jd_iret rfl ⟨_, rfl, fun h => absurd h (by decide), hc, hR, sm_fr hs, sm_reflL _⟩ (by decide) (by decide) zd_M_put_96
    · refine jd_aload_n zd_M_put_34 rfl ?_
      refine jd_get rfl rfl zl_M 6 (by decide) zi_686 rfl rfl (rl_m (by decide)) (by decide) zd_M_put_35 ?_
      refine jd_iload_n zd_M_put_38 rfl ?_
      refine jd_ildN (r := 407) (c := a) rfl rfl (by omega) (n := 12) (by decide) (rl_m (by decide)) (by decide) zd_M_put_39 ?_
      rw [mr_407 hR ha]
      refine jd_iconst (v := (-1)) zd_M_put_40 (by decide) ?_
      refine jd_icmp_ne 48 zd_M_put_41 (by decide) (fun h_41 => ?_) (fun h_41 => ?_)
      · exact absurd h_pl (by simp [fa_pl, h_31, h_41])
      · refine jd_iconst (v := 2) zd_M_put_44 (by decide) ?_
        refine jd_goto 49 zd_M_put_45 (by decide) ?_
        refine jd_put rfl rfl zl_M zp_M zm_M 0 (by decide) zi_680 rfl rfl rfl rfl rfl (Nat.le_of_ble_eq_true rfl) rfl (rl_m (by decide)) (by decide) zd_M_put_49 ?_
        have hs := hs.fld (k := 0) (Or.inl rfl) (2 : Int32)
        have hc := cd_at hs
        have hR := md_sm hs hR0
        refine jd_aload_n zd_M_put_52 rfl ?_
        refine jd_get rfl rfl zl_M 0 (by decide) zi_680 rfl rfl (rl_m (by decide)) (by decide) zd_M_put_53 ?_
        rw [hc]
        refine jd_if_ne 88 zd_M_put_56 (by decide) (fun _ => ?_) (fun h => absurd h (by decide))
        refine jd_aload_n zd_M_put_88 rfl ?_
        refine jd_get rfl rfl zl_M 0 (by decide) zi_680 rfl rfl (rl_m (by decide)) (by decide) zd_M_put_89 ?_
        rw [hc]
        refine jd_if_le 97 zd_M_put_92 (by decide) (fun h => absurd h (by decide)) (fun _ => ?_)
        refine jd_iconst (v := 0) zd_M_put_95 (by decide) ?_
        exact jd_iret rfl ⟨_, rfl, fun h => absurd h (by decide), hc, hR, sm_fr hs, sm_reflL _⟩ (by decide) (by decide) zd_M_put_96
  · have h_5 : G (100 + a) 5 = 0 := by cases h9 : decide (G (100 + a) 5 = 0) <;> simp_all [fa_pl]
    obtain ⟨g, hga, eg, hl⟩ := hA.2.2.1 a ha h_5
    have hg : g < w.2.2.1 := by omega
    rw [eg] at h_b
    rw [hN]
    refine ct_intro hls (own := zn_M) (by decide) rfl (Nat.le_of_ble_eq_true rfl) ?_
    refine jd_aload_n zd_M_put_0 rfl ?_
    refine jd_aload_n zd_M_put_1 rfl ?_
    refine jd_iload_n zd_M_put_2 rfl ?_
    refine jd_callV (n := 1) (kc_isUnitT hls hR (ob_nI h12 ha)) rfl rfl rfl (rl_m (by decide)) (by decide) zi_782 zi_784 zi_26 zi_44 zi_785 (by decide +kernel) rfl rfl rfl (by decide) (Nat.le_of_ble_eq_true rfl) (by decide) zd_M_put_3 (fun _ _ _ h => h.elim) (fun v S2 L2 hq => ?_)
    obtain ⟨rfl, rfl, rfl⟩ := hq
    refine jd_if_ne 13 zd_M_put_6 (by decide) (fun _ => ?_) (fun h => absurd h (by decide))
    refine jd_iconst (v := 0) zd_M_put_13 (by decide) ?_
    refine jd_put rfl rfl zl_M zp_M zm_M 0 (by decide) zi_680 rfl rfl rfl rfl rfl (Nat.le_of_ble_eq_true rfl) rfl (rl_m (by decide)) (by decide) zd_M_put_14 ?_
    have hs := hs.fld (k := 0) (Or.inl rfl) (0 : Int32)
    have hc := cd_at hs
    have hR := md_sm hs hR0
    refine jd_aload_n zd_M_put_17 rfl ?_
    refine jd_get rfl rfl zl_M 0 (by decide) zi_680 rfl rfl (rl_m (by decide)) (by decide) zd_M_put_18 ?_
    rw [hc]
    refine jd_if_ne 52 zd_M_put_21 (by decide) (fun h => absurd h (by decide)) (fun _ => ?_)
    refine jd_aload_n zd_M_put_24 rfl ?_
    refine jd_aload_n zd_M_put_25 rfl ?_
    refine jd_get rfl rfl zl_M 7 (by decide) zi_687 rfl rfl (rl_m (by decide)) (by decide) zd_M_put_26 ?_
    refine jd_iload_n zd_M_put_29 rfl ?_
    refine jd_zldN (r := 408) (c := a) rfl rfl (by omega) (n := 12) (by decide) (rl_m (by decide)) (by decide) zd_M_put_30 ?_
    rw [mr_408 hR ha]
    refine jd_if_ne 44 zd_M_put_31 (by decide) (fun h_31 => ?_) (fun h_31 => ?_)
    · exact absurd h_pl (by simp [fa_pl, h_31])
    · refine jd_aload_n zd_M_put_34 rfl ?_
      refine jd_get rfl rfl zl_M 6 (by decide) zi_686 rfl rfl (rl_m (by decide)) (by decide) zd_M_put_35 ?_
      refine jd_iload_n zd_M_put_38 rfl ?_
      refine jd_ildN (r := 407) (c := a) rfl rfl (by omega) (n := 12) (by decide) (rl_m (by decide)) (by decide) zd_M_put_39 ?_
      rw [mr_407 hR ha]
      refine jd_iconst (v := (-1)) zd_M_put_40 (by decide) ?_
      refine jd_icmp_ne 48 zd_M_put_41 (by decide) (fun h_41 => ?_) (fun h_41 => ?_)
      · refine jd_iconst (v := 0) zd_M_put_48 (by decide) ?_
        refine jd_put rfl rfl zl_M zp_M zm_M 0 (by decide) zi_680 rfl rfl rfl rfl rfl (Nat.le_of_ble_eq_true rfl) rfl (rl_m (by decide)) (by decide) zd_M_put_49 ?_
        have hs := hs.fld (k := 0) (Or.inl rfl) (0 : Int32)
        have hc := cd_at hs
        have hR := md_sm hs hR0
        refine jd_aload_n zd_M_put_52 rfl ?_
        refine jd_get rfl rfl zl_M 0 (by decide) zi_680 rfl rfl (rl_m (by decide)) (by decide) zd_M_put_53 ?_
        rw [hc]
        refine jd_if_ne 88 zd_M_put_56 (by decide) (fun h => absurd h (by decide)) (fun _ => ?_)
        refine jd_aload_n zd_M_put_59 rfl ?_
        refine jd_aload_n zd_M_put_60 rfl ?_
        refine jd_aload_n zd_M_put_61 rfl ?_
        refine jd_get rfl rfl zl_M 4 (by decide) zi_684 rfl rfl (rl_m (by decide)) (by decide) zd_M_put_62 ?_
        refine jd_iload_n zd_M_put_65 rfl ?_
        refine jd_ildN (r := 405) (c := a) rfl rfl (by omega) (n := 12) (by decide) (rl_m (by decide)) (by decide) zd_M_put_66 ?_
        rw [mr_405 hR ha]
        refine jd_aload_n zd_M_put_67 rfl ?_
        refine jd_get rfl rfl zl_M 6 (by decide) zi_686 rfl rfl (rl_m (by decide)) (by decide) zd_M_put_68 ?_
        refine jd_iload_n zd_M_put_71 rfl ?_
        refine jd_ildN (r := 407) (c := a) rfl rfl (by omega) (n := 12) (by decide) (rl_m (by decide)) (by decide) zd_M_put_72 ?_
        rw [mr_407 hR ha]
        refine jd_iconst (v := nI 5) zd_M_put_73 (by decide) ?_
        rw [eg, ep]
        refine jd_callV (n := 3) (kc_isAllowed hls hA hR hg hl hp (t := 5) (by omega)) rfl rfl rfl (rl_m (by decide)) (by decide) zi_819 zi_821 zi_30 zi_44 zi_822 (by decide +kernel) rfl rfl rfl (by decide) (Nat.le_of_ble_eq_true rfl) (by decide) zd_M_put_74 (fun _ _ _ h => h.elim) (fun v S2 L2 hq => ?_)
        obtain ⟨rfl, rfl, rfl⟩ := hq
        rw [fa_ka_5, decide_eq_false h_b]
        refine jd_if_eq 84 zd_M_put_77 (by decide) (fun _ => ?_) (fun h => absurd h (by decide))
        refine jd_iconst (v := 2) zd_M_put_84 (by decide) ?_
        refine jd_put rfl rfl zl_M zp_M zm_M 0 (by decide) zi_680 rfl rfl rfl rfl rfl (Nat.le_of_ble_eq_true rfl) rfl (rl_m (by decide)) (by decide) zd_M_put_85 ?_
        have hs := hs.fld (k := 0) (Or.inl rfl) (2 : Int32)
        have hc := cd_at hs
        have hR := md_sm hs hR0
        refine jd_aload_n zd_M_put_88 rfl ?_
        refine jd_get rfl rfl zl_M 0 (by decide) zi_680 rfl rfl (rl_m (by decide)) (by decide) zd_M_put_89 ?_
        rw [hc]
        refine jd_if_le 97 zd_M_put_92 (by decide) (fun h => absurd h (by decide)) (fun _ => ?_)
        refine jd_iconst (v := 0) zd_M_put_95 (by decide) ?_
        exact jd_iret rfl ⟨_, rfl, fun h => absurd h (by decide), hc, hR, sm_fr hs, sm_reflL _⟩ (by decide) (by decide) zd_M_put_96
      · exact absurd h_pl (by simp [fa_pl, h_41])
  · have h_5 : G (100 + a) 5 = 0 := by cases h9 : decide (G (100 + a) 5 = 0) <;> simp_all [fa_pl]
    obtain ⟨g, hga, eg, hl⟩ := hA.2.2.1 a ha h_5
    have hg : g < w.2.2.1 := by omega
    rw [eg] at h_b
    rw [eg] at hN
    rw [hN, eg]
    refine ct_intro hls (own := zn_M) (by decide) rfl (Nat.le_of_ble_eq_true rfl) ?_
    refine jd_aload_n zd_M_put_0 rfl ?_
    refine jd_aload_n zd_M_put_1 rfl ?_
    refine jd_iload_n zd_M_put_2 rfl ?_
    refine jd_callV (n := 1) (kc_isUnitT hls hR (ob_nI h12 ha)) rfl rfl rfl (rl_m (by decide)) (by decide) zi_782 zi_784 zi_26 zi_44 zi_785 (by decide +kernel) rfl rfl rfl (by decide) (Nat.le_of_ble_eq_true rfl) (by decide) zd_M_put_3 (fun _ _ _ h => h.elim) (fun v S2 L2 hq => ?_)
    obtain ⟨rfl, rfl, rfl⟩ := hq
    refine jd_if_ne 13 zd_M_put_6 (by decide) (fun _ => ?_) (fun h => absurd h (by decide))
    refine jd_iconst (v := 0) zd_M_put_13 (by decide) ?_
    refine jd_put rfl rfl zl_M zp_M zm_M 0 (by decide) zi_680 rfl rfl rfl rfl rfl (Nat.le_of_ble_eq_true rfl) rfl (rl_m (by decide)) (by decide) zd_M_put_14 ?_
    have hs := hs.fld (k := 0) (Or.inl rfl) (0 : Int32)
    have hc := cd_at hs
    have hR := md_sm hs hR0
    refine jd_aload_n zd_M_put_17 rfl ?_
    refine jd_get rfl rfl zl_M 0 (by decide) zi_680 rfl rfl (rl_m (by decide)) (by decide) zd_M_put_18 ?_
    rw [hc]
    refine jd_if_ne 52 zd_M_put_21 (by decide) (fun h => absurd h (by decide)) (fun _ => ?_)
    refine jd_aload_n zd_M_put_24 rfl ?_
    refine jd_aload_n zd_M_put_25 rfl ?_
    refine jd_get rfl rfl zl_M 7 (by decide) zi_687 rfl rfl (rl_m (by decide)) (by decide) zd_M_put_26 ?_
    refine jd_iload_n zd_M_put_29 rfl ?_
    refine jd_zldN (r := 408) (c := a) rfl rfl (by omega) (n := 12) (by decide) (rl_m (by decide)) (by decide) zd_M_put_30 ?_
    rw [mr_408 hR ha]
    refine jd_if_ne 44 zd_M_put_31 (by decide) (fun h_31 => ?_) (fun h_31 => ?_)
    · exact absurd h_pl (by simp [fa_pl, h_31])
    · refine jd_aload_n zd_M_put_34 rfl ?_
      refine jd_get rfl rfl zl_M 6 (by decide) zi_686 rfl rfl (rl_m (by decide)) (by decide) zd_M_put_35 ?_
      refine jd_iload_n zd_M_put_38 rfl ?_
      refine jd_ildN (r := 407) (c := a) rfl rfl (by omega) (n := 12) (by decide) (rl_m (by decide)) (by decide) zd_M_put_39 ?_
      rw [mr_407 hR ha]
      refine jd_iconst (v := (-1)) zd_M_put_40 (by decide) ?_
      refine jd_icmp_ne 48 zd_M_put_41 (by decide) (fun h_41 => ?_) (fun h_41 => ?_)
      · refine jd_iconst (v := 0) zd_M_put_48 (by decide) ?_
        refine jd_put rfl rfl zl_M zp_M zm_M 0 (by decide) zi_680 rfl rfl rfl rfl rfl (Nat.le_of_ble_eq_true rfl) rfl (rl_m (by decide)) (by decide) zd_M_put_49 ?_
        have hs := hs.fld (k := 0) (Or.inl rfl) (0 : Int32)
        have hc := cd_at hs
        have hR := md_sm hs hR0
        refine jd_aload_n zd_M_put_52 rfl ?_
        refine jd_get rfl rfl zl_M 0 (by decide) zi_680 rfl rfl (rl_m (by decide)) (by decide) zd_M_put_53 ?_
        rw [hc]
        refine jd_if_ne 88 zd_M_put_56 (by decide) (fun h => absurd h (by decide)) (fun _ => ?_)
        refine jd_aload_n zd_M_put_59 rfl ?_
        refine jd_aload_n zd_M_put_60 rfl ?_
        refine jd_aload_n zd_M_put_61 rfl ?_
        refine jd_get rfl rfl zl_M 4 (by decide) zi_684 rfl rfl (rl_m (by decide)) (by decide) zd_M_put_62 ?_
        refine jd_iload_n zd_M_put_65 rfl ?_
        refine jd_ildN (r := 405) (c := a) rfl rfl (by omega) (n := 12) (by decide) (rl_m (by decide)) (by decide) zd_M_put_66 ?_
        rw [mr_405 hR ha]
        refine jd_aload_n zd_M_put_67 rfl ?_
        refine jd_get rfl rfl zl_M 6 (by decide) zi_686 rfl rfl (rl_m (by decide)) (by decide) zd_M_put_68 ?_
        refine jd_iload_n zd_M_put_71 rfl ?_
        refine jd_ildN (r := 407) (c := a) rfl rfl (by omega) (n := 12) (by decide) (rl_m (by decide)) (by decide) zd_M_put_72 ?_
        rw [mr_407 hR ha]
        refine jd_iconst (v := nI 5) zd_M_put_73 (by decide) ?_
        rw [eg, ep]
        refine jd_callV (n := 3) (kc_isAllowed hls hA hR hg hl hp (t := 5) (by omega)) rfl rfl rfl (rl_m (by decide)) (by decide) zi_819 zi_821 zi_30 zi_44 zi_822 (by decide +kernel) rfl rfl rfl (by decide) (Nat.le_of_ble_eq_true rfl) (by decide) zd_M_put_74 (fun _ _ _ h => h.elim) (fun v S2 L2 hq => ?_)
        obtain ⟨rfl, rfl, rfl⟩ := hq
        rw [fa_ka_5, decide_eq_true h_b]
        refine jd_if_eq 84 zd_M_put_77 (by decide) (fun h => absurd h (by decide)) (fun _ => ?_)
        refine jd_iconst (v := 0) zd_M_put_80 (by decide) ?_
        refine jd_goto 85 zd_M_put_81 (by decide) ?_
        refine jd_put rfl rfl zl_M zp_M zm_M 0 (by decide) zi_680 rfl rfl rfl rfl rfl (Nat.le_of_ble_eq_true rfl) rfl (rl_m (by decide)) (by decide) zd_M_put_85 ?_
        have hs := hs.fld (k := 0) (Or.inl rfl) (0 : Int32)
        have hc := cd_at hs
        have hR := md_sm hs hR0
        refine jd_aload_n zd_M_put_88 rfl ?_
        refine jd_get rfl rfl zl_M 0 (by decide) zi_680 rfl rfl (rl_m (by decide)) (by decide) zd_M_put_89 ?_
        rw [hc]
        refine jd_if_le 97 zd_M_put_92 (by decide) (fun _ => ?_) (fun h => absurd h (by decide))
        refine jd_aload_n zd_M_put_97 rfl ?_
        refine jd_get rfl rfl zl_M 13 (by decide) zi_693 rfl rfl (rl_m (by decide)) (by decide) zd_M_put_98 ?_
        refine jd_aload_n zd_M_put_101 rfl ?_
        refine jd_get rfl rfl zl_M 6 (by decide) zi_686 rfl rfl (rl_m (by decide)) (by decide) zd_M_put_102 ?_
        refine jd_iload_n zd_M_put_105 rfl ?_
        refine jd_ildN (r := 407) (c := a) rfl rfl (by omega) (n := 12) (by decide) (rl_m (by decide)) (by decide) zd_M_put_106 ?_
        rw [mr_407 hR ha]
        refine jd_dup2 zd_M_put_107 rfl rfl ?_
        refine jd_ildN (r := 414) (c := p) rfl ep (by omega) (n := 12) (by decide) (rl_m (by decide)) (by decide) zd_M_put_108 ?_
        rw [mr_414 hR hp]
        refine jd_aload_n zd_M_put_109 rfl ?_
        refine jd_aload_n zd_M_put_110 rfl ?_
        refine jd_get rfl rfl zl_M 4 (by decide) zi_684 rfl rfl (rl_m (by decide)) (by decide) zd_M_put_111 ?_
        refine jd_iload_n zd_M_put_114 rfl ?_
        refine jd_ildN (r := 405) (c := a) rfl rfl (by omega) (n := 12) (by decide) (rl_m (by decide)) (by decide) zd_M_put_115 ?_
        rw [mr_405 hR ha]
        rw [eg]
        refine jd_callV (n := 1) (kc_sizeOf hls hA hR hg hl) rfl rfl rfl (rl_m (by decide)) (by decide) zi_827 zi_829 zi_32 zi_44 zi_830 (by decide +kernel) rfl rfl rfl (by decide) (Nat.le_of_ble_eq_true rfl) (by decide) zd_M_put_116 (fun _ _ _ h => h.elim) (fun v S2 L2 hq => ?_)
        obtain ⟨rfl, rfl, rfl⟩ := hq
        refine jd_isub zd_M_put_119 ?_
        refine jd_istN (r := 414) (c := p) (fun _ => rfl) ep (by omega) (n := 12) (by decide) (rl_m (by decide)) (by decide) zd_M_put_120 ?_
        refine jd_iconst (v := 0) zd_M_put_121 (by decide) ?_
        refine jd_istore_n zd_M_put_122 (by decide) ?_
        refine jd_iconst (v := 0) zd_M_put_123 (by decide) ?_
        refine jd_istore_n zd_M_put_124 (by decide) ?_
        exact jd_sub [(0, av_r 400), (1, av_i (nI a)), (2, av_i (fa_ga G (nI g) 0 1)), (3, av_i (nI 0))] ⟨rfl, rfl, rfl, rfl, trivial⟩ (kl_Mput (Qp := po_M w 0 ((fa_ga G (nI g) w.2.2.1) 1) (fa_fi (va_up G (300 + p) (upd (G (300 + p)) 3 (G (300 + p) 3 - (fa_ga G (nI g) w.2.2.1) 2))) w.2.2.1 (nI g)) S L) hls hA (by rw [va_up_ne _ _ (by decide)]; exact hR.1.1) (fun v hv => by rw [va_up_ne _ _ (by decide)]; exact mr_405 hR hv) ha eg hg hl (fun T hW => ⟨_, rfl, fun _ => rfl, by rw [hW.1 400 (by decide), va_up_ne _ _ (by decide)]; exact hc, md_fin h12 (md_free h12 h13 hR hp _) (ml_cc h12 hW), ((sm_fr hs).up (by decide) (by decide) _).tr (ml_fr (by decide) (by decide) hW), sm_reflL _⟩) (w.2.2.1 + 1) 0 (by omega) (by omega) _ ml_w0)
      · exact absurd h_pl (by simp [fa_pl, h_41])
set_option maxRecDepth 100000 in
set_option maxHeartbeats 4000000 in
theorem kl_Mblock1 {l : Launch} (hls : l.stackTraces = false) {D : va_G} {w : wd_T} {S : Nat → Nat → Int32} {L : Nat → Nat → Int64} {G : Nat → Nat → Int32} (hA : ok_A w G) (hR : md_R w G S) {g : Nat} (hg : g < w.2.2.1) {Qp : jd_P} (hnext : jd_J l D w zn_M zb_M_block 6 (Option.some Jvm.ClassFile.FieldType.int) [] ({ frames := 4, cells := 0, slots := 0, locals := 96 } : Room) 0 0 Qp 0 0 129 [(0, av_r 400), (2, av_i (nI g)), (3, av_i (fm_tk G g w.2.2.1))] [] S L) : ∀ (k u : Nat), u ≤ w.2.2.1 → w.2.2.1 < u + k → jd_J l D w zn_M zb_M_block 6 (Option.some Jvm.ClassFile.FieldType.int) [] ({ frames := 4, cells := 0, slots := 0, locals := 96 } : Room) 0 0 Qp 0 0 76 [(0, av_r 400), (2, av_i (nI g)), (3, av_i (fm_tk G g u)), (4, av_i (nI u))] [] S L := by
  have h12 := hA.1.1
  have h13 := hA.1.2.1
  intro k
  induction k with
  | zero => intro u h1 h2; omega
  | succ k ih =>
    intro u hu hk
    refine jd_iload zd_M_block_76 rfl ?_
    refine jd_aload_n zd_M_block_78 rfl ?_
    refine jd_get rfl rfl zl_M 1 (by decide) zi_681 rfl rfl (rl_m (by decide)) (by decide) zd_M_block_79 ?_
    refine jd_icmp_ge 129 zd_M_block_82 (by decide) (fun h_82 => ?_) (fun h_82 => ?_)
    · have e_u := nI_end hR.1.1 (by omega) hu h_82
      subst e_u
      exact jd_sub [(0, av_r 400), (2, av_i (nI g)), (3, av_i (fm_tk G g w.2.2.1))] ⟨rfl, rfl, rfl, trivial⟩ hnext
    · have hu2 := nI_on hR.1.1 (by omega) hu h_82
      refine jd_aload_n zd_M_block_85 rfl ?_
      refine jd_iload zd_M_block_86 rfl ?_
      refine jd_callV (n := 1) (kc_MisGroup hls hA hR hu2) rfl rfl rfl (rl_m (by decide)) (by decide) zi_815 zi_817 zi_29 zi_44 zi_818 (by decide +kernel) rfl rfl rfl (by decide) (Nat.le_of_ble_eq_true rfl) (by decide) zd_M_block_88 (fun _ _ _ h => h.elim) (fun v S2 L2 hq => ?_)
      obtain ⟨rfl, rfl, rfl⟩ := hq
      refine jd_if_eq 123 zd_M_block_91 (by decide) (fun h_91 => ?_) (fun h_91 => ?_)
      · refine jd_iinc (v := nI (u + 1)) zd_M_block_123 rfl (nI_inc u) (by decide) ?_
        refine jd_goto 76 zd_M_block_126 (by decide) ?_
        have e_c : fm_tk G g (u + 1) = fm_tk G g u := by simp only [fm_tk]; rw [if_neg (fun z => by rw [bi_z h_91] at z; exact absurd z.1 (by decide))]
        exact jd_sub [(0, av_r 400), (2, av_i (nI g)), (3, av_i (fm_tk G g (u + 1))), (4, av_i (nI (u + 1)))] ⟨rfl, rfl, by rw [e_c]; rfl, rfl, trivial⟩ (ih (u + 1) (by omega) (by omega))
      · refine jd_iload zd_M_block_94 rfl ?_
        refine jd_iload_n zd_M_block_96 rfl ?_
        refine jd_icmp_eq 123 zd_M_block_97 (by decide) (fun h_97 => ?_) (fun h_97 => ?_)
        · refine jd_iinc (v := nI (u + 1)) zd_M_block_123 rfl (nI_inc u) (by decide) ?_
          refine jd_goto 76 zd_M_block_126 (by decide) ?_
          have e_c : fm_tk G g (u + 1) = fm_tk G g u := by simp only [fm_tk]; rw [if_neg (fun z => z.2.1 (by rw [nI_eq (by omega) (by omega)] at h_97; exact h_97))]
          exact jd_sub [(0, av_r 400), (2, av_i (nI g)), (3, av_i (fm_tk G g (u + 1))), (4, av_i (nI (u + 1)))] ⟨rfl, rfl, by rw [e_c]; rfl, rfl, trivial⟩ (ih (u + 1) (by omega) (by omega))
        · refine jd_aload_n zd_M_block_100 rfl ?_
          refine jd_get rfl rfl zl_M 6 (by decide) zi_686 rfl rfl (rl_m (by decide)) (by decide) zd_M_block_101 ?_
          refine jd_iload zd_M_block_104 rfl ?_
          refine jd_ildN (r := 407) (c := u) rfl rfl (by omega) (n := 12) (by decide) (rl_m (by decide)) (by decide) zd_M_block_106 ?_
          rw [mr_407 hR hu2]
          refine jd_iconst (v := (-1)) zd_M_block_107 (by decide) ?_
          refine jd_icmp_eq 123 zd_M_block_108 (by decide) (fun h_108 => ?_) (fun h_108 => ?_)
          · refine jd_iinc (v := nI (u + 1)) zd_M_block_123 rfl (nI_inc u) (by decide) ?_
            refine jd_goto 76 zd_M_block_126 (by decide) ?_
            have e_c : fm_tk G g (u + 1) = fm_tk G g u := by simp only [fm_tk]; rw [if_neg (fun z => z.2.2 h_108)]
            exact jd_sub [(0, av_r 400), (2, av_i (nI g)), (3, av_i (fm_tk G g (u + 1))), (4, av_i (nI (u + 1)))] ⟨rfl, rfl, by rw [e_c]; rfl, rfl, trivial⟩ (ih (u + 1) (by omega) (by omega))
          · refine jd_iload_n zd_M_block_111 rfl ?_
            refine jd_iconst (v := 1) zd_M_block_112 (by decide) ?_
            refine jd_aload_n zd_M_block_113 rfl ?_
            refine jd_get rfl rfl zl_M 6 (by decide) zi_686 rfl rfl (rl_m (by decide)) (by decide) zd_M_block_114 ?_
            refine jd_iload zd_M_block_117 rfl ?_
            refine jd_ildN (r := 407) (c := u) rfl rfl (by omega) (n := 12) (by decide) (rl_m (by decide)) (by decide) zd_M_block_119 ?_
            rw [mr_407 hR hu2]
            refine jd_ishl zd_M_block_120 ?_
            refine jd_ior zd_M_block_121 ?_
            refine jd_istore_n zd_M_block_122 (by decide) ?_
            refine jd_iinc (v := nI (u + 1)) zd_M_block_123 rfl (nI_inc u) (by decide) ?_
            refine jd_goto 76 zd_M_block_126 (by decide) ?_
            have e_c : fm_tk G g (u + 1) = fm_tk G g u ||| ((1 : Int32) <<< (G (100 + u) 3 &&& 31)) := by simp only [fm_tk]; rw [if_pos ⟨bi_n h_91, fun z => h_97 (by rw [z]), h_108⟩]
            exact jd_sub [(0, av_r 400), (2, av_i (nI g)), (3, av_i (fm_tk G g (u + 1))), (4, av_i (nI (u + 1)))] ⟨rfl, rfl, by rw [e_c]; rfl, rfl, trivial⟩ (ih (u + 1) (by omega) (by omega))
set_option maxRecDepth 100000 in
set_option maxHeartbeats 4000000 in
theorem kl_Mblock2 {l : Launch} (hls : l.stackTraces = false) {D : va_G} {w : wd_T} {L : Nat → Nat → Int64} {G B : Nat → Nat → Int32} (hA : ok_A w G) (hB1 : B 400 1 = nI w.2.2.1) (hB5 : ∀ v, v < w.2.2.1 → B 405 v = G (100 + v) 2) {g : Nat} (hg : g < w.2.2.1) (hl : fa_gr G g = true) (x : Int32) {Qp : jd_P} (hnext : ∀ T, ml_w w.2.2.1 B T 407 (fun u => fa_in G u (nI g)) x w.2.2.1 → jd_J l D w zn_M zb_M_block 6 (Option.some Jvm.ClassFile.FieldType.int) [] ({ frames := 4, cells := 0, slots := 0, locals := 96 } : Room) 0 0 Qp 0 0 175 [(0, av_r 400), (4, av_i x)] [] T L) : ∀ (k u : Nat), u ≤ w.2.2.1 → w.2.2.1 < u + k → ∀ T, ml_w w.2.2.1 B T 407 (fun u => fa_in G u (nI g)) x u → jd_J l D w zn_M zb_M_block 6 (Option.some Jvm.ClassFile.FieldType.int) [] ({ frames := 4, cells := 0, slots := 0, locals := 96 } : Room) 0 0 Qp 0 0 140 [(0, av_r 400), (2, av_i (nI g)), (4, av_i x), (5, av_i (nI u))] [] T L := by
  have h12 := hA.1.1
  intro k
  induction k with
  | zero => intro u h1 h2; omega
  | succ k ih =>
    intro u hu hk T hW
    refine jd_iload zd_M_block_140 rfl ?_
    refine jd_aload_n zd_M_block_142 rfl ?_
    refine jd_get rfl rfl zl_M 1 (by decide) zi_681 rfl rfl (rl_m (by decide)) (by decide) zd_M_block_143 ?_
    refine jd_icmp_ge 175 zd_M_block_146 (by decide) (fun h_146 => ?_) (fun h_146 => ?_)
    · have e_u := nI_end (show T 400 1 = nI w.2.2.1 by rw [hW.1 400 (by decide)]; exact hB1) (by omega) hu h_146
      subst e_u
      exact jd_sub [(0, av_r 400), (4, av_i x)] ⟨rfl, rfl, trivial⟩ (hnext T hW)
    · have hu2 := nI_on (show T 400 1 = nI w.2.2.1 by rw [hW.1 400 (by decide)]; exact hB1) (by omega) hu h_146
      refine jd_aload_n zd_M_block_149 rfl ?_
      refine jd_get rfl rfl zl_M 4 (by decide) zi_684 rfl rfl (rl_m (by decide)) (by decide) zd_M_block_150 ?_
      refine jd_iload zd_M_block_153 rfl ?_
      refine jd_ildN (r := 405) (c := u) rfl rfl (by omega) (n := 12) (by decide) (rl_m (by decide)) (by decide) zd_M_block_155 ?_
      rw [hW.1 405 (by decide), hB5 u hu2]
      refine jd_iload_n zd_M_block_156 rfl ?_
      refine jd_icmp_ne 169 zd_M_block_157 (by decide) (fun h_157 => ?_) (fun h_157 => ?_)
      · refine jd_iinc (v := nI (u + 1)) zd_M_block_169 rfl (nI_inc u) (by decide) ?_
        refine jd_goto 140 zd_M_block_172 (by decide) ?_
        exact jd_sub [(0, av_r 400), (2, av_i (nI g)), (4, av_i x), (5, av_i (nI (u + 1)))] ⟨rfl, rfl, rfl, rfl, trivial⟩ (ih (u + 1) (by omega) (by omega) _ (ml_wN hW (fun z => h_157 ((mi_in hA hu2 hg hl).mpr z))))
      · refine jd_aload_n zd_M_block_160 rfl ?_
        refine jd_get rfl rfl zl_M 6 (by decide) zi_686 rfl rfl (rl_m (by decide)) (by decide) zd_M_block_161 ?_
        refine jd_iload zd_M_block_164 rfl ?_
        refine jd_iload zd_M_block_166 rfl ?_
        refine jd_istN (r := 407) (c := u) (fun _ => rfl) rfl (by omega) (n := 12) (by decide) (rl_m (by decide)) (by decide) zd_M_block_168 ?_
        refine jd_iinc (v := nI (u + 1)) zd_M_block_169 rfl (nI_inc u) (by decide) ?_
        refine jd_goto 140 zd_M_block_172 (by decide) ?_
        exact jd_sub [(0, av_r 400), (2, av_i (nI g)), (4, av_i x), (5, av_i (nI (u + 1)))] ⟨rfl, rfl, rfl, rfl, trivial⟩ (ih (u + 1) (by omega) (by omega) _ (ml_wY hW hu2 ((mi_in hA hu2 hg hl).mp h_157)))
set_option maxRecDepth 100000 in
set_option maxHeartbeats 4000000 in
theorem kc_Mblock {l : Launch} (hls : l.stackTraces = false) {D : va_G} {w : wd_T} {S : Nat → Nat → Int32} {L : Nat → Nat → Int64} {G : Nat → Nat → Int32} (hA : ok_A w G) (hR0 : md_R w G S) {x : Int32} {c v : Int32} {N : Nat → Nat → Int32} (hO : ou_block w G x c v N) : ct_M l D w zy_M_block (Cond.code zy_M_block zb_M_block 6 (Option.some Jvm.ClassFile.FieldType.int)) ({ frames := 4, cells := 0, slots := 0, locals := 96 } : Room) [av_r 400, av_i x] S L (po_M w c v N S L) 0 0 := by
  have h12 := hA.1.1
  have h13 := hA.1.2.1
  have hs := sm_refl S
  have hR := hR0
  rcases hO with ⟨h_o, rfl, hN⟩ | ⟨b, hb, rfl, ⟨h_4, rfl, hN⟩ | ⟨h_4, rfl, S1, rfl, ⟨h_pf, rfl, hN⟩ | ⟨g, hg, h_pf, hN, rfl⟩⟩⟩
  · rw [hN]
    refine ct_intro hls (own := zn_M) (by decide) rfl (Nat.le_of_ble_eq_true rfl) ?_
    refine jd_aload_n zd_M_block_0 rfl ?_
    refine jd_aload_n zd_M_block_1 rfl ?_
    refine jd_iload_n zd_M_block_2 rfl ?_
    refine jd_callV (n := 1) (kc_isPlaceF hls hR h_o) rfl rfl rfl (rl_m (by decide)) (by decide) zi_786 zi_788 zi_27 zi_44 zi_789 (by decide +kernel) rfl rfl rfl (by decide) (Nat.le_of_ble_eq_true rfl) (by decide) zd_M_block_3 (fun _ _ _ h => h.elim) (fun v S2 L2 hq => ?_)
    obtain ⟨rfl, rfl, rfl⟩ := hq
    refine jd_if_ne 13 zd_M_block_6 (by decide) (fun h => absurd h (by decide)) (fun _ => ?_)
    refine jd_iconst (v := 1) zd_M_block_9 (by decide) ?_
    refine jd_goto 14 zd_M_block_10 (by decide) ?_
    refine jd_put rfl rfl zl_M zp_M zm_M 0 (by decide) zi_680 rfl rfl rfl rfl rfl (Nat.le_of_ble_eq_true rfl) rfl (rl_m (by decide)) (by decide) zd_M_block_14 ?_
    have hs := hs.fld (k := 0) (Or.inl rfl) (1 : Int32)
    have hc := cd_at hs
    have hR := md_sm hs hR0
    refine jd_aload_n zd_M_block_17 rfl ?_
    refine jd_get rfl rfl zl_M 0 (by decide) zi_680 rfl rfl (rl_m (by decide)) (by decide) zd_M_block_18 ?_
    rw [hc]
    refine jd_if_ne 42 zd_M_block_21 (by decide) (fun _ => ?_) (fun h => absurd h (by decide))
    refine jd_aload_n zd_M_block_42 rfl ?_
    refine jd_get rfl rfl zl_M 0 (by decide) zi_680 rfl rfl (rl_m (by decide)) (by decide) zd_M_block_43 ?_
    rw [hc]
    refine jd_if_le 51 zd_M_block_46 (by decide) (fun h => absurd h (by decide)) (fun _ => ?_)
    refine jd_iconst (v := 0) zd_M_block_49 (by decide) ?_
    exact jd_iret rfl ⟨_, rfl, fun h => absurd h (by decide), hc, hR, sm_fr hs, sm_reflL _⟩ (by decide) (by decide) zd_M_block_50
  · rw [hN]
    refine ct_intro hls (own := zn_M) (by decide) rfl (Nat.le_of_ble_eq_true rfl) ?_
    refine jd_aload_n zd_M_block_0 rfl ?_
    refine jd_aload_n zd_M_block_1 rfl ?_
    refine jd_iload_n zd_M_block_2 rfl ?_
    refine jd_callV (n := 1) (kc_isPlaceT hls hR (ob_nI h13 hb)) rfl rfl rfl (rl_m (by decide)) (by decide) zi_786 zi_788 zi_27 zi_44 zi_789 (by decide +kernel) rfl rfl rfl (by decide) (Nat.le_of_ble_eq_true rfl) (by decide) zd_M_block_3 (fun _ _ _ h => h.elim) (fun v S2 L2 hq => ?_)
    obtain ⟨rfl, rfl, rfl⟩ := hq
    refine jd_if_ne 13 zd_M_block_6 (by decide) (fun _ => ?_) (fun h => absurd h (by decide))
    refine jd_iconst (v := 0) zd_M_block_13 (by decide) ?_
    refine jd_put rfl rfl zl_M zp_M zm_M 0 (by decide) zi_680 rfl rfl rfl rfl rfl (Nat.le_of_ble_eq_true rfl) rfl (rl_m (by decide)) (by decide) zd_M_block_14 ?_
    have hs := hs.fld (k := 0) (Or.inl rfl) (0 : Int32)
    have hc := cd_at hs
    have hR := md_sm hs hR0
    refine jd_aload_n zd_M_block_17 rfl ?_
    refine jd_get rfl rfl zl_M 0 (by decide) zi_680 rfl rfl (rl_m (by decide)) (by decide) zd_M_block_18 ?_
    rw [hc]
    refine jd_if_ne 42 zd_M_block_21 (by decide) (fun h => absurd h (by decide)) (fun _ => ?_)
    refine jd_aload_n zd_M_block_24 rfl ?_
    refine jd_aload_n zd_M_block_25 rfl ?_
    refine jd_get rfl rfl zl_M 15 (by decide) zi_695 rfl rfl (rl_m (by decide)) (by decide) zd_M_block_26 ?_
    refine jd_iload_n zd_M_block_29 rfl ?_
    refine jd_zldN (r := 416) (c := b) rfl rfl (by omega) (n := 12) (by decide) (rl_m (by decide)) (by decide) zd_M_block_30 ?_
    rw [mr_416 hR hb]
    refine jd_if_eq 38 zd_M_block_31 (by decide) (fun h => absurd h h_4) (fun h => ?_)
    refine jd_iconst (v := 2) zd_M_block_34 (by decide) ?_
    refine jd_goto 39 zd_M_block_35 (by decide) ?_
    refine jd_put rfl rfl zl_M zp_M zm_M 0 (by decide) zi_680 rfl rfl rfl rfl rfl (Nat.le_of_ble_eq_true rfl) rfl (rl_m (by decide)) (by decide) zd_M_block_39 ?_
    have hs := hs.fld (k := 0) (Or.inl rfl) (2 : Int32)
    have hc := cd_at hs
    have hR := md_sm hs hR0
    refine jd_aload_n zd_M_block_42 rfl ?_
    refine jd_get rfl rfl zl_M 0 (by decide) zi_680 rfl rfl (rl_m (by decide)) (by decide) zd_M_block_43 ?_
    rw [hc]
    refine jd_if_le 51 zd_M_block_46 (by decide) (fun h => absurd h (by decide)) (fun _ => ?_)
    refine jd_iconst (v := 0) zd_M_block_49 (by decide) ?_
    exact jd_iret rfl ⟨_, rfl, fun h => absurd h (by decide), hc, hR, sm_fr hs, sm_reflL _⟩ (by decide) (by decide) zd_M_block_50
  · rw [hN]
    refine ct_intro hls (own := zn_M) (by decide) rfl (Nat.le_of_ble_eq_true rfl) ?_
    refine jd_aload_n zd_M_block_0 rfl ?_
    refine jd_aload_n zd_M_block_1 rfl ?_
    refine jd_iload_n zd_M_block_2 rfl ?_
    refine jd_callV (n := 1) (kc_isPlaceT hls hR (ob_nI h13 hb)) rfl rfl rfl (rl_m (by decide)) (by decide) zi_786 zi_788 zi_27 zi_44 zi_789 (by decide +kernel) rfl rfl rfl (by decide) (Nat.le_of_ble_eq_true rfl) (by decide) zd_M_block_3 (fun _ _ _ h => h.elim) (fun v S2 L2 hq => ?_)
    obtain ⟨rfl, rfl, rfl⟩ := hq
    refine jd_if_ne 13 zd_M_block_6 (by decide) (fun _ => ?_) (fun h => absurd h (by decide))
    refine jd_iconst (v := 0) zd_M_block_13 (by decide) ?_
    refine jd_put rfl rfl zl_M zp_M zm_M 0 (by decide) zi_680 rfl rfl rfl rfl rfl (Nat.le_of_ble_eq_true rfl) rfl (rl_m (by decide)) (by decide) zd_M_block_14 ?_
    have hs := hs.fld (k := 0) (Or.inl rfl) (0 : Int32)
    have hc := cd_at hs
    have hR := md_sm hs hR0
    refine jd_aload_n zd_M_block_17 rfl ?_
    refine jd_get rfl rfl zl_M 0 (by decide) zi_680 rfl rfl (rl_m (by decide)) (by decide) zd_M_block_18 ?_
    rw [hc]
    refine jd_if_ne 42 zd_M_block_21 (by decide) (fun h => absurd h (by decide)) (fun _ => ?_)
    refine jd_aload_n zd_M_block_24 rfl ?_
    refine jd_aload_n zd_M_block_25 rfl ?_
    refine jd_get rfl rfl zl_M 15 (by decide) zi_695 rfl rfl (rl_m (by decide)) (by decide) zd_M_block_26 ?_
    refine jd_iload_n zd_M_block_29 rfl ?_
    refine jd_zldN (r := 416) (c := b) rfl rfl (by omega) (n := 12) (by decide) (rl_m (by decide)) (by decide) zd_M_block_30 ?_
    rw [mr_416 hR hb]
    refine jd_if_eq 38 zd_M_block_31 (by decide) (fun h => ?_) (fun h => absurd h_4 h)
    refine jd_iconst (v := 0) zd_M_block_38 (by decide) ?_
    refine jd_put rfl rfl zl_M zp_M zm_M 0 (by decide) zi_680 rfl rfl rfl rfl rfl (Nat.le_of_ble_eq_true rfl) rfl (rl_m (by decide)) (by decide) zd_M_block_39 ?_
    have hs := hs.fld (k := 0) (Or.inl rfl) (0 : Int32)
    have hc := cd_at hs
    have hR := md_sm hs hR0
    refine jd_aload_n zd_M_block_42 rfl ?_
    refine jd_get rfl rfl zl_M 0 (by decide) zi_680 rfl rfl (rl_m (by decide)) (by decide) zd_M_block_43 ?_
    rw [hc]
    refine jd_if_le 51 zd_M_block_46 (by decide) (fun _ => ?_) (fun h => absurd h (by decide))
    refine jd_aload_n zd_M_block_51 rfl ?_
    refine jd_get rfl rfl zl_M 15 (by decide) zi_695 rfl rfl (rl_m (by decide)) (by decide) zd_M_block_52 ?_
    refine jd_iload_n zd_M_block_55 rfl ?_
    refine jd_iconst (v := 1) zd_M_block_56 (by decide) ?_
    refine jd_zstN (r := 416) (c := b) (fun _ => rfl) (by decide) rfl (by omega) (n := 12) (by decide) (rl_m (by decide)) (by decide) zd_M_block_57 ?_
    have hR1 := md_bl h12 h13 hR hb 1
    have hA1 := ok_A_bl hA hb (x := 1) (Or.inr rfl)
    refine jd_aload_n zd_M_block_58 rfl ?_
    refine jd_iload_n zd_M_block_59 rfl ?_
    refine jd_callV (n := 1) (kc_MplannedFor hls hA1 hR1 (nI b)) rfl rfl rfl (rl_m (by decide)) (by decide) zi_876 zi_878 zi_38 zi_44 zi_879 (by decide +kernel) rfl rfl rfl (by decide) (Nat.le_of_ble_eq_true rfl) (by decide) zd_M_block_60 (fun _ _ _ h => h.elim) (fun v S2 L2 hq => ?_)
    obtain ⟨rfl, rfl, rfl⟩ := hq
    rw [fa_pf_b (show b < 12 by omega) h12, h_pf]
    refine jd_istore_n zd_M_block_63 (by decide) ?_
    refine jd_iload_n zd_M_block_64 rfl ?_
    refine jd_iconst (v := (-1)) zd_M_block_65 (by decide) ?_
    refine jd_icmp_ne 71 zd_M_block_66 (by decide) (fun h => absurd rfl h) (fun _ => ?_)
    refine jd_iconst (v := 0) zd_M_block_69 (by decide) ?_
    exact jd_iret rfl ⟨_, rfl, fun _ => rfl, by rw [va_up_ne _ _ (by decide)]; exact hc, hR1, (sm_fr hs).up (by decide) (by decide) _, sm_reflL _⟩ (by decide) (by decide) zd_M_block_70
  · rw [hN]
    have hl1 : fa_gr (va_up G (300 + b) (upd (G (300 + b)) 4 1)) g = true := by
      have h9 := (fa_pf_st (by omega) _ _ (by omega) h_pf).2
      unfold fa_gr fa_in at h9 ⊢
      rw [va_up_ne _ _ (by omega)]
      exact h9
    refine ct_intro hls (own := zn_M) (by decide) rfl (Nat.le_of_ble_eq_true rfl) ?_
    refine jd_aload_n zd_M_block_0 rfl ?_
    refine jd_aload_n zd_M_block_1 rfl ?_
    refine jd_iload_n zd_M_block_2 rfl ?_
    refine jd_callV (n := 1) (kc_isPlaceT hls hR (ob_nI h13 hb)) rfl rfl rfl (rl_m (by decide)) (by decide) zi_786 zi_788 zi_27 zi_44 zi_789 (by decide +kernel) rfl rfl rfl (by decide) (Nat.le_of_ble_eq_true rfl) (by decide) zd_M_block_3 (fun _ _ _ h => h.elim) (fun v S2 L2 hq => ?_)
    obtain ⟨rfl, rfl, rfl⟩ := hq
    refine jd_if_ne 13 zd_M_block_6 (by decide) (fun _ => ?_) (fun h => absurd h (by decide))
    refine jd_iconst (v := 0) zd_M_block_13 (by decide) ?_
    refine jd_put rfl rfl zl_M zp_M zm_M 0 (by decide) zi_680 rfl rfl rfl rfl rfl (Nat.le_of_ble_eq_true rfl) rfl (rl_m (by decide)) (by decide) zd_M_block_14 ?_
    have hs := hs.fld (k := 0) (Or.inl rfl) (0 : Int32)
    have hc := cd_at hs
    have hR := md_sm hs hR0
    refine jd_aload_n zd_M_block_17 rfl ?_
    refine jd_get rfl rfl zl_M 0 (by decide) zi_680 rfl rfl (rl_m (by decide)) (by decide) zd_M_block_18 ?_
    rw [hc]
    refine jd_if_ne 42 zd_M_block_21 (by decide) (fun h => absurd h (by decide)) (fun _ => ?_)
    refine jd_aload_n zd_M_block_24 rfl ?_
    refine jd_aload_n zd_M_block_25 rfl ?_
    refine jd_get rfl rfl zl_M 15 (by decide) zi_695 rfl rfl (rl_m (by decide)) (by decide) zd_M_block_26 ?_
    refine jd_iload_n zd_M_block_29 rfl ?_
    refine jd_zldN (r := 416) (c := b) rfl rfl (by omega) (n := 12) (by decide) (rl_m (by decide)) (by decide) zd_M_block_30 ?_
    rw [mr_416 hR hb]
    refine jd_if_eq 38 zd_M_block_31 (by decide) (fun h => ?_) (fun h => absurd h_4 h)
    refine jd_iconst (v := 0) zd_M_block_38 (by decide) ?_
    refine jd_put rfl rfl zl_M zp_M zm_M 0 (by decide) zi_680 rfl rfl rfl rfl rfl (Nat.le_of_ble_eq_true rfl) rfl (rl_m (by decide)) (by decide) zd_M_block_39 ?_
    have hs := hs.fld (k := 0) (Or.inl rfl) (0 : Int32)
    have hc := cd_at hs
    have hR := md_sm hs hR0
    refine jd_aload_n zd_M_block_42 rfl ?_
    refine jd_get rfl rfl zl_M 0 (by decide) zi_680 rfl rfl (rl_m (by decide)) (by decide) zd_M_block_43 ?_
    rw [hc]
    refine jd_if_le 51 zd_M_block_46 (by decide) (fun _ => ?_) (fun h => absurd h (by decide))
    refine jd_aload_n zd_M_block_51 rfl ?_
    refine jd_get rfl rfl zl_M 15 (by decide) zi_695 rfl rfl (rl_m (by decide)) (by decide) zd_M_block_52 ?_
    refine jd_iload_n zd_M_block_55 rfl ?_
    refine jd_iconst (v := 1) zd_M_block_56 (by decide) ?_
    refine jd_zstN (r := 416) (c := b) (fun _ => rfl) (by decide) rfl (by omega) (n := 12) (by decide) (rl_m (by decide)) (by decide) zd_M_block_57 ?_
    have hR1 := md_bl h12 h13 hR hb 1
    have hA1 := ok_A_bl hA hb (x := 1) (Or.inr rfl)
    refine jd_aload_n zd_M_block_58 rfl ?_
    refine jd_iload_n zd_M_block_59 rfl ?_
    refine jd_callV (n := 1) (kc_MplannedFor hls hA1 hR1 (nI b)) rfl rfl rfl (rl_m (by decide)) (by decide) zi_876 zi_878 zi_38 zi_44 zi_879 (by decide +kernel) rfl rfl rfl (by decide) (Nat.le_of_ble_eq_true rfl) (by decide) zd_M_block_60 (fun _ _ _ h => h.elim) (fun v S2 L2 hq => ?_)
    obtain ⟨rfl, rfl, rfl⟩ := hq
    rw [fa_pf_b (show b < 12 by omega) h12, h_pf]
    refine jd_istore_n zd_M_block_63 (by decide) ?_
    refine jd_iload_n zd_M_block_64 rfl ?_
    refine jd_iconst (v := (-1)) zd_M_block_65 (by decide) ?_
    refine jd_icmp_ne 71 zd_M_block_66 (by decide) (fun _ => ?_) (fun h => absurd h (nI_m1 g (by omega)))
    refine jd_iconst (v := 0) zd_M_block_71 (by decide) ?_
    refine jd_istore_n zd_M_block_72 (by decide) ?_
    refine jd_iconst (v := 0) zd_M_block_73 (by decide) ?_
    refine jd_istore zd_M_block_74 (by decide) ?_
    refine jd_sub [(0, av_r 400), (2, av_i (nI g)), (3, av_i (fm_tk (va_up G (300 + b) (upd (G (300 + b)) 4 1)) g 0)), (4, av_i (nI 0))] ⟨rfl, rfl, rfl, rfl, trivial⟩ (kl_Mblock1 hls hA1 hR1 hg ?_ (w.2.2.1 + 1) 0 (by omega) (by omega))
    refine jd_aload_n zd_M_block_129 rfl ?_
    refine jd_iload_n zd_M_block_130 rfl ?_
    refine jd_iload_n zd_M_block_131 rfl ?_
    refine jd_callV (n := 2) (kc_Mcheapest hls hA1 hR1 hg hl1 _) rfl rfl rfl (rl_m (by decide)) (by decide) zi_848 zi_850 zi_37 zi_44 zi_851 (by decide +kernel) rfl rfl rfl (by decide) (Nat.le_of_ble_eq_true rfl) (by decide) zd_M_block_132 (fun _ _ _ h => h.elim) (fun v S2 L2 hq => ?_)
    obtain ⟨rfl, rfl, rfl⟩ := hq
    rw [fa_ga_b (show b < 12 by omega) h12, tk_same hA hb hg h_pf]
    refine jd_istore zd_M_block_135 (by decide) ?_
    refine jd_iconst (v := 0) zd_M_block_137 (by decide) ?_
    refine jd_istore zd_M_block_138 (by decide) ?_
    refine jd_sub [(0, av_r 400), (2, av_i (nI g)), (4, av_i (fa_ch (va_up G (300 + b) (upd (G (300 + b)) 4 1)) (fa_ga G (nI g) w.2.2.1) g (fa_pp G w.2.2.1) w.2.2.2).1), (5, av_i (nI 0))] ⟨rfl, rfl, rfl, rfl, trivial⟩ (kl_Mblock2 hls hA1 hR1.1.1 (fun v hv => mr_405 hR1 hv) hg hl1 _ (fun T hW => ?_) (w.2.2.1 + 1) 0 (by omega) (by omega) _ ml_w0)
    refine jd_iload zd_M_block_175 rfl ?_
    refine jd_iconst (v := (-1)) zd_M_block_177 (by decide) ?_
    refine jd_icmp_ne 185 zd_M_block_178 (by decide) (fun h_178 => ?_) (fun h_178 => ?_)
    · refine jd_iconst (v := 1) zd_M_block_185 (by decide) ?_
      exact jd_iret rfl ⟨_, rfl, fun _ => by rw [if_neg h_178], by rw [hW.1 400 (by decide), va_up_ne _ _ (by decide)]; exact hc, md_pla h12 hR1 hW, ((sm_fr hs).up (by decide) (by decide) _).tr (ml_fr (by decide) (by decide) hW), sm_reflL _⟩ (by decide) (by decide) zd_M_block_186
    · refine jd_iconst (v := 0) zd_M_block_181 (by decide) ?_
      refine jd_goto 186 zd_M_block_182 (by decide) ?_
      exact jd_iret rfl ⟨_, rfl, fun _ => by rw [if_pos h_178], by rw [hW.1 400 (by decide), va_up_ne _ _ (by decide)]; exact hc, md_pla h12 hR1 hW, ((sm_fr hs).up (by decide) (by decide) _).tr (ml_fr (by decide) (by decide) hW), sm_reflL _⟩ (by decide) (by decide) zd_M_block_186
set_option maxRecDepth 100000 in
set_option maxHeartbeats 4000000 in
theorem kl_Mtog {l : Launch} (hls : l.stackTraces = false) {D : va_G} {w : wd_T} {L : Nat → Nat → Int64} {G B : Nat → Nat → Int32} (hA : ok_A w G) (hB1 : B 400 1 = nI w.2.2.1) (hB5 : ∀ v, v < w.2.2.1 → B 405 v = G (100 + v) 2) {lo hi : Nat} (hlo : lo < 12) (hhi : hi < 12) (hlh : lo < hi) (hgl : lo < w.2.2.1) (hgh : hi < w.2.2.1) (hll : fa_gr G lo = true) (hlh2 : fa_gr G hi = true) {Qp : jd_P} (hQ : ∀ T, ml_g w.2.2.1 B T (fun u => fa_in G u (nI lo) || fa_in G u (nI hi)) (nI lo) w.2.2.1 → Qp.1 (some (av_i (fa_ga (fa_un (fa_to G w.2.2.1 (nI lo) (nI hi)) w.2.2.1 (nI lo) (-1)) (nI lo) w.2.2.1 1))) T L) : ∀ (k u : Nat), u ≤ w.2.2.1 → w.2.2.1 < u + k → ∀ T, ml_g w.2.2.1 B T (fun u => fa_in G u (nI lo) || fa_in G u (nI hi)) (nI lo) u → jd_J l D w zn_M zb_M_together 7 (Option.some Jvm.ClassFile.FieldType.int) [] ({ frames := 2, cells := 0, slots := 0, locals := 43 } : Room) 0 0 Qp 0 0 133 [(0, av_r 400), (3, av_i (nI lo)), (4, av_i (nI hi)), (5, av_i (fa_ga (fa_un (fa_to G w.2.2.1 (nI lo) (nI hi)) w.2.2.1 (nI lo) (-1)) (nI lo) u 1)), (6, av_i (nI u))] [] T L := by
  have h12 := hA.1.1
  intro k
  induction k with
  | zero => intro u h1 h2; omega
  | succ k ih =>
    intro u hu hk T hW
    refine jd_iload zd_M_together_133 rfl ?_
    refine jd_aload_n zd_M_together_135 rfl ?_
    refine jd_get rfl rfl zl_M 1 (by decide) zi_681 rfl rfl (rl_m (by decide)) (by decide) zd_M_together_136 ?_
    refine jd_icmp_ge 193 zd_M_together_139 (by decide) (fun h_139 => ?_) (fun h_139 => ?_)
    · have e_u := nI_end (show T 400 1 = nI w.2.2.1 by rw [hW.1 400 (by decide) (by decide)]; exact hB1) (by omega) hu h_139
      subst e_u
      refine jd_iload zd_M_together_193 rfl ?_
      exact jd_iret rfl (hQ T hW) (by decide) (by decide) zd_M_together_195
    · have hu2 := nI_on (show T 400 1 = nI w.2.2.1 by rw [hW.1 400 (by decide) (by decide)]; exact hB1) (by omega) hu h_139
      refine jd_aload_n zd_M_together_142 rfl ?_
      refine jd_get rfl rfl zl_M 4 (by decide) zi_684 rfl rfl (rl_m (by decide)) (by decide) zd_M_together_143 ?_
      refine jd_iload zd_M_together_146 rfl ?_
      refine jd_ildN (r := 405) (c := u) rfl rfl (by omega) (n := 12) (by decide) (rl_m (by decide)) (by decide) zd_M_together_148 ?_
      rw [hW.2.1 u, if_neg (show ¬ (u < u ∧ u < w.2.2.1 ∧ (fun u => fa_in G u (nI lo) || fa_in G u (nI hi)) u = true) by omega), hB5 u hu2]
      refine jd_iload_n zd_M_together_149 rfl ?_
      refine jd_icmp_eq 168 zd_M_together_150 (by decide) (fun h_150 => ?_) (fun h_150 => ?_)
      · have hin : (fa_in G u (nI lo) || fa_in G u (nI hi)) = true := by rw [(mi_in hA hu2 hgl hll).mp h_150]; rfl
        refine jd_aload_n zd_M_together_168 rfl ?_
        refine jd_get rfl rfl zl_M 4 (by decide) zi_684 rfl rfl (rl_m (by decide)) (by decide) zd_M_together_169 ?_
        refine jd_iload zd_M_together_172 rfl ?_
        refine jd_iload_n zd_M_together_174 rfl ?_
        refine jd_istN (r := 405) (c := u) (fun _ => rfl) rfl (by omega) (n := 12) (by decide) (rl_m (by decide)) (by decide) zd_M_together_175 ?_
        refine jd_aload_n zd_M_together_176 rfl ?_
        refine jd_get rfl rfl zl_M 6 (by decide) zi_686 rfl rfl (rl_m (by decide)) (by decide) zd_M_together_177 ?_
        refine jd_iload zd_M_together_180 rfl ?_
        refine jd_iconst (v := (-1)) zd_M_together_182 (by decide) ?_
        refine jd_istN (r := 407) (c := u) (fun _ => rfl) rfl (by omega) (n := 12) (by decide) (rl_m (by decide)) (by decide) zd_M_together_183 ?_
        refine jd_iinc (v := (fa_ga (fa_un (fa_to G w.2.2.1 (nI lo) (nI hi)) w.2.2.1 (nI lo) (-1)) (nI lo) u 1) + 1) zd_M_together_184 rfl rfl (by decide) ?_
        refine jd_iinc (v := nI (u + 1)) zd_M_together_187 rfl (nI_inc u) (by decide) ?_
        refine jd_goto 133 zd_M_together_190 (by decide) ?_
        exact jd_sub [(0, av_r 400), (3, av_i (nI lo)), (4, av_i (nI hi)), (5, av_i (fa_ga (fa_un (fa_to G w.2.2.1 (nI lo) (nI hi)) w.2.2.1 (nI lo) (-1)) (nI lo) (u + 1) 1)), (6, av_i (nI (u + 1)))] ⟨rfl, rfl, rfl, by rw [ga_cY (show fa_in (fa_un (fa_to G w.2.2.1 (nI lo) (nI hi)) w.2.2.1 (nI lo) (-1)) u (nI lo) = true by rw [tg_in2 hu2 hlo hhi (by omega)]; exact hin)]; rfl, rfl, trivial⟩ (ih (u + 1) (by omega) (by omega) _ (ml_gY hW hu2 hin))
      · refine jd_aload_n zd_M_together_153 rfl ?_
        refine jd_get rfl rfl zl_M 4 (by decide) zi_684 rfl rfl (rl_m (by decide)) (by decide) zd_M_together_154 ?_
        refine jd_iload zd_M_together_157 rfl ?_
        refine jd_ildN (r := 405) (c := u) rfl rfl (by omega) (n := 12) (by decide) (rl_m (by decide)) (by decide) zd_M_together_159 ?_
        rw [hW.2.1 u, if_neg (show ¬ (u < u ∧ u < w.2.2.1 ∧ (fun u => fa_in G u (nI lo) || fa_in G u (nI hi)) u = true) by omega), hB5 u hu2]
        refine jd_iload zd_M_together_160 rfl ?_
        refine jd_icmp_eq 168 zd_M_together_162 (by decide) (fun h_162 => ?_) (fun h_162 => ?_)
        · have hin : (fa_in G u (nI lo) || fa_in G u (nI hi)) = true := by rw [(mi_in hA hu2 hgh hlh2).mp h_162]; exact Bool.or_true _
          refine jd_aload_n zd_M_together_168 rfl ?_
          refine jd_get rfl rfl zl_M 4 (by decide) zi_684 rfl rfl (rl_m (by decide)) (by decide) zd_M_together_169 ?_
          refine jd_iload zd_M_together_172 rfl ?_
          refine jd_iload_n zd_M_together_174 rfl ?_
          refine jd_istN (r := 405) (c := u) (fun _ => rfl) rfl (by omega) (n := 12) (by decide) (rl_m (by decide)) (by decide) zd_M_together_175 ?_
          refine jd_aload_n zd_M_together_176 rfl ?_
          refine jd_get rfl rfl zl_M 6 (by decide) zi_686 rfl rfl (rl_m (by decide)) (by decide) zd_M_together_177 ?_
          refine jd_iload zd_M_together_180 rfl ?_
          refine jd_iconst (v := (-1)) zd_M_together_182 (by decide) ?_
          refine jd_istN (r := 407) (c := u) (fun _ => rfl) rfl (by omega) (n := 12) (by decide) (rl_m (by decide)) (by decide) zd_M_together_183 ?_
          refine jd_iinc (v := (fa_ga (fa_un (fa_to G w.2.2.1 (nI lo) (nI hi)) w.2.2.1 (nI lo) (-1)) (nI lo) u 1) + 1) zd_M_together_184 rfl rfl (by decide) ?_
          refine jd_iinc (v := nI (u + 1)) zd_M_together_187 rfl (nI_inc u) (by decide) ?_
          refine jd_goto 133 zd_M_together_190 (by decide) ?_
          exact jd_sub [(0, av_r 400), (3, av_i (nI lo)), (4, av_i (nI hi)), (5, av_i (fa_ga (fa_un (fa_to G w.2.2.1 (nI lo) (nI hi)) w.2.2.1 (nI lo) (-1)) (nI lo) (u + 1) 1)), (6, av_i (nI (u + 1)))] ⟨rfl, rfl, rfl, by rw [ga_cY (show fa_in (fa_un (fa_to G w.2.2.1 (nI lo) (nI hi)) w.2.2.1 (nI lo) (-1)) u (nI lo) = true by rw [tg_in2 hu2 hlo hhi (by omega)]; exact hin)]; rfl, rfl, trivial⟩ (ih (u + 1) (by omega) (by omega) _ (ml_gY hW hu2 hin))
        · refine jd_goto 187 zd_M_together_165 (by decide) ?_
          refine jd_iinc (v := nI (u + 1)) zd_M_together_187 rfl (nI_inc u) (by decide) ?_
          refine jd_goto 133 zd_M_together_190 (by decide) ?_
          have hin : ¬ (fa_in G u (nI lo) || fa_in G u (nI hi)) = true := fun z => by rw [Bool.or_eq_true] at z; rcases z with z | z; exact h_150 ((mi_in hA hu2 hgl hll).mpr z); exact h_162 ((mi_in hA hu2 hgh hlh2).mpr z)
          exact jd_sub [(0, av_r 400), (3, av_i (nI lo)), (4, av_i (nI hi)), (5, av_i (fa_ga (fa_un (fa_to G w.2.2.1 (nI lo) (nI hi)) w.2.2.1 (nI lo) (-1)) (nI lo) (u + 1) 1)), (6, av_i (nI (u + 1)))] ⟨rfl, rfl, rfl, by rw [ga_cN (show ¬ fa_in (fa_un (fa_to G w.2.2.1 (nI lo) (nI hi)) w.2.2.1 (nI lo) (-1)) u (nI lo) = true by rw [tg_in2 hu2 hlo hhi (by omega)]; exact hin)]; rfl, rfl, trivial⟩ (ih (u + 1) (by omega) (by omega) _ (ml_gN hW hin))
theorem nI_pin {lo g : Nat} (hg : g < 12) (h : nI g = nI lo) (hl : lo < 2 ^ 31) : lo = g := by
  rw [nI_eq (by omega) hl] at h; exact h.symm
set_option maxRecDepth 100000 in
set_option maxHeartbeats 4000000 in
theorem kc_Mtogether {l : Launch} (hls : l.stackTraces = false) {D : va_G} {w : wd_T} {S : Nat → Nat → Int32} {L : Nat → Nat → Int64} {G : Nat → Nat → Int32} (hA : ok_A w G) (hR0 : md_R w G S) {x y : Int32} {c v : Int32} {N : Nat → Nat → Int32} (hO : ou_together w G x y c v N) : ct_M l D w zy_M_together (Cond.code zy_M_together zb_M_together 7 (Option.some Jvm.ClassFile.FieldType.int)) ({ frames := 2, cells := 0, slots := 0, locals := 43 } : Room) [av_r 400, av_i x, av_i y] S L (po_M w c v N S L) 0 0 := by
  have h12 := hA.1.1
  have h13 := hA.1.2.1
  have hs := sm_refl S
  have hR := hR0
  rcases hO with ⟨h_o, rfl, hN⟩ | ⟨a, b, ha, hb, rfl, rfl, ⟨h_d, rfl, hN⟩ | ⟨lo, hi, h_5a, h_5b, hlh, hhi, hcs, rfl, hN, rfl⟩⟩
  · rw [hN]
    have h_d : ob x 0 (nI w.2.2.1 - 1) = true ∨ (ob x 0 (nI w.2.2.1 - 1) = false ∧ ob y 0 (nI w.2.2.1 - 1) = true) := by cases q1 : ob x 0 (nI w.2.2.1 - 1) <;> cases q2 : ob y 0 (nI w.2.2.1 - 1) <;> simp_all
    rcases h_d with h_d | ⟨h_d, h_d2⟩
    · refine ct_intro hls (own := zn_M) (by decide) rfl (Nat.le_of_ble_eq_true rfl) ?_
      refine jd_aload_n zd_M_together_0 rfl ?_
      refine jd_aload_n zd_M_together_1 rfl ?_
      refine jd_iload_n zd_M_together_2 rfl ?_
      refine jd_callV (n := 1) (kc_isUnitF hls hR h_d) rfl rfl rfl (rl_m (by decide)) (by decide) zi_782 zi_784 zi_26 zi_44 zi_785 (by decide +kernel) rfl rfl rfl (by decide) (Nat.le_of_ble_eq_true rfl) (by decide) zd_M_together_3 (fun _ _ _ h => h.elim) (fun v S2 L2 hq => ?_)
      obtain ⟨rfl, rfl, rfl⟩ := hq
      refine jd_if_eq 17 zd_M_together_6 (by decide) (fun _ => ?_) (fun h => absurd h (by decide))
      refine jd_iconst (v := 1) zd_M_together_17 (by decide) ?_
      refine jd_goto 22 zd_M_together_18 (by decide) ?_
      refine jd_put rfl rfl zl_M zp_M zm_M 0 (by decide) zi_680 rfl rfl rfl rfl rfl (Nat.le_of_ble_eq_true rfl) rfl (rl_m (by decide)) (by decide) zd_M_together_22 ?_
      have hs := hs.fld (k := 0) (Or.inl rfl) (1 : Int32)
      have hc := cd_at hs
      have hR := md_sm hs hR0
      refine jd_aload_n zd_M_together_25 rfl ?_
      refine jd_get rfl rfl zl_M 0 (by decide) zi_680 rfl rfl (rl_m (by decide)) (by decide) zd_M_together_26 ?_
      rw [hc]
      refine jd_if_ne 70 zd_M_together_29 (by decide) (fun _ => ?_) (fun h => absurd h (by decide))
      refine jd_aload_n zd_M_together_70 rfl ?_
      refine jd_get rfl rfl zl_M 0 (by decide) zi_680 rfl rfl (rl_m (by decide)) (by decide) zd_M_together_71 ?_
      rw [hc]
      refine jd_if_le 79 zd_M_together_74 (by decide) (fun h => absurd h (by decide)) (fun _ => ?_)
      refine jd_iconst (v := 0) zd_M_together_77 (by decide) ?_
      exact jd_iret rfl ⟨_, rfl, fun h => absurd h (by decide), hc, hR, sm_fr hs, sm_reflL _⟩ (by decide) (by decide) zd_M_together_78
    · refine ct_intro hls (own := zn_M) (by decide) rfl (Nat.le_of_ble_eq_true rfl) ?_
      refine jd_aload_n zd_M_together_0 rfl ?_
      refine jd_aload_n zd_M_together_1 rfl ?_
      refine jd_iload_n zd_M_together_2 rfl ?_
      refine jd_callV (n := 1) (kc_isUnitT hls hR h_d) rfl rfl rfl (rl_m (by decide)) (by decide) zi_782 zi_784 zi_26 zi_44 zi_785 (by decide +kernel) rfl rfl rfl (by decide) (Nat.le_of_ble_eq_true rfl) (by decide) zd_M_together_3 (fun _ _ _ h => h.elim) (fun v S2 L2 hq => ?_)
      obtain ⟨rfl, rfl, rfl⟩ := hq
      refine jd_if_eq 17 zd_M_together_6 (by decide) (fun h => absurd h (by decide)) (fun _ => ?_)
      refine jd_aload_n zd_M_together_9 rfl ?_
      refine jd_iload_n zd_M_together_10 rfl ?_
      refine jd_callV (n := 1) (kc_isUnitF hls hR h_d2) rfl rfl rfl (rl_m (by decide)) (by decide) zi_782 zi_784 zi_26 zi_44 zi_785 (by decide +kernel) rfl rfl rfl (by decide) (Nat.le_of_ble_eq_true rfl) (by decide) zd_M_together_11 (fun _ _ _ h => h.elim) (fun v S2 L2 hq => ?_)
      obtain ⟨rfl, rfl, rfl⟩ := hq
      refine jd_if_ne 21 zd_M_together_14 (by decide) (fun h => absurd h (by decide)) (fun _ => ?_)
      refine jd_iconst (v := 1) zd_M_together_17 (by decide) ?_
      refine jd_goto 22 zd_M_together_18 (by decide) ?_
      refine jd_put rfl rfl zl_M zp_M zm_M 0 (by decide) zi_680 rfl rfl rfl rfl rfl (Nat.le_of_ble_eq_true rfl) rfl (rl_m (by decide)) (by decide) zd_M_together_22 ?_
      have hs := hs.fld (k := 0) (Or.inl rfl) (1 : Int32)
      have hc := cd_at hs
      have hR := md_sm hs hR0
      refine jd_aload_n zd_M_together_25 rfl ?_
      refine jd_get rfl rfl zl_M 0 (by decide) zi_680 rfl rfl (rl_m (by decide)) (by decide) zd_M_together_26 ?_
      rw [hc]
      refine jd_if_ne 70 zd_M_together_29 (by decide) (fun _ => ?_) (fun h => absurd h (by decide))
      refine jd_aload_n zd_M_together_70 rfl ?_
      refine jd_get rfl rfl zl_M 0 (by decide) zi_680 rfl rfl (rl_m (by decide)) (by decide) zd_M_together_71 ?_
      rw [hc]
      refine jd_if_le 79 zd_M_together_74 (by decide) (fun h => absurd h (by decide)) (fun _ => ?_)
      refine jd_iconst (v := 0) zd_M_together_77 (by decide) ?_
      exact jd_iret rfl ⟨_, rfl, fun h => absurd h (by decide), hc, hR, sm_fr hs, sm_reflL _⟩ (by decide) (by decide) zd_M_together_78
  · rw [hN]
    refine ct_intro hls (own := zn_M) (by decide) rfl (Nat.le_of_ble_eq_true rfl) ?_
    refine jd_aload_n zd_M_together_0 rfl ?_
    refine jd_aload_n zd_M_together_1 rfl ?_
    refine jd_iload_n zd_M_together_2 rfl ?_
    refine jd_callV (n := 1) (kc_isUnitT hls hR (ob_nI h12 ha)) rfl rfl rfl (rl_m (by decide)) (by decide) zi_782 zi_784 zi_26 zi_44 zi_785 (by decide +kernel) rfl rfl rfl (by decide) (Nat.le_of_ble_eq_true rfl) (by decide) zd_M_together_3 (fun _ _ _ h => h.elim) (fun v S2 L2 hq => ?_)
    obtain ⟨rfl, rfl, rfl⟩ := hq
    refine jd_if_eq 17 zd_M_together_6 (by decide) (fun h => absurd h (by decide)) (fun _ => ?_)
    refine jd_aload_n zd_M_together_9 rfl ?_
    refine jd_iload_n zd_M_together_10 rfl ?_
    refine jd_callV (n := 1) (kc_isUnitT hls hR (ob_nI h12 hb)) rfl rfl rfl (rl_m (by decide)) (by decide) zi_782 zi_784 zi_26 zi_44 zi_785 (by decide +kernel) rfl rfl rfl (by decide) (Nat.le_of_ble_eq_true rfl) (by decide) zd_M_together_11 (fun _ _ _ h => h.elim) (fun v S2 L2 hq => ?_)
    obtain ⟨rfl, rfl, rfl⟩ := hq
    refine jd_if_ne 21 zd_M_together_14 (by decide) (fun _ => ?_) (fun h => absurd h (by decide))
    refine jd_iconst (v := 0) zd_M_together_21 (by decide) ?_
    refine jd_put rfl rfl zl_M zp_M zm_M 0 (by decide) zi_680 rfl rfl rfl rfl rfl (Nat.le_of_ble_eq_true rfl) rfl (rl_m (by decide)) (by decide) zd_M_together_22 ?_
    have hs := hs.fld (k := 0) (Or.inl rfl) (0 : Int32)
    have hc := cd_at hs
    have hR := md_sm hs hR0
    refine jd_aload_n zd_M_together_25 rfl ?_
    refine jd_get rfl rfl zl_M 0 (by decide) zi_680 rfl rfl (rl_m (by decide)) (by decide) zd_M_together_26 ?_
    rw [hc]
    refine jd_if_ne 70 zd_M_together_29 (by decide) (fun h => absurd h (by decide)) (fun _ => ?_)
    refine jd_aload_n zd_M_together_32 rfl ?_
    refine jd_get rfl rfl zl_M 7 (by decide) zi_687 rfl rfl (rl_m (by decide)) (by decide) zd_M_together_33 ?_
    refine jd_iload_n zd_M_together_36 rfl ?_
    refine jd_zldN (r := 408) (c := a) rfl rfl (by omega) (n := 12) (by decide) (rl_m (by decide)) (by decide) zd_M_together_37 ?_
    rw [mr_408 hR ha]
    refine jd_if_ne 65 zd_M_together_38 (by decide) (fun h_38 => ?_) (fun h_38 => ?_)
    · refine jd_aload_n zd_M_together_65 rfl ?_
      refine jd_iconst (v := 2) zd_M_together_66 (by decide) ?_
      refine jd_put rfl rfl zl_M zp_M zm_M 0 (by decide) zi_680 rfl rfl rfl rfl rfl (Nat.le_of_ble_eq_true rfl) rfl (rl_m (by decide)) (by decide) zd_M_together_67 ?_
      have hs := hs.fld (k := 0) (Or.inl rfl) (2 : Int32)
      have hc := cd_at hs
      have hR := md_sm hs hR0
      refine jd_aload_n zd_M_together_70 rfl ?_
      refine jd_get rfl rfl zl_M 0 (by decide) zi_680 rfl rfl (rl_m (by decide)) (by decide) zd_M_together_71 ?_
      rw [hc]
      refine jd_if_le 79 zd_M_together_74 (by decide) (fun h => absurd h (by decide)) (fun _ => ?_)
      refine jd_iconst (v := 0) zd_M_together_77 (by decide) ?_
      exact jd_iret rfl ⟨_, rfl, fun h => absurd h (by decide), hc, hR, sm_fr hs, sm_reflL _⟩ (by decide) (by decide) zd_M_together_78
    · refine jd_aload_n zd_M_together_41 rfl ?_
      refine jd_get rfl rfl zl_M 7 (by decide) zi_687 rfl rfl (rl_m (by decide)) (by decide) zd_M_together_42 ?_
      refine jd_iload_n zd_M_together_45 rfl ?_
      refine jd_zldN (r := 408) (c := b) rfl rfl (by omega) (n := 12) (by decide) (rl_m (by decide)) (by decide) zd_M_together_46 ?_
      rw [mr_408 hR hb]
      refine jd_if_ne 65 zd_M_together_47 (by decide) (fun h_47 => ?_) (fun h_47 => ?_)
      · refine jd_aload_n zd_M_together_65 rfl ?_
        refine jd_iconst (v := 2) zd_M_together_66 (by decide) ?_
        refine jd_put rfl rfl zl_M zp_M zm_M 0 (by decide) zi_680 rfl rfl rfl rfl rfl (Nat.le_of_ble_eq_true rfl) rfl (rl_m (by decide)) (by decide) zd_M_together_67 ?_
        have hs := hs.fld (k := 0) (Or.inl rfl) (2 : Int32)
        have hc := cd_at hs
        have hR := md_sm hs hR0
        refine jd_aload_n zd_M_together_70 rfl ?_
        refine jd_get rfl rfl zl_M 0 (by decide) zi_680 rfl rfl (rl_m (by decide)) (by decide) zd_M_together_71 ?_
        rw [hc]
        refine jd_if_le 79 zd_M_together_74 (by decide) (fun h => absurd h (by decide)) (fun _ => ?_)
        refine jd_iconst (v := 0) zd_M_together_77 (by decide) ?_
        exact jd_iret rfl ⟨_, rfl, fun h => absurd h (by decide), hc, hR, sm_fr hs, sm_reflL _⟩ (by decide) (by decide) zd_M_together_78
      · refine jd_aload_n zd_M_together_50 rfl ?_
        refine jd_get rfl rfl zl_M 4 (by decide) zi_684 rfl rfl (rl_m (by decide)) (by decide) zd_M_together_51 ?_
        refine jd_iload_n zd_M_together_54 rfl ?_
        refine jd_ildN (r := 405) (c := a) rfl rfl (by omega) (n := 12) (by decide) (rl_m (by decide)) (by decide) zd_M_together_55 ?_
        rw [mr_405 hR ha]
        refine jd_aload_n zd_M_together_56 rfl ?_
        refine jd_get rfl rfl zl_M 4 (by decide) zi_684 rfl rfl (rl_m (by decide)) (by decide) zd_M_together_57 ?_
        refine jd_iload_n zd_M_together_60 rfl ?_
        refine jd_ildN (r := 405) (c := b) rfl rfl (by omega) (n := 12) (by decide) (rl_m (by decide)) (by decide) zd_M_together_61 ?_
        rw [mr_405 hR hb]
        refine jd_icmp_ne 70 zd_M_together_62 (by decide) (fun h_62 => ?_) (fun h_62 => ?_)
        · exfalso
          rcases h_d with h | h | h
          · exact h h_38
          · exact h h_47
          · exact h_62 h
        · refine jd_aload_n zd_M_together_65 rfl ?_
          refine jd_iconst (v := 2) zd_M_together_66 (by decide) ?_
          refine jd_put rfl rfl zl_M zp_M zm_M 0 (by decide) zi_680 rfl rfl rfl rfl rfl (Nat.le_of_ble_eq_true rfl) rfl (rl_m (by decide)) (by decide) zd_M_together_67 ?_
          have hs := hs.fld (k := 0) (Or.inl rfl) (2 : Int32)
          have hc := cd_at hs
          have hR := md_sm hs hR0
          refine jd_aload_n zd_M_together_70 rfl ?_
          refine jd_get rfl rfl zl_M 0 (by decide) zi_680 rfl rfl (rl_m (by decide)) (by decide) zd_M_together_71 ?_
          rw [hc]
          refine jd_if_le 79 zd_M_together_74 (by decide) (fun h => absurd h (by decide)) (fun _ => ?_)
          refine jd_iconst (v := 0) zd_M_together_77 (by decide) ?_
          exact jd_iret rfl ⟨_, rfl, fun h => absurd h (by decide), hc, hR, sm_fr hs, sm_reflL _⟩ (by decide) (by decide) zd_M_together_78
  · rw [hN]
    obtain ⟨ga, hga, ega, hla⟩ := hA.2.2.1 a ha h_5a
    obtain ⟨gb, hgb, egb, hlb⟩ := hA.2.2.1 b hb h_5b
    have hne : ¬ G (100 + a) 2 = G (100 + b) 2 := by
      rcases hcs with ⟨q1, q2⟩ | ⟨q1, q2⟩ <;> rw [q1, q2] <;> intro q <;> rw [nI_eq (by omega) (by omega)] at q <;> omega
    rcases hcs with ⟨q1, q2⟩ | ⟨q1, q2⟩
    · have e1 : lo = ga := nI_pin (by omega) (ega.symm.trans q1) (by omega)
      have e2 : hi = gb := nI_pin (by omega) (egb.symm.trans q2) (by omega)
      subst e1
      subst e2
      refine ct_intro hls (own := zn_M) (by decide) rfl (Nat.le_of_ble_eq_true rfl) ?_
      refine jd_aload_n zd_M_together_0 rfl ?_
      refine jd_aload_n zd_M_together_1 rfl ?_
      refine jd_iload_n zd_M_together_2 rfl ?_
      refine jd_callV (n := 1) (kc_isUnitT hls hR (ob_nI h12 ha)) rfl rfl rfl (rl_m (by decide)) (by decide) zi_782 zi_784 zi_26 zi_44 zi_785 (by decide +kernel) rfl rfl rfl (by decide) (Nat.le_of_ble_eq_true rfl) (by decide) zd_M_together_3 (fun _ _ _ h => h.elim) (fun v S2 L2 hq => ?_)
      obtain ⟨rfl, rfl, rfl⟩ := hq
      refine jd_if_eq 17 zd_M_together_6 (by decide) (fun h => absurd h (by decide)) (fun _ => ?_)
      refine jd_aload_n zd_M_together_9 rfl ?_
      refine jd_iload_n zd_M_together_10 rfl ?_
      refine jd_callV (n := 1) (kc_isUnitT hls hR (ob_nI h12 hb)) rfl rfl rfl (rl_m (by decide)) (by decide) zi_782 zi_784 zi_26 zi_44 zi_785 (by decide +kernel) rfl rfl rfl (by decide) (Nat.le_of_ble_eq_true rfl) (by decide) zd_M_together_11 (fun _ _ _ h => h.elim) (fun v S2 L2 hq => ?_)
      obtain ⟨rfl, rfl, rfl⟩ := hq
      refine jd_if_ne 21 zd_M_together_14 (by decide) (fun _ => ?_) (fun h => absurd h (by decide))
      refine jd_iconst (v := 0) zd_M_together_21 (by decide) ?_
      refine jd_put rfl rfl zl_M zp_M zm_M 0 (by decide) zi_680 rfl rfl rfl rfl rfl (Nat.le_of_ble_eq_true rfl) rfl (rl_m (by decide)) (by decide) zd_M_together_22 ?_
      have hs := hs.fld (k := 0) (Or.inl rfl) (0 : Int32)
      have hc := cd_at hs
      have hR := md_sm hs hR0
      refine jd_aload_n zd_M_together_25 rfl ?_
      refine jd_get rfl rfl zl_M 0 (by decide) zi_680 rfl rfl (rl_m (by decide)) (by decide) zd_M_together_26 ?_
      rw [hc]
      refine jd_if_ne 70 zd_M_together_29 (by decide) (fun h => absurd h (by decide)) (fun _ => ?_)
      refine jd_aload_n zd_M_together_32 rfl ?_
      refine jd_get rfl rfl zl_M 7 (by decide) zi_687 rfl rfl (rl_m (by decide)) (by decide) zd_M_together_33 ?_
      refine jd_iload_n zd_M_together_36 rfl ?_
      refine jd_zldN (r := 408) (c := a) rfl rfl (by omega) (n := 12) (by decide) (rl_m (by decide)) (by decide) zd_M_together_37 ?_
      rw [mr_408 hR ha]
      refine jd_if_ne 65 zd_M_together_38 (by decide) (fun h_38 => ?_) (fun h_38 => ?_)
      · exact absurd h_5a h_38
      · refine jd_aload_n zd_M_together_41 rfl ?_
        refine jd_get rfl rfl zl_M 7 (by decide) zi_687 rfl rfl (rl_m (by decide)) (by decide) zd_M_together_42 ?_
        refine jd_iload_n zd_M_together_45 rfl ?_
        refine jd_zldN (r := 408) (c := b) rfl rfl (by omega) (n := 12) (by decide) (rl_m (by decide)) (by decide) zd_M_together_46 ?_
        rw [mr_408 hR hb]
        refine jd_if_ne 65 zd_M_together_47 (by decide) (fun h_47 => ?_) (fun h_47 => ?_)
        · exact absurd h_5b h_47
        · refine jd_aload_n zd_M_together_50 rfl ?_
          refine jd_get rfl rfl zl_M 4 (by decide) zi_684 rfl rfl (rl_m (by decide)) (by decide) zd_M_together_51 ?_
          refine jd_iload_n zd_M_together_54 rfl ?_
          refine jd_ildN (r := 405) (c := a) rfl rfl (by omega) (n := 12) (by decide) (rl_m (by decide)) (by decide) zd_M_together_55 ?_
          rw [mr_405 hR ha]
          refine jd_aload_n zd_M_together_56 rfl ?_
          refine jd_get rfl rfl zl_M 4 (by decide) zi_684 rfl rfl (rl_m (by decide)) (by decide) zd_M_together_57 ?_
          refine jd_iload_n zd_M_together_60 rfl ?_
          refine jd_ildN (r := 405) (c := b) rfl rfl (by omega) (n := 12) (by decide) (rl_m (by decide)) (by decide) zd_M_together_61 ?_
          rw [mr_405 hR hb]
          refine jd_icmp_ne 70 zd_M_together_62 (by decide) (fun h_62 => ?_) (fun h_62 => ?_)
          · refine jd_aload_n zd_M_together_70 rfl ?_
            refine jd_get rfl rfl zl_M 0 (by decide) zi_680 rfl rfl (rl_m (by decide)) (by decide) zd_M_together_71 ?_
            rw [hc]
            refine jd_if_le 79 zd_M_together_74 (by decide) (fun _ => ?_) (fun h => absurd h (by decide))
            refine jd_aload_n zd_M_together_79 rfl ?_
            refine jd_get rfl rfl zl_M 4 (by decide) zi_684 rfl rfl (rl_m (by decide)) (by decide) zd_M_together_80 ?_
            refine jd_iload_n zd_M_together_83 rfl ?_
            refine jd_ildN (r := 405) (c := a) rfl rfl (by omega) (n := 12) (by decide) (rl_m (by decide)) (by decide) zd_M_together_84 ?_
            rw [mr_405 hR ha]
            refine jd_aload_n zd_M_together_85 rfl ?_
            refine jd_get rfl rfl zl_M 4 (by decide) zi_684 rfl rfl (rl_m (by decide)) (by decide) zd_M_together_86 ?_
            refine jd_iload_n zd_M_together_89 rfl ?_
            refine jd_ildN (r := 405) (c := b) rfl rfl (by omega) (n := 12) (by decide) (rl_m (by decide)) (by decide) zd_M_together_90 ?_
            rw [mr_405 hR hb]
            rw [q1, q2]
            refine jd_icmp_ge 103 zd_M_together_91 (by decide) (fun h => absurd h (nI_ge hlh (by omega))) (fun _ => ?_)
            refine jd_aload_n zd_M_together_94 rfl ?_
            refine jd_get rfl rfl zl_M 4 (by decide) zi_684 rfl rfl (rl_m (by decide)) (by decide) zd_M_together_95 ?_
            refine jd_iload_n zd_M_together_98 rfl ?_
            refine jd_ildN (r := 405) (c := a) rfl rfl (by omega) (n := 12) (by decide) (rl_m (by decide)) (by decide) zd_M_together_99 ?_
            rw [mr_405 hR ha]
            refine jd_goto 109 zd_M_together_100 (by decide) ?_
            rw [q1]
            refine jd_istore_n zd_M_together_109 (by decide) ?_
            refine jd_aload_n zd_M_together_110 rfl ?_
            refine jd_get rfl rfl zl_M 4 (by decide) zi_684 rfl rfl (rl_m (by decide)) (by decide) zd_M_together_111 ?_
            refine jd_iload_n zd_M_together_114 rfl ?_
            refine jd_ildN (r := 405) (c := a) rfl rfl (by omega) (n := 12) (by decide) (rl_m (by decide)) (by decide) zd_M_together_115 ?_
            rw [mr_405 hR ha]
            refine jd_aload_n zd_M_together_116 rfl ?_
            refine jd_get rfl rfl zl_M 4 (by decide) zi_684 rfl rfl (rl_m (by decide)) (by decide) zd_M_together_117 ?_
            refine jd_iload_n zd_M_together_120 rfl ?_
            refine jd_ildN (r := 405) (c := b) rfl rfl (by omega) (n := 12) (by decide) (rl_m (by decide)) (by decide) zd_M_together_121 ?_
            rw [mr_405 hR hb]
            rw [q1, q2]
            refine jd_iadd zd_M_together_122 ?_
            rw [nI_add]
            refine jd_iload_n zd_M_together_123 rfl ?_
            refine jd_isub zd_M_together_124 ?_
            rw [pk_sub (by omega), show lo + hi - lo = hi by omega]
            refine jd_istore zd_M_together_125 (by decide) ?_
            refine jd_iconst (v := 0) zd_M_together_127 (by decide) ?_
            refine jd_istore zd_M_together_128 (by decide) ?_
            refine jd_iconst (v := 0) zd_M_together_130 (by decide) ?_
            refine jd_istore zd_M_together_131 (by decide) ?_
            exact jd_sub [(0, av_r 400), (3, av_i (nI lo)), (4, av_i (nI hi)), (5, av_i (fa_ga (fa_un (fa_to G w.2.2.1 (nI lo) (nI hi)) w.2.2.1 (nI lo) (-1)) (nI lo) 0 1)), (6, av_i (nI 0))] ⟨rfl, rfl, rfl, rfl, rfl, trivial⟩ (kl_Mtog (Qp := po_M w 0 (fa_ga (fa_un (fa_to G w.2.2.1 (nI lo) (nI hi)) w.2.2.1 (nI lo) (-1)) (nI lo) w.2.2.1 1) (fa_un (fa_to G w.2.2.1 (nI lo) (nI hi)) w.2.2.1 (nI lo) (-1)) S L) hls hA hR.1.1 (fun v hv => mr_405 hR hv) (by omega) (by omega) hlh (by omega) (by omega) hla hlb (fun T hW => ⟨_, rfl, fun _ => rfl, by rw [hW.1 400 (by decide) (by decide)]; exact hc, md_tog h12 (by omega) (by omega) (by omega) hR hW, (sm_fr hs).tr (fun r hr => hW.1 r (by omega) (by omega)), sm_reflL _⟩) (w.2.2.1 + 1) 0 (by omega) (by omega) _ ml_g0)
          · exact absurd h_62 hne
    · have e1 : hi = ga := nI_pin (by omega) (ega.symm.trans q1) (by omega)
      have e2 : lo = gb := nI_pin (by omega) (egb.symm.trans q2) (by omega)
      subst e1
      subst e2
      refine ct_intro hls (own := zn_M) (by decide) rfl (Nat.le_of_ble_eq_true rfl) ?_
      refine jd_aload_n zd_M_together_0 rfl ?_
      refine jd_aload_n zd_M_together_1 rfl ?_
      refine jd_iload_n zd_M_together_2 rfl ?_
      refine jd_callV (n := 1) (kc_isUnitT hls hR (ob_nI h12 ha)) rfl rfl rfl (rl_m (by decide)) (by decide) zi_782 zi_784 zi_26 zi_44 zi_785 (by decide +kernel) rfl rfl rfl (by decide) (Nat.le_of_ble_eq_true rfl) (by decide) zd_M_together_3 (fun _ _ _ h => h.elim) (fun v S2 L2 hq => ?_)
      obtain ⟨rfl, rfl, rfl⟩ := hq
      refine jd_if_eq 17 zd_M_together_6 (by decide) (fun h => absurd h (by decide)) (fun _ => ?_)
      refine jd_aload_n zd_M_together_9 rfl ?_
      refine jd_iload_n zd_M_together_10 rfl ?_
      refine jd_callV (n := 1) (kc_isUnitT hls hR (ob_nI h12 hb)) rfl rfl rfl (rl_m (by decide)) (by decide) zi_782 zi_784 zi_26 zi_44 zi_785 (by decide +kernel) rfl rfl rfl (by decide) (Nat.le_of_ble_eq_true rfl) (by decide) zd_M_together_11 (fun _ _ _ h => h.elim) (fun v S2 L2 hq => ?_)
      obtain ⟨rfl, rfl, rfl⟩ := hq
      refine jd_if_ne 21 zd_M_together_14 (by decide) (fun _ => ?_) (fun h => absurd h (by decide))
      refine jd_iconst (v := 0) zd_M_together_21 (by decide) ?_
      refine jd_put rfl rfl zl_M zp_M zm_M 0 (by decide) zi_680 rfl rfl rfl rfl rfl (Nat.le_of_ble_eq_true rfl) rfl (rl_m (by decide)) (by decide) zd_M_together_22 ?_
      have hs := hs.fld (k := 0) (Or.inl rfl) (0 : Int32)
      have hc := cd_at hs
      have hR := md_sm hs hR0
      refine jd_aload_n zd_M_together_25 rfl ?_
      refine jd_get rfl rfl zl_M 0 (by decide) zi_680 rfl rfl (rl_m (by decide)) (by decide) zd_M_together_26 ?_
      rw [hc]
      refine jd_if_ne 70 zd_M_together_29 (by decide) (fun h => absurd h (by decide)) (fun _ => ?_)
      refine jd_aload_n zd_M_together_32 rfl ?_
      refine jd_get rfl rfl zl_M 7 (by decide) zi_687 rfl rfl (rl_m (by decide)) (by decide) zd_M_together_33 ?_
      refine jd_iload_n zd_M_together_36 rfl ?_
      refine jd_zldN (r := 408) (c := a) rfl rfl (by omega) (n := 12) (by decide) (rl_m (by decide)) (by decide) zd_M_together_37 ?_
      rw [mr_408 hR ha]
      refine jd_if_ne 65 zd_M_together_38 (by decide) (fun h_38 => ?_) (fun h_38 => ?_)
      · exact absurd h_5a h_38
      · refine jd_aload_n zd_M_together_41 rfl ?_
        refine jd_get rfl rfl zl_M 7 (by decide) zi_687 rfl rfl (rl_m (by decide)) (by decide) zd_M_together_42 ?_
        refine jd_iload_n zd_M_together_45 rfl ?_
        refine jd_zldN (r := 408) (c := b) rfl rfl (by omega) (n := 12) (by decide) (rl_m (by decide)) (by decide) zd_M_together_46 ?_
        rw [mr_408 hR hb]
        refine jd_if_ne 65 zd_M_together_47 (by decide) (fun h_47 => ?_) (fun h_47 => ?_)
        · exact absurd h_5b h_47
        · refine jd_aload_n zd_M_together_50 rfl ?_
          refine jd_get rfl rfl zl_M 4 (by decide) zi_684 rfl rfl (rl_m (by decide)) (by decide) zd_M_together_51 ?_
          refine jd_iload_n zd_M_together_54 rfl ?_
          refine jd_ildN (r := 405) (c := a) rfl rfl (by omega) (n := 12) (by decide) (rl_m (by decide)) (by decide) zd_M_together_55 ?_
          rw [mr_405 hR ha]
          refine jd_aload_n zd_M_together_56 rfl ?_
          refine jd_get rfl rfl zl_M 4 (by decide) zi_684 rfl rfl (rl_m (by decide)) (by decide) zd_M_together_57 ?_
          refine jd_iload_n zd_M_together_60 rfl ?_
          refine jd_ildN (r := 405) (c := b) rfl rfl (by omega) (n := 12) (by decide) (rl_m (by decide)) (by decide) zd_M_together_61 ?_
          rw [mr_405 hR hb]
          refine jd_icmp_ne 70 zd_M_together_62 (by decide) (fun h_62 => ?_) (fun h_62 => ?_)
          · refine jd_aload_n zd_M_together_70 rfl ?_
            refine jd_get rfl rfl zl_M 0 (by decide) zi_680 rfl rfl (rl_m (by decide)) (by decide) zd_M_together_71 ?_
            rw [hc]
            refine jd_if_le 79 zd_M_together_74 (by decide) (fun _ => ?_) (fun h => absurd h (by decide))
            refine jd_aload_n zd_M_together_79 rfl ?_
            refine jd_get rfl rfl zl_M 4 (by decide) zi_684 rfl rfl (rl_m (by decide)) (by decide) zd_M_together_80 ?_
            refine jd_iload_n zd_M_together_83 rfl ?_
            refine jd_ildN (r := 405) (c := a) rfl rfl (by omega) (n := 12) (by decide) (rl_m (by decide)) (by decide) zd_M_together_84 ?_
            rw [mr_405 hR ha]
            refine jd_aload_n zd_M_together_85 rfl ?_
            refine jd_get rfl rfl zl_M 4 (by decide) zi_684 rfl rfl (rl_m (by decide)) (by decide) zd_M_together_86 ?_
            refine jd_iload_n zd_M_together_89 rfl ?_
            refine jd_ildN (r := 405) (c := b) rfl rfl (by omega) (n := 12) (by decide) (rl_m (by decide)) (by decide) zd_M_together_90 ?_
            rw [mr_405 hR hb]
            rw [q1, q2]
            refine jd_icmp_ge 103 zd_M_together_91 (by decide) (fun _ => ?_) (fun h => absurd (nI_le (by omega) (by omega)) h)
            refine jd_aload_n zd_M_together_103 rfl ?_
            refine jd_get rfl rfl zl_M 4 (by decide) zi_684 rfl rfl (rl_m (by decide)) (by decide) zd_M_together_104 ?_
            refine jd_iload_n zd_M_together_107 rfl ?_
            refine jd_ildN (r := 405) (c := b) rfl rfl (by omega) (n := 12) (by decide) (rl_m (by decide)) (by decide) zd_M_together_108 ?_
            rw [mr_405 hR hb]
            rw [q2]
            refine jd_istore_n zd_M_together_109 (by decide) ?_
            refine jd_aload_n zd_M_together_110 rfl ?_
            refine jd_get rfl rfl zl_M 4 (by decide) zi_684 rfl rfl (rl_m (by decide)) (by decide) zd_M_together_111 ?_
            refine jd_iload_n zd_M_together_114 rfl ?_
            refine jd_ildN (r := 405) (c := a) rfl rfl (by omega) (n := 12) (by decide) (rl_m (by decide)) (by decide) zd_M_together_115 ?_
            rw [mr_405 hR ha]
            refine jd_aload_n zd_M_together_116 rfl ?_
            refine jd_get rfl rfl zl_M 4 (by decide) zi_684 rfl rfl (rl_m (by decide)) (by decide) zd_M_together_117 ?_
            refine jd_iload_n zd_M_together_120 rfl ?_
            refine jd_ildN (r := 405) (c := b) rfl rfl (by omega) (n := 12) (by decide) (rl_m (by decide)) (by decide) zd_M_together_121 ?_
            rw [mr_405 hR hb]
            rw [q1, q2]
            refine jd_iadd zd_M_together_122 ?_
            rw [nI_add]
            refine jd_iload_n zd_M_together_123 rfl ?_
            refine jd_isub zd_M_together_124 ?_
            rw [pk_sub (by omega), show hi + lo - lo = hi by omega]
            refine jd_istore zd_M_together_125 (by decide) ?_
            refine jd_iconst (v := 0) zd_M_together_127 (by decide) ?_
            refine jd_istore zd_M_together_128 (by decide) ?_
            refine jd_iconst (v := 0) zd_M_together_130 (by decide) ?_
            refine jd_istore zd_M_together_131 (by decide) ?_
            exact jd_sub [(0, av_r 400), (3, av_i (nI lo)), (4, av_i (nI hi)), (5, av_i (fa_ga (fa_un (fa_to G w.2.2.1 (nI lo) (nI hi)) w.2.2.1 (nI lo) (-1)) (nI lo) 0 1)), (6, av_i (nI 0))] ⟨rfl, rfl, rfl, rfl, rfl, trivial⟩ (kl_Mtog (Qp := po_M w 0 (fa_ga (fa_un (fa_to G w.2.2.1 (nI lo) (nI hi)) w.2.2.1 (nI lo) (-1)) (nI lo) w.2.2.1 1) (fa_un (fa_to G w.2.2.1 (nI lo) (nI hi)) w.2.2.1 (nI lo) (-1)) S L) hls hA hR.1.1 (fun v hv => mr_405 hR hv) (by omega) (by omega) hlh (by omega) (by omega) hlb hla (fun T hW => ⟨_, rfl, fun _ => rfl, by rw [hW.1 400 (by decide) (by decide)]; exact hc, md_tog h12 (by omega) (by omega) (by omega) hR hW, (sm_fr hs).tr (fun r hr => hW.1 r (by omega) (by omega)), sm_reflL _⟩) (w.2.2.1 + 1) 0 (by omega) (by omega) _ ml_g0)
          · exact absurd h_62 hne
