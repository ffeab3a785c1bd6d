/-! THE CLASS: calls that may throw, on (rows by wip/whole/gen/c2.py) -/
theorem sw_both {S T : Nat → Nat → Int32} (h : sw_S S T) (r : Nat) (row : Nat → Int32) : sw_S (va_up S r row) (va_up T r row) := by
  intro q hq
  by_cases e : q = r
  · subst e; rw [va_up_self, va_up_self]
  · rw [va_up_ne _ _ e, va_up_ne _ _ e]; exact h q hq
theorem ok_N_p {w : wd_T} {S : Nat → Nat → Int32} {p : Nat} {row : Nat → Int32} (h : ok_N w S) : ok_N w (va_up S (300 + p) row) := by
  unfold ok_N; rw [va_up_ne _ _ (by omega)]; exact h
theorem ok_U_p {w : wd_T} {S : Nat → Nat → Int32} {p : Nat} {row : Nat → Int32} (h12 : w.2.2.1 ≤ 12) (h : ok_U w S) : ok_U w (va_up S (300 + p) row) := by
  intro u hu; rw [va_up_ne _ _ (by omega)]; exact h u hu
theorem up_pu {S : Nat → Nat → Int32} {p u : Nat} {row : Nat → Int32} (hu : u < 200) : va_up S (300 + p) row (100 + u) = S (100 + u) := va_up_ne _ _ (by omega)
theorem tg_lh {w : wd_T} {S : Nat → Nat → Int32} {a b : Nat} (hU : ok_U w S) (h12 : w.2.2.1 ≤ 12) (ha : a < w.2.2.1) (hb : b < w.2.2.1) (h : ¬ S (100 + a) 2 = S (100 + b) 2) : ∃ lo hi, lo < hi ∧ hi < 12 ∧ ((S (100 + a) 2 = nI lo ∧ S (100 + b) 2 = nI hi) ∨ (S (100 + a) 2 = nI hi ∧ S (100 + b) 2 = nI lo)) ∧ (if S (100 + b) 2 < S (100 + a) 2 then S (100 + b) 2 else S (100 + a) 2) = nI lo ∧ (if S (100 + a) 2 < S (100 + b) 2 then S (100 + b) 2 else S (100 + a) 2) = nI hi := by
  obtain ⟨-, ⟨ga, hga, ea⟩, -⟩ := hU a ha
  obtain ⟨-, ⟨gb, hgb, eb⟩, -⟩ := hU b hb
  rw [ea, eb] at h ⊢
  have hne : ga ≠ gb := fun e => h (by rw [e])
  rcases Nat.lt_or_ge ga gb with q | q
  · exact ⟨ga, gb, q, by omega, Or.inl ⟨rfl, rfl⟩, if_neg (nI_nlt (by omega) (by omega)), if_pos (nI_lt q (by omega))⟩
  · exact ⟨gb, ga, by omega, by omega, Or.inr ⟨rfl, rfl⟩, if_pos (nI_lt (by omega) (by omega)), if_neg (nI_nlt (by omega) (by omega))⟩
set_option maxRecDepth 100000 in
set_option maxHeartbeats 4000000 in
theorem kc_together {l : Launch} (hls : l.stackTraces = false) {D : va_G} {w : wd_T} {S : Nat → Nat → Int32} {L : Nat → Nat → Int64} (hN : ok_N w S) (hU : ok_U w S) (x y : Int32) : ct_M l D w zy_A_together (Cond.code zy_A_together zb_A_together 6 (Option.some Jvm.ClassFile.FieldType.int)) ({ frames := 7, cells := 3, slots := 18, locals := 111 } : Room) [av_r 0, av_i x, av_i y] S L (po_O (ou_together w S x y) [(1, nx_E), (2, kE_S)] L) 3 18 := by
  refine ct_intro hls (own := zn_A) (by decide) rfl (Nat.le_of_ble_eq_true rfl) ?_
  refine jd_aload_n zd_A_together_0 rfl ?_
  refine jd_iload_n zd_A_together_1 rfl ?_
  refine jd_callV (n := 1) (kc_unitOf hls hN.1 hN x) rfl rfl rfl rfl (by decide) zi_420 zi_422 zi_9 zi_41 zi_423 (by decide +kernel) rfl rfl rfl (by decide) (Nat.le_of_ble_eq_true rfl) (by decide) zd_A_together_2 (fun E S2 L2 h => jd_out rfl (by obtain ⟨rfl, h_e, rfl, rfl⟩ := h; exact ⟨1, 0, _, Or.inl ⟨by rw [h_e]; rfl, rfl, rfl⟩, by decide +kernel, sw_refl _, sw_reflL _⟩) (by decide) (by decide)) (fun v S2 L2 hq => ?_)
  obtain ⟨a, ha, rfl, rfl, rfl, rfl⟩ := hq
  have h12 := hN.1
  refine jd_astore_n zd_A_together_5 (by decide) ?_
  refine jd_aload_n zd_A_together_6 rfl ?_
  refine jd_iload_n zd_A_together_7 rfl ?_
  refine jd_callV (n := 1) (kc_unitOf hls hN.1 hN y) rfl rfl rfl rfl (by decide) zi_420 zi_422 zi_9 zi_41 zi_423 (by decide +kernel) rfl rfl rfl (by decide) (Nat.le_of_ble_eq_true rfl) (by decide) zd_A_together_8 (fun E S2 L2 h => jd_out rfl (by obtain ⟨rfl, h_e, rfl, rfl⟩ := h; exact ⟨1, 0, _, Or.inl ⟨by rw [h_e]; simp, rfl, rfl⟩, by decide +kernel, sw_refl _, sw_reflL _⟩) (by decide) (by decide)) (fun v S2 L2 hq => ?_)
  obtain ⟨b, hb, rfl, rfl, rfl, rfl⟩ := hq
  refine jd_astore zd_A_together_11 (by decide) ?_
  refine jd_aload_n zd_A_together_13 rfl ?_
  refine jd_get (ac_U (by omega)) rfl zl_U 5 (by decide) zi_347 rfl rfl (rl_U (by omega)) (by omega) zd_A_together_14 ?_
  refine jd_if_ne 28 zd_A_together_17 (by decide) (fun h_17 => ?_) (fun h_17 => ?_)
  · exact jd_throw (text := "a unit is done") th_ise (by decide +kernel) rfl ⟨2, 0, _, Or.inr ⟨a, b, ha, hb, rfl, rfl, Or.inl ⟨Or.inl h_17, rfl, rfl⟩⟩, by decide +kernel, sw_refl _, sw_reflL _⟩ zd_A_together_28 zd_A_together_31 zd_A_together_32 zd_A_together_34 zd_A_together_37 (by decide) (Nat.le_of_ble_eq_true rfl) (by decide) (by decide) (by decide) (by decide)
  · refine jd_aload zd_A_together_20 rfl ?_
    refine jd_get (ac_U (by omega)) rfl zl_U 5 (by decide) zi_347 rfl rfl (rl_U (by omega)) (by omega) zd_A_together_22 ?_
    refine jd_if_eq 38 zd_A_together_25 (by decide) (fun h_25 => ?_) (fun h_25 => ?_)
    · refine jd_aload_n zd_A_together_38 rfl ?_
      refine jd_get (ac_U (by omega)) rfl zl_U 2 (by decide) zi_341 rfl rfl (rl_U (by omega)) (by omega) zd_A_together_39 ?_
      refine jd_aload zd_A_together_42 rfl ?_
      refine jd_get (ac_U (by omega)) rfl zl_U 2 (by decide) zi_341 rfl rfl (rl_U (by omega)) (by omega) zd_A_together_44 ?_
      refine jd_icmp_ne 60 zd_A_together_47 (by decide) (fun h_47 => ?_) (fun h_47 => ?_)
      · obtain ⟨lo, hi, hlh, hhi, hcs, emin, emax⟩ := tg_lh hU h12 ha hb h_47
        refine jd_aload_n zd_A_together_60 rfl ?_
        refine jd_get (ac_U (by omega)) rfl zl_U 2 (by decide) zi_341 rfl rfl (rl_U (by omega)) (by omega) zd_A_together_61 ?_
        refine jd_aload zd_A_together_64 rfl ?_
        refine jd_get (ac_U (by omega)) rfl zl_U 2 (by decide) zi_341 rfl rfl (rl_U (by omega)) (by omega) zd_A_together_66 ?_
        refine jd_min zi_479 zi_480 zi_54 zi_481 (by decide) (Nat.le_of_ble_eq_true rfl) (by decide) (by decide) zd_A_together_69 ?_
        rw [emin]
        refine jd_istore zd_A_together_72 (by decide) ?_
        refine jd_aload_n zd_A_together_74 rfl ?_
        refine jd_iload zd_A_together_75 rfl ?_
        refine jd_aload_n zd_A_together_77 rfl ?_
        refine jd_get (ac_U (by omega)) rfl zl_U 2 (by decide) zi_341 rfl rfl (rl_U (by omega)) (by omega) zd_A_together_78 ?_
        refine jd_aload zd_A_together_81 rfl ?_
        refine jd_get (ac_U (by omega)) rfl zl_U 2 (by decide) zi_341 rfl rfl (rl_U (by omega)) (by omega) zd_A_together_83 ?_
        refine jd_max zi_482 zi_205 zi_54 zi_206 (by decide) (Nat.le_of_ble_eq_true rfl) (by decide) (by decide) zd_A_together_86 ?_
        rw [emax]
        refine jd_callV (n := 2) (kc_join hls hN (nI lo) (nI hi)) rfl rfl rfl rfl (by decide) zi_483 zi_485 zi_11 zi_41 zi_486 (by decide +kernel) rfl rfl rfl (by decide) (Nat.le_of_ble_eq_true rfl) (by decide) zd_A_together_89 (fun _ _ _ h => h.elim) (fun v S2 L2 hq => ?_)
        obtain ⟨rfl, rfl, rfl⟩ := hq
        refine jd_aload_n zd_A_together_92 rfl ?_
        refine jd_iload zd_A_together_93 rfl ?_
        refine jd_iconst (v := (-1)) zd_A_together_95 (by decide) ?_
        refine jd_callV (n := 2) (kc_planFor hls (ok_N_wr hN) (nI lo) (-1)) rfl rfl rfl rfl (by decide) zi_487 zi_489 zi_12 zi_41 zi_490 (by decide +kernel) rfl rfl rfl (by decide) (Nat.le_of_ble_eq_true rfl) (by decide) zd_A_together_96 (fun _ _ _ h => h.elim) (fun v S2 L2 hq => ?_)
        obtain ⟨rfl, rfl, rfl⟩ := hq
        refine jd_aload_n zd_A_together_99 rfl ?_
        refine jd_iload zd_A_together_100 rfl ?_
        refine jd_callV (n := 1) (kc_gather hls (ok_N_wr (ok_N_wr hN)) (ok_U_un (ok_U_to hU h12 hlh hhi) (Or.inl rfl)) (nI lo)) rfl rfl rfl rfl (by decide) zi_192 zi_194 zi_2 zi_41 zi_195 (by decide +kernel) rfl rfl rfl (by decide) (Nat.le_of_ble_eq_true rfl) (by decide) zd_A_together_102 (fun _ _ _ h => h.elim) (fun v S2 L2 hq => ?_)
        obtain ⟨rfl, rfl, rfl⟩ := hq
        refine jd_get rfl rfl zl_G 1 (by decide) zi_77 rfl rfl rfl (by decide) zd_A_together_105 ?_
        rw [va_up_self]
        exact jd_iret rfl ⟨_, _, Or.inr ⟨a, b, ha, hb, rfl, rfl, Or.inr ⟨lo, hi, h_17, h_25, hlh, hhi, hcs, rfl, rfl, rfl⟩⟩, rfl, (sw_refl _).up (by decide) (by decide) _, sw_reflL _⟩ (by decide) (by decide) zd_A_together_108
      · exact jd_throw (text := "the units are together already") th_ise (by decide +kernel) rfl ⟨2, 0, _, Or.inr ⟨a, b, ha, hb, rfl, rfl, Or.inl ⟨Or.inr (Or.inr h_47), rfl, rfl⟩⟩, by decide +kernel, sw_refl _, sw_reflL _⟩ zd_A_together_50 zd_A_together_53 zd_A_together_54 zd_A_together_56 zd_A_together_59 (by decide) (Nat.le_of_ble_eq_true rfl) (by decide) (by decide) (by decide) (by decide)
    · exact jd_throw (text := "a unit is done") th_ise (by decide +kernel) rfl ⟨2, 0, _, Or.inr ⟨a, b, ha, hb, rfl, rfl, Or.inl ⟨Or.inr (Or.inl h_25), rfl, rfl⟩⟩, by decide +kernel, sw_refl _, sw_reflL _⟩ zd_A_together_28 zd_A_together_31 zd_A_together_32 zd_A_together_34 zd_A_together_37 (by decide) (Nat.le_of_ble_eq_true rfl) (by decide) (by decide) (by decide) (by decide)
set_option maxRecDepth 100000 in
set_option maxHeartbeats 4000000 in
theorem kl_barred {l : Launch} (hls : l.stackTraces = false) {D : va_G} {w : wd_T} {S : Nat → Nat → Int32} {L : Nat → Nat → Int64} {T : Nat → Nat → Int32} {g : Nat → Int32} (hN : ok_N w S) (hT : sw_S S T) (h4 : T 4 = g) {Qp : jd_P} : ∀ (k p : Nat), p ≤ w.2.2.2 → w.2.2.2 < p + k → ∀ x : Int32, Qp.1 (some (av_i (fa_ba S g (w.2.2.2 - p) p x))) T L → jd_J l D w zn_A zb_A_barred 7 (Option.some Jvm.ClassFile.FieldType.int) [] ({ frames := 7, cells := 2, slots := 12, locals := 111 } : Room) 2 12 Qp (0 + 1) (0 + 6) 38 [(0, av_r 0), (3, av_r 4), (4, av_i x), (5, av_i (nI p))] [] T L := by
  have h13 := hN.2.1
  intro k
  induction k with
  | zero => intro p h1 h2; omega
  | succ k ih =>
    intro p hp hk x hQ
    refine jd_iload zd_A_barred_38 rfl ?_
    refine jd_aload_n zd_A_barred_40 rfl ?_
    refine jd_get rfl rfl zl_A 7 (by decide) zi_149 rfl rfl rfl (by decide) zd_A_barred_41 ?_
    refine jd_icmp_ge 78 zd_A_barred_44 (by decide) (fun h_44 => ?_) (fun h_44 => ?_)
    · have e_u := nI_end (ok_N_sw hT hN).2.2.2 (by omega) hp h_44
      subst e_u
      rw [Nat.sub_self] at hQ
      refine jd_iload zd_A_barred_78 rfl ?_
      exact jd_iret rfl hQ (by decide) (by decide) zd_A_barred_80
    · have hp2 := nI_on (ok_N_sw hT hN).2.2.2 (by omega) hp h_44
      have e_k : w.2.2.2 - p = (w.2.2.2 - (p + 1)) + 1 := by omega
      rw [e_k] at hQ
      simp only [fa_ba] at hQ
      refine jd_aload_n zd_A_barred_47 rfl ?_
      refine jd_aload_n zd_A_barred_48 rfl ?_
      refine jd_iload zd_A_barred_49 rfl ?_
      refine jd_callV (n := 2) (kc_broken hls h13 hp2 rfl) rfl rfl rfl rfl (by decide) zi_211 zi_213 zi_4 zi_41 zi_214 (by decide +kernel) rfl rfl rfl (by decide) (Nat.le_of_ble_eq_true rfl) (by decide) zd_A_barred_51 (fun _ _ _ h => h.elim) (fun v S2 L2 hq => ?_)
      obtain ⟨rfl, rfl, rfl⟩ := hq
      rw [h4, hT.p]
      refine jd_istore zd_A_barred_54 (by decide) ?_
      refine jd_iload zd_A_barred_56 rfl ?_
      refine jd_if_ne 63 zd_A_barred_58 (by decide) (fun h_58 => ?_) (fun h_58 => ?_)
      · rw [if_neg h_58] at hQ
        refine jd_iload zd_A_barred_63 rfl ?_
        refine jd_iload zd_A_barred_65 rfl ?_
        refine jd_max zi_482 zi_205 zi_54 zi_206 (by decide) (Nat.le_of_ble_eq_true rfl) (by decide) (by decide) zd_A_barred_67 ?_
        refine jd_istore zd_A_barred_70 (by decide) ?_
        refine jd_iinc (v := nI (p + 1)) zd_A_barred_72 rfl (nI_inc p) (by decide) ?_
        refine jd_goto 38 zd_A_barred_75 (by decide) ?_
        exact jd_sub [(0, av_r 0), (3, av_r 4), (4, av_i _), (5, av_i (nI (p + 1)))] ⟨rfl, rfl, rfl, rfl, trivial⟩ (ih (p + 1) (by omega) (by omega) _ hQ)
      · rw [if_pos h_58] at hQ
        refine jd_iconst (v := 0) zd_A_barred_61 (by decide) ?_
        exact jd_iret rfl hQ (by decide) (by decide) zd_A_barred_62
set_option maxRecDepth 100000 in
set_option maxHeartbeats 4000000 in
theorem kc_barred {l : Launch} (hls : l.stackTraces = false) {D : va_G} {w : wd_T} {S : Nat → Nat → Int32} {L : Nat → Nat → Int64} (hN : ok_N w S) (hU : ok_U w S) (x : Int32) : ct_M l D w zy_A_barred (Cond.code zy_A_barred zb_A_barred 7 (Option.some Jvm.ClassFile.FieldType.int)) ({ frames := 7, cells := 2, slots := 12, locals := 111 } : Room) [av_r 0, av_i x] S L (po_O (ou_barred w S x) [(1, nx_E), (2, kE_S)] L) 2 12 := by
  refine ct_intro hls (own := zn_A) (by decide) rfl (Nat.le_of_ble_eq_true rfl) ?_
  refine jd_aload_n zd_A_barred_0 rfl ?_
  refine jd_iload_n zd_A_barred_1 rfl ?_
  refine jd_callV (n := 1) (kc_unitOf hls hN.1 hN x) rfl rfl rfl rfl (by decide) zi_420 zi_422 zi_9 zi_41 zi_423 (by decide +kernel) rfl rfl rfl (by decide) (Nat.le_of_ble_eq_true rfl) (by decide) zd_A_barred_2 (fun E S2 L2 h => jd_out rfl (by obtain ⟨rfl, h_e, rfl, rfl⟩ := h; exact ⟨1, 0, _, ⟨rfl, Or.inl ⟨h_e, rfl⟩⟩, by decide +kernel, sw_refl _, sw_reflL _⟩) (by decide) (by decide)) (fun v S2 L2 hq => ?_)
  obtain ⟨a, ha, rfl, rfl, rfl, rfl⟩ := hq
  have h12 := hN.1
  refine jd_astore_n zd_A_barred_5 (by decide) ?_
  refine jd_aload_n zd_A_barred_6 rfl ?_
  refine jd_get (ac_U (by omega)) rfl zl_U 5 (by decide) zi_347 rfl rfl (rl_U (by omega)) (by omega) zd_A_barred_7 ?_
  refine jd_if_eq 23 zd_A_barred_10 (by decide) (fun h_10 => ?_) (fun h_10 => ?_)
  · refine jd_aload_n zd_A_barred_23 rfl ?_
    refine jd_aload_n zd_A_barred_24 rfl ?_
    refine jd_get (ac_U (by omega)) rfl zl_U 2 (by decide) zi_341 rfl rfl (rl_U (by omega)) (by omega) zd_A_barred_25 ?_
    refine jd_callV (n := 1) (kc_gather hls hN hU (S (100 + a) 2)) rfl rfl rfl rfl (by decide) zi_192 zi_194 zi_2 zi_41 zi_195 (by decide +kernel) rfl rfl rfl (by decide) (Nat.le_of_ble_eq_true rfl) (by decide) zd_A_barred_28 (fun _ _ _ h => h.elim) (fun v S2 L2 hq => ?_)
    obtain ⟨rfl, rfl, rfl⟩ := hq
    refine jd_astore_n zd_A_barred_31 (by decide) ?_
    refine jd_iconst (v := 1) zd_A_barred_32 (by decide) ?_
    refine jd_istore zd_A_barred_33 (by decide) ?_
    refine jd_iconst (v := 0) zd_A_barred_35 (by decide) ?_
    refine jd_istore zd_A_barred_36 (by decide) ?_
    exact jd_sub [(0, av_r 0), (3, av_r 4), (4, av_i 1), (5, av_i (nI 0))] ⟨rfl, rfl, rfl, rfl, trivial⟩ (kl_barred (S := S) (Qp := po_O (ou_barred w S (nI a)) [(1, nx_E), (2, kE_S)] L) hls hN ((sw_refl _).up (by decide) (by decide) _) (va_up_self _ _ _) (w.2.2.2 + 1) 0 (by omega) (by omega) 1 ⟨_, _, ⟨rfl, Or.inr ⟨a, ha, rfl, Or.inr ⟨h_10, rfl, rfl⟩⟩⟩, rfl, (sw_refl _).up (by decide) (by decide) _, sw_reflL _⟩)
  · exact jd_throw (text := "the unit is done") th_ise (by decide +kernel) rfl ⟨2, 0, _, ⟨rfl, Or.inr ⟨a, ha, rfl, Or.inl ⟨h_10, rfl⟩⟩⟩, by decide +kernel, sw_refl _, sw_reflL _⟩ zd_A_barred_13 zd_A_barred_16 zd_A_barred_17 zd_A_barred_19 zd_A_barred_22 (by decide) (Nat.le_of_ble_eq_true rfl) (by decide) (by decide) (by decide) (by decide)
set_option maxRecDepth 100000 in
set_option maxHeartbeats 4000000 in
theorem kc_put {l : Launch} (hls : l.stackTraces = false) {D : va_G} {w : wd_T} {S : Nat → Nat → Int32} {L : Nat → Nat → Int64} (hN : ok_N w S) (hU : ok_U w S) (x : Int32) : ct_M l D w zy_A_put (Cond.code zy_A_put zb_A_put 4 (Option.some Jvm.ClassFile.FieldType.int)) ({ frames := 7, cells := 3, slots := 18, locals := 111 } : Room) [av_r 0, av_i x] S L (po_O (ou_put w S x) [(1, nx_E), (2, kE_S)] L) 3 18 := by
  refine ct_intro hls (own := zn_A) (by decide) rfl (Nat.le_of_ble_eq_true rfl) ?_
  refine jd_aload_n zd_A_put_0 rfl ?_
  refine jd_iload_n zd_A_put_1 rfl ?_
  refine jd_callV (n := 1) (kc_unitOf hls hN.1 hN x) rfl rfl rfl rfl (by decide) zi_420 zi_422 zi_9 zi_41 zi_423 (by decide +kernel) rfl rfl rfl (by decide) (Nat.le_of_ble_eq_true rfl) (by decide) zd_A_put_2 (fun E S2 L2 h => jd_out rfl (by obtain ⟨rfl, h_e, rfl, rfl⟩ := h; exact ⟨1, 0, _, Or.inl ⟨h_e, rfl, rfl⟩, by decide +kernel, sw_refl _, sw_reflL _⟩) (by decide) (by decide)) (fun v S2 L2 hq => ?_)
  obtain ⟨a, ha, rfl, rfl, rfl, rfl⟩ := hq
  have h12 := hN.1
  have h13 := hN.2.1
  refine jd_astore_n zd_A_put_5 (by decide) ?_
  refine jd_aload_n zd_A_put_6 rfl ?_
  refine jd_callS (n := 1) (kc_isPlanned hls ha h12) rfl zi_594 zi_595 zi_41 zi_596 (by decide +kernel) rfl rfl rfl (by decide) (Nat.le_of_ble_eq_true rfl) (by decide) zd_A_put_7 (fun _ _ _ h => h.elim) (fun v S2 L2 hq => ?_)
  obtain ⟨rfl, rfl, rfl⟩ := hq
  refine jd_if_ne 23 zd_A_put_10 (by decide) (fun h_10 => ?_) (fun h_10 => ?_)
  · obtain ⟨p, hp, ep⟩ : ∃ p, p < w.2.2.2 ∧ S (100 + a) 3 = nI p := by
      rcases (hU a ha).2.2.1 with e | e
      · have hg := bi_n h_10; simp [fa_pl, e] at hg
      · exact e
    refine jd_aload_n zd_A_put_23 rfl ?_
    refine jd_aload_n zd_A_put_24 rfl ?_
    refine jd_get (ac_U (by omega)) rfl zl_U 2 (by decide) zi_341 rfl rfl (rl_U (by omega)) (by omega) zd_A_put_25 ?_
    refine jd_callV (n := 1) (kc_gather hls hN hU (S (100 + a) 2)) rfl rfl rfl rfl (by decide) zi_192 zi_194 zi_2 zi_41 zi_195 (by decide +kernel) rfl rfl rfl (by decide) (Nat.le_of_ble_eq_true rfl) (by decide) zd_A_put_28 (fun _ _ _ h => h.elim) (fun v S2 L2 hq => ?_)
    obtain ⟨rfl, rfl, rfl⟩ := hq
    have hT : sw_S S (va_up S 4 (fa_ga S (S (100 + a) 2) w.2.2.1)) := (sw_refl _).up (by decide) (by decide) _
    refine jd_astore_n zd_A_put_31 (by decide) ?_
    refine jd_aload_n zd_A_put_32 rfl ?_
    refine jd_aload_n zd_A_put_33 rfl ?_
    refine jd_aload_n zd_A_put_34 rfl ?_
    refine jd_get (ac_U (by omega)) rfl zl_U 3 (by decide) zi_343 rfl rfl (rl_U (by omega)) (by omega) zd_A_put_35 ?_
    rw [hT.u]
    refine jd_callV (n := 2) (kc_broken hls h13 hp ep) rfl rfl rfl rfl (by decide) zi_211 zi_213 zi_4 zi_41 zi_214 (by decide +kernel) rfl rfl rfl (by decide) (Nat.le_of_ble_eq_true rfl) (by decide) zd_A_put_38 (fun _ _ _ h => h.elim) (fun v S2 L2 hq => ?_)
    obtain ⟨rfl, rfl, rfl⟩ := hq
    rw [va_up_self, hT.p, ep]
    refine jd_if_eq 54 zd_A_put_41 (by decide) (fun h_41 => ?_) (fun h_41 => ?_)
    · refine jd_aload_n zd_A_put_54 rfl ?_
      refine jd_get rfl rfl zl_A 1 (by decide) zi_143 rfl rfl rfl (by decide) zd_A_put_55 ?_
      refine jd_aload_n zd_A_put_58 rfl ?_
      refine jd_get (ac_U (by omega)) rfl zl_U 3 (by decide) zi_343 rfl rfl (rl_U (by omega)) (by omega) zd_A_put_59 ?_
      rw [hT.u]
      refine jd_plc ep hp h13 zd_A_put_62 ?_
      refine jd_dup zd_A_put_63 rfl ?_
      refine jd_get (ac_P (by omega)) rfl zl_P 3 (by decide) zi_391 rfl rfl (rl_P (by omega)) (by omega) zd_A_put_64 ?_
      refine jd_aload_n zd_A_put_67 rfl ?_
      refine jd_get rfl rfl zl_G 2 (by decide) zi_79 rfl rfl rfl (by decide) zd_A_put_68 ?_
      rw [va_up_self, hT.p]
      refine jd_isub zd_A_put_71 ?_
      refine jd_put (ac_P (by omega)) rfl zl_P zp_P zm_P 3 (by decide) zi_391 rfl rfl rfl rfl rfl (Nat.le_of_ble_eq_true rfl) (ac_P (by omega)) (rl_P hp) (by omega) zd_A_put_72 ?_
      rw [hT.p]
      have hT2 := sw_both hT (300 + p) (upd (S (300 + p)) 3 (S (300 + p) 3 - (fa_ga S (S (100 + a) 2) w.2.2.1) 2))
      refine jd_aload_n zd_A_put_75 rfl ?_
      refine jd_aload_n zd_A_put_76 rfl ?_
      refine jd_get rfl rfl zl_G 0 (by decide) zi_75 rfl rfl rfl (by decide) zd_A_put_77 ?_
      rw [va_up_ne _ _ (show (4 : Nat) ≠ 300 + p by omega), va_up_self, fa_ga_0]
      refine jd_callV (n := 1) (kc_finish hls (ok_N_p (ok_N_4 hN)) (S (100 + a) 2)) rfl rfl rfl rfl (by decide) zi_599 zi_601 zi_21 zi_41 zi_602 (by decide +kernel) rfl rfl rfl (by decide) (Nat.le_of_ble_eq_true rfl) (by decide) zd_A_put_80 (fun _ _ _ h => h.elim) (fun v S2 L2 hq => ?_)
      obtain ⟨rfl, rfl, rfl⟩ := hq
      refine jd_aload_n zd_A_put_83 rfl ?_
      refine jd_get rfl rfl zl_G 1 (by decide) zi_77 rfl rfl rfl (by decide) zd_A_put_84 ?_
      rw [fa_wr_out _ (Or.inl (by omega)), va_up_ne _ _ (show (4 : Nat) ≠ 300 + p by omega), va_up_self]
      exact jd_iret rfl ⟨_, _, Or.inr ⟨a, ha, rfl, Or.inr ⟨p, hp, ep, bi_n h_10, Or.inr ⟨h_41, rfl, rfl, rfl⟩⟩⟩, rfl, fa_fi_sw hT2 _ _, sw_reflL _⟩ (by decide) (by decide) zd_A_put_87
    · exact jd_throw (text := "rules do not allow the place any more") th_ise (by decide +kernel) rfl ⟨2, 0, _, Or.inr ⟨a, ha, rfl, Or.inr ⟨p, hp, ep, bi_n h_10, Or.inl ⟨h_41, rfl, rfl⟩⟩⟩, by decide +kernel, hT, sw_reflL _⟩ zd_A_put_44 zd_A_put_47 zd_A_put_48 zd_A_put_50 zd_A_put_53 (by decide) (Nat.le_of_ble_eq_true rfl) (by decide) (by decide) (by decide) (by decide)
  · exact jd_throw (text := "the unit is done or not planned") th_ise (by decide +kernel) rfl ⟨2, 0, _, Or.inr ⟨a, ha, rfl, Or.inl ⟨bi_z h_10, rfl, rfl⟩⟩, by decide +kernel, sw_refl _, sw_reflL _⟩ zd_A_put_13 zd_A_put_16 zd_A_put_17 zd_A_put_19 zd_A_put_22 (by decide) (Nat.le_of_ble_eq_true rfl) (by decide) (by decide) (by decide) (by decide)
theorem fa_pf_b {S : Nat → Nat → Int32} {b n : Nat} {p : Int32} {row : Nat → Int32} (hb : b < 12) (hn : n ≤ 12) : fa_pf (va_up S (300 + b) row) p n 0 = fa_pf S p n 0 := by
  have h : ∀ k u, u + k ≤ 12 → fa_pf (va_up S (300 + b) row) p k u = fa_pf S p k u := by
    intro k
    induction k with
    | zero => intro u _; rfl
    | succ k ih =>
      intro u hu
      simp only [fa_pf]
      have e : va_up S (300 + b) row (100 + u) = S (100 + u) := va_up_ne _ _ (by omega)
      rw [ih (u + 1) (by omega), show fa_gr (va_up S (300 + b) row) u = fa_gr S u by simp only [fa_gr, fa_in, e], e]
  exact h n 0 (by omega)
theorem fa_pp_b {S : Nat → Nat → Int32} {b n : Nat} {row r4 : Nat → Int32} (hb : b < 12) (hn : n ≤ 12) : fa_pp (va_up (va_up S (300 + b) row) 4 r4) n = fa_pp S n := by
  have h : ∀ k, k ≤ 12 → fa_pp (va_up (va_up S (300 + b) row) 4 r4) k = fa_pp S k := by
    intro k
    induction k with
    | zero => intro _; rfl
    | succ k ih =>
      intro hk
      simp only [fa_pp]
      have e : va_up (va_up S (300 + b) row) 4 r4 (100 + k) = S (100 + k) := by rw [va_up_ne _ _ (by omega), va_up_ne _ _ (by omega)]
      rw [ih (by omega), show fa_pl (va_up (va_up S (300 + b) row) 4 r4) k = fa_pl S k by simp only [fa_pl, e], e]
  exact h n hn
theorem fa_ga_b {S : Nat → Nat → Int32} {b n : Nat} {g : Int32} {row : Nat → Int32} (hb : b < 12) (hn : n ≤ 12) : fa_ga (va_up S (300 + b) row) g n = fa_ga S g n := by
  have h : ∀ k, k ≤ 12 → fa_ga (va_up S (300 + b) row) g k = fa_ga S g k := by
    intro k
    induction k with
    | zero => intro _; rfl
    | succ k ih =>
      intro hk
      simp only [fa_ga]
      have e : va_up S (300 + b) row (100 + k) = S (100 + k) := va_up_ne _ _ (by omega)
      have e3 : va_up S (300 + b) row 3 = S 3 := va_up_ne _ _ (by omega)
      rw [ih (by omega), show fa_in (va_up S (300 + b) row) k g = fa_in S k g by simp only [fa_in, e], e, e3]
  exact h n hn
set_option maxRecDepth 100000 in
set_option maxHeartbeats 4000000 in
theorem kc_block {l : Launch} (hls : l.stackTraces = false) {D : va_G} {w : wd_T} {S : Nat → Nat → Int32} {L : Nat → Nat → Int64} (hN : ok_N w S) (hU : ok_U w S) (x : Int32) : ct_M l D w zy_A_block (Cond.code zy_A_block zb_A_block 5 (Option.some Jvm.ClassFile.FieldType.int)) ({ frames := 7, cells := 2, slots := 12, locals := 111 } : Room) [av_r 0, av_i x] S L (po_O (ou_block w S x) [(1, nx_E), (2, kE_S)] L) 2 12 := by
  refine ct_intro hls (own := zn_A) (by decide) rfl (Nat.le_of_ble_eq_true rfl) ?_
  refine jd_aload_n zd_A_block_0 rfl ?_
  refine jd_iload_n zd_A_block_1 rfl ?_
  refine jd_callV (n := 1) (kc_placeOf hls hN.2.1 hN x) rfl rfl rfl rfl (by decide) zi_440 zi_442 zi_10 zi_41 zi_443 (by decide +kernel) rfl rfl rfl (by decide) (Nat.le_of_ble_eq_true rfl) (by decide) zd_A_block_2 (fun E S2 L2 h => jd_out rfl (by obtain ⟨rfl, h_e, rfl, rfl⟩ := h; exact ⟨1, 0, _, Or.inl ⟨h_e, rfl, rfl⟩, by decide +kernel, sw_refl _, sw_reflL _⟩) (by decide) (by decide)) (fun v S2 L2 hq => ?_)
  obtain ⟨b, hb, rfl, rfl, rfl, rfl⟩ := hq
  have h12 := hN.1
  have h13 := hN.2.1
  refine jd_astore_n zd_A_block_5 (by decide) ?_
  refine jd_aload_n zd_A_block_6 rfl ?_
  refine jd_get (ac_P (by omega)) rfl zl_P 4 (by decide) zi_392 rfl rfl (rl_P (by omega)) (by omega) zd_A_block_7 ?_
  refine jd_if_eq 23 zd_A_block_10 (by decide) (fun h_10 => ?_) (fun h_10 => ?_)
  · refine jd_aload_n zd_A_block_23 rfl ?_
    refine jd_iconst (v := 1) zd_A_block_24 (by decide) ?_
    refine jd_put (ac_P (by omega)) rfl zl_P zp_P zm_P 4 (by decide) zi_392 rfl rfl rfl (by first | rfl | decide | assumption) (by first | rfl | decide | assumption) (Nat.le_of_ble_eq_true rfl) (ac_P (by omega)) (rl_P (by omega)) (by omega) zd_A_block_25 ?_
    refine jd_aload_n zd_A_block_28 rfl ?_
    refine jd_iload_n zd_A_block_29 rfl ?_
    refine jd_callV (n := 1) (kc_plannedFor hls (ok_N_p hN) (nI b)) rfl rfl rfl rfl (by decide) zi_611 zi_613 zi_22 zi_41 zi_614 (by decide +kernel) rfl rfl rfl (by decide) (Nat.le_of_ble_eq_true rfl) (by decide) zd_A_block_30 (fun _ _ _ h => h.elim) (fun v S2 L2 hq => ?_)
    obtain ⟨rfl, rfl, rfl⟩ := hq
    rw [fa_pf_b (show b < 12 by omega) h12]
    refine jd_istore_n zd_A_block_33 (by decide) ?_
    refine jd_iload_n zd_A_block_34 rfl ?_
    refine jd_iconst (v := (-1)) zd_A_block_35 (by decide) ?_
    refine jd_icmp_ne 41 zd_A_block_36 (by decide) (fun h_36 => ?_) (fun h_36 => ?_)
    · obtain ⟨g, hg, epf⟩ : ∃ g, g < w.2.2.1 ∧ fa_pf S (nI b) w.2.2.1 0 = nI g := by
        rcases fa_pf_in (S := S) (p := nI b) w.2.2.1 0 with e | ⟨g, h1, h2, h3, -⟩
        · exact absurd e h_36
        · exact ⟨g, by omega, h3⟩
      refine jd_aload_n zd_A_block_41 rfl ?_
      refine jd_aload_n zd_A_block_42 rfl ?_
      refine jd_iload_n zd_A_block_43 rfl ?_
      rw [epf]
      refine jd_callV (n := 1) (kc_gather hls (ok_N_p hN) (ok_U_p h12 hU) (nI g)) rfl rfl rfl rfl (by decide) zi_192 zi_194 zi_2 zi_41 zi_195 (by decide +kernel) rfl rfl rfl (by decide) (Nat.le_of_ble_eq_true rfl) (by decide) zd_A_block_44 (fun _ _ _ h => h.elim) (fun v S2 L2 hq => ?_)
      obtain ⟨rfl, rfl, rfl⟩ := hq
      rw [fa_ga_b (show b < 12 by omega) h12]
      have hT : sw_S (va_up S (300 + b) (upd (S (300 + b)) 4 1)) (va_up (va_up S (300 + b) (upd (S (300 + b)) 4 1)) 4 (fa_ga S (nI g) w.2.2.1)) := (sw_refl _).up (by decide) (by decide) _
      refine jd_aload_n zd_A_block_47 rfl ?_
      refine jd_callV (n := 0) (kc_plannedPlaces hls (ok_N_4 (ok_N_p hN))) rfl rfl rfl rfl (by decide) zi_615 zi_617 zi_23 zi_41 zi_618 (by decide +kernel) rfl rfl rfl (by decide) (Nat.le_of_ble_eq_true rfl) (by decide) zd_A_block_48 (fun _ _ _ h => h.elim) (fun v S2 L2 hq => ?_)
      obtain ⟨rfl, rfl, rfl⟩ := hq
      rw [fa_pp_b (show b < 12 by omega) h12]
      refine jd_callV (n := 2) (kc_cheapest hls (ok_N_4 (ok_N_p hN)) hg (by rw [va_up_self]; exact fa_ga_0 _ _ _) (fa_pp S w.2.2.1)) rfl rfl rfl rfl (by decide) zi_207 zi_209 zi_3 zi_41 zi_210 (by decide +kernel) rfl rfl rfl (by decide) (Nat.le_of_ble_eq_true rfl) (by decide) zd_A_block_51 (fun _ _ _ h => h.elim) (fun v S2 L2 hq => ?_)
      obtain ⟨rfl, rfl, rfl⟩ := hq
      rw [va_up_self, fa_ch_sw hT]
      refine jd_istore zd_A_block_54 (by decide) ?_
      refine jd_aload_n zd_A_block_56 rfl ?_
      refine jd_iload_n zd_A_block_57 rfl ?_
      refine jd_iload zd_A_block_58 rfl ?_
      try rw [epf]
      refine jd_callV (n := 2) (kc_planFor hls (ok_N_4 (ok_N_p hN)) (nI g) _) rfl rfl rfl rfl (by decide) zi_487 zi_489 zi_12 zi_41 zi_490 (by decide +kernel) rfl rfl rfl (by decide) (Nat.le_of_ble_eq_true rfl) (by decide) zd_A_block_60 (fun _ _ _ h => h.elim) (fun v S2 L2 hq => ?_)
      obtain ⟨rfl, rfl, rfl⟩ := hq
      refine jd_iload zd_A_block_63 rfl ?_
      refine jd_iconst (v := (-1)) zd_A_block_65 (by decide) ?_
      refine jd_icmp_ne 73 zd_A_block_66 (by decide) (fun h_66 => ?_) (fun h_66 => ?_)
      · refine jd_iconst (v := 1) zd_A_block_73 (by decide) ?_
        exact jd_iret rfl ⟨_, _, Or.inr ⟨b, hb, rfl, Or.inr ⟨h_10, rfl, _, rfl, Or.inr ⟨g, hg, epf, rfl, by rw [if_neg h_66]⟩⟩⟩, rfl, fa_un_sw hT _ _ _, sw_reflL _⟩ (by decide) (by decide) zd_A_block_74
      · refine jd_iconst (v := 0) zd_A_block_69 (by decide) ?_
        refine jd_goto 74 zd_A_block_70 (by decide) ?_
        exact jd_iret rfl ⟨_, _, Or.inr ⟨b, hb, rfl, Or.inr ⟨h_10, rfl, _, rfl, Or.inr ⟨g, hg, epf, rfl, by rw [if_pos h_66]⟩⟩⟩, rfl, fa_un_sw hT _ _ _, sw_reflL _⟩ (by decide) (by decide) zd_A_block_74
    · refine jd_iconst (v := 0) zd_A_block_39 (by decide) ?_
      exact jd_iret rfl ⟨0, _, Or.inr ⟨b, hb, rfl, Or.inr ⟨h_10, rfl, _, rfl, Or.inl ⟨h_36, rfl, rfl⟩⟩⟩, rfl, sw_refl _, sw_reflL _⟩ (by decide) (by decide) zd_A_block_40
  · exact jd_throw (text := "the place is blocked") th_ise (by decide +kernel) rfl ⟨2, 0, _, Or.inr ⟨b, hb, rfl, Or.inl ⟨h_10, rfl, rfl⟩⟩, by decide +kernel, sw_refl _, sw_reflL _⟩ zd_A_block_13 zd_A_block_16 zd_A_block_17 zd_A_block_19 zd_A_block_22 (by decide) (Nat.le_of_ble_eq_true rfl) (by decide) (by decide) (by decide) (by decide)
set_option maxRecDepth 100000 in
set_option maxHeartbeats 4000000 in
theorem kc_share {l : Launch} (hls : l.stackTraces = false) {D : va_G} {w : wd_T} {S : Nat → Nat → Int32} {L : Nat → Nat → Int64} (hN : ok_N w S) (hU : ok_U w S) (x : Int32) : ct_M l D w zy_A_share (Cond.code zy_A_share zb_A_share 4 (Option.some Jvm.ClassFile.FieldType.int)) ({ frames := 7, cells := 3, slots := 18, locals := 111 } : Room) [av_r 0, av_i x] S L (po_O (ou_share w S x) [(1, nx_E), (2, kE_S), (3, kE_A)] L) 3 18 := by
  refine ct_intro hls (own := zn_A) (by decide) rfl (Nat.le_of_ble_eq_true rfl) ?_
  refine jd_aload_n zd_A_share_0 rfl ?_
  refine jd_iload_n zd_A_share_1 rfl ?_
  refine jd_callV (n := 1) (kc_unitOf hls hN.1 hN x) rfl rfl rfl rfl (by decide) zi_420 zi_422 zi_9 zi_41 zi_423 (by decide +kernel) rfl rfl rfl (by decide) (Nat.le_of_ble_eq_true rfl) (by decide) zd_A_share_2 (fun E S2 L2 h => jd_out rfl (by obtain ⟨rfl, h_e, rfl, rfl⟩ := h; exact ⟨1, 0, _, ⟨rfl, Or.inl ⟨h_e, rfl⟩⟩, by decide +kernel, sw_refl _, sw_reflL _⟩) (by decide) (by decide)) (fun v S2 L2 hq => ?_)
  obtain ⟨a, ha, rfl, rfl, rfl, rfl⟩ := hq
  have h12 := hN.1
  have h13 := hN.2.1
  refine jd_astore_n zd_A_share_5 (by decide) ?_
  refine jd_aload_n zd_A_share_6 rfl ?_
  refine jd_callS (n := 1) (kc_isPlanned hls ha h12) rfl zi_594 zi_595 zi_41 zi_596 (by decide +kernel) rfl rfl rfl (by decide) (Nat.le_of_ble_eq_true rfl) (by decide) zd_A_share_7 (fun _ _ _ h => h.elim) (fun v S2 L2 hq => ?_)
  obtain ⟨rfl, rfl, rfl⟩ := hq
  refine jd_if_ne 23 zd_A_share_10 (by decide) (fun h_10 => ?_) (fun h_10 => ?_)
  · refine jd_aload_n zd_A_share_23 rfl ?_
    refine jd_callV (n := 0) (kc_plannedCosts hls hN hU) rfl rfl rfl rfl (by decide) zi_635 zi_637 zi_24 zi_41 zi_638 (by decide +kernel) rfl rfl rfl (by decide) (Nat.le_of_ble_eq_true rfl) (by decide) zd_A_share_24 (fun _ _ _ h => h.elim) (fun v9 T M hq => ?_)
    obtain ⟨rfl, hT, hM⟩ := hq
    refine jd_istore_n zd_A_share_27 (by decide) ?_
    refine jd_iload_n zd_A_share_28 rfl ?_
    refine jd_if_ne 42 zd_A_share_29 (by decide) (fun h_29 => ?_) (fun h_29 => ?_)
    · obtain ⟨p, hp, ep⟩ : ∃ p, p < w.2.2.2 ∧ S (100 + a) 3 = nI p := by
        rcases (hU a ha).2.2.1 with e | e
        · have hg := bi_n h_10; simp [fa_pl, e] at hg
        · exact e
      obtain ⟨g, hga, eg⟩ := (hU a ha).2.1
      refine jd_bipush (v := 100) zd_A_share_42 (by decide) ?_
      refine jd_aload_n zd_A_share_44 rfl ?_
      refine jd_aload_n zd_A_share_45 rfl ?_
      refine jd_aload_n zd_A_share_46 rfl ?_
      refine jd_get (ac_U (by omega)) rfl zl_U 2 (by decide) zi_341 rfl rfl (rl_U (by omega)) (by omega) zd_A_share_47 ?_
      rw [hT.u, eg]
      refine jd_callV (n := 1) (kc_gather hls (ok_N_sw hT hN) (ok_U_sw hT hU) (nI g)) rfl rfl rfl rfl (by decide) zi_192 zi_194 zi_2 zi_41 zi_195 (by decide +kernel) rfl rfl rfl (by decide) (Nat.le_of_ble_eq_true rfl) (by decide) zd_A_share_50 (fun _ _ _ h => h.elim) (fun v S2 L2 hq => ?_)
      obtain ⟨rfl, rfl, rfl⟩ := hq
      rw [fa_ga_sw hT]
      have hT2 := hT.up (r := 4) (by decide) (by decide) (fa_ga S (nI g) w.2.2.1)
      refine jd_aload_n zd_A_share_53 rfl ?_
      refine jd_get (ac_U (by omega)) rfl zl_U 3 (by decide) zi_343 rfl rfl (rl_U (by omega)) (by omega) zd_A_share_54 ?_
      rw [hT2.u]
      refine jd_callV (n := 2) (kc_costAt hls h12 h13 (gn := g) (by omega) (by rw [va_up_self]; exact fa_ga_0 _ _ _) hp ep) rfl rfl rfl rfl (by decide) zi_215 zi_217 zi_5 zi_41 zi_218 (by decide +kernel) rfl rfl rfl (by decide) (Nat.le_of_ble_eq_true rfl) (by decide) zd_A_share_57 (fun _ _ _ h => h.elim) (fun v S2 L2 hq => ?_)
      obtain ⟨rfl, rfl, rfl⟩ := hq
      rw [va_up_self, fa_co_sw hT2]
      refine jd_imul zd_A_share_60 ?_
      refine jd_iload_n zd_A_share_61 rfl ?_
      refine jd_idiv zd_A_share_62 h_29 ?_
      exact jd_iret rfl ⟨_, _, ⟨rfl, Or.inr ⟨a, ha, rfl, Or.inr (Or.inr ⟨p, g, hp, ep, hga, eg, bi_n h_10, h_29, rfl, rfl⟩)⟩⟩, rfl, hT2, hM⟩ (by decide) (by decide) zd_A_share_63
    · exact jd_throw (text := "/ by zero") th_ae (by decide +kernel) rfl ⟨3, 0, _, ⟨rfl, Or.inr ⟨a, ha, rfl, Or.inr (Or.inl ⟨bi_n h_10, h_29, rfl⟩)⟩⟩, by decide +kernel, hT, hM⟩ zd_A_share_32 zd_A_share_35 zd_A_share_36 zd_A_share_38 zd_A_share_41 (by decide) (Nat.le_of_ble_eq_true rfl) (by decide) (by decide) (by decide) (by decide)
  · exact jd_throw (text := "the unit is done or not planned") th_ise (by decide +kernel) rfl ⟨2, 0, _, ⟨rfl, Or.inr ⟨a, ha, rfl, Or.inl ⟨bi_z h_10, rfl⟩⟩⟩, by decide +kernel, sw_refl _, sw_reflL _⟩ zd_A_share_13 zd_A_share_16 zd_A_share_17 zd_A_share_19 zd_A_share_22 (by decide) (Nat.le_of_ble_eq_true rfl) (by decide) (by decide) (by decide) (by decide)
set_option maxRecDepth 100000 in
set_option maxHeartbeats 4000000 in
theorem kl_trip1 {l : Launch} (hls : l.stackTraces = false) {D : va_G} {w : wd_T} {S : Nat → Nat → Int32} {L : Nat → Nat → Int64} (hN : ok_N w S) (hU : ok_U w S) (x : Int32) (z : Nat) {Qp : jd_P} : ∀ (k u : Nat), u ≤ w.2.2.1 → w.2.2.1 < u + k → ∀ num st ld : Int32, ((fa_t1 S (nI z) x (w.2.2.1 - u) u num st ld).1 = true → Qp.1 (some (av_i (fa_t1 S (nI z) x (w.2.2.1 - u) u num st ld).2)) S L) → ((fa_t1 S (nI z) x (w.2.2.1 - u) u num st ld).1 = false → jd_J l D w zn_A zb_A_trip 7 (Option.some Jvm.ClassFile.FieldType.int) [] ({ frames := 7, cells := 1, slots := 6, locals := 111 } : Room) 1 6 Qp (0 + 1) (0 + 6) 111 [(0, av_r 0), (1, av_i x), (2, av_i (fa_t1 S (nI z) x (w.2.2.1 - u) u num st ld).2), (3, av_i (nI z))] [] S L) → jd_J l D w zn_A zb_A_trip 7 (Option.some Jvm.ClassFile.FieldType.int) [] ({ frames := 7, cells := 1, slots := 6, locals := 111 } : Room) 1 6 Qp (0 + 1) (0 + 6) 24 [(0, av_r 0), (1, av_i x), (2, av_i num), (3, av_i (nI z)), (4, av_i st), (5, av_i ld), (6, av_i (nI u))] [] S L := by
  have h12 := hN.1
  intro k
  induction k with
  | zero => intro u h1 h2; omega
  | succ k ih =>
    intro u hu hk num st ld hF hG
    refine jd_iload zd_A_trip_24 rfl ?_
    refine jd_aload_n zd_A_trip_26 rfl ?_
    refine jd_get rfl rfl zl_A 6 (by decide) zi_148 rfl rfl rfl (by decide) zd_A_trip_27 ?_
    refine jd_icmp_ge 111 zd_A_trip_30 (by decide) (fun h_30 => ?_) (fun h_30 => ?_)
    · have e_u := nI_end hN.2.2.1 (by omega) hu h_30
      subst e_u
      rw [Nat.sub_self] at hG
      exact jd_sub [(0, av_r 0), (1, av_i x), (2, av_i num), (3, av_i (nI z))] ⟨rfl, rfl, rfl, rfl, trivial⟩ (hG rfl)
    · have hu2 := nI_on hN.2.2.1 (by omega) hu h_30
      have e_k : w.2.2.1 - u = (w.2.2.1 - (u + 1)) + 1 := by omega
      rw [e_k] at hF hG
      simp only [fa_t1] at hF hG
      refine jd_aload_n zd_A_trip_33 rfl ?_
      refine jd_aload_n zd_A_trip_34 rfl ?_
      refine jd_get rfl rfl zl_A 0 (by decide) zi_142 rfl rfl rfl (by decide) zd_A_trip_35 ?_
      refine jd_iload zd_A_trip_38 rfl ?_
      refine jd_unit rfl hu2 h12 zd_A_trip_40 ?_
      refine jd_iload_n zd_A_trip_41 rfl ?_
      refine jd_callV (n := 2) (kc_goesTo hls hN hU hu2 (nI z)) rfl rfl rfl rfl (by decide) zi_662 zi_664 zi_25 zi_41 zi_665 (by decide +kernel) rfl rfl rfl (by decide) (Nat.le_of_ble_eq_true rfl) (by decide) zd_A_trip_42 (fun _ _ _ h => h.elim) (fun v S2 L2 hq => ?_)
      obtain ⟨rfl, rfl, rfl⟩ := hq
      refine jd_if_eq 105 zd_A_trip_45 (by decide) (fun h_45 => ?_) (fun h_45 => ?_)
      · rw [if_neg (show ¬ fa_gt S u (nI z) = true by rw [bi_z h_45]; decide)] at hF hG
        refine jd_iinc (v := nI (u + 1)) zd_A_trip_105 rfl (nI_inc u) (by decide) ?_
        refine jd_goto 24 zd_A_trip_108 (by decide) ?_
        exact jd_sub [(0, av_r 0), (1, av_i x), (2, av_i _), (3, av_i (nI z)), (4, av_i _), (5, av_i _), (6, av_i (nI (u + 1)))] ⟨rfl, rfl, rfl, rfl, rfl, rfl, rfl, trivial⟩ (ih (u + 1) (by omega) (by omega) _ _ _ hF hG)
      · rw [if_pos (bi_n h_45)] at hF hG
        refine jd_iload zd_A_trip_48 rfl ?_
        refine jd_if_eq 73 zd_A_trip_50 (by decide) (fun h_50 => ?_) (fun h_50 => ?_)
        · rw [if_pos (show st = 0 ∨ S 0 9 < ld + S (100 + u) 1 from Or.inl h_50)] at hF hG
          refine jd_iinc (v := num + 1) zd_A_trip_73 rfl rfl (by decide) ?_
          refine jd_iconst (v := 0) zd_A_trip_76 (by decide) ?_
          refine jd_istore zd_A_trip_77 (by decide) ?_
          refine jd_iconst (v := 1) zd_A_trip_79 (by decide) ?_
          refine jd_istore zd_A_trip_80 (by decide) ?_
          refine jd_iload zd_A_trip_82 rfl ?_
          refine jd_aload_n zd_A_trip_84 rfl ?_
          refine jd_get rfl rfl zl_A 0 (by decide) zi_142 rfl rfl rfl (by decide) zd_A_trip_85 ?_
          refine jd_iload zd_A_trip_88 rfl ?_
          refine jd_unit rfl hu2 h12 zd_A_trip_90 ?_
          refine jd_get (ac_U (by omega)) rfl zl_U 1 (by decide) zi_339 rfl rfl (rl_U (by omega)) (by omega) zd_A_trip_91 ?_
          refine jd_iadd zd_A_trip_94 ?_
          refine jd_istore zd_A_trip_95 (by decide) ?_
          refine jd_iload zd_A_trip_97 rfl ?_
          refine jd_iload_n zd_A_trip_99 rfl ?_
          refine jd_icmp_ne 105 zd_A_trip_100 (by decide) (fun h_100 => ?_) (fun h_100 => ?_)
          · rw [if_neg h_100] at hF hG
            refine jd_iinc (v := nI (u + 1)) zd_A_trip_105 rfl (nI_inc u) (by decide) ?_
            refine jd_goto 24 zd_A_trip_108 (by decide) ?_
            exact jd_sub [(0, av_r 0), (1, av_i x), (2, av_i _), (3, av_i (nI z)), (4, av_i _), (5, av_i _), (6, av_i (nI (u + 1)))] ⟨rfl, rfl, rfl, rfl, rfl, rfl, rfl, trivial⟩ (ih (u + 1) (by omega) (by omega) _ _ _ hF hG)
          · rw [if_pos h_100] at hF hG
            refine jd_iload_n zd_A_trip_103 rfl ?_
            exact jd_iret rfl (hF rfl) (by decide) (by decide) zd_A_trip_104
        · refine jd_iload zd_A_trip_53 rfl ?_
          refine jd_aload_n zd_A_trip_55 rfl ?_
          refine jd_get rfl rfl zl_A 0 (by decide) zi_142 rfl rfl rfl (by decide) zd_A_trip_56 ?_
          refine jd_iload zd_A_trip_59 rfl ?_
          refine jd_unit rfl hu2 h12 zd_A_trip_61 ?_
          refine jd_get (ac_U (by omega)) rfl zl_U 1 (by decide) zi_339 rfl rfl (rl_U (by omega)) (by omega) zd_A_trip_62 ?_
          refine jd_iadd zd_A_trip_65 ?_
          refine jd_aload_n zd_A_trip_66 rfl ?_
          refine jd_get rfl rfl zl_A 9 (by decide) zi_151 rfl rfl rfl (by decide) zd_A_trip_67 ?_
          refine jd_icmp_le 79 zd_A_trip_70 (by decide) (fun h_70 => ?_) (fun h_70 => ?_)
          · rw [if_neg (show ¬ (st = 0 ∨ S 0 9 < ld + S (100 + u) 1) from fun q => by rcases q with q | q; exact h_50 q; exact absurd q (Int32.not_lt.mpr h_70))] at hF hG
            refine jd_iconst (v := 1) zd_A_trip_79 (by decide) ?_
            refine jd_istore zd_A_trip_80 (by decide) ?_
            refine jd_iload zd_A_trip_82 rfl ?_
            refine jd_aload_n zd_A_trip_84 rfl ?_
            refine jd_get rfl rfl zl_A 0 (by decide) zi_142 rfl rfl rfl (by decide) zd_A_trip_85 ?_
            refine jd_iload zd_A_trip_88 rfl ?_
            refine jd_unit rfl hu2 h12 zd_A_trip_90 ?_
            refine jd_get (ac_U (by omega)) rfl zl_U 1 (by decide) zi_339 rfl rfl (rl_U (by omega)) (by omega) zd_A_trip_91 ?_
            refine jd_iadd zd_A_trip_94 ?_
            refine jd_istore zd_A_trip_95 (by decide) ?_
            refine jd_iload zd_A_trip_97 rfl ?_
            refine jd_iload_n zd_A_trip_99 rfl ?_
            refine jd_icmp_ne 105 zd_A_trip_100 (by decide) (fun h_100 => ?_) (fun h_100 => ?_)
            · rw [if_neg h_100] at hF hG
              refine jd_iinc (v := nI (u + 1)) zd_A_trip_105 rfl (nI_inc u) (by decide) ?_
              refine jd_goto 24 zd_A_trip_108 (by decide) ?_
              exact jd_sub [(0, av_r 0), (1, av_i x), (2, av_i _), (3, av_i (nI z)), (4, av_i _), (5, av_i _), (6, av_i (nI (u + 1)))] ⟨rfl, rfl, rfl, rfl, rfl, rfl, rfl, trivial⟩ (ih (u + 1) (by omega) (by omega) _ _ _ hF hG)
            · rw [if_pos h_100] at hF hG
              refine jd_iload_n zd_A_trip_103 rfl ?_
              exact jd_iret rfl (hF rfl) (by decide) (by decide) zd_A_trip_104
          · rw [if_pos (show st = 0 ∨ S 0 9 < ld + S (100 + u) 1 from Or.inr (Int32.not_le.mp h_70))] at hF hG
            refine jd_iinc (v := num + 1) zd_A_trip_73 rfl rfl (by decide) ?_
            refine jd_iconst (v := 0) zd_A_trip_76 (by decide) ?_
            refine jd_istore zd_A_trip_77 (by decide) ?_
            refine jd_iconst (v := 1) zd_A_trip_79 (by decide) ?_
            refine jd_istore zd_A_trip_80 (by decide) ?_
            refine jd_iload zd_A_trip_82 rfl ?_
            refine jd_aload_n zd_A_trip_84 rfl ?_
            refine jd_get rfl rfl zl_A 0 (by decide) zi_142 rfl rfl rfl (by decide) zd_A_trip_85 ?_
            refine jd_iload zd_A_trip_88 rfl ?_
            refine jd_unit rfl hu2 h12 zd_A_trip_90 ?_
            refine jd_get (ac_U (by omega)) rfl zl_U 1 (by decide) zi_339 rfl rfl (rl_U (by omega)) (by omega) zd_A_trip_91 ?_
            refine jd_iadd zd_A_trip_94 ?_
            refine jd_istore zd_A_trip_95 (by decide) ?_
            refine jd_iload zd_A_trip_97 rfl ?_
            refine jd_iload_n zd_A_trip_99 rfl ?_
            refine jd_icmp_ne 105 zd_A_trip_100 (by decide) (fun h_100 => ?_) (fun h_100 => ?_)
            · rw [if_neg h_100] at hF hG
              refine jd_iinc (v := nI (u + 1)) zd_A_trip_105 rfl (nI_inc u) (by decide) ?_
              refine jd_goto 24 zd_A_trip_108 (by decide) ?_
              exact jd_sub [(0, av_r 0), (1, av_i x), (2, av_i _), (3, av_i (nI z)), (4, av_i _), (5, av_i _), (6, av_i (nI (u + 1)))] ⟨rfl, rfl, rfl, rfl, rfl, rfl, rfl, trivial⟩ (ih (u + 1) (by omega) (by omega) _ _ _ hF hG)
            · rw [if_pos h_100] at hF hG
              refine jd_iload_n zd_A_trip_103 rfl ?_
              exact jd_iret rfl (hF rfl) (by decide) (by decide) zd_A_trip_104
set_option maxRecDepth 100000 in
set_option maxHeartbeats 4000000 in
theorem kl_trip2 {l : Launch} (hls : l.stackTraces = false) {D : va_G} {w : wd_T} {S : Nat → Nat → Int32} {L : Nat → Nat → Int64} (hN : ok_N w S) (hU : ok_U w S) (x : Int32) {Qp : jd_P} : ∀ (k z : Nat), z ≤ 4 → 4 < z + k → ∀ num : Int32, Qp.1 (some (av_i (fa_t2 S x w.2.2.1 (4 - z) z num))) S L → jd_J l D w zn_A zb_A_trip 7 (Option.some Jvm.ClassFile.FieldType.int) [] ({ frames := 7, cells := 1, slots := 6, locals := 111 } : Room) 1 6 Qp (0 + 1) (0 + 6) 10 [(0, av_r 0), (1, av_i x), (2, av_i num), (3, av_i (nI z))] [] S L := by
  have h12 := hN.1
  intro k
  induction k with
  | zero => intro z h1 h2; omega
  | succ k ih =>
    intro z hz hk num hQ
    refine jd_iload_n zd_A_trip_10 rfl ?_
    refine jd_iconst (v := nI 4) zd_A_trip_11 (by decide) ?_
    refine jd_icmp_ge 117 zd_A_trip_12 (by decide) (fun h_12 => ?_) (fun h_12 => ?_)
    · rw [nI_leI (by decide) (by omega)] at h_12
      have e_z : z = 4 := by omega
      subst e_z
      refine jd_iconst (v := (-1)) zd_A_trip_117 (by decide) ?_
      exact jd_iret rfl hQ (by decide) (by decide) zd_A_trip_118
    · rw [nI_leI (by decide) (by omega)] at h_12
      have e_k : 4 - z = (4 - (z + 1)) + 1 := by omega
      rw [e_k] at hQ
      simp only [fa_t2] at hQ
      refine jd_iconst (v := 0) zd_A_trip_15 (by decide) ?_
      refine jd_istore zd_A_trip_16 (by decide) ?_
      refine jd_iconst (v := 0) zd_A_trip_18 (by decide) ?_
      refine jd_istore zd_A_trip_19 (by decide) ?_
      refine jd_iconst (v := 0) zd_A_trip_21 (by decide) ?_
      refine jd_istore zd_A_trip_22 (by decide) ?_
      refine jd_sub [(0, av_r 0), (1, av_i x), (2, av_i num), (3, av_i (nI z)), (4, av_i 0), (5, av_i 0), (6, av_i (nI 0))] ⟨rfl, rfl, rfl, rfl, rfl, rfl, rfl, trivial⟩ (kl_trip1 hls hN hU x z (w.2.2.1 + 1) 0 (by omega) (by omega) num 0 0 (fun h => by rw [Nat.sub_zero] at h ⊢; rw [if_pos h] at hQ; exact hQ) (fun h => ?_))
      rw [Nat.sub_zero] at h ⊢
      rw [if_neg (by rw [h]; decide)] at hQ
      refine jd_iinc (v := nI (z + 1)) zd_A_trip_111 rfl (nI_inc z) (by decide) ?_
      refine jd_goto 10 zd_A_trip_114 (by decide) ?_
      exact jd_sub [(0, av_r 0), (1, av_i x), (2, av_i _), (3, av_i (nI (z + 1)))] ⟨rfl, rfl, rfl, rfl, trivial⟩ (ih (z + 1) (by omega) (by omega) _ hQ)
set_option maxRecDepth 100000 in
set_option maxHeartbeats 4000000 in
theorem kc_trip {l : Launch} (hls : l.stackTraces = false) {D : va_G} {w : wd_T} {S : Nat → Nat → Int32} {L : Nat → Nat → Int64} (hN : ok_N w S) (hU : ok_U w S) (x : Int32) : ct_M l D w zy_A_trip (Cond.code zy_A_trip zb_A_trip 7 (Option.some Jvm.ClassFile.FieldType.int)) ({ frames := 7, cells := 1, slots := 6, locals := 111 } : Room) [av_r 0, av_i x] S L (po_O (ou_trip w S x) [(1, nx_E)] L) 1 6 := by
  refine ct_intro hls (own := zn_A) (by decide) rfl (Nat.le_of_ble_eq_true rfl) ?_
  refine jd_aload_n zd_A_trip_0 rfl ?_
  refine jd_iload_n zd_A_trip_1 rfl ?_
  refine jd_callV (n := 1) (kc_unitOf hls hN.1 hN x) rfl rfl rfl rfl (by decide) zi_420 zi_422 zi_9 zi_41 zi_423 (by decide +kernel) rfl rfl rfl (by decide) (Nat.le_of_ble_eq_true rfl) (by decide) zd_A_trip_2 (fun E S2 L2 h => jd_out rfl (by obtain ⟨rfl, h_e, rfl, rfl⟩ := h; exact ⟨1, 0, _, ⟨rfl, Or.inl ⟨h_e, rfl⟩⟩, by decide +kernel, sw_refl _, sw_reflL _⟩) (by decide) (by decide)) (fun v S2 L2 hq => ?_)
  obtain ⟨a, ha, rfl, rfl, rfl, rfl⟩ := hq
  refine jd_pop zd_A_trip_5 rfl ?_
  refine jd_iconst (v := (-1)) zd_A_trip_6 (by decide) ?_
  refine jd_istore_n zd_A_trip_7 (by decide) ?_
  refine jd_iconst (v := 0) zd_A_trip_8 (by decide) ?_
  refine jd_istore_n zd_A_trip_9 (by decide) ?_
  exact jd_sub [(0, av_r 0), (1, av_i (nI a)), (2, av_i (-1)), (3, av_i (nI 0))] ⟨rfl, rfl, rfl, rfl, trivial⟩ (kl_trip2 (Qp := po_O (ou_trip w S (nI a)) [(1, nx_E)] L) hls hN hU (nI a) 5 0 (by omega) (by omega) (-1) ⟨_, _, ⟨rfl, Or.inr ⟨a, ha, rfl, rfl, rfl⟩⟩, rfl, sw_refl _, sw_reflL _⟩)
