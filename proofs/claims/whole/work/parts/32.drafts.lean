/-! THE CLASS: the draft of the best plan (rows by wip/whole/gen/b3.py) -/
set_option maxRecDepth 100000 in
set_option maxHeartbeats 4000000 in
theorem kl_offerPlaces {l : Launch} (hls : l.stackTraces = false) {D : va_G} {w : wd_T} {S : Nat → Nat → Int32} {L : Nat → Nat → Int64} (hN : ok_N w S) {gn : Nat} (hgn : gn < w.2.2.1) (hg : S 4 0 = nI gn) {r : Nat} (hr : r < 8) (h57 : S 5 7 = nI r) {Qp : jd_P} (hQ : Qp.1 none (va_up S 5 (upd (S 5) 7 (nI (r + 1)))) (va_up (va_up L 5 (vp_updL (L 5) 8 (L 5 8 / 13))) (14 + (r + 1)) (bp_of S (S 4) gn (bp_ag (L (14 + (r + 1))) (L 5 8 / 13) 21) (L 5 8 / 13) w.2.2.2))) : ∀ (k u : Nat), u ≤ w.2.2.2 → w.2.2.2 < u + k → jd_J l D w zn_A zb_A_offerPlaces 3 (Option.none : Option Jvm.ClassFile.FieldType) [] ({ frames := 1, cells := 0, slots := 0, locals := 23 } : Room) 0 0 Qp 0 0 9 [(0, av_r 0), (1, av_r 4), (2, av_i (nI u))] [] (va_up S 5 (upd (S 5) 7 (nI (r + 1)))) (va_up (va_up L 5 (vp_updL (L 5) 8 (L 5 8 / 13))) (14 + (r + 1)) (bp_of S (S 4) gn (bp_ag (L (14 + (r + 1))) (L 5 8 / 13) 21) (L 5 8 / 13) u)) := by
  have h12 := hN.1
  have h13 := hN.2.1
  have hT : sw_S S (va_up S 5 (upd (S 5) 7 (nI (r + 1)))) := (sw_refl S).up (by decide) (by decide) _
  intro k
  induction k with
  | zero => intro u h1 h2; omega
  | succ k ih =>
    intro u hu hk
    refine jd_iload_n zd_A_offerPlaces_9 rfl ?_
    refine jd_aload_n zd_A_offerPlaces_10 rfl ?_
    refine jd_get rfl rfl zl_A 7 (by decide) zi_149 rfl rfl rfl (by decide) zd_A_offerPlaces_11 ?_
    refine jd_icmp_ge 46 zd_A_offerPlaces_14 (by decide) (fun h_14 => ?_) (fun h_14 => ?_)
    · have e_u := nI_end (ok_N_sw hT hN).2.2.2 (by omega) hu h_14
      subst e_u
      exact jd_vret rfl hQ (by decide) (by decide) zd_A_offerPlaces_46
    · have hu2 := nI_on (ok_N_sw hT hN).2.2.2 (by omega) hu h_14
      refine jd_aload_n zd_A_offerPlaces_17 rfl ?_
      refine jd_aload_n zd_A_offerPlaces_18 rfl ?_
      refine jd_iload_n zd_A_offerPlaces_19 rfl ?_
      refine jd_callV (n := 2) (kc_broken hls h13 hu2 rfl) rfl rfl rfl rfl (by decide) zi_211 zi_213 zi_4 zi_41 zi_214 (by decide +kernel) rfl rfl rfl (by decide) (Nat.le_of_ble_eq_true rfl) (by decide) zd_A_offerPlaces_20 (fun _ _ _ h => h.elim) (fun v S2 L2 hq => ?_)
      obtain ⟨rfl, rfl, rfl⟩ := hq
      rw [va_up_ne _ _ (show (4 : Nat) ≠ 5 by decide), hT.p]
      refine jd_if_ne 40 zd_A_offerPlaces_23 (by decide) (fun h_23 => ?_) (fun h_23 => ?_)
      · refine jd_iinc (v := nI (u + 1)) zd_A_offerPlaces_40 rfl (nI_inc u) (by decide) ?_
        refine jd_goto 9 zd_A_offerPlaces_43 (by decide) ?_
        rw [bp_ofN h_23]
        exact jd_sub [(0, av_r 0), (1, av_r 4), (2, av_i (nI (u + 1)))] ⟨rfl, rfl, rfl, trivial⟩ (ih (u + 1) (by omega) (by omega))
      · refine jd_aload_n zd_A_offerPlaces_26 rfl ?_
        refine jd_get rfl rfl zl_A 4 (by decide) zi_146 rfl rfl rfl (by decide) zd_A_offerPlaces_27 ?_
        refine jd_iload_n zd_A_offerPlaces_30 rfl ?_
        refine jd_aload_n zd_A_offerPlaces_31 rfl ?_
        refine jd_aload_n zd_A_offerPlaces_32 rfl ?_
        refine jd_iload_n zd_A_offerPlaces_33 rfl ?_
        refine jd_callV (n := 2) (kc_costAt hls h12 h13 hgn (by rw [va_up_ne _ _ (show (4 : Nat) ≠ 5 by decide)]; exact hg) hu2 rfl) rfl rfl rfl rfl (by decide) zi_215 zi_217 zi_5 zi_41 zi_218 (by decide +kernel) rfl rfl rfl (by decide) (Nat.le_of_ble_eq_true rfl) (by decide) zd_A_offerPlaces_34 (fun _ _ _ h => h.elim) (fun v S2 L2 hq => ?_)
        obtain ⟨rfl, rfl, rfl⟩ := hq
        rw [va_up_ne _ _ (show (4 : Nat) ≠ 5 by decide), fa_co_sw hT]
        refine jd_callV (n := 2) (kc_offer hls (r := r + 1) (by omega) (by rw [va_up_self]; simp only [upd, if_true]) (p := u) (by omega) _) rfl rfl rfl rfl (by decide) zi_536 zi_537 zi_538 zi_43 zi_539 (by decide +kernel) rfl rfl rfl (by decide) (Nat.le_of_ble_eq_true rfl) (by decide) zd_A_offerPlaces_37 (fun _ _ _ h => h.elim) (fun v S2 L2 hq => ?_)
        obtain ⟨rfl, rfl, rfl⟩ := hq
        rw [va_up_self, bx_uu, va_up_ne _ _ (show (5 : Nat) ≠ 14 + (r + 1) by omega), va_up_self, pk_uLs, bp_ofY h_23]
        refine jd_iinc (v := nI (u + 1)) zd_A_offerPlaces_40 rfl (nI_inc u) (by decide) ?_
        refine jd_goto 9 zd_A_offerPlaces_43 (by decide) ?_
        exact jd_sub [(0, av_r 0), (1, av_r 4), (2, av_i (nI (u + 1)))] ⟨rfl, rfl, rfl, trivial⟩ (ih (u + 1) (by omega) (by omega))
set_option maxRecDepth 100000 in
set_option maxHeartbeats 4000000 in
theorem kc_offerPlaces {l : Launch} (hls : l.stackTraces = false) {D : va_G} {w : wd_T} {S : Nat → Nat → Int32} {L : Nat → Nat → Int64} (hN : ok_N w S) {gn : Nat} (hgn : gn < w.2.2.1) (hg : S 4 0 = nI gn) {r : Nat} (hr : r < 8) (h57 : S 5 7 = nI r) : ct_M l D w zy_A_offerPlaces (Cond.code zy_A_offerPlaces zb_A_offerPlaces 3 (Option.none : Option Jvm.ClassFile.FieldType)) ({ frames := 1, cells := 0, slots := 0, locals := 23 } : Room) [av_r 0, av_r 4] S L (po_SL (va_up S 5 (upd (S 5) 7 (nI (r + 1)))) (va_up (va_up L 5 (vp_updL (L 5) 8 (L 5 8 / 13))) (14 + (r + 1)) (bp_of S (S 4) gn (bp_ag (L (14 + (r + 1))) (L 5 8 / 13) 21) (L 5 8 / 13) w.2.2.2))) 0 0 := by
  refine ct_intro hls (own := zn_A) (by decide) rfl (Nat.le_of_ble_eq_true rfl) ?_
  refine jd_aload_n zd_A_offerPlaces_0 rfl ?_
  refine jd_get rfl rfl zl_A 4 (by decide) zi_146 rfl rfl rfl (by decide) zd_A_offerPlaces_1 ?_
  refine jd_callV (n := 0) (kc_addGroup hls hr h57) rfl rfl rfl rfl (by decide) zi_528 zi_529 zi_530 zi_43 zi_531 (by decide +kernel) rfl rfl rfl (by decide) (Nat.le_of_ble_eq_true rfl) (by decide) zd_A_offerPlaces_4 (fun _ _ _ h => h.elim) (fun v S2 L2 hq => ?_)
  obtain ⟨rfl, rfl, rfl⟩ := hq
  refine jd_iconst (v := 0) zd_A_offerPlaces_7 (by decide) ?_
  refine jd_istore_n zd_A_offerPlaces_8 (by decide) ?_
  refine jd_eqL (L' := (va_up (va_up L 5 (vp_updL (L 5) 8 (L 5 8 / 13))) (14 + (r + 1)) (bp_of S (S 4) gn (bp_ag (L (14 + (r + 1))) (L 5 8 / 13) 21) (L 5 8 / 13) 0))) (by rw [bp_of_0]) ?_
  exact jd_sub [(0, av_r 0), (1, av_r 4), (2, av_i (nI 0))] ⟨rfl, rfl, rfl, trivial⟩ (kl_offerPlaces (Qp := po_SL (va_up S 5 (upd (S 5) 7 (nI (r + 1)))) (va_up (va_up L 5 (vp_updL (L 5) 8 (L 5 8 / 13))) (14 + (r + 1)) (bp_of S (S 4) gn (bp_ag (L (14 + (r + 1))) (L 5 8 / 13) 21) (L 5 8 / 13) w.2.2.2))) hls hN hgn hg hr h57 ⟨rfl, rfl, rfl⟩ (w.2.2.2 + 1) 0 (by omega) (by omega))
set_option maxRecDepth 100000 in
set_option maxHeartbeats 4000000 in
theorem kl_draftBest1 {l : Launch} (hls : l.stackTraces = false) {D : va_G} {w : wd_T} {S : Nat → Nat → Int32} {L : Nat → Nat → Int64} (hN : ok_N w S) (hU : ok_U w S) (h8 : fa_cN S w.2.2.1 ≤ 8) (hC : ∀ r p, r < fa_cN S w.2.2.1 → fa_al S w.2.2.1 w.2.2.2 r p → 0 ≤ fa_cost S w.2.2.1 r p ∧ fa_cost S w.2.2.1 r p ≤ 1000000) {Qp : jd_P} (hnext : ∀ T M, bp_J w S L w.2.2.1 T M → jd_J l D w zn_A zb_A_draftBest 4 (Option.some Jvm.ClassFile.FieldType.int) [] ({ frames := 3, cells := 0, slots := 0, locals := 70 } : Room) 0 0 Qp 0 0 40 [(0, av_r 0)] [] T M) : ∀ (k u : Nat), u ≤ w.2.2.1 → w.2.2.1 < u + k → ∀ T M, bp_J w S L u T M → jd_J l D w zn_A zb_A_draftBest 4 (Option.some Jvm.ClassFile.FieldType.int) [] ({ frames := 3, cells := 0, slots := 0, locals := 70 } : Room) 0 0 Qp 0 0 9 [(0, av_r 0), (1, av_i (nI u))] [] T M := by
  have h12 := hN.1
  have h13 := hN.2.1
  intro k
  induction k with
  | zero => intro u h1 h2; omega
  | succ k ih =>
    intro u hu hk T M hJ
    have hT := hJ.1
    refine jd_iload_n zd_A_draftBest_9 rfl ?_
    refine jd_aload_n zd_A_draftBest_10 rfl ?_
    refine jd_get rfl rfl zl_A 6 (by decide) zi_148 rfl rfl rfl (by decide) zd_A_draftBest_11 ?_
    refine jd_icmp_ge 40 zd_A_draftBest_14 (by decide) (fun h_14 => ?_) (fun h_14 => ?_)
    · have e_u := nI_end (ok_N_sw hT hN).2.2.1 (by omega) hu h_14
      subst e_u
      exact jd_sub [(0, av_r 0)] ⟨rfl, trivial⟩ (hnext T M hJ)
    · have hu2 := nI_on (ok_N_sw hT hN).2.2.1 (by omega) hu h_14
      refine jd_aload_n zd_A_draftBest_17 rfl ?_
      refine jd_iload_n zd_A_draftBest_18 rfl ?_
      refine jd_callV (n := 1) (kc_isGroup hls h12 hu2) rfl rfl rfl rfl (by decide) zi_184 zi_186 zi_0 zi_41 zi_187 (by decide +kernel) rfl rfl rfl (by decide) (Nat.le_of_ble_eq_true rfl) (by decide) zd_A_draftBest_19 (fun _ _ _ h => h.elim) (fun v S2 L2 hq => ?_)
      obtain ⟨rfl, rfl, rfl⟩ := hq
      rw [fa_gr_sw hT]
      refine jd_if_eq 34 zd_A_draftBest_22 (by decide) (fun h_22 => ?_) (fun h_22 => ?_)
      · refine jd_iinc (v := nI (u + 1)) zd_A_draftBest_34 rfl (nI_inc u) (by decide) ?_
        refine jd_goto 9 zd_A_draftBest_37 (by decide) ?_
        exact jd_sub [(0, av_r 0), (1, av_i (nI (u + 1)))] ⟨rfl, rfl, trivial⟩ (ih (u + 1) (by omega) (by omega) _ _ (bp_J_no hJ (by cases hg : fa_gr S u <;> simp_all [bi_of])))
      · have hgr : fa_gr S u = true := by cases hg : fa_gr S u <;> simp_all [bi_of]
        have hlt := fa_cN_lt hu2 hgr
        refine jd_aload_n zd_A_draftBest_25 rfl ?_
        refine jd_aload_n zd_A_draftBest_26 rfl ?_
        refine jd_iload_n zd_A_draftBest_27 rfl ?_
        refine jd_callV (n := 1) (kc_gather hls (ok_N_sw hT hN) (ok_U_sw hT hU) (nI u)) rfl rfl rfl rfl (by decide) zi_192 zi_194 zi_2 zi_41 zi_195 (by decide +kernel) rfl rfl rfl (by decide) (Nat.le_of_ble_eq_true rfl) (by decide) zd_A_draftBest_28 (fun _ _ _ h => h.elim) (fun v S2 L2 hq => ?_)
        obtain ⟨rfl, rfl, rfl⟩ := hq
        rw [fa_ga_sw hT]
        have hT2 : sw_S S (va_up T 4 (fa_ga S (nI u) w.2.2.1)) := hT.up (by decide) (by decide) _
        refine jd_callV (n := 1) (kc_offerPlaces hls (ok_N_sw hT2 hN) hu2 (by rw [va_up_self]; exact fa_ga_0 _ _ _) (r := fa_cN S u) (by omega) (by rw [va_up_ne _ _ (by decide)]; exact hJ.2.2.1)) rfl rfl rfl rfl (by decide) zi_524 zi_526 zi_14 zi_41 zi_527 (by decide +kernel) rfl rfl rfl (by decide) (Nat.le_of_ble_eq_true rfl) (by decide) zd_A_draftBest_31 (fun _ _ _ h => h.elim) (fun v S2 L2 hq => ?_)
        obtain ⟨rfl, rfl, rfl⟩ := hq
        refine jd_iinc (v := nI (u + 1)) zd_A_draftBest_34 rfl (nI_inc u) (by decide) ?_
        refine jd_goto 9 zd_A_draftBest_37 (by decide) ?_
        exact jd_sub [(0, av_r 0), (1, av_i (nI (u + 1)))] ⟨rfl, rfl, trivial⟩ (ih (u + 1) (by omega) (by omega) _ _ (bp_J_next h13 hu2 hJ hgr (by omega) (fun p hp => hC _ p hlt hp) rfl rfl))
theorem sw_dv {P : Nat → Prop} {d : Nat → Int32} {n q : Nat} {T : Nat → Nat → Int32} (h : ∀ v, v < n → P v → T q v = d v) : ∀ v, v < n + 1 → P v → va_up T q (upd (T q) n (d n)) q v = d v := by
  intro v hv hp
  rw [va_up_self]
  by_cases hn : v = n
  · subst hn; simp [upd]
  · have := h v (by omega) hp; simp [upd, hn, this]
theorem pl_i_in {n : Nat} {cost : Nat → Nat → Int} {S : Nat → Nat → Int32} {nU nP : Nat} {f : Nat → Nat} (hm : pl_min n cost (fa_al S nU nP) f) {i : Nat} (hi : i < n) (h : ¬ pl_i (f i) = -1) : f i < nP ∧ pl_i (f i) = nI (f i) := by
  have h12 : f i ≠ 12 := fun e => h (by unfold pl_i; rw [if_pos e])
  exact ⟨((hm.1.1 i hi).2 h12).1, by unfold pl_i; rw [if_neg h12]⟩
set_option maxRecDepth 100000 in
set_option maxHeartbeats 4000000 in
theorem kl_draftBest2 {l : Launch} (hls : l.stackTraces = false) {D : va_G} {w : wd_T} {S : Nat → Nat → Int32} (hN : ok_N w S) (hU : ok_U w S) (h8 : fa_cN S w.2.2.1 ≤ 8) (hC : ∀ r p, r < fa_cN S w.2.2.1 → fa_al S w.2.2.1 w.2.2.2 r p → 0 ≤ fa_cost S w.2.2.1 r p ∧ fa_cost S w.2.2.1 r p ≤ 1000000) {f : Nat → Nat} {q9 : Nat → Int32} (hmin : pl_min (fa_cN S w.2.2.1) (fa_cost S w.2.2.1) (fa_al S w.2.2.1 w.2.2.2) f) (hpg : ∀ T : Nat → Nat → Int32, T 10 = q9 → ∀ i, i < fa_cN S w.2.2.1 → bp_pg T (nI (i + 1)) 12 1 = pl_i (f i)) {M : Nat → Nat → Int64} {Qp : jd_P} (hQ : ∀ T2, sw_S S T2 → (∀ v, v < w.2.2.1 → fa_gr S v = true → T2 6 v = (fun u => pl_i (f (fa_cN S u))) v) → Qp.1 (some (av_i (fa_sm S w.2.2.1 (fun u => pl_i (f (fa_cN S u))) w.2.2.1))) T2 M) : ∀ (k u : Nat), u ≤ w.2.2.1 → w.2.2.1 < u + k → ∀ T, sw_S S T → T 10 = q9 → (∀ v, v < u → fa_gr S v = true → T 6 v = (fun u => pl_i (f (fa_cN S u))) v) → jd_J l D w zn_A zb_A_draftBest 4 (Option.some Jvm.ClassFile.FieldType.int) [] ({ frames := 3, cells := 0, slots := 0, locals := 70 } : Room) 0 0 Qp 0 0 53 [(0, av_r 0), (1, av_i (fa_sm S w.2.2.1 (fun u => pl_i (f (fa_cN S u))) u)), (2, av_i (nI (fa_cN S u))), (3, av_i (nI u))] [] T M := by
  have h12 := hN.1
  have h13 := hN.2.1
  intro k
  induction k with
  | zero => intro u h1 h2; omega
  | succ k ih =>
    intro u hu hk T hT h10 hd
    refine jd_iload_n zd_A_draftBest_53 rfl ?_
    refine jd_aload_n zd_A_draftBest_54 rfl ?_
    refine jd_get rfl rfl zl_A 6 (by decide) zi_148 rfl rfl rfl (by decide) zd_A_draftBest_55 ?_
    refine jd_icmp_ge 120 zd_A_draftBest_58 (by decide) (fun h_58 => ?_) (fun h_58 => ?_)
    · have e_u := nI_end (ok_N_sw hT hN).2.2.1 (by omega) hu h_58
      subst e_u
      refine jd_iload_n zd_A_draftBest_120 rfl ?_
      exact jd_iret rfl (hQ T hT hd) (by decide) (by decide) zd_A_draftBest_121
    · have hu2 := nI_on (ok_N_sw hT hN).2.2.1 (by omega) hu h_58
      refine jd_aload_n zd_A_draftBest_61 rfl ?_
      refine jd_iload_n zd_A_draftBest_62 rfl ?_
      refine jd_callV (n := 1) (kc_isGroup hls h12 hu2) rfl rfl rfl rfl (by decide) zi_184 zi_186 zi_0 zi_41 zi_187 (by decide +kernel) rfl rfl rfl (by decide) (Nat.le_of_ble_eq_true rfl) (by decide) zd_A_draftBest_63 (fun _ _ _ h => h.elim) (fun v S2 L2 hq => ?_)
      obtain ⟨rfl, rfl, rfl⟩ := hq
      rw [fa_gr_sw hT]
      refine jd_if_eq 114 zd_A_draftBest_66 (by decide) (fun h_66 => ?_) (fun h_66 => ?_)
      · refine jd_iinc (v := nI (u + 1)) zd_A_draftBest_114 rfl (nI_inc u) (by decide) ?_
        refine jd_goto 53 zd_A_draftBest_117 (by decide) ?_
        have hgr : ¬ fa_gr S u = true := by cases hg : fa_gr S u <;> simp_all [bi_of]
        exact jd_sub [(0, av_r 0), (1, av_i (fa_sm S w.2.2.1 (fun u => pl_i (f (fa_cN S u))) (u + 1))), (2, av_i (nI (fa_cN S (u + 1)))), (3, av_i (nI (u + 1)))] ⟨rfl, by simp only [fa_sm]; rw [if_neg (fun z => hgr z.1)]; rfl, by simp only [fa_cN]; rw [if_neg hgr]; rfl, rfl, trivial⟩ (ih (u + 1) (by omega) (by omega) T hT h10 (fun v hv hg => hd v (Nat.lt_of_le_of_ne (Nat.le_of_lt_succ hv) (fun e => hgr (e ▸ hg))) hg))
      · have hgr : fa_gr S u = true := by cases hg : fa_gr S u <;> simp_all [bi_of]
        have hlt := fa_cN_lt hu2 hgr
        refine jd_iinc (v := nI (fa_cN S u + 1)) zd_A_draftBest_69 rfl (nI_inc _) (by decide) ?_
        refine jd_aload_n zd_A_draftBest_72 rfl ?_
        refine jd_get rfl rfl zl_A 5 (by decide) zi_147 rfl rfl rfl (by decide) zd_A_draftBest_73 ?_
        refine jd_iload_n zd_A_draftBest_76 rfl ?_
        refine jd_aload_n zd_A_draftBest_77 rfl ?_
        refine jd_get rfl rfl zl_A 4 (by decide) zi_146 rfl rfl rfl (by decide) zd_A_draftBest_78 ?_
        refine jd_iload_n zd_A_draftBest_81 rfl ?_
        refine jd_callV (n := 1) (kc_placeGiven hls (nI (fa_cN S u + 1))) rfl rfl rfl rfl (by decide) zi_561 zi_562 zi_563 zi_43 zi_564 (by decide +kernel) rfl rfl rfl (by decide) (Nat.le_of_ble_eq_true rfl) (by decide) zd_A_draftBest_82 (fun _ _ _ h => h.elim) (fun v S2 L2 hq => ?_)
        obtain ⟨rfl, rfl, rfl⟩ := hq
        rw [hpg T h10 _ hlt]
        refine jd_istN (r := 6) (c := u) (fun _ => rfl) rfl (by omega) (n := 12) (by decide) rfl (by decide) zd_A_draftBest_85 ?_
        have hT2 := hT.up (r := 6) (by decide) (by decide) (upd (T 6) u (pl_i (f (fa_cN S u))))
        have hd2 := sw_dv (T := T) (q := 6) (n := u) (d := (fun u => pl_i (f (fa_cN S u)))) hd
        refine jd_aload_n zd_A_draftBest_86 rfl ?_
        refine jd_get rfl rfl zl_A 5 (by decide) zi_147 rfl rfl rfl (by decide) zd_A_draftBest_87 ?_
        refine jd_iload_n zd_A_draftBest_90 rfl ?_
        refine jd_ildN (r := 6) (c := u) rfl rfl (by omega) (n := 12) (by decide) rfl (by decide) zd_A_draftBest_91 ?_
        rw [va_up_self, show upd (T 6) u (pl_i (f (fa_cN S u))) u = pl_i (f (fa_cN S u)) by simp only [upd, if_true]]
        refine jd_iconst (v := (-1)) zd_A_draftBest_92 (by decide) ?_
        refine jd_icmp_eq 114 zd_A_draftBest_93 (by decide) (fun h_93 => ?_) (fun h_93 => ?_)
        · refine jd_iinc (v := nI (u + 1)) zd_A_draftBest_114 rfl (nI_inc u) (by decide) ?_
          refine jd_goto 53 zd_A_draftBest_117 (by decide) ?_
          exact jd_sub [(0, av_r 0), (1, av_i (fa_sm S w.2.2.1 (fun u => pl_i (f (fa_cN S u))) (u + 1))), (2, av_i (nI (fa_cN S (u + 1)))), (3, av_i (nI (u + 1)))] ⟨rfl, by simp only [fa_sm]; rw [if_neg (fun z => z.2 h_93)]; rfl, by simp only [fa_cN]; rw [if_pos hgr]; rfl, rfl, trivial⟩ (ih (u + 1) (by omega) (by omega) _ hT2 (by rw [va_up_ne _ _ (show (10 : Nat) ≠ 6 by decide)]; exact h10) hd2)
        · obtain ⟨hp, epl⟩ := pl_i_in hmin hlt h_93
          refine jd_iload_n zd_A_draftBest_96 rfl ?_
          refine jd_aload_n zd_A_draftBest_97 rfl ?_
          refine jd_aload_n zd_A_draftBest_98 rfl ?_
          refine jd_iload_n zd_A_draftBest_99 rfl ?_
          refine jd_callV (n := 1) (kc_gather hls (ok_N_sw hT2 hN) (ok_U_sw hT2 hU) (nI u)) rfl rfl rfl rfl (by decide) zi_192 zi_194 zi_2 zi_41 zi_195 (by decide +kernel) rfl rfl rfl (by decide) (Nat.le_of_ble_eq_true rfl) (by decide) zd_A_draftBest_100 (fun _ _ _ h => h.elim) (fun v S2 L2 hq => ?_)
          obtain ⟨rfl, rfl, rfl⟩ := hq
          rw [fa_ga_sw hT2]
          have hT3 := hT2.up (r := 4) (by decide) (by decide) (fa_ga S (nI u) w.2.2.1)
          refine jd_aload_n zd_A_draftBest_103 rfl ?_
          refine jd_get rfl rfl zl_A 5 (by decide) zi_147 rfl rfl rfl (by decide) zd_A_draftBest_104 ?_
          refine jd_iload_n zd_A_draftBest_107 rfl ?_
          refine jd_ildN (r := 6) (c := u) rfl rfl (by omega) (n := 12) (by decide) rfl (by decide) zd_A_draftBest_108 ?_
          rw [va_up_ne _ _ (show (6 : Nat) ≠ 4 by decide), va_up_self, show upd (T 6) u (pl_i (f (fa_cN S u))) u = pl_i (f (fa_cN S u)) by simp only [upd, if_true]]
          refine jd_callV (n := 2) (kc_costAt hls h12 h13 hu2 (by rw [va_up_self]; exact fa_ga_0 _ _ _) hp epl) rfl rfl rfl rfl (by decide) zi_215 zi_217 zi_5 zi_41 zi_218 (by decide +kernel) rfl rfl rfl (by decide) (Nat.le_of_ble_eq_true rfl) (by decide) zd_A_draftBest_109 (fun _ _ _ h => h.elim) (fun v S2 L2 hq => ?_)
          obtain ⟨rfl, rfl, rfl⟩ := hq
          rw [va_up_self, fa_co_sw hT3]
          refine jd_iadd zd_A_draftBest_112 ?_
          refine jd_istore_n zd_A_draftBest_113 (by decide) ?_
          refine jd_iinc (v := nI (u + 1)) zd_A_draftBest_114 rfl (nI_inc u) (by decide) ?_
          refine jd_goto 53 zd_A_draftBest_117 (by decide) ?_
          exact jd_sub [(0, av_r 0), (1, av_i (fa_sm S w.2.2.1 (fun u => pl_i (f (fa_cN S u))) (u + 1))), (2, av_i (nI (fa_cN S (u + 1)))), (3, av_i (nI (u + 1)))] ⟨rfl, by simp only [fa_sm]; rw [if_pos ⟨hgr, h_93⟩, epl, nI_clamp (show f (fa_cN S u) < 2 ^ 31 by omega)]; rfl, by simp only [fa_cN]; rw [if_pos hgr]; rfl, rfl, trivial⟩ (ih (u + 1) (by omega) (by omega) _ hT3 (by rw [va_up_ne _ _ (show (10 : Nat) ≠ 4 by decide), va_up_ne _ _ (show (10 : Nat) ≠ 6 by decide)]; exact h10) (by intro v hv hg; rw [va_up_ne _ _ (show (6 : Nat) ≠ 4 by decide)]; exact hd2 v hv hg))
set_option maxRecDepth 100000 in
set_option maxHeartbeats 4000000 in
theorem kc_draftBest {l : Launch} (hls : l.stackTraces = false) {D : va_G} {w : wd_T} {S : Nat → Nat → Int32} {L : Nat → Nat → Int64} (hN : ok_N w S) (hU : ok_U w S) (h8 : fa_cN S w.2.2.1 ≤ 8) (hC : ∀ r p, r < fa_cN S w.2.2.1 → fa_al S w.2.2.1 w.2.2.2 r p → 0 ≤ fa_cost S w.2.2.1 r p ∧ fa_cost S w.2.2.1 r p ≤ 1000000) : ct_M l D w zy_A_draftBest (Cond.code zy_A_draftBest zb_A_draftBest 4 (Option.some Jvm.ClassFile.FieldType.int)) ({ frames := 3, cells := 0, slots := 0, locals := 70 } : Room) [av_r 0] S L (po_bp w S L) 0 0 := by
  refine ct_intro hls (own := zn_A) (by decide) rfl (Nat.le_of_ble_eq_true rfl) ?_
  refine jd_aload_n zd_A_draftBest_0 rfl ?_
  refine jd_get rfl rfl zl_A 4 (by decide) zi_146 rfl rfl rfl (by decide) zd_A_draftBest_1 ?_
  refine jd_callV (n := 0) (kc_Bclear hls) rfl rfl rfl rfl (by decide) zi_519 zi_520 zi_521 zi_43 zi_522 (by decide +kernel) rfl rfl rfl (by decide) (Nat.le_of_ble_eq_true rfl) (by decide) zd_A_draftBest_4 (fun _ _ _ h => h.elim) (fun v S2 L2 hq => ?_)
  obtain ⟨rfl, hcl⟩ := hq
  refine jd_iconst (v := 0) zd_A_draftBest_7 (by decide) ?_
  refine jd_istore_n zd_A_draftBest_8 (by decide) ?_
  refine jd_sub [(0, av_r 0), (1, av_i (nI 0))] ⟨rfl, rfl, trivial⟩ (kl_draftBest1 (S := S) (L := L) hls hN hU h8 hC (fun T M hJ => ?_) (w.2.2.1 + 1) 0 (by omega) (by omega) _ _ (bp_J0 hcl))
  obtain ⟨hR, hG⟩ := bp_J_end hJ h8
  refine jd_aload_n zd_A_draftBest_40 rfl ?_
  refine jd_get rfl rfl zl_A 4 (by decide) zi_146 rfl rfl rfl (by decide) zd_A_draftBest_41 ?_
  refine jd_callV (n := 0) (kc_solve hls (n := fa_cN S w.2.2.1) h8 hJ.2.2.1 (pl_tab_in h8 hC) hR hG) rfl rfl rfl rfl (by decide) zi_540 zi_541 zi_542 zi_43 zi_543 (by decide +kernel) rfl rfl rfl (by decide) (Nat.le_of_ble_eq_true rfl) (by decide) zd_A_draftBest_44 (fun _ _ _ h => h.elim) (fun v9 T2 M2 hq => ?_)
  obtain ⟨rfl, g1, g2, u2, v2, q2, hR2, hG2⟩ := hq
  obtain ⟨f, hmin, hf1, hf2⟩ := bp_plan h8 hG2
  refine jd_iconst (v := 0) zd_A_draftBest_47 (by decide) ?_
  refine jd_istore_n zd_A_draftBest_48 (by decide) ?_
  refine jd_iconst (v := 0) zd_A_draftBest_49 (by decide) ?_
  refine jd_istore_n zd_A_draftBest_50 (by decide) ?_
  refine jd_iconst (v := 0) zd_A_draftBest_51 (by decide) ?_
  refine jd_istore_n zd_A_draftBest_52 (by decide) ?_
  exact jd_sub [(0, av_r 0), (1, av_i (fa_sm S w.2.2.1 (fun u => pl_i (f (fa_cN S u))) 0)), (2, av_i (nI (fa_cN S 0))), (3, av_i (nI 0))] ⟨rfl, rfl, rfl, rfl, trivial⟩ (kl_draftBest2 (S := S) (f := f) (q9 := T2 10) (Qp := po_bp w S L) hls hN hU h8 hC hmin (fun T3 e3 i hi => bp_given h8 hG2 (fun c hc => by rw [e3]; exact hR2.2.2.2 c hc) hf1 hf2 hi) (fun T3 h3 hd => ⟨f, hmin, rfl, hd, h3, bp_fL.sw hJ.2.1 g2⟩) (w.2.2.1 + 1) 0 (by omega) (by omega) T2 (bp_fS.sw hJ.1 g1) rfl (fun v hv => by omega))
