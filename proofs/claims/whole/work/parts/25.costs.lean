/-! THE CLASS: groups gathered, rules, costs, plans one by one (rows by wip/whole/gen/a4.py) -/
set_option maxRecDepth 100000 in
set_option maxHeartbeats 4000000 in
theorem kl_gather {l : Launch} (hls : l.stackTraces = false) {D : va_G} {w : wd_T} {S : Nat → Nat → Int32} {L : Nat → Nat → Int64} (hN : ok_N w S) (hU : ok_U w S) (g : Int32) {Qp : jd_P} (hQ : Qp.1 (some (av_r 4)) (va_up S 4 (fa_ga S g w.2.2.1)) L) : ∀ (k u : Nat), u ≤ w.2.2.1 → w.2.2.1 < u + k → jd_J l D w zn_A zb_A_gather 3 (Option.some (Jvm.ClassFile.FieldType.object "PutAwayAssign$Group")) [] ({ frames := 2, cells := 0, slots := 0, locals := 43 } : Room) 0 0 Qp 0 0 10 [(0, av_r 0), (1, av_i g), (2, av_i (nI u))] [] (va_up S 4 (fa_ga S g u)) L := by
  have h12 := hN.1
  intro k
  induction k with
  | zero => intro u h1 h2; omega
  | succ k ih =>
    intro u hu hk
    refine jd_iload_n zd_A_gather_10 rfl ?_
    refine jd_aload_n zd_A_gather_11 rfl ?_
    refine jd_get rfl rfl zl_A 6 (by decide) zi_148 rfl rfl rfl (by decide) zd_A_gather_12 ?_
    refine jd_icmp_ge 60 zd_A_gather_15 (by decide) (fun h_15 => ?_) (fun h_15 => ?_)
    · have e_u := nI_end (ok_N_4 hN).2.2.1 (by omega) hu h_15
      subst e_u
      refine jd_aload_n zd_A_gather_60 rfl ?_
      refine jd_get rfl rfl zl_A 3 (by decide) zi_145 rfl rfl rfl (by decide) zd_A_gather_61 ?_
      exact jd_aret rfl hQ (by decide) (by decide) zd_A_gather_64
    · have hu2 := nI_on (ok_N_4 hN).2.2.1 (by omega) hu h_15
      obtain ⟨kd, hkd, ekd⟩ := (hU u hu2).1
      refine jd_aload_n zd_A_gather_18 rfl ?_
      refine jd_iload_n zd_A_gather_19 rfl ?_
      refine jd_iload_n zd_A_gather_20 rfl ?_
      refine jd_callV (n := 2) (kc_isIn hls h12 hu2 g) rfl rfl rfl rfl (by decide) zi_188 zi_190 zi_1 zi_41 zi_191 (by decide +kernel) rfl rfl rfl (by decide) (Nat.le_of_ble_eq_true rfl) (by decide) zd_A_gather_21 (fun _ _ _ h => h.elim) (fun v S2 L2 hq => ?_)
      obtain ⟨rfl, rfl, rfl⟩ := hq
      rw [fa_in_4]
      refine jd_if_eq 54 zd_A_gather_24 (by decide) (fun h_24 => ?_) (fun h_24 => ?_)
      · refine jd_iinc (v := nI (u + 1)) zd_A_gather_54 rfl (nI_inc u) (by decide) ?_
        refine jd_goto 10 zd_A_gather_57 (by decide) ?_
        refine jd_eqS (S' := va_up S 4 (fa_ga S g (u + 1))) (by cases hg : fa_in S u g <;> simp_all [fa_ga, bi_of]) ?_
        exact jd_sub [(0, av_r 0), (1, av_i g), (2, av_i (nI (u + 1)))] ⟨rfl, rfl, rfl, trivial⟩ (ih (u + 1) (by omega) (by omega))
      · refine jd_aload_n zd_A_gather_27 rfl ?_
        refine jd_get rfl rfl zl_A 3 (by decide) zi_145 rfl rfl rfl (by decide) zd_A_gather_28 ?_
        refine jd_aload_n zd_A_gather_31 rfl ?_
        refine jd_get rfl rfl zl_A 0 (by decide) zi_142 rfl rfl rfl (by decide) zd_A_gather_32 ?_
        refine jd_iload_n zd_A_gather_35 rfl ?_
        refine jd_unit rfl hu2 h12 zd_A_gather_36 ?_
        refine jd_aload_n zd_A_gather_37 rfl ?_
        refine jd_get rfl rfl zl_A 2 (by decide) zi_144 rfl rfl rfl (by decide) zd_A_gather_38 ?_
        refine jd_aload_n zd_A_gather_41 rfl ?_
        refine jd_get rfl rfl zl_A 0 (by decide) zi_142 rfl rfl rfl (by decide) zd_A_gather_42 ?_
        refine jd_iload_n zd_A_gather_45 rfl ?_
        refine jd_unit rfl hu2 h12 zd_A_gather_46 ?_
        refine jd_get (ac_U (by omega)) rfl zl_U 0 (by decide) zi_336 rfl rfl (rl_U (by omega)) (by omega) zd_A_gather_47 ?_
        rw [up_4u]
        refine jd_iald (r := 3) rfl (by rw [ekd]; exact vp_in_nI hkd (by decide)) rfl (by decide) zd_A_gather_50 ?_
        rw [up_43]
        refine jd_callV (n := 2) (kc_take hls h12 hu2 (S 3 (S (100 + u) 0).toNatClampNeg)) rfl rfl rfl rfl (by decide) zi_200 zi_201 zi_202 zi_42 zi_203 (by decide +kernel) rfl rfl rfl (by decide) (Nat.le_of_ble_eq_true rfl) (by decide) zd_A_gather_51 (fun _ _ _ h => h.elim) (fun v S2 L2 hq => ?_)
        obtain ⟨rfl, rfl, rfl⟩ := hq
        simp only [up_44, up_4u, bx_uu]
        refine jd_iinc (v := nI (u + 1)) zd_A_gather_54 rfl (nI_inc u) (by decide) ?_
        refine jd_goto 10 zd_A_gather_57 (by decide) ?_
        refine jd_eqS (S' := va_up S 4 (fa_ga S g (u + 1))) (by cases hg : fa_in S u g <;> simp_all [fa_ga, bi_of]) ?_
        exact jd_sub [(0, av_r 0), (1, av_i g), (2, av_i (nI (u + 1)))] ⟨rfl, rfl, rfl, trivial⟩ (ih (u + 1) (by omega) (by omega))
set_option maxRecDepth 100000 in
set_option maxHeartbeats 4000000 in
theorem kc_gather {l : Launch} (hls : l.stackTraces = false) {D : va_G} {w : wd_T} {S : Nat → Nat → Int32} {L : Nat → Nat → Int64} (hN : ok_N w S) (hU : ok_U w S) (g : Int32) : ct_M l D w zy_A_gather (Cond.code zy_A_gather zb_A_gather 3 (Option.some (Jvm.ClassFile.FieldType.object "PutAwayAssign$Group"))) ({ frames := 2, cells := 0, slots := 0, locals := 43 } : Room) [av_r 0, av_i g] S L (po_rS 4 (va_up S 4 (fa_ga S g w.2.2.1)) L) 0 0 := by
  refine ct_intro hls (own := zn_A) (by decide) rfl (Nat.le_of_ble_eq_true rfl) ?_
  refine jd_aload_n zd_A_gather_0 rfl ?_
  refine jd_get rfl rfl zl_A 3 (by decide) zi_145 rfl rfl rfl (by decide) zd_A_gather_1 ?_
  refine jd_iload_n zd_A_gather_4 rfl ?_
  refine jd_callV (n := 1) (kc_clear hls g) rfl rfl rfl rfl (by decide) zi_196 zi_197 zi_198 zi_42 zi_199 (by decide +kernel) rfl rfl rfl (by decide) (Nat.le_of_ble_eq_true rfl) (by decide) zd_A_gather_5 (fun _ _ _ h => h.elim) (fun v S2 L2 hq => ?_)
  obtain ⟨rfl, rfl, rfl⟩ := hq
  refine jd_iconst (v := 0) zd_A_gather_8 (by decide) ?_
  refine jd_istore_n zd_A_gather_9 (by decide) ?_
  exact jd_sub [(0, av_r 0), (1, av_i g), (2, av_i (nI 0))] ⟨rfl, rfl, rfl, trivial⟩ (kl_gather (S := S) (Qp := po_rS 4 (va_up S 4 (fa_ga S g w.2.2.1)) L) hls hN hU g ⟨rfl, rfl, rfl⟩ (w.2.2.1 + 1) 0 (by omega) (by omega))
set_option maxRecDepth 100000 in
set_option maxHeartbeats 4000000 in
theorem kc_broken {l : Launch} (hls : l.stackTraces = false) {D : va_G} {w : wd_T} {S : Nat → Nat → Int32} {L : Nat → Nat → Int64} (h13 : w.2.2.2 ≤ 12) {p : Nat} (hp : p < w.2.2.2) {i : Int32} (hi : i = nI p) : ct_M l D w zy_A_brokenRule (Cond.code zy_A_brokenRule zb_A_brokenRule 4 (Option.some Jvm.ClassFile.FieldType.int)) ({ frames := 0, cells := 0, slots := 0, locals := 0 } : Room) [av_r 0, av_r 4, av_i i] S L (po_i (fa_br (S 4) (S (300 + p)) i) S L) 0 0 := by
  subst hi
  refine ct_intro hls (own := zn_A) (by decide) rfl (Nat.le_of_ble_eq_true rfl) ?_
  refine jd_aload_n zd_A_brokenRule_0 rfl ?_
  refine jd_get rfl rfl zl_A 1 (by decide) zi_143 rfl rfl rfl (by decide) zd_A_brokenRule_1 ?_
  refine jd_iload_n zd_A_brokenRule_4 rfl ?_
  refine jd_plc rfl hp h13 zd_A_brokenRule_5 ?_
  refine jd_astore_n zd_A_brokenRule_6 (by decide) ?_
  refine jd_aload_n zd_A_brokenRule_7 rfl ?_
  refine jd_get (ac_P (by omega)) rfl zl_P 4 (by decide) zi_392 rfl rfl (rl_P (by omega)) (by omega) zd_A_brokenRule_8 ?_
  refine jd_if_eq 16 zd_A_brokenRule_11 (by decide) (fun h_11 => ?_) (fun h_11 => ?_)
  · refine jd_aload_n zd_A_brokenRule_16 rfl ?_
    refine jd_get rfl rfl zl_G 4 (by decide) zi_83 rfl rfl rfl (by decide) zd_A_brokenRule_17 ?_
    refine jd_aload_n zd_A_brokenRule_20 rfl ?_
    refine jd_get (ac_P (by omega)) rfl zl_P 0 (by decide) zi_385 rfl rfl (rl_P (by omega)) (by omega) zd_A_brokenRule_21 ?_
    refine jd_iconst (v := (-1)) zd_A_brokenRule_24 (by decide) ?_
    refine jd_ixor zd_A_brokenRule_25 ?_
    refine jd_iand zd_A_brokenRule_26 ?_
    refine jd_if_eq 32 zd_A_brokenRule_27 (by decide) (fun h_27 => ?_) (fun h_27 => ?_)
    · refine jd_aload_n zd_A_brokenRule_32 rfl ?_
      refine jd_get rfl rfl zl_G 5 (by decide) zi_85 rfl rfl rfl (by decide) zd_A_brokenRule_33 ?_
      refine jd_iload_n zd_A_brokenRule_36 rfl ?_
      refine jd_ishr zd_A_brokenRule_37 ?_
      refine jd_iconst (v := 1) zd_A_brokenRule_38 (by decide) ?_
      refine jd_iand zd_A_brokenRule_39 ?_
      refine jd_if_eq 45 zd_A_brokenRule_40 (by decide) (fun h_40 => ?_) (fun h_40 => ?_)
      · refine jd_aload_n zd_A_brokenRule_45 rfl ?_
        refine jd_get rfl rfl zl_G 2 (by decide) zi_79 rfl rfl rfl (by decide) zd_A_brokenRule_46 ?_
        refine jd_aload_n zd_A_brokenRule_49 rfl ?_
        refine jd_get (ac_P (by omega)) rfl zl_P 3 (by decide) zi_391 rfl rfl (rl_P (by omega)) (by omega) zd_A_brokenRule_50 ?_
        refine jd_icmp_le 58 zd_A_brokenRule_53 (by decide) (fun h_53 => ?_) (fun h_53 => ?_)
        · refine jd_aload_n zd_A_brokenRule_58 rfl ?_
          refine jd_get rfl rfl zl_G 6 (by decide) zi_87 rfl rfl rfl (by decide) zd_A_brokenRule_59 ?_
          refine jd_iconst (v := (-1)) zd_A_brokenRule_62 (by decide) ?_
          refine jd_icmp_eq 76 zd_A_brokenRule_63 (by decide) (fun h_63 => ?_) (fun h_63 => ?_)
          · refine jd_iconst (v := 0) zd_A_brokenRule_76 (by decide) ?_
            exact jd_iret rfl ⟨by simp_all [fa_br], rfl, rfl⟩ (by decide) (by decide) zd_A_brokenRule_77
          · refine jd_aload_n zd_A_brokenRule_66 rfl ?_
            refine jd_get rfl rfl zl_G 6 (by decide) zi_87 rfl rfl rfl (by decide) zd_A_brokenRule_67 ?_
            refine jd_iload_n zd_A_brokenRule_70 rfl ?_
            refine jd_icmp_eq 76 zd_A_brokenRule_71 (by decide) (fun h_71 => ?_) (fun h_71 => ?_)
            · refine jd_iconst (v := 0) zd_A_brokenRule_76 (by decide) ?_
              exact jd_iret rfl ⟨by simp_all [fa_br], rfl, rfl⟩ (by decide) (by decide) zd_A_brokenRule_77
            · refine jd_iconst (v := 5) zd_A_brokenRule_74 (by decide) ?_
              exact jd_iret rfl ⟨by simp_all [fa_br], rfl, rfl⟩ (by decide) (by decide) zd_A_brokenRule_75
        · refine jd_iconst (v := 4) zd_A_brokenRule_56 (by decide) ?_
          exact jd_iret rfl ⟨by simp_all [fa_br], rfl, rfl⟩ (by decide) (by decide) zd_A_brokenRule_57
      · refine jd_iconst (v := 3) zd_A_brokenRule_43 (by decide) ?_
        exact jd_iret rfl ⟨by simp_all [fa_br], rfl, rfl⟩ (by decide) (by decide) zd_A_brokenRule_44
    · refine jd_iconst (v := 2) zd_A_brokenRule_30 (by decide) ?_
      exact jd_iret rfl ⟨by simp_all [fa_br], rfl, rfl⟩ (by decide) (by decide) zd_A_brokenRule_31
  · refine jd_iconst (v := 1) zd_A_brokenRule_14 (by decide) ?_
    exact jd_iret rfl ⟨by simp_all [fa_br], rfl, rfl⟩ (by decide) (by decide) zd_A_brokenRule_15
set_option maxRecDepth 100000 in
set_option maxHeartbeats 4000000 in
theorem kc_costAt {l : Launch} (hls : l.stackTraces = false) {D : va_G} {w : wd_T} {S : Nat → Nat → Int32} {L : Nat → Nat → Int64} (h12 : w.2.2.1 ≤ 12) (h13 : w.2.2.2 ≤ 12) {gn : Nat} (hgn : gn < w.2.2.1) (hg : S 4 0 = nI gn) {p : Nat} (hp : p < w.2.2.2) {i : Int32} (hi : i = nI p) : ct_M l D w zy_A_costAt (Cond.code zy_A_costAt zb_A_costAt 4 (Option.some Jvm.ClassFile.FieldType.int)) ({ frames := 0, cells := 0, slots := 0, locals := 0 } : Room) [av_r 0, av_r 4, av_i i] S L (po_i (fa_co S (S 4) gn p) S L) 0 0 := by
  subst hi
  refine ct_intro hls (own := zn_A) (by decide) rfl (Nat.le_of_ble_eq_true rfl) ?_
  refine jd_aload_n zd_A_costAt_0 rfl ?_
  refine jd_get rfl rfl zl_A 0 (by decide) zi_142 rfl rfl rfl (by decide) zd_A_costAt_1 ?_
  refine jd_aload_n zd_A_costAt_4 rfl ?_
  refine jd_get rfl rfl zl_G 0 (by decide) zi_75 rfl rfl rfl (by decide) zd_A_costAt_5 ?_
  refine jd_unit hg hgn h12 zd_A_costAt_8 ?_
  refine jd_get (ac_U (by omega)) rfl zl_U 7 (by decide) zi_351 rfl rfl (rl_U (by omega)) (by omega) zd_A_costAt_9 ?_
  refine jd_iload_n zd_A_costAt_12 rfl ?_
  refine jd_iald (ac_C (by omega)) (vp_in_nI (show p < 12 by omega) (by decide)) (rl_C hgn) (by omega) zd_A_costAt_13 ?_
  rw [nI_clamp (show p < 2 ^ 31 by omega)]
  refine jd_istore_n zd_A_costAt_14 (by decide) ?_
  refine jd_iload_n zd_A_costAt_15 rfl ?_
  refine jd_iconst (v := (-1)) zd_A_costAt_16 (by decide) ?_
  refine jd_icmp_eq 22 zd_A_costAt_17 (by decide) (fun h_17 => ?_) (fun h_17 => ?_)
  · refine jd_aload_n zd_A_costAt_22 rfl ?_
    refine jd_get rfl rfl zl_A 1 (by decide) zi_143 rfl rfl rfl (by decide) zd_A_costAt_23 ?_
    refine jd_iload_n zd_A_costAt_26 rfl ?_
    refine jd_plc rfl hp h13 zd_A_costAt_27 ?_
    refine jd_get (ac_P (by omega)) rfl zl_P 2 (by decide) zi_389 rfl rfl (rl_P (by omega)) (by omega) zd_A_costAt_28 ?_
    refine jd_aload_n zd_A_costAt_31 rfl ?_
    refine jd_get rfl rfl zl_G 3 (by decide) zi_81 rfl rfl rfl (by decide) zd_A_costAt_32 ?_
    refine jd_imul zd_A_costAt_35 ?_
    refine jd_aload_n zd_A_costAt_36 rfl ?_
    refine jd_get rfl rfl zl_A 1 (by decide) zi_143 rfl rfl rfl (by decide) zd_A_costAt_37 ?_
    refine jd_iload_n zd_A_costAt_40 rfl ?_
    refine jd_plc rfl hp h13 zd_A_costAt_41 ?_
    refine jd_get (ac_P (by omega)) rfl zl_P 3 (by decide) zi_391 rfl rfl (rl_P (by omega)) (by omega) zd_A_costAt_42 ?_
    refine jd_iadd zd_A_costAt_45 ?_
    refine jd_aload_n zd_A_costAt_46 rfl ?_
    refine jd_get rfl rfl zl_G 2 (by decide) zi_79 rfl rfl rfl (by decide) zd_A_costAt_47 ?_
    refine jd_isub zd_A_costAt_50 ?_
    exact jd_iret rfl ⟨by simp_all [fa_co], rfl, rfl⟩ (by decide) (by decide) zd_A_costAt_51
  · refine jd_iload_n zd_A_costAt_20 rfl ?_
    exact jd_iret rfl ⟨by simp_all [fa_co], rfl, rfl⟩ (by decide) (by decide) zd_A_costAt_21
set_option maxRecDepth 100000 in
set_option maxHeartbeats 4000000 in
theorem kl_cheapest {l : Launch} (hls : l.stackTraces = false) {D : va_G} {w : wd_T} {S : Nat → Nat → Int32} {L : Nat → Nat → Int64} (hN : ok_N w S) {gn : Nat} (hgn : gn < w.2.2.1) (hg : S 4 0 = nI gn) (t : Int32) {Qp : jd_P} (hQ : Qp.1 (some (av_i (fa_ch S (S 4) gn t w.2.2.2).1)) S L) : ∀ (k u : Nat), u ≤ w.2.2.2 → w.2.2.2 < u + k → jd_J l D w zn_A zb_A_cheapestPlace 7 (Option.some Jvm.ClassFile.FieldType.int) [] ({ frames := 1, cells := 0, slots := 0, locals := 23 } : Room) 0 0 Qp 0 0 8 [(0, av_r 0), (1, av_r 4), (2, av_i t), (3, av_i (fa_ch S (S 4) gn t u).1), (4, av_i (fa_ch S (S 4) gn t u).2), (5, av_i (nI u))] [] S L := by
  have h12 := hN.1
  have h13 := hN.2.1
  intro k
  induction k with
  | zero => intro u h1 h2; omega
  | succ k ih =>
    intro u hu hk
    refine jd_iload zd_A_cheapestPlace_8 rfl ?_
    refine jd_aload_n zd_A_cheapestPlace_10 rfl ?_
    refine jd_get rfl rfl zl_A 7 (by decide) zi_149 rfl rfl rfl (by decide) zd_A_cheapestPlace_11 ?_
    refine jd_icmp_ge 70 zd_A_cheapestPlace_14 (by decide) (fun h_14 => ?_) (fun h_14 => ?_)
    · have e_u := nI_end hN.2.2.2 (by omega) hu h_14
      subst e_u
      refine jd_iload_n zd_A_cheapestPlace_70 rfl ?_
      exact jd_iret rfl hQ (by decide) (by decide) zd_A_cheapestPlace_71
    · have hu2 := nI_on hN.2.2.2 (by omega) hu h_14
      refine jd_iload_n zd_A_cheapestPlace_17 rfl ?_
      refine jd_iload zd_A_cheapestPlace_18 rfl ?_
      refine jd_ishr zd_A_cheapestPlace_20 ?_
      refine jd_iconst (v := 1) zd_A_cheapestPlace_21 (by decide) ?_
      refine jd_iand zd_A_cheapestPlace_22 ?_
      refine jd_if_ne 64 zd_A_cheapestPlace_23 (by decide) (fun h_23 => ?_) (fun h_23 => ?_)
      · refine jd_iinc (v := nI (u + 1)) zd_A_cheapestPlace_64 rfl (nI_inc u) (by decide) ?_
        refine jd_goto 8 zd_A_cheapestPlace_67 (by decide) ?_
        have e_c : fa_ch S (S 4) gn t (u + 1) = fa_ch S (S 4) gn t u := by first | simp_all [fa_ch]; done | (simp only [fa_ch]; rw [if_neg (by rintro ⟨q1, q2, q | q⟩; exact h_47 q; exact absurd q (Int32.not_lt.mpr h_54))])
        exact jd_sub [(0, av_r 0), (1, av_r 4), (2, av_i t), (3, av_i (fa_ch S (S 4) gn t (u + 1)).1), (4, av_i (fa_ch S (S 4) gn t (u + 1)).2), (5, av_i (nI (u + 1)))] ⟨rfl, rfl, rfl, by rw [e_c]; rfl, by rw [e_c]; rfl, rfl, trivial⟩ (ih (u + 1) (by omega) (by omega))
      · refine jd_aload_n zd_A_cheapestPlace_26 rfl ?_
        refine jd_aload_n zd_A_cheapestPlace_27 rfl ?_
        refine jd_iload zd_A_cheapestPlace_28 rfl ?_
        refine jd_callV (n := 2) (kc_broken hls h13 hu2 rfl) rfl rfl rfl rfl (by decide) zi_211 zi_213 zi_4 zi_41 zi_214 (by decide +kernel) rfl rfl rfl (by decide) (Nat.le_of_ble_eq_true rfl) (by decide) zd_A_cheapestPlace_30 (fun _ _ _ h => h.elim) (fun v S2 L2 hq => ?_)
        obtain ⟨rfl, rfl, rfl⟩ := hq
        refine jd_if_ne 64 zd_A_cheapestPlace_33 (by decide) (fun h_33 => ?_) (fun h_33 => ?_)
        · refine jd_iinc (v := nI (u + 1)) zd_A_cheapestPlace_64 rfl (nI_inc u) (by decide) ?_
          refine jd_goto 8 zd_A_cheapestPlace_67 (by decide) ?_
          have e_c : fa_ch S (S 4) gn t (u + 1) = fa_ch S (S 4) gn t u := by first | simp_all [fa_ch]; done | (simp only [fa_ch]; rw [if_neg (by rintro ⟨q1, q2, q | q⟩; exact h_47 q; exact absurd q (Int32.not_lt.mpr h_54))])
          exact jd_sub [(0, av_r 0), (1, av_r 4), (2, av_i t), (3, av_i (fa_ch S (S 4) gn t (u + 1)).1), (4, av_i (fa_ch S (S 4) gn t (u + 1)).2), (5, av_i (nI (u + 1)))] ⟨rfl, rfl, rfl, by rw [e_c]; rfl, by rw [e_c]; rfl, rfl, trivial⟩ (ih (u + 1) (by omega) (by omega))
        · refine jd_aload_n zd_A_cheapestPlace_36 rfl ?_
          refine jd_aload_n zd_A_cheapestPlace_37 rfl ?_
          refine jd_iload zd_A_cheapestPlace_38 rfl ?_
          refine jd_callV (n := 2) (kc_costAt hls h12 h13 hgn hg hu2 rfl) rfl rfl rfl rfl (by decide) zi_215 zi_217 zi_5 zi_41 zi_218 (by decide +kernel) rfl rfl rfl (by decide) (Nat.le_of_ble_eq_true rfl) (by decide) zd_A_cheapestPlace_40 (fun _ _ _ h => h.elim) (fun v S2 L2 hq => ?_)
          obtain ⟨rfl, rfl, rfl⟩ := hq
          refine jd_istore zd_A_cheapestPlace_43 (by decide) ?_
          refine jd_iload_n zd_A_cheapestPlace_45 rfl ?_
          refine jd_iconst (v := (-1)) zd_A_cheapestPlace_46 (by decide) ?_
          refine jd_icmp_eq 57 zd_A_cheapestPlace_47 (by decide) (fun h_47 => ?_) (fun h_47 => ?_)
          · refine jd_iload zd_A_cheapestPlace_57 rfl ?_
            refine jd_istore_n zd_A_cheapestPlace_59 (by decide) ?_
            refine jd_iload zd_A_cheapestPlace_60 rfl ?_
            refine jd_istore zd_A_cheapestPlace_62 (by decide) ?_
            refine jd_iinc (v := nI (u + 1)) zd_A_cheapestPlace_64 rfl (nI_inc u) (by decide) ?_
            refine jd_goto 8 zd_A_cheapestPlace_67 (by decide) ?_
            have e_c : fa_ch S (S 4) gn t (u + 1) = (nI u, fa_co S (S 4) gn u) := by first | simp_all [fa_ch]; done | (simp only [fa_ch]; rw [if_neg (by rintro ⟨q1, q2, q | q⟩; exact h_47 q; exact absurd q (Int32.not_lt.mpr h_54))])
            exact jd_sub [(0, av_r 0), (1, av_r 4), (2, av_i t), (3, av_i (fa_ch S (S 4) gn t (u + 1)).1), (4, av_i (fa_ch S (S 4) gn t (u + 1)).2), (5, av_i (nI (u + 1)))] ⟨rfl, rfl, rfl, by rw [e_c]; rfl, by rw [e_c]; rfl, rfl, trivial⟩ (ih (u + 1) (by omega) (by omega))
          · refine jd_iload zd_A_cheapestPlace_50 rfl ?_
            refine jd_iload zd_A_cheapestPlace_52 rfl ?_
            refine jd_icmp_ge 64 zd_A_cheapestPlace_54 (by decide) (fun h_54 => ?_) (fun h_54 => ?_)
            · refine jd_iinc (v := nI (u + 1)) zd_A_cheapestPlace_64 rfl (nI_inc u) (by decide) ?_
              refine jd_goto 8 zd_A_cheapestPlace_67 (by decide) ?_
              have e_c : fa_ch S (S 4) gn t (u + 1) = fa_ch S (S 4) gn t u := by first | simp_all [fa_ch]; done | (simp only [fa_ch]; rw [if_neg (by rintro ⟨q1, q2, q | q⟩; exact h_47 q; exact absurd q (Int32.not_lt.mpr h_54))])
              exact jd_sub [(0, av_r 0), (1, av_r 4), (2, av_i t), (3, av_i (fa_ch S (S 4) gn t (u + 1)).1), (4, av_i (fa_ch S (S 4) gn t (u + 1)).2), (5, av_i (nI (u + 1)))] ⟨rfl, rfl, rfl, by rw [e_c]; rfl, by rw [e_c]; rfl, rfl, trivial⟩ (ih (u + 1) (by omega) (by omega))
            · refine jd_iload zd_A_cheapestPlace_57 rfl ?_
              refine jd_istore_n zd_A_cheapestPlace_59 (by decide) ?_
              refine jd_iload zd_A_cheapestPlace_60 rfl ?_
              refine jd_istore zd_A_cheapestPlace_62 (by decide) ?_
              refine jd_iinc (v := nI (u + 1)) zd_A_cheapestPlace_64 rfl (nI_inc u) (by decide) ?_
              refine jd_goto 8 zd_A_cheapestPlace_67 (by decide) ?_
              have e_c : fa_ch S (S 4) gn t (u + 1) = (nI u, fa_co S (S 4) gn u) := by first | simp_all [fa_ch]; done | (simp only [fa_ch]; rw [if_neg (by rintro ⟨q1, q2, q | q⟩; exact h_47 q; exact absurd q (Int32.not_lt.mpr h_54))])
              exact jd_sub [(0, av_r 0), (1, av_r 4), (2, av_i t), (3, av_i (fa_ch S (S 4) gn t (u + 1)).1), (4, av_i (fa_ch S (S 4) gn t (u + 1)).2), (5, av_i (nI (u + 1)))] ⟨rfl, rfl, rfl, by rw [e_c]; rfl, by rw [e_c]; rfl, rfl, trivial⟩ (ih (u + 1) (by omega) (by omega))
set_option maxRecDepth 100000 in
set_option maxHeartbeats 4000000 in
theorem kc_cheapest {l : Launch} (hls : l.stackTraces = false) {D : va_G} {w : wd_T} {S : Nat → Nat → Int32} {L : Nat → Nat → Int64} (hN : ok_N w S) {gn : Nat} (hgn : gn < w.2.2.1) (hg : S 4 0 = nI gn) (t : Int32) : ct_M l D w zy_A_cheapestPlace (Cond.code zy_A_cheapestPlace zb_A_cheapestPlace 7 (Option.some Jvm.ClassFile.FieldType.int)) ({ frames := 1, cells := 0, slots := 0, locals := 23 } : Room) [av_r 0, av_r 4, av_i t] S L (po_i (fa_ch S (S 4) gn t w.2.2.2).1 S L) 0 0 := by
  refine ct_intro hls (own := zn_A) (by decide) rfl (Nat.le_of_ble_eq_true rfl) ?_
  refine jd_iconst (v := (-1)) zd_A_cheapestPlace_0 (by decide) ?_
  refine jd_istore_n zd_A_cheapestPlace_1 (by decide) ?_
  refine jd_iconst (v := 0) zd_A_cheapestPlace_2 (by decide) ?_
  refine jd_istore zd_A_cheapestPlace_3 (by decide) ?_
  refine jd_iconst (v := 0) zd_A_cheapestPlace_5 (by decide) ?_
  refine jd_istore zd_A_cheapestPlace_6 (by decide) ?_
  exact jd_sub [(0, av_r 0), (1, av_r 4), (2, av_i t), (3, av_i (fa_ch S (S 4) gn t 0).1), (4, av_i (fa_ch S (S 4) gn t 0).2), (5, av_i (nI 0))] ⟨rfl, rfl, rfl, rfl, rfl, rfl, trivial⟩ (kl_cheapest (Qp := po_i (fa_ch S (S 4) gn t w.2.2.2).1 S L) hls hN hgn hg t ⟨rfl, rfl, rfl⟩ (w.2.2.2 + 1) 0 (by omega) (by omega))
set_option maxRecDepth 100000 in
set_option maxHeartbeats 4000000 in
theorem kl_bound {l : Launch} (hls : l.stackTraces = false) {D : va_G} {w : wd_T} {S : Nat → Nat → Int32} {L : Nat → Nat → Int64} (hN : ok_N w S) (hU : ok_U w S) {Qp : jd_P}  : ∀ (k u : Nat), u ≤ w.2.2.1 → w.2.2.1 < u + k → ∀ (c : Int32) (T : Nat → Nat → Int32), sw_S S T → (∀ T2, sw_S S T2 → Qp.1 (some (av_i (fa_bd S w.2.2.1 w.2.2.2 (w.2.2.1 - u) u c))) T2 L) → jd_J l D w zn_A zb_A_bound 5 (Option.some Jvm.ClassFile.FieldType.int) [] ({ frames := 3, cells := 0, slots := 0, locals := 65 } : Room) 0 0 Qp 0 0 4 [(0, av_r 0), (1, av_i c), (2, av_i (nI u))] [] T L := by
  have h12 := hN.1
  have h13 := hN.2.1
  intro k
  induction k with
  | zero => intro u h1 h2; omega
  | succ k ih =>
    intro u hu hk c T hT hQ
    refine jd_iload_n zd_A_bound_4 rfl ?_
    refine jd_aload_n zd_A_bound_5 rfl ?_
    refine jd_get rfl rfl zl_A 6 (by decide) zi_148 rfl rfl rfl (by decide) zd_A_bound_6 ?_
    refine jd_icmp_ge 58 zd_A_bound_9 (by decide) (fun h_9 => ?_) (fun h_9 => ?_)
    · have e_u := nI_end (ok_N_sw hT hN).2.2.1 (by omega) hu h_9
      subst e_u
      rw [Nat.sub_self] at hQ
      simp only [fa_bd] at hQ
      refine jd_iload_n zd_A_bound_58 rfl ?_
      exact jd_iret rfl (hQ T hT) (by decide) (by decide) zd_A_bound_59
    · have hu2 := nI_on (ok_N_sw hT hN).2.2.1 (by omega) hu h_9
      have e_k : w.2.2.1 - u = (w.2.2.1 - (u + 1)) + 1 := by omega
      rw [e_k] at hQ
      simp only [fa_bd] at hQ
      refine jd_aload_n zd_A_bound_12 rfl ?_
      refine jd_iload_n zd_A_bound_13 rfl ?_
      refine jd_callV (n := 1) (kc_isGroup hls h12 hu2) rfl rfl rfl rfl (by decide) zi_184 zi_186 zi_0 zi_41 zi_187 (by decide +kernel) rfl rfl rfl (by decide) (Nat.le_of_ble_eq_true rfl) (by decide) zd_A_bound_14 (fun _ _ _ h => h.elim) (fun v S2 L2 hq => ?_)
      obtain ⟨rfl, rfl, rfl⟩ := hq
      rw [fa_gr_sw hT]
      refine jd_if_eq 52 zd_A_bound_17 (by decide) (fun h_17 => ?_) (fun h_17 => ?_)
      · rw [if_neg (by cases hg : fa_gr S u <;> simp_all [bi_of])] at hQ
        refine jd_iinc (v := nI (u + 1)) zd_A_bound_52 rfl (nI_inc u) (by decide) ?_
        refine jd_goto 4 zd_A_bound_55 (by decide) ?_
        exact jd_sub [(0, av_r 0), (1, av_i _), (2, av_i (nI (u + 1)))] ⟨rfl, rfl, rfl, trivial⟩ (ih (u + 1) (by omega) (by omega) _ _ hT hQ)
      · rw [if_pos (by cases hg : fa_gr S u <;> simp_all [bi_of])] at hQ
        refine jd_aload_n zd_A_bound_20 rfl ?_
        refine jd_iload_n zd_A_bound_21 rfl ?_
        refine jd_callV (n := 1) (kc_gather hls (ok_N_sw hT hN) (ok_U_sw hT hU) (nI u)) rfl rfl rfl rfl (by decide) zi_192 zi_194 zi_2 zi_41 zi_195 (by decide +kernel) rfl rfl rfl (by decide) (Nat.le_of_ble_eq_true rfl) (by decide) zd_A_bound_22 (fun _ _ _ h => h.elim) (fun v S2 L2 hq => ?_)
        obtain ⟨rfl, rfl, rfl⟩ := hq
        rw [fa_ga_sw hT]
        have hT2 : sw_S S (va_up T 4 (fa_ga S (nI u) w.2.2.1)) := hT.up (by decide) (by decide) _
        refine jd_astore_n zd_A_bound_25 (by decide) ?_
        refine jd_aload_n zd_A_bound_26 rfl ?_
        refine jd_aload_n zd_A_bound_27 rfl ?_
        refine jd_iconst (v := 0) zd_A_bound_28 (by decide) ?_
        refine jd_callV (n := 2) (kc_cheapest hls (ok_N_sw hT2 hN) hu2 (by rw [up_44]; exact fa_ga_0 _ _ _) 0) rfl rfl rfl rfl (by decide) zi_207 zi_209 zi_3 zi_41 zi_210 (by decide +kernel) rfl rfl rfl (by decide) (Nat.le_of_ble_eq_true rfl) (by decide) zd_A_bound_29 (fun _ _ _ h => h.elim) (fun v S2 L2 hq => ?_)
        obtain ⟨rfl, rfl, rfl⟩ := hq
        rw [up_44, fa_ch_sw hT2]
        refine jd_istore zd_A_bound_32 (by decide) ?_
        refine jd_iload zd_A_bound_34 rfl ?_
        refine jd_iconst (v := (-1)) zd_A_bound_36 (by decide) ?_
        refine jd_icmp_ne 42 zd_A_bound_37 (by decide) (fun h_37 => ?_) (fun h_37 => ?_)
        · rw [if_neg h_37] at hQ
          obtain ⟨p, hp, ep⟩ : ∃ p, p < w.2.2.2 ∧ (fa_ch S (fa_ga S (nI u) w.2.2.1) u 0 w.2.2.2).1 = nI p := (fa_ch_in _ _ _ _ _).resolve_left h_37
          refine jd_iload_n zd_A_bound_42 rfl ?_
          refine jd_aload_n zd_A_bound_43 rfl ?_
          refine jd_aload_n zd_A_bound_44 rfl ?_
          refine jd_iload zd_A_bound_45 rfl ?_
          refine jd_callV (n := 2) (kc_costAt hls h12 h13 hu2 (by rw [up_44]; exact fa_ga_0 _ _ _) hp ep) rfl rfl rfl rfl (by decide) zi_215 zi_217 zi_5 zi_41 zi_218 (by decide +kernel) rfl rfl rfl (by decide) (Nat.le_of_ble_eq_true rfl) (by decide) zd_A_bound_47 (fun _ _ _ h => h.elim) (fun v S2 L2 hq => ?_)
          obtain ⟨rfl, rfl, rfl⟩ := hq
          rw [up_44, fa_co_sw hT2]
          rw [ep, nI_clamp (show p < 2 ^ 31 by omega)] at hQ
          refine jd_iadd zd_A_bound_50 ?_
          refine jd_istore_n zd_A_bound_51 (by decide) ?_
          refine jd_iinc (v := nI (u + 1)) zd_A_bound_52 rfl (nI_inc u) (by decide) ?_
          refine jd_goto 4 zd_A_bound_55 (by decide) ?_
          exact jd_sub [(0, av_r 0), (1, av_i _), (2, av_i (nI (u + 1)))] ⟨rfl, rfl, rfl, trivial⟩ (ih (u + 1) (by omega) (by omega) _ _ hT2 hQ)
        · rw [if_pos h_37] at hQ
          refine jd_iconst (v := (-1)) zd_A_bound_40 (by decide) ?_
          exact jd_iret rfl (hQ _ hT2) (by decide) (by decide) zd_A_bound_41
set_option maxRecDepth 100000 in
set_option maxHeartbeats 4000000 in
theorem kc_bound {l : Launch} (hls : l.stackTraces = false) {D : va_G} {w : wd_T} {S : Nat → Nat → Int32} {L : Nat → Nat → Int64} (hN : ok_N w S) (hU : ok_U w S) : ct_M l D w zy_A_bound (Cond.code zy_A_bound zb_A_bound 5 (Option.some Jvm.ClassFile.FieldType.int)) ({ frames := 3, cells := 0, slots := 0, locals := 65 } : Room) [av_r 0] S L (po_w (fa_bd S w.2.2.1 w.2.2.2 w.2.2.1 0 0) S L) 0 0 := by
  refine ct_intro hls (own := zn_A) (by decide) rfl (Nat.le_of_ble_eq_true rfl) ?_
  refine jd_iconst (v := 0) zd_A_bound_0 (by decide) ?_
  refine jd_istore_n zd_A_bound_1 (by decide) ?_
  refine jd_iconst (v := 0) zd_A_bound_2 (by decide) ?_
  refine jd_istore_n zd_A_bound_3 (by decide) ?_
  exact jd_sub [(0, av_r 0), (1, av_i 0), (2, av_i (nI 0))] ⟨rfl, rfl, rfl, trivial⟩ (kl_bound (S := S) (Qp := po_w (fa_bd S w.2.2.1 w.2.2.2 w.2.2.1 0 0) S L) hls hN hU (w.2.2.1 + 1) 0 (by omega) (by omega) 0 S (sw_refl S) (fun T2 h => ⟨rfl, h, sw_reflL L⟩))
set_option maxRecDepth 100000 in
set_option maxHeartbeats 4000000 in
theorem kl_plannedCosts {l : Launch} (hls : l.stackTraces = false) {D : va_G} {w : wd_T} {S : Nat → Nat → Int32} {L : Nat → Nat → Int64} (hN : ok_N w S) (hU : ok_U w S) {Qp : jd_P} (hQ : ∀ T2, sw_S S T2 → Qp.1 (some (av_i (fa_pc S w.2.2.1 w.2.2.1))) T2 L) : ∀ (k u : Nat), u ≤ w.2.2.1 → w.2.2.1 < u + k → ∀ (c : Int32) (T : Nat → Nat → Int32), sw_S S T → c = fa_pc S w.2.2.1 u → jd_J l D w zn_A zb_A_plannedCosts 3 (Option.some Jvm.ClassFile.FieldType.int) [] ({ frames := 3, cells := 0, slots := 0, locals := 65 } : Room) 0 0 Qp 0 0 4 [(0, av_r 0), (1, av_i c), (2, av_i (nI u))] [] T L := by
  have h12 := hN.1
  have h13 := hN.2.1
  intro k
  induction k with
  | zero => intro u h1 h2; omega
  | succ k ih =>
    intro u hu hk c T hT hc
    refine jd_iload_n zd_A_plannedCosts_4 rfl ?_
    refine jd_aload_n zd_A_plannedCosts_5 rfl ?_
    refine jd_get rfl rfl zl_A 6 (by decide) zi_148 rfl rfl rfl (by decide) zd_A_plannedCosts_6 ?_
    refine jd_icmp_ge 59 zd_A_plannedCosts_9 (by decide) (fun h_9 => ?_) (fun h_9 => ?_)
    · have e_u := nI_end (ok_N_sw hT hN).2.2.1 (by omega) hu h_9
      subst e_u
      subst hc
      refine jd_iload_n zd_A_plannedCosts_59 rfl ?_
      exact jd_iret rfl (hQ T hT) (by decide) (by decide) zd_A_plannedCosts_60
    · have hu2 := nI_on (ok_N_sw hT hN).2.2.1 (by omega) hu h_9
      refine jd_aload_n zd_A_plannedCosts_12 rfl ?_
      refine jd_iload_n zd_A_plannedCosts_13 rfl ?_
      refine jd_callV (n := 1) (kc_isGroup hls h12 hu2) rfl rfl rfl rfl (by decide) zi_184 zi_186 zi_0 zi_41 zi_187 (by decide +kernel) rfl rfl rfl (by decide) (Nat.le_of_ble_eq_true rfl) (by decide) zd_A_plannedCosts_14 (fun _ _ _ h => h.elim) (fun v S2 L2 hq => ?_)
      obtain ⟨rfl, rfl, rfl⟩ := hq
      rw [fa_gr_sw hT]
      refine jd_if_eq 53 zd_A_plannedCosts_17 (by decide) (fun h_17 => ?_) (fun h_17 => ?_)
      · refine jd_iinc (v := nI (u + 1)) zd_A_plannedCosts_53 rfl (nI_inc u) (by decide) ?_
        refine jd_goto 4 zd_A_plannedCosts_56 (by decide) ?_
        exact jd_sub [(0, av_r 0), (1, av_i _), (2, av_i (nI (u + 1)))] ⟨rfl, rfl, rfl, trivial⟩ (ih (u + 1) (by omega) (by omega) _ _ hT (by cases hg : fa_gr S u <;> cases hg2 : fa_pl S u <;> simp_all [bi_of, fa_pc]))
      · refine jd_aload_n zd_A_plannedCosts_20 rfl ?_
        refine jd_get rfl rfl zl_A 0 (by decide) zi_142 rfl rfl rfl (by decide) zd_A_plannedCosts_21 ?_
        refine jd_iload_n zd_A_plannedCosts_24 rfl ?_
        refine jd_unit rfl hu2 h12 zd_A_plannedCosts_25 ?_
        refine jd_callS (n := 1) (kc_isPlanned hls hu2 h12) rfl zi_594 zi_595 zi_41 zi_596 (by decide +kernel) rfl rfl rfl (by decide) (Nat.le_of_ble_eq_true rfl) (by decide) zd_A_plannedCosts_26 (fun _ _ _ h => h.elim) (fun v S2 L2 hq => ?_)
        obtain ⟨rfl, rfl, rfl⟩ := hq
        rw [fa_pl_sw hT]
        refine jd_if_eq 53 zd_A_plannedCosts_29 (by decide) (fun h_29 => ?_) (fun h_29 => ?_)
        · refine jd_iinc (v := nI (u + 1)) zd_A_plannedCosts_53 rfl (nI_inc u) (by decide) ?_
          refine jd_goto 4 zd_A_plannedCosts_56 (by decide) ?_
          exact jd_sub [(0, av_r 0), (1, av_i _), (2, av_i (nI (u + 1)))] ⟨rfl, rfl, rfl, trivial⟩ (ih (u + 1) (by omega) (by omega) _ _ hT (by cases hg : fa_gr S u <;> cases hg2 : fa_pl S u <;> simp_all [bi_of, fa_pc]))
        · have hg : fa_pl S u = true := by cases hg : fa_pl S u <;> simp_all [bi_of]
          obtain ⟨p, hp, ep⟩ : ∃ p, p < w.2.2.2 ∧ S (100 + u) 3 = nI p := by
            rcases (hU u hu2).2.2.1 with e | e
            · simp [fa_pl, e] at hg
            · exact e
          refine jd_iload_n zd_A_plannedCosts_32 rfl ?_
          refine jd_aload_n zd_A_plannedCosts_33 rfl ?_
          refine jd_aload_n zd_A_plannedCosts_34 rfl ?_
          refine jd_iload_n zd_A_plannedCosts_35 rfl ?_
          refine jd_callV (n := 1) (kc_gather hls (ok_N_sw hT hN) (ok_U_sw hT hU) (nI u)) rfl rfl rfl rfl (by decide) zi_192 zi_194 zi_2 zi_41 zi_195 (by decide +kernel) rfl rfl rfl (by decide) (Nat.le_of_ble_eq_true rfl) (by decide) zd_A_plannedCosts_36 (fun _ _ _ h => h.elim) (fun v S2 L2 hq => ?_)
          obtain ⟨rfl, rfl, rfl⟩ := hq
          rw [fa_ga_sw hT]
          have hT2 : sw_S S (va_up T 4 (fa_ga S (nI u) w.2.2.1)) := hT.up (by decide) (by decide) _
          refine jd_aload_n zd_A_plannedCosts_39 rfl ?_
          refine jd_get rfl rfl zl_A 0 (by decide) zi_142 rfl rfl rfl (by decide) zd_A_plannedCosts_40 ?_
          refine jd_iload_n zd_A_plannedCosts_43 rfl ?_
          refine jd_unit rfl hu2 h12 zd_A_plannedCosts_44 ?_
          refine jd_get (ac_U (by omega)) rfl zl_U 3 (by decide) zi_343 rfl rfl (rl_U (by omega)) (by omega) zd_A_plannedCosts_45 ?_
          rw [hT2.u]
          refine jd_callV (n := 2) (kc_costAt hls h12 h13 hu2 (by rw [up_44]; exact fa_ga_0 _ _ _) hp ep) rfl rfl rfl rfl (by decide) zi_215 zi_217 zi_5 zi_41 zi_218 (by decide +kernel) rfl rfl rfl (by decide) (Nat.le_of_ble_eq_true rfl) (by decide) zd_A_plannedCosts_48 (fun _ _ _ h => h.elim) (fun v S2 L2 hq => ?_)
          obtain ⟨rfl, rfl, rfl⟩ := hq
          rw [up_44, fa_co_sw hT2]
          have ecl : (S (100 + u) 3).toNatClampNeg = p := by rw [ep]; exact nI_clamp (show p < 2 ^ 31 by omega)
          refine jd_iadd zd_A_plannedCosts_51 ?_
          refine jd_istore_n zd_A_plannedCosts_52 (by decide) ?_
          refine jd_iinc (v := nI (u + 1)) zd_A_plannedCosts_53 rfl (nI_inc u) (by decide) ?_
          refine jd_goto 4 zd_A_plannedCosts_56 (by decide) ?_
          exact jd_sub [(0, av_r 0), (1, av_i _), (2, av_i (nI (u + 1)))] ⟨rfl, rfl, rfl, trivial⟩ (ih (u + 1) (by omega) (by omega) _ _ hT2 (by cases hg : fa_gr S u <;> cases hg2 : fa_pl S u <;> simp_all [bi_of, fa_pc]))
set_option maxRecDepth 100000 in
set_option maxHeartbeats 4000000 in
theorem kc_plannedCosts {l : Launch} (hls : l.stackTraces = false) {D : va_G} {w : wd_T} {S : Nat → Nat → Int32} {L : Nat → Nat → Int64} (hN : ok_N w S) (hU : ok_U w S) : ct_M l D w zy_A_plannedCosts (Cond.code zy_A_plannedCosts zb_A_plannedCosts 3 (Option.some Jvm.ClassFile.FieldType.int)) ({ frames := 3, cells := 0, slots := 0, locals := 65 } : Room) [av_r 0] S L (po_w (fa_pc S w.2.2.1 w.2.2.1) S L) 0 0 := by
  refine ct_intro hls (own := zn_A) (by decide) rfl (Nat.le_of_ble_eq_true rfl) ?_
  refine jd_iconst (v := 0) zd_A_plannedCosts_0 (by decide) ?_
  refine jd_istore_n zd_A_plannedCosts_1 (by decide) ?_
  refine jd_iconst (v := 0) zd_A_plannedCosts_2 (by decide) ?_
  refine jd_istore_n zd_A_plannedCosts_3 (by decide) ?_
  exact jd_sub [(0, av_r 0), (1, av_i 0), (2, av_i (nI 0))] ⟨rfl, rfl, rfl, trivial⟩ (kl_plannedCosts (S := S) (Qp := po_w (fa_pc S w.2.2.1 w.2.2.1) S L) hls hN hU (fun T2 h => ⟨rfl, h, sw_reflL L⟩) (w.2.2.1 + 1) 0 (by omega) (by omega) 0 S (sw_refl S) rfl)
set_option maxRecDepth 100000 in
set_option maxHeartbeats 4000000 in
theorem kl_takeDraft {l : Launch} (hls : l.stackTraces = false) {D : va_G} {w : wd_T} {S : Nat → Nat → Int32} {L : Nat → Nat → Int64} (hN : ok_N w S) {Qp : jd_P} (hQ : Qp.1 none (fa_td S w.2.2.1 w.2.2.1) L) : ∀ (k u : Nat), u ≤ w.2.2.1 → w.2.2.1 < u + k → jd_J l D w zn_A zb_A_takeDraft 2 (Option.none : Option Jvm.ClassFile.FieldType) [] ({ frames := 2, cells := 0, slots := 0, locals := 45 } : Room) 0 0 Qp 0 0 2 [(0, av_r 0), (1, av_i (nI u))] [] (fa_td S w.2.2.1 u) L := by
  have h12 := hN.1
  intro k
  induction k with
  | zero => intro u h1 h2; omega
  | succ k ih =>
    intro u hu hk
    refine jd_iload_n zd_A_takeDraft_2 rfl ?_
    refine jd_aload_n zd_A_takeDraft_3 rfl ?_
    refine jd_get rfl rfl zl_A 6 (by decide) zi_148 rfl rfl rfl (by decide) zd_A_takeDraft_4 ?_
    refine jd_icmp_ge 35 zd_A_takeDraft_7 (by decide) (fun h_7 => ?_) (fun h_7 => ?_)
    · have e_u := nI_end (ok_N_td hN).2.2.1 (by omega) hu h_7
      subst e_u
      exact jd_vret rfl hQ (by decide) (by decide) zd_A_takeDraft_35
    · have hu2 := nI_on (ok_N_td hN).2.2.1 (by omega) hu h_7
      refine jd_aload_n zd_A_takeDraft_10 rfl ?_
      refine jd_iload_n zd_A_takeDraft_11 rfl ?_
      refine jd_callV (n := 1) (kc_isGroup hls h12 hu2) rfl rfl rfl rfl (by decide) zi_184 zi_186 zi_0 zi_41 zi_187 (by decide +kernel) rfl rfl rfl (by decide) (Nat.le_of_ble_eq_true rfl) (by decide) zd_A_takeDraft_12 (fun _ _ _ h => h.elim) (fun v S2 L2 hq => ?_)
      obtain ⟨rfl, rfl, rfl⟩ := hq
      refine jd_if_eq 29 zd_A_takeDraft_15 (by decide) (fun h_15 => ?_) (fun h_15 => ?_)
      · refine jd_iinc (v := nI (u + 1)) zd_A_takeDraft_29 rfl (nI_inc u) (by decide) ?_
        refine jd_goto 2 zd_A_takeDraft_32 (by decide) ?_
        refine jd_eqS (S' := fa_td S w.2.2.1 (u + 1)) (by cases hg : fa_gr (fa_td S w.2.2.1 u) u <;> simp_all [fa_td, bi_of]) ?_
        exact jd_sub [(0, av_r 0), (1, av_i (nI (u + 1)))] ⟨rfl, rfl, trivial⟩ (ih (u + 1) (by omega) (by omega))
      · refine jd_aload_n zd_A_takeDraft_18 rfl ?_
        refine jd_iload_n zd_A_takeDraft_19 rfl ?_
        refine jd_aload_n zd_A_takeDraft_20 rfl ?_
        refine jd_get rfl rfl zl_A 5 (by decide) zi_147 rfl rfl rfl (by decide) zd_A_takeDraft_21 ?_
        refine jd_iload_n zd_A_takeDraft_24 rfl ?_
        refine jd_iald (r := 6) rfl (vp_in_nI (show u < 12 by omega) (by decide)) rfl (by decide) zd_A_takeDraft_25 ?_
        rw [nI_clamp (show u < 2 ^ 31 by omega)]
        refine jd_callV (n := 2) (kc_planFor hls (ok_N_td hN) (nI u) (fa_td S w.2.2.1 u 6 u)) rfl rfl rfl rfl (by decide) zi_487 zi_489 zi_12 zi_41 zi_490 (by decide +kernel) rfl rfl rfl (by decide) (Nat.le_of_ble_eq_true rfl) (by decide) zd_A_takeDraft_26 (fun _ _ _ h => h.elim) (fun v S2 L2 hq => ?_)
        obtain ⟨rfl, rfl, rfl⟩ := hq
        refine jd_iinc (v := nI (u + 1)) zd_A_takeDraft_29 rfl (nI_inc u) (by decide) ?_
        refine jd_goto 2 zd_A_takeDraft_32 (by decide) ?_
        refine jd_eqS (S' := fa_td S w.2.2.1 (u + 1)) (by cases hg : fa_gr (fa_td S w.2.2.1 u) u <;> simp_all [fa_td, bi_of]) ?_
        exact jd_sub [(0, av_r 0), (1, av_i (nI (u + 1)))] ⟨rfl, rfl, trivial⟩ (ih (u + 1) (by omega) (by omega))
set_option maxRecDepth 100000 in
set_option maxHeartbeats 4000000 in
theorem kc_takeDraft {l : Launch} (hls : l.stackTraces = false) {D : va_G} {w : wd_T} {S : Nat → Nat → Int32} {L : Nat → Nat → Int64} (hN : ok_N w S) : ct_M l D w zy_A_takeDraft (Cond.code zy_A_takeDraft zb_A_takeDraft 2 (Option.none : Option Jvm.ClassFile.FieldType)) ({ frames := 2, cells := 0, slots := 0, locals := 45 } : Room) [av_r 0] S L (po_S (fa_td S w.2.2.1 w.2.2.1) L) 0 0 := by
  refine ct_intro hls (own := zn_A) (by decide) rfl (Nat.le_of_ble_eq_true rfl) ?_
  refine jd_iconst (v := 0) zd_A_takeDraft_0 (by decide) ?_
  refine jd_istore_n zd_A_takeDraft_1 (by decide) ?_
  exact jd_sub [(0, av_r 0), (1, av_i (nI 0))] ⟨rfl, rfl, trivial⟩ (kl_takeDraft (Qp := po_S (fa_td S w.2.2.1 w.2.2.1) L) hls hN ⟨rfl, rfl, rfl⟩ (w.2.2.1 + 1) 0 (by omega) (by omega))
set_option maxRecDepth 100000 in
set_option maxHeartbeats 4000000 in
theorem kl_oneByOne {l : Launch} (hls : l.stackTraces = false) {D : va_G} {w : wd_T} {S : Nat → Nat → Int32} {L : Nat → Nat → Int64} (hN : ok_N w S) (hU : ok_U w S) {Qp : jd_P} (hQ : ∀ T2, sw_S S T2 → (∀ v, v < w.2.2.1 → fa_gr S v = true → T2 6 v = (fa_d1 S w.2.2.1 w.2.2.2 w.2.2.1).2.2 v) → Qp.1 (some (av_i (fa_d1 S w.2.2.1 w.2.2.2 w.2.2.1).2.1)) T2 L) : ∀ (k u : Nat), u ≤ w.2.2.1 → w.2.2.1 < u + k → ∀ (T : Nat → Nat → Int32), sw_S S T → (∀ v, v < u → fa_gr S v = true → T 6 v = (fa_d1 S w.2.2.1 w.2.2.2 u).2.2 v) → jd_J l D w zn_A zb_A_draftOneByOne 6 (Option.some Jvm.ClassFile.FieldType.int) [] ({ frames := 3, cells := 0, slots := 0, locals := 65 } : Room) 0 0 Qp 0 0 6 [(0, av_r 0), (1, av_i (fa_d1 S w.2.2.1 w.2.2.2 u).1), (2, av_i (fa_d1 S w.2.2.1 w.2.2.2 u).2.1), (3, av_i (nI u))] [] T L := by
  have h12 := hN.1
  have h13 := hN.2.1
  intro k
  induction k with
  | zero => intro u h1 h2; omega
  | succ k ih =>
    intro u hu hk T hT hd
    refine jd_iload_n zd_A_draftOneByOne_6 rfl ?_
    refine jd_aload_n zd_A_draftOneByOne_7 rfl ?_
    refine jd_get rfl rfl zl_A 6 (by decide) zi_148 rfl rfl rfl (by decide) zd_A_draftOneByOne_8 ?_
    refine jd_icmp_ge 76 zd_A_draftOneByOne_11 (by decide) (fun h_11 => ?_) (fun h_11 => ?_)
    · have e_u := nI_end (ok_N_sw hT hN).2.2.1 (by omega) hu h_11
      subst e_u
      refine jd_iload_n zd_A_draftOneByOne_76 rfl ?_
      exact jd_iret rfl (hQ T hT hd) (by decide) (by decide) zd_A_draftOneByOne_77
    · have hu2 := nI_on (ok_N_sw hT hN).2.2.1 (by omega) hu h_11
      refine jd_aload_n zd_A_draftOneByOne_14 rfl ?_
      refine jd_iload_n zd_A_draftOneByOne_15 rfl ?_
      refine jd_callV (n := 1) (kc_isGroup hls h12 hu2) rfl rfl rfl rfl (by decide) zi_184 zi_186 zi_0 zi_41 zi_187 (by decide +kernel) rfl rfl rfl (by decide) (Nat.le_of_ble_eq_true rfl) (by decide) zd_A_draftOneByOne_16 (fun _ _ _ h => h.elim) (fun v S2 L2 hq => ?_)
      obtain ⟨rfl, rfl, rfl⟩ := hq
      rw [fa_gr_sw hT]
      refine jd_if_eq 70 zd_A_draftOneByOne_19 (by decide) (fun h_19 => ?_) (fun h_19 => ?_)
      · have hgr : ¬ fa_gr S u = true := by cases hg : fa_gr S u <;> simp_all [bi_of]
        refine jd_iinc (v := nI (u + 1)) zd_A_draftOneByOne_70 rfl (nI_inc u) (by decide) ?_
        refine jd_goto 6 zd_A_draftOneByOne_73 (by decide) ?_
        exact jd_sub [(0, av_r 0), (1, av_i (fa_d1 S w.2.2.1 w.2.2.2 (u + 1)).1), (2, av_i (fa_d1 S w.2.2.1 w.2.2.2 (u + 1)).2.1), (3, av_i (nI (u + 1)))] ⟨rfl, by rw [sw_d1n hgr]; rfl, by rw [sw_d1n hgr]; rfl, rfl, trivial⟩ (ih (u + 1) (by omega) (by omega) _ hT (fun v hv hg => by rw [sw_d1n hgr]; exact hd v (Nat.lt_of_le_of_ne (Nat.le_of_lt_succ hv) (fun e => hgr (e ▸ hg))) hg))
      · have hgr : fa_gr S u = true := by cases hg : fa_gr S u <;> simp_all [bi_of]
        refine jd_aload_n zd_A_draftOneByOne_22 rfl ?_
        refine jd_iload_n zd_A_draftOneByOne_23 rfl ?_
        refine jd_callV (n := 1) (kc_gather hls (ok_N_sw hT hN) (ok_U_sw hT hU) (nI u)) rfl rfl rfl rfl (by decide) zi_192 zi_194 zi_2 zi_41 zi_195 (by decide +kernel) rfl rfl rfl (by decide) (Nat.le_of_ble_eq_true rfl) (by decide) zd_A_draftOneByOne_24 (fun _ _ _ h => h.elim) (fun v S2 L2 hq => ?_)
        obtain ⟨rfl, rfl, rfl⟩ := hq
        rw [fa_ga_sw hT]
        have hT2 : sw_S S (va_up T 4 (fa_ga S (nI u) w.2.2.1)) := hT.up (by decide) (by decide) _
        refine jd_astore zd_A_draftOneByOne_27 (by decide) ?_
        refine jd_aload_n zd_A_draftOneByOne_29 rfl ?_
        refine jd_aload zd_A_draftOneByOne_30 rfl ?_
        refine jd_iload_n zd_A_draftOneByOne_32 rfl ?_
        refine jd_callV (n := 2) (kc_cheapest hls (ok_N_sw hT2 hN) hu2 (by rw [up_44]; exact fa_ga_0 _ _ _) (fa_d1 S w.2.2.1 w.2.2.2 u).1) rfl rfl rfl rfl (by decide) zi_207 zi_209 zi_3 zi_41 zi_210 (by decide +kernel) rfl rfl rfl (by decide) (Nat.le_of_ble_eq_true rfl) (by decide) zd_A_draftOneByOne_33 (fun _ _ _ h => h.elim) (fun v S2 L2 hq => ?_)
        obtain ⟨rfl, rfl, rfl⟩ := hq
        rw [up_44, fa_ch_sw hT2]
        refine jd_istore zd_A_draftOneByOne_36 (by decide) ?_
        refine jd_aload_n zd_A_draftOneByOne_38 rfl ?_
        refine jd_get rfl rfl zl_A 5 (by decide) zi_147 rfl rfl rfl (by decide) zd_A_draftOneByOne_39 ?_
        refine jd_iload_n zd_A_draftOneByOne_42 rfl ?_
        refine jd_iload zd_A_draftOneByOne_43 rfl ?_
        refine jd_iast (r := 6) (fun _ => rfl) (vp_in_nI (show u < 12 by omega) (by decide)) rfl (by decide) zd_A_draftOneByOne_45 ?_
        rw [nI_clamp (show u < 2 ^ 31 by omega), va_up_ne _ _ (show (6 : Nat) ≠ 4 by decide)]
        have hT3 := hT2.up (r := 6) (by decide) (by decide) (upd (T 6) u (fa_ch S (fa_ga S (nI u) w.2.2.1) u (fa_d1 S w.2.2.1 w.2.2.2 u).1 w.2.2.2).1)
        have hd2 := sw_dr (T := va_up T 4 (fa_ga S (nI u) w.2.2.1)) (q := 6) (n := u) (c := (fa_ch S (fa_ga S (nI u) w.2.2.1) u (fa_d1 S w.2.2.1 w.2.2.2 u).1 w.2.2.2).1) hd
        refine jd_iload zd_A_draftOneByOne_46 rfl ?_
        refine jd_iconst (v := (-1)) zd_A_draftOneByOne_48 (by decide) ?_
        refine jd_icmp_eq 70 zd_A_draftOneByOne_49 (by decide) (fun h_49 => ?_) (fun h_49 => ?_)
        · refine jd_iinc (v := nI (u + 1)) zd_A_draftOneByOne_70 rfl (nI_inc u) (by decide) ?_
          refine jd_goto 6 zd_A_draftOneByOne_73 (by decide) ?_
          rw [sw_d1d hgr h_49] at hd2
          exact jd_sub [(0, av_r 0), (1, av_i (fa_d1 S w.2.2.1 w.2.2.2 (u + 1)).1), (2, av_i (fa_d1 S w.2.2.1 w.2.2.2 (u + 1)).2.1), (3, av_i (nI (u + 1)))] ⟨rfl, by rw [sw_d1e hgr h_49]; rfl, by rw [sw_d1f hgr h_49]; rfl, rfl, trivial⟩ (ih (u + 1) (by omega) (by omega) _ hT3 hd2)
        · obtain ⟨p, hp, ep⟩ : ∃ p, p < w.2.2.2 ∧ (fa_ch S (fa_ga S (nI u) w.2.2.1) u (fa_d1 S w.2.2.1 w.2.2.2 u).1 w.2.2.2).1 = nI p := (fa_ch_in _ _ _ _ _).resolve_left h_49
          have ecl : (fa_ch S (fa_ga S (nI u) w.2.2.1) u (fa_d1 S w.2.2.1 w.2.2.2 u).1 w.2.2.2).1.toNatClampNeg = p := by rw [ep]; exact nI_clamp (show p < 2 ^ 31 by omega)
          refine jd_iload_n zd_A_draftOneByOne_52 rfl ?_
          refine jd_iconst (v := 1) zd_A_draftOneByOne_53 (by decide) ?_
          refine jd_iload zd_A_draftOneByOne_54 rfl ?_
          refine jd_ishl zd_A_draftOneByOne_56 ?_
          refine jd_ior zd_A_draftOneByOne_57 ?_
          refine jd_istore_n zd_A_draftOneByOne_58 (by decide) ?_
          refine jd_iload_n zd_A_draftOneByOne_59 rfl ?_
          refine jd_aload_n zd_A_draftOneByOne_60 rfl ?_
          refine jd_aload zd_A_draftOneByOne_61 rfl ?_
          refine jd_iload zd_A_draftOneByOne_63 rfl ?_
          refine jd_callV (n := 2) (kc_costAt hls h12 h13 hu2 (by rw [va_up_ne _ _ (show (4 : Nat) ≠ 6 by decide), up_44]; exact fa_ga_0 _ _ _) hp ep) rfl rfl rfl rfl (by decide) zi_215 zi_217 zi_5 zi_41 zi_218 (by decide +kernel) rfl rfl rfl (by decide) (Nat.le_of_ble_eq_true rfl) (by decide) zd_A_draftOneByOne_65 (fun _ _ _ h => h.elim) (fun v S2 L2 hq => ?_)
          obtain ⟨rfl, rfl, rfl⟩ := hq
          rw [va_up_ne _ _ (show (4 : Nat) ≠ 6 by decide), up_44, fa_co_sw hT3]
          refine jd_iadd zd_A_draftOneByOne_68 ?_
          refine jd_istore_n zd_A_draftOneByOne_69 (by decide) ?_
          refine jd_iinc (v := nI (u + 1)) zd_A_draftOneByOne_70 rfl (nI_inc u) (by decide) ?_
          refine jd_goto 6 zd_A_draftOneByOne_73 (by decide) ?_
          rw [sw_d1a hgr h_49] at hd2
          exact jd_sub [(0, av_r 0), (1, av_i (fa_d1 S w.2.2.1 w.2.2.2 (u + 1)).1), (2, av_i (fa_d1 S w.2.2.1 w.2.2.2 (u + 1)).2.1), (3, av_i (nI (u + 1)))] ⟨rfl, by rw [sw_d1b hgr h_49]; rfl, by rw [sw_d1c hgr h_49, ecl]; rfl, rfl, trivial⟩ (ih (u + 1) (by omega) (by omega) _ hT3 hd2)
set_option maxRecDepth 100000 in
set_option maxHeartbeats 4000000 in
theorem kc_oneByOne {l : Launch} (hls : l.stackTraces = false) {D : va_G} {w : wd_T} {S : Nat → Nat → Int32} {L : Nat → Nat → Int64} (hN : ok_N w S) (hU : ok_U w S) : ct_M l D w zy_A_draftOneByOne (Cond.code zy_A_draftOneByOne zb_A_draftOneByOne 6 (Option.some Jvm.ClassFile.FieldType.int)) ({ frames := 3, cells := 0, slots := 0, locals := 65 } : Room) [av_r 0] S L (po_wd (fa_d1 S w.2.2.1 w.2.2.2 w.2.2.1).2.1 (fun d => ∀ v, v < w.2.2.1 → fa_gr S v = true → d v = (fa_d1 S w.2.2.1 w.2.2.2 w.2.2.1).2.2 v) S L) 0 0 := by
  refine ct_intro hls (own := zn_A) (by decide) rfl (Nat.le_of_ble_eq_true rfl) ?_
  refine jd_iconst (v := 0) zd_A_draftOneByOne_0 (by decide) ?_
  refine jd_istore_n zd_A_draftOneByOne_1 (by decide) ?_
  refine jd_iconst (v := 0) zd_A_draftOneByOne_2 (by decide) ?_
  refine jd_istore_n zd_A_draftOneByOne_3 (by decide) ?_
  refine jd_iconst (v := 0) zd_A_draftOneByOne_4 (by decide) ?_
  refine jd_istore_n zd_A_draftOneByOne_5 (by decide) ?_
  exact jd_sub [(0, av_r 0), (1, av_i (fa_d1 S w.2.2.1 w.2.2.2 0).1), (2, av_i (fa_d1 S w.2.2.1 w.2.2.2 0).2.1), (3, av_i (nI 0))] ⟨rfl, rfl, rfl, rfl, trivial⟩ (kl_oneByOne (S := S) (Qp := po_wd (fa_d1 S w.2.2.1 w.2.2.2 w.2.2.1).2.1 (fun d => ∀ v, v < w.2.2.1 → fa_gr S v = true → d v = (fa_d1 S w.2.2.1 w.2.2.2 w.2.2.1).2.2 v) S L) hls hN hU (fun T2 h hd => ⟨rfl, hd, h, sw_reflL L⟩) (w.2.2.1 + 1) 0 (by omega) (by omega) S (sw_refl S) (fun v hv => by omega))
