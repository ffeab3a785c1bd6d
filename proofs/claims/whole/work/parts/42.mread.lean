/-! THE MODEL: its readers (rows by wip/whole/gen/m1.py) -/
theorem k5_no {a b : Int32} {p : Nat} (hp : p < 12) (h1 : ¬ b = -1) (h2 : ¬ b = nI p) (h : (if b = -1 then a else if a = -1 ∨ a = b then b else -2) = -1 ∨ (if b = -1 then a else if a = -1 ∨ a = b then b else -2) = nI p) : False := by
  rw [if_neg h1] at h
  by_cases c : a = -1 ∨ a = b
  · rw [if_pos c] at h
    rcases h with h | h
    · exact h1 h
    · exact h2 h
  · rw [if_neg c] at h
    rcases h with h | h
    · exact absurd h (by decide)
    · have : ∀ p, p < 12 → ¬ (-2 : Int32) = nI p := by decide +kernel
      exact this p hp h
theorem kp_2 (g q : Nat → Int32) (p : Int32) : fa_kp g q p 2 = decide (g 4 &&& (q 0 ^^^ (-1)) = 0) := rfl
theorem kp_3 (g q : Nat → Int32) (p : Int32) : fa_kp g q p 3 = decide ((g 5 >>> (p &&& 31)) &&& 1 = 0) := rfl
theorem kp_5 (g q : Nat → Int32) (p : Int32) : fa_kp g q p 5 = decide (g 6 = -1 ∨ g 6 = p) := rfl
theorem fa_ga_no {G : Nat → Nat → Int32} {g : Int32} {u : Nat} (h : ¬ fa_in G u g = true) : fa_ga G g (u + 1) = fa_ga G g u := by simp only [fa_ga]; rw [if_neg h]
set_option maxRecDepth 100000 in
set_option maxHeartbeats 4000000 in
theorem kc_Min {l : Launch} (hls : l.stackTraces = false) {D : va_G} {w : wd_T} {S : Nat → Nat → Int32} {L : Nat → Nat → Int64} (x a b : Int32) : ct_M l D w zy_M_in (Cond.code zy_M_in zb_M_in 3 (Option.some Jvm.ClassFile.FieldType.boolean)) ({ frames := 0, cells := 0, slots := 0, locals := 0 } : Room) [av_i x, av_i a, av_i b] S L (po_i (bi_of (!ob x a b)) S L) 0 0 := by
  refine ct_intro hls (own := zn_M) (by decide) rfl (Nat.le_of_ble_eq_true rfl) ?_
  refine jd_iload_n zd_M_in_0 rfl ?_
  refine jd_iload_n zd_M_in_1 rfl ?_
  refine jd_icmp_lt 14 zd_M_in_2 (by decide) (fun h_2 => ?_) (fun h_2 => ?_)
  · refine jd_iconst (v := 0) zd_M_in_14 (by decide) ?_
    exact jd_zret rfl (by first | rfl | decide | assumption) ⟨by simp_all [bi_of, ob], rfl, rfl⟩ (by decide) (by decide) zd_M_in_15
  · refine jd_iload_n zd_M_in_5 rfl ?_
    refine jd_iload_n zd_M_in_6 rfl ?_
    refine jd_icmp_gt 14 zd_M_in_7 (by decide) (fun h_7 => ?_) (fun h_7 => ?_)
    · refine jd_iconst (v := 0) zd_M_in_14 (by decide) ?_
      exact jd_zret rfl (by first | rfl | decide | assumption) ⟨by simp_all [bi_of, ob], rfl, rfl⟩ (by decide) (by decide) zd_M_in_15
    · refine jd_iconst (v := 1) zd_M_in_10 (by decide) ?_
      refine jd_goto 15 zd_M_in_11 (by decide) ?_
      exact jd_zret rfl (by first | rfl | decide | assumption) ⟨by simp_all [bi_of, ob], rfl, rfl⟩ (by decide) (by decide) zd_M_in_15
set_option maxRecDepth 100000 in
set_option maxHeartbeats 4000000 in
theorem kc_isUnit {l : Launch} (hls : l.stackTraces = false) {D : va_G} {w : wd_T} {S : Nat → Nat → Int32} {L : Nat → Nat → Int64} {G : Nat → Nat → Int32} (hR : md_R w G S) (x : Int32) : ct_M l D w zy_M_isUnit (Cond.code zy_M_isUnit zb_M_isUnit 2 (Option.some Jvm.ClassFile.FieldType.boolean)) ({ frames := 1, cells := 0, slots := 0, locals := 22 } : Room) [av_r 400, av_i x] S L (po_i (bi_of (!ob x 0 (nI w.2.2.1 - 1))) S L) 0 0 := by
  refine ct_intro hls (own := zn_M) (by decide) rfl (Nat.le_of_ble_eq_true rfl) ?_
  refine jd_iload_n zd_M_isUnit_0 rfl ?_
  refine jd_iconst (v := 0) zd_M_isUnit_1 (by decide) ?_
  refine jd_aload_n zd_M_isUnit_2 rfl ?_
  refine jd_get rfl rfl zl_M 1 (by decide) zi_681 rfl rfl (rl_m (by decide)) (by decide) zd_M_isUnit_3 ?_
  rw [hR.1.1]
  refine jd_iconst (v := 1) zd_M_isUnit_6 (by decide) ?_
  refine jd_isub zd_M_isUnit_7 ?_
  refine jd_callS (n := 3) (kc_Min hls x 0 (nI w.2.2.1 - 1)) rfl zi_767 zi_768 zi_44 zi_769 (by decide +kernel) rfl rfl rfl (by decide) (Nat.le_of_ble_eq_true rfl) (by decide) zd_M_isUnit_8 (fun _ _ _ h => h.elim) (fun v S2 L2 hq => ?_)
  obtain ⟨rfl, rfl, rfl⟩ := hq
  exact jd_zret rfl (bi_nar _) ⟨rfl, rfl, rfl⟩ (by decide) (by decide) zd_M_isUnit_11
set_option maxRecDepth 100000 in
set_option maxHeartbeats 4000000 in
theorem kc_isPlace {l : Launch} (hls : l.stackTraces = false) {D : va_G} {w : wd_T} {S : Nat → Nat → Int32} {L : Nat → Nat → Int64} {G : Nat → Nat → Int32} (hR : md_R w G S) (x : Int32) : ct_M l D w zy_M_isPlace (Cond.code zy_M_isPlace zb_M_isPlace 2 (Option.some Jvm.ClassFile.FieldType.boolean)) ({ frames := 1, cells := 0, slots := 0, locals := 22 } : Room) [av_r 400, av_i x] S L (po_i (bi_of (!ob x 0 (nI w.2.2.2 - 1))) S L) 0 0 := by
  refine ct_intro hls (own := zn_M) (by decide) rfl (Nat.le_of_ble_eq_true rfl) ?_
  refine jd_iload_n zd_M_isPlace_0 rfl ?_
  refine jd_iconst (v := 0) zd_M_isPlace_1 (by decide) ?_
  refine jd_aload_n zd_M_isPlace_2 rfl ?_
  refine jd_get rfl rfl zl_M 10 (by decide) zi_690 rfl rfl (rl_m (by decide)) (by decide) zd_M_isPlace_3 ?_
  rw [hR.1.2.1]
  refine jd_iconst (v := 1) zd_M_isPlace_6 (by decide) ?_
  refine jd_isub zd_M_isPlace_7 ?_
  refine jd_callS (n := 3) (kc_Min hls x 0 (nI w.2.2.2 - 1)) rfl zi_767 zi_768 zi_44 zi_769 (by decide +kernel) rfl rfl rfl (by decide) (Nat.le_of_ble_eq_true rfl) (by decide) zd_M_isPlace_8 (fun _ _ _ h => h.elim) (fun v S2 L2 hq => ?_)
  obtain ⟨rfl, rfl, rfl⟩ := hq
  exact jd_zret rfl (bi_nar _) ⟨rfl, rfl, rfl⟩ (by decide) (by decide) zd_M_isPlace_11
set_option maxRecDepth 100000 in
set_option maxHeartbeats 4000000 in
theorem kc_thrown {l : Launch} (hls : l.stackTraces = false) {D : va_G} {w : wd_T} {S : Nat → Nat → Int32} {L : Nat → Nat → Int64}  : ct_M l D w zy_M_thrown (Cond.code zy_M_thrown zb_M_thrown 1 (Option.some Jvm.ClassFile.FieldType.int)) ({ frames := 0, cells := 0, slots := 0, locals := 0 } : Room) [av_r 400] S L (po_i (S 400 0) S L) 0 0 := by
  refine ct_intro hls (own := zn_M) (by decide) rfl (Nat.le_of_ble_eq_true rfl) ?_
  refine jd_aload_n zd_M_thrown_0 rfl ?_
  refine jd_get rfl rfl zl_M 0 (by decide) zi_680 rfl rfl (rl_m (by decide)) (by decide) zd_M_thrown_1 ?_
  exact jd_iret rfl ⟨rfl, rfl, rfl⟩ (by decide) (by decide) zd_M_thrown_4
set_option maxRecDepth 100000 in
set_option maxHeartbeats 4000000 in
theorem kc_MisGroup {l : Launch} (hls : l.stackTraces = false) {D : va_G} {w : wd_T} {S : Nat → Nat → Int32} {L : Nat → Nat → Int64} {G : Nat → Nat → Int32} (hA : ok_A w G) (hR : md_R w G S) {u : Nat} (hu : u < w.2.2.1) : ct_M l D w zy_M_isGroup (Cond.code zy_M_isGroup zb_M_isGroup 2 (Option.some Jvm.ClassFile.FieldType.boolean)) ({ frames := 0, cells := 0, slots := 0, locals := 0 } : Room) [av_r 400, av_i (nI u)] S L (po_i (bi_of (fa_gr G u)) S L) 0 0 := by
  have h12 := hA.1.1
  have h13 := hA.1.2.1
  refine ct_intro hls (own := zn_M) (by decide) rfl (Nat.le_of_ble_eq_true rfl) ?_
  refine jd_aload_n zd_M_isGroup_0 rfl ?_
  refine jd_get rfl rfl zl_M 4 (by decide) zi_684 rfl rfl (rl_m (by decide)) (by decide) zd_M_isGroup_1 ?_
  refine jd_iload_n zd_M_isGroup_4 rfl ?_
  refine jd_ildN (r := 405) (c := u) rfl rfl (by omega) (n := 12) (by decide) (rl_m (by decide)) (by decide) zd_M_isGroup_5 ?_
  rw [mr_405 hR hu]
  refine jd_iload_n zd_M_isGroup_6 rfl ?_
  refine jd_icmp_ne 23 zd_M_isGroup_7 (by decide) (fun h_7 => ?_) (fun h_7 => ?_)
  · refine jd_iconst (v := 0) zd_M_isGroup_23 (by decide) ?_
    exact jd_zret rfl (by first | rfl | decide | assumption) ⟨by simp_all [bi_of, fa_gr, fa_in], rfl, rfl⟩ (by decide) (by decide) zd_M_isGroup_24
  · refine jd_aload_n zd_M_isGroup_10 rfl ?_
    refine jd_get rfl rfl zl_M 7 (by decide) zi_687 rfl rfl (rl_m (by decide)) (by decide) zd_M_isGroup_11 ?_
    refine jd_iload_n zd_M_isGroup_14 rfl ?_
    refine jd_zldN (r := 408) (c := u) rfl rfl (by omega) (n := 12) (by decide) (rl_m (by decide)) (by decide) zd_M_isGroup_15 ?_
    rw [mr_408 hR hu]
    refine jd_if_ne 23 zd_M_isGroup_16 (by decide) (fun h_16 => ?_) (fun h_16 => ?_)
    · refine jd_iconst (v := 0) zd_M_isGroup_23 (by decide) ?_
      exact jd_zret rfl (by first | rfl | decide | assumption) ⟨by simp_all [bi_of, fa_gr, fa_in], rfl, rfl⟩ (by decide) (by decide) zd_M_isGroup_24
    · refine jd_iconst (v := 1) zd_M_isGroup_19 (by decide) ?_
      refine jd_goto 24 zd_M_isGroup_20 (by decide) ?_
      exact jd_zret rfl (by first | rfl | decide | assumption) ⟨by simp_all [bi_of, fa_gr, fa_in], rfl, rfl⟩ (by decide) (by decide) zd_M_isGroup_24
set_option maxRecDepth 100000 in
set_option maxHeartbeats 4000000 in
theorem kc_MisPlanned {l : Launch} (hls : l.stackTraces = false) {D : va_G} {w : wd_T} {S : Nat → Nat → Int32} {L : Nat → Nat → Int64} {G : Nat → Nat → Int32} (hA : ok_A w G) (hR : md_R w G S) {u : Nat} (hu : u < w.2.2.1) : ct_M l D w zy_M_isPlanned (Cond.code zy_M_isPlanned zb_M_isPlanned 2 (Option.some Jvm.ClassFile.FieldType.boolean)) ({ frames := 0, cells := 0, slots := 0, locals := 0 } : Room) [av_r 400, av_i (nI u)] S L (po_i (bi_of (fa_pl G u)) S L) 0 0 := by
  have h12 := hA.1.1
  have h13 := hA.1.2.1
  refine ct_intro hls (own := zn_M) (by decide) rfl (Nat.le_of_ble_eq_true rfl) ?_
  refine jd_aload_n zd_M_isPlanned_0 rfl ?_
  refine jd_get rfl rfl zl_M 7 (by decide) zi_687 rfl rfl (rl_m (by decide)) (by decide) zd_M_isPlanned_1 ?_
  refine jd_iload_n zd_M_isPlanned_4 rfl ?_
  refine jd_zldN (r := 408) (c := u) rfl rfl (by omega) (n := 12) (by decide) (rl_m (by decide)) (by decide) zd_M_isPlanned_5 ?_
  rw [mr_408 hR hu]
  refine jd_if_ne 23 zd_M_isPlanned_6 (by decide) (fun h_6 => ?_) (fun h_6 => ?_)
  · refine jd_iconst (v := 0) zd_M_isPlanned_23 (by decide) ?_
    exact jd_zret rfl (by first | rfl | decide | assumption) ⟨by simp_all [bi_of, fa_pl], rfl, rfl⟩ (by decide) (by decide) zd_M_isPlanned_24
  · refine jd_aload_n zd_M_isPlanned_9 rfl ?_
    refine jd_get rfl rfl zl_M 6 (by decide) zi_686 rfl rfl (rl_m (by decide)) (by decide) zd_M_isPlanned_10 ?_
    refine jd_iload_n zd_M_isPlanned_13 rfl ?_
    refine jd_ildN (r := 407) (c := u) rfl rfl (by omega) (n := 12) (by decide) (rl_m (by decide)) (by decide) zd_M_isPlanned_14 ?_
    rw [mr_407 hR hu]
    refine jd_iconst (v := (-1)) zd_M_isPlanned_15 (by decide) ?_
    refine jd_icmp_eq 23 zd_M_isPlanned_16 (by decide) (fun h_16 => ?_) (fun h_16 => ?_)
    · refine jd_iconst (v := 0) zd_M_isPlanned_23 (by decide) ?_
      exact jd_zret rfl (by first | rfl | decide | assumption) ⟨by simp_all [bi_of, fa_pl], rfl, rfl⟩ (by decide) (by decide) zd_M_isPlanned_24
    · refine jd_iconst (v := 1) zd_M_isPlanned_19 (by decide) ?_
      refine jd_goto 24 zd_M_isPlanned_20 (by decide) ?_
      exact jd_zret rfl (by first | rfl | decide | assumption) ⟨by simp_all [bi_of, fa_pl], rfl, rfl⟩ (by decide) (by decide) zd_M_isPlanned_24
set_option maxRecDepth 100000 in
set_option maxHeartbeats 4000000 in
theorem kl_MplannedFor {l : Launch} (hls : l.stackTraces = false) {D : va_G} {w : wd_T} {S : Nat → Nat → Int32} {L : Nat → Nat → Int64} {G : Nat → Nat → Int32} (hA : ok_A w G) (hR : md_R w G S) (p : Int32) {Qp : jd_P}  : ∀ (k u : Nat), u ≤ w.2.2.1 → w.2.2.1 < u + k → Qp.1 (some (av_i (fa_pf G p (w.2.2.1 - u) u))) S L → jd_J l D w zn_M zb_M_plannedFor 3 (Option.some Jvm.ClassFile.FieldType.int) [] ({ frames := 1, cells := 0, slots := 0, locals := 21 } : Room) 0 0 Qp 0 0 2 [(0, av_r 400), (1, av_i p), (2, av_i (nI u))] [] S L := by
  have h12 := hA.1.1
  have h13 := hA.1.2.1
  intro k
  induction k with
  | zero => intro u h1 h2; omega
  | succ k ih =>
    intro u hu hk hQ
    refine jd_iload_n zd_M_plannedFor_2 rfl ?_
    refine jd_aload_n zd_M_plannedFor_3 rfl ?_
    refine jd_get rfl rfl zl_M 1 (by decide) zi_681 rfl rfl (rl_m (by decide)) (by decide) zd_M_plannedFor_4 ?_
    refine jd_icmp_ge 36 zd_M_plannedFor_7 (by decide) (fun h_7 => ?_) (fun h_7 => ?_)
    · have e_u := nI_end hR.1.1 (by omega) hu h_7
      subst e_u
      refine jd_iconst (v := (-1)) zd_M_plannedFor_36 (by decide) ?_
      exact jd_iret rfl (by simp [fa_pf] at hQ; exact hQ) (by decide) (by decide) zd_M_plannedFor_37
    · have hu2 := nI_on hR.1.1 (by omega) hu h_7
      have e_k : w.2.2.1 - u = (w.2.2.1 - (u + 1)) + 1 := by omega
      rw [e_k] at hQ
      simp only [fa_pf] at hQ
      refine jd_aload_n zd_M_plannedFor_10 rfl ?_
      refine jd_iload_n zd_M_plannedFor_11 rfl ?_
      refine jd_callV (n := 1) (kc_MisGroup hls hA hR hu2) rfl rfl rfl (rl_m (by decide)) (by decide) zi_815 zi_817 zi_29 zi_44 zi_818 (by decide +kernel) rfl rfl rfl (by decide) (Nat.le_of_ble_eq_true rfl) (by decide) zd_M_plannedFor_12 (fun _ _ _ h => h.elim) (fun v S2 L2 hq => ?_)
      obtain ⟨rfl, rfl, rfl⟩ := hq
      refine jd_if_eq 30 zd_M_plannedFor_15 (by decide) (fun h_15 => ?_) (fun h_15 => ?_)
      · rw [if_neg (by rintro ⟨q1, q2⟩; simp_all [bi_of])] at hQ
        refine jd_iinc (v := nI (u + 1)) zd_M_plannedFor_30 rfl (nI_inc u) (by decide) ?_
        refine jd_goto 2 zd_M_plannedFor_33 (by decide) ?_
        exact jd_sub [(0, av_r 400), (1, av_i p), (2, av_i (nI (u + 1)))] ⟨rfl, rfl, rfl, trivial⟩ (ih (u + 1) (by omega) (by omega) hQ)
      · refine jd_aload_n zd_M_plannedFor_18 rfl ?_
        refine jd_get rfl rfl zl_M 6 (by decide) zi_686 rfl rfl (rl_m (by decide)) (by decide) zd_M_plannedFor_19 ?_
        refine jd_iload_n zd_M_plannedFor_22 rfl ?_
        refine jd_ildN (r := 407) (c := u) rfl rfl (by omega) (n := 12) (by decide) (rl_m (by decide)) (by decide) zd_M_plannedFor_23 ?_
        rw [mr_407 hR hu2]
        refine jd_iload_n zd_M_plannedFor_24 rfl ?_
        refine jd_icmp_ne 30 zd_M_plannedFor_25 (by decide) (fun h_25 => ?_) (fun h_25 => ?_)
        · rw [if_neg (by rintro ⟨q1, q2⟩; simp_all [bi_of])] at hQ
          refine jd_iinc (v := nI (u + 1)) zd_M_plannedFor_30 rfl (nI_inc u) (by decide) ?_
          refine jd_goto 2 zd_M_plannedFor_33 (by decide) ?_
          exact jd_sub [(0, av_r 400), (1, av_i p), (2, av_i (nI (u + 1)))] ⟨rfl, rfl, rfl, trivial⟩ (ih (u + 1) (by omega) (by omega) hQ)
        · refine jd_iload_n zd_M_plannedFor_28 rfl ?_
          rw [if_pos ⟨by cases hg : fa_gr G u <;> simp_all [bi_of], h_25⟩] at hQ
          exact jd_iret rfl hQ (by decide) (by decide) zd_M_plannedFor_29
set_option maxRecDepth 100000 in
set_option maxHeartbeats 4000000 in
theorem kc_MplannedFor {l : Launch} (hls : l.stackTraces = false) {D : va_G} {w : wd_T} {S : Nat → Nat → Int32} {L : Nat → Nat → Int64} {G : Nat → Nat → Int32} (hA : ok_A w G) (hR : md_R w G S) (p : Int32) : ct_M l D w zy_M_plannedFor (Cond.code zy_M_plannedFor zb_M_plannedFor 3 (Option.some Jvm.ClassFile.FieldType.int)) ({ frames := 1, cells := 0, slots := 0, locals := 21 } : Room) [av_r 400, av_i p] S L (po_i (fa_pf G p w.2.2.1 0) S L) 0 0 := by
  refine ct_intro hls (own := zn_M) (by decide) rfl (Nat.le_of_ble_eq_true rfl) ?_
  refine jd_iconst (v := 0) zd_M_plannedFor_0 (by decide) ?_
  refine jd_istore_n zd_M_plannedFor_1 (by decide) ?_
  exact jd_sub [(0, av_r 400), (1, av_i p), (2, av_i (nI 0))] ⟨rfl, rfl, rfl, trivial⟩ (kl_MplannedFor (Qp := po_i (fa_pf G p w.2.2.1 0) S L) hls hA hR p (w.2.2.1 + 1) 0 (by omega) (by omega) ⟨rfl, rfl, rfl⟩)
set_option maxRecDepth 100000 in
set_option maxHeartbeats 4000000 in
theorem kl_sizeOf {l : Launch} (hls : l.stackTraces = false) {D : va_G} {w : wd_T} {S : Nat → Nat → Int32} {L : Nat → Nat → Int64} {G : Nat → Nat → Int32} (hA : ok_A w G) (hR : md_R w G S) {g : Nat} (hg : g < w.2.2.1) (hl : fa_gr G g = true) {Qp : jd_P} (hQ : Qp.1 (some (av_i (fa_ga G (nI g) w.2.2.1 2))) S L) : ∀ (k u : Nat), u ≤ w.2.2.1 → w.2.2.1 < u + k → jd_J l D w zn_M zb_M_sizeOf 4 (Option.some Jvm.ClassFile.FieldType.int) [] ({ frames := 0, cells := 0, slots := 0, locals := 0 } : Room) 0 0 Qp 0 0 4 [(0, av_r 400), (1, av_i (nI g)), (2, av_i (fa_ga G (nI g) u 2)), (3, av_i (nI u))] [] S L := by
  have h12 := hA.1.1
  have h13 := hA.1.2.1
  intro k
  induction k with
  | zero => intro u h1 h2; omega
  | succ k ih =>
    intro u hu hk
    refine jd_iload_n zd_M_sizeOf_4 rfl ?_
    refine jd_aload_n zd_M_sizeOf_5 rfl ?_
    refine jd_get rfl rfl zl_M 1 (by decide) zi_681 rfl rfl (rl_m (by decide)) (by decide) zd_M_sizeOf_6 ?_
    refine jd_icmp_ge 41 zd_M_sizeOf_9 (by decide) (fun h_9 => ?_) (fun h_9 => ?_)
    · have e_u := nI_end hR.1.1 (by omega) hu h_9
      subst e_u
      refine jd_iload_n zd_M_sizeOf_41 rfl ?_
      exact jd_iret rfl hQ (by decide) (by decide) zd_M_sizeOf_42
    · have hu2 := nI_on hR.1.1 (by omega) hu h_9
      refine jd_iload_n zd_M_sizeOf_12 rfl ?_
      refine jd_aload_n zd_M_sizeOf_13 rfl ?_
      refine jd_get rfl rfl zl_M 4 (by decide) zi_684 rfl rfl (rl_m (by decide)) (by decide) zd_M_sizeOf_14 ?_
      refine jd_iload_n zd_M_sizeOf_17 rfl ?_
      refine jd_ildN (r := 405) (c := u) rfl rfl (by omega) (n := 12) (by decide) (rl_m (by decide)) (by decide) zd_M_sizeOf_18 ?_
      rw [mr_405 hR hu2]
      refine jd_iload_n zd_M_sizeOf_19 rfl ?_
      refine jd_icmp_ne 32 zd_M_sizeOf_20 (by decide) (fun h_20 => ?_) (fun h_20 => ?_)
      · refine jd_iconst (v := 0) zd_M_sizeOf_32 (by decide) ?_
        refine jd_iadd zd_M_sizeOf_33 ?_
        refine jd_istore_n zd_M_sizeOf_34 (by decide) ?_
        refine jd_iinc (v := nI (u + 1)) zd_M_sizeOf_35 rfl (nI_inc u) (by decide) ?_
        refine jd_goto 4 zd_M_sizeOf_38 (by decide) ?_
        have e_c : fa_ga G (nI g) (u + 1) 2 = fa_ga G (nI g) u 2 + 0 := by simp only [fa_ga]; rw [if_neg (fun z => h_20 ((mi_in hA hu2 hg hl).mpr z)), Int32.add_zero]
        exact jd_sub [(0, av_r 400), (1, av_i (nI g)), (2, av_i (fa_ga G (nI g) (u + 1) 2)), (3, av_i (nI (u + 1)))] ⟨rfl, rfl, by rw [e_c]; rfl, rfl, trivial⟩ (ih (u + 1) (by omega) (by omega))
      · refine jd_aload_n zd_M_sizeOf_23 rfl ?_
        refine jd_get rfl rfl zl_M 3 (by decide) zi_683 rfl rfl (rl_m (by decide)) (by decide) zd_M_sizeOf_24 ?_
        refine jd_iload_n zd_M_sizeOf_27 rfl ?_
        refine jd_ildN (r := 404) (c := u) rfl rfl (by omega) (n := 12) (by decide) (rl_m (by decide)) (by decide) zd_M_sizeOf_28 ?_
        rw [mr_404 hR hu2]
        refine jd_goto 33 zd_M_sizeOf_29 (by decide) ?_
        refine jd_iadd zd_M_sizeOf_33 ?_
        refine jd_istore_n zd_M_sizeOf_34 (by decide) ?_
        refine jd_iinc (v := nI (u + 1)) zd_M_sizeOf_35 rfl (nI_inc u) (by decide) ?_
        refine jd_goto 4 zd_M_sizeOf_38 (by decide) ?_
        have e_c : fa_ga G (nI g) (u + 1) 2 = fa_ga G (nI g) u 2 + G (100 + u) 1 := by simp only [fa_ga]; rw [if_pos ((mi_in hA hu2 hg hl).mp h_20)]; rfl
        exact jd_sub [(0, av_r 400), (1, av_i (nI g)), (2, av_i (fa_ga G (nI g) (u + 1) 2)), (3, av_i (nI (u + 1)))] ⟨rfl, rfl, by rw [e_c]; rfl, rfl, trivial⟩ (ih (u + 1) (by omega) (by omega))
set_option maxRecDepth 100000 in
set_option maxHeartbeats 4000000 in
theorem kc_sizeOf {l : Launch} (hls : l.stackTraces = false) {D : va_G} {w : wd_T} {S : Nat → Nat → Int32} {L : Nat → Nat → Int64} {G : Nat → Nat → Int32} (hA : ok_A w G) (hR : md_R w G S) {g : Nat} (hg : g < w.2.2.1) (hl : fa_gr G g = true) : ct_M l D w zy_M_sizeOf (Cond.code zy_M_sizeOf zb_M_sizeOf 4 (Option.some Jvm.ClassFile.FieldType.int)) ({ frames := 0, cells := 0, slots := 0, locals := 0 } : Room) [av_r 400, av_i (nI g)] S L (po_i (fa_ga G (nI g) w.2.2.1 2) S L) 0 0 := by
  refine ct_intro hls (own := zn_M) (by decide) rfl (Nat.le_of_ble_eq_true rfl) ?_
  refine jd_iconst (v := 0) zd_M_sizeOf_0 (by decide) ?_
  refine jd_istore_n zd_M_sizeOf_1 (by decide) ?_
  refine jd_iconst (v := 0) zd_M_sizeOf_2 (by decide) ?_
  refine jd_istore_n zd_M_sizeOf_3 (by decide) ?_
  exact jd_sub [(0, av_r 400), (1, av_i (nI g)), (2, av_i (fa_ga G (nI g) 0 2)), (3, av_i (nI 0))] ⟨rfl, rfl, rfl, rfl, trivial⟩ (kl_sizeOf (Qp := po_i (fa_ga G (nI g) w.2.2.1 2) S L) hls hA hR hg hl ⟨rfl, rfl, rfl⟩ (w.2.2.1 + 1) 0 (by omega) (by omega))
set_option maxRecDepth 100000 in
set_option maxHeartbeats 4000000 in
theorem kl_costOf {l : Launch} (hls : l.stackTraces = false) {D : va_G} {w : wd_T} {S : Nat → Nat → Int32} {L : Nat → Nat → Int64} {G : Nat → Nat → Int32} (hA : ok_A w G) (hR : md_R w G S) {g : Nat} (hg : g < w.2.2.1) (hl : fa_gr G g = true) {p : Nat} (hp : p < w.2.2.2) {Qp : jd_P} (hnext : jd_J l D w zn_M zb_M_costOf 5 (Option.some Jvm.ClassFile.FieldType.int) [] ({ frames := 1, cells := 0, slots := 0, locals := 23 } : Room) 0 0 Qp 0 0 87 [(0, av_r 400), (1, av_i (nI g)), (2, av_i (nI p)), (3, av_i (fa_ga G (nI g) w.2.2.1 3))] [] S L) : ∀ (k u : Nat), u ≤ w.2.2.1 → w.2.2.1 < u + k → jd_J l D w zn_M zb_M_costOf 5 (Option.some Jvm.ClassFile.FieldType.int) [] ({ frames := 1, cells := 0, slots := 0, locals := 23 } : Room) 0 0 Qp 0 0 32 [(0, av_r 400), (1, av_i (nI g)), (2, av_i (nI p)), (3, av_i (fa_ga G (nI g) u 3)), (4, av_i (nI u))] [] S L := by
  have h12 := hA.1.1
  have h13 := hA.1.2.1
  intro k
  induction k with
  | zero => intro u h1 h2; omega
  | succ k ih =>
    intro u hu hk
    refine jd_iload zd_M_costOf_32 rfl ?_
    refine jd_aload_n zd_M_costOf_34 rfl ?_
    refine jd_get rfl rfl zl_M 1 (by decide) zi_681 rfl rfl (rl_m (by decide)) (by decide) zd_M_costOf_35 ?_
    refine jd_icmp_ge 87 zd_M_costOf_38 (by decide) (fun h_38 => ?_) (fun h_38 => ?_)
    · have e_u := nI_end hR.1.1 (by omega) hu h_38
      subst e_u
      exact jd_sub [(0, av_r 400), (1, av_i (nI g)), (2, av_i (nI p)), (3, av_i (fa_ga G (nI g) w.2.2.1 3))] ⟨rfl, rfl, rfl, rfl, trivial⟩ hnext
    · have hu2 := nI_on hR.1.1 (by omega) hu h_38
      obtain ⟨kd, hkd, ekd⟩ := (hA.2.1 u hu2).1
      refine jd_aload_n zd_M_costOf_41 rfl ?_
      refine jd_get rfl rfl zl_M 4 (by decide) zi_684 rfl rfl (rl_m (by decide)) (by decide) zd_M_costOf_42 ?_
      refine jd_iload zd_M_costOf_45 rfl ?_
      refine jd_ildN (r := 405) (c := u) rfl rfl (by omega) (n := 12) (by decide) (rl_m (by decide)) (by decide) zd_M_costOf_47 ?_
      rw [mr_405 hR hu2]
      refine jd_iload_n zd_M_costOf_48 rfl ?_
      refine jd_icmp_ne 81 zd_M_costOf_49 (by decide) (fun h_49 => ?_) (fun h_49 => ?_)
      · refine jd_iinc (v := nI (u + 1)) zd_M_costOf_81 rfl (nI_inc u) (by decide) ?_
        refine jd_goto 32 zd_M_costOf_84 (by decide) ?_
        have e_c : fa_ga G (nI g) (u + 1) 3 = fa_ga G (nI g) u 3 := by simp only [fa_ga]; rw [if_neg (fun z => h_49 ((mi_in hA hu2 hg hl).mpr z))]
        exact jd_sub [(0, av_r 400), (1, av_i (nI g)), (2, av_i (nI p)), (3, av_i (fa_ga G (nI g) (u + 1) 3)), (4, av_i (nI (u + 1)))] ⟨rfl, rfl, rfl, by rw [e_c]; rfl, rfl, trivial⟩ (ih (u + 1) (by omega) (by omega))
      · refine jd_aload_n zd_M_costOf_52 rfl ?_
        refine jd_get rfl rfl zl_M 16 (by decide) zi_696 rfl rfl (rl_m (by decide)) (by decide) zd_M_costOf_53 ?_
        refine jd_aload_n zd_M_costOf_56 rfl ?_
        refine jd_get rfl rfl zl_M 2 (by decide) zi_682 rfl rfl (rl_m (by decide)) (by decide) zd_M_costOf_57 ?_
        refine jd_iload zd_M_costOf_60 rfl ?_
        refine jd_ildN (r := 403) (c := u) rfl rfl (by omega) (n := 12) (by decide) (rl_m (by decide)) (by decide) zd_M_costOf_62 ?_
        rw [mr_403 hR hu2]
        refine jd_ildN (r := 417) (c := kd) rfl ekd (by omega) (n := 8) (by decide) (rl_m (by decide)) (by decide) zd_M_costOf_63 ?_
        rw [mr_417 hR hkd]
        refine jd_iload_n zd_M_costOf_64 rfl ?_
        refine jd_icmp_le 81 zd_M_costOf_65 (by decide) (fun h_65 => ?_) (fun h_65 => ?_)
        · refine jd_iinc (v := nI (u + 1)) zd_M_costOf_81 rfl (nI_inc u) (by decide) ?_
          refine jd_goto 32 zd_M_costOf_84 (by decide) ?_
          have e_c : fa_ga G (nI g) (u + 1) 3 = fa_ga G (nI g) u 3 := by simp only [fa_ga]; rw [if_pos ((mi_in hA hu2 hg hl).mp h_49)]; show (if fa_ga G (nI g) u 3 < G 3 (G (100 + u) 0).toNatClampNeg then G 3 (G (100 + u) 0).toNatClampNeg else fa_ga G (nI g) u 3) = _; rw [ekd, nI_clamp (show kd < 2 ^ 31 by omega), if_neg (Int32.not_lt.mpr h_65)]
          exact jd_sub [(0, av_r 400), (1, av_i (nI g)), (2, av_i (nI p)), (3, av_i (fa_ga G (nI g) (u + 1) 3)), (4, av_i (nI (u + 1)))] ⟨rfl, rfl, rfl, by rw [e_c]; rfl, rfl, trivial⟩ (ih (u + 1) (by omega) (by omega))
        · refine jd_aload_n zd_M_costOf_68 rfl ?_
          refine jd_get rfl rfl zl_M 16 (by decide) zi_696 rfl rfl (rl_m (by decide)) (by decide) zd_M_costOf_69 ?_
          refine jd_aload_n zd_M_costOf_72 rfl ?_
          refine jd_get rfl rfl zl_M 2 (by decide) zi_682 rfl rfl (rl_m (by decide)) (by decide) zd_M_costOf_73 ?_
          refine jd_iload zd_M_costOf_76 rfl ?_
          refine jd_ildN (r := 403) (c := u) rfl rfl (by omega) (n := 12) (by decide) (rl_m (by decide)) (by decide) zd_M_costOf_78 ?_
          rw [mr_403 hR hu2]
          refine jd_ildN (r := 417) (c := kd) rfl ekd (by omega) (n := 8) (by decide) (rl_m (by decide)) (by decide) zd_M_costOf_79 ?_
          rw [mr_417 hR hkd]
          refine jd_istore_n zd_M_costOf_80 (by decide) ?_
          refine jd_iinc (v := nI (u + 1)) zd_M_costOf_81 rfl (nI_inc u) (by decide) ?_
          refine jd_goto 32 zd_M_costOf_84 (by decide) ?_
          have e_c : fa_ga G (nI g) (u + 1) 3 = G 3 kd := by simp only [fa_ga]; rw [if_pos ((mi_in hA hu2 hg hl).mp h_49)]; show (if fa_ga G (nI g) u 3 < G 3 (G (100 + u) 0).toNatClampNeg then G 3 (G (100 + u) 0).toNatClampNeg else fa_ga G (nI g) u 3) = _; rw [ekd, nI_clamp (show kd < 2 ^ 31 by omega), if_pos (Int32.not_le.mp h_65)]
          exact jd_sub [(0, av_r 400), (1, av_i (nI g)), (2, av_i (nI p)), (3, av_i (fa_ga G (nI g) (u + 1) 3)), (4, av_i (nI (u + 1)))] ⟨rfl, rfl, rfl, by rw [e_c]; rfl, rfl, trivial⟩ (ih (u + 1) (by omega) (by omega))
set_option maxRecDepth 100000 in
set_option maxHeartbeats 4000000 in
theorem kc_costOf {l : Launch} (hls : l.stackTraces = false) {D : va_G} {w : wd_T} {S : Nat → Nat → Int32} {L : Nat → Nat → Int64} {G : Nat → Nat → Int32} (hA : ok_A w G) (hR : md_R w G S) {g : Nat} (hg : g < w.2.2.1) (hl : fa_gr G g = true) {p : Nat} (hp : p < w.2.2.2) : ct_M l D w zy_M_costOf (Cond.code zy_M_costOf zb_M_costOf 5 (Option.some Jvm.ClassFile.FieldType.int)) ({ frames := 1, cells := 0, slots := 0, locals := 23 } : Room) [av_r 400, av_i (nI g), av_i (nI p)] S L (po_i (fa_co G (fa_ga G (nI g) w.2.2.1) g p) S L) 0 0 := by
  have h12 := hA.1.1
  have h13 := hA.1.2.1
  refine ct_intro hls (own := zn_M) (by decide) rfl (Nat.le_of_ble_eq_true rfl) ?_
  refine jd_aload_n zd_M_costOf_0 rfl ?_
  refine jd_get rfl rfl zl_M 9 (by decide) zi_689 rfl rfl (rl_m (by decide)) (by decide) zd_M_costOf_1 ?_
  refine jd_bipush (v := 12) zd_M_costOf_4 (by decide) ?_
  refine jd_iload_n zd_M_costOf_6 rfl ?_
  refine jd_imul zd_M_costOf_7 ?_
  refine jd_iload_n zd_M_costOf_8 rfl ?_
  refine jd_iadd zd_M_costOf_9 ?_
  refine jd_ildN (r := 410) (c := (12 * g + p)) rfl (ix12 _ _) (by omega) (n := 144) (by decide) (rl_m (by decide)) (by decide) zd_M_costOf_10 ?_
  rw [mr_410 hR hg (show p < 12 by omega)]
  refine jd_iconst (v := (-1)) zd_M_costOf_11 (by decide) ?_
  refine jd_icmp_eq 27 zd_M_costOf_12 (by decide) (fun h_12 => ?_) (fun h_12 => ?_)
  · refine jd_iconst (v := 0) zd_M_costOf_27 (by decide) ?_
    refine jd_istore_n zd_M_costOf_28 (by decide) ?_
    refine jd_iconst (v := 0) zd_M_costOf_29 (by decide) ?_
    refine jd_istore zd_M_costOf_30 (by decide) ?_
    refine jd_sub [(0, av_r 400), (1, av_i (nI g)), (2, av_i (nI p)), (3, av_i (fa_ga G (nI g) 0 3)), (4, av_i (nI 0))] ⟨rfl, rfl, rfl, rfl, rfl, trivial⟩ (kl_costOf hls hA hR hg hl hp ?_ (w.2.2.1 + 1) 0 (by omega) (by omega))
    refine jd_aload_n zd_M_costOf_87 rfl ?_
    refine jd_get rfl rfl zl_M 14 (by decide) zi_694 rfl rfl (rl_m (by decide)) (by decide) zd_M_costOf_88 ?_
    refine jd_iload_n zd_M_costOf_91 rfl ?_
    refine jd_ildN (r := 415) (c := p) rfl rfl (by omega) (n := 12) (by decide) (rl_m (by decide)) (by decide) zd_M_costOf_92 ?_
    rw [mr_415 hR hp]
    refine jd_iload_n zd_M_costOf_93 rfl ?_
    refine jd_imul zd_M_costOf_94 ?_
    refine jd_aload_n zd_M_costOf_95 rfl ?_
    refine jd_get rfl rfl zl_M 13 (by decide) zi_693 rfl rfl (rl_m (by decide)) (by decide) zd_M_costOf_96 ?_
    refine jd_iload_n zd_M_costOf_99 rfl ?_
    refine jd_ildN (r := 414) (c := p) rfl rfl (by omega) (n := 12) (by decide) (rl_m (by decide)) (by decide) zd_M_costOf_100 ?_
    rw [mr_414 hR hp]
    refine jd_iadd zd_M_costOf_101 ?_
    refine jd_aload_n zd_M_costOf_102 rfl ?_
    refine jd_iload_n zd_M_costOf_103 rfl ?_
    refine jd_callV (n := 1) (kc_sizeOf hls hA hR hg hl) rfl rfl rfl (rl_m (by decide)) (by decide) zi_827 zi_829 zi_32 zi_44 zi_830 (by decide +kernel) rfl rfl rfl (by decide) (Nat.le_of_ble_eq_true rfl) (by decide) zd_M_costOf_104 (fun _ _ _ h => h.elim) (fun v S2 L2 hq => ?_)
    obtain ⟨rfl, rfl, rfl⟩ := hq
    refine jd_isub zd_M_costOf_107 ?_
    exact jd_iret rfl ⟨by unfold fa_co; rw [if_pos h_12], rfl, rfl⟩ (by decide) (by decide) zd_M_costOf_108
  · refine jd_aload_n zd_M_costOf_15 rfl ?_
    refine jd_get rfl rfl zl_M 9 (by decide) zi_689 rfl rfl (rl_m (by decide)) (by decide) zd_M_costOf_16 ?_
    refine jd_bipush (v := 12) zd_M_costOf_19 (by decide) ?_
    refine jd_iload_n zd_M_costOf_21 rfl ?_
    refine jd_imul zd_M_costOf_22 ?_
    refine jd_iload_n zd_M_costOf_23 rfl ?_
    refine jd_iadd zd_M_costOf_24 ?_
    refine jd_ildN (r := 410) (c := (12 * g + p)) rfl (ix12 _ _) (by omega) (n := 144) (by decide) (rl_m (by decide)) (by decide) zd_M_costOf_25 ?_
    rw [mr_410 hR hg (show p < 12 by omega)]
    exact jd_iret rfl ⟨by unfold fa_co; rw [if_neg h_12], rfl, rfl⟩ (by decide) (by decide) zd_M_costOf_26
set_option maxRecDepth 100000 in
set_option maxHeartbeats 4000000 in
theorem kc_keeps1 {l : Launch} (hls : l.stackTraces = false) {D : va_G} {w : wd_T} {S : Nat → Nat → Int32} {L : Nat → Nat → Int64} {G : Nat → Nat → Int32} (hA : ok_A w G) (hR : md_R w G S) {g : Nat} (hg : g < w.2.2.1) (hl : fa_gr G g = true) {p : Nat} (hp : p < w.2.2.2) : ct_M l D w zy_M_keeps (Cond.code zy_M_keeps zb_M_keeps 5 (Option.some Jvm.ClassFile.FieldType.boolean)) ({ frames := 1, cells := 0, slots := 0, locals := 23 } : Room) [av_r 400, av_i (nI g), av_i (nI p), av_i (nI 1)] S L (po_i (bi_of (fa_kp (fa_ga G (nI g) w.2.2.1) (G (300 + p)) (nI p) 1)) S L) 0 0 := by
  have h12 := hA.1.1
  have h13 := hA.1.2.1
  refine ct_intro hls (own := zn_M) (by decide) rfl (Nat.le_of_ble_eq_true rfl) ?_
  refine jd_iload_n zd_M_keeps_0 rfl ?_
  refine jd_iconst (v := 1) zd_M_keeps_1 (by decide) ?_
  refine jd_icmp_ne 20 zd_M_keeps_2 (by decide) (fun h => absurd rfl h) (fun _ => ?_)
  refine jd_aload_n zd_M_keeps_5 rfl ?_
  refine jd_get rfl rfl zl_M 15 (by decide) zi_695 rfl rfl (rl_m (by decide)) (by decide) zd_M_keeps_6 ?_
  refine jd_iload_n zd_M_keeps_9 rfl ?_
  refine jd_zldN (r := 416) (c := p) rfl rfl (by omega) (n := 12) (by decide) (rl_m (by decide)) (by decide) zd_M_keeps_10 ?_
  rw [mr_416 hR hp]
  refine jd_if_ne 18 zd_M_keeps_11 (by decide) (fun h_11 => ?_) (fun h_11 => ?_)
  · refine jd_iconst (v := 0) zd_M_keeps_18 (by decide) ?_
    exact jd_zret rfl (by first | rfl | decide | assumption) ⟨by simp_all [bi_of, fa_kp], rfl, rfl⟩ (by decide) (by decide) zd_M_keeps_19
  · refine jd_iconst (v := 1) zd_M_keeps_14 (by decide) ?_
    refine jd_goto 19 zd_M_keeps_15 (by decide) ?_
    exact jd_zret rfl (by first | rfl | decide | assumption) ⟨by simp_all [bi_of, fa_kp], rfl, rfl⟩ (by decide) (by decide) zd_M_keeps_19
set_option maxRecDepth 100000 in
set_option maxHeartbeats 4000000 in
theorem kc_keeps4 {l : Launch} (hls : l.stackTraces = false) {D : va_G} {w : wd_T} {S : Nat → Nat → Int32} {L : Nat → Nat → Int64} {G : Nat → Nat → Int32} (hA : ok_A w G) (hR : md_R w G S) {g : Nat} (hg : g < w.2.2.1) (hl : fa_gr G g = true) {p : Nat} (hp : p < w.2.2.2) : ct_M l D w zy_M_keeps (Cond.code zy_M_keeps zb_M_keeps 5 (Option.some Jvm.ClassFile.FieldType.boolean)) ({ frames := 1, cells := 0, slots := 0, locals := 23 } : Room) [av_r 400, av_i (nI g), av_i (nI p), av_i (nI 4)] S L (po_i (bi_of (fa_kp (fa_ga G (nI g) w.2.2.1) (G (300 + p)) (nI p) 4)) S L) 0 0 := by
  have h12 := hA.1.1
  have h13 := hA.1.2.1
  refine ct_intro hls (own := zn_M) (by decide) rfl (Nat.le_of_ble_eq_true rfl) ?_
  refine jd_iload_n zd_M_keeps_0 rfl ?_
  refine jd_iconst (v := 1) zd_M_keeps_1 (by decide) ?_
  refine jd_icmp_ne 20 zd_M_keeps_2 (by decide) (fun _ => ?_) (fun h => absurd h (by decide))
  refine jd_iload_n zd_M_keeps_20 rfl ?_
  refine jd_iconst (v := 4) zd_M_keeps_21 (by decide) ?_
  refine jd_icmp_ne 45 zd_M_keeps_22 (by decide) (fun h => absurd rfl h) (fun _ => ?_)
  refine jd_aload_n zd_M_keeps_25 rfl ?_
  refine jd_iload_n zd_M_keeps_26 rfl ?_
  refine jd_callV (n := 1) (kc_sizeOf hls hA hR hg hl) rfl rfl rfl (rl_m (by decide)) (by decide) zi_827 zi_829 zi_32 zi_44 zi_830 (by decide +kernel) rfl rfl rfl (by decide) (Nat.le_of_ble_eq_true rfl) (by decide) zd_M_keeps_27 (fun _ _ _ h => h.elim) (fun v S2 L2 hq => ?_)
  obtain ⟨rfl, rfl, rfl⟩ := hq
  refine jd_aload_n zd_M_keeps_30 rfl ?_
  refine jd_get rfl rfl zl_M 13 (by decide) zi_693 rfl rfl (rl_m (by decide)) (by decide) zd_M_keeps_31 ?_
  refine jd_iload_n zd_M_keeps_34 rfl ?_
  refine jd_ildN (r := 414) (c := p) rfl rfl (by omega) (n := 12) (by decide) (rl_m (by decide)) (by decide) zd_M_keeps_35 ?_
  rw [mr_414 hR hp]
  refine jd_icmp_gt 43 zd_M_keeps_36 (by decide) (fun h_36 => ?_) (fun h_36 => ?_)
  · refine jd_iconst (v := 0) zd_M_keeps_43 (by decide) ?_
    exact jd_zret rfl (by first | rfl | decide | assumption) ⟨by simp_all [bi_of, fa_kp], rfl, rfl⟩ (by decide) (by decide) zd_M_keeps_44
  · refine jd_iconst (v := 1) zd_M_keeps_39 (by decide) ?_
    refine jd_goto 44 zd_M_keeps_40 (by decide) ?_
    exact jd_zret rfl (by first | rfl | decide | assumption) ⟨by simp_all [bi_of, fa_kp], rfl, rfl⟩ (by decide) (by decide) zd_M_keeps_44
set_option maxRecDepth 100000 in
set_option maxHeartbeats 4000000 in
theorem kl_keeps2 {l : Launch} (hls : l.stackTraces = false) {D : va_G} {w : wd_T} {S : Nat → Nat → Int32} {L : Nat → Nat → Int64} {G : Nat → Nat → Int32} (hA : ok_A w G) (hR : md_R w G S) {g : Nat} (hg : g < w.2.2.1) (hl : fa_gr G g = true) {p : Nat} (hp : p < w.2.2.2) {Qp : jd_P} (hQt : (fa_kp (fa_ga G (nI g) w.2.2.1) (G (300 + p)) (nI p) 2) = true → Qp.1 (some (av_i 1)) S L) (hQf : (fa_kp (fa_ga G (nI g) w.2.2.1) (G (300 + p)) (nI p) 2) = false → Qp.1 (some (av_i 0)) S L) : ∀ (k u : Nat), u ≤ w.2.2.1 → w.2.2.1 < u + k → fa_ga G (nI g) u 4 &&& (G (300 + p) 0 ^^^ (-1)) = 0 → jd_J l D w zn_M zb_M_keeps 5 (Option.some Jvm.ClassFile.FieldType.boolean) [] ({ frames := 1, cells := 0, slots := 0, locals := 23 } : Room) 0 0 Qp 0 0 48 [(0, av_r 400), (1, av_i (nI g)), (2, av_i (nI p)), (3, av_i (nI 2)), (4, av_i (nI u))] [] S L := by
  have h12 := hA.1.1
  have h13 := hA.1.2.1
  intro k
  induction k with
  | zero => intro u h1 h2; omega
  | succ k ih =>
    intro u hu hk hI
    refine jd_iload zd_M_keeps_48 rfl ?_
    refine jd_aload_n zd_M_keeps_50 rfl ?_
    refine jd_get rfl rfl zl_M 1 (by decide) zi_681 rfl rfl (rl_m (by decide)) (by decide) zd_M_keeps_51 ?_
    refine jd_icmp_ge 154 zd_M_keeps_54 (by decide) (fun h_54 => ?_) (fun h_54 => ?_)
    · have e_u := nI_end hR.1.1 (by omega) hu h_54
      subst e_u
      refine jd_iconst (v := 1) zd_M_keeps_154 (by decide) ?_
      exact jd_zret rfl (by decide) (hQt ((kp_2 _ _ _).trans (decide_eq_true (hI)))) (by decide) (by decide) zd_M_keeps_155
    · have hu2 := nI_on hR.1.1 (by omega) hu h_54
      refine jd_aload_n zd_M_keeps_57 rfl ?_
      refine jd_get rfl rfl zl_M 4 (by decide) zi_684 rfl rfl (rl_m (by decide)) (by decide) zd_M_keeps_58 ?_
      refine jd_iload zd_M_keeps_61 rfl ?_
      refine jd_ildN (r := 405) (c := u) rfl rfl (by omega) (n := 12) (by decide) (rl_m (by decide)) (by decide) zd_M_keeps_63 ?_
      rw [mr_405 hR hu2]
      refine jd_iload_n zd_M_keeps_64 rfl ?_
      refine jd_icmp_eq 71 zd_M_keeps_65 (by decide) (fun h_65 => ?_) (fun h_65 => ?_)
      · have hin := (mi_in hA hu2 hg hl).mp h_65
        obtain ⟨kd, hkd, ekd⟩ := (hA.2.1 u hu2).1
        refine jd_iload_n zd_M_keeps_71 rfl ?_
        refine jd_iconst (v := 2) zd_M_keeps_72 (by decide) ?_
        refine jd_icmp_ne 97 zd_M_keeps_73 (by decide) (fun h => absurd rfl h) (fun _ => ?_)
        refine jd_aload_n zd_M_keeps_76 rfl ?_
        refine jd_get rfl rfl zl_M 11 (by decide) zi_691 rfl rfl (rl_m (by decide)) (by decide) zd_M_keeps_77 ?_
        refine jd_iload_n zd_M_keeps_80 rfl ?_
        refine jd_ildN (r := 412) (c := p) rfl rfl (by omega) (n := 12) (by decide) (rl_m (by decide)) (by decide) zd_M_keeps_81 ?_
        rw [mr_412 hR hp]
        refine jd_aload_n zd_M_keeps_82 rfl ?_
        refine jd_get rfl rfl zl_M 2 (by decide) zi_682 rfl rfl (rl_m (by decide)) (by decide) zd_M_keeps_83 ?_
        refine jd_iload zd_M_keeps_86 rfl ?_
        refine jd_ildN (r := 403) (c := u) rfl rfl (by omega) (n := 12) (by decide) (rl_m (by decide)) (by decide) zd_M_keeps_88 ?_
        rw [mr_403 hR hu2]
        rw [ekd]
        refine jd_ishr zd_M_keeps_89 ?_
        refine jd_iconst (v := 1) zd_M_keeps_90 (by decide) ?_
        refine jd_iand zd_M_keeps_91 ?_
        refine jd_if_ne 97 zd_M_keeps_92 (by decide) (fun h_92 => ?_) (fun h_92 => ?_)
        · refine jd_iload_n zd_M_keeps_97 rfl ?_
          refine jd_iconst (v := 3) zd_M_keeps_98 (by decide) ?_
          refine jd_icmp_ne 119 zd_M_keeps_99 (by decide) (fun _ => ?_) (fun h => absurd h (by decide))
          refine jd_iload_n zd_M_keeps_119 rfl ?_
          refine jd_iconst (v := 5) zd_M_keeps_120 (by decide) ?_
          refine jd_icmp_ne 148 zd_M_keeps_121 (by decide) (fun _ => ?_) (fun h => absurd h (by decide))
          refine jd_iinc (v := nI (u + 1)) zd_M_keeps_148 rfl (nI_inc u) (by decide) ?_
          refine jd_goto 48 zd_M_keeps_151 (by decide) ?_
          exact jd_sub [(0, av_r 400), (1, av_i (nI g)), (2, av_i (nI p)), (3, av_i (nI 2)), (4, av_i (nI (u + 1)))] ⟨rfl, rfl, rfl, rfl, rfl, trivial⟩ (ih (u + 1) (by omega) (by omega) (by simp only [fa_ga]; rw [if_pos hin]; show (fa_ga G (nI g) u 4 ||| ((1 : Int32) <<< (G (100 + u) 0 &&& 31))) &&& (G (300 + p) 0 ^^^ (-1)) = 0; rw [ekd]; exact (bt_kinds (by omega)).mpr ⟨hI, by cases hb : bt (G (300 + p) 0) kd with | true => rfl | false => exact absurd ((bt_0 _ (by omega)).mpr hb) h_92⟩))
        · refine jd_iconst (v := 0) zd_M_keeps_95 (by decide) ?_
          exact jd_zret rfl (by decide) (hQf (by cases hk2 : (fa_kp (fa_ga G (nI g) w.2.2.1) (G (300 + p)) (nI p) 2) with | false => rfl | true => exfalso; have hk2 := of_decide_eq_true ((kp_2 _ _ _).symm.trans hk2); have h9 := ga_4 (q := G (300 + p) 0) w.2.2.1 (u + 1) (by omega) (fun v hv => (hA.2.1 v hv).1) hk2; simp only [fa_ga] at h9; rw [if_pos hin] at h9; have h8 : (fa_ga G (nI g) u 4 ||| ((1 : Int32) <<< (G (100 + u) 0 &&& 31))) &&& (G (300 + p) 0 ^^^ (-1)) = 0 := h9; rw [ekd] at h8; have h7 := ((bt_kinds (by omega)).mp h8).2; rw [(bt_0 _ (by omega)).mp h_92] at h7; exact absurd h7 (by decide))) (by decide) (by decide) zd_M_keeps_96
      · refine jd_goto 148 zd_M_keeps_68 (by decide) ?_
        refine jd_iinc (v := nI (u + 1)) zd_M_keeps_148 rfl (nI_inc u) (by decide) ?_
        refine jd_goto 48 zd_M_keeps_151 (by decide) ?_
        exact jd_sub [(0, av_r 400), (1, av_i (nI g)), (2, av_i (nI p)), (3, av_i (nI 2)), (4, av_i (nI (u + 1)))] ⟨rfl, rfl, rfl, rfl, rfl, trivial⟩ (ih (u + 1) (by omega) (by omega) (by rw [fa_ga_no (fun z => h_65 ((mi_in hA hu2 hg hl).mpr z))]; exact hI))
set_option maxRecDepth 100000 in
set_option maxHeartbeats 4000000 in
theorem kc_keeps2 {l : Launch} (hls : l.stackTraces = false) {D : va_G} {w : wd_T} {S : Nat → Nat → Int32} {L : Nat → Nat → Int64} {G : Nat → Nat → Int32} (hA : ok_A w G) (hR : md_R w G S) {g : Nat} (hg : g < w.2.2.1) (hl : fa_gr G g = true) {p : Nat} (hp : p < w.2.2.2) : ct_M l D w zy_M_keeps (Cond.code zy_M_keeps zb_M_keeps 5 (Option.some Jvm.ClassFile.FieldType.boolean)) ({ frames := 1, cells := 0, slots := 0, locals := 23 } : Room) [av_r 400, av_i (nI g), av_i (nI p), av_i (nI 2)] S L (po_i (bi_of (fa_kp (fa_ga G (nI g) w.2.2.1) (G (300 + p)) (nI p) 2)) S L) 0 0 := by
  have h12 := hA.1.1
  have h13 := hA.1.2.1
  refine ct_intro hls (own := zn_M) (by decide) rfl (Nat.le_of_ble_eq_true rfl) ?_
  refine jd_iload_n zd_M_keeps_0 rfl ?_
  refine jd_iconst (v := 1) zd_M_keeps_1 (by decide) ?_
  refine jd_icmp_ne 20 zd_M_keeps_2 (by decide) (fun _ => ?_) (fun h => absurd h (by decide))
  refine jd_iload_n zd_M_keeps_20 rfl ?_
  refine jd_iconst (v := 4) zd_M_keeps_21 (by decide) ?_
  refine jd_icmp_ne 45 zd_M_keeps_22 (by decide) (fun _ => ?_) (fun h => absurd h (by decide))
  refine jd_iconst (v := 0) zd_M_keeps_45 (by decide) ?_
  refine jd_istore zd_M_keeps_46 (by decide) ?_
  exact jd_sub [(0, av_r 400), (1, av_i (nI g)), (2, av_i (nI p)), (3, av_i (nI 2)), (4, av_i (nI 0))] ⟨rfl, rfl, rfl, rfl, rfl, trivial⟩ (kl_keeps2 (Qp := po_i (bi_of (fa_kp (fa_ga G (nI g) w.2.2.1) (G (300 + p)) (nI p) 2)) S L) hls hA hR hg hl hp (fun h => ⟨by rw [h]; rfl, rfl, rfl⟩) (fun h => ⟨by rw [h]; rfl, rfl, rfl⟩) (w.2.2.1 + 1) 0 (by omega) (by omega) (by show (0 : Int32) &&& _ = 0; exact Int32.zero_and))
set_option maxRecDepth 100000 in
set_option maxHeartbeats 4000000 in
theorem kl_keeps3 {l : Launch} (hls : l.stackTraces = false) {D : va_G} {w : wd_T} {S : Nat → Nat → Int32} {L : Nat → Nat → Int64} {G : Nat → Nat → Int32} (hA : ok_A w G) (hR : md_R w G S) {g : Nat} (hg : g < w.2.2.1) (hl : fa_gr G g = true) {p : Nat} (hp : p < w.2.2.2) {Qp : jd_P} (hQt : (fa_kp (fa_ga G (nI g) w.2.2.1) (G (300 + p)) (nI p) 3) = true → Qp.1 (some (av_i 1)) S L) (hQf : (fa_kp (fa_ga G (nI g) w.2.2.1) (G (300 + p)) (nI p) 3) = false → Qp.1 (some (av_i 0)) S L) : ∀ (k u : Nat), u ≤ w.2.2.1 → w.2.2.1 < u + k → bt (fa_ga G (nI g) u 5) p = false → jd_J l D w zn_M zb_M_keeps 5 (Option.some Jvm.ClassFile.FieldType.boolean) [] ({ frames := 1, cells := 0, slots := 0, locals := 23 } : Room) 0 0 Qp 0 0 48 [(0, av_r 400), (1, av_i (nI g)), (2, av_i (nI p)), (3, av_i (nI 3)), (4, av_i (nI u))] [] S L := by
  have h12 := hA.1.1
  have h13 := hA.1.2.1
  intro k
  induction k with
  | zero => intro u h1 h2; omega
  | succ k ih =>
    intro u hu hk hI
    refine jd_iload zd_M_keeps_48 rfl ?_
    refine jd_aload_n zd_M_keeps_50 rfl ?_
    refine jd_get rfl rfl zl_M 1 (by decide) zi_681 rfl rfl (rl_m (by decide)) (by decide) zd_M_keeps_51 ?_
    refine jd_icmp_ge 154 zd_M_keeps_54 (by decide) (fun h_54 => ?_) (fun h_54 => ?_)
    · have e_u := nI_end hR.1.1 (by omega) hu h_54
      subst e_u
      refine jd_iconst (v := 1) zd_M_keeps_154 (by decide) ?_
      exact jd_zret rfl (by decide) (hQt ((kp_3 _ _ _).trans (decide_eq_true ((bt_0 _ (by omega)).mpr hI)))) (by decide) (by decide) zd_M_keeps_155
    · have hu2 := nI_on hR.1.1 (by omega) hu h_54
      refine jd_aload_n zd_M_keeps_57 rfl ?_
      refine jd_get rfl rfl zl_M 4 (by decide) zi_684 rfl rfl (rl_m (by decide)) (by decide) zd_M_keeps_58 ?_
      refine jd_iload zd_M_keeps_61 rfl ?_
      refine jd_ildN (r := 405) (c := u) rfl rfl (by omega) (n := 12) (by decide) (rl_m (by decide)) (by decide) zd_M_keeps_63 ?_
      rw [mr_405 hR hu2]
      refine jd_iload_n zd_M_keeps_64 rfl ?_
      refine jd_icmp_eq 71 zd_M_keeps_65 (by decide) (fun h_65 => ?_) (fun h_65 => ?_)
      · have hin := (mi_in hA hu2 hg hl).mp h_65
        refine jd_iload_n zd_M_keeps_71 rfl ?_
        refine jd_iconst (v := 2) zd_M_keeps_72 (by decide) ?_
        refine jd_icmp_ne 97 zd_M_keeps_73 (by decide) (fun _ => ?_) (fun h => absurd h (by decide))
        refine jd_iload_n zd_M_keeps_97 rfl ?_
        refine jd_iconst (v := 3) zd_M_keeps_98 (by decide) ?_
        refine jd_icmp_ne 119 zd_M_keeps_99 (by decide) (fun h => absurd rfl h) (fun _ => ?_)
        refine jd_aload_n zd_M_keeps_102 rfl ?_
        refine jd_get rfl rfl zl_M 8 (by decide) zi_688 rfl rfl (rl_m (by decide)) (by decide) zd_M_keeps_103 ?_
        refine jd_bipush (v := 12) zd_M_keeps_106 (by decide) ?_
        refine jd_iload zd_M_keeps_108 rfl ?_
        refine jd_imul zd_M_keeps_110 ?_
        refine jd_iload_n zd_M_keeps_111 rfl ?_
        refine jd_iadd zd_M_keeps_112 ?_
        refine jd_zldN (r := 409) (c := (12 * u + p)) rfl (ix12 _ _) (by omega) (n := 144) (by decide) (rl_m (by decide)) (by decide) zd_M_keeps_113 ?_
        refine jd_if_eq 119 zd_M_keeps_114 (by decide) (fun h_114 => ?_) (fun h_114 => ?_)
        · refine jd_iload_n zd_M_keeps_119 rfl ?_
          refine jd_iconst (v := 5) zd_M_keeps_120 (by decide) ?_
          refine jd_icmp_ne 148 zd_M_keeps_121 (by decide) (fun _ => ?_) (fun h => absurd h (by decide))
          refine jd_iinc (v := nI (u + 1)) zd_M_keeps_148 rfl (nI_inc u) (by decide) ?_
          refine jd_goto 48 zd_M_keeps_151 (by decide) ?_
          exact jd_sub [(0, av_r 400), (1, av_i (nI g)), (2, av_i (nI p)), (3, av_i (nI 3)), (4, av_i (nI (u + 1)))] ⟨rfl, rfl, rfl, rfl, rfl, trivial⟩ (ih (u + 1) (by omega) (by omega) (by simp only [fa_ga]; rw [if_pos hin]; show bt (fa_ga G (nI g) u 5 ||| G (100 + u) 6) p = false; rw [bt_or, hI, Bool.false_or]; exact (mr_409 hR hu2 (by omega)).mp h_114))
        · refine jd_iconst (v := 0) zd_M_keeps_117 (by decide) ?_
          exact jd_zret rfl (by decide) (hQf (by cases hk2 : (fa_kp (fa_ga G (nI g) w.2.2.1) (G (300 + p)) (nI p) 3) with | false => rfl | true => exfalso; have hk2 := of_decide_eq_true ((kp_3 _ _ _).symm.trans hk2); have h9 := ga_5 w.2.2.1 (u + 1) (by omega) ((bt_0 _ (by omega)).mp hk2); simp only [fa_ga] at h9; rw [if_pos hin] at h9; have h8 : bt (fa_ga G (nI g) u 5 ||| G (100 + u) 6) p = false := h9; rw [bt_or, Bool.or_eq_false_iff] at h8; exact h_114 ((mr_409 hR hu2 (by omega)).mpr h8.2))) (by decide) (by decide) zd_M_keeps_118
      · refine jd_goto 148 zd_M_keeps_68 (by decide) ?_
        refine jd_iinc (v := nI (u + 1)) zd_M_keeps_148 rfl (nI_inc u) (by decide) ?_
        refine jd_goto 48 zd_M_keeps_151 (by decide) ?_
        exact jd_sub [(0, av_r 400), (1, av_i (nI g)), (2, av_i (nI p)), (3, av_i (nI 3)), (4, av_i (nI (u + 1)))] ⟨rfl, rfl, rfl, rfl, rfl, trivial⟩ (ih (u + 1) (by omega) (by omega) (by rw [fa_ga_no (fun z => h_65 ((mi_in hA hu2 hg hl).mpr z))]; exact hI))
set_option maxRecDepth 100000 in
set_option maxHeartbeats 4000000 in
theorem kc_keeps3 {l : Launch} (hls : l.stackTraces = false) {D : va_G} {w : wd_T} {S : Nat → Nat → Int32} {L : Nat → Nat → Int64} {G : Nat → Nat → Int32} (hA : ok_A w G) (hR : md_R w G S) {g : Nat} (hg : g < w.2.2.1) (hl : fa_gr G g = true) {p : Nat} (hp : p < w.2.2.2) : ct_M l D w zy_M_keeps (Cond.code zy_M_keeps zb_M_keeps 5 (Option.some Jvm.ClassFile.FieldType.boolean)) ({ frames := 1, cells := 0, slots := 0, locals := 23 } : Room) [av_r 400, av_i (nI g), av_i (nI p), av_i (nI 3)] S L (po_i (bi_of (fa_kp (fa_ga G (nI g) w.2.2.1) (G (300 + p)) (nI p) 3)) S L) 0 0 := by
  have h12 := hA.1.1
  have h13 := hA.1.2.1
  refine ct_intro hls (own := zn_M) (by decide) rfl (Nat.le_of_ble_eq_true rfl) ?_
  refine jd_iload_n zd_M_keeps_0 rfl ?_
  refine jd_iconst (v := 1) zd_M_keeps_1 (by decide) ?_
  refine jd_icmp_ne 20 zd_M_keeps_2 (by decide) (fun _ => ?_) (fun h => absurd h (by decide))
  refine jd_iload_n zd_M_keeps_20 rfl ?_
  refine jd_iconst (v := 4) zd_M_keeps_21 (by decide) ?_
  refine jd_icmp_ne 45 zd_M_keeps_22 (by decide) (fun _ => ?_) (fun h => absurd h (by decide))
  refine jd_iconst (v := 0) zd_M_keeps_45 (by decide) ?_
  refine jd_istore zd_M_keeps_46 (by decide) ?_
  exact jd_sub [(0, av_r 400), (1, av_i (nI g)), (2, av_i (nI p)), (3, av_i (nI 3)), (4, av_i (nI 0))] ⟨rfl, rfl, rfl, rfl, rfl, trivial⟩ (kl_keeps3 (Qp := po_i (bi_of (fa_kp (fa_ga G (nI g) w.2.2.1) (G (300 + p)) (nI p) 3)) S L) hls hA hR hg hl hp (fun h => ⟨by rw [h]; rfl, rfl, rfl⟩) (fun h => ⟨by rw [h]; rfl, rfl, rfl⟩) (w.2.2.1 + 1) 0 (by omega) (by omega) (bt_zero _))
set_option maxRecDepth 100000 in
set_option maxHeartbeats 4000000 in
theorem kl_keeps5 {l : Launch} (hls : l.stackTraces = false) {D : va_G} {w : wd_T} {S : Nat → Nat → Int32} {L : Nat → Nat → Int64} {G : Nat → Nat → Int32} (hA : ok_A w G) (hR : md_R w G S) {g : Nat} (hg : g < w.2.2.1) (hl : fa_gr G g = true) {p : Nat} (hp : p < w.2.2.2) {Qp : jd_P} (hQt : (fa_kp (fa_ga G (nI g) w.2.2.1) (G (300 + p)) (nI p) 5) = true → Qp.1 (some (av_i 1)) S L) (hQf : (fa_kp (fa_ga G (nI g) w.2.2.1) (G (300 + p)) (nI p) 5) = false → Qp.1 (some (av_i 0)) S L) : ∀ (k u : Nat), u ≤ w.2.2.1 → w.2.2.1 < u + k → (fa_ga G (nI g) u 6 = -1 ∨ fa_ga G (nI g) u 6 = nI p) → jd_J l D w zn_M zb_M_keeps 5 (Option.some Jvm.ClassFile.FieldType.boolean) [] ({ frames := 1, cells := 0, slots := 0, locals := 23 } : Room) 0 0 Qp 0 0 48 [(0, av_r 400), (1, av_i (nI g)), (2, av_i (nI p)), (3, av_i (nI 5)), (4, av_i (nI u))] [] S L := by
  have h12 := hA.1.1
  have h13 := hA.1.2.1
  intro k
  induction k with
  | zero => intro u h1 h2; omega
  | succ k ih =>
    intro u hu hk hI
    refine jd_iload zd_M_keeps_48 rfl ?_
    refine jd_aload_n zd_M_keeps_50 rfl ?_
    refine jd_get rfl rfl zl_M 1 (by decide) zi_681 rfl rfl (rl_m (by decide)) (by decide) zd_M_keeps_51 ?_
    refine jd_icmp_ge 154 zd_M_keeps_54 (by decide) (fun h_54 => ?_) (fun h_54 => ?_)
    · have e_u := nI_end hR.1.1 (by omega) hu h_54
      subst e_u
      refine jd_iconst (v := 1) zd_M_keeps_154 (by decide) ?_
      exact jd_zret rfl (by decide) (hQt ((kp_5 _ _ _).trans (decide_eq_true (hI)))) (by decide) (by decide) zd_M_keeps_155
    · have hu2 := nI_on hR.1.1 (by omega) hu h_54
      refine jd_aload_n zd_M_keeps_57 rfl ?_
      refine jd_get rfl rfl zl_M 4 (by decide) zi_684 rfl rfl (rl_m (by decide)) (by decide) zd_M_keeps_58 ?_
      refine jd_iload zd_M_keeps_61 rfl ?_
      refine jd_ildN (r := 405) (c := u) rfl rfl (by omega) (n := 12) (by decide) (rl_m (by decide)) (by decide) zd_M_keeps_63 ?_
      rw [mr_405 hR hu2]
      refine jd_iload_n zd_M_keeps_64 rfl ?_
      refine jd_icmp_eq 71 zd_M_keeps_65 (by decide) (fun h_65 => ?_) (fun h_65 => ?_)
      · have hin := (mi_in hA hu2 hg hl).mp h_65
        refine jd_iload_n zd_M_keeps_71 rfl ?_
        refine jd_iconst (v := 2) zd_M_keeps_72 (by decide) ?_
        refine jd_icmp_ne 97 zd_M_keeps_73 (by decide) (fun _ => ?_) (fun h => absurd h (by decide))
        refine jd_iload_n zd_M_keeps_97 rfl ?_
        refine jd_iconst (v := 3) zd_M_keeps_98 (by decide) ?_
        refine jd_icmp_ne 119 zd_M_keeps_99 (by decide) (fun _ => ?_) (fun h => absurd h (by decide))
        refine jd_iload_n zd_M_keeps_119 rfl ?_
        refine jd_iconst (v := 5) zd_M_keeps_120 (by decide) ?_
        refine jd_icmp_ne 148 zd_M_keeps_121 (by decide) (fun h => absurd rfl h) (fun _ => ?_)
        refine jd_aload_n zd_M_keeps_124 rfl ?_
        refine jd_get rfl rfl zl_M 5 (by decide) zi_685 rfl rfl (rl_m (by decide)) (by decide) zd_M_keeps_125 ?_
        refine jd_iload zd_M_keeps_128 rfl ?_
        refine jd_ildN (r := 406) (c := u) rfl rfl (by omega) (n := 12) (by decide) (rl_m (by decide)) (by decide) zd_M_keeps_130 ?_
        rw [mr_406 hR hu2]
        refine jd_iconst (v := (-1)) zd_M_keeps_131 (by decide) ?_
        refine jd_icmp_eq 148 zd_M_keeps_132 (by decide) (fun h_132 => ?_) (fun h_132 => ?_)
        · refine jd_iinc (v := nI (u + 1)) zd_M_keeps_148 rfl (nI_inc u) (by decide) ?_
          refine jd_goto 48 zd_M_keeps_151 (by decide) ?_
          exact jd_sub [(0, av_r 400), (1, av_i (nI g)), (2, av_i (nI p)), (3, av_i (nI 5)), (4, av_i (nI (u + 1)))] ⟨rfl, rfl, rfl, rfl, rfl, trivial⟩ (ih (u + 1) (by omega) (by omega) (by simp only [fa_ga]; rw [if_pos hin]; show (if G (100 + u) 4 = -1 then fa_ga G (nI g) u 6 else _) = -1 ∨ (if G (100 + u) 4 = -1 then fa_ga G (nI g) u 6 else _) = nI p; rw [if_pos h_132]; exact hI))
        · refine jd_aload_n zd_M_keeps_135 rfl ?_
          refine jd_get rfl rfl zl_M 5 (by decide) zi_685 rfl rfl (rl_m (by decide)) (by decide) zd_M_keeps_136 ?_
          refine jd_iload zd_M_keeps_139 rfl ?_
          refine jd_ildN (r := 406) (c := u) rfl rfl (by omega) (n := 12) (by decide) (rl_m (by decide)) (by decide) zd_M_keeps_141 ?_
          rw [mr_406 hR hu2]
          refine jd_iload_n zd_M_keeps_142 rfl ?_
          refine jd_icmp_eq 148 zd_M_keeps_143 (by decide) (fun h_143 => ?_) (fun h_143 => ?_)
          · refine jd_iinc (v := nI (u + 1)) zd_M_keeps_148 rfl (nI_inc u) (by decide) ?_
            refine jd_goto 48 zd_M_keeps_151 (by decide) ?_
            exact jd_sub [(0, av_r 400), (1, av_i (nI g)), (2, av_i (nI p)), (3, av_i (nI 5)), (4, av_i (nI (u + 1)))] ⟨rfl, rfl, rfl, rfl, rfl, trivial⟩ (ih (u + 1) (by omega) (by omega) (by simp only [fa_ga]; rw [if_pos hin]; show (if G (100 + u) 4 = -1 then fa_ga G (nI g) u 6 else if fa_ga G (nI g) u 6 = -1 ∨ fa_ga G (nI g) u 6 = G (100 + u) 4 then G (100 + u) 4 else -2) = -1 ∨ _; right; show (if G (100 + u) 4 = -1 then fa_ga G (nI g) u 6 else if fa_ga G (nI g) u 6 = -1 ∨ fa_ga G (nI g) u 6 = G (100 + u) 4 then G (100 + u) 4 else -2) = nI p; rw [if_neg h_132, if_pos (by rw [h_143]; exact hI)]; exact h_143))
          · refine jd_iconst (v := 0) zd_M_keeps_146 (by decide) ?_
            exact jd_zret rfl (by decide) (hQf (by cases hk2 : (fa_kp (fa_ga G (nI g) w.2.2.1) (G (300 + p)) (nI p) 5) with | false => rfl | true => exfalso; have hk2 := of_decide_eq_true ((kp_5 _ _ _).symm.trans hk2); have h9 := ga_6 (show p < 12 by omega) w.2.2.1 (u + 1) (by omega) hk2 (fun v hv => by rcases hA.2.2.2.2.2.1 v hv with q | ⟨q, h1, h2⟩; exact Or.inl q; exact Or.inr ⟨q, by omega, h2⟩); simp only [fa_ga] at h9; rw [if_pos hin] at h9; exact k5_no (show p < 12 by omega) h_132 h_143 h9)) (by decide) (by decide) zd_M_keeps_147
      · refine jd_goto 148 zd_M_keeps_68 (by decide) ?_
        refine jd_iinc (v := nI (u + 1)) zd_M_keeps_148 rfl (nI_inc u) (by decide) ?_
        refine jd_goto 48 zd_M_keeps_151 (by decide) ?_
        exact jd_sub [(0, av_r 400), (1, av_i (nI g)), (2, av_i (nI p)), (3, av_i (nI 5)), (4, av_i (nI (u + 1)))] ⟨rfl, rfl, rfl, rfl, rfl, trivial⟩ (ih (u + 1) (by omega) (by omega) (by rw [fa_ga_no (fun z => h_65 ((mi_in hA hu2 hg hl).mpr z))]; exact hI))
set_option maxRecDepth 100000 in
set_option maxHeartbeats 4000000 in
theorem kc_keeps5 {l : Launch} (hls : l.stackTraces = false) {D : va_G} {w : wd_T} {S : Nat → Nat → Int32} {L : Nat → Nat → Int64} {G : Nat → Nat → Int32} (hA : ok_A w G) (hR : md_R w G S) {g : Nat} (hg : g < w.2.2.1) (hl : fa_gr G g = true) {p : Nat} (hp : p < w.2.2.2) : ct_M l D w zy_M_keeps (Cond.code zy_M_keeps zb_M_keeps 5 (Option.some Jvm.ClassFile.FieldType.boolean)) ({ frames := 1, cells := 0, slots := 0, locals := 23 } : Room) [av_r 400, av_i (nI g), av_i (nI p), av_i (nI 5)] S L (po_i (bi_of (fa_kp (fa_ga G (nI g) w.2.2.1) (G (300 + p)) (nI p) 5)) S L) 0 0 := by
  have h12 := hA.1.1
  have h13 := hA.1.2.1
  refine ct_intro hls (own := zn_M) (by decide) rfl (Nat.le_of_ble_eq_true rfl) ?_
  refine jd_iload_n zd_M_keeps_0 rfl ?_
  refine jd_iconst (v := 1) zd_M_keeps_1 (by decide) ?_
  refine jd_icmp_ne 20 zd_M_keeps_2 (by decide) (fun _ => ?_) (fun h => absurd h (by decide))
  refine jd_iload_n zd_M_keeps_20 rfl ?_
  refine jd_iconst (v := 4) zd_M_keeps_21 (by decide) ?_
  refine jd_icmp_ne 45 zd_M_keeps_22 (by decide) (fun _ => ?_) (fun h => absurd h (by decide))
  refine jd_iconst (v := 0) zd_M_keeps_45 (by decide) ?_
  refine jd_istore zd_M_keeps_46 (by decide) ?_
  exact jd_sub [(0, av_r 400), (1, av_i (nI g)), (2, av_i (nI p)), (3, av_i (nI 5)), (4, av_i (nI 0))] ⟨rfl, rfl, rfl, rfl, rfl, trivial⟩ (kl_keeps5 (Qp := po_i (bi_of (fa_kp (fa_ga G (nI g) w.2.2.1) (G (300 + p)) (nI p) 5)) S L) hls hA hR hg hl hp (fun h => ⟨by rw [h]; rfl, rfl, rfl⟩) (fun h => ⟨by rw [h]; rfl, rfl, rfl⟩) (w.2.2.1 + 1) 0 (by omega) (by omega) (Or.inl rfl))
theorem kc_keeps {l : Launch} (hls : l.stackTraces = false) {D : va_G} {w : wd_T} {S : Nat → Nat → Int32} {L : Nat → Nat → Int64} {G : Nat → Nat → Int32} (hA : ok_A w G) (hR : md_R w G S) {g : Nat} (hg : g < w.2.2.1) (hl : fa_gr G g = true) {p : Nat} (hp : p < w.2.2.2) {r : Nat} (r1 : 1 ≤ r) (r5 : r ≤ 5) : ct_M l D w zy_M_keeps (Cond.code zy_M_keeps zb_M_keeps 5 (Option.some Jvm.ClassFile.FieldType.boolean)) ({ frames := 1, cells := 0, slots := 0, locals := 23 } : Room) [av_r 400, av_i (nI g), av_i (nI p), av_i (nI r)] S L (po_i (bi_of (fa_kp (fa_ga G (nI g) w.2.2.1) (G (300 + p)) (nI p) r)) S L) 0 0 := by
  rcases (show r = 1 ∨ r = 2 ∨ r = 3 ∨ r = 4 ∨ r = 5 by omega) with rfl | rfl | rfl | rfl | rfl
  · exact kc_keeps1 hls hA hR hg hl hp
  · exact kc_keeps2 hls hA hR hg hl hp
  · exact kc_keeps3 hls hA hR hg hl hp
  · exact kc_keeps4 hls hA hR hg hl hp
  · exact kc_keeps5 hls hA hR hg hl hp
set_option maxRecDepth 100000 in
set_option maxHeartbeats 4000000 in
theorem kl_isAllowed {l : Launch} (hls : l.stackTraces = false) {D : va_G} {w : wd_T} {S : Nat → Nat → Int32} {L : Nat → Nat → Int64} {G : Nat → Nat → Int32} (hA : ok_A w G) (hR : md_R w G S) {g : Nat} (hg : g < w.2.2.1) (hl : fa_gr G g = true) {p : Nat} (hp : p < w.2.2.2) {t : Nat} (ht : t ≤ 5) {Qp : jd_P} (hQ : Qp.1 (some (av_i (bi_of (fa_ka (fa_ga G (nI g) w.2.2.1) (G (300 + p)) (nI p) t)))) S L) : ∀ (k u : Nat), u ≤ t → t < u + k → jd_J l D w zn_M zb_M_isAllowed 6 (Option.some Jvm.ClassFile.FieldType.boolean) [] ({ frames := 2, cells := 0, slots := 0, locals := 47 } : Room) 0 0 Qp 0 0 6 [(0, av_r 400), (1, av_i (nI g)), (2, av_i (nI p)), (3, av_i (nI t)), (4, av_i (bi_of (fa_ka (fa_ga G (nI g) w.2.2.1) (G (300 + p)) (nI p) u))), (5, av_i (nI (u + 1)))] [] S L := by
  have h12 := hA.1.1
  have h13 := hA.1.2.1
  intro k
  induction k with
  | zero => intro u h1 h2; omega
  | succ k ih =>
    intro u hu hk
    refine jd_iload zd_M_isAllowed_6 rfl ?_
    refine jd_iload_n zd_M_isAllowed_8 rfl ?_
    refine jd_icmp_gt 41 zd_M_isAllowed_9 (by decide) (fun h_9 => ?_) (fun h_9 => ?_)
    · rw [nI_ltI (by omega) (by omega)] at h_9
      have e_u : u = t := by omega
      subst e_u
      refine jd_iload zd_M_isAllowed_41 rfl ?_
      exact jd_zret rfl (bi_nar _) hQ (by decide) (by decide) zd_M_isAllowed_43
    · rw [nI_ltI (by omega) (by omega)] at h_9
      refine jd_iload zd_M_isAllowed_12 rfl ?_
      refine jd_if_eq 32 zd_M_isAllowed_14 (by decide) (fun h_14 => ?_) (fun h_14 => ?_)
      · refine jd_iconst (v := 0) zd_M_isAllowed_32 (by decide) ?_
        refine jd_istore zd_M_isAllowed_33 (by decide) ?_
        refine jd_iinc (v := nI (u + 1 + 1)) zd_M_isAllowed_35 rfl (nI_inc (u + 1)) (by decide) ?_
        refine jd_goto 6 zd_M_isAllowed_38 (by decide) ?_
        exact jd_sub [(0, av_r 400), (1, av_i (nI g)), (2, av_i (nI p)), (3, av_i (nI t)), (4, av_i (bi_of (fa_ka (fa_ga G (nI g) w.2.2.1) (G (300 + p)) (nI p) (u + 1)))), (5, av_i (nI ((u + 1) + 1)))] ⟨rfl, rfl, rfl, rfl, by simp only [fa_ka]; rw [bi_z h_14, Bool.false_and]; rfl, rfl, trivial⟩ (ih (u + 1) (by omega) (by omega))
      · refine jd_aload_n zd_M_isAllowed_17 rfl ?_
        refine jd_iload_n zd_M_isAllowed_18 rfl ?_
        refine jd_iload_n zd_M_isAllowed_19 rfl ?_
        refine jd_iload zd_M_isAllowed_20 rfl ?_
        refine jd_callV (n := 3) (kc_keeps hls hA hR hg hl hp (r := u + 1) (by omega) (by omega)) rfl rfl rfl (rl_m (by decide)) (by decide) zi_823 zi_825 zi_31 zi_44 zi_826 (by decide +kernel) rfl rfl rfl (by decide) (Nat.le_of_ble_eq_true rfl) (by decide) zd_M_isAllowed_22 (fun _ _ _ h => h.elim) (fun v S2 L2 hq => ?_)
        obtain ⟨rfl, rfl, rfl⟩ := hq
        refine jd_if_eq 32 zd_M_isAllowed_25 (by decide) (fun h_25 => ?_) (fun h_25 => ?_)
        · refine jd_iconst (v := 0) zd_M_isAllowed_32 (by decide) ?_
          refine jd_istore zd_M_isAllowed_33 (by decide) ?_
          refine jd_iinc (v := nI (u + 1 + 1)) zd_M_isAllowed_35 rfl (nI_inc (u + 1)) (by decide) ?_
          refine jd_goto 6 zd_M_isAllowed_38 (by decide) ?_
          exact jd_sub [(0, av_r 400), (1, av_i (nI g)), (2, av_i (nI p)), (3, av_i (nI t)), (4, av_i (bi_of (fa_ka (fa_ga G (nI g) w.2.2.1) (G (300 + p)) (nI p) (u + 1)))), (5, av_i (nI ((u + 1) + 1)))] ⟨rfl, rfl, rfl, rfl, by simp only [fa_ka]; rw [bi_z h_25, Bool.and_false]; rfl, rfl, trivial⟩ (ih (u + 1) (by omega) (by omega))
        · refine jd_iconst (v := 1) zd_M_isAllowed_28 (by decide) ?_
          refine jd_goto 33 zd_M_isAllowed_29 (by decide) ?_
          refine jd_istore zd_M_isAllowed_33 (by decide) ?_
          refine jd_iinc (v := nI (u + 1 + 1)) zd_M_isAllowed_35 rfl (nI_inc (u + 1)) (by decide) ?_
          refine jd_goto 6 zd_M_isAllowed_38 (by decide) ?_
          exact jd_sub [(0, av_r 400), (1, av_i (nI g)), (2, av_i (nI p)), (3, av_i (nI t)), (4, av_i (bi_of (fa_ka (fa_ga G (nI g) w.2.2.1) (G (300 + p)) (nI p) (u + 1)))), (5, av_i (nI ((u + 1) + 1)))] ⟨rfl, rfl, rfl, rfl, by simp only [fa_ka]; rw [bi_n h_14, bi_n h_25]; rfl, rfl, trivial⟩ (ih (u + 1) (by omega) (by omega))
set_option maxRecDepth 100000 in
set_option maxHeartbeats 4000000 in
theorem kc_isAllowed {l : Launch} (hls : l.stackTraces = false) {D : va_G} {w : wd_T} {S : Nat → Nat → Int32} {L : Nat → Nat → Int64} {G : Nat → Nat → Int32} (hA : ok_A w G) (hR : md_R w G S) {g : Nat} (hg : g < w.2.2.1) (hl : fa_gr G g = true) {p : Nat} (hp : p < w.2.2.2) {t : Nat} (ht : t ≤ 5) : ct_M l D w zy_M_isAllowed (Cond.code zy_M_isAllowed zb_M_isAllowed 6 (Option.some Jvm.ClassFile.FieldType.boolean)) ({ frames := 2, cells := 0, slots := 0, locals := 47 } : Room) [av_r 400, av_i (nI g), av_i (nI p), av_i (nI t)] S L (po_i (bi_of (fa_ka (fa_ga G (nI g) w.2.2.1) (G (300 + p)) (nI p) t)) S L) 0 0 := by
  refine ct_intro hls (own := zn_M) (by decide) rfl (Nat.le_of_ble_eq_true rfl) ?_
  refine jd_iconst (v := 1) zd_M_isAllowed_0 (by decide) ?_
  refine jd_istore zd_M_isAllowed_1 (by decide) ?_
  refine jd_iconst (v := 1) zd_M_isAllowed_3 (by decide) ?_
  refine jd_istore zd_M_isAllowed_4 (by decide) ?_
  exact jd_sub [(0, av_r 400), (1, av_i (nI g)), (2, av_i (nI p)), (3, av_i (nI t)), (4, av_i (bi_of (fa_ka (fa_ga G (nI g) w.2.2.1) (G (300 + p)) (nI p) 0))), (5, av_i (nI (0 + 1)))] ⟨rfl, rfl, rfl, rfl, rfl, rfl, trivial⟩ (kl_isAllowed (Qp := po_i (bi_of (fa_ka (fa_ga G (nI g) w.2.2.1) (G (300 + p)) (nI p) t)) S L) hls hA hR hg hl hp ht ⟨rfl, rfl, rfl⟩ (t + 1) 0 (by omega) (by omega))
set_option maxRecDepth 100000 in
set_option maxHeartbeats 4000000 in
theorem kl_Mcheapest {l : Launch} (hls : l.stackTraces = false) {D : va_G} {w : wd_T} {S : Nat → Nat → Int32} {L : Nat → Nat → Int64} {G : Nat → Nat → Int32} (hA : ok_A w G) (hR : md_R w G S) {g : Nat} (hg : g < w.2.2.1) (hl : fa_gr G g = true) (x : Int32) {Qp : jd_P} (hQ : Qp.1 (some (av_i (fa_ch G (fa_ga G (nI g) w.2.2.1) g x w.2.2.2).1)) S L) : ∀ (k u : Nat), u ≤ w.2.2.2 → w.2.2.2 < u + k → jd_J l D w zn_M zb_M_cheapest 5 (Option.some Jvm.ClassFile.FieldType.int) [] ({ frames := 3, cells := 0, slots := 0, locals := 72 } : Room) 0 0 Qp 0 0 5 [(0, av_r 400), (1, av_i (nI g)), (2, av_i x), (3, av_i (fa_ch G (fa_ga G (nI g) w.2.2.1) g x u).1), (4, av_i (nI u))] [] S L := by
  have h12 := hA.1.1
  have h13 := hA.1.2.1
  intro k
  induction k with
  | zero => intro u h1 h2; omega
  | succ k ih =>
    intro u hu hk
    refine jd_iload zd_M_cheapest_5 rfl ?_
    refine jd_aload_n zd_M_cheapest_7 rfl ?_
    refine jd_get rfl rfl zl_M 10 (by decide) zi_690 rfl rfl (rl_m (by decide)) (by decide) zd_M_cheapest_8 ?_
    refine jd_icmp_ge 68 zd_M_cheapest_11 (by decide) (fun h_11 => ?_) (fun h_11 => ?_)
    · have e_u := nI_end hR.1.2.1 (by omega) hu h_11
      subst e_u
      refine jd_iload_n zd_M_cheapest_68 rfl ?_
      exact jd_iret rfl hQ (by decide) (by decide) zd_M_cheapest_69
    · have hu2 := nI_on hR.1.2.1 (by omega) hu h_11
      refine jd_iload_n zd_M_cheapest_14 rfl ?_
      refine jd_iload zd_M_cheapest_15 rfl ?_
      refine jd_ishr zd_M_cheapest_17 ?_
      refine jd_iconst (v := 1) zd_M_cheapest_18 (by decide) ?_
      refine jd_iand zd_M_cheapest_19 ?_
      refine jd_iconst (v := 1) zd_M_cheapest_20 (by decide) ?_
      refine jd_icmp_eq 62 zd_M_cheapest_21 (by decide) (fun h_21 => ?_) (fun h_21 => ?_)
      · refine jd_iinc (v := nI (u + 1)) zd_M_cheapest_62 rfl (nI_inc u) (by decide) ?_
        refine jd_goto 5 zd_M_cheapest_65 (by decide) ?_
        have e_c : (fa_ch G (fa_ga G (nI g) w.2.2.1) g x (u + 1)).1 = (fa_ch G (fa_ga G (nI g) w.2.2.1) g x u).1 := by simp only [fa_ch]; rw [if_neg (show ¬ ((x >>> (nI u &&& 31)) &&& 1 = 0 ∧ fa_br (fa_ga G (nI g) w.2.2.1) (G (300 + u)) (nI u) = 0 ∧ ((fa_ch G (fa_ga G (nI g) w.2.2.1) g x u).1 = -1 ∨ fa_co G (fa_ga G (nI g) w.2.2.1) g u < (fa_ch G (fa_ga G (nI g) w.2.2.1) g x u).2)) from fun q => absurd ((bt_0 _ (show u < 32 by omega)).mp q.1) (by rw [(bt_1 _ (show u < 32 by omega)).mp h_21]; decide))]
        exact jd_sub [(0, av_r 400), (1, av_i (nI g)), (2, av_i x), (3, av_i (fa_ch G (fa_ga G (nI g) w.2.2.1) g x (u + 1)).1), (4, av_i (nI (u + 1)))] ⟨rfl, rfl, rfl, by rw [e_c]; rfl, rfl, trivial⟩ (ih (u + 1) (by omega) (by omega))
      · have h_t : (x >>> (nI u &&& 31)) &&& 1 = 0 := (bt_0 _ (by omega)).mpr (by cases hb : bt x u with | false => rfl | true => exact absurd ((bt_1 _ (by omega)).mpr hb) h_21)
        refine jd_aload_n zd_M_cheapest_24 rfl ?_
        refine jd_iload_n zd_M_cheapest_25 rfl ?_
        refine jd_iload zd_M_cheapest_26 rfl ?_
        refine jd_iconst (v := nI 5) zd_M_cheapest_28 (by decide) ?_
        refine jd_callV (n := 3) (kc_isAllowed hls hA hR hg hl hu2 (t := 5) (by omega)) rfl rfl rfl (rl_m (by decide)) (by decide) zi_819 zi_821 zi_30 zi_44 zi_822 (by decide +kernel) rfl rfl rfl (by decide) (Nat.le_of_ble_eq_true rfl) (by decide) zd_M_cheapest_29 (fun _ _ _ h => h.elim) (fun v S2 L2 hq => ?_)
        obtain ⟨rfl, rfl, rfl⟩ := hq
        rw [fa_ka_5]
        refine jd_if_ne 38 zd_M_cheapest_32 (by decide) (fun h_32 => ?_) (fun h_32 => ?_)
        · have h_b : fa_br (fa_ga G (nI g) w.2.2.1) (G (300 + u)) (nI u) = 0 := of_decide_eq_true (bi_n h_32)
          refine jd_iload_n zd_M_cheapest_38 rfl ?_
          refine jd_iconst (v := (-1)) zd_M_cheapest_39 (by decide) ?_
          refine jd_icmp_eq 59 zd_M_cheapest_40 (by decide) (fun h_40 => ?_) (fun h_40 => ?_)
          · refine jd_iload zd_M_cheapest_59 rfl ?_
            refine jd_istore_n zd_M_cheapest_61 (by decide) ?_
            refine jd_iinc (v := nI (u + 1)) zd_M_cheapest_62 rfl (nI_inc u) (by decide) ?_
            refine jd_goto 5 zd_M_cheapest_65 (by decide) ?_
            have e_c : (fa_ch G (fa_ga G (nI g) w.2.2.1) g x (u + 1)).1 = nI u := by simp only [fa_ch]; rw [if_pos (show (x >>> (nI u &&& 31)) &&& 1 = 0 ∧ fa_br (fa_ga G (nI g) w.2.2.1) (G (300 + u)) (nI u) = 0 ∧ ((fa_ch G (fa_ga G (nI g) w.2.2.1) g x u).1 = -1 ∨ fa_co G (fa_ga G (nI g) w.2.2.1) g u < (fa_ch G (fa_ga G (nI g) w.2.2.1) g x u).2) from ⟨h_t, h_b, Or.inl h_40⟩)]
            exact jd_sub [(0, av_r 400), (1, av_i (nI g)), (2, av_i x), (3, av_i (fa_ch G (fa_ga G (nI g) w.2.2.1) g x (u + 1)).1), (4, av_i (nI (u + 1)))] ⟨rfl, rfl, rfl, by rw [e_c]; rfl, rfl, trivial⟩ (ih (u + 1) (by omega) (by omega))
          · obtain ⟨q9, hq9, eq9⟩ : ∃ q, q < u ∧ (fa_ch G (fa_ga G (nI g) w.2.2.1) g x u).1 = nI q := (fa_ch_in _ _ _ _ _).resolve_left h_40
            have e_2 : (fa_ch G (fa_ga G (nI g) w.2.2.1) g x u).2 = fa_co G (fa_ga G (nI g) w.2.2.1) g q9 := fa_ch_2 (by omega) u (by omega) eq9
            refine jd_aload_n zd_M_cheapest_43 rfl ?_
            refine jd_iload_n zd_M_cheapest_44 rfl ?_
            refine jd_iload zd_M_cheapest_45 rfl ?_
            refine jd_callV (n := 2) (kc_costOf hls hA hR hg hl hu2) rfl rfl rfl (rl_m (by decide)) (by decide) zi_831 zi_833 zi_33 zi_44 zi_834 (by decide +kernel) rfl rfl rfl (by decide) (Nat.le_of_ble_eq_true rfl) (by decide) zd_M_cheapest_47 (fun _ _ _ h => h.elim) (fun v S2 L2 hq => ?_)
            obtain ⟨rfl, rfl, rfl⟩ := hq
            refine jd_aload_n zd_M_cheapest_50 rfl ?_
            refine jd_iload_n zd_M_cheapest_51 rfl ?_
            refine jd_iload_n zd_M_cheapest_52 rfl ?_
            rw [eq9]
            refine jd_callV (n := 2) (kc_costOf hls hA hR hg hl (p := q9) (by omega)) rfl rfl rfl (rl_m (by decide)) (by decide) zi_831 zi_833 zi_33 zi_44 zi_834 (by decide +kernel) rfl rfl rfl (by decide) (Nat.le_of_ble_eq_true rfl) (by decide) zd_M_cheapest_53 (fun _ _ _ h => h.elim) (fun v S2 L2 hq => ?_)
            obtain ⟨rfl, rfl, rfl⟩ := hq
            refine jd_icmp_ge 62 zd_M_cheapest_56 (by decide) (fun h_56 => ?_) (fun h_56 => ?_)
            · refine jd_iinc (v := nI (u + 1)) zd_M_cheapest_62 rfl (nI_inc u) (by decide) ?_
              refine jd_goto 5 zd_M_cheapest_65 (by decide) ?_
              have e_c : (fa_ch G (fa_ga G (nI g) w.2.2.1) g x (u + 1)).1 = (fa_ch G (fa_ga G (nI g) w.2.2.1) g x u).1 := by simp only [fa_ch]; rw [if_neg (show ¬ ((x >>> (nI u &&& 31)) &&& 1 = 0 ∧ fa_br (fa_ga G (nI g) w.2.2.1) (G (300 + u)) (nI u) = 0 ∧ ((fa_ch G (fa_ga G (nI g) w.2.2.1) g x u).1 = -1 ∨ fa_co G (fa_ga G (nI g) w.2.2.1) g u < (fa_ch G (fa_ga G (nI g) w.2.2.1) g x u).2)) from fun q => by rcases q.2.2 with q2 | q2; exact h_40 q2; rw [e_2] at q2; exact absurd q2 (Int32.not_lt.mpr h_56))]
              exact jd_sub [(0, av_r 400), (1, av_i (nI g)), (2, av_i x), (3, av_i (fa_ch G (fa_ga G (nI g) w.2.2.1) g x (u + 1)).1), (4, av_i (nI (u + 1)))] ⟨rfl, rfl, rfl, by rw [e_c, eq9]; rfl, rfl, trivial⟩ (ih (u + 1) (by omega) (by omega))
            · refine jd_iload zd_M_cheapest_59 rfl ?_
              refine jd_istore_n zd_M_cheapest_61 (by decide) ?_
              refine jd_iinc (v := nI (u + 1)) zd_M_cheapest_62 rfl (nI_inc u) (by decide) ?_
              refine jd_goto 5 zd_M_cheapest_65 (by decide) ?_
              have e_c : (fa_ch G (fa_ga G (nI g) w.2.2.1) g x (u + 1)).1 = nI u := by simp only [fa_ch]; rw [if_pos (show (x >>> (nI u &&& 31)) &&& 1 = 0 ∧ fa_br (fa_ga G (nI g) w.2.2.1) (G (300 + u)) (nI u) = 0 ∧ ((fa_ch G (fa_ga G (nI g) w.2.2.1) g x u).1 = -1 ∨ fa_co G (fa_ga G (nI g) w.2.2.1) g u < (fa_ch G (fa_ga G (nI g) w.2.2.1) g x u).2) from ⟨h_t, h_b, Or.inr (by rw [e_2]; exact Int32.not_le.mp h_56)⟩)]
              exact jd_sub [(0, av_r 400), (1, av_i (nI g)), (2, av_i x), (3, av_i (fa_ch G (fa_ga G (nI g) w.2.2.1) g x (u + 1)).1), (4, av_i (nI (u + 1)))] ⟨rfl, rfl, rfl, by rw [e_c]; rfl, rfl, trivial⟩ (ih (u + 1) (by omega) (by omega))
        · have h_b : ¬ fa_br (fa_ga G (nI g) w.2.2.1) (G (300 + u)) (nI u) = 0 := of_decide_eq_false (bi_z h_32)
          refine jd_goto 62 zd_M_cheapest_35 (by decide) ?_
          refine jd_iinc (v := nI (u + 1)) zd_M_cheapest_62 rfl (nI_inc u) (by decide) ?_
          refine jd_goto 5 zd_M_cheapest_65 (by decide) ?_
          have e_c : (fa_ch G (fa_ga G (nI g) w.2.2.1) g x (u + 1)).1 = (fa_ch G (fa_ga G (nI g) w.2.2.1) g x u).1 := by simp only [fa_ch]; rw [if_neg (show ¬ ((x >>> (nI u &&& 31)) &&& 1 = 0 ∧ fa_br (fa_ga G (nI g) w.2.2.1) (G (300 + u)) (nI u) = 0 ∧ ((fa_ch G (fa_ga G (nI g) w.2.2.1) g x u).1 = -1 ∨ fa_co G (fa_ga G (nI g) w.2.2.1) g u < (fa_ch G (fa_ga G (nI g) w.2.2.1) g x u).2)) from fun q => absurd q.2.1 h_b)]
          exact jd_sub [(0, av_r 400), (1, av_i (nI g)), (2, av_i x), (3, av_i (fa_ch G (fa_ga G (nI g) w.2.2.1) g x (u + 1)).1), (4, av_i (nI (u + 1)))] ⟨rfl, rfl, rfl, by rw [e_c]; rfl, rfl, trivial⟩ (ih (u + 1) (by omega) (by omega))
set_option maxRecDepth 100000 in
set_option maxHeartbeats 4000000 in
theorem kc_Mcheapest {l : Launch} (hls : l.stackTraces = false) {D : va_G} {w : wd_T} {S : Nat → Nat → Int32} {L : Nat → Nat → Int64} {G : Nat → Nat → Int32} (hA : ok_A w G) (hR : md_R w G S) {g : Nat} (hg : g < w.2.2.1) (hl : fa_gr G g = true) (x : Int32) : ct_M l D w zy_M_cheapest (Cond.code zy_M_cheapest zb_M_cheapest 5 (Option.some Jvm.ClassFile.FieldType.int)) ({ frames := 3, cells := 0, slots := 0, locals := 72 } : Room) [av_r 400, av_i (nI g), av_i x] S L (po_i (fa_ch G (fa_ga G (nI g) w.2.2.1) g x w.2.2.2).1 S L) 0 0 := by
  refine ct_intro hls (own := zn_M) (by decide) rfl (Nat.le_of_ble_eq_true rfl) ?_
  refine jd_iconst (v := (-1)) zd_M_cheapest_0 (by decide) ?_
  refine jd_istore_n zd_M_cheapest_1 (by decide) ?_
  refine jd_iconst (v := 0) zd_M_cheapest_2 (by decide) ?_
  refine jd_istore zd_M_cheapest_3 (by decide) ?_
  exact jd_sub [(0, av_r 400), (1, av_i (nI g)), (2, av_i x), (3, av_i (fa_ch G (fa_ga G (nI g) w.2.2.1) g x 0).1), (4, av_i (nI 0))] ⟨rfl, rfl, rfl, rfl, rfl, trivial⟩ (kl_Mcheapest (Qp := po_i (fa_ch G (fa_ga G (nI g) w.2.2.1) g x w.2.2.2).1 S L) hls hA hR hg hl x ⟨rfl, rfl, rfl⟩ (w.2.2.2 + 1) 0 (by omega) (by omega))
