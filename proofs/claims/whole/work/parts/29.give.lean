/-! THE BEST PLAN: rows get their columns (rows by wip/whole/gen/b2.py) -/
def po_gc (n r : Nat) (a : Nat → Nat → Int) (S : Nat → Nat → Int32) (L : Nat → Nat → Int64) : jd_P := (fun v S' L' => v = none ∧ bp_fS S S' ∧ bp_fL L L' ∧ ∃ (u9 v9 : Nat → Int) (q : Nat → Nat), bp_R S' L' n a u9 v9 q ∧ hu_G 20 r a u9 v9 q, fun _ _ _ => False)
set_option maxRecDepth 100000 in
set_option maxHeartbeats 4000000 in
theorem kl_chain {l : Launch} (hls : l.stackTraces = false) {D : va_G} {w : wd_T} {S : Nat → Nat → Int32} {M : Nat → Nat → Int64} {n r step : Nat} {a : Nat → Nat → Int} {u v : Nat → Int} {p way z : Nat → Nat} (hr : r ≤ 8) (hs : step ≤ r) (hM : hu_M 20 r a u v p) (hZ : hu_Z 20 step a u v p way z) {Qp : jd_P} (hQ : ∀ T q, bp_fS S T → (∀ c, c ≤ 20 → T 10 c = nI (q c) ∧ q c ≤ 8) → hu_G 20 r a u v q → Qp.1 none T M) : ∀ (k st i : Nat), 9 < st + k → i ≤ step → st + i ≤ step → ∀ (T : Nat → Nat → Int32) (q : Nat → Nat), bp_fS S T → (∀ c, 1 ≤ c → c ≤ 20 → 1 ≤ i → T 11 c = nI (way c)) → (∀ c, c ≤ 20 → T 10 c = nI (q c) ∧ q c ≤ 8) → hu_A 20 r i a u v p q z → jd_J l D w zn_B zb_B_giveColumn 5 (Option.none : Option Jvm.ClassFile.FieldType) [] ({ frames := 1, cells := 0, slots := 0, locals := 25 } : Room) 0 0 Qp 0 0 91 [(0, av_r 5), (2, av_i (nI (z i))), (3, av_i (nI st))] [] T M := by
  intro k
  induction k with
  | zero => intro st i h1 h2 h3; omega
  | succ k ih =>
    intro st i hk hi hst T q hT hw9 hq hA
    refine jd_iload_n zd_B_giveColumn_91 rfl ?_
    refine jd_bipush (v := nI 20) zd_B_giveColumn_92 (by decide) ?_
    refine jd_icmp_gt 131 zd_B_giveColumn_94 (by decide) (fun h_94 => ?_) (fun h_94 => ?_)
    · rw [nI_ltI (by decide) (by omega)] at h_94; omega
    refine jd_iload_n zd_B_giveColumn_97 rfl ?_
    have hzi := hZ.2.1 i hi
    refine jd_if_eq 131 zd_B_giveColumn_98 (by decide) (fun h_98 => ?_) (fun h_98 => ?_)
    · have hz0 : z i = 0 := by rcases Nat.eq_zero_or_pos (z i) with x | x; exact x; exact absurd h_98 (nI_ne0 x (by omega))
      have hi0 : i = 0 := hZ.2.2.1 i 0 hi (by omega) (hz0.trans hZ.1.symm)
      subst hi0
      exact jd_vret rfl (hQ T q hT hq (hu_A_end hM hZ hA)) (by decide) (by decide) zd_B_giveColumn_131
    have hz0 : z i ≠ 0 := fun x => h_98 (by rw [x]; rfl)
    have hi1 : 1 ≤ i := by rcases Nat.eq_zero_or_pos i with x | x; exact absurd (x ▸ hZ.1) hz0; exact x
    obtain ⟨j, hj, ej, hA2⟩ := hu_A_step (q' := fun c => if c = z i then q (way (z i)) else q c) hZ hi hA hz0 (if_pos rfl) (fun c hc => if_neg hc)
    have hzj := hZ.2.1 j (by omega)
    refine jd_aload_n zd_B_giveColumn_101 rfl ?_
    refine jd_get rfl rfl zl_B 4 (by decide) zi_116 rfl rfl rfl (by decide) zd_B_giveColumn_102 ?_
    refine jd_iload_n zd_B_giveColumn_105 rfl ?_
    refine jd_ildN (r := 11) (c := (z i)) rfl rfl (by omega) (n := 21) (by decide) rfl (by decide) zd_B_giveColumn_106 ?_
    rw [hw9 (z i) (by omega) hzi hi1, ej]
    refine jd_istore zd_B_giveColumn_107 (by decide) ?_
    refine jd_aload_n zd_B_giveColumn_109 rfl ?_
    refine jd_get rfl rfl zl_B 3 (by decide) zi_115 rfl rfl rfl (by decide) zd_B_giveColumn_110 ?_
    refine jd_iload_n zd_B_giveColumn_113 rfl ?_
    refine jd_aload_n zd_B_giveColumn_114 rfl ?_
    refine jd_get rfl rfl zl_B 3 (by decide) zi_115 rfl rfl rfl (by decide) zd_B_giveColumn_115 ?_
    refine jd_iload zd_B_giveColumn_118 rfl ?_
    refine jd_ildN (r := 10) (c := (z j)) rfl rfl (by omega) (n := 21) (by decide) rfl (by decide) zd_B_giveColumn_120 ?_
    rw [(hq (z j) hzj).1]
    refine jd_istN (r := 10) (c := (z i)) (fun _ => rfl) rfl (by omega) (n := 21) (by decide) rfl (by decide) zd_B_giveColumn_121 ?_
    refine jd_iload zd_B_giveColumn_122 rfl ?_
    refine jd_istore_n zd_B_giveColumn_124 (by decide) ?_
    refine jd_iinc (v := nI (st + 1)) zd_B_giveColumn_125 rfl (nI_inc st) (by decide) ?_
    refine jd_goto 91 zd_B_giveColumn_128 (by decide) ?_
    exact jd_sub [(0, av_r 5), (2, av_i (nI (z j))), (3, av_i (nI (st + 1)))] ⟨rfl, rfl, rfl, trivial⟩ (ih (st + 1) j (by omega) (by omega) (by omega) _ _ (hT.up (Or.inl rfl) _) (fun c c1 cN _ => by rw [va_up_ne _ _ (by decide)]; exact hw9 c c1 cN hi1) (fun c hc => by
          rw [va_up_self]
          by_cases e : c = z i
          · subst e; simp only [upd, if_true]; rw [ej]; exact ⟨rfl, (hq (z j) hzj).2⟩
          · simp only [upd, if_neg e]; exact hq c hc) hA2)
set_option maxRecDepth 100000 in
set_option maxHeartbeats 4000000 in
theorem kl_search {l : Launch} (hls : l.stackTraces = false) {D : va_G} {w : wd_T} {S : Nat → Nat → Int32} {L : Nat → Nat → Int64} {n r : Nat} {a : Nat → Nat → Int} {p : Nat → Nat} (hn : n ≤ 8) (hr : r ≤ n) (ha : ∀ i c, 1 ≤ i → i ≤ n → 1 ≤ c → c ≤ 20 → 0 ≤ a i c ∧ a i c ≤ 6525847399461442) {Qp : jd_P} (hQ : ∀ T M, bp_fS S T → bp_fL L M → (∃ (u9 v9 : Nat → Int) (q : Nat → Nat), bp_R T M n a u9 v9 q ∧ hu_G 20 r a u9 v9 q) → Qp.1 none T M) : ∀ (k step : Nat), 9 < step + k → step ≤ r → ∀ (T : Nat → Nat → Int32) (M : Nat → Nat → Int64) (u v d : Nat → Int) (way z : Nat → Nat), bp_fS S T → bp_fL L M → bp_I n r a T M step u v d p way z → jd_J l D w zn_B zb_B_giveColumn 5 (Option.none : Option Jvm.ClassFile.FieldType) [] ({ frames := 1, cells := 0, slots := 0, locals := 25 } : Room) 0 0 Qp 0 0 41 [(0, av_r 5), (1, av_i (nI r)), (2, av_i (nI (z step))), (3, av_i (nI step))] [] T M := by
  intro k
  induction k with
  | zero => intro step h1 h2; omega
  | succ k ih =>
    intro step hk hs T M u v d way z hT hM9 hI
    refine jd_iload_n zd_B_giveColumn_41 rfl ?_
    refine jd_bipush (v := nI 20) zd_B_giveColumn_42 (by decide) ?_
    refine jd_icmp_gt 89 zd_B_giveColumn_44 (by decide) (fun h_44 => ?_) (fun h_44 => ?_)
    · rw [nI_ltI (by decide) (by omega)] at h_44; omega
    have hzs := hI.2.1.2.1 step (Nat.le_refl _)
    have hpz := hI.2.2.2.2.1.2.2.2 (z step) hzs
    refine jd_aload_n zd_B_giveColumn_47 rfl ?_
    refine jd_get rfl rfl zl_B 3 (by decide) zi_115 rfl rfl rfl (by decide) zd_B_giveColumn_48 ?_
    refine jd_iload_n zd_B_giveColumn_51 rfl ?_
    refine jd_ildN (r := 10) (c := (z step)) rfl rfl (by omega) (n := 21) (by decide) rfl (by decide) zd_B_giveColumn_52 ?_
    rw [hpz.1]
    refine jd_if_eq 89 zd_B_giveColumn_53 (by decide) (fun h_53 => ?_) (fun h_53 => ?_)
    · have hp0 : p (z step) = 0 := by rcases Nat.eq_zero_or_pos (p (z step)) with x | x; exact x; exact absurd h_53 (nI_ne0 x (by omega))
      obtain ⟨iM, iZ, iD, iu, ⟨r1, r2, r3, r4⟩, iw, i0, id9, ir⟩ := hI
      refine jd_iconst (v := 0) zd_B_giveColumn_89 (by decide) ?_
      refine jd_istore_n zd_B_giveColumn_90 (by decide) ?_
      exact jd_sub [(0, av_r 5), (2, av_i (nI (z step))), (3, av_i (nI 0))] ⟨rfl, rfl, rfl, trivial⟩ (kl_chain (S := S) hls (n := n) (way := way) (by omega) hs iM iZ (fun T2 q h1 h2 h3 => hQ T2 M h1 hM9 ⟨u, v, q, ⟨r1, r2, r3, h2⟩, h3⟩) 10 0 step (by omega) (Nat.le_refl _) (by omega) T p hT (fun c c1 cN s1 => iw s1 c c1 cN) r4 (hu_A_start iM hp0))
    · have hp0 : p (z step) ≠ 0 := fun x => h_53 (by rw [x]; rfl)
      have hstep := hu_steps hI.1 hI.2.1 hp0
      obtain ⟨hj1, hj2, hrw, u2, v2, d2, way2, hI2⟩ := bp_step hn hr ha hI hp0 rfl rfl rfl rfl rfl
      refine jd_aload_n zd_B_giveColumn_56 rfl ?_
      refine jd_get rfl rfl zl_B 6 (by decide) zi_118 rfl rfl rfl (by decide) zd_B_giveColumn_57 ?_
      refine jd_iload_n zd_B_giveColumn_60 rfl ?_
      refine jd_iconst (v := 1) zd_B_giveColumn_61 (by decide) ?_
      refine jd_zstN (r := 13) (c := (z step)) (fun _ => rfl) (by decide) rfl (by omega) (n := 21) (by decide) rfl (by decide) zd_B_giveColumn_62 ?_
      refine jd_aload_n zd_B_giveColumn_63 rfl ?_
      refine jd_iload_n zd_B_giveColumn_64 rfl ?_
      refine jd_callV (n := 1) (kc_measure hls (f := z step) (row := p (z step)) hzs (by rw [va_up_ne _ _ (by decide)]; exact hpz.1) hpz.2) rfl rfl rfl rfl (by decide) zi_549 zi_551 zi_16 zi_43 zi_552 (by decide +kernel) rfl rfl rfl (by decide) (Nat.le_of_ble_eq_true rfl) (by decide) zd_B_giveColumn_65 (fun _ _ _ h => h.elim) (fun v S2 L2 hq => ?_)
      obtain ⟨rfl, rfl, rfl⟩ := hq
      refine jd_aload_n zd_B_giveColumn_68 rfl ?_
      refine jd_callV (n := 0) (kc_nearest hls) rfl rfl rfl rfl (by decide) zi_553 zi_555 zi_17 zi_43 zi_556 (by decide +kernel) rfl rfl rfl (by decide) (Nat.le_of_ble_eq_true rfl) (by decide) zd_B_giveColumn_69 (fun _ _ _ h => h.elim) (fun v S2 L2 hq => ?_)
      obtain ⟨rfl, rfl, rfl⟩ := hq
      refine jd_istore_n zd_B_giveColumn_72 (by decide) ?_
      refine jd_aload_n zd_B_giveColumn_73 rfl ?_
      refine jd_aload_n zd_B_giveColumn_74 rfl ?_
      refine jd_get rfl rfl zl_B 5 (by decide) zi_117 rfl rfl rfl (by decide) zd_B_giveColumn_75 ?_
      refine jd_iload_n zd_B_giveColumn_78 rfl ?_
      refine jd_lldN (r := 12) (c := bp_n _ _ 21) rfl rfl (by omega) (n := 21) (by decide) rfl (by decide) zd_B_giveColumn_79 ?_
      refine jd_callV (n := 1) (kc_shiftBy hls _ hrw) rfl rfl rfl rfl (by decide) zi_557 zi_559 zi_18 zi_43 zi_560 (by decide +kernel) rfl rfl rfl (by decide) (Nat.le_of_ble_eq_true rfl) (by decide) zd_B_giveColumn_80 (fun _ _ _ h => h.elim) (fun v S2 L2 hq => ?_)
      obtain ⟨rfl, rfl, rfl⟩ := hq
      refine jd_iinc (v := nI (step + 1)) zd_B_giveColumn_83 rfl (nI_inc step) (by decide) ?_
      refine jd_goto 41 zd_B_giveColumn_86 (by decide) ?_
      exact jd_sub [(0, av_r 5), (1, av_i (nI r)), (2, av_i (nI ((fun i => if i = step + 1 then bp_n _ _ 21 else z i) (step + 1)))), (3, av_i (nI (step + 1)))] ⟨rfl, rfl, by simp only [if_true]; rfl, rfl, trivial⟩ (ih (step + 1) (by omega) (by omega) _ _ u2 v2 d2 way2 _ ((hT.up (Or.inr (Or.inr rfl)) _).up (Or.inr (Or.inl rfl)) _) ((hM9.up (Or.inr (Or.inr rfl)) _).s _ _) hI2)
set_option maxRecDepth 100000 in
set_option maxHeartbeats 4000000 in
theorem kl_give0 {l : Launch} (hls : l.stackTraces = false) {D : va_G} {w : wd_T} {S : Nat → Nat → Int32} {L : Nat → Nat → Int64} (x : Int32) {Qp : jd_P} (hnext : ∀ T M, (∀ r, r ≠ 13 → T r = S r) → (∀ c, c < 21 → T 13 c = 0) → (∀ r, r ≠ 12 → M r = L r) → (∀ c, c < 21 → M 12 c = 4611686018427387904) → jd_J l D w zn_B zb_B_giveColumn 5 (Option.none : Option Jvm.ClassFile.FieldType) [] ({ frames := 1, cells := 0, slots := 0, locals := 25 } : Room) 0 0 Qp 0 0 30 [(0, av_r 5), (1, av_i x)] [] T M) : ∀ (k c : Nat), c ≤ 21 → 21 < c + k → ∀ (T : Nat → Nat → Int32) (M : Nat → Nat → Int64), (∀ r, r ≠ 13 → T r = S r) → (∀ i, i < c → T 13 i = 0) → (∀ r, r ≠ 12 → M r = L r) → (∀ i, i < c → M 12 i = 4611686018427387904) → jd_J l D w zn_B zb_B_giveColumn 5 (Option.none : Option Jvm.ClassFile.FieldType) [] ({ frames := 1, cells := 0, slots := 0, locals := 25 } : Room) 0 0 Qp 0 0 2 [(0, av_r 5), (1, av_i x), (2, av_i (nI c))] [] T M := by
  intro k
  induction k with
  | zero => intro c h1 h2; omega
  | succ k ih =>
    intro c hc hk T M hT hT13 hM hM12
    refine jd_iload_n zd_B_giveColumn_2 rfl ?_
    refine jd_bipush (v := nI 20) zd_B_giveColumn_3 (by decide) ?_
    refine jd_icmp_gt 30 zd_B_giveColumn_5 (by decide) (fun h_5 => ?_) (fun h_5 => ?_)
    · have e_c := cb_end (by decide) hc h_5
      subst e_c
      exact jd_sub [(0, av_r 5), (1, av_i x)] ⟨rfl, rfl, trivial⟩ (hnext T M hT hT13 hM hM12)
    · have hc2 := cb_on (by decide) hc h_5
      refine jd_aload_n zd_B_giveColumn_8 rfl ?_
      refine jd_get rfl rfl zl_B 5 (by decide) zi_117 rfl rfl rfl (by decide) zd_B_giveColumn_9 ?_
      refine jd_iload_n zd_B_giveColumn_12 rfl ?_
      refine jd_ldc2 zi_548 zd_B_giveColumn_13 ?_
      refine jd_lstN (r := 12) (c := c) (fun _ => rfl) rfl (by omega) (n := 21) (by decide) rfl (by decide) zd_B_giveColumn_16 ?_
      refine jd_aload_n zd_B_giveColumn_17 rfl ?_
      refine jd_get rfl rfl zl_B 6 (by decide) zi_118 rfl rfl rfl (by decide) zd_B_giveColumn_18 ?_
      refine jd_iload_n zd_B_giveColumn_21 rfl ?_
      refine jd_iconst (v := 0) zd_B_giveColumn_22 (by decide) ?_
      refine jd_zstN (r := 13) (c := c) (fun _ => rfl) (by decide) rfl (by omega) (n := 21) (by decide) rfl (by decide) zd_B_giveColumn_23 ?_
      refine jd_iinc (v := nI (c + 1)) zd_B_giveColumn_24 rfl (nI_inc c) (by decide) ?_
      refine jd_goto 2 zd_B_giveColumn_27 (by decide) ?_
      exact jd_sub [(0, av_r 5), (1, av_i x), (2, av_i (nI (c + 1)))] ⟨rfl, rfl, rfl, trivial⟩ (ih (c + 1) (by omega) (by omega) _ _ (fun q hq => by rw [va_up_ne _ _ hq]; exact hT q hq) (us_up (P := fun _ x => x = 0) hT13 rfl) (fun q hq => by rw [va_up_ne _ _ hq]; exact hM q hq) (ul_up (P := fun _ x => x = 4611686018427387904) hM12 rfl))
set_option maxRecDepth 100000 in
set_option maxHeartbeats 4000000 in
theorem kc_give {l : Launch} (hls : l.stackTraces = false) {D : va_G} {w : wd_T} {S : Nat → Nat → Int32} {L : Nat → Nat → Int64} {n r : Nat} {a : Nat → Nat → Int} {u v : Nat → Int} {p : Nat → Nat} (hn : n ≤ 8) (hr : r + 1 ≤ n) (ha : ∀ i c, 1 ≤ i → i ≤ n → 1 ≤ c → c ≤ 20 → 0 ≤ a i c ∧ a i c ≤ 6525847399461442) (hR : bp_R S L n a u v p) (hG : hu_G 20 r a u v p) : ct_M l D w zy_B_giveColumn (Cond.code zy_B_giveColumn zb_B_giveColumn 5 (Option.none : Option Jvm.ClassFile.FieldType)) ({ frames := 1, cells := 0, slots := 0, locals := 25 } : Room) [av_r 5, av_i (nI (r + 1))] S L (po_gc n (r + 1) a S L) 0 0 := by
  refine ct_intro hls (own := zn_B) (by decide) rfl (Nat.le_of_ble_eq_true rfl) ?_
  refine jd_iconst (v := 0) zd_B_giveColumn_0 (by decide) ?_
  refine jd_istore_n zd_B_giveColumn_1 (by decide) ?_
  refine jd_sub [(0, av_r 5), (1, av_i (nI (r + 1))), (2, av_i (nI 0))] ⟨rfl, rfl, rfl, trivial⟩ (kl_give0 (S := S) (L := L) hls (nI (r + 1)) (fun T M hT hT13 hM hM12 => ?_) 22 0 (by omega) (by omega) S L (fun _ _ => rfl) (fun i hi => by omega) (fun _ _ => rfl) (fun i hi => by omega))
  have hI := bp_start hn hr ha hR hG hT hT13 hM hM12
  refine jd_aload_n zd_B_giveColumn_30 rfl ?_
  refine jd_get rfl rfl zl_B 3 (by decide) zi_115 rfl rfl rfl (by decide) zd_B_giveColumn_31 ?_
  refine jd_iconst (v := 0) zd_B_giveColumn_34 (by decide) ?_
  refine jd_iload_n zd_B_giveColumn_35 rfl ?_
  refine jd_istN (r := 10) (c := 0) (fun _ => rfl) rfl (by omega) (n := 21) (by decide) rfl (by decide) zd_B_giveColumn_36 ?_
  refine jd_iconst (v := 0) zd_B_giveColumn_37 (by decide) ?_
  refine jd_istore_n zd_B_giveColumn_38 (by decide) ?_
  refine jd_iconst (v := 0) zd_B_giveColumn_39 (by decide) ?_
  refine jd_istore_n zd_B_giveColumn_40 (by decide) ?_
  exact jd_sub [(0, av_r 5), (1, av_i (nI (r + 1))), (2, av_i (nI ((fun _ => 0) 0))), (3, av_i (nI 0))] ⟨rfl, rfl, rfl, rfl, trivial⟩ (kl_search (S := S) (L := L) (Qp := po_gc n (r + 1) a S L) hls hn hr ha (fun T2 M2 h1 h2 h3 => ⟨rfl, h1, h2, h3⟩) 10 0 (by omega) (by omega) _ M u v _ _ _ (fun q h1 h2 h3 => by rw [va_up_ne _ _ h1]; exact hT q h3) (fun q h1 h2 h3 => hM q h3) hI)
set_option maxRecDepth 100000 in
set_option maxHeartbeats 4000000 in
theorem kl_solve {l : Launch} (hls : l.stackTraces = false) {D : va_G} {w : wd_T} {S : Nat → Nat → Int32} {L : Nat → Nat → Int64} {n : Nat} {a : Nat → Nat → Int} (hn : n ≤ 8) (h57 : S 5 7 = nI n) (ha : ∀ i c, 1 ≤ i → i ≤ n → 1 ≤ c → c ≤ 20 → 0 ≤ a i c ∧ a i c ≤ 6525847399461442) {Qp : jd_P} (hQ : ∀ T M, bp_fS S T → bp_fL L M → (∃ (u9 v9 : Nat → Int) (q : Nat → Nat), bp_R T M n a u9 v9 q ∧ hu_G 20 n a u9 v9 q) → Qp.1 none T M) : ∀ (k r : Nat), r ≤ n → n < r + k → ∀ (T : Nat → Nat → Int32) (M : Nat → Nat → Int64) (u v : Nat → Int) (p : Nat → Nat), bp_fS S T → bp_fL L M → bp_R T M n a u v p → hu_G 20 r a u v p → jd_J l D w zn_B zb_B_solve 2 (Option.none : Option Jvm.ClassFile.FieldType) [] ({ frames := 2, cells := 0, slots := 0, locals := 49 } : Room) 0 0 Qp 0 0 2 [(0, av_r 5), (1, av_i (nI (r + 1)))] [] T M := by
  intro k
  induction k with
  | zero => intro r h1 h2; omega
  | succ k ih =>
    intro r hr hk T M u v p hT hM hR hG
    refine jd_iload_n zd_B_solve_2 rfl ?_
    refine jd_aload_n zd_B_solve_3 rfl ?_
    refine jd_get rfl rfl zl_B 7 (by decide) zi_119 rfl rfl rfl (by decide) zd_B_solve_4 ?_
    rw [hT 5 (by decide) (by decide) (by decide), h57]
    refine jd_icmp_gt 21 zd_B_solve_7 (by decide) (fun h_7 => ?_) (fun h_7 => ?_)
    · rw [nI_ltI (by omega) (by omega)] at h_7
      have e_r : r = n := by omega
      subst e_r
      exact jd_vret rfl (hQ T M hT hM ⟨u, v, p, hR, hG⟩) (by decide) (by decide) zd_B_solve_21
    · rw [nI_ltI (by omega) (by omega)] at h_7
      refine jd_aload_n zd_B_solve_10 rfl ?_
      refine jd_iload_n zd_B_solve_11 rfl ?_
      refine jd_callV (n := 1) (kc_give hls hn (show r + 1 ≤ n by omega) ha hR hG) rfl rfl rfl rfl (by decide) zi_544 zi_546 zi_15 zi_43 zi_547 (by decide +kernel) rfl rfl rfl (by decide) (Nat.le_of_ble_eq_true rfl) (by decide) zd_B_solve_12 (fun _ _ _ h => h.elim) (fun v S2 L2 hq => ?_)
      obtain ⟨rfl, g1, g2, u2, v2, q2, hR2, hG2⟩ := hq
      refine jd_iinc (v := nI ((r + 1) + 1)) zd_B_solve_15 rfl (nI_inc (r + 1)) (by decide) ?_
      refine jd_goto 2 zd_B_solve_18 (by decide) ?_
      exact jd_sub [(0, av_r 5), (1, av_i (nI (r + 1 + 1)))] ⟨rfl, rfl, trivial⟩ (ih (r + 1) (by omega) (by omega) _ _ u2 v2 q2 (hT.tr g1) (hM.tr g2) hR2 hG2)
set_option maxRecDepth 100000 in
set_option maxHeartbeats 4000000 in
theorem kc_solve {l : Launch} (hls : l.stackTraces = false) {D : va_G} {w : wd_T} {S : Nat → Nat → Int32} {L : Nat → Nat → Int64} {n : Nat} {a : Nat → Nat → Int} {u v : Nat → Int} {p : Nat → Nat} (hn : n ≤ 8) (h57 : S 5 7 = nI n) (ha : ∀ i c, 1 ≤ i → i ≤ n → 1 ≤ c → c ≤ 20 → 0 ≤ a i c ∧ a i c ≤ 6525847399461442) (hR : bp_R S L n a u v p) (hG : hu_G 20 0 a u v p) : ct_M l D w zy_B_solve (Cond.code zy_B_solve zb_B_solve 2 (Option.none : Option Jvm.ClassFile.FieldType)) ({ frames := 2, cells := 0, slots := 0, locals := 49 } : Room) [av_r 5] S L (po_gc n n a S L) 0 0 := by
  refine ct_intro hls (own := zn_B) (by decide) rfl (Nat.le_of_ble_eq_true rfl) ?_
  refine jd_iconst (v := 1) zd_B_solve_0 (by decide) ?_
  refine jd_istore_n zd_B_solve_1 (by decide) ?_
  exact jd_sub [(0, av_r 5), (1, av_i (nI (0 + 1)))] ⟨rfl, rfl, trivial⟩ (kl_solve (S := S) (L := L) (Qp := po_gc n n a S L) hls hn h57 ha (fun T2 M2 h1 h2 h3 => ⟨rfl, h1, h2, h3⟩) (n + 1) 0 (by omega) (by omega) S L u v p (fun _ _ _ _ => rfl) (fun _ _ _ _ => rfl) hR hG)
