/-! WHAT THE CLASS KEEPS, it keeps through every call. -/
theorem fa_gr_iff {T : Nat → Nat → Int32} {g : Nat} : fa_gr T g = true ↔ T (100 + g) 5 = 0 ∧ T (100 + g) 2 = nI g := by
  unfold fa_gr fa_in
  simp only [Bool.and_eq_true, decide_eq_true_eq]
section OKA
variable {w : wd_T} {G N : Nat → Nat → Int32}
theorem ok_B_same (hA : ok_A w G) (hu : ∀ u, u < w.2.2.1 → N (100 + u) 1 = G (100 + u) 1) (hc : ∀ u, u < w.2.2.1 → N (100 + u + 100) = G (100 + u + 100)) (hp : ∀ p, p < w.2.2.2 → N (300 + p) = G (300 + p)) (h3 : N 3 = G 3) : ok_B w N := by
  have hB := hA.2.2.2.2.1
  refine ⟨fun u h => by rw [hu u h]; exact hB.1 u h, fun u p h1 h2 => by rw [hc u h1]; exact hB.2.1 u p h1 h2, fun p h => by rw [hp p h]; exact hB.2.2.1 p h, fun k hk => by rw [h3]; exact hB.2.2.2 k hk⟩
theorem ok_A_g (hA : ok_A w G) (hu : ∀ u, u < w.2.2.1 → ∀ k, k ≠ 3 → k ≠ 4 → k ≠ 6 → N (100 + u) k = G (100 + u) k) (hst : ∀ u, u < w.2.2.1 → N (100 + u) 3 = -1 ∨ ∃ p, p < w.2.2.2 ∧ N (100 + u) 3 = nI p) (hH : ∀ u g, u < w.2.2.1 → g < w.2.2.1 → G (100 + u) 5 = 0 → G (100 + u) 2 = nI g → N (100 + u) 3 = N (100 + g) 3) (h0 : N 0 6 = G 0 6 ∧ N 0 7 = G 0 7) (hB : ok_B w N) (hF : ok_F w N) (h8 : ∃ e, e ≤ 8 ∧ N 0 8 = nI e) (h10 : N 0 10 = 0 ∨ N 0 10 = 1) : ok_A w N := by
  have h12 := hA.1.1
  have e2 : ∀ u, u < w.2.2.1 → N (100 + u) 2 = G (100 + u) 2 := fun u h => hu u h 2 (by decide) (by decide) (by decide)
  have e5 : ∀ u, u < w.2.2.1 → N (100 + u) 5 = G (100 + u) 5 := fun u h => hu u h 5 (by decide) (by decide) (by decide)
  have eg : ∀ u, u < w.2.2.1 → fa_gr N u = fa_gr G u := fun u h => by unfold fa_gr fa_in; rw [e2 u h, e5 u h]
  refine ⟨?_, fun u h => ?_, fun u h hd => ?_, fun u g h hg hl he => ?_, hB, hF, h8, h10, fun u g h hd hg he => ?_⟩
  · unfold ok_N; rw [h0.1, h0.2]; exact hA.1
  · rw [hu u h 0 (by decide) (by decide) (by decide), e2 u h, e5 u h]
    obtain ⟨a, b, c, d⟩ := hA.2.1 u h
    exact ⟨a, b, hst u h, d⟩
  · rw [e5 u h] at hd
    obtain ⟨g, g1, g2, g3⟩ := hA.2.2.1 u h hd
    exact ⟨g, g1, by rw [e2 u h]; exact g2, by rw [eg g (by omega)]; exact g3⟩
  · rw [e2 u h] at he
    rw [eg g hg] at hl
    rw [e5 u h]; exact hA.2.2.2.1 u g h hg hl he
  · rw [e5 u h] at hd
    rw [e2 u h] at he
    exact hH u g h hg hd he
/-- .. where no unit is moved -/
theorem ok_A_k (hA : ok_A w G) (hu : ∀ u, u < w.2.2.1 → ∀ k, k ≠ 4 → k ≠ 6 → N (100 + u) k = G (100 + u) k) (h0 : N 0 6 = G 0 6 ∧ N 0 7 = G 0 7) (hB : ok_B w N) (hF : ok_F w N) (h8 : ∃ e, e ≤ 8 ∧ N 0 8 = nI e) (h10 : N 0 10 = 0 ∨ N 0 10 = 1) : ok_A w N := by
  refine ok_A_g hA (fun u h k k3 k4 k6 => hu u h k k4 k6) (fun u h => ?_) (fun u g h hg hd he => ?_) h0 hB hF h8 h10
  · rw [hu u h 3 (by decide) (by decide)]; exact (hA.2.1 u h).2.2.1
  · rw [hu u h 3 (by decide) (by decide), hu g hg 3 (by decide) (by decide)]; exact hA.2.2.2.2.2.2.2.2 u g h hd hg he
theorem ok_F_same (hA : ok_A w G) (hu : ∀ u, u < w.2.2.1 → N (100 + u) 4 = G (100 + u) 4) : ok_F w N := fun u h => by rw [hu u h]; exact hA.2.2.2.2.2.1 u h
theorem ob_le {x : Int32} {a b : Int32} {m n : Nat} (ha : a.toInt = m) (hb : b.toInt = n) (h : ob x a b = false) : ∃ j, m ≤ j ∧ j ≤ n ∧ x = nI j := by
  simp only [ob, Bool.or_eq_false_iff, decide_eq_false_iff_not] at h
  have h1 := h.1
  rw [Int32.lt_iff_toInt_lt, ha] at h1
  obtain ⟨j, j1, j2⟩ := nI_of2 hb (by rw [Int32.lt_iff_toInt_lt]; have : (0 : Int32).toInt = 0 := by decide
                                      omega) (Int32.not_lt.mp h.2)
  refine ⟨j, ?_, j1, j2⟩
  have h2 := h.2
  rw [Int32.lt_iff_toInt_lt, hb] at h2
  have h31 : x.toInt < 2 ^ 31 := Int32.toInt_lt x
  rw [j2] at h1 h2
  rcases Nat.lt_or_ge j (2 ^ 31) with q | q
  · rw [nI_toInt q] at h1; omega
  · exfalso
    have hh := Int32.toInt_lt b
    omega
theorem oa_weight {x y c v : Int32} (hA : ok_A w G) (hO : ou_weight G x y c v N) : ok_A w N := by
  rcases hO with ⟨-, -, rfl⟩ | ⟨j, hj, -, hy, -, rfl⟩
  · exact hA
  · have h12 := hA.1.1
    have h13 := hA.1.2.1
    have hB := hA.2.2.2.2.1
    obtain ⟨t, -, t1, t2⟩ := ob_le (m := 0) (n := 100) (by decide) (by decide) hy
    refine ok_A_k hA (fun u hu k _ _ => by rw [va_up_ne _ _ (by omega)]) ⟨by rw [va_up_ne _ _ (by decide)], by rw [va_up_ne _ _ (by decide)]⟩ ⟨fun u hu => ?_, fun u p hu hp => ?_, fun p hp => ?_, fun k hk => ?_⟩ (ok_F_same hA (fun u hu => by rw [va_up_ne _ _ (by omega)])) ?_ ?_
    · rw [va_up_ne _ _ (by omega)]; exact hB.1 u hu
    · rw [va_up_ne _ _ (by omega)]; exact hB.2.1 u p hu hp
    · rw [va_up_ne _ _ (by omega)]; exact hB.2.2.1 p hp
    · rw [va_up_self]
      by_cases e : k = j
      · subst e; rw [pk_us]; exact ⟨t, t1, t2⟩
      · rw [pk_un e]; exact hB.2.2.2 k hk
    · rw [va_up_ne _ _ (by decide)]; exact hA.2.2.2.2.2.2.1
    · rw [va_up_ne _ _ (by decide)]; exact hA.2.2.2.2.2.2.2.1
theorem oa_limits {x y c v : Int32} (hA : ok_A w G) (hO : ou_limits G x y c v N) : ok_A w N := by
  rcases hO with ⟨-, -, rfl⟩ | ⟨hx, hy, -, rfl⟩
  · exact hA
  · have h12 := hA.1.1
    have h13 := hA.1.2.1
    obtain ⟨t, -, t1, t2⟩ := ob_le (m := 0) (n := 8) (by decide) (by decide) hx
    refine ok_A_k hA (fun u hu k _ _ => by rw [va_up_ne _ _ (by omega)]) ⟨by rw [va_up_self, pk_un (by decide), pk_un (by decide)], by rw [va_up_self, pk_un (by decide), pk_un (by decide)]⟩ (ok_B_same hA (fun u hu => by rw [va_up_ne _ _ (by omega)]) (fun u hu => by rw [va_up_ne _ _ (by omega)]) (fun p hp => by rw [va_up_ne _ _ (by omega)]) (by rw [va_up_ne _ _ (by omega)])) (ok_F_same hA (fun u hu => by rw [va_up_ne _ _ (by omega)])) ?_ ?_
    · exact ⟨t, t1, by rw [va_up_self, pk_un (by decide), pk_us]; exact t2⟩
    · rw [va_up_self, pk_un (by decide), pk_un (by decide)]; exact hA.2.2.2.2.2.2.2.1
/-- one number of one unit -/
theorem ok_A_u1 (hA : ok_A w G) {a k : Nat} (ha : a < w.2.2.1) {x : Int32} (hk : k = 6 ∨ (k = 4 ∧ (x = -1 ∨ ∃ b, b < w.2.2.2 ∧ x = nI b))) : ok_A w (va_up G (100 + a) (upd (G (100 + a)) k x)) := by
  have h12 := hA.1.1
  have h13 := hA.1.2.1
  have e : ∀ u, u < w.2.2.1 → ∀ j, j ≠ k → va_up G (100 + a) (upd (G (100 + a)) k x) (100 + u) j = G (100 + u) j := fun u hu j hj => by
    by_cases z : u = a
    · subst z; rw [va_up_self, pk_un hj]
    · rw [va_up_ne _ _ (by omega)]
  refine ok_A_k hA (fun u hu j h1 h2 => e u hu j (by omega)) ⟨by rw [va_up_ne _ _ (by omega)], by rw [va_up_ne _ _ (by omega)]⟩ (ok_B_same hA (fun u hu => e u hu 1 (by omega)) (fun u hu => by rw [va_up_ne _ _ (by omega)]) (fun p hp => by rw [va_up_ne _ _ (by omega)]) (by rw [va_up_ne _ _ (by omega)])) (fun u hu => ?_) (by rw [va_up_ne _ _ (by omega)]; exact hA.2.2.2.2.2.2.1) (by rw [va_up_ne _ _ (by omega)]; exact hA.2.2.2.2.2.2.2.1)
  rcases hk with hk | ⟨hk, hx⟩
  · rw [e u hu 4 (by omega)]; exact hA.2.2.2.2.2.1 u hu
  · subst hk
    by_cases z : u = a
    · subst z; rw [va_up_self, pk_us]; exact hx
    · rw [va_up_ne _ _ (by omega)]; exact hA.2.2.2.2.2.1 u hu
theorem oa_fits {x y z c v : Int32} (hA : ok_A w G) (hO : ou_fits w G x y z c v N) : ok_A w N := by
  rcases hO with ⟨-, -, rfl⟩ | ⟨a, b, ha, hb, -, -, -, rfl⟩
  · exact hA
  · exact ok_A_u1 hA ha (Or.inl rfl)
theorem oa_fix {x y c v : Int32} (hA : ok_A w G) (hO : ou_fix w G x y c v N) : ok_A w N := by
  rcases hO with ⟨-, -, rfl⟩ | ⟨a, ha, -, hy, ⟨-, -, rfl⟩ | ⟨-, -, rfl⟩⟩
  · exact hA
  · exact hA
  · exact ok_A_u1 hA ha (Or.inr ⟨rfl, hy⟩)
theorem oa_cost {x y z c v : Int32} (hA : ok_A w G) (hO : ou_cost w G x y z c v N) : ok_A w N := by
  rcases hO with ⟨-, -, rfl⟩ | ⟨a, b, ha, hb, -, -, ⟨-, -, rfl⟩ | ⟨hz, -, rfl⟩⟩
  · exact hA
  · exact hA
  · have h12 := hA.1.1
    have h13 := hA.1.2.1
    have hB := hA.2.2.2.2.1
    refine ok_A_k hA (fun u hu k _ _ => by rw [va_up_ne _ _ (by omega)]) ⟨by rw [va_up_ne _ _ (by omega)], by rw [va_up_ne _ _ (by omega)]⟩ ⟨fun u hu => ?_, fun u p hu hp => ?_, fun p hp => ?_, fun k hk => ?_⟩ (ok_F_same hA (fun u hu => by rw [va_up_ne _ _ (by omega)])) ?_ ?_
    · rw [va_up_ne _ _ (by omega)]; exact hB.1 u hu
    · by_cases e : u = a
      · subst e
        rw [va_up_self]
        by_cases e2 : p = b
        · subst e2
          rw [pk_us]
          by_cases q : 0 ≤ z
          · rw [if_pos q]
            right
            exact nI_of2 (by decide) (Int32.not_lt.mpr q) hz
          · rw [if_neg q]; exact Or.inl rfl
        · rw [pk_un e2]; exact hB.2.1 u p hu hp
      · rw [va_up_ne _ _ (by omega)]; exact hB.2.1 u p hu hp
    · rw [va_up_ne _ _ (by omega)]; exact hB.2.2.1 p hp
    · rw [va_up_ne _ _ (by omega)]; exact hB.2.2.2 k hk
    · rw [va_up_ne _ _ (by omega)]; exact hA.2.2.2.2.2.2.1
    · rw [va_up_ne _ _ (by omega)]; exact hA.2.2.2.2.2.2.2.1
theorem oa_at {x c v : Int32} (hA : ok_A w G) (hO : ou_at w G x c v N) : ok_A w N := by
  rcases hO with ⟨-, -, rfl⟩ | ⟨a, -, -, -, -, rfl⟩ <;> exact hA
theorem oa_told {x y c v : Int32} (hA : ok_A w G) (hO : ou_told w G x y c v N) : ok_A w N := by rw [hO.1]; exact hA
theorem oa_barred {x c v : Int32} (hA : ok_A w G) (hO : ou_barred w G x c v N) : ok_A w N := by rw [hO.1]; exact hA
theorem oa_share {x c v : Int32} (hA : ok_A w G) (hO : ou_share w G x c v N) : ok_A w N := by rw [hO.1]; exact hA
theorem oa_trip {x c v : Int32} (hA : ok_A w G) (hO : ou_trip w G x c v N) : ok_A w N := by rw [hO.1]; exact hA
theorem oa_open {x c v : Int32} (hA : ok_A w G) (hO : ou_open w G x c v N) : ok_A w N := by
  rcases hO with ⟨-, -, rfl⟩ | ⟨b, hb, -, ⟨-, -, rfl⟩ | ⟨-, -, rfl⟩⟩
  · exact hA
  · exact hA
  · exact ok_A_bl hA hb (Or.inl rfl)
/-- units are moved -/
theorem ok_A_mv (hA : ok_A w G) {cc : Nat → Bool} {f : Nat → Int32} (hf : ∀ u, u < w.2.2.1 → cc u = true → f u = -1 ∨ ∃ p, p < w.2.2.2 ∧ f u = nI p) (hN : ∀ u, u < w.2.2.1 → N (100 + u) = if cc u = true then upd (G (100 + u)) 3 (f u) else G (100 + u)) (ho : ∀ r, r ≠ 0 → (r < 100 ∨ 100 + w.2.2.1 ≤ r) → N r = G r) (h0 : ∀ k, k ≠ 10 → N 0 k = G 0 k) (h10 : N 0 10 = 0 ∨ N 0 10 = 1) (hH : ∀ u g, u < w.2.2.1 → g < w.2.2.1 → G (100 + u) 5 = 0 → G (100 + u) 2 = nI g → cc u = cc g ∧ (cc u = true → f u = f g)) : ok_A w N := by
  have h12 := hA.1.1
  have e : ∀ u, u < w.2.2.1 → ∀ k, k ≠ 3 → N (100 + u) k = G (100 + u) k := fun u hu k hk => by
    rw [hN u hu]
    split
    · exact pk_un hk
    · rfl
  refine ok_A_g hA (fun u hu k k3 _ _ => e u hu k k3) (fun u hu => ?_) (fun u g hu hg hd he => ?_) ⟨h0 6 (by decide), h0 7 (by decide)⟩ (ok_B_same hA (fun u hu => e u hu 1 (by decide)) (fun u hu => ho _ (by omega) (by omega)) (fun p hp => ho _ (by omega) (by omega)) (ho _ (by omega) (by omega))) (ok_F_same hA (fun u hu => e u hu 4 (by decide))) (by rw [h0 8 (by decide)]; exact hA.2.2.2.2.2.2.1) h10
  · rw [hN u hu]
    by_cases q : cc u = true
    · rw [if_pos q, pk_us]; exact hf u hu q
    · rw [if_neg q]; exact (hA.2.1 u hu).2.2.1
  · obtain ⟨h1, h2⟩ := hH u g hu hg hd he
    rw [hN u hu, hN g hg, ← h1]
    by_cases q : cc u = true
    · rw [if_pos q, if_pos q, pk_us, pk_us]; exact h2 q
    · rw [if_neg q, if_neg q]; exact hA.2.2.2.2.2.2.2.2 u g hu hd hg he
theorem ok_gr (hA : ok_A w G) {u g : Nat} (hu : u < w.2.2.1) (hg : g < w.2.2.1) (hd : G (100 + u) 5 = 0) (he : G (100 + u) 2 = nI g) : fa_gr G g = true := by
  have h12 := hA.1.1
  obtain ⟨g', g1, g2, g3⟩ := hA.2.2.1 u hu hd
  have : g' = g := by
    have h9 := g2.symm.trans he
    rw [nI_eq (by omega) (by omega)] at h9; exact h9
  subst this; exact g3
theorem ok_A_un (hA : ok_A w G) {g : Nat} {p : Int32} (hp : p = -1 ∨ ∃ q, q < w.2.2.2 ∧ p = nI q) (hg : g < w.2.2.1) : ok_A w (fa_un G w.2.2.1 (nI g) p) := by
  have h12 := hA.1.1
  refine ok_A_mv hA (cc := fun u => fa_in G u (nI g)) (f := fun _ => p) (fun u hu _ => hp) (fun u hu => ?_) (fun r _ hr => ?_) (fun k _ => ?_) ?_ (fun u h hu hh hd he => ⟨?_, fun _ => rfl⟩)
  · unfold fa_un; rw [fa_wr_un _ hu]
  · unfold fa_un; exact fa_wr_out _ hr
  · unfold fa_un; rw [fa_wr_out _ (by omega)]
  · unfold fa_un; rw [fa_wr_out _ (by omega)]; exact hA.2.2.2.2.2.2.2.1
  · have hgr := fa_in_tt (ok_gr hA hu hh hd he)
    simp only [fa_in, hd, he, hgr.1, hgr.2]
theorem oa_block {x c v : Int32} (hA : ok_A w G) (hO : ou_block w G x c v N) : ok_A w N := by
  rcases hO with ⟨-, -, rfl⟩ | ⟨b, hb, -, ⟨-, -, rfl⟩ | ⟨-, -, S1, rfl, ⟨-, -, rfl⟩ | ⟨g, hg, -, rfl, -⟩⟩⟩
  · exact hA
  · exact hA
  · exact ok_A_bl hA hb (Or.inr rfl)
  · exact ok_A_un (ok_A_bl hA hb (Or.inr rfl)) (fa_ch_in _ _ _ _ _) hg
theorem dr_in {b : Int32} {d : Nat → Int32} (hA : ok_A w G) (h : fa_dr w G b d) : ∀ g, g < w.2.2.1 → fa_gr G g = true → d g = -1 ∨ ∃ p, p < w.2.2.2 ∧ d g = nI p := by
  intro g hg hgr
  rcases h with ⟨-, -, f, hmin, rfl⟩ | ⟨-, -, rfl⟩
  · have hc := fa_cN_lt hg hgr
    have h1 := (hmin.1.1 _ hc)
    by_cases z : f (fa_cN G g) = 12
    · left; show pl_i (f (fa_cN G g)) = -1; unfold pl_i; rw [if_pos z]
    · right; exact ⟨f (fa_cN G g), (h1.2 z).1, if_neg z⟩
  · rw [gv_d1 hg hgr]; exact fa_ch_in _ _ _ _ _
theorem oa_assign {x c v : Int32} (hA : ok_A w G) (hO : ou_assign w G x c v N) : ok_A w N := by
  rcases hO with ⟨-, -, rfl⟩ | ⟨-, -, b, d, hdr, ⟨-, -, rfl⟩ | ⟨-, -, rfl⟩⟩
  · exact hA
  · exact hA
  · have h12 := hA.1.1
    have hb : b = 0 ∨ b = 1 := by rcases hdr with ⟨-, h, -⟩ | ⟨-, h, -⟩
                                  · exact Or.inr h
                                  · exact Or.inl h
    refine ok_A_mv hA (cc := fun u => decide (G (100 + u) 5 = 0)) (f := fun u => d (G (100 + u) 2).toNatClampNeg) (fun u hu hc => ?_) (fun u hu => ?_) (fun r h0 hr => ?_) (fun k hk => ?_) ?_ (fun u h hu hh hd he => ?_)
    · obtain ⟨g, g1, g2, g3⟩ := hA.2.2.1 u hu (of_decide_eq_true hc)
      show d (G (100 + u) 2).toNatClampNeg = -1 ∨ ∃ p, p < w.2.2.2 ∧ d (G (100 + u) 2).toNatClampNeg = nI p
      rw [g2, nI_clamp (by omega)]; exact dr_in hA hdr g (by omega) g3
    · rw [va_up_ne _ _ (by omega)]; unfold fa_as; rw [fa_wr_un _ hu]
    · rw [va_up_ne _ _ h0]; unfold fa_as; exact fa_wr_out _ hr
    · rw [va_up_self]; exact pk_un hk
    · rw [va_up_self, pk_us]; exact hb
    · have hgr := fa_in_tt (ok_gr hA hu hh hd he)
      exact ⟨by simp only [hd, hgr.1], fun _ => by show d (G (100 + u) 2).toNatClampNeg = d (G (100 + h) 2).toNatClampNeg; rw [he, hgr.2]⟩
theorem ok_A_fi (hA : ok_A w G) {g : Nat} (hg : g < w.2.2.1) : ok_A w (fa_fi G w.2.2.1 (nI g)) := by
  have h12 := hA.1.1
  have e : ∀ u, u < w.2.2.1 → fa_fi G w.2.2.1 (nI g) (100 + u) = if fa_in G u (nI g) = true then upd (G (100 + u)) 5 1 else G (100 + u) := fun u hu => by unfold fa_fi; rw [fa_wr_un _ hu]
  have ek : ∀ u, u < w.2.2.1 → ∀ k, k ≠ 5 → fa_fi G w.2.2.1 (nI g) (100 + u) k = G (100 + u) k := fun u hu k hk => by
    rw [e u hu]
    split
    · exact pk_un hk
    · rfl
  have eo : ∀ r, (r < 100 ∨ 100 + w.2.2.1 ≤ r) → fa_fi G w.2.2.1 (nI g) r = G r := fun r hr => by unfold fa_fi; exact fa_wr_out _ hr
  have e5 : ∀ u, u < w.2.2.1 → (fa_fi G w.2.2.1 (nI g) (100 + u) 5 = 0 ↔ G (100 + u) 5 = 0 ∧ ¬ G (100 + u) 2 = nI g) := fun u hu => by
    rw [e u hu]
    by_cases q : fa_in G u (nI g) = true
    · rw [if_pos q, pk_us]
      exact ⟨fun z => absurd z (by decide), fun z => absurd (fa_in_tt q).2 z.2⟩
    · rw [if_neg q]
      refine ⟨fun z => ⟨z, fun y => q ?_⟩, fun z => z.1⟩
      simp only [fa_in, z, y, decide_true, Bool.and_self]
  refine ⟨?_, fun u hu => ?_, fun u hu hd => ?_, fun u h hu hh hl he => ?_, ok_B_same hA (fun u hu => ek u hu 1 (by decide)) (fun u hu => eo _ (by omega)) (fun p hp => eo _ (by omega)) (eo _ (by omega)), ok_F_same hA (fun u hu => ek u hu 4 (by decide)), ?_, ?_, fun u h hu hd hh he => ?_⟩
  · unfold ok_N; rw [eo 0 (by omega)]; exact hA.1
  · obtain ⟨a, b, c, d⟩ := hA.2.1 u hu
    refine ⟨by rw [ek u hu 0 (by decide)]; exact a, by rw [ek u hu 2 (by decide)]; exact b, by rw [ek u hu 3 (by decide)]; exact c, ?_⟩
    rw [e u hu]
    split
    · right; exact pk_us
    · exact d
  · obtain ⟨d1, d2⟩ := (e5 u hu).mp hd
    obtain ⟨h, h1, h2, h3⟩ := hA.2.2.1 u hu d1
    have hgr := fa_in_tt h3
    refine ⟨h, h1, by rw [ek u hu 2 (by decide)]; exact h2, ?_⟩
    have k5 := (e5 h (by omega)).mpr ⟨hgr.1, by rw [hgr.2, ← h2]; exact d2⟩
    unfold fa_gr fa_in
    rw [k5, ek h (by omega) 2 (by decide), hgr.2]
    simp
  · have hgr := fa_in_tt hl
    obtain ⟨d1, d2⟩ := (e5 h hh).mp hgr.1
    rw [ek h hh 2 (by decide)] at hgr
    rw [ek u hu 2 (by decide)] at he
    refine (e5 u hu).mpr ⟨hA.2.2.2.1 u h hu hh (by unfold fa_gr fa_in; rw [d1, hgr.2]; simp) he, ?_⟩
    rw [he, ← hgr.2]; exact d2
  · rw [eo 0 (by omega)]; exact hA.2.2.2.2.2.2.1
  · rw [eo 0 (by omega)]; exact hA.2.2.2.2.2.2.2.1
  · obtain ⟨d1, d2⟩ := (e5 u hu).mp hd
    rw [ek u hu 2 (by decide)] at he
    rw [ek u hu 3 (by decide), ek h hh 3 (by decide)]
    exact hA.2.2.2.2.2.2.2.2 u h hu d1 hh he
theorem ok_A_fr (hA : ok_A w G) {p : Nat} (hp : p < w.2.2.2) {f : Nat} (hf : f ≤ 1000) : ok_A w (va_up G (300 + p) (upd (G (300 + p)) 3 (nI f))) := by
  have h12 := hA.1.1
  have h13 := hA.1.2.1
  have hB := hA.2.2.2.2.1
  refine ok_A_k hA (fun u hu k _ _ => by rw [va_up_ne _ _ (by omega)]) ⟨by rw [va_up_ne _ _ (by omega)], by rw [va_up_ne _ _ (by omega)]⟩ ⟨fun u hu => ?_, fun u p hu hp => ?_, fun q hq => ?_, fun k hk => ?_⟩ (ok_F_same hA (fun u hu => by rw [va_up_ne _ _ (by omega)])) ?_ ?_
  · rw [va_up_ne _ _ (by omega)]; exact hB.1 u hu
  · rw [va_up_ne _ _ (by omega)]; exact hB.2.1 u p hu hp
  · by_cases z : q = p
    · subst z
      obtain ⟨y1, y2, y3, y4⟩ := hB.2.2.1 q hq
      rw [va_up_self]
      exact ⟨by rw [pk_un (by decide)]; exact y1, ⟨f, hf, pk_us⟩, by rw [pk_un (by decide)]; exact y3, by rw [pk_un (by decide)]; exact y4⟩
    · rw [va_up_ne _ _ (by omega)]; exact hB.2.2.1 q hq
  · rw [va_up_ne _ _ (by omega)]; exact hB.2.2.2 k hk
  · rw [va_up_ne _ _ (by omega)]; exact hA.2.2.2.2.2.2.1
  · rw [va_up_ne _ _ (by omega)]; exact hA.2.2.2.2.2.2.2.1
theorem oa_put {x c v : Int32} (hA : ok_A w G) (hO : ou_put w G x c v N) : ok_A w N := by
  rcases hO with ⟨-, -, rfl⟩ | ⟨a, ha, -, ⟨-, -, rfl⟩ | ⟨p, hp, ep, hpl, ⟨-, -, rfl⟩ | ⟨hbr, -, -, rfl⟩⟩⟩
  · exact hA
  · exact hA
  · exact hA
  · have h12 := hA.1.1
    obtain ⟨-, ⟨g, g1, g2⟩, -, -⟩ := hA.2.1 a ha
    obtain ⟨⟨z, z1, z2⟩, -⟩ := fa_gb (g := nI g) hA w.2.2.1 (Nat.le_refl _)
    obtain ⟨-, ⟨f, f1, f2⟩, -⟩ := hA.2.2.2.2.1.2.2.1 p hp
    have h4 := fa_br_4 hbr
    rw [g2] at h4 ⊢
    rw [z2, f2] at h4 ⊢
    rw [nI_leI (by omega) (by omega)] at h4
    rw [pk_sub h4]
    exact ok_A_fi (ok_A_fr hA hp (by omega)) (by omega)
theorem oa_together {x y c v : Int32} (hA : ok_A w G) (hO : ou_together w G x y c v N) : ok_A w N := by
  rcases hO with ⟨-, -, rfl⟩ | ⟨a, b, ha, hb, -, -, ⟨-, -, rfl⟩ | ⟨lo, hi, h5a, h5b, hlh, hhi, hcs, -, rfl, -⟩⟩
  · exact hA
  · exact hA
  · have h12 := hA.1.1
    have hgl : lo < w.2.2.1 ∧ hi < w.2.2.1 := by
      obtain ⟨-, ⟨ga, ga1, ga2⟩, -, -⟩ := hA.2.1 a ha
      obtain ⟨-, ⟨gb, gb1, gb2⟩, -, -⟩ := hA.2.1 b hb
      rcases hcs with ⟨q1, q2⟩ | ⟨q1, q2⟩
      · rw [ga2, nI_eq (by omega) (by omega)] at q1
        rw [gb2, nI_eq (by omega) (by omega)] at q2
        omega
      · rw [ga2, nI_eq (by omega) (by omega)] at q1
        rw [gb2, nI_eq (by omega) (by omega)] at q2
        omega
    obtain ⟨hl, hh⟩ := hgl
    have hll : fa_gr G lo = true := by
      rcases hcs with ⟨q1, q2⟩ | ⟨q1, q2⟩
      · exact ok_gr hA ha hl h5a q1
      · exact ok_gr hA hb hl h5b q2
    have hlt := fa_in_tt hll
    rw [tg_N (by omega) hhi (by omega)]
    have e : ∀ u, u < w.2.2.1 → fa_wr G (fun u => fa_in G u (nI lo) || fa_in G u (nI hi)) (tg_f (nI lo)) w.2.2.1 (100 + u) = if (fa_in G u (nI lo) || fa_in G u (nI hi)) = true then tg_f (nI lo) (G (100 + u)) else G (100 + u) := fun u hu => fa_wr_un _ hu
    have hc : ∀ u, (fa_in G u (nI lo) || fa_in G u (nI hi)) = true ↔ G (100 + u) 5 = 0 ∧ (G (100 + u) 2 = nI lo ∨ G (100 + u) 2 = nI hi) := fun u => by
      simp only [fa_in, Bool.or_eq_true, Bool.and_eq_true, decide_eq_true_eq]
      constructor
      · rintro (z | z)
        · exact ⟨z.1, Or.inl z.2⟩
        · exact ⟨z.1, Or.inr z.2⟩
      · rintro ⟨z, y | y⟩
        · exact Or.inl ⟨z, y⟩
        · exact Or.inr ⟨z, y⟩
    have eo : ∀ r, (r < 100 ∨ 100 + w.2.2.1 ≤ r) → fa_wr G (fun u => fa_in G u (nI lo) || fa_in G u (nI hi)) (tg_f (nI lo)) w.2.2.1 r = G r := fun r hr => fa_wr_out _ hr
    have f2 : ∀ row : Nat → Int32, tg_f (nI lo) row 2 = nI lo := fun row => by simp [tg_f, upd]
    have f3 : ∀ row : Nat → Int32, tg_f (nI lo) row 3 = -1 := fun row => by simp [tg_f, upd]
    have fk : ∀ (row : Nat → Int32) k, k ≠ 2 → k ≠ 3 → tg_f (nI lo) row k = row k := fun row k k2 k3 => by simp [tg_f, upd, k2, k3]
    have ek : ∀ u, u < w.2.2.1 → ∀ k, k ≠ 2 → k ≠ 3 → fa_wr G (fun u => fa_in G u (nI lo) || fa_in G u (nI hi)) (tg_f (nI lo)) w.2.2.1 (100 + u) k = G (100 + u) k := fun u hu k k2 k3 => by
      rw [e u hu]
      split
      · exact fk _ k k2 k3
      · rfl
    have hne : ∀ a b : Nat, a < 12 → b < 12 → a ≠ b → ¬ nI a = nI b := fun a b h1 h2 h3 z => by rw [nI_eq (by omega) (by omega)] at z; exact h3 z
    -- a group that stands in the new numbers stands in the old, and is not hi
    have hgr : ∀ g, g < w.2.2.1 → (fa_gr (fa_wr G (fun u => fa_in G u (nI lo) || fa_in G u (nI hi)) (tg_f (nI lo)) w.2.2.1) g = true ↔ fa_gr G g = true ∧ g ≠ hi) := fun g hg => by
      rw [fa_gr_iff, fa_gr_iff, ek g hg 5 (by decide) (by decide), e g hg]
      by_cases q : (fa_in G g (nI lo) || fa_in G g (nI hi)) = true
      · rw [if_pos q, f2]
        obtain ⟨q1, q2⟩ := (hc g).mp q
        constructor
        · rintro ⟨z1, z2⟩
          rw [nI_eq (by omega) (by omega)] at z2
          subst z2
          exact ⟨⟨hlt.1, hlt.2⟩, by omega⟩
        · rintro ⟨⟨z1, z2⟩, z3⟩
          refine ⟨z1, ?_⟩
          rcases q2 with q2 | q2
          · exact q2.symm.trans z2
          · exact absurd (q2.symm.trans z2) (hne _ _ (by omega) (by omega) (fun y => z3 y.symm))
      · rw [if_neg q]
        constructor
        · rintro ⟨z1, z2⟩
          refine ⟨⟨z1, z2⟩, fun y => q ?_⟩
          subst y
          exact (hc g).mpr ⟨z1, Or.inr z2⟩
        · rintro ⟨z, -⟩; exact z
    refine ⟨?_, fun u hu => ?_, fun u hu hd => ?_, fun u g hu hg hlg he => ?_, ok_B_same hA (fun u hu => ek u hu 1 (by decide) (by decide)) (fun u hu => eo _ (by omega)) (fun p hp => eo _ (by omega)) (eo _ (by omega)), ok_F_same hA (fun u hu => ek u hu 4 (by decide) (by decide)), ?_, ?_, fun u g hu hd hg he => ?_⟩
    · unfold ok_N; rw [eo 0 (by omega)]; exact hA.1
    · obtain ⟨y1, ⟨g, y2, y2e⟩, y3, y4⟩ := hA.2.1 u hu
      refine ⟨by rw [ek u hu 0 (by decide) (by decide)]; exact y1, ?_, ?_, by rw [ek u hu 5 (by decide) (by decide)]; exact y4⟩
      · rw [e u hu]
        by_cases q : (fa_in G u (nI lo) || fa_in G u (nI hi)) = true
        · rw [if_pos q, f2]
          obtain ⟨q1, q2⟩ := (hc u).mp q
          refine ⟨lo, ?_, rfl⟩
          rcases q2 with q2 | q2
          · rw [y2e, nI_eq (by omega) (by omega)] at q2; omega
          · rw [y2e, nI_eq (by omega) (by omega)] at q2; omega
        · rw [if_neg q]; exact ⟨g, y2, y2e⟩
      · rw [e u hu]
        split
        · left; exact f3 _
        · exact y3
    · rw [ek u hu 5 (by decide) (by decide)] at hd
      obtain ⟨g, g1, g2, g3⟩ := hA.2.2.1 u hu hd
      rw [e u hu]
      by_cases q : (fa_in G u (nI lo) || fa_in G u (nI hi)) = true
      · rw [if_pos q]
        obtain ⟨q1, q2⟩ := (hc u).mp q
        refine ⟨lo, ?_, f2 _, (hgr lo hl).mpr ⟨hll, by omega⟩⟩
        rcases q2 with q2 | q2
        · rw [g2, nI_eq (by omega) (by omega)] at q2; omega
        · rw [g2, nI_eq (by omega) (by omega)] at q2; omega
      · rw [if_neg q]
        refine ⟨g, g1, g2, (hgr g (by omega)).mpr ⟨g3, fun y => q ?_⟩⟩
        subst y
        exact (hc u).mpr ⟨hd, Or.inr g2⟩
    · rw [ek u hu 5 (by decide) (by decide)]
      obtain ⟨z1, z2⟩ := (hgr g hg).mp hlg
      rw [e u hu] at he
      by_cases q : (fa_in G u (nI lo) || fa_in G u (nI hi)) = true
      · exact ((hc u).mp q).1
      · rw [if_neg q] at he
        exact hA.2.2.2.1 u g hu hg z1 he
    · rw [eo 0 (by omega)]; exact hA.2.2.2.2.2.2.1
    · rw [eo 0 (by omega)]; exact hA.2.2.2.2.2.2.2.1
    · rw [ek u hu 5 (by decide) (by decide)] at hd
      rw [e u hu] at he
      rw [e u hu, e g hg]
      by_cases q : (fa_in G u (nI lo) || fa_in G u (nI hi)) = true
      · rw [if_pos q, f2, nI_eq (by omega) (by omega)] at he
        subst he
        rw [if_pos q, if_pos ((hc lo).mpr ⟨hlt.1, Or.inl hlt.2⟩), f3, f3]
      · rw [if_neg q] at he
        have hg3 := fa_in_tt (ok_gr hA hu hg hd he)
        have q2 : ¬ (fa_in G g (nI lo) || fa_in G g (nI hi)) = true := fun y => by
          obtain ⟨y1, y2⟩ := (hc g).mp y
          refine q ((hc u).mpr ⟨hd, ?_⟩)
          rw [he, ← hg3.2]; exact y2
        rw [if_neg q, if_neg q2]
        exact hA.2.2.2.2.2.2.2.2 u g hu hd hg he
/-- a new unit -/
theorem ok_A_nu {w1 : wd_T} {n : Nat} {x y : Int32} (hA : ok_A w G) (hn : n < 12) (e0 : w.2.2.1 = n) (e1 : w1.2.2.1 = n + 1) (e2 : w1.2.2.2 = w.2.2.2) (hx : ob x 0 7 = false) (hy : ob y 1 100 = false) : ok_A w1 (nu_G n G x y) := by
  have h13 := hA.1.2.1
  obtain ⟨kd, -, k1, k2⟩ := ob_le (m := 0) (n := 7) (by decide) (by decide) hx
  obtain ⟨sz, -, s1, s2⟩ := ob_le (m := 1) (n := 100) (by decide) (by decide) hy
  have eo : ∀ u, u < n → nu_G n G x y (100 + u) = G (100 + u) := fun u hu => nu_ne (by omega) (by omega) (by omega)
  have gro : ∀ u, u < n → fa_gr (nu_G n G x y) u = fa_gr G u := fun u hu => by unfold fa_gr fa_in; rw [eo u hu]
  have hne : ∀ u, u < n → ∀ g, g ≤ u → ¬ nI g = nI n := fun u hu g hg z => by rw [nI_eq (by omega) (by omega)] at z; omega
  unfold ok_A
  obtain ⟨a1, a2, a3, a4, a5, a6, a7, a8, a9⟩ := hA
  unfold ok_U ok_G ok_D ok_B ok_F ok_H at *
  rw [e1, e2]
  rw [e0] at a2 a3 a4 a5 a6 a9
  refine ⟨?_, fun u hu => ?_, fun u hu hd => ?_, fun u g hu hg hl he => ?_, ⟨fun u hu => ?_, fun u p hu hp => ?_, fun p hp => ?_, fun k hk => ?_⟩, fun u hu => ?_, ?_, ?_, fun u g hu hd hg he => ?_⟩
  · unfold ok_N at a1 ⊢
    rw [e1, e2, nu_06, nu_0 hn (by decide)]
    exact ⟨by omega, a1.2.1, rfl, a1.2.2.2⟩
  · by_cases z : u = n
    · subst z; rw [nu_new]
      exact ⟨⟨kd, by omega, k2⟩, ⟨u, Nat.le_refl _, rfl⟩, Or.inl rfl, Or.inl rfl⟩
    · rw [eo u (by omega)]; exact a2 u (by omega)
  · by_cases z : u = n
    · subst z
      refine ⟨u, Nat.le_refl _, by rw [nu_new]; rfl, ?_⟩
      unfold fa_gr fa_in; rw [nu_new]
      simp [nu_row]
    · rw [eo u (by omega)] at hd ⊢
      obtain ⟨g, g1, g2, g3⟩ := a3 u (by omega) hd
      exact ⟨g, g1, g2, by rw [gro g (by omega)]; exact g3⟩
  · by_cases z : u = n
    · subst z; rw [nu_new]; rfl
    · rw [eo u (by omega)] at he ⊢
      by_cases y : g = n
      · subst y
        obtain ⟨h, h1, h2⟩ := (a2 u (by omega)).2.1
        exact absurd (h2.symm.trans he) (hne u (by omega) h h1)
      · rw [gro g (by omega)] at hl
        exact a4 u g (by omega) (by omega) hl he
  · by_cases z : u = n
    · subst z; rw [nu_new]; exact ⟨sz, s1, s2⟩
    · rw [eo u (by omega)]; exact a5.1 u (by omega)
  · by_cases z : u = n
    · subst z; rw [nu_newC]; exact Or.inl rfl
    · rw [nu_ne (by omega) (by omega) (by omega)]; exact a5.2.1 u p (by omega) hp
  · rw [nu_ne (by omega) (by omega) (by omega)]; exact a5.2.2.1 p hp
  · rw [nu_ne (by omega) (by omega) (by omega)]; exact a5.2.2.2 k hk
  · by_cases z : u = n
    · subst z; rw [nu_new]; exact Or.inl rfl
    · rw [eo u (by omega)]; exact a6 u (by omega)
  · rw [nu_0 hn (by decide)]; exact a7
  · rw [nu_0 hn (by decide)]; exact a8
  · by_cases z : u = n
    · subst z
      rw [nu_new] at he
      have he2 : nI u = nI g := he
      rw [nI_eq (by omega) (by omega)] at he2
      subst he2; rfl
    · rw [eo u (by omega)] at hd he ⊢
      by_cases y : g = n
      · subst y
        obtain ⟨h, h1, h2⟩ := (a2 u (by omega)).2.1
        exact absurd (h2.symm.trans he) (hne u (by omega) h h1)
      · rw [eo g (by omega)]
        exact a9 u g (by omega) hd (by omega) he
/-- a new place -/
theorem ok_A_np {w1 : wd_T} {n : Nat} {f z y x : Int32} (hA : ok_A w G) (hn : n < 12) (e0 : w.2.2.2 = n) (e1 : w1.2.2.2 = n + 1) (e2 : w1.2.2.1 = w.2.2.1) (hz : ob z 0 3 = false) (hy : ob y 0 1000 = false) (hx : ob x 0 1000 = false) : ok_A w1 (np_G n G f z y x) := by
  have h12 := hA.1.1
  obtain ⟨zz, -, z1, z2⟩ := ob_le (m := 0) (n := 3) (by decide) (by decide) hz
  obtain ⟨yy, -, y1, y2⟩ := ob_le (m := 0) (n := 1000) (by decide) (by decide) hy
  obtain ⟨xx, -, x1, x2⟩ := ob_le (m := 0) (n := 1000) (by decide) (by decide) hx
  have eo : ∀ u, u < 12 → np_G n G f z y x (100 + u) = G (100 + u) := fun u hu => np_ne (by omega) (by omega)
  have gro : ∀ u, u < 12 → fa_gr (np_G n G f z y x) u = fa_gr G u := fun u hu => by unfold fa_gr fa_in; rw [eo u hu]
  unfold ok_A
  obtain ⟨a1, a2, a3, a4, a5, a6, a7, a8, a9⟩ := hA
  unfold ok_U ok_G ok_D ok_B ok_F ok_H at *
  rw [e1, e2]
  rw [e0] at a2 a5 a6
  refine ⟨?_, fun u hu => ?_, fun u hu hd => ?_, fun u g hu hg hl he => ?_, ⟨fun u hu => ?_, fun u p hu hp => ?_, fun p hp => ?_, fun k hk => ?_⟩, fun u hu => ?_, ?_, ?_, fun u g hu hd hg he => ?_⟩
  · unfold ok_N at a1 ⊢
    rw [e1, e2, np_07, np_0 (by decide)]
    exact ⟨a1.1, by omega, a1.2.2.1, rfl⟩
  · rw [eo u (by omega)]
    obtain ⟨b1, b2, b3, b4⟩ := a2 u hu
    refine ⟨b1, b2, ?_, b4⟩
    rcases b3 with b3 | ⟨p, p1, p2⟩
    · exact Or.inl b3
    · exact Or.inr ⟨p, by omega, p2⟩
  · rw [eo u (by omega)] at hd ⊢
    obtain ⟨g, g1, g2, g3⟩ := a3 u hu hd
    exact ⟨g, g1, g2, by rw [gro g (by omega)]; exact g3⟩
  · rw [eo u (by omega)] at he ⊢
    rw [gro g (by omega)] at hl
    exact a4 u g hu hg hl he
  · rw [eo u (by omega)]; exact a5.1 u hu
  · rw [np_ne (by omega) (by omega)]; exact a5.2.1 u p hu hp
  · by_cases q : p = n
    · subst q; rw [np_new]
      exact ⟨⟨xx, x1, x2⟩, ⟨yy, y1, y2⟩, Or.inl rfl, ⟨zz, by omega, z2⟩⟩
    · rw [np_ne (by omega) (by omega)]; exact a5.2.2.1 p (by omega)
  · rw [np_ne (by omega) (by omega)]; exact a5.2.2.2 k hk
  · rw [eo u (by omega)]
    rcases a6 u hu with b | ⟨p, p1, p2⟩
    · exact Or.inl b
    · exact Or.inr ⟨p, by omega, p2⟩
  · rw [np_0 (by decide)]; exact a7
  · rw [np_0 (by decide)]; exact a8
  · rw [eo u (by omega)] at hd he ⊢
    rw [eo g (by omega)]
    exact a9 u g hu hd hg he
end OKA
