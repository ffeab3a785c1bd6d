/-! THE MODEL'S BEST PLAN, as mathematics: the layers over sets of places, and the plan read off them. -/
def dp_a (cost : Nat → Nat → Int) (i f : Nat) : Int := if f = 12 then 0 else 1099511627776 - cost i f
def dp_o (V : Nat → Int) (al : Nat → Prop) [∀ p, Decidable (al p)] (c : Nat → Int) (s : Nat) : Nat → Int
  | 0 => V s
  | p + 1 => if (al p ∧ s.testBit p = false) ∧ dp_o V al c s p < V (s ||| 2 ^ p) + 1099511627776 - c p then V (s ||| 2 ^ p) + 1099511627776 - c p else dp_o V al c s p
def dp_V (n P : Nat) (cost : Nat → Nat → Int) (al : Nat → Nat → Prop) [∀ i p, Decidable (al i p)] : Nat → Nat → Int
  | 0, _ => 0
  | k + 1, s => dp_o (dp_V n P cost al k) (al (n - (k + 1))) (cost (n - (k + 1))) s P
theorem dp_o_0 {V : Nat → Int} {al : Nat → Prop} [∀ p, Decidable (al p)] {c : Nat → Int} {s : Nat} : ∀ p, V s ≤ dp_o V al c s p
  | 0 => Int.le_refl _
  | p + 1 => by
    have ih := dp_o_0 (V := V) (al := al) (c := c) (s := s) p
    simp only [dp_o]
    split
    · rename_i h; omega
    · exact ih
theorem dp_o_ge {V : Nat → Int} {al : Nat → Prop} [∀ p, Decidable (al p)] {c : Nat → Int} {s : Nat} {q : Nat} (ha : al q) (hb : s.testBit q = false) : ∀ p, q < p → V (s ||| 2 ^ q) + 1099511627776 - c q ≤ dp_o V al c s p
  | 0, h => by omega
  | p + 1, h => by
    simp only [dp_o]
    by_cases e : q = p
    · subst e
      by_cases z : dp_o V al c s q < V (s ||| 2 ^ q) + 1099511627776 - c q
      · rw [if_pos ⟨⟨ha, hb⟩, z⟩]; exact Int.le_refl _
      · rw [if_neg (fun y => z y.2)]; omega
    · have ih := dp_o_ge (V := V) (c := c) ha hb p (by omega)
      split
      · rename_i y; omega
      · exact ih
theorem dp_o_at {V : Nat → Int} {al : Nat → Prop} [∀ p, Decidable (al p)] {c : Nat → Int} {s : Nat} : ∀ p, dp_o V al c s p = V s ∨ ∃ q, q < p ∧ al q ∧ s.testBit q = false ∧ dp_o V al c s p = V (s ||| 2 ^ q) + 1099511627776 - c q
  | 0 => Or.inl rfl
  | p + 1 => by
    simp only [dp_o]
    split
    · rename_i h; exact Or.inr ⟨p, by omega, h.1.1, h.1.2, rfl⟩
    · rcases dp_o_at (V := V) (al := al) (c := c) (s := s) p with e | ⟨q, h1, h2, h3, h4⟩
      · exact Or.inl e
      · exact Or.inr ⟨q, by omega, h2, h3, h4⟩
theorem pl_num_eq {f h : Nat → Nat} : ∀ i, (∀ j, j < i → f j = h j) → pl_num f i = pl_num h i
  | 0, _ => rfl
  | i + 1, e => by
    simp only [pl_num]
    rw [pl_num_eq i (fun j hj => e j (by omega)), e i (by omega)]
/-- how many have a place, and what they cost -/
theorem dp_cnt {cost : Nat → Nat → Int} {f : Nat → Nat} : ∀ n, (∀ i, i < n → f i ≤ 12 ∧ (f i ≠ 12 → 0 ≤ cost i (f i) ∧ cost i (f i) ≤ 1000000)) → ∃ (c : Nat) (t : Int), c ≤ n ∧ 0 ≤ t ∧ t ≤ n * 1000000 ∧ (hu_sum (fun i => dp_a cost i (f i)) n = c * 1099511627776 - t ∧ pl_key n cost f = (n - c) * pl_W + t)
  | 0, _ => ⟨0, 0, by omega, by omega, by omega, by simp [hu_sum, pl_key]⟩
  | n + 1, h => by
    obtain ⟨c, t, h1, h2, h3, h4, h5⟩ := dp_cnt (cost := cost) (f := f) n (fun i hi => h i (by omega))
    have hn := h n (by omega)
    unfold pl_key at *
    unfold pl_W at *
    simp only [hu_sum]
    rw [h4, h5]
    by_cases e : f n = 12
    · refine ⟨c, t, by omega, h2, by omega, ?_, ?_⟩
      · simp only [dp_a]; rw [if_pos e]; omega
      · rw [if_pos e]; omega
    · have := hn.2 e
      refine ⟨c + 1, t + cost n (f n), by omega, by omega, by omega, ?_, ?_⟩
      · simp only [dp_a]; rw [if_neg e]; omega
      · rw [if_neg e]; omega
/-- small values -/
theorem dp_in {n P : Nat} {cost : Nat → Nat → Int} {al : Nat → Nat → Prop} [∀ i p, Decidable (al i p)] (hc : ∀ i p, i < n → al i p → 0 ≤ cost i p ∧ cost i p ≤ 1000000) : ∀ k s, k ≤ n → 0 ≤ dp_V n P cost al k s ∧ dp_V n P cost al k s ≤ k * 1099511627776
  | 0, s, _ => ⟨Int.le_refl 0, by simp [dp_V]⟩
  | k + 1, s, hk => by
    simp only [dp_V]
    rcases dp_o_at (V := dp_V n P cost al k) (al := al (n - (k + 1))) (c := cost (n - (k + 1))) (s := s) P with e | ⟨q, h1, h2, h3, h4⟩
    · have := dp_in (P := P) hc k s (by omega)
      rw [e]
      omega
    · have h5 := dp_in (P := P) hc k (s ||| 2 ^ q) (by omega)
      have h6 := hc _ _ (by omega) h2
      rw [h4]
      omega
def dp_sf (n : Nat) (a : Nat → Int) : Nat → Int
  | 0 => 0
  | k + 1 => a (n - (k + 1)) + dp_sf n a k
theorem dp_sf_sum {n : Nat} (a : Nat → Int) : ∀ k, k ≤ n → hu_sum a n = hu_sum a (n - k) + dp_sf n a k
  | 0, _ => by simp [dp_sf]
  | k + 1, h => by
    rw [dp_sf_sum a k (by omega), show n - k = (n - (k + 1)) + 1 by omega]
    simp only [hu_sum, dp_sf]
    omega
def dp_ok (n : Nat) (al : Nat → Nat → Prop) (f : Nat → Nat) (k s : Nat) : Prop := (∀ i, n - k ≤ i → i < n → f i ≤ 12 ∧ (f i ≠ 12 → al i (f i) ∧ s.testBit (f i) = false)) ∧ ∀ i j, n - k ≤ i → i < n → n - k ≤ j → j < n → f i = f j → f i ≠ 12 → i = j
theorem tb_or {s p q : Nat} : (s ||| 2 ^ p).testBit q = (s.testBit q || decide (p = q)) := by
  rw [Nat.testBit_or, Nat.testBit_two_pow]
/-- no plan is worth more than the layer says -/
theorem dp_top {n P : Nat} {cost : Nat → Nat → Int} {al : Nat → Nat → Prop} [∀ i p, Decidable (al i p)] (hP : ∀ i p, i < n → al i p → p < P) {f : Nat → Nat} : ∀ k s, k ≤ n → dp_ok n al f k s → dp_sf n (fun i => dp_a cost i (f i)) k ≤ dp_V n P cost al k s
  | 0, s, _, _ => Int.le_refl _
  | k + 1, s, hk, h => by
    simp only [dp_sf, dp_V]
    have hg := h.1 (n - (k + 1)) (Nat.le_refl _) (by omega)
    by_cases e : f (n - (k + 1)) = 12
    · have ih := dp_top (cost := cost) hP k s (by omega) (f := f) ⟨fun i h1 h2 => h.1 i (by omega) h2, fun i j h1 h2 h3 h4 => h.2 i j (by omega) h2 (by omega) h4⟩
      have h0 := dp_o_0 (V := dp_V n P cost al k) (al := al (n - (k + 1))) (c := cost (n - (k + 1))) (s := s) P
      have e2 : dp_a cost (n - (k + 1)) (f (n - (k + 1))) = 0 := by simp only [dp_a]; rw [if_pos e]
      omega
    · obtain ⟨h1, h2⟩ := hg.2 e
      have ih := dp_top (cost := cost) hP k (s ||| 2 ^ f (n - (k + 1))) (by omega) (f := f) ⟨fun i h3 h4 => ⟨(h.1 i (by omega) h4).1, fun h5 => ⟨((h.1 i (by omega) h4).2 h5).1, by
        rw [tb_or, ((h.1 i (by omega) h4).2 h5).2, Bool.false_or, decide_eq_false_iff_not]
        intro z
        have := h.2 i (n - (k + 1)) (by omega) h4 (Nat.le_refl _) (by omega) z.symm h5
        omega⟩⟩, fun i j a1 a2 a3 a4 => h.2 i j (by omega) a2 (by omega) a4⟩
      have h0 := dp_o_ge (V := dp_V n P cost al k) (al := al (n - (k + 1))) (c := cost (n - (k + 1))) (s := s) h1 h2 P (hP _ _ (by omega) h1)
      have e2 : dp_a cost (n - (k + 1)) (f (n - (k + 1))) = 1099511627776 - cost (n - (k + 1)) (f (n - (k + 1))) := by simp only [dp_a]; rw [if_neg e]
      omega
/-- the plan is read off the layers: the least place that keeps the value, else none -/
def dp_rd (n P : Nat) (cost : Nat → Nat → Int) (al : Nat → Nat → Prop) [∀ i p, Decidable (al i p)] (f tk : Nat → Nat) : Prop := tk 0 = 0 ∧ ∀ g, g < n →
  ((f g = 12 ∧ tk (g + 1) = tk g ∧ ∀ p, p < P → al g p → (tk g).testBit p = false → dp_V n P cost al (n - (g + 1)) (tk g ||| 2 ^ p) + 1099511627776 - cost g p ≠ dp_V n P cost al (n - g) (tk g)) ∨
   (f g < P ∧ tk (g + 1) = tk g ||| 2 ^ f g ∧ al g (f g) ∧ (tk g).testBit (f g) = false ∧ dp_V n P cost al (n - (g + 1)) (tk g ||| 2 ^ f g) + 1099511627776 - cost g (f g) = dp_V n P cost al (n - g) (tk g) ∧
    ∀ p, p < f g → al g p → (tk g).testBit p = false → dp_V n P cost al (n - (g + 1)) (tk g ||| 2 ^ p) + 1099511627776 - cost g p ≠ dp_V n P cost al (n - g) (tk g)))
theorem dp_stp {n P : Nat} {cost : Nat → Nat → Int} {al : Nat → Nat → Prop} [∀ i p, Decidable (al i p)] {f tk : Nat → Nat} (hP12 : P ≤ 12) (hr : dp_rd n P cost al f tk) {g : Nat} (hg : g < n) : dp_V n P cost al (n - g) (tk g) = dp_a cost g (f g) + dp_V n P cost al (n - (g + 1)) (tk (g + 1)) := by
  rcases hr.2 g hg with ⟨e1, e2, h⟩ | ⟨e1, e2, h1, h2, h3, h4⟩
  · have ek : n - g = (n - (g + 1)) + 1 := by omega
    have eg : n - (n - (g + 1) + 1) = g := by omega
    simp only [dp_a]
    rw [if_pos e1, e2, ek]
    simp only [dp_V]
    rw [eg]
    rcases dp_o_at (V := dp_V n P cost al (n - (g + 1))) (al := al g) (c := cost g) (s := tk g) P with e | ⟨q, a1, a2, a3, a4⟩
    · rw [e]; omega
    · exfalso
      refine h q a1 a2 a3 ?_
      rw [ek]
      simp only [dp_V]
      rw [eg]
      exact a4.symm
  · simp only [dp_a]
    rw [if_neg (by omega), e2, ← h3]
    omega
/-- the values along the plan -/
theorem dp_pre {n P : Nat} {cost : Nat → Nat → Int} {al : Nat → Nat → Prop} [∀ i p, Decidable (al i p)] {f tk : Nat → Nat} (hP12 : P ≤ 12) (hr : dp_rd n P cost al f tk) : ∀ g, g ≤ n → dp_V n P cost al n 0 = hu_sum (fun i => dp_a cost i (f i)) g + dp_V n P cost al (n - g) (tk g)
  | 0, _ => by rw [hr.1]; simp [hu_sum]
  | g + 1, h => by
    rw [dp_pre hP12 hr g (by omega), dp_stp hP12 hr (by omega)]
    simp only [hu_sum]
    omega
theorem dp_tk {n P : Nat} {cost : Nat → Nat → Int} {al : Nat → Nat → Prop} [∀ i p, Decidable (al i p)] {f tk : Nat → Nat} (hP12 : P ≤ 12) (hr : dp_rd n P cost al f tk) : ∀ g, g ≤ n → ∀ p, (tk g).testBit p = true ↔ ∃ i, i < g ∧ f i ≠ 12 ∧ f i = p
  | 0, _, p => by rw [hr.1]; simp
  | g + 1, h, p => by
    have ih := dp_tk hP12 hr g (by omega) p
    rcases hr.2 g (by omega) with ⟨e1, e2, -⟩ | ⟨e1, e2, -⟩
    · rw [e2, ih]
      constructor
      · rintro ⟨i, h1, h2⟩; exact ⟨i, by omega, h2⟩
      · rintro ⟨i, h1, h2, h3⟩
        by_cases z : i = g
        · subst z; exact absurd e1 h2
        · exact ⟨i, by omega, h2, h3⟩
    · rw [e2, tb_or, Bool.or_eq_true, ih, decide_eq_true_eq]
      constructor
      · rintro (⟨i, h1, h2⟩ | h1)
        · exact ⟨i, by omega, h2⟩
        · exact ⟨g, by omega, by omega, h1⟩
      · rintro ⟨i, h1, h2, h3⟩
        by_cases z : i = g
        · subst z; exact Or.inr h3
        · exact Or.inl ⟨i, by omega, h2, h3⟩
theorem dp_plan {n P : Nat} {cost : Nat → Nat → Int} {al : Nat → Nat → Prop} [∀ i p, Decidable (al i p)] {f tk : Nat → Nat} (hP12 : P ≤ 12) (hr : dp_rd n P cost al f tk) : pl_ok n al f := by
  refine ⟨fun i hi => ?_, fun i j hi hj e hne => ?_⟩
  · rcases hr.2 i hi with ⟨e1, -⟩ | ⟨e1, -, h1, -⟩
    · exact ⟨by omega, fun z => absurd e1 z⟩
    · exact ⟨by omega, fun _ => h1⟩
  · have key : ∀ i j, i < j → j < n → f i = f j → f i ≠ 12 → False := fun i j hij hj e hne => by
      rcases hr.2 j hj with ⟨e1, -⟩ | ⟨-, -, -, h2, -⟩
      · exact hne (e.trans e1)
      · have := (dp_tk hP12 hr j (by omega) (f j)).mpr ⟨i, hij, hne, e⟩
        rw [this] at h2
        exact absurd h2 (by decide)
    rcases Nat.lt_trichotomy i j with h | h | h
    · exact (key i j h hj e hne).elim
    · exact h
    · exact (key j i h hi e.symm (by rw [← e]; exact hne)).elim
/-- of the plans of the greatest value, the read one has the least number -/
theorem dp_lex {n P : Nat} {cost : Nat → Nat → Int} {al : Nat → Nat → Prop} [∀ i p, Decidable (al i p)] {f h tk : Nat → Nat} (hP12 : P ≤ 12) (hP : ∀ i p, i < n → al i p → p < P) (hr : dp_rd n P cost al f tk) (hh : pl_ok n al h) (hv : hu_sum (fun i => dp_a cost i (h i)) n = dp_V n P cost al n 0) : ∀ i, i ≤ n → (∀ j, j < i → f j = h j) ∨ pl_num f i < pl_num h i
  | 0, _ => Or.inl (fun j hj => by omega)
  | i + 1, hi => by
    have hf12 : f i ≤ 12 := ((dp_plan hP12 hr).1 i (by omega)).1
    have hh12 : h i ≤ 12 := (hh.1 i (by omega)).1
    rcases dp_lex hP12 hP hr hh hv i (by omega) with ih | ih
    · have epre : hu_sum (fun j => dp_a cost j (f j)) i = hu_sum (fun j => dp_a cost j (h j)) i := hu_sum_congr (fun j hj => by rw [ih j hj])
      have s1 := dp_pre hP12 hr i (by omega)
      have s2 := dp_sf_sum (n := n) (fun j => dp_a cost j (h j)) (n - i) (by omega)
      rw [show n - (n - i) = i by omega] at s2
      have esuf : dp_sf n (fun j => dp_a cost j (h j)) (n - i) = dp_V n P cost al (n - i) (tk i) := by omega
      have hle : f i ≤ h i := by
        by_cases e : h i = 12
        · omega
        · have hai := (hh.1 i (by omega)).2 e
          have ek : n - i = (n - (i + 1)) + 1 := by omega
          have eg : n - (n - (i + 1) + 1) = i := by omega
          have hbit : (tk i).testBit (h i) = false := by
            cases hb : (tk i).testBit (h i) with
            | false => rfl
            | true =>
              exfalso
              obtain ⟨j, h1, h2, h3⟩ := (dp_tk hP12 hr i (by omega) (h i)).mp hb
              have := hh.2 j i (by omega) (by omega) (by rw [← ih j h1]; exact h3) (by rw [← ih j h1]; exact h2)
              omega
          have hsub := dp_top (cost := cost) (P := P) hP (f := h) (n - (i + 1)) (tk i ||| 2 ^ h i) (by omega) ⟨fun j h1 h2 => ⟨(hh.1 j h2).1, fun h3 => ⟨(hh.1 j h2).2 h3, by
            rw [tb_or, Bool.or_eq_false_iff, decide_eq_false_iff_not]
            refine ⟨?_, fun z => ?_⟩
            · cases hb : (tk i).testBit (h j) with
              | false => rfl
              | true =>
                exfalso
                obtain ⟨q, q1, q2, q3⟩ := (dp_tk hP12 hr i (by omega) (h j)).mp hb
                have := hh.2 q j (by omega) h2 (by rw [← ih q q1]; exact q3) (by rw [← ih q q1]; exact q2)
                omega
            · have := hh.2 i j (by omega) h2 z e
              omega⟩⟩, fun a b a1 a2 a3 a4 => hh.2 a b a2 a4⟩
          have hge := dp_o_ge (V := dp_V n P cost al (n - (i + 1))) (al := al i) (c := cost i) (s := tk i) hai hbit P (hP _ _ (by omega) hai)
          have eV : dp_V n P cost al (n - i) (tk i) = dp_o (dp_V n P cost al (n - (i + 1))) (al i) (cost i) (tk i) P := by
            rw [ek]; simp only [dp_V]; rw [eg]
          have es : dp_sf n (fun j => dp_a cost j (h j)) (n - i) = dp_a cost i (h i) + dp_sf n (fun j => dp_a cost j (h j)) (n - (i + 1)) := by
            rw [ek]; simp only [dp_sf]; rw [eg]
          have ea : dp_a cost i (h i) = 1099511627776 - cost i (h i) := by simp only [dp_a]; rw [if_neg e]
          have eq9 : dp_V n P cost al (n - (i + 1)) (tk i ||| 2 ^ h i) + 1099511627776 - cost i (h i) = dp_V n P cost al (n - i) (tk i) := by omega
          rcases hr.2 i (by omega) with ⟨-, -, h9⟩ | ⟨-, -, -, -, -, h9⟩
          · exact absurd eq9 (h9 (h i) (hP _ _ (by omega) hai) hai hbit)
          · rcases Nat.lt_or_ge (h i) (f i) with z | z
            · exact absurd eq9 (h9 (h i) z hai hbit)
            · exact z
      rcases Nat.lt_or_ge (f i) (h i) with z | z
      · refine Or.inr ?_
        have epn : pl_num f i = pl_num h i := pl_num_eq i ih
        simp only [pl_num]
        rw [epn]
        omega
      · refine Or.inl (fun j hj => ?_)
        by_cases y : j = i
        · subst y; omega
        · exact ih j (by omega)
    · refine Or.inr ?_
      simp only [pl_num]
      omega
/-- .. and so it is the plan at the least price -/
theorem dp_min {n P : Nat} {cost : Nat → Nat → Int} {al : Nat → Nat → Prop} [∀ i p, Decidable (al i p)] {f tk : Nat → Nat} (hn : n ≤ 8) (hP12 : P ≤ 12) (hP : ∀ i p, i < n → al i p → p < P) (hc : ∀ i p, i < n → al i p → 0 ≤ cost i p ∧ cost i p ≤ 1000000) (hr : dp_rd n P cost al f tk) : pl_min n cost al f := by
  refine ⟨dp_plan hP12 hr, fun h hh => ?_⟩
  have hf := dp_plan hP12 hr
  have vf : hu_sum (fun i => dp_a cost i (f i)) n = dp_V n P cost al n 0 := by
    have h1 := dp_pre hP12 hr n (Nat.le_refl n)
    rw [Nat.sub_self] at h1
    simp only [dp_V] at h1
    omega
  have vh : hu_sum (fun i => dp_a cost i (h i)) n ≤ dp_V n P cost al n 0 := by
    have h1 := dp_sf_sum (n := n) (fun i => dp_a cost i (h i)) n (Nat.le_refl n)
    rw [Nat.sub_self] at h1
    have h2 := dp_top (cost := cost) (P := P) hP (f := h) n 0 (Nat.le_refl n) ⟨fun i h1 h2 => ⟨(hh.1 i h2).1, fun h3 => ⟨(hh.1 i h2).2 h3, by simp⟩⟩, fun i j a1 a2 a3 a4 => hh.2 i j a2 a4⟩
    simp only [hu_sum] at h1
    omega
  obtain ⟨cf, tf, f1, f2, f3, f5, f4⟩ := dp_cnt (cost := cost) (f := f) n (fun i hi => ⟨(hf.1 i hi).1, fun h3 => hc i _ hi ((hf.1 i hi).2 h3)⟩)
  obtain ⟨ch, th, g1, g2, g3, g5, g4⟩ := dp_cnt (cost := cost) (f := h) n (fun i hi => ⟨(hh.1 i hi).1, fun h3 => hc i _ hi ((hh.1 i hi).2 h3)⟩)
  rw [pl_split n hn, pl_split n hn]
  have l1 := pl_low hn (f := f) (fun i hi => (hf.1 i hi).1)
  have l2 := pl_low hn (f := h) (fun i hi => (hh.1 i hi).1)
  unfold pl_W at f4 g4
  by_cases e : hu_sum (fun i => dp_a cost i (h i)) n = dp_V n P cost al n 0
  · have ek : pl_key n cost f = pl_key n cost h := by omega
    have hnum : pl_num f n ≤ pl_num h n := by
      rcases dp_lex hP12 hP hr hh e n (Nat.le_refl n) with z | z
      · rw [pl_num_eq n z]; exact Int.le_refl _
      · omega
    have hp : (0 : Int) ≤ (13 : Int) ^ (8 - n) := Int.le_of_lt (Int.pow_pos (by decide))
    have := Int.mul_le_mul_of_nonneg_right hnum hp
    rw [ek]
    omega
  · have ek : pl_key n cost f < pl_key n cost h := by omega
    unfold pl_P at *
    omega
