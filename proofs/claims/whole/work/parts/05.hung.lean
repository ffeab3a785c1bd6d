/-! PURE: sums, the pigeonhole, and the dual certificate of an assignment. -/
/-- the sum of f over 0 .. n-1 -/
def hu_sum (f : Nat → Int) : Nat → Int
  | 0 => 0
  | n + 1 => hu_sum f n + f n
theorem hu_sum_congr {f g : Nat → Int} {n : Nat} (h : ∀ i, i < n → f i = g i) : hu_sum f n = hu_sum g n := by
  induction n with
  | zero => rfl
  | succ n ih =>
    simp only [hu_sum]
    rw [ih (fun i hi => h i (by omega)), h n (by omega)]
theorem hu_sum_le {f g : Nat → Int} {n : Nat} (h : ∀ i, i < n → f i ≤ g i) : hu_sum f n ≤ hu_sum g n := by
  induction n with
  | zero => exact Int.le_refl _
  | succ n ih =>
    simp only [hu_sum]
    have h1 := ih (fun i hi => h i (by omega))
    have h2 := h n (by omega)
    omega
theorem hu_sum_add (f g : Nat → Int) (n : Nat) : hu_sum (fun i => f i + g i) n = hu_sum f n + hu_sum g n := by
  induction n with
  | zero => rfl
  | succ n ih => simp only [hu_sum]; rw [ih]; omega
theorem hu_sum_zero (n : Nat) : hu_sum (fun _ => 0) n = 0 := by
  induction n with
  | zero => rfl
  | succ n ih => simp only [hu_sum]; rw [ih]; omega
theorem hu_sum_zero_at (w : Nat → Int) (k N : Nat) (hk : k < N) : hu_sum (fun c => if c = k then 0 else w c) N = hu_sum w N - w k := by
  induction N with
  | zero => omega
  | succ N ih =>
    simp only [hu_sum]
    by_cases h : k = N
    · subst h
      rw [if_pos rfl, hu_sum_congr (g := w) (fun i hi => if_neg (by omega))]
      omega
    · rw [ih (by omega), if_neg (by omega)]
      omega
/-- s takes n different values below N -/
def hu_inj (s : Nat → Nat) (n N : Nat) : Prop := (∀ i, i < n → s i < N) ∧ ∀ i j, i < n → j < n → s i = s j → i = j
theorem hu_inj_ge (N : Nat) : ∀ (n : Nat) (s : Nat → Nat) (w : Nat → Int), hu_inj s n N → (∀ c, c < N → w c ≤ 0) → hu_sum w N ≤ hu_sum (fun i => w (s i)) n := by
  intro n
  induction n with
  | zero =>
    intro s w _ hw
    have h := hu_sum_le (f := w) (g := fun _ => 0) (n := N) hw
    rw [hu_sum_zero] at h
    exact h
  | succ n ih =>
    intro s w hs hw
    have h1 := ih s (fun c => if c = s n then 0 else w c) ⟨fun i h => hs.1 i (by omega), fun i j a b => hs.2 i j (by omega) (by omega)⟩ (fun c hc => by
      by_cases e : c = s n
      · simp only [if_pos e]; exact Int.le_refl 0
      · simp only [if_neg e]; exact hw c hc)
    rw [hu_sum_zero_at w (s n) N (hs.1 n (by omega))] at h1
    have h2 : hu_sum (fun i => (fun c => if c = s n then 0 else w c) (s i)) n = hu_sum (fun i => w (s i)) n := hu_sum_congr (fun i h => if_neg (fun e => by have := hs.2 i n (by omega) (by omega) e; omega))
    rw [h2] at h1
    simp only [hu_sum]
    omega
theorem hu_inj_eq (N : Nat) : ∀ (n : Nat) (s : Nat → Nat) (w : Nat → Int), hu_inj s n N → (∀ c, c < N → (∀ i, i < n → s i ≠ c) → w c = 0) → hu_sum w N = hu_sum (fun i => w (s i)) n := by
  intro n
  induction n with
  | zero =>
    intro s w _ hw
    rw [hu_sum_congr (f := w) (g := fun _ => 0) (n := N) (fun c hc => hw c hc (fun i hi => absurd hi (by omega))), hu_sum_zero]
    rfl
  | succ n ih =>
    intro s w hs hw
    have h1 := ih s (fun c => if c = s n then 0 else w c) ⟨fun i h => hs.1 i (by omega), fun i j a b => hs.2 i j (by omega) (by omega)⟩ (fun c hc hn => by
      by_cases e : c = s n
      · simp only [if_pos e]
      · simp only [if_neg e]
        refine hw c hc (fun i hi => ?_)
        rcases Nat.lt_or_ge i n with q | q
        · exact hn i q
        · have : i = n := by omega
          subst this
          exact fun z => e z.symm)
    rw [hu_sum_zero_at w (s n) N (hs.1 n (by omega))] at h1
    have h2 : hu_sum (fun i => (fun c => if c = s n then 0 else w c) (s i)) n = hu_sum (fun i => w (s i)) n := hu_sum_congr (fun i h => if_neg (fun e => by have := hs.2 i n (by omega) (by omega) e; omega))
    rw [h2] at h1
    simp only [hu_sum]
    omega
/-- an assignment with a dual certificate is the cheapest -/
theorem hu_opt {n N : Nat} {a : Nat → Nat → Int} {u v : Nat → Int} {m s : Nat → Nat} (hm : hu_inj m n N) (hle : ∀ i c, i < n → c < N → u i + v c ≤ a i c) (ht : ∀ i, i < n → u i + v (m i) = a i (m i))
    (hv : ∀ c, c < N → v c ≤ 0) (hv0 : ∀ c, c < N → (∀ i, i < n → m i ≠ c) → v c = 0) (hs : hu_inj s n N) : hu_sum (fun i => a i (m i)) n ≤ hu_sum (fun i => a i (s i)) n := by
  have h1 : hu_sum (fun i => a i (m i)) n = hu_sum u n + hu_sum v N := by
    rw [hu_inj_eq N n m v hm hv0, ← hu_sum_add]
    exact hu_sum_congr (fun i hi => (ht i hi).symm)
  have h2 : hu_sum u n + hu_sum (fun i => v (s i)) n ≤ hu_sum (fun i => a i (s i)) n := by
    rw [← hu_sum_add]
    exact hu_sum_le (fun i hi => hle i (s i) hi (hs.1 i hi))
  have h3 := hu_inj_ge N n s v hs hv
  omega
theorem hu_pigeon : ∀ (m n : Nat) (f : Nat → Nat), hu_inj f n m → n ≤ m := by
  intro m
  induction m with
  | zero =>
    intro n f h
    rcases Nat.eq_zero_or_pos n with q | q
    · omega
    · exact absurd (h.1 0 q) (by omega)
  | succ m ih =>
    intro n f h
    cases n with
    | zero => omega
    | succ n =>
      refine Nat.succ_le_succ (ih n (fun j => if f j = m then f n else f j) ⟨fun i hi => ?_, fun i j hi hj e => ?_⟩)
      · by_cases q : f i = m
        · simp only [if_pos q]
          have h1 := h.1 n (by omega)
          have h2 : f n ≠ m := fun z => by have := h.2 i n (by omega) (by omega) (q.trans z.symm); omega
          omega
        · simp only [if_neg q]
          have h1 := h.1 i (by omega)
          omega
      · by_cases q : f i = m <;> by_cases r : f j = m
        · exact h.2 i j (by omega) (by omega) (q.trans r.symm)
        · simp only [if_pos q, if_neg r] at e
          have := h.2 n j (by omega) (by omega) e
          omega
        · simp only [if_neg q, if_pos r] at e
          have := h.2 i n (by omega) (by omega) e
          omega
        · simp only [if_neg q, if_neg r] at e
          exact h.2 i j (by omega) (by omega) e
