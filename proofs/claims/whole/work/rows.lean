section
/-! PURE: sums, the pigeonhole, and the dual certificate of an assignment. -/
/-- the sum of f over 0 .. n-1 -/
def hu_sum (f : Nat → Int) : Nat → Int
  | 0 => 0
  | n + 1 => hu_sum f n + f n
theorem hu_sum_congr {f g : Nat → Int} {n : Nat} (h : ∀ i, i < n → f i = g i) : hu_sum f n = hu_sum g n := by
  induction n with
  | zero => rfl
  | succ n ih =>
    simp only [hu_sum]
    rw [ih (fun i hi => h i (by omega)), h n (by omega)]
theorem hu_sum_le {f g : Nat → Int} {n : Nat} (h : ∀ i, i < n → f i ≤ g i) : hu_sum f n ≤ hu_sum g n := by
  induction n with
  | zero => exact Int.le_refl _
  | succ n ih =>
    simp only [hu_sum]
    have h1 := ih (fun i hi => h i (by omega))
    have h2 := h n (by omega)
    omega
theorem hu_sum_add (f g : Nat → Int) (n : Nat) : hu_sum (fun i => f i + g i) n = hu_sum f n + hu_sum g n := by
  induction n with
  | zero => rfl
  | succ n ih => simp only [hu_sum]; rw [ih]; omega
theorem hu_sum_zero (n : Nat) : hu_sum (fun _ => 0) n = 0 := by
  induction n with
  | zero => rfl
  | succ n ih => simp only [hu_sum]; rw [ih]; omega
theorem hu_sum_zero_at (w : Nat → Int) (k N : Nat) (hk : k < N) : hu_sum (fun c => if c = k then 0 else w c) N = hu_sum w N - w k := by
  induction N with
  | zero => omega
  | succ N ih =>
    simp only [hu_sum]
    by_cases h : k = N
    · subst h
      rw [if_pos rfl, hu_sum_congr (g := w) (fun i hi => if_neg (by omega))]
      omega
    · rw [ih (by omega), if_neg (by omega)]
      omega
/-- s takes n different values below N -/
def hu_inj (s : Nat → Nat) (n N : Nat) : Prop := (∀ i, i < n → s i < N) ∧ ∀ i j, i < n → j < n → s i = s j → i = j
theorem hu_inj_ge (N : Nat) : ∀ (n : Nat) (s : Nat → Nat) (w : Nat → Int), hu_inj s n N → (∀ c, c < N → w c ≤ 0) → hu_sum w N ≤ hu_sum (fun i => w (s i)) n := by
  intro n
  induction n with
  | zero =>
    intro s w _ hw
    have h := hu_sum_le (f := w) (g := fun _ => 0) (n := N) hw
    rw [hu_sum_zero] at h
    exact h
  | succ n ih =>
    intro s w hs hw
    have h1 := ih s (fun c => if c = s n then 0 else w c) ⟨fun i h => hs.1 i (by omega), fun i j a b => hs.2 i j (by omega) (by omega)⟩ (fun c hc => by
      by_cases e : c = s n
      · simp only [if_pos e]; exact Int.le_refl 0
      · simp only [if_neg e]; exact hw c hc)
    rw [hu_sum_zero_at w (s n) N (hs.1 n (by omega))] at h1
    have h2 : hu_sum (fun i => (fun c => if c = s n then 0 else w c) (s i)) n = hu_sum (fun i => w (s i)) n := hu_sum_congr (fun i h => if_neg (fun e => by have := hs.2 i n (by omega) (by omega) e; omega))
    rw [h2] at h1
    simp only [hu_sum]
    omega
theorem hu_inj_eq (N : Nat) : ∀ (n : Nat) (s : Nat → Nat) (w : Nat → Int), hu_inj s n N → (∀ c, c < N → (∀ i, i < n → s i ≠ c) → w c = 0) → hu_sum w N = hu_sum (fun i => w (s i)) n := by
  intro n
  induction n with
  | zero =>
    intro s w _ hw
    rw [hu_sum_congr (f := w) (g := fun _ => 0) (n := N) (fun c hc => hw c hc (fun i hi => absurd hi (by omega))), hu_sum_zero]
    rfl
  | succ n ih =>
    intro s w hs hw
    have h1 := ih s (fun c => if c = s n then 0 else w c) ⟨fun i h => hs.1 i (by omega), fun i j a b => hs.2 i j (by omega) (by omega)⟩ (fun c hc hn => by
      by_cases e : c = s n
      · simp only [if_pos e]
      · simp only [if_neg e]
        refine hw c hc (fun i hi => ?_)
        rcases Nat.lt_or_ge i n with q | q
        · exact hn i q
        · have : i = n := by omega
          subst this
          exact fun z => e z.symm)
    rw [hu_sum_zero_at w (s n) N (hs.1 n (by omega))] at h1
    have h2 : hu_sum (fun i => (fun c => if c = s n then 0 else w c) (s i)) n = hu_sum (fun i => w (s i)) n := hu_sum_congr (fun i h => if_neg (fun e => by have := hs.2 i n (by omega) (by omega) e; omega))
    rw [h2] at h1
    simp only [hu_sum]
    omega
/-- an assignment with a dual certificate is the cheapest -/
theorem hu_opt {n N : Nat} {a : Nat → Nat → Int} {u v : Nat → Int} {m s : Nat → Nat} (hm : hu_inj m n N) (hle : ∀ i c, i < n → c < N → u i + v c ≤ a i c) (ht : ∀ i, i < n → u i + v (m i) = a i (m i))
    (hv : ∀ c, c < N → v c ≤ 0) (hv0 : ∀ c, c < N → (∀ i, i < n → m i ≠ c) → v c = 0) (hs : hu_inj s n N) : hu_sum (fun i => a i (m i)) n ≤ hu_sum (fun i => a i (s i)) n := by
  have h1 : hu_sum (fun i => a i (m i)) n = hu_sum u n + hu_sum v N := by
    rw [hu_inj_eq N n m v hm hv0, ← hu_sum_add]
    exact hu_sum_congr (fun i hi => (ht i hi).symm)
  have h2 : hu_sum u n + hu_sum (fun i => v (s i)) n ≤ hu_sum (fun i => a i (s i)) n := by
    rw [← hu_sum_add]
    exact hu_sum_le (fun i hi => hle i (s i) hi (hs.1 i hi))
  have h3 := hu_inj_ge N n s v hs hv
  omega
theorem hu_pigeon : ∀ (m n : Nat) (f : Nat → Nat), hu_inj f n m → n ≤ m := by
  intro m
  induction m with
  | zero =>
    intro n f h
    rcases Nat.eq_zero_or_pos n with q | q
    · omega
    · exact absurd (h.1 0 q) (by omega)
  | succ m ih =>
    intro n f h
    cases n with
    | zero => omega
    | succ n =>
      refine Nat.succ_le_succ (ih n (fun j => if f j = m then f n else f j) ⟨fun i hi => ?_, fun i j hi hj e => ?_⟩)
      · by_cases q : f i = m
        · simp only [if_pos q]
          have h1 := h.1 n (by omega)
          have h2 : f n ≠ m := fun z => by have := h.2 i n (by omega) (by omega) (q.trans z.symm); omega
          omega
        · simp only [if_neg q]
          have h1 := h.1 i (by omega)
          omega
      · by_cases q : f i = m <;> by_cases r : f j = m
        · exact h.2 i j (by omega) (by omega) (q.trans r.symm)
        · simp only [if_pos q, if_neg r] at e
          have := h.2 n j (by omega) (by omega) e
          omega
        · simp only [if_neg q, if_pos r] at e
          have := h.2 i n (by omega) (by omega) e
          omega
        · simp only [if_neg q, if_neg r] at e
          exact h.2 i j (by omega) (by omega) e
end
section
/-! PURE: one row gets its column: the search by least distances, and the chain that is moved. Rows 1 .. k, columns 1 .. N, column 0 stands for the row being placed. -/
/-- k rows have their columns: p c is the row of column c (0: none), u and v are the shifts -/
def hu_G (N k : Nat) (a : Nat → Nat → Int) (u v : Nat → Int) (p : Nat → Nat) : Prop :=
  (∀ c, 1 ≤ c → c ≤ N → p c ≤ k) ∧ (∀ c d, 1 ≤ c → c ≤ N → 1 ≤ d → d ≤ N → p c = p d → p c ≠ 0 → c = d) ∧ (∀ i, 1 ≤ i → i ≤ k → ∃ c, 1 ≤ c ∧ c ≤ N ∧ p c = i) ∧
  (∀ i c, 1 ≤ i → i ≤ k → 1 ≤ c → c ≤ N → u i + v c ≤ a i c) ∧ (∀ c, 1 ≤ c → c ≤ N → p c ≠ 0 → u (p c) + v c = a (p c) c) ∧ (∀ c, 1 ≤ c → c ≤ N → v c ≤ 0) ∧ (∀ c, 1 ≤ c → c ≤ N → p c = 0 → v c = 0) ∧ (∀ i, k < i → u i = 0)
/-- row k is being placed: p 0 = k -/
def hu_M (N k : Nat) (a : Nat → Nat → Int) (u v : Nat → Int) (p : Nat → Nat) : Prop :=
  p 0 = k ∧ 1 ≤ k ∧ (∀ c, 1 ≤ c → c ≤ N → p c < k) ∧ (∀ c d, c ≤ N → d ≤ N → p c = p d → p c ≠ 0 → c = d) ∧ (∀ i, 1 ≤ i → i < k → ∃ c, 1 ≤ c ∧ c ≤ N ∧ p c = i) ∧
  (∀ i c, 1 ≤ i → i ≤ k → 1 ≤ c → c ≤ N → u i + v c ≤ a i c) ∧ (∀ c, 1 ≤ c → c ≤ N → p c ≠ 0 → u (p c) + v c = a (p c) c) ∧ (∀ c, 1 ≤ c → c ≤ N → v c ≤ 0) ∧ (∀ c, 1 ≤ c → c ≤ N → p c = 0 → v c = 0) ∧ (∀ i, k < i → u i = 0)
/-- the columns reached so far are z 0 .. z (step - 1), the one looked at is z step -/
def hu_Z (N step : Nat) (a : Nat → Nat → Int) (u v : Nat → Int) (p way z : Nat → Nat) : Prop :=
  z 0 = 0 ∧ (∀ i, i ≤ step → z i ≤ N) ∧ (∀ i j, i ≤ step → j ≤ step → z i = z j → i = j) ∧ (∀ i, i < step → p (z i) ≠ 0) ∧
  (∀ i, 1 ≤ i → i ≤ step → ∃ j, j < i ∧ way (z i) = z j ∧ u (p (z j)) + v (z i) = a (p (z j)) (z i))
/-- the distances from the columns z 0 .. z (step - 1) -/
def hu_D (N step : Nat) (a : Nat → Nat → Int) (u v : Nat → Int) (p way z : Nat → Nat) (d : Nat → Int) : Prop :=
  ∀ c, 1 ≤ c → c ≤ N → (∀ i, i < step → z i ≠ c) → (∀ i, i < step → d c ≤ a (p (z i)) c - u (p (z i)) - v c) ∧ (0 < step → ∃ j, j < step ∧ way c = z j ∧ d c = a (p (z j)) c - u (p (z j)) - v c)
theorem hu_row {N k step : Nat} {a : Nat → Nat → Int} {u v : Nat → Int} {p way z : Nat → Nat} (hM : hu_M N k a u v p) (hZ : hu_Z N step a u v p way z) (hp : p (z step) ≠ 0) {t : Nat} (ht : t ≤ step) : 1 ≤ p (z t) ∧ p (z t) ≤ k := by
  obtain ⟨m0, mk, m1, -⟩ := hM
  obtain ⟨z0, zN, -, zp, -⟩ := hZ
  have h1 : p (z t) ≠ 0 := by
    rcases Nat.lt_or_ge t step with q | q
    · exact zp t q
    · have e : t = step := by omega
      rw [e]; exact hp
  have h2 := zN t ht
  rcases Nat.eq_zero_or_pos (z t) with q | q
  · rw [q, m0]; omega
  · have := m1 (z t) q h2
    omega
/-- while the row of the column looked at isn't 0, fewer columns are reached than rows are there -/
theorem hu_steps {N k step : Nat} {a : Nat → Nat → Int} {u v : Nat → Int} {p way z : Nat → Nat} (hM : hu_M N k a u v p) (hZ : hu_Z N step a u v p way z) (hp : p (z step) ≠ 0) : step < k := by
  have h := hu_pigeon k (step + 1) (fun t => p (z t) - 1) ⟨fun t ht => by have := hu_row hM hZ hp (t := t) (by omega); show p (z t) - 1 < k; omega, fun i j hi hj e => by
    have e : p (z i) - 1 = p (z j) - 1 := e
    have h1 := hu_row hM hZ hp (t := i) (by omega)
    have h2 := hu_row hM hZ hp (t := j) (by omega)
    have e2 : p (z i) = p (z j) := by omega
    obtain ⟨-, -, -, m2, -⟩ := hM
    obtain ⟨-, zN, zi, -⟩ := hZ
    exact zi i j (by omega) (by omega) (m2 _ _ (zN i (by omega)) (zN j (by omega)) e2 (by omega))⟩
  omega
/-- there is a column that no row has -/
theorem hu_bare {N k : Nat} {a : Nat → Nat → Int} {u v : Nat → Int} {p : Nat → Nat} (hM : hu_M N k a u v p) (hk : k ≤ N) : ∃ c, 1 ≤ c ∧ c ≤ N ∧ p c = 0 := by
  obtain ⟨-, mk, m1, m2, -⟩ := hM
  by_cases h : ∃ c, 1 ≤ c ∧ c ≤ N ∧ p c = 0
  · exact h
  · have hn : ∀ c, 1 ≤ c → c ≤ N → p c ≠ 0 := fun c h1 h2 e => h ⟨c, h1, h2, e⟩
    have := hu_pigeon (k - 1) N (fun t => p (t + 1) - 1) ⟨fun t ht => by have := hn (t + 1) (by omega) (by omega); have := m1 (t + 1) (by omega) (by omega); show p (t + 1) - 1 < k - 1; omega, fun i j hi hj e => by
      have e : p (i + 1) - 1 = p (j + 1) - 1 := e
      have h1 := hn (i + 1) (by omega) (by omega)
      have h2 := hn (j + 1) (by omega) (by omega)
      have e2 : p (i + 1) = p (j + 1) := by omega
      have := m2 (i + 1) (j + 1) (by omega) (by omega) e2 h1
      omega⟩
    omega
/-- the shifts stay small -/
theorem hu_small {N k : Nat} {a : Nat → Nat → Int} {u v : Nat → Int} {p : Nat → Nat} {m : Int} (hM : hu_M N k a u v p) (hk : k ≤ N) (ha : ∀ i c, 1 ≤ i → i ≤ k → 1 ≤ c → c ≤ N → 0 ≤ a i c ∧ a i c ≤ m) (huk : 0 ≤ u k) :
    (∀ i, 1 ≤ i → i ≤ k → 0 ≤ u i ∧ u i ≤ m) ∧ (∀ c, 1 ≤ c → c ≤ N → -m ≤ v c ∧ v c ≤ 0) := by
  obtain ⟨c0, c01, c0N, hc0⟩ := hu_bare hM hk
  obtain ⟨m0, mk, m1, m2, m3, m4, m5, m6, m7, -⟩ := hM
  have h1 : ∀ i, 1 ≤ i → i ≤ k → 0 ≤ u i ∧ u i ≤ m := by
    intro i i1 ik
    have e1 := m4 i c0 i1 ik c01 c0N
    have e2 := m7 c0 c01 c0N hc0
    have e3 := ha i c0 i1 ik c01 c0N
    refine ⟨?_, by omega⟩
    rcases Nat.lt_or_ge i k with q | q
    · obtain ⟨c, c1, cN, hc⟩ := m3 i i1 q
      have e4 := m5 c c1 cN (by omega)
      have e5 := m6 c c1 cN
      have e6 := ha i c i1 ik c1 cN
      rw [hc] at e4
      omega
    · have e : i = k := by omega
      rw [e]; exact huk
  refine ⟨h1, fun c c1 cN => ⟨?_, m6 c c1 cN⟩⟩
  by_cases hc : p c = 0
  · have e1 := m7 c c1 cN hc
    have e2 := ha k c mk (Nat.le_refl k) c1 cN
    omega
  · have e1 := m5 c c1 cN hc
    have e2 := m1 c c1 cN
    have e3 := h1 (p c) (by omega) (by omega)
    have e4 := ha (p c) c (by omega) (by omega) c1 cN
    omega
/-- the distances are measured from the column looked at, too -/
theorem hu_measure {N step : Nat} {a : Nat → Nat → Int} {u v d d1 : Nat → Int} {p way way1 z : Nat → Nat} (hZ : hu_Z N step a u v p way z) (hD : hu_D N step a u v p way z d)
    (h0 : step = 0 → ∀ c, 1 ≤ c → c ≤ N → a (p (z step)) c - u (p (z step)) - v c < d c)
    (hin : ∀ c, 1 ≤ c → c ≤ N → (∀ i, i ≤ step → z i ≠ c) → a (p (z step)) c - u (p (z step)) - v c < d c → d1 c = a (p (z step)) c - u (p (z step)) - v c ∧ way1 c = z step)
    (hout : ∀ c, 1 ≤ c → c ≤ N → (∀ i, i ≤ step → z i ≠ c) → ¬ a (p (z step)) c - u (p (z step)) - v c < d c → d1 c = d c ∧ way1 c = way c)
    (hway : ∀ i, i ≤ step → way1 (z i) = way (z i)) : hu_Z N step a u v p way1 z ∧ hu_D N (step + 1) a u v p way1 z d1 := by
  obtain ⟨z0, zN, zi, zp, zw⟩ := hZ
  refine ⟨⟨z0, zN, zi, zp, fun i i1 hi => ?_⟩, fun c c1 cN hc => ?_⟩
  · obtain ⟨j, h1, h2, h3⟩ := zw i i1 hi
    exact ⟨j, h1, by rw [hway i hi]; exact h2, h3⟩
  · have hc' : ∀ i, i ≤ step → z i ≠ c := fun i hi => hc i (by omega)
    obtain ⟨g1, g2⟩ := hD c c1 cN (fun i hi => hc i (by omega))
    by_cases hf : a (p (z step)) c - u (p (z step)) - v c < d c
    · obtain ⟨e1, e2⟩ := hin c c1 cN hc' hf
      refine ⟨fun i hi => ?_, fun _ => ⟨step, by omega, e2, e1⟩⟩
      rcases Nat.lt_or_ge i step with q | q
      · have := g1 i q
        omega
      · have e : i = step := by omega
        subst e
        omega
    · obtain ⟨e1, e2⟩ := hout c c1 cN hc' hf
      have hs : 0 < step := by
        rcases Nat.eq_zero_or_pos step with q | q
        · exact absurd (h0 q c c1 cN) hf
        · exact q
      obtain ⟨j, j1, j2, j3⟩ := g2 hs
      refine ⟨fun i hi => ?_, fun _ => ⟨j, by omega, by rw [e2]; exact j2, by rw [e1]; exact j3⟩⟩
      rcases Nat.lt_or_ge i step with q | q
      · have := g1 i q
        omega
      · have e : i = step := by omega
        subst e
        omega
/-- the shifts by the least distance w, that of column j -/
theorem hu_shift {N k step : Nat} {a : Nat → Nat → Int} {u v u' v' d d' : Nat → Int} {p way z : Nat → Nat} {j : Nat} {w : Int} (hM : hu_M N k a u v p) (hZ : hu_Z N step a u v p way z) (hp : p (z step) ≠ 0) (hD : hu_D N (step + 1) a u v p way z d)
    (hj1 : 1 ≤ j) (hjN : j ≤ N) (hjz : ∀ i, i ≤ step → z i ≠ j) (hw : d j = w) (hmin : ∀ c, 1 ≤ c → c ≤ N → (∀ i, i ≤ step → z i ≠ c) → w ≤ d c)
    (hu1 : ∀ t, t ≤ step → u' (p (z t)) = u (p (z t)) + w) (hu2 : ∀ i, (∀ t, t ≤ step → p (z t) ≠ i) → u' i = u i)
    (hv1 : ∀ t, t ≤ step → v' (z t) = v (z t) - w) (hv2 : ∀ c, c ≤ N → (∀ t, t ≤ step → z t ≠ c) → v' c = v c)
    (hd' : ∀ c, 1 ≤ c → c ≤ N → (∀ t, t ≤ step → z t ≠ c) → d' c = d c - w) :
    0 ≤ w ∧ hu_M N k a u' v' p ∧ hu_Z N (step + 1) a u' v' p way (fun i => if i = step + 1 then j else z i) ∧ hu_D N (step + 1) a u' v' p way (fun i => if i = step + 1 then j else z i) d' := by
  have hrow := fun t ht => hu_row hM hZ hp (t := t) ht
  obtain ⟨m0, mk, m1, m2, m3, m4, m5, m6, m7, m8⟩ := hM
  obtain ⟨z0, zN, zi, zp, zw⟩ := hZ
  obtain ⟨jt, jt1, jt2, jt3⟩ := (hD j hj1 hjN (fun i hi => hjz i (by omega))).2 (by omega)
  have hw0 : 0 ≤ w := by
    have h1 := hrow jt (by omega)
    have h2 := m4 (p (z jt)) j h1.1 h1.2 hj1 hjN
    omega
  have hzz : ∀ i, i ≤ step → (if i = step + 1 then j else z i) = z i := fun i hi => if_neg (by omega)
  refine ⟨hw0, ⟨m0, mk, m1, m2, m3, fun i c i1 ik c1 cN => ?_, fun c c1 cN hc => ?_, fun c c1 cN => ?_, fun c c1 cN hc => ?_, fun i hi => ?_⟩, ⟨?_, fun i hi => ?_, fun i i' hi hi' e => ?_, fun i hi => ?_, fun i i1 hi => ?_⟩, fun c c1 cN hc => ?_⟩
  · have hf := m4 i c i1 ik c1 cN
    by_cases hr : ∃ t, t ≤ step ∧ p (z t) = i
    · obtain ⟨t, ht, rfl⟩ := hr
      rw [hu1 t ht]
      by_cases hcZ : ∃ t', t' ≤ step ∧ z t' = c
      · obtain ⟨t', ht', rfl⟩ := hcZ
        rw [hv1 t' ht']
        omega
      · have hn : ∀ t', t' ≤ step → z t' ≠ c := fun t' h e => hcZ ⟨t', h, e⟩
        rw [hv2 c cN hn]
        have h1 := (hD c c1 cN (fun i hi => hn i (by omega))).1 t (by omega)
        have h2 := hmin c c1 cN hn
        omega
    · have hn : ∀ t, t ≤ step → p (z t) ≠ i := fun t h e => hr ⟨t, h, e⟩
      rw [hu2 i hn]
      by_cases hcZ : ∃ t', t' ≤ step ∧ z t' = c
      · obtain ⟨t', ht', rfl⟩ := hcZ
        rw [hv1 t' ht']
        omega
      · rw [hv2 c cN (fun t' h e => hcZ ⟨t', h, e⟩)]
        exact hf
  · have hf := m5 c c1 cN hc
    by_cases hcZ : ∃ t', t' ≤ step ∧ z t' = c
    · obtain ⟨t', ht', rfl⟩ := hcZ
      rw [hv1 t' ht', hu1 t' ht']
      omega
    · have hn : ∀ t', t' ≤ step → z t' ≠ c := fun t' h e => hcZ ⟨t', h, e⟩
      rw [hv2 c cN hn, hu2 (p c) (fun t ht e => hn t ht (m2 _ _ (zN t ht) cN e (by rw [e]; exact hc)))]
      exact hf
  · have hf := m6 c c1 cN
    by_cases hcZ : ∃ t', t' ≤ step ∧ z t' = c
    · obtain ⟨t', ht', rfl⟩ := hcZ
      rw [hv1 t' ht']
      omega
    · rw [hv2 c cN (fun t' h e => hcZ ⟨t', h, e⟩)]
      exact hf
  · rw [hv2 c cN (fun t ht e => by have := hrow t ht; rw [e] at this; omega)]
    exact m7 c c1 cN hc
  · rw [hu2 i (fun t ht e => by have := hrow t ht; omega)]
    exact m8 i hi
  · show (if 0 = step + 1 then j else z 0) = 0
    rw [hzz 0 (by omega)]; exact z0
  · show (if i = step + 1 then j else z i) ≤ N
    by_cases e : i = step + 1
    · rw [if_pos e]; exact hjN
    · rw [if_neg e]; exact zN i (by omega)
  · have e : (if i = step + 1 then j else z i) = (if i' = step + 1 then j else z i') := e
    by_cases q : i = step + 1 <;> by_cases r : i' = step + 1
    · omega
    · rw [if_pos q, if_neg r] at e
      exact absurd e.symm (hjz i' (by omega))
    · rw [if_neg q, if_pos r] at e
      exact absurd e (hjz i (by omega))
    · rw [if_neg q, if_neg r] at e
      exact zi i i' (by omega) (by omega) e
  · show p (if i = step + 1 then j else z i) ≠ 0
    rw [hzz i (by omega)]
    have := hrow i (by omega)
    omega
  · by_cases q : i = step + 1
    · refine ⟨jt, by omega, ?_, ?_⟩
      · show way (if i = step + 1 then j else z i) = (if jt = step + 1 then j else z jt)
        rw [if_pos q, hzz jt (by omega)]; exact jt2
      · show u' (p (if jt = step + 1 then j else z jt)) + v' (if i = step + 1 then j else z i) = a (p (if jt = step + 1 then j else z jt)) (if i = step + 1 then j else z i)
        rw [if_pos q, hzz jt (by omega), hu1 jt (by omega), hv2 j hjN hjz]
        omega
    · obtain ⟨j', h1, h2, h3⟩ := zw i i1 (by omega)
      refine ⟨j', h1, ?_, ?_⟩
      · show way (if i = step + 1 then j else z i) = (if j' = step + 1 then j else z j')
        rw [if_neg q, hzz j' (by omega)]; exact h2
      · show u' (p (if j' = step + 1 then j else z j')) + v' (if i = step + 1 then j else z i) = a (p (if j' = step + 1 then j else z j')) (if i = step + 1 then j else z i)
        rw [if_neg q, hzz j' (by omega), hu1 j' (by omega), hv1 i (by omega)]
        omega
  · have hc' : ∀ i, i ≤ step → z i ≠ c := fun i hi e => hc i (by omega) (by show (if i = step + 1 then j else z i) = c; rw [hzz i hi]; exact e)
    obtain ⟨g1, g2⟩ := hD c c1 cN (fun i hi => hc' i (by omega))
    obtain ⟨j', q1, q2, q3⟩ := g2 (by omega)
    refine ⟨fun i hi => ?_, fun _ => ⟨j', q1, ?_, ?_⟩⟩
    · show d' c ≤ a (p (if i = step + 1 then j else z i)) c - u' (p (if i = step + 1 then j else z i)) - v' c
      rw [hzz i (by omega), hu1 i (by omega), hv2 c cN hc', hd' c c1 cN hc']
      have := g1 i hi
      omega
    · show way c = (if j' = step + 1 then j else z j')
      rw [hzz j' (by omega)]; exact q2
    · show d' c = a (p (if j' = step + 1 then j else z j')) c - u' (p (if j' = step + 1 then j else z j')) - v' c
      rw [hzz j' (by omega), hu1 j' (by omega), hv2 c cN hc', hd' c c1 cN hc']
      omega
/-- the chain is moved: column z i is to be filled; p is the matching before, q the one now -/
def hu_A (N k i : Nat) (a : Nat → Nat → Int) (u v : Nat → Int) (p q z : Nat → Nat) : Prop :=
  q 0 = k ∧ (∀ t, t < i → q (z t) = p (z t)) ∧ (∀ c d, c ≤ N → d ≤ N → c ≠ z i → d ≠ z i → q c = q d → q c ≠ 0 → c = d) ∧ (∀ r, 1 ≤ r → r ≤ k → ∃ c, c ≤ N ∧ c ≠ z i ∧ q c = r) ∧ (∀ c, c ≤ N → c ≠ z i → q c ≤ k) ∧
  (∀ c, 1 ≤ c → c ≤ N → c ≠ z i → q c ≠ 0 → u (q c) + v c = a (q c) c) ∧ (∀ c, 1 ≤ c → c ≤ N → c ≠ z i → q c = 0 → v c = 0)
theorem hu_A_start {N k step : Nat} {a : Nat → Nat → Int} {u v : Nat → Int} {p z : Nat → Nat} (hM : hu_M N k a u v p) (h0 : p (z step) = 0) : hu_A N k step a u v p p z := by
  obtain ⟨m0, mk, m1, m2, m3, m4, m5, m6, m7, m8⟩ := hM
  refine ⟨m0, fun _ _ => rfl, fun c d hc hd _ _ e hn => m2 c d hc hd e hn, fun r r1 rk => ?_, fun c hc _ => ?_, fun c c1 cN _ hn => m5 c c1 cN hn, fun c c1 cN _ hn => m7 c c1 cN hn⟩
  · rcases Nat.lt_or_ge r k with q | q
    · obtain ⟨c, c1, cN, e⟩ := m3 r r1 q
      exact ⟨c, cN, fun z => by rw [z] at e; omega, e⟩
    · exact ⟨0, by omega, fun z => by rw [← z] at h0; omega, by omega⟩
  · rcases Nat.eq_zero_or_pos c with q | q
    · rw [q]; omega
    · have := m1 c q hc
      omega
theorem hu_A_step {N k step i : Nat} {a : Nat → Nat → Int} {u v : Nat → Int} {p q q' way z : Nat → Nat} (hZ : hu_Z N step a u v p way z) (hi : i ≤ step) (hA : hu_A N k i a u v p q z) (hn : z i ≠ 0)
    (hq1 : q' (z i) = q (way (z i))) (hq2 : ∀ c, c ≠ z i → q' c = q c) : ∃ j, j < i ∧ way (z i) = z j ∧ hu_A N k j a u v p q' z := by
  obtain ⟨z0, zN, zi, zp, zw⟩ := hZ
  obtain ⟨a0, a1, a2, a3, a4, a5, a6⟩ := hA
  have hi1 : 1 ≤ i := by
    rcases Nat.eq_zero_or_pos i with e | e
    · rw [e] at hn; exact absurd z0 hn
    · exact e
  obtain ⟨j, h1, h2, h3⟩ := zw i hi1 hi
  rw [h2] at hq1
  have hne : z j ≠ z i := fun e => by have := zi j i (by omega) hi e; omega
  have hpj : p (z j) ≠ 0 := zp j (by omega)
  have hqj : q (z j) = p (z j) := a1 j h1
  refine ⟨j, h1, h2, ?_, fun t ht => ?_, fun c d hc hd nc nd e ne => ?_, fun r r1 rk => ?_, fun c hc nc => ?_, fun c c1 cN nc hx => ?_, fun c c1 cN nc hx => ?_⟩
  · rw [hq2 0 (fun e => hn e.symm)]; exact a0
  · rw [hq2 (z t) (fun e => by have := zi t i (by omega) hi e; omega)]
    exact a1 t (by omega)
  · by_cases e1 : c = z i <;> by_cases e2 : d = z i
    · rw [e1, e2]
    · rw [e1, hq1, hq2 d e2] at e
      exact absurd (a2 (z j) d (zN j (by omega)) hd hne e2 e (by rw [hqj]; exact hpj)).symm nd
    · rw [e2, hq1, hq2 c e1] at e
      exact absurd (a2 c (z j) hc (zN j (by omega)) e1 hne e (by rw [e, hqj]; exact hpj)) nc
    · rw [hq2 c e1, hq2 d e2] at e
      rw [hq2 c e1] at ne
      exact a2 c d hc hd e1 e2 e ne
  · obtain ⟨c, c1, c2, c3⟩ := a3 r r1 rk
    by_cases e : c = z j
    · exact ⟨z i, zN i hi, fun x => hne x.symm, by rw [hq1, ← e]; exact c3⟩
    · exact ⟨c, c1, e, by rw [hq2 c c2]; exact c3⟩
  · by_cases e1 : c = z i
    · rw [e1, hq1]; exact a4 (z j) (zN j (by omega)) hne
    · rw [hq2 c e1]; exact a4 c hc e1
  · by_cases e1 : c = z i
    · rw [e1, hq1, hqj]; exact h3
    · rw [hq2 c e1] at hx ⊢
      exact a5 c c1 cN e1 hx
  · by_cases e1 : c = z i
    · rw [e1, hq1, hqj] at hx
      exact absurd hx hpj
    · rw [hq2 c e1] at hx
      exact a6 c c1 cN e1 hx
theorem hu_A_end {N k step : Nat} {a : Nat → Nat → Int} {u v : Nat → Int} {p q way z : Nat → Nat} (hM : hu_M N k a u v p) (hZ : hu_Z N step a u v p way z) (hA : hu_A N k 0 a u v p q z) : hu_G N k a u v q := by
  obtain ⟨m0, mk, m1, m2, m3, m4, m5, m6, m7, m8⟩ := hM
  obtain ⟨a0, a1, a2, a3, a4, a5, a6⟩ := hA
  have z0 := hZ.1
  rw [z0] at a2 a3 a4 a5 a6
  refine ⟨fun c c1 cN => a4 c cN (by omega), fun c d c1 cN d1 dN e hn => a2 c d cN dN (by omega) (by omega) e hn, fun i i1 ik => ?_, m4, fun c c1 cN hn => a5 c c1 cN (by omega) hn, m6, fun c c1 cN hn => a6 c c1 cN (by omega) hn, m8⟩
  obtain ⟨c, h1, h2, h3⟩ := a3 i i1 ik
  exact ⟨c, by omega, h1, h3⟩
/-- row k + 1 comes -/
theorem hu_G_next {N k : Nat} {a : Nat → Nat → Int} {u v : Nat → Int} {p q : Nat → Nat} (hG : hu_G N k a u v p) (ha : ∀ c, 1 ≤ c → c ≤ N → 0 ≤ a (k + 1) c) (h0 : q 0 = k + 1) (hq : ∀ c, 1 ≤ c → c ≤ N → q c = p c) : hu_M N (k + 1) a u v q := by
  obtain ⟨g1, g2, g3, g4, g5, g6, g7, g8⟩ := hG
  refine ⟨h0, by omega, fun c c1 cN => ?_, fun c d hc hd e hn => ?_, fun i i1 ik => ?_, fun i c i1 ik c1 cN => ?_, fun c c1 cN hn => ?_, g6, fun c c1 cN hn => ?_, fun i hi => g8 i (by omega)⟩
  · have := g1 c c1 cN
    rw [hq c c1 cN]; omega
  · rcases Nat.eq_zero_or_pos c with x | x <;> rcases Nat.eq_zero_or_pos d with y | y
    · omega
    · rw [x, h0, hq d y hd] at e
      have := g1 d y hd
      omega
    · rw [y, h0, hq c x hc] at e
      have := g1 c x hc
      omega
    · rw [hq c x hc, hq d y hd] at e
      rw [hq c x hc] at hn
      exact g2 c d x hc y hd e hn
  · obtain ⟨c, c1, cN, e⟩ := g3 i i1 (by omega)
    exact ⟨c, c1, cN, by rw [hq c c1 cN]; exact e⟩
  · rcases Nat.lt_or_ge k i with x | x
    · have e : i = k + 1 := by omega
      have h1 := g8 i x
      have h2 := g6 c c1 cN
      have h3 := ha c c1 cN
      rw [← e] at h3
      omega
    · exact g4 i c i1 x c1 cN
  · rw [hq c c1 cN] at hn ⊢
    exact g5 c c1 cN hn
  · rw [hq c c1 cN] at hn
    exact g7 c c1 cN hn
/-- when all n rows have their columns, no other choice of columns is cheaper -/
theorem hu_G_best {N n : Nat} {a : Nat → Nat → Int} {u v : Nat → Int} {p : Nat → Nat} (hG : hu_G N n a u v p) {m s : Nat → Nat} (hm : ∀ i, i < n → m i < N ∧ p (m i + 1) = i + 1) (hs : hu_inj s n N) :
    hu_sum (fun i => a (i + 1) (m i + 1)) n ≤ hu_sum (fun i => a (i + 1) (s i + 1)) n := by
  obtain ⟨g1, g2, g3, g4, g5, g6, g7, g8⟩ := hG
  refine hu_opt (N := N) (a := fun i c => a (i + 1) (c + 1)) (u := fun i => u (i + 1)) (v := fun c => v (c + 1)) (m := m) (s := s) ⟨fun i hi => (hm i hi).1, fun i j hi hj e => ?_⟩ (fun i c hi hc => g4 (i + 1) (c + 1) (by omega) (by omega) (by omega) (by omega)) (fun i hi => ?_) (fun c hc => g6 (c + 1) (by omega) (by omega)) (fun c hc hn => g7 (c + 1) (by omega) (by omega) ?_) hs
  · have h1 := (hm i hi).2
    have h2 := (hm j hj).2
    rw [e] at h1
    omega
  · have h1 := g5 (m i + 1) (by omega) (by have := (hm i hi).1; omega) (by rw [(hm i hi).2]; omega)
    rw [(hm i hi).2] at h1
    exact h1
  · rcases Nat.eq_zero_or_pos (p (c + 1)) with x | x
    · exact x
    · have h1 := g1 (c + 1) (by omega) (by omega)
      have h2 := (hm (p (c + 1) - 1) (by omega)).2
      have h3 := (hm (p (c + 1) - 1) (by omega)).1
      have h4 := g2 (m (p (c + 1) - 1) + 1) (c + 1) (by omega) (by omega) (by omega) (by omega) (by rw [h2]; omega) (by rw [h2]; omega)
      exact absurd (by omega) (hn (p (c + 1) - 1) (by omega))
end
section
/-! PURE: plans and their prices. Groups are 0 .. n-1 (n at most 8), places 0 .. 11, and 12 stands for none. -/
def pl_W : Int := 8000001
def pl_P : Int := 815730721
/-- the price of group i at place f (12: none), with the plan's digit -/
def pl_pr (cost : Nat → Nat → Int) (i f : Nat) : Int := (if f = 12 then pl_W else cost i f) * pl_P + (f : Int) * (13 : Int) ^ (7 - i)
/-- a plan: places that are allowed, each for one group at most -/
def pl_ok (n : Nat) (al : Nat → Nat → Prop) (f : Nat → Nat) : Prop := (∀ i, i < n → f i ≤ 12 ∧ (f i ≠ 12 → al i (f i))) ∧ ∀ i j, i < n → j < n → f i = f j → f i ≠ 12 → i = j
def pl_tot (n : Nat) (cost : Nat → Nat → Int) (f : Nat → Nat) : Int := hu_sum (fun i => pl_pr cost i (f i)) n
/-- the digits of a plan, read as a number -/
def pl_num (f : Nat → Nat) : Nat → Int
  | 0 => 0
  | n + 1 => 13 * pl_num f n + (f n : Int)
theorem pl_pow {i : Nat} (h : i < 8) : (13 : Int) ^ (8 - i) = 13 * (13 : Int) ^ (7 - i) := by
  have e : 8 - i = (7 - i) + 1 := by omega
  rw [e, Int.pow_succ, Int.mul_comm]
theorem pl_dig (f : Nat → Nat) : ∀ n, n ≤ 8 → hu_sum (fun i => (f i : Int) * (13 : Int) ^ (7 - i)) n = pl_num f n * (13 : Int) ^ (8 - n) := by
  intro n
  induction n with
  | zero => intro _; simp [hu_sum, pl_num]
  | succ n ih =>
    intro h
    simp only [hu_sum, pl_num]
    have e : 8 - (n + 1) = 7 - n := by omega
    rw [ih (by omega), pl_pow (by omega), e, Int.add_mul, Int.mul_comm 13 (pl_num f n), Int.mul_assoc]
theorem pl_num_in (f : Nat → Nat) : ∀ n, (∀ i, i < n → f i ≤ 12) → 0 ≤ pl_num f n ∧ pl_num f n < (13 : Int) ^ n := by
  intro n
  induction n with
  | zero => intro _; simp [pl_num]
  | succ n ih =>
    intro h
    obtain ⟨h1, h2⟩ := ih (fun i hi => h i (by omega))
    have h3 := h n (by omega)
    simp only [pl_num]
    rw [Int.pow_succ]
    generalize (13 : Int) ^ n = w at h2 ⊢
    omega
theorem pl_num_inj (f g : Nat → Nat) : ∀ n, (∀ i, i < n → f i ≤ 12) → (∀ i, i < n → g i ≤ 12) → pl_num f n = pl_num g n → ∀ i, i < n → f i = g i := by
  intro n
  induction n with
  | zero => intro _ _ _ i hi; omega
  | succ n ih =>
    intro hf hg e i hi
    simp only [pl_num] at e
    have h1 := hf n (by omega)
    have h2 := hg n (by omega)
    have e1 : pl_num f n = pl_num g n := by omega
    rcases Nat.lt_or_ge i n with q | q
    · exact ih (fun i hi => hf i (by omega)) (fun i hi => hg i (by omega)) e1 i q
    · have : i = n := by omega
      subst this
      omega
/-- the costs alone, none as dear as pl_W -/
def pl_key (n : Nat) (cost : Nat → Nat → Int) (f : Nat → Nat) : Int := hu_sum (fun i => if f i = 12 then pl_W else cost i (f i)) n
theorem hu_sum_mul (f : Nat → Int) (k : Int) (n : Nat) : hu_sum (fun i => f i * k) n = hu_sum f n * k := by
  induction n with
  | zero => simp [hu_sum]
  | succ n ih => simp only [hu_sum]; rw [ih, Int.add_mul]
theorem pl_split (n : Nat) (hn : n ≤ 8) (cost : Nat → Nat → Int) (f : Nat → Nat) : pl_tot n cost f = pl_key n cost f * pl_P + pl_num f n * (13 : Int) ^ (8 - n) := by
  unfold pl_tot pl_key pl_pr
  rw [hu_sum_add, hu_sum_mul, pl_dig f n hn]
theorem pl_low {n : Nat} (hn : n ≤ 8) {f : Nat → Nat} (h : ∀ i, i < n → f i ≤ 12) : 0 ≤ pl_num f n * (13 : Int) ^ (8 - n) ∧ pl_num f n * (13 : Int) ^ (8 - n) < pl_P := by
  obtain ⟨h1, h2⟩ := pl_num_in f n h
  have hp : (0 : Int) < (13 : Int) ^ (8 - n) := Int.pow_pos (by decide)
  refine ⟨Int.mul_nonneg h1 (Int.le_of_lt hp), ?_⟩
  have h3 := Int.mul_lt_mul_of_pos_right h2 hp
  rw [← Int.pow_add, show n + (8 - n) = 8 by omega] at h3
  have h4 : (13 : Int) ^ 8 = pl_P := by decide
  rw [h4] at h3
  exact h3
/-- two plans of one price are one -/
theorem pl_uniq {n : Nat} (hn : n ≤ 8) {cost : Nat → Nat → Int} {f g : Nat → Nat} (hf : ∀ i, i < n → f i ≤ 12) (hg : ∀ i, i < n → g i ≤ 12) (e : pl_tot n cost f = pl_tot n cost g) : ∀ i, i < n → f i = g i := by
  rw [pl_split n hn, pl_split n hn] at e
  have h1 := pl_low hn hf
  have h2 := pl_low hn hg
  have hp : (0 : Int) < (13 : Int) ^ (8 - n) := Int.pow_pos (by decide)
  have e2 : pl_num f n * (13 : Int) ^ (8 - n) = pl_num g n * (13 : Int) ^ (8 - n) := by
    unfold pl_P at *
    generalize pl_num f n * (13 : Int) ^ (8 - n) = a at *
    generalize pl_num g n * (13 : Int) ^ (8 - n) = b at *
    omega
  exact pl_num_inj f g n hf hg (Int.eq_of_mul_eq_mul_right (Int.ne_of_gt hp) e2)
/-- the table: row i, columns 0 .. 11 the places, 12 .. 19 for none -/
def pl_tab (cost : Nat → Nat → Int) (al : Nat → Nat → Prop) [∀ i c, Decidable (al i c)] (i c : Nat) : Int := if c < 12 then (if al i c then pl_pr cost i c else (pl_W + 1) * pl_P) else pl_pr cost i 12
theorem hu_sum_upd (f g : Nat → Int) (k : Nat) : ∀ n, k < n → (∀ i, i < n → i ≠ k → f i = g i) → hu_sum f n - f k = hu_sum g n - g k := by
  intro n
  induction n with
  | zero => intro h; omega
  | succ n ih =>
    intro hk h
    simp only [hu_sum]
    by_cases e : k = n
    · subst e
      rw [hu_sum_congr (f := f) (g := g) (fun i hi => h i (by omega) (by omega))]
      omega
    · have h1 := ih (by omega) (fun i hi hn => h i (by omega) hn)
      have h2 := h n (by omega) (by omega)
      omega
/-- a cheapest choice of columns is a plan, and a cheapest one -/
theorem pl_best {n : Nat} (hn : n ≤ 8) {cost : Nat → Nat → Int} {al : Nat → Nat → Prop} [∀ i c, Decidable (al i c)] {m : Nat → Nat} (hm : hu_inj m n 20)
    (hmin : ∀ s, hu_inj s n 20 → hu_sum (fun i => pl_tab cost al i (m i)) n ≤ hu_sum (fun i => pl_tab cost al i (s i)) n) :
    pl_ok n al (fun i => if m i < 12 then m i else 12) ∧ ∀ f, pl_ok n al f → pl_tot n cost (fun i => if m i < 12 then m i else 12) ≤ pl_tot n cost f := by
  have hal : ∀ i, i < n → m i < 12 → al i (m i) := by
    intro i hi h12
    by_cases h : al i (m i)
    · exact h
    · exfalso
      have hex : ∃ c, 12 ≤ c ∧ c < 20 ∧ ∀ j, j < n → m j ≠ c := by
        by_cases q : ∃ c, 12 ≤ c ∧ c < 20 ∧ ∀ j, j < n → m j ≠ c
        · exact q
        · exfalso
          have hall : ∀ c, 12 ≤ c → c < 20 → ∃ j, j < n ∧ m j = c := by
            intro c c1 c2
            by_cases z : ∃ j, j < n ∧ m j = c
            · exact z
            · exact absurd ⟨c, c1, c2, fun j hj e => z ⟨j, hj, e⟩⟩ q
          have hpick : ∃ w : Nat → Nat, ∀ c, 12 ≤ c → c < 20 → w c < n ∧ m (w c) = c :=
            ⟨fun c => if h : 12 ≤ c ∧ c < 20 then (hall c h.1 h.2).choose else 0, fun c c1 c2 => by
              simp only [dif_pos (And.intro c1 c2)]
              exact (hall c c1 c2).choose_spec⟩
          obtain ⟨w, hw⟩ := hpick
          have := hu_pigeon n 9 (fun t => if t = 0 then i else w (11 + t)) ⟨fun t ht => by
              by_cases z : t = 0
              · simp only [if_pos z]; exact hi
              · simp only [if_neg z]; exact (hw (11 + t) (by omega) (by omega)).1, fun t t' ht ht' e => by
              by_cases z : t = 0 <;> by_cases z' : t' = 0
              · omega
              · simp only [if_pos z, if_neg z'] at e
                have := (hw (11 + t') (by omega) (by omega)).2
                rw [← e] at this
                omega
              · simp only [if_neg z, if_pos z'] at e
                have := (hw (11 + t) (by omega) (by omega)).2
                rw [e] at this
                omega
              · simp only [if_neg z, if_neg z'] at e
                have h1 := (hw (11 + t) (by omega) (by omega)).2
                have h2 := (hw (11 + t') (by omega) (by omega)).2
                rw [e] at h1
                omega⟩
          omega
      obtain ⟨c, c1, c2, hc⟩ := hex
      have h1 := hmin (fun j => if j = i then c else m j) ⟨fun j hj => by
          by_cases z : j = i
          · simp only [if_pos z]; exact c2
          · simp only [if_neg z]; exact hm.1 j hj, fun j j' hj hj' e => by
          by_cases z : j = i <;> by_cases z' : j' = i
          · omega
          · simp only [if_pos z, if_neg z'] at e
            exact absurd e.symm (hc j' hj')
          · simp only [if_neg z, if_pos z'] at e
            exact absurd e (hc j hj)
          · simp only [if_neg z, if_neg z'] at e
            exact hm.2 j j' hj hj' e⟩
      have h2 := hu_sum_upd (fun j => pl_tab cost al j (m j)) (fun j => pl_tab cost al j (if j = i then c else m j)) i n hi (fun j _ hne => by simp only [if_neg hne])
      have h3 : pl_tab cost al i (m i) = (pl_W + 1) * pl_P := by simp only [pl_tab, if_pos h12, if_neg h]
      have h2 : hu_sum (fun j => pl_tab cost al j (m j)) n - pl_tab cost al i (m i) = hu_sum (fun j => pl_tab cost al j (if j = i then c else m j)) n - pl_tab cost al i (if i = i then c else m i) := h2
      have h1 : hu_sum (fun j => pl_tab cost al j (m j)) n ≤ hu_sum (fun j => pl_tab cost al j (if j = i then c else m j)) n := h1
      rw [if_pos rfl] at h2
      have h4 : pl_tab cost al i c = pl_pr cost i 12 := by
        simp only [pl_tab, if_neg (show ¬ c < 12 by omega)]
      have h5 : pl_pr cost i 12 < (pl_W + 1) * pl_P := by
        have h6 : (13 : Int) ^ (7 - i) ≤ 62748517 := (show ∀ j, j < 8 → (13 : Int) ^ (7 - j) ≤ 62748517 by decide) i (by omega)
        simp only [pl_pr, if_true, pl_W, pl_P]
        omega
      rw [h3, h4] at h2
      omega
  refine ⟨⟨fun i hi => ?_, fun i j hi hj e hne => ?_⟩, fun f hf => ?_⟩
  · by_cases h : m i < 12
    · simp only [if_pos h]; exact ⟨by omega, fun _ => hal i hi h⟩
    · simp only [if_neg h]; exact ⟨Nat.le_refl 12, fun z => absurd rfl z⟩
  · have e : (if m i < 12 then m i else 12) = (if m j < 12 then m j else 12) := e
    have hne : (if m i < 12 then m i else 12) ≠ 12 := hne
    by_cases h : m i < 12
    · by_cases h' : m j < 12
      · rw [if_pos h, if_pos h'] at e
        exact hm.2 i j hi hj e
      · rw [if_pos h, if_neg h'] at e
        omega
    · rw [if_neg h] at hne
      exact absurd rfl hne
  · have h1 := hmin (fun i => if f i < 12 then f i else 12 + i) ⟨fun i hi => by
        by_cases h : f i < 12
        · simp only [if_pos h]; omega
        · simp only [if_neg h]; omega, fun i j hi hj e => by
        by_cases h : f i < 12 <;> by_cases h' : f j < 12
        · simp only [if_pos h, if_pos h'] at e
          exact hf.2 i j hi hj e (by omega)
        · simp only [if_pos h, if_neg h'] at e
          omega
        · simp only [if_neg h, if_pos h'] at e
          omega
        · simp only [if_neg h, if_neg h'] at e
          omega⟩
    have h2 : hu_sum (fun i => pl_tab cost al i (m i)) n = pl_tot n cost (fun i => if m i < 12 then m i else 12) := hu_sum_congr (fun i hi => by
      by_cases h : m i < 12
      · simp only [pl_tab, if_pos h, if_pos (hal i hi h)]
      · simp only [pl_tab, if_neg h])
    have h3 : hu_sum (fun i => pl_tab cost al i (if f i < 12 then f i else 12 + i)) n = pl_tot n cost f := hu_sum_congr (fun i hi => by
      have hb := (hf.1 i hi).1
      by_cases h : f i < 12
      · have ha := (hf.1 i hi).2 (by omega)
        simp only [pl_tab, if_pos h, if_pos ha]
      · have e : f i = 12 := by omega
        show pl_tab cost al i (if f i < 12 then f i else 12 + i) = pl_pr cost i (f i)
        rw [if_neg h, e]
        simp only [pl_tab, if_neg (show ¬ 12 + i < 12 by omega)])
    rw [h2, h3] at h1
    exact h1
end
