/-! PURE: plans and their prices. Groups are 0 .. n-1 (n at most 8), places 0 .. 11, and 12 stands for none. -/
def pl_W : Int := 8000001
def pl_P : Int := 815730721
/-- the price of group i at place f (12: none), with the plan's digit -/
def pl_pr (cost : Nat → Nat → Int) (i f : Nat) : Int := (if f = 12 then pl_W else cost i f) * pl_P + (f : Int) * (13 : Int) ^ (7 - i)
/-- a plan: places that are allowed, each for one group at most -/
def pl_ok (n : Nat) (al : Nat → Nat → Prop) (f : Nat → Nat) : Prop := (∀ i, i < n → f i ≤ 12 ∧ (f i ≠ 12 → al i (f i))) ∧ ∀ i j, i < n → j < n → f i = f j → f i ≠ 12 → i = j
def pl_tot (n : Nat) (cost : Nat → Nat → Int) (f : Nat → Nat) : Int := hu_sum (fun i => pl_pr cost i (f i)) n
/-- the digits of a plan, read as a number -/
def pl_num (f : Nat → Nat) : Nat → Int
  | 0 => 0
  | n + 1 => 13 * pl_num f n + (f n : Int)
theorem pl_pow {i : Nat} (h : i < 8) : (13 : Int) ^ (8 - i) = 13 * (13 : Int) ^ (7 - i) := by
  have e : 8 - i = (7 - i) + 1 := by omega
  rw [e, Int.pow_succ, Int.mul_comm]
theorem pl_dig (f : Nat → Nat) : ∀ n, n ≤ 8 → hu_sum (fun i => (f i : Int) * (13 : Int) ^ (7 - i)) n = pl_num f n * (13 : Int) ^ (8 - n) := by
  intro n
  induction n with
  | zero => intro _; simp [hu_sum, pl_num]
  | succ n ih =>
    intro h
    simp only [hu_sum, pl_num]
    have e : 8 - (n + 1) = 7 - n := by omega
    rw [ih (by omega), pl_pow (by omega), e, Int.add_mul, Int.mul_comm 13 (pl_num f n), Int.mul_assoc]
theorem pl_num_in (f : Nat → Nat) : ∀ n, (∀ i, i < n → f i ≤ 12) → 0 ≤ pl_num f n ∧ pl_num f n < (13 : Int) ^ n := by
  intro n
  induction n with
  | zero => intro _; simp [pl_num]
  | succ n ih =>
    intro h
    obtain ⟨h1, h2⟩ := ih (fun i hi => h i (by omega))
    have h3 := h n (by omega)
    simp only [pl_num]
    rw [Int.pow_succ]
    generalize (13 : Int) ^ n = w at h2 ⊢
    omega
theorem pl_num_inj (f g : Nat → Nat) : ∀ n, (∀ i, i < n → f i ≤ 12) → (∀ i, i < n → g i ≤ 12) → pl_num f n = pl_num g n → ∀ i, i < n → f i = g i := by
  intro n
  induction n with
  | zero => intro _ _ _ i hi; omega
  | succ n ih =>
    intro hf hg e i hi
    simp only [pl_num] at e
    have h1 := hf n (by omega)
    have h2 := hg n (by omega)
    have e1 : pl_num f n = pl_num g n := by omega
    rcases Nat.lt_or_ge i n with q | q
    · exact ih (fun i hi => hf i (by omega)) (fun i hi => hg i (by omega)) e1 i q
    · have : i = n := by omega
      subst this
      omega
/-- the costs alone, none as dear as pl_W -/
def pl_key (n : Nat) (cost : Nat → Nat → Int) (f : Nat → Nat) : Int := hu_sum (fun i => if f i = 12 then pl_W else cost i (f i)) n
theorem hu_sum_mul (f : Nat → Int) (k : Int) (n : Nat) : hu_sum (fun i => f i * k) n = hu_sum f n * k := by
  induction n with
  | zero => simp [hu_sum]
  | succ n ih => simp only [hu_sum]; rw [ih, Int.add_mul]
theorem pl_split (n : Nat) (hn : n ≤ 8) (cost : Nat → Nat → Int) (f : Nat → Nat) : pl_tot n cost f = pl_key n cost f * pl_P + pl_num f n * (13 : Int) ^ (8 - n) := by
  unfold pl_tot pl_key pl_pr
  rw [hu_sum_add, hu_sum_mul, pl_dig f n hn]
theorem pl_low {n : Nat} (hn : n ≤ 8) {f : Nat → Nat} (h : ∀ i, i < n → f i ≤ 12) : 0 ≤ pl_num f n * (13 : Int) ^ (8 - n) ∧ pl_num f n * (13 : Int) ^ (8 - n) < pl_P := by
  obtain ⟨h1, h2⟩ := pl_num_in f n h
  have hp : (0 : Int) < (13 : Int) ^ (8 - n) := Int.pow_pos (by decide)
  refine ⟨Int.mul_nonneg h1 (Int.le_of_lt hp), ?_⟩
  have h3 := Int.mul_lt_mul_of_pos_right h2 hp
  rw [← Int.pow_add, show n + (8 - n) = 8 by omega] at h3
  have h4 : (13 : Int) ^ 8 = pl_P := by decide
  rw [h4] at h3
  exact h3
/-- two plans of one price are one -/
theorem pl_uniq {n : Nat} (hn : n ≤ 8) {cost : Nat → Nat → Int} {f g : Nat → Nat} (hf : ∀ i, i < n → f i ≤ 12) (hg : ∀ i, i < n → g i ≤ 12) (e : pl_tot n cost f = pl_tot n cost g) : ∀ i, i < n → f i = g i := by
  rw [pl_split n hn, pl_split n hn] at e
  have h1 := pl_low hn hf
  have h2 := pl_low hn hg
  have hp : (0 : Int) < (13 : Int) ^ (8 - n) := Int.pow_pos (by decide)
  have e2 : pl_num f n * (13 : Int) ^ (8 - n) = pl_num g n * (13 : Int) ^ (8 - n) := by
    unfold pl_P at *
    generalize pl_num f n * (13 : Int) ^ (8 - n) = a at *
    generalize pl_num g n * (13 : Int) ^ (8 - n) = b at *
    omega
  exact pl_num_inj f g n hf hg (Int.eq_of_mul_eq_mul_right (Int.ne_of_gt hp) e2)
/-- the table: row i, columns 0 .. 11 the places, 12 .. 19 for none -/
def pl_tab (cost : Nat → Nat → Int) (al : Nat → Nat → Prop) [∀ i c, Decidable (al i c)] (i c : Nat) : Int := if c < 12 then (if al i c then pl_pr cost i c else (pl_W + 1) * pl_P) else pl_pr cost i 12
theorem hu_sum_upd (f g : Nat → Int) (k : Nat) : ∀ n, k < n → (∀ i, i < n → i ≠ k → f i = g i) → hu_sum f n - f k = hu_sum g n - g k := by
  intro n
  induction n with
  | zero => intro h; omega
  | succ n ih =>
    intro hk h
    simp only [hu_sum]
    by_cases e : k = n
    · subst e
      rw [hu_sum_congr (f := f) (g := g) (fun i hi => h i (by omega) (by omega))]
      omega
    · have h1 := ih (by omega) (fun i hi hn => h i (by omega) hn)
      have h2 := h n (by omega) (by omega)
      omega
/-- a cheapest choice of columns is a plan, and a cheapest one -/
theorem pl_best {n : Nat} (hn : n ≤ 8) {cost : Nat → Nat → Int} {al : Nat → Nat → Prop} [∀ i c, Decidable (al i c)] {m : Nat → Nat} (hm : hu_inj m n 20)
    (hmin : ∀ s, hu_inj s n 20 → hu_sum (fun i => pl_tab cost al i (m i)) n ≤ hu_sum (fun i => pl_tab cost al i (s i)) n) :
    pl_ok n al (fun i => if m i < 12 then m i else 12) ∧ ∀ f, pl_ok n al f → pl_tot n cost (fun i => if m i < 12 then m i else 12) ≤ pl_tot n cost f := by
  have hal : ∀ i, i < n → m i < 12 → al i (m i) := by
    intro i hi h12
    by_cases h : al i (m i)
    · exact h
    · exfalso
      have hex : ∃ c, 12 ≤ c ∧ c < 20 ∧ ∀ j, j < n → m j ≠ c := by
        by_cases q : ∃ c, 12 ≤ c ∧ c < 20 ∧ ∀ j, j < n → m j ≠ c
        · exact q
        · exfalso
          have hall : ∀ c, 12 ≤ c → c < 20 → ∃ j, j < n ∧ m j = c := by
            intro c c1 c2
            by_cases z : ∃ j, j < n ∧ m j = c
            · exact z
            · exact absurd ⟨c, c1, c2, fun j hj e => z ⟨j, hj, e⟩⟩ q
          have hpick : ∃ w : Nat → Nat, ∀ c, 12 ≤ c → c < 20 → w c < n ∧ m (w c) = c :=
            ⟨fun c => if h : 12 ≤ c ∧ c < 20 then (hall c h.1 h.2).choose else 0, fun c c1 c2 => by
              simp only [dif_pos (And.intro c1 c2)]
              exact (hall c c1 c2).choose_spec⟩
          obtain ⟨w, hw⟩ := hpick
          have := hu_pigeon n 9 (fun t => if t = 0 then i else w (11 + t)) ⟨fun t ht => by
              by_cases z : t = 0
              · simp only [if_pos z]; exact hi
              · simp only [if_neg z]; exact (hw (11 + t) (by omega) (by omega)).1, fun t t' ht ht' e => by
              by_cases z : t = 0 <;> by_cases z' : t' = 0
              · omega
              · simp only [if_pos z, if_neg z'] at e
                have := (hw (11 + t') (by omega) (by omega)).2
                rw [← e] at this
                omega
              · simp only [if_neg z, if_pos z'] at e
                have := (hw (11 + t) (by omega) (by omega)).2
                rw [e] at this
                omega
              · simp only [if_neg z, if_neg z'] at e
                have h1 := (hw (11 + t) (by omega) (by omega)).2
                have h2 := (hw (11 + t') (by omega) (by omega)).2
                rw [e] at h1
                omega⟩
          omega
      obtain ⟨c, c1, c2, hc⟩ := hex
      have h1 := hmin (fun j => if j = i then c else m j) ⟨fun j hj => by
          by_cases z : j = i
          · simp only [if_pos z]; exact c2
          · simp only [if_neg z]; exact hm.1 j hj, fun j j' hj hj' e => by
          by_cases z : j = i <;> by_cases z' : j' = i
          · omega
          · simp only [if_pos z, if_neg z'] at e
            exact absurd e.symm (hc j' hj')
          · simp only [if_neg z, if_pos z'] at e
            exact absurd e (hc j hj)
          · simp only [if_neg z, if_neg z'] at e
            exact hm.2 j j' hj hj' e⟩
      have h2 := hu_sum_upd (fun j => pl_tab cost al j (m j)) (fun j => pl_tab cost al j (if j = i then c else m j)) i n hi (fun j _ hne => by simp only [if_neg hne])
      have h3 : pl_tab cost al i (m i) = (pl_W + 1) * pl_P := by simp only [pl_tab, if_pos h12, if_neg h]
      have h2 : hu_sum (fun j => pl_tab cost al j (m j)) n - pl_tab cost al i (m i) = hu_sum (fun j => pl_tab cost al j (if j = i then c else m j)) n - pl_tab cost al i (if i = i then c else m i) := h2
      have h1 : hu_sum (fun j => pl_tab cost al j (m j)) n ≤ hu_sum (fun j => pl_tab cost al j (if j = i then c else m j)) n := h1
      rw [if_pos rfl] at h2
      have h4 : pl_tab cost al i c = pl_pr cost i 12 := by
        simp only [pl_tab, if_neg (show ¬ c < 12 by omega)]
      have h5 : pl_pr cost i 12 < (pl_W + 1) * pl_P := by
        have h6 : (13 : Int) ^ (7 - i) ≤ 62748517 := (show ∀ j, j < 8 → (13 : Int) ^ (7 - j) ≤ 62748517 by decide) i (by omega)
        simp only [pl_pr, if_true, pl_W, pl_P]
        omega
      rw [h3, h4] at h2
      omega
  refine ⟨⟨fun i hi => ?_, fun i j hi hj e hne => ?_⟩, fun f hf => ?_⟩
  · by_cases h : m i < 12
    · simp only [if_pos h]; exact ⟨by omega, fun _ => hal i hi h⟩
    · simp only [if_neg h]; exact ⟨Nat.le_refl 12, fun z => absurd rfl z⟩
  · have e : (if m i < 12 then m i else 12) = (if m j < 12 then m j else 12) := e
    have hne : (if m i < 12 then m i else 12) ≠ 12 := hne
    by_cases h : m i < 12
    · by_cases h' : m j < 12
      · rw [if_pos h, if_pos h'] at e
        exact hm.2 i j hi hj e
      · rw [if_pos h, if_neg h'] at e
        omega
    · rw [if_neg h] at hne
      exact absurd rfl hne
  · have h1 := hmin (fun i => if f i < 12 then f i else 12 + i) ⟨fun i hi => by
        by_cases h : f i < 12
        · simp only [if_pos h]; omega
        · simp only [if_neg h]; omega, fun i j hi hj e => by
        by_cases h : f i < 12 <;> by_cases h' : f j < 12
        · simp only [if_pos h, if_pos h'] at e
          exact hf.2 i j hi hj e (by omega)
        · simp only [if_pos h, if_neg h'] at e
          omega
        · simp only [if_neg h, if_pos h'] at e
          omega
        · simp only [if_neg h, if_neg h'] at e
          omega⟩
    have h2 : hu_sum (fun i => pl_tab cost al i (m i)) n = pl_tot n cost (fun i => if m i < 12 then m i else 12) := hu_sum_congr (fun i hi => by
      by_cases h : m i < 12
      · simp only [pl_tab, if_pos h, if_pos (hal i hi h)]
      · simp only [pl_tab, if_neg h])
    have h3 : hu_sum (fun i => pl_tab cost al i (if f i < 12 then f i else 12 + i)) n = pl_tot n cost f := hu_sum_congr (fun i hi => by
      have hb := (hf.1 i hi).1
      by_cases h : f i < 12
      · have ha := (hf.1 i hi).2 (by omega)
        simp only [pl_tab, if_pos h, if_pos ha]
      · have e : f i = 12 := by omega
        show pl_tab cost al i (if f i < 12 then f i else 12 + i) = pl_pr cost i (f i)
        rw [if_neg h, e]
        simp only [pl_tab, if_neg (show ¬ 12 + i < 12 by omega)])
    rw [h2, h3] at h1
    exact h1
