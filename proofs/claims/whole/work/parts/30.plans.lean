/-! FROM THE PRICES ON THE MACHINE TO PLANS: groups by their places in the row of groups. -/
def fa_cN (S : Nat → Nat → Int32) : Nat → Nat
  | 0 => 0
  | u + 1 => if fa_gr S u = true then fa_cN S u + 1 else fa_cN S u
/-- the unit whose number is that of the group at place r -/
def fa_le (S : Nat → Nat → Int32) : Nat → Nat → Nat
  | 0, _ => 0
  | n + 1, r => if fa_gr S n = true ∧ fa_cN S n = r then n else fa_le S n r
theorem fa_cN_le (S : Nat → Nat → Int32) : ∀ n, fa_cN S n ≤ n
  | 0 => Nat.le_refl 0
  | n + 1 => by
    have := fa_cN_le S n
    simp only [fa_cN]
    split <;> omega
theorem fa_cN_mono (S : Nat → Nat → Int32) (u : Nat) : ∀ n, u ≤ n → fa_cN S u ≤ fa_cN S n
  | 0, h => by have : u = 0 := by omega
               subst this; exact Nat.le_refl _
  | n + 1, h => by
    rcases Nat.lt_or_ge u (n + 1) with q | q
    · have := fa_cN_mono S u n (by omega)
      simp only [fa_cN]
      split <;> omega
    · have : u = n + 1 := by omega
      subst this; exact Nat.le_refl _
theorem fa_cN_lt {S : Nat → Nat → Int32} {u n : Nat} (h : u < n) (hg : fa_gr S u = true) : fa_cN S u < fa_cN S n := by
  have := fa_cN_mono S (u + 1) n (by omega)
  simp only [fa_cN, if_pos hg] at this
  omega
theorem fa_cnt_cN (S : Nat → Nat → Int32) : ∀ n, fa_cnt S n = nI (fa_cN S n)
  | 0 => rfl
  | n + 1 => by
    simp only [fa_cnt, fa_cN]
    rw [fa_cnt_cN S n]
    split
    · exact nI_1 _
    · rfl
theorem fa_le_at {S : Nat → Nat → Int32} {u : Nat} (hg : fa_gr S u = true) : ∀ n, u < n → fa_le S n (fa_cN S u) = u
  | 0, h => by omega
  | n + 1, h => by
    simp only [fa_le]
    by_cases e : u = n
    · subst e; rw [if_pos ⟨hg, rfl⟩]
    · rw [if_neg (fun q => by have := fa_cN_lt (n := n) (by omega) hg; omega)]
      exact fa_le_at hg n (by omega)
theorem fa_le_in {S : Nat → Nat → Int32} {r : Nat} : ∀ n, r < fa_cN S n → fa_le S n r < n ∧ fa_gr S (fa_le S n r) = true ∧ fa_cN S (fa_le S n r) = r
  | 0, h => by simp only [fa_cN] at h; omega
  | n + 1, h => by
    simp only [fa_le]
    by_cases q : fa_gr S n = true ∧ fa_cN S n = r
    · rw [if_pos q]; exact ⟨by omega, q.1, q.2⟩
    · rw [if_neg q]
      have h2 : r < fa_cN S n := by
        simp only [fa_cN] at h
        by_cases g : fa_gr S n = true
        · rw [if_pos g] at h
          have : fa_cN S n ≠ r := fun e => q ⟨g, e⟩
          omega
        · rw [if_neg g] at h; exact h
      obtain ⟨a, b, c⟩ := fa_le_in n h2
      exact ⟨by omega, b, c⟩
/-- what a group costs at a place, and whether rules allow it there -/
def fa_cost (S : Nat → Nat → Int32) (nU : Nat) (r p : Nat) : Int := (fa_co S (fa_ga S (nI (fa_le S nU r)) nU) (fa_le S nU r) p).toInt
abbrev fa_al (S : Nat → Nat → Int32) (nU nP : Nat) (r p : Nat) : Prop := p < nP ∧ fa_br (fa_ga S (nI (fa_le S nU r)) nU) (S (300 + p)) (nI p) = 0
/-- the row's prices after the places below n were offered -/
def bp_of (S : Nat → Nat → Int32) (g : Nat → Int32) (gn : Nat) (f : Nat → Int64) (dw : Int64) (n : Nat) : Nat → Int64 := fun c =>
  if 1 ≤ c ∧ c ≤ n ∧ fa_br g (S (300 + (c - 1))) (nI (c - 1)) = 0 then (fa_co S g gn (c - 1)).toInt64 * 815730721 + (nI (c - 1)).toInt64 * dw else f c
theorem bp_of_0 {S : Nat → Nat → Int32} {g : Nat → Int32} {gn : Nat} {f : Nat → Int64} {dw : Int64} : bp_of S g gn f dw 0 = f := by
  funext c
  simp only [bp_of]
  rw [if_neg (by omega)]
theorem bp_ofY {S : Nat → Nat → Int32} {g : Nat → Int32} {gn n : Nat} {f : Nat → Int64} {dw : Int64} (h : fa_br g (S (300 + n)) (nI n) = 0) : vp_updL (bp_of S g gn f dw n) (n + 1) ((fa_co S g gn n).toInt64 * 815730721 + (nI n).toInt64 * dw) = bp_of S g gn f dw (n + 1) := by
  funext c
  by_cases e : c = n + 1
  · subst e
    rw [pk_uLs]
    simp only [bp_of]
    rw [if_pos (by refine ⟨by omega, by omega, ?_⟩; exact h)]
    rfl
  · rw [pk_uLn e]
    simp only [bp_of]
    by_cases q : 1 ≤ c ∧ c ≤ n ∧ fa_br g (S (300 + (c - 1))) (nI (c - 1)) = 0
    · rw [if_pos q, if_pos ⟨q.1, by omega, q.2.2⟩]
    · rw [if_neg q, if_neg (fun z => q ⟨z.1, by omega, z.2.2⟩)]
theorem bp_ofN {S : Nat → Nat → Int32} {g : Nat → Int32} {gn n : Nat} {f : Nat → Int64} {dw : Int64} (h : ¬ fa_br g (S (300 + n)) (nI n) = 0) : bp_of S g gn f dw n = bp_of S g gn f dw (n + 1) := by
  funext c
  simp only [bp_of]
  by_cases e : c = n + 1
  · subst e
    rw [if_neg (by omega), if_neg (fun z => h z.2.2)]
  · by_cases q : 1 ≤ c ∧ c ≤ n ∧ fa_br g (S (300 + (c - 1))) (nI (c - 1)) = 0
    · rw [if_pos q, if_pos ⟨q.1, by omega, q.2.2⟩]
    · rw [if_neg q, if_neg (fun z => q ⟨z.1, by omega, z.2.2⟩)]
theorem l_mul {x y : Int64} (h1 : -9223372036854775808 ≤ x.toInt * y.toInt) (h2 : x.toInt * y.toInt < 9223372036854775808) : (x * y).toInt = x.toInt * y.toInt := by
  rw [Int64.toInt_mul]
  exact Int.bmod_eq_of_le (by omega) (by omega)
theorem dw_step : ∀ r, r < 8 → lN (13 ^ (8 - r)) / 13 = lN (13 ^ (7 - r)) := by decide +kernel
theorem dw_int : ∀ r, r < 8 → (lN (13 ^ (7 - r))).toInt = (13 : Int) ^ (7 - r) := by decide +kernel
theorem dw_max : ∀ r, r < 8 → (1 : Int) ≤ (13 : Int) ^ (7 - r) ∧ (13 : Int) ^ (7 - r) ≤ 62748517 := by decide +kernel
/-- the row's prices are the table's -/
theorem bp_tab {S : Nat → Nat → Int32} {nU nP r : Nat} {f : Nat → Int64} (hr : r < 8) (hP : nP ≤ 12) (hC : ∀ p, fa_al S nU nP r p → 0 ≤ fa_cost S nU r p ∧ fa_cost S nU r p ≤ 1000000) {c : Nat} (c1 : 1 ≤ c) (cN : c ≤ 20) :
    (bp_of S (fa_ga S (nI (fa_le S nU r)) nU) (fa_le S nU r) (bp_ag f (lN (13 ^ (7 - r))) 21) (lN (13 ^ (7 - r))) nP c).toInt = pl_tab (fa_cost S nU) (fa_al S nU nP) r (c - 1) := by
  have hd := dw_int r hr
  have hm := dw_max r hr
  simp only [bp_of, pl_tab]
  by_cases q : 1 ≤ c ∧ c ≤ nP ∧ fa_br (fa_ga S (nI (fa_le S nU r)) nU) (S (300 + (c - 1))) (nI (c - 1)) = 0
  · have hal : fa_al S nU nP r (c - 1) := ⟨by omega, q.2.2⟩
    rw [if_pos q, if_pos (show c - 1 < 12 by omega), if_pos hal]
    have hc := hC _ hal
    have e1 : (fa_co S (fa_ga S (nI (fa_le S nU r)) nU) (fa_le S nU r) (c - 1)).toInt64.toInt = fa_cost S nU r (c - 1) := by rw [Int32.toInt_toInt64]; rfl
    have e2 : (nI (c - 1)).toInt64.toInt = ((c - 1 : Nat) : Int) := by rw [Int32.toInt_toInt64, nI_toInt (by omega)]
    have e3 : (815730721 : Int64).toInt = 815730721 := by decide
    have m1 : ((c - 1 : Nat) : Int) * (13 : Int) ^ (7 - r) ≤ 12 * 62748517 := Int.mul_le_mul (by omega) hm.2 (by omega) (by decide)
    have m0 : 0 ≤ ((c - 1 : Nat) : Int) * (13 : Int) ^ (7 - r) := Int.mul_nonneg (by omega) (by omega)
    have h1 : ((fa_co S (fa_ga S (nI (fa_le S nU r)) nU) (fa_le S nU r) (c - 1)).toInt64 * 815730721).toInt = fa_cost S nU r (c - 1) * 815730721 := by
      rw [l_mul (by rw [e1, e3]; omega) (by rw [e1, e3]; omega), e1, e3]
    have h2 : ((nI (c - 1)).toInt64 * lN (13 ^ (7 - r))).toInt = ((c - 1 : Nat) : Int) * (13 : Int) ^ (7 - r) := by
      rw [l_mul (by rw [e2, hd]; omega) (by rw [e2, hd]; omega), e2, hd]
    rw [l_add (by rw [h1, h2]; omega) (by rw [h1, h2]; omega), h1, h2]
    simp only [pl_pr, pl_P]
    rw [if_neg (show ¬ c - 1 = 12 by omega)]
  · rw [if_neg q]
    simp only [bp_ag]
    rw [if_pos (show 1 ≤ c ∧ c < 21 from ⟨c1, by omega⟩)]
    by_cases h12 : c ≤ 12
    · rw [if_pos h12, if_pos (show c - 1 < 12 by omega), if_neg (show ¬ fa_al S nU nP r (c - 1) from fun z => q ⟨c1, by have := z.1; omega, z.2⟩)]
      decide
    · rw [if_neg h12, if_neg (show ¬ c - 1 < 12 by omega)]
      have e3 : (12 : Int64).toInt = 12 := by decide
      have e4 : (6525846583730721 : Int64).toInt = 6525846583730721 := by decide
      have h2 : ((12 : Int64) * lN (13 ^ (7 - r))).toInt = 12 * (13 : Int) ^ (7 - r) := by
        rw [l_mul (by rw [e3, hd]; omega) (by rw [e3, hd]; omega), e3, hd]
      rw [l_add (by rw [h2, e4]; omega) (by rw [h2, e4]; omega), h2, e4]
      simp only [pl_pr, pl_P, pl_W, if_true]
      omega
theorem pl_tab_in {S : Nat → Nat → Int32} {nU nP n : Nat} (hn : n ≤ 8) (hC : ∀ r p, r < n → fa_al S nU nP r p → 0 ≤ fa_cost S nU r p ∧ fa_cost S nU r p ≤ 1000000) : ∀ i c, 1 ≤ i → i ≤ n → 1 ≤ c → c ≤ 20 → 0 ≤ pl_tab (fa_cost S nU) (fa_al S nU nP) (i - 1) (c - 1) ∧ pl_tab (fa_cost S nU) (fa_al S nU nP) (i - 1) (c - 1) ≤ 6525847399461442 := by
  intro i c i1 iN c1 cN
  have hm := dw_max (i - 1) (by omega)
  simp only [pl_tab]
  by_cases h12 : c - 1 < 12
  · rw [if_pos h12]
    by_cases h : fa_al S nU nP (i - 1) (c - 1)
    · rw [if_pos h]
      have hc := hC _ _ (by omega) h
      have m1 : ((c - 1 : Nat) : Int) * (13 : Int) ^ (7 - (i - 1)) ≤ 12 * 62748517 := Int.mul_le_mul (by omega) hm.2 (by omega) (by decide)
      have m0 : 0 ≤ ((c - 1 : Nat) : Int) * (13 : Int) ^ (7 - (i - 1)) := Int.mul_nonneg (by omega) (by omega)
      simp only [pl_pr, pl_P]
      rw [if_neg (show ¬ c - 1 = 12 by omega)]
      omega
    · rw [if_neg h]; decide
  · rw [if_neg h12]
    simp only [pl_pr, pl_P, pl_W, if_true]
    omega
/-- a number of a plan as the class writes it -/
def pl_i (x : Nat) : Int32 := if x = 12 then -1 else nI x
/-- the plan at the least price -/
def pl_min (n : Nat) (cost : Nat → Nat → Int) (al : Nat → Nat → Prop) (f : Nat → Nat) : Prop := pl_ok n al f ∧ ∀ g, pl_ok n al g → pl_tot n cost f ≤ pl_tot n cost g
/-- from the rows' columns to the plan -/
theorem bp_plan {n : Nat} {cost : Nat → Nat → Int} {al : Nat → Nat → Prop} [∀ i c, Decidable (al i c)] {u v : Nat → Int} {q : Nat → Nat} (hn : n ≤ 8) (hG : hu_G 20 n (fun i c => pl_tab cost al (i - 1) (c - 1)) u v q) :
    ∃ f, pl_min n cost al f ∧ (∀ i, i < n → f i < 12 → q (f i + 1) = i + 1) ∧ (∀ i, i < n → ¬ f i < 12 → f i = 12 ∧ ∀ c, 1 ≤ c → c ≤ 12 → q c ≠ i + 1) := by
  have hpick : ∃ m : Nat → Nat, ∀ i, i < n → m i < 20 ∧ q (m i + 1) = i + 1 := by
    refine ⟨fun i => if h : i < n then (hG.2.2.1 (i + 1) (by omega) (by omega)).choose - 1 else 0, fun i hi => ?_⟩
    simp only [dif_pos hi]
    obtain ⟨c1, cN, e⟩ := (hG.2.2.1 (i + 1) (by omega) (by omega)).choose_spec
    refine ⟨by omega, ?_⟩
    rw [Nat.sub_add_cancel c1]; exact e
  obtain ⟨m, hm⟩ := hpick
  have hmi : hu_inj m n 20 := ⟨fun i hi => (hm i hi).1, fun i j hi hj e => by
    have h1 := (hm i hi).2
    have h2 := (hm j hj).2
    rw [e] at h1
    omega⟩
  have hb := pl_best (cost := cost) (al := al) hn hmi (fun s hs => hu_G_best hG (m := m) (s := s) hm hs)
  refine ⟨fun i => if m i < 12 then m i else 12, hb, fun i hi h => ?_, fun i hi h => ?_⟩
  · have h : (if m i < 12 then m i else 12) < 12 := h
    show q ((if m i < 12 then m i else 12) + 1) = i + 1
    by_cases z : m i < 12
    · rw [if_pos z]; exact (hm i hi).2
    · rw [if_neg z] at h; omega
  · have h : ¬ (if m i < 12 then m i else 12) < 12 := h
    by_cases z : m i < 12
    · rw [if_pos z] at h; exact absurd z h
    · refine ⟨if_neg z, fun c c1 c12 e => ?_⟩
      have h2 := hm i hi
      have := hG.2.1 c (m i + 1) c1 (by omega) (by omega) (by omega) (by rw [e, h2.2]) (by omega)
      omega
theorem bp_pg_spec {S : Nat → Nat → Int32} {r : Int32} : ∀ k c, (∀ d, c ≤ d → d < c + k → S 10 d ≠ r) → bp_pg S r k c = -1
  | 0, _, _ => rfl
  | k + 1, c, h => by
    simp only [bp_pg]
    rw [if_neg (h c (Nat.le_refl c) (by omega))]
    exact bp_pg_spec k (c + 1) (fun d h1 h2 => h d (by omega) (by omega))
theorem bp_pg_at {S : Nat → Nat → Int32} {r : Int32} {d : Nat} (hd : S 10 d = r) : ∀ k c, c ≤ d → d < c + k → (∀ e, c ≤ e → e < d → S 10 e ≠ r) → bp_pg S r k c = nI d - 1
  | 0, c, h1, h2, _ => by omega
  | k + 1, c, h1, h2, h => by
    simp only [bp_pg]
    by_cases e : c = d
    · subst e; rw [if_pos hd]
    · rw [if_neg (h c (Nat.le_refl c) (by omega))]
      exact bp_pg_at hd k (c + 1) (by omega) (by omega) (fun e h1 h2 => h e (by omega) h2)
/-- placeGiven gives the plan -/
theorem bp_given {n : Nat} {cost : Nat → Nat → Int} {al : Nat → Nat → Prop} [∀ i c, Decidable (al i c)] {u v : Nat → Int} {q : Nat → Nat} {S : Nat → Nat → Int32} {f : Nat → Nat} (hn : n ≤ 8) (hG : hu_G 20 n (fun i c => pl_tab cost al (i - 1) (c - 1)) u v q) (hq : ∀ c, c ≤ 20 → S 10 c = nI (q c) ∧ q c ≤ 8)
    (h1 : ∀ i, i < n → f i < 12 → q (f i + 1) = i + 1) (h2 : ∀ i, i < n → ¬ f i < 12 → f i = 12 ∧ ∀ c, 1 ≤ c → c ≤ 12 → q c ≠ i + 1) {i : Nat} (hi : i < n) : bp_pg S (nI (i + 1)) 12 1 = pl_i (f i) := by
  by_cases h : f i < 12
  · have e := h1 i hi h
    unfold pl_i
    rw [if_neg (by omega), bp_pg_at (d := f i + 1) (by rw [(hq _ (by omega)).1, e]) 12 1 (by omega) (by omega) (fun c c1 c2 x => by
      have hqc := hq c (by omega)
      rw [hqc.1, nI_eq (by omega) (by omega)] at x
      have := hG.2.1 c (f i + 1) c1 (by omega) (by omega) (by omega) (by rw [x, e]) (by omega)
      omega)]
    exact nI_pred _
  · obtain ⟨e, hc⟩ := h2 i hi h
    unfold pl_i
    rw [if_pos e]
    exact bp_pg_spec 12 1 (fun d d1 d2 x => by
      have hqc := hq d (by omega)
      rw [hqc.1, nI_eq (by omega) (by omega)] at x
      exact hc d d1 (by omega) x)
/-- the sum of a draft -/
def fa_sm (S : Nat → Nat → Int32) (nU : Nat) (d : Nat → Int32) : Nat → Int32
  | 0 => 0
  | u + 1 => if fa_gr S u = true ∧ ¬ d u = -1 then fa_sm S nU d u + fa_co S (fa_ga S (nI u) nU) u (d u).toNatClampNeg else fa_sm S nU d u
