/-! THE MODEL'S LOOPS AS THE CLASS'S FUNCTIONS. -/
theorem fa_br_in (g q : Nat → Int32) (p : Int32) : ∃ j, j ≤ 5 ∧ fa_br g q p = nI j := by
  unfold fa_br
  split
  · exact ⟨1, by omega, rfl⟩
  · split
    · exact ⟨2, by omega, rfl⟩
    · split
      · exact ⟨3, by omega, rfl⟩
      · split
        · exact ⟨4, by omega, rfl⟩
        · split
          · exact ⟨5, by omega, rfl⟩
          · exact ⟨0, by omega, rfl⟩
def b5_br (a b c d e : Bool) : Nat := if a = false then 1 else if b = false then 2 else if c = false then 3 else if d = false then 4 else if e = false then 5 else 0
def b5_kp (a b c d e : Bool) (r : Nat) : Bool := if r = 1 then a else if r = 2 then b else if r = 3 then c else if r = 4 then d else e
def b5_ka (a b c d e : Bool) : Nat → Bool
  | 0 => true
  | r + 1 => b5_ka a b c d e r && b5_kp a b c d e (r + 1)
theorem b5_all : ∀ a b c d e : Bool, ∀ t, t < 6 → b5_ka a b c d e t = decide (b5_br a b c d e = 0 ∨ t < b5_br a b c d e) := by decide +kernel
theorem b5_le : ∀ a b c d e : Bool, b5_br a b c d e ≤ 5 := by decide +kernel
theorem br_gen (A B C D E F : Prop) [Decidable A] [Decidable B] [Decidable C] [Decidable D] [Decidable E] [Decidable F] : (if ¬ A then (1 : Int32) else if ¬ B then 2 else if ¬ C then 3 else if ¬ D then 4 else if ¬ E ∧ ¬ F then 5 else 0) = nI (b5_br (decide A) (decide B) (decide C) (decide D) (decide (E ∨ F))) := by
  by_cases hA : A <;> by_cases hB : B <;> by_cases hC : C <;> by_cases hD : D <;> by_cases hE : E <;> by_cases hF : F <;> simp [b5_br, hA, hB, hC, hD, hE, hF] <;> rfl
theorem fa_br_5 (g q : Nat → Int32) (p : Int32) : fa_br g q p = nI (b5_br (decide (q 4 = 0)) (decide (g 4 &&& (q 0 ^^^ (-1)) = 0)) (decide ((g 5 >>> (p &&& 31)) &&& 1 = 0)) (decide (g 2 ≤ q 3)) (decide (g 6 = -1 ∨ g 6 = p))) := br_gen _ _ _ _ _ _
theorem fa_ka_5b (g q : Nat → Int32) (p : Int32) : ∀ t, fa_ka g q p t = b5_ka (decide (q 4 = 0)) (decide (g 4 &&& (q 0 ^^^ (-1)) = 0)) (decide ((g 5 >>> (p &&& 31)) &&& 1 = 0)) (decide (g 2 ≤ q 3)) (decide (g 6 = -1 ∨ g 6 = p)) t
  | 0 => rfl
  | t + 1 => by
    simp only [fa_ka, b5_ka]
    rw [fa_ka_5b g q p t]
    rfl
theorem fa_ka_t (g q : Nat → Int32) (p : Int32) {t : Nat} (ht : t ≤ 5) : fa_ka g q p t = decide (fa_br g q p = 0 ∨ nI t < fa_br g q p) := by
  rw [fa_ka_5b, fa_br_5, b5_all _ _ _ _ _ t (by omega)]
  generalize hb : b5_br (decide (q 4 = 0)) (decide (g 4 &&& (q 0 ^^^ (-1)) = 0)) (decide ((g 5 >>> (p &&& 31)) &&& 1 = 0)) (decide (g 2 ≤ q 3)) (decide (g 6 = -1 ∨ g 6 = p)) = b
  have hb5 : b ≤ 5 := by rw [← hb]; exact b5_le _ _ _ _ _
  rw [decide_eq_decide, nI_ltI (by omega) (by omega), show (0 : Int32) = nI 0 from rfl, nI_eq (by omega) (by omega)]
/-- some place keeps the rules up to t -/
def fm_some (G : Nat → Nat → Int32) (g : Nat → Int32) (t : Nat) : Nat → Bool
  | 0 => false
  | p + 1 => fm_some G g t p || fa_ka g (G (300 + p)) (nI p) t
theorem fm_some_iff (G : Nat → Nat → Int32) (g : Nat → Int32) (t : Nat) : ∀ n, fm_some G g t n = true ↔ ∃ p, p < n ∧ fa_ka g (G (300 + p)) (nI p) t = true
  | 0 => by simp [fm_some]
  | n + 1 => by
    simp only [fm_some, Bool.or_eq_true, fm_some_iff G g t n]
    constructor
    · rintro (⟨p, h1, h2⟩ | h)
      · exact ⟨p, by omega, h2⟩
      · exact ⟨n, by omega, h⟩
    · rintro ⟨p, h1, h2⟩
      by_cases e : p = n
      · subst e; exact Or.inr h2
      · exact Or.inl ⟨p, by omega, h2⟩
theorem fa_ba_in {G : Nat → Nat → Int32} {g : Nat → Int32} : ∀ k p j, 1 ≤ j → j ≤ 5 → ∃ i, i ≤ 5 ∧ fa_ba G g k p (nI j) = nI i ∧ ∀ t, t ≤ 5 → ((i = 0 ∨ t < i) ↔ (t < j ∨ ∃ q, p ≤ q ∧ q < p + k ∧ (fa_br g (G (300 + q)) (nI q) = 0 ∨ nI t < fa_br g (G (300 + q)) (nI q))))
  | 0, p, j, h1, h5 => ⟨j, h5, rfl, fun t ht => by
      constructor
      · rintro (h | h)
        · omega
        · exact Or.inl h
      · rintro (h | ⟨q, a, b, c⟩)
        · exact Or.inr h
        · omega⟩
  | k + 1, p, j, h1, h5 => by
    obtain ⟨b, hb, eb⟩ := fa_br_in g (G (300 + p)) (nI p)
    simp only [fa_ba]
    by_cases z : fa_br g (G (300 + p)) (nI p) = 0
    · rw [if_pos z]
      exact ⟨0, by omega, rfl, fun t ht => ⟨fun _ => Or.inr ⟨p, Nat.le_refl p, by omega, Or.inl z⟩, fun _ => Or.inl rfl⟩⟩
    · rw [if_neg z]
      have hb0 : b ≠ 0 := fun e => z (by rw [eb, e]; rfl)
      have ex : (if nI j < fa_br g (G (300 + p)) (nI p) then fa_br g (G (300 + p)) (nI p) else nI j) = nI (if j < b then b else j) := by
        rw [eb]
        by_cases y : j < b
        · rw [if_pos (nI_lt y (by omega)), if_pos y]
        · rw [if_neg (nI_nlt (by omega) (by omega)), if_neg y]
      rw [ex]
      obtain ⟨i, hi, ei, hh⟩ := fa_ba_in (G := G) (g := g) k (p + 1) (if j < b then b else j) (by split <;> omega) (by split <;> omega)
      refine ⟨i, hi, ei, fun t ht => ?_⟩
      rw [hh t ht]
      constructor
      · rintro (h | ⟨q, a1, a2, a3⟩)
        · by_cases y : j < b
          · rw [if_pos y] at h
            exact Or.inr ⟨p, Nat.le_refl p, by omega, Or.inr (by rw [eb]; exact nI_lt h (by omega))⟩
          · rw [if_neg y] at h; exact Or.inl h
        · exact Or.inr ⟨q, by omega, by omega, a3⟩
      · rintro (h | ⟨q, a1, a2, a3⟩)
        · refine Or.inl ?_
          split <;> omega
        · by_cases e : q = p
          · subst e
            rcases a3 with a3 | a3
            · exact absurd a3 z
            · rw [eb, nI_ltI (by omega) (by omega)] at a3
              refine Or.inl ?_
              split <;> omega
          · exact Or.inr ⟨q, by omega, by omega, a3⟩
/-- the first rule that leaves no place -/
theorem fa_ba_some {G : Nat → Nat → Int32} {g : Nat → Int32} {n : Nat} : ∃ i, i ≤ 5 ∧ fa_ba G g n 0 1 = nI i ∧ ∀ t, 1 ≤ t → t ≤ 5 → (fm_some G g t n = true ↔ (i = 0 ∨ t < i)) := by
  obtain ⟨i, hi, ei, hh⟩ := fa_ba_in (G := G) (g := g) n 0 1 (by omega) (by omega)
  refine ⟨i, hi, ei, fun t h1 h5 => ?_⟩
  rw [hh t h5, fm_some_iff]
  constructor
  · rintro ⟨p, hp, h⟩
    rw [fa_ka_t _ _ _ h5, decide_eq_true_eq] at h
    exact Or.inr ⟨p, by omega, by omega, h⟩
  · rintro (h | ⟨q, a1, a2, a3⟩)
    · omega
    · exact ⟨q, by omega, by rw [fa_ka_t _ _ _ h5, decide_eq_true_eq]; exact a3⟩
/-- trips: the load matters only once a trip is begun -/
theorem fa_t1_ld {S : Nat → Nat → Int32} {z x : Int32} : ∀ k u num ld ld', fa_t1 S z x k u num 0 ld = fa_t1 S z x k u num 0 ld'
  | 0, _, _, _, _ => rfl
  | k + 1, u, num, ld, ld' => by
    simp only [fa_t1]
    rw [fa_t1_ld k (u + 1) num ld ld', if_pos (show True ∨ S 0 9 < ld + S (100 + u) 1 from Or.inl trivial), if_pos (show True ∨ S 0 9 < ld' + S (100 + u) 1 from Or.inl trivial)]
theorem fa_t1_no {S : Nat → Nat → Int32} {z : Int32} {a : Nat} (ha : a < 1000) (hp : fa_gt S a z = false) : ∀ k u num st ld, u + k < 1000 → (fa_t1 S z (nI a) k u num st ld).1 = false
  | 0, _, _, _, _, _ => rfl
  | k + 1, u, num, st, ld, h => by
    simp only [fa_t1]
    by_cases e : nI u = nI a
    · rw [nI_eq (by omega) (by omega)] at e
      subst e
      rw [if_neg (by rw [hp]; decide)]
      exact fa_t1_no ha hp k (u + 1) num st ld (by omega)
    · have ih : ∀ n s l, (fa_t1 S z (nI a) k (u + 1) n s l).1 = false := fun n s l => fa_t1_no ha hp k (u + 1) n s l (by omega)
      by_cases c1 : fa_gt S u z = true
      · rw [if_pos c1]
        by_cases c2 : st = 0 ∨ S 0 9 < ld + S (100 + u) 1
        · rw [if_pos c2, if_neg e]; exact ih _ _ _
        · rw [if_neg c2, if_neg e]; exact ih _ _ _
      · rw [if_neg c1]; exact ih _ _ _
theorem fa_t1_yes {S : Nat → Nat → Int32} {z : Int32} {a : Nat} (hp : fa_gt S a z = true) : ∀ k u num st ld, u ≤ a → a < u + k → (fa_t1 S z (nI a) k u num st ld).1 = true
  | 0, _, _, _, _, h1, h2 => by omega
  | k + 1, u, num, st, ld, h1, h2 => by
    simp only [fa_t1]
    by_cases e : u = a
    · subst e
      rw [if_pos hp]
      split
      · rw [if_pos rfl]
      · rw [if_pos rfl]
    · have ih : ∀ n s l, (fa_t1 S z (nI a) k (u + 1) n s l).1 = true := fun n s l => fa_t1_yes hp k (u + 1) n s l (by omega) (by omega)
      split
      · split
        · split
          · rfl
          · exact ih _ _ _
        · split
          · rfl
          · exact ih _ _ _
      · exact ih _ _ _
theorem fa_t2_no {S : Nat → Nat → Int32} {a n : Nat} (ha : a < 1000) (hn : n < 1000) (hp : fa_pl S a = false) : ∀ k z num, fa_t2 S (nI a) n k z num = -1
  | 0, _, _ => rfl
  | k + 1, z, num => by
    simp only [fa_t2]
    rw [if_neg (by rw [fa_t1_no ha (by simp [fa_gt, hp]) n 0 _ _ _ (by omega)]; decide)]
    exact fa_t2_no ha hn hp k (z + 1) _
/-- two groups become one -/
def tg_f (lo : Int32) (row : Nat → Int32) : Nat → Int32 := upd (upd row 2 lo) 3 (-1)
theorem fa_in_of {T : Nat → Nat → Int32} {u : Nat} {g x y : Int32} (h5 : T (100 + u) 5 = x) (h2 : T (100 + u) 2 = y) : fa_in T u g = (decide (x = 0) && decide (y = g)) := by
  unfold fa_in; rw [h5, h2]
theorem fa_in_tt {T : Nat → Nat → Int32} {u : Nat} {g : Int32} (h : fa_in T u g = true) : T (100 + u) 5 = 0 ∧ T (100 + u) 2 = g := by
  unfold fa_in at h
  simpa only [Bool.and_eq_true, decide_eq_true_eq] using h
theorem tg_in {G : Nat → Nat → Int32} {n lo hi u : Nat} (hu : u < n) (hl : lo < 12) (hh : hi < 12) (hne : lo ≠ hi) : fa_in (fa_to G n (nI lo) (nI hi)) u (nI lo) = (fa_in G u (nI lo) || fa_in G u (nI hi)) := by
  by_cases c : fa_in G u (nI hi) = true
  · have e5 : fa_to G n (nI lo) (nI hi) (100 + u) 5 = 0 := by
      unfold fa_to; rw [fa_wr_un n hu, if_pos c]; exact (fa_in_tt c).1
    have e2 : fa_to G n (nI lo) (nI hi) (100 + u) 2 = nI lo := by
      unfold fa_to; rw [fa_wr_un n hu, if_pos c]; simp only [upd, if_true]
    rw [fa_in_of e5 e2, c, Bool.or_true]
    simp
  · have e : fa_to G n (nI lo) (nI hi) (100 + u) = G (100 + u) := by
      unfold fa_to; rw [fa_wr_un n hu, if_neg c]
    have c2 : fa_in G u (nI hi) = false := by cases h : fa_in G u (nI hi) with
      | true => exact absurd h c
      | false => rfl
    rw [c2, Bool.or_false, fa_in_of (congrFun e 5) (congrFun e 2)]
    rfl
theorem tg_N {G : Nat → Nat → Int32} {n lo hi : Nat} (hl : lo < 12) (hh : hi < 12) (hne : lo ≠ hi) : fa_un (fa_to G n (nI lo) (nI hi)) n (nI lo) (-1) = fa_wr G (fun u => fa_in G u (nI lo) || fa_in G u (nI hi)) (tg_f (nI lo)) n := by
  funext r
  by_cases q : 100 ≤ r ∧ r < 100 + n
  · obtain ⟨u, e⟩ : ∃ u, r = 100 + u := ⟨r - 100, by omega⟩
    subst e
    have hu : u < n := by omega
    rw [fa_wr_un n hu]
    unfold fa_un
    rw [fa_wr_un n hu, tg_in hu hl hh hne]
    by_cases c : (fa_in G u (nI lo) || fa_in G u (nI hi)) = true
    · rw [if_pos c, if_pos c]
      unfold fa_to
      rw [fa_wr_un n hu]
      by_cases d : fa_in G u (nI hi) = true
      · rw [if_pos d]; rfl
      · rw [if_neg d]
        have d2 : fa_in G u (nI lo) = true := by cases h : fa_in G u (nI lo) <;> simp_all
        unfold fa_in at d2
        simp only [Bool.and_eq_true, decide_eq_true_eq] at d2
        unfold tg_f
        congr 1
        funext k
        simp only [upd]
        by_cases z : k = 2
        · rw [if_pos z, z]; exact d2.2
        · rw [if_neg z]
    · rw [if_neg c, if_neg c]
      unfold fa_to
      rw [fa_wr_un n hu, if_neg (fun d => c (by rw [d, Bool.or_true]))]
  · unfold fa_un fa_to
    rw [fa_wr_out n (by omega), fa_wr_out n (by omega), fa_wr_out n (by omega)]
theorem tg_in2 {G : Nat → Nat → Int32} {n lo hi u : Nat} (hu : u < n) (hl : lo < 12) (hh : hi < 12) (hne : lo ≠ hi) : fa_in (fa_un (fa_to G n (nI lo) (nI hi)) n (nI lo) (-1)) u (nI lo) = (fa_in G u (nI lo) || fa_in G u (nI hi)) := by
  rw [← tg_in hu hl hh hne]
  generalize fa_to G n (nI lo) (nI hi) = A
  unfold fa_un
  unfold fa_in
  rw [fa_wr_un n hu]
  split
  · simp [upd]
  · rfl
/-- which places are taken matters only where rules allow -/
theorem fa_ch_tk {S : Nat → Nat → Int32} {g : Nat → Int32} {gn : Nat} {t t' : Int32} : ∀ n, (∀ p, p < n → fa_br g (S (300 + p)) (nI p) = 0 → ((t >>> (nI p &&& 31)) &&& 1 = 0 ↔ (t' >>> (nI p &&& 31)) &&& 1 = 0)) → fa_ch S g gn t n = fa_ch S g gn t' n
  | 0, _ => rfl
  | n + 1, h => by
    have ih := fa_ch_tk (gn := gn) n (fun p hp => h p (by omega))
    simp only [fa_ch]
    rw [ih]
    by_cases z : fa_br g (S (300 + n)) (nI n) = 0
    · have hz := h n (by omega) z
      by_cases y : (t >>> (nI n &&& 31)) &&& 1 = 0
      · have y' := hz.mp y
        by_cases v : (fa_ch S g gn t' n).1 = -1 ∨ fa_co S g gn n < (fa_ch S g gn t' n).2
        · rw [if_pos ⟨y, z, v⟩, if_pos ⟨y', z, v⟩]
        · rw [if_neg (fun q => v q.2.2), if_neg (fun q => v q.2.2)]
      · have y' : ¬ (t' >>> (nI n &&& 31)) &&& 1 = 0 := fun q => y (hz.mpr q)
        rw [if_neg (fun q => y q.1), if_neg (fun q => y' q.1)]
    · rw [if_neg (fun q => z q.2.1), if_neg (fun q => z q.2.1)]
