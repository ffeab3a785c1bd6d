/-! WHAT A CALL OF THE CLASS DOES, one relation for each: c is its end (0: it answers; 1, 2, 3: which kind it throws), v its answer, N the numbers behind it. -/
def ob (x a b : Int32) : Bool := decide (x < a) || decide (b < x)
theorem ob_of {x b : Int32} {n : Nat} (hb : b.toInt = n) (h : ob x 0 b = false) : ∃ j, j ≤ n ∧ x = nI j := by
  simp only [ob, Bool.or_eq_false_iff, decide_eq_false_iff_not] at h
  exact nI_of2 hb h.1 (Int32.not_lt.mp h.2)
theorem ob_n {x : Int32} {n : Nat} (hn : n ≤ 12) (h : ob x 0 (nI n - 1) = false) : ∃ j, j < n ∧ x = nI j := by
  cases n with
  | zero =>
    exfalso
    simp only [ob, Bool.or_eq_false_iff, decide_eq_false_iff_not] at h
    have h1 := h.1
    have h2 := h.2
    rw [Int32.lt_iff_toInt_lt] at h1 h2
    have e1 : (0 : Int32).toInt = 0 := by decide
    have e2 : (nI 0 - 1).toInt = -1 := by decide
    omega
  | succ n =>
    rw [nI_pred] at h
    obtain ⟨j, hj, e⟩ := ob_of (nI_toInt (show n < 2 ^ 31 by omega)) h
    exact ⟨j, by omega, e⟩
theorem ob_nI {n u : Nat} (hn : n ≤ 12) (hu : u < n) : ob (nI u) 0 (nI n - 1) = false := by
  cases n with
  | zero => omega
  | succ n =>
    rw [nI_pred]
    simp only [ob, Bool.or_eq_false_iff, decide_eq_false_iff_not]
    exact ⟨nI_pos (by omega), nI_nlt (by omega) (by omega)⟩
abbrev ou_T : Type := Int32 → Int32 → (Nat → Nat → Int32) → Prop
def po_O (ou : ou_T) (ks : List (Int32 × String)) (L : Nat → Nat → Int64) : jd_P := (fun v' S' L' => ∃ v N, ou 0 v N ∧ v' = some (av_i v) ∧ sw_S N S' ∧ sw_L L L', fun E S' L' => ∃ c v N, ou c v N ∧ (c, E) ∈ ks ∧ sw_S N S' ∧ sw_L L L')
def po_Ov (ou : ou_T) (ks : List (Int32 × String)) (L : Nat → Nat → Int64) : jd_P := (fun v' S' L' => ∃ v N, ou 0 v N ∧ v' = none ∧ sw_S N S' ∧ sw_L L L', fun E S' L' => ∃ c v N, ou c v N ∧ (c, E) ∈ ks ∧ sw_S N S' ∧ sw_L L L')
def kE_I : String := "java/lang/IllegalArgumentException"
def kE_S : String := "java/lang/IllegalStateException"
def kE_A : String := "java/lang/ArithmeticException"
def kE_U : String := "java/lang/UnsupportedOperationException"
def po_uo (n base : Nat) (x : Int32) (S : Nat → Nat → Int32) (L : Nat → Nat → Int64) : jd_P := (fun v S' L' => ∃ u, u < n ∧ x = nI u ∧ v = some (av_r (base + u)) ∧ S = S' ∧ L = L', fun E S' L' => E = nx_E ∧ ob x 0 (nI n - 1) = true ∧ S = S' ∧ L = L')
def ou_weight (S : Nat → Nat → Int32) (k x : Int32) : ou_T := fun c _ N => ((ob k 0 7 || ob x 0 100) = true ∧ c = 1 ∧ N = S) ∨ ∃ j, j < 8 ∧ k = nI j ∧ ob x 0 100 = false ∧ c = 0 ∧ N = va_up S 3 (upd (S 3) j x)
def ou_limits (S : Nat → Nat → Int32) (x y : Int32) : ou_T := fun c _ N => ((ob x 0 8 || ob y 1 1000) = true ∧ c = 1 ∧ N = S) ∨ (ob x 0 8 = false ∧ ob y 1 1000 = false ∧ c = 0 ∧ N = va_up S 0 (upd (upd (S 0) 8 x) 9 y))
def ou_fits (w : wd_T) (S : Nat → Nat → Int32) (x y may : Int32) : ou_T := fun c _ N => ((ob x 0 (nI w.2.2.1 - 1) || ob y 0 (nI w.2.2.2 - 1)) = true ∧ c = 1 ∧ N = S) ∨
  ∃ a b, a < w.2.2.1 ∧ b < w.2.2.2 ∧ x = nI a ∧ y = nI b ∧ c = 0 ∧ N = va_up S (100 + a) (upd (S (100 + a)) 6 (if may = 0 then S (100 + a) 6 ||| ((1 : Int32) <<< (nI b &&& 31)) else S (100 + a) 6 &&& (((1 : Int32) <<< (nI b &&& 31)) ^^^ (-1))))
def ou_cost (w : wd_T) (S : Nat → Nat → Int32) (x y z : Int32) : ou_T := fun c _ N => ((ob x 0 (nI w.2.2.1 - 1) || ob y 0 (nI w.2.2.2 - 1)) = true ∧ c = 1 ∧ N = S) ∨
  ∃ a b, a < w.2.2.1 ∧ b < w.2.2.2 ∧ x = nI a ∧ y = nI b ∧ ((¬ z ≤ 1000000 ∧ c = 2 ∧ N = S) ∨ (z ≤ 1000000 ∧ c = 0 ∧ N = va_up S (100 + a + 100) (upd (S (100 + a + 100)) b (if 0 ≤ z then z else -1))))
def ou_fix (w : wd_T) (S : Nat → Nat → Int32) (x y : Int32) : ou_T := fun c _ N => ((ob x 0 (nI w.2.2.1 - 1) = true ∨ (¬ y = -1 ∧ ob y 0 (nI w.2.2.2 - 1) = true)) ∧ c = 1 ∧ N = S) ∨
  ∃ a, a < w.2.2.1 ∧ x = nI a ∧ (y = -1 ∨ ∃ b, b < w.2.2.2 ∧ y = nI b) ∧ ((¬ S (100 + a) 5 = 0 ∧ c = 2 ∧ N = S) ∨ (S (100 + a) 5 = 0 ∧ c = 0 ∧ N = va_up S (100 + a) (upd (S (100 + a)) 4 y)))
def ou_at (w : wd_T) (S : Nat → Nat → Int32) (x : Int32) : ou_T := fun c v N => (ob x 0 (nI w.2.2.1 - 1) = true ∧ c = 1 ∧ N = S) ∨ ∃ a, a < w.2.2.1 ∧ x = nI a ∧ c = 0 ∧ v = S (100 + a) 3 ∧ N = S
def ou_open (w : wd_T) (S : Nat → Nat → Int32) (x : Int32) : ou_T := fun c _ N => (ob x 0 (nI w.2.2.2 - 1) = true ∧ c = 1 ∧ N = S) ∨ ∃ b, b < w.2.2.2 ∧ x = nI b ∧ ((S (300 + b) 4 = 0 ∧ c = 2 ∧ N = S) ∨ (¬ S (300 + b) 4 = 0 ∧ c = 0 ∧ N = va_up S (300 + b) (upd (S (300 + b)) 4 0)))
def ou_told (w : wd_T) (S : Nat → Nat → Int32) (x y : Int32) : ou_T := fun c v N => N = S ∧ ((ob x 0 (nI w.2.2.2 - 1) = true ∧ c = 1) ∨ ∃ b, b < w.2.2.2 ∧ x = nI b ∧
  ((ob y 0 3 = true ∧ c = 2) ∨ (y = 0 ∧ c = 0 ∧ v = S (300 + b) 3) ∨ (y = 1 ∧ c = 0 ∧ v = S (300 + b) 1) ∨ (y = 2 ∧ c = 0 ∧ v = (if S (300 + b) 4 = 0 then 0 else 1)) ∨ (y = 3 ∧ c = 0 ∧ v = fa_pf S (nI b) w.2.2.1 0)))
/-- of the places, the one that falls last -/
def fa_ba (S : Nat → Nat → Int32) (g : Nat → Int32) : Nat → Nat → Int32 → Int32
  | 0, _, x => x
  | k + 1, p, x => if fa_br g (S (300 + p)) (nI p) = 0 then 0 else fa_ba S g k (p + 1) (if x < fa_br g (S (300 + p)) (nI p) then fa_br g (S (300 + p)) (nI p) else x)
theorem fa_ba_sw {S T : Nat → Nat → Int32} (h : sw_S S T) (g : Nat → Int32) : ∀ k p x, fa_ba T g k p x = fa_ba S g k p x
  | 0, _, _ => rfl
  | k + 1, p, x => by simp only [fa_ba]; rw [h.p, fa_ba_sw h g k]
def ou_barred (w : wd_T) (S : Nat → Nat → Int32) (x : Int32) : ou_T := fun c v N => N = S ∧ ((ob x 0 (nI w.2.2.1 - 1) = true ∧ c = 1) ∨ ∃ a, a < w.2.2.1 ∧ x = nI a ∧
  ((¬ S (100 + a) 5 = 0 ∧ c = 2) ∨ (S (100 + a) 5 = 0 ∧ c = 0 ∧ v = fa_ba S (fa_ga S (S (100 + a) 2) w.2.2.1) w.2.2.2 0 1)))
def ou_share (w : wd_T) (S : Nat → Nat → Int32) (x : Int32) : ou_T := fun c v N => N = S ∧ ((ob x 0 (nI w.2.2.1 - 1) = true ∧ c = 1) ∨ ∃ a, a < w.2.2.1 ∧ x = nI a ∧
  ((fa_pl S a = false ∧ c = 2) ∨ (fa_pl S a = true ∧ fa_pc S w.2.2.1 w.2.2.1 = 0 ∧ c = 3) ∨ ∃ p g, p < w.2.2.2 ∧ S (100 + a) 3 = nI p ∧ g ≤ a ∧ S (100 + a) 2 = nI g ∧ fa_pl S a = true ∧ ¬ fa_pc S w.2.2.1 w.2.2.1 = 0 ∧ c = 0 ∧ v = 100 * fa_co S (fa_ga S (nI g) w.2.2.1) g p / fa_pc S w.2.2.1 w.2.2.1))
def fa_t1 (S : Nat → Nat → Int32) (z x : Int32) : Nat → Nat → Int32 → Int32 → Int32 → Bool × Int32
  | 0, _, num, _, _ => (false, num)
  | k + 1, u, num, st, ld => if fa_gt S u z = true then
      (if st = 0 ∨ S 0 9 < ld + S (100 + u) 1 then (if nI u = x then (true, num + 1) else fa_t1 S z x k (u + 1) (num + 1) 1 (0 + S (100 + u) 1)) else (if nI u = x then (true, num) else fa_t1 S z x k (u + 1) num 1 (ld + S (100 + u) 1)))
    else fa_t1 S z x k (u + 1) num st ld
def fa_t2 (S : Nat → Nat → Int32) (x : Int32) (n : Nat) : Nat → Nat → Int32 → Int32
  | 0, _, _ => -1
  | k + 1, z, num => if (fa_t1 S (nI z) x n 0 num 0 0).1 = true then (fa_t1 S (nI z) x n 0 num 0 0).2 else fa_t2 S x n k (z + 1) (fa_t1 S (nI z) x n 0 num 0 0).2
def ou_trip (w : wd_T) (S : Nat → Nat → Int32) (x : Int32) : ou_T := fun c v N => N = S ∧ ((ob x 0 (nI w.2.2.1 - 1) = true ∧ c = 1) ∨ ∃ a, a < w.2.2.1 ∧ x = nI a ∧ c = 0 ∧ v = fa_t2 S (nI a) w.2.2.1 4 0 (-1))
/-- two groups become one -/
def fa_to (S : Nat → Nat → Int32) (n : Nat) (lo hi : Int32) : Nat → Nat → Int32 := fa_wr S (fun u => fa_in S u hi) (fun row => upd row 2 lo) n
def fa_un (S : Nat → Nat → Int32) (n : Nat) (g p : Int32) : Nat → Nat → Int32 := fa_wr S (fun u => fa_in S u g) (fun row => upd row 3 p) n
def ou_together (w : wd_T) (S : Nat → Nat → Int32) (x y : Int32) : ou_T := fun c v N => ((ob x 0 (nI w.2.2.1 - 1) || ob y 0 (nI w.2.2.1 - 1)) = true ∧ c = 1 ∧ N = S) ∨ ∃ a b, a < w.2.2.1 ∧ b < w.2.2.1 ∧ x = nI a ∧ y = nI b ∧
  (((¬ S (100 + a) 5 = 0 ∨ ¬ S (100 + b) 5 = 0 ∨ S (100 + a) 2 = S (100 + b) 2) ∧ c = 2 ∧ N = S) ∨
   ∃ lo hi, S (100 + a) 5 = 0 ∧ S (100 + b) 5 = 0 ∧ lo < hi ∧ hi < 12 ∧ ((S (100 + a) 2 = nI lo ∧ S (100 + b) 2 = nI hi) ∨ (S (100 + a) 2 = nI hi ∧ S (100 + b) 2 = nI lo)) ∧ c = 0 ∧ N = fa_un (fa_to S w.2.2.1 (nI lo) (nI hi)) w.2.2.1 (nI lo) (-1) ∧ v = fa_ga (fa_un (fa_to S w.2.2.1 (nI lo) (nI hi)) w.2.2.1 (nI lo) (-1)) (nI lo) w.2.2.1 1)
def fa_fi (S : Nat → Nat → Int32) (n : Nat) (g : Int32) : Nat → Nat → Int32 := fa_wr S (fun u => fa_in S u g) (fun row => upd row 5 1) n
def ou_put (w : wd_T) (S : Nat → Nat → Int32) (x : Int32) : ou_T := fun c v N => (ob x 0 (nI w.2.2.1 - 1) = true ∧ c = 1 ∧ N = S) ∨ ∃ a, a < w.2.2.1 ∧ x = nI a ∧
  ((fa_pl S a = false ∧ c = 2 ∧ N = S) ∨ ∃ p, p < w.2.2.2 ∧ S (100 + a) 3 = nI p ∧ fa_pl S a = true ∧ ((¬ fa_br (fa_ga S (S (100 + a) 2) w.2.2.1) (S (300 + p)) (nI p) = 0 ∧ c = 2 ∧ N = S) ∨
    (fa_br (fa_ga S (S (100 + a) 2) w.2.2.1) (S (300 + p)) (nI p) = 0 ∧ c = 0 ∧ v = fa_ga S (S (100 + a) 2) w.2.2.1 1 ∧ N = fa_fi (va_up S (300 + p) (upd (S (300 + p)) 3 (S (300 + p) 3 - fa_ga S (S (100 + a) 2) w.2.2.1 2))) w.2.2.1 (S (100 + a) 2))))
def ou_block (w : wd_T) (S : Nat → Nat → Int32) (x : Int32) : ou_T := fun c v N => (ob x 0 (nI w.2.2.2 - 1) = true ∧ c = 1 ∧ N = S) ∨ ∃ b, b < w.2.2.2 ∧ x = nI b ∧
  ((¬ S (300 + b) 4 = 0 ∧ c = 2 ∧ N = S) ∨ (S (300 + b) 4 = 0 ∧ c = 0 ∧ ∃ S1, S1 = va_up S (300 + b) (upd (S (300 + b)) 4 1) ∧
    ((fa_pf S (nI b) w.2.2.1 0 = -1 ∧ v = 0 ∧ N = S1) ∨ ∃ g, g < w.2.2.1 ∧ fa_pf S (nI b) w.2.2.1 0 = nI g ∧ N = fa_un S1 w.2.2.1 (nI g) (fa_ch S1 (fa_ga S (nI g) w.2.2.1) g (fa_pp S w.2.2.1) w.2.2.2).1 ∧ v = (if (fa_ch S1 (fa_ga S (nI g) w.2.2.1) g (fa_pp S w.2.2.1) w.2.2.2).1 = -1 then 0 else 1))))
theorem fa_wr_sw {A B : Nat → Nat → Int32} {c d : Nat → Bool} {f : (Nat → Int32) → Nat → Int32} (h : sw_S A B) (hc : ∀ u, d u = c u) : ∀ n, sw_S (fa_wr A c f n) (fa_wr B d f n)
  | 0 => h
  | n + 1 => by
    intro r hr
    simp only [fa_wr]
    rw [hc n]
    by_cases q : c n = true
    · rw [if_pos q, if_pos q]
      by_cases e : r = 100 + n
      · subst e; rw [va_up_self, va_up_self, h.u]
      · rw [va_up_ne _ _ e, va_up_ne _ _ e]; exact fa_wr_sw h hc n r hr
    · rw [if_neg q, if_neg q]; exact fa_wr_sw h hc n r hr
theorem fa_fi_sw {A B : Nat → Nat → Int32} (h : sw_S A B) (n : Nat) (g : Int32) : sw_S (fa_fi A n g) (fa_fi B n g) := fa_wr_sw h (fun u => fa_in_sw h u g) n
theorem fa_un_sw {A B : Nat → Nat → Int32} (h : sw_S A B) (n : Nat) (g p : Int32) : sw_S (fa_un A n g p) (fa_un B n g p) := fa_wr_sw h (fun u => fa_in_sw h u g) n
theorem fa_pf_sw {S T : Nat → Nat → Int32} (h : ∀ u, T (100 + u) = S (100 + u)) (p : Int32) : ∀ k u, fa_pf T p k u = fa_pf S p k u
  | 0, _ => rfl
  | k + 1, u => by
    simp only [fa_pf]
    rw [fa_pf_sw h p k, show fa_gr T u = fa_gr S u by simp only [fa_gr, fa_in, h u], h u]
theorem fa_pp_sw {S T : Nat → Nat → Int32} (h : ∀ u, T (100 + u) = S (100 + u)) : ∀ k, fa_pp T k = fa_pp S k
  | 0 => rfl
  | k + 1 => by
    simp only [fa_pp]
    rw [fa_pp_sw h k, show fa_pl T k = fa_pl S k by simp only [fa_pl, h k], h k]
theorem fa_pf_in {S : Nat → Nat → Int32} {p : Int32} : ∀ k u, fa_pf S p k u = -1 ∨ ∃ g, u ≤ g ∧ g < u + k ∧ fa_pf S p k u = nI g ∧ fa_gr S g = true
  | 0, _ => Or.inl rfl
  | k + 1, u => by
    simp only [fa_pf]
    by_cases q : fa_gr S u = true ∧ S (100 + u) 3 = p
    · rw [if_pos q]; exact Or.inr ⟨u, Nat.le_refl u, by omega, rfl, q.1⟩
    · rw [if_neg q]
      rcases fa_pf_in (S := S) (p := p) k (u + 1) with e | ⟨g, h1, h2, h3, h4⟩
      · exact Or.inl e
      · exact Or.inr ⟨g, by omega, by omega, h3, h4⟩
theorem fa_ga_u {S T : Nat → Nat → Int32} (h : ∀ u, T (100 + u) = S (100 + u)) (h3 : T 3 = S 3) (g : Int32) : ∀ n, fa_ga T g n = fa_ga S g n
  | 0 => rfl
  | n + 1 => by
    simp only [fa_ga]
    rw [fa_ga_u h h3 g n, show fa_in T n g = fa_in S n g by simp only [fa_in, h n], h n, h3]
/-- the units' numbers stay good -/
theorem ok_U_wr {w : wd_T} {S : Nat → Nat → Int32} {c : Nat → Bool} {f : (Nat → Int32) → Nat → Int32} (h : ok_U w S) (hf : ∀ u, u < w.2.2.1 → c u = true → (∃ k, k < 8 ∧ f (S (100 + u)) 0 = nI k) ∧ (∃ g, g ≤ u ∧ f (S (100 + u)) 2 = nI g) ∧ (f (S (100 + u)) 3 = -1 ∨ ∃ p, p < w.2.2.2 ∧ f (S (100 + u)) 3 = nI p) ∧ (f (S (100 + u)) 5 = 0 ∨ f (S (100 + u)) 5 = 1)) : ok_U w (fa_wr S c f w.2.2.1) := by
  intro u hu
  rw [fa_wr_un w.2.2.1 hu]
  by_cases q : c u = true
  · rw [if_pos q]; exact hf u hu q
  · rw [if_neg q]; exact h u hu
theorem ok_U_to {w : wd_T} {S : Nat → Nat → Int32} {lo hi : Nat} (h : ok_U w S) (h12 : w.2.2.1 ≤ 12) (hl : lo < hi) (hh : hi < 12) : ok_U w (fa_to S w.2.2.1 (nI lo) (nI hi)) := by
  refine ok_U_wr h (fun u hu hc => ?_)
  obtain ⟨a, ⟨g, hg, eg⟩, b, d⟩ := h u hu
  simp only [fa_in, Bool.and_eq_true, decide_eq_true_eq] at hc
  have e : g = hi := by
    have := eg.symm.trans hc.2
    rw [nI_eq (by omega) (by omega)] at this
    exact this
  exact ⟨a, ⟨lo, by omega, by simp [upd]⟩, b, d⟩
theorem ok_U_un {w : wd_T} {S : Nat → Nat → Int32} {g p : Int32} (h : ok_U w S) (hp : p = -1 ∨ ∃ q, q < w.2.2.2 ∧ p = nI q) : ok_U w (fa_un S w.2.2.1 g p) := by
  refine ok_U_wr h (fun u hu hc => ?_)
  obtain ⟨a, b, d, e⟩ := h u hu
  exact ⟨a, b, by simpa [upd] using hp, e⟩
