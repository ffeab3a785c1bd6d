/-! THE MODEL'S LAYERS on the machine. -/
def dv_V (w : wd_T) (G : Nat → Nat → Int32) (j s : Nat) : Int := dp_V (fa_cN G w.2.2.1) w.2.2.2 (fa_cost G w.2.2.1) (fa_al G w.2.2.1 w.2.2.2) j s
def dv_o (w : wd_T) (G : Nat → Nat → Int32) (j s p : Nat) : Int := dp_o (dv_V w G j) (fa_al G w.2.2.1 w.2.2.2 (fa_cN G w.2.2.1 - (j + 1))) (fa_cost G w.2.2.1 (fa_cN G w.2.2.1 - (j + 1))) s p
def ly (M : Nat → Nat → Int64) (r N : Nat) (V : Nat → Int) : Prop := ∀ s, s < N → (M r s).toInt = V s
def ly_d (w : wd_T) (G : Nat → Nat → Int32) (j : Nat) (M : Nat → Nat → Int64) (N s p : Nat) : Prop := ly M 425 N (dv_V w G j) ∧ ∀ x, x < N → (M 426 x).toInt = if x < s then dv_V w G (j + 1) x else if x = s then dv_o w G j s p else dv_V w G j x
section LYP
variable {w : wd_T} {G : Nat → Nat → Int32} {j s p N : Nat} {M : Nat → Nat → Int64}
theorem dv_o_0 : dv_o w G j s 0 = dv_V w G j s := rfl
theorem dv_o_P : dv_o w G j s w.2.2.2 = dv_V w G (j + 1) s := rfl
theorem dv_oY (ha : fa_al G w.2.2.1 w.2.2.2 (fa_cN G w.2.2.1 - (j + 1)) p) (hb : s.testBit p = false) (hlt : dv_o w G j s p < dv_V w G j (s ||| 2 ^ p) + 1099511627776 - fa_cost G w.2.2.1 (fa_cN G w.2.2.1 - (j + 1)) p) : dv_o w G j s (p + 1) = dv_V w G j (s ||| 2 ^ p) + 1099511627776 - fa_cost G w.2.2.1 (fa_cN G w.2.2.1 - (j + 1)) p := by
  unfold dv_o at *
  simp only [dp_o]
  rw [if_pos ⟨⟨ha, hb⟩, hlt⟩]
theorem dv_oN (h : ¬ ((fa_al G w.2.2.1 w.2.2.2 (fa_cN G w.2.2.1 - (j + 1)) p ∧ s.testBit p = false) ∧ dv_o w G j s p < dv_V w G j (s ||| 2 ^ p) + 1099511627776 - fa_cost G w.2.2.1 (fa_cN G w.2.2.1 - (j + 1)) p)) : dv_o w G j s (p + 1) = dv_o w G j s p := by
  unfold dv_o at *
  simp only [dp_o]
  rw [if_neg h]
theorem dv_in (hA : ok_A w G) (hj : j ≤ fa_cN G w.2.2.1) : 0 ≤ dv_V w G j s ∧ dv_V w G j s ≤ j * 1099511627776 := dp_in (ok_hC hA) j s hj
theorem ly_v {x c : Int64} {A C : Int} (hx : x.toInt = A) (hA : 0 ≤ A) (hA2 : A ≤ 8796093022208) (hc : c.toInt = C) (hC : 0 ≤ C) (hC2 : C ≤ 1000000) : (x + 1099511627776 - c).toInt = A + 1099511627776 - C := by
  have e : (1099511627776 : Int64).toInt = 1099511627776 := by decide
  have h1 : (x + 1099511627776).toInt = A + 1099511627776 := by rw [l_add (by rw [hx, e]; omega) (by rw [hx, e]; omega), hx, e]
  rw [l_sub (by rw [h1, hc]; omega) (by rw [h1, hc]; omega), h1, hc]
theorem ly_up {r : Nat} {V : Nat → Int} {x : Int64} (h : ly M r s V) (hx : x.toInt = V s) : ly (va_up M r (vp_updL (M r) s x)) r (s + 1) V := ul_up (P := fun i y => y.toInt = V i) h hx
theorem ly_ne {r q : Nat} {V : Nat → Int} {row : Nat → Int64} (h : ly M r N V) (hq : r ≠ q) : ly (va_up M q row) r N V := fun x hx => by rw [va_up_ne _ _ hq]; exact h x hx
theorem ly_d0 (h1 : ly M 425 N (dv_V w G j)) (h2 : ly M 426 N (dv_V w G j)) : ly_d w G j M N 0 0 := by
  refine ⟨h1, fun x hx => ?_⟩
  rw [if_neg (by omega), h2 x hx]
  by_cases e : x = 0
  · subst e; rw [if_pos rfl]; rfl
  · rw [if_neg e]
theorem ly_dY {x : Int64} (h : ly_d w G j M N s p) (hx : x.toInt = dv_o w G j s (p + 1)) : ly_d w G j (va_up M 426 (vp_updL (M 426) s x)) N s (p + 1) := by
  refine ⟨ly_ne h.1 (by decide), fun y hy => ?_⟩
  rw [va_up_self]
  by_cases e : y = s
  · subst e; rw [pk_uLs, if_neg (by omega), if_pos rfl]; exact hx
  · rw [pk_uLn e, h.2 y hy, if_neg e, if_neg e]
theorem ly_dN (h : ly_d w G j M N s p) (hx : dv_o w G j s (p + 1) = dv_o w G j s p) : ly_d w G j M N s (p + 1) := by
  refine ⟨h.1, fun y hy => ?_⟩
  rw [hx]; exact h.2 y hy
theorem ly_dS (h : ly_d w G j M N s w.2.2.2) : ly_d w G j M N (s + 1) 0 := by
  refine ⟨h.1, fun y hy => ?_⟩
  rw [h.2 y hy]
  by_cases e : y < s
  · rw [if_pos e, if_pos (by omega)]
  · by_cases e2 : y = s
    · subst e2; rw [if_neg e, if_pos rfl, if_pos (by omega), dv_o_P]
    · rw [if_neg e, if_neg e2, if_neg (show ¬ y < s + 1 by omega)]
      by_cases e3 : y = s + 1
      · subst e3; rw [if_pos rfl]; rfl
      · rw [if_neg e3]
theorem ly_dE (h : ly_d w G j M N N p) : ly M 426 N (dv_V w G (j + 1)) := fun x hx => by rw [h.2 x hx, if_pos hx]
theorem ly_at (h : ly_d w G j M N s p) (hs : s < N) : (M 426 s).toInt = dv_o w G j s p := by rw [h.2 s hs, if_neg (by omega), if_pos rfl]
end LYP
theorem nI_dec (a : Nat) : nI a + Int32.ofInt (-1) = nI a - 1 := by
  rw [Int32.sub_eq_add_neg]; rfl
theorem nI_dlt {a f : Nat} (ha : a < 5000) (hf : f < 5000) : nI a - 1 < nI f ↔ a < f + 1 := by
  rw [Int32.lt_iff_toInt_lt, show (1 : Int32) = nI 1 from rfl, pk_sub_toInt (by omega) (by omega), nI_toInt (by omega)]
  omega
theorem nI_dlt0 {a : Nat} (ha : a < 5000) : nI a - 1 < 0 ↔ a = 0 := by
  rw [show (0 : Int32) = nI 0 from rfl, nI_dlt ha (by omega)]
  omega
/-- the least place found so far that keeps the value -/
def bs_I (w : wd_T) (G : Nat → Nat → Int32) (g tk : Nat) (left : Int) (p F : Nat) : Prop :=
  (F = 12 ∧ ∀ q, p ≤ q → q < w.2.2.2 → fa_al G w.2.2.1 w.2.2.2 g q → tk.testBit q = false → dv_V w G (fa_cN G w.2.2.1 - (g + 1)) (tk ||| 2 ^ q) + 1099511627776 - fa_cost G w.2.2.1 g q ≠ left) ∨
  (F < w.2.2.2 ∧ fa_al G w.2.2.1 w.2.2.2 g F ∧ tk.testBit F = false ∧ dv_V w G (fa_cN G w.2.2.1 - (g + 1)) (tk ||| 2 ^ F) + 1099511627776 - fa_cost G w.2.2.1 g F = left ∧ ∀ q, p ≤ q → q < F → fa_al G w.2.2.1 w.2.2.2 g q → tk.testBit q = false → dv_V w G (fa_cN G w.2.2.1 - (g + 1)) (tk ||| 2 ^ q) + 1099511627776 - fa_cost G w.2.2.1 g q ≠ left)
section BSP
variable {w : wd_T} {G : Nat → Nat → Int32} {g tk p F : Nat} {left : Int}
theorem bs_0 : bs_I w G g tk left w.2.2.2 12 := Or.inl ⟨rfl, fun q h1 h2 => by omega⟩
theorem bs_N (h : bs_I w G g tk left (p + 1) F) (hn : ¬ (fa_al G w.2.2.1 w.2.2.2 g p ∧ tk.testBit p = false ∧ dv_V w G (fa_cN G w.2.2.1 - (g + 1)) (tk ||| 2 ^ p) + 1099511627776 - fa_cost G w.2.2.1 g p = left)) : bs_I w G g tk left p F := by
  rcases h with ⟨a, b⟩ | ⟨a, b, c, d, e⟩
  · refine Or.inl ⟨a, fun q h1 h2 h3 h4 => ?_⟩
    by_cases z : q = p
    · subst z; exact fun x => hn ⟨h3, h4, x⟩
    · exact b q (by omega) h2 h3 h4
  · refine Or.inr ⟨a, b, c, d, fun q h1 h2 h3 h4 => ?_⟩
    by_cases z : q = p
    · subst z; exact fun x => hn ⟨h3, h4, x⟩
    · exact e q (by omega) h2 h3 h4
theorem bs_Y (hp : p < w.2.2.2) (h1 : fa_al G w.2.2.1 w.2.2.2 g p) (h2 : tk.testBit p = false) (h3 : dv_V w G (fa_cN G w.2.2.1 - (g + 1)) (tk ||| 2 ^ p) + 1099511627776 - fa_cost G w.2.2.1 g p = left) : bs_I w G g tk left p p := Or.inr ⟨hp, h1, h2, h3, fun q h4 h5 => by omega⟩
end BSP
/-- the plan read off so far -/
def bs_T (w : wd_T) (G : Nat → Nat → Int32) (f tk : Nat → Nat) (g : Nat) : Prop := tk 0 = 0 ∧ (∀ i, i < g → tk (i + 1) < 2 ^ w.2.2.2) ∧ ∀ i, i < g → (f i ≤ 12 ∧ tk (i + 1) = (if f i = 12 then tk i else tk i ||| 2 ^ f i) ∧ bs_I w G i (tk i) (dv_V w G (fa_cN G w.2.2.1 - i) (tk i)) 0 (f i))
theorem bs_rd {w : wd_T} {G : Nat → Nat → Int32} {f tk : Nat → Nat} (h13 : w.2.2.2 ≤ 12) (h : bs_T w G f tk (fa_cN G w.2.2.1)) : dp_rd (fa_cN G w.2.2.1) w.2.2.2 (fa_cost G w.2.2.1) (fa_al G w.2.2.1 w.2.2.2) f tk := by
  refine ⟨h.1, fun g hg => ?_⟩
  obtain ⟨a, b, c⟩ := h.2.2 g hg
  rcases c with ⟨c1, c2⟩ | ⟨c1, c2, c3, c4, c5⟩
  · rw [if_pos c1] at b
    exact Or.inl ⟨c1, b, fun p hp => c2 p (Nat.zero_le _) hp⟩
  · rw [if_neg (by omega)] at b
    exact Or.inr ⟨c1, b, c2, c3, c4, fun p hp => c5 p (Nat.zero_le _) hp⟩
theorem bs_tk {w : wd_T} {G : Nat → Nat → Int32} {f tk : Nat → Nat} {g : Nat} (h : bs_T w G f tk g) : tk g < 2 ^ w.2.2.2 := by
  rcases g with _ | g
  · rw [h.1]; exact Nat.two_pow_pos _
  · exact h.2.1 g (by omega)
theorem bs_st {w : wd_T} {G : Nat → Nat → Int32} {f tk : Nat → Nat} {g F : Nat} (h : bs_T w G f tk g) (h13 : w.2.2.2 ≤ 12) (hb : bs_I w G g (tk g) (dv_V w G (fa_cN G w.2.2.1 - g) (tk g)) 0 F) : bs_T w G (fun i => if i = g then F else f i) (fun i => if i = g + 1 then (if F = 12 then tk g else tk g ||| 2 ^ F) else tk i) (g + 1) := by
  have hF : F ≤ 12 := by rcases hb with ⟨a, -⟩ | ⟨a, -⟩ <;> omega
  have htk := bs_tk h
  refine ⟨by simp only; rw [if_neg (by omega)]; exact h.1, fun i hi => ?_, fun i hi => ?_⟩
  · by_cases e : i = g
    · subst e
      simp only [if_true]
      split
      · exact htk
      · rcases hb with ⟨a, -⟩ | ⟨a, -⟩
        · omega
        · exact set_lt htk a
    · simp only
      rw [if_neg (by omega)]; exact h.2.1 i (by omega)
  · by_cases e : i = g
    · subst e
      simp only [if_true]
      rw [if_neg (show ¬ i = i + 1 by omega)]
      exact ⟨hF, rfl, hb⟩
    · simp only
      rw [if_neg e, if_neg (show ¬ i + 1 = g + 1 by omega), if_neg (show ¬ i = g + 1 by omega)]
      exact h.2.2 i (by omega)
