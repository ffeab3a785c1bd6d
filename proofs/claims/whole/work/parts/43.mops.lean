/-! WHAT THE MODEL'S CALLS LEAVE: the relation after each change. -/
def fr_M (S T : Nat → Nat → Int32) : Prop := ∀ r, (r < 400 ∨ 427 ≤ r) → T r = S r
theorem sm_fr {S T : Nat → Nat → Int32} (h : sm_S S T) : fr_M S T := fun r hr => h.o (by omega)
theorem fr_M.up {S T : Nat → Nat → Int32} (h : fr_M S T) {r : Nat} (h1 : 400 ≤ r) (h2 : r < 427) (row : Nat → Int32) : fr_M S (va_up T r row) := fun q hq => by rw [va_up_ne _ _ (by omega)]; exact h q hq
theorem fr_M.tr {S T U : Nat → Nat → Int32} (h : fr_M S T) (h2 : fr_M T U) : fr_M S U := fun q hq => (h2 q hq).trans (h q hq)
theorem cd_at {S T : Nat → Nat → Int32} {x : Int32} (_ : sm_S S (va_up T 400 (upd (T 400) 0 x))) : va_up T 400 (upd (T 400) 0 x) 400 0 = x := by rw [va_up_self]; simp only [upd, if_true]
def po_M (w : wd_T) (c v : Int32) (N S : Nat → Nat → Int32) (L : Nat → Nat → Int64) : jd_P := (fun v' S' L' => ∃ b, v' = some (av_i b) ∧ (c = 0 → b = v) ∧ S' 400 0 = c ∧ md_R w N S' ∧ fr_M S S' ∧ sm_L L L', fun _ _ _ => False)
def po_Mv (w : wd_T) (c : Int32) (N S : Nat → Nat → Int32) (L : Nat → Nat → Int64) : jd_P := (fun v' S' L' => v' = none ∧ S' 400 0 = c ∧ md_R w N S' ∧ fr_M S S' ∧ sm_L L L', fun _ _ _ => False)
section MO
variable {w : wd_T} {G T : Nat → Nat → Int32}
theorem md_weight (hR : md_R w G T) {j : Nat} (x : Int32) : md_R w (va_up G 3 (upd (G 3) j x)) (va_up T 417 (upd (T 417) j x)) := by
  unfold md_R md_u md_p at *
  obtain ⟨a, b, c, d, e, f, g, i, q⟩ := hR
  refine ⟨?_, fun u hu => ?_, fun p hp => ?_, fun u p hu hp => ?_, fun u p hu hp => ?_, fun k hk => ?_, fun u p h1 h2 h3 => ?_, fun u h1 h2 => ?_, fun p h1 h2 => ?_⟩
  · simp (disch := omega) only [va_up_ne]; exact a
  · simp (disch := omega) only [va_up_ne]; exact b u hu
  · simp (disch := omega) only [va_up_ne]; exact c p hp
  · simp (disch := omega) only [va_up_ne]; exact d u p hu hp
  · simp (disch := omega) only [va_up_ne]; exact e u p hu hp
  · rw [va_up_self, va_up_self]
    simp only [upd]
    by_cases z : k = j
    · rw [if_pos z, if_pos z]
    · rw [if_neg z, if_neg z]; exact f k hk
  · simp (disch := omega) only [va_up_ne]; exact g u p h1 h2 h3
  · simp (disch := omega) only [va_up_ne]; exact i u h1 h2
  · simp (disch := omega) only [va_up_ne]; exact q p h1 h2
theorem md_limits (hR : md_R w G T) (x y : Int32) : md_R w (va_up G 0 (upd (upd (G 0) 8 x) 9 y)) (va_up T 400 (upd (upd (T 400) 17 x) 18 y)) := by
  unfold md_R md_u md_p at *
  obtain ⟨⟨a1, a2, a3, a4, a5⟩, b, c, d, e, f, g, i, q⟩ := hR
  refine ⟨?_, fun u hu => ?_, fun p hp => ?_, fun u p hu hp => ?_, fun u p hu hp => ?_, fun k hk => ?_, fun u p h1 h2 h3 => ?_, fun u h1 h2 => ?_, fun p h1 h2 => ?_⟩
  · simp only [va_up_self]
    exact ⟨a1, a2, rfl, rfl, a5⟩
  · simp (disch := omega) only [va_up_ne]; exact b u hu
  · simp (disch := omega) only [va_up_ne]; exact c p hp
  · simp (disch := omega) only [va_up_ne]; exact d u p hu hp
  · simp (disch := omega) only [va_up_ne]; exact e u p hu hp
  · simp (disch := omega) only [va_up_ne]; exact f k hk
  · simp (disch := omega) only [va_up_ne]; exact g u p h1 h2 h3
  · simp (disch := omega) only [va_up_ne]; exact i u h1 h2
  · simp (disch := omega) only [va_up_ne]; exact q p h1 h2
theorem md_best (hR : md_R w G T) (x : Int32) : md_R w (va_up G 0 (upd (G 0) 10 x)) (va_up T 400 (upd (T 400) 19 x)) := by
  unfold md_R md_u md_p at *
  obtain ⟨⟨a1, a2, a3, a4, a5⟩, b, c, d, e, f, g, i, q⟩ := hR
  refine ⟨?_, fun u hu => ?_, fun p hp => ?_, fun u p hu hp => ?_, fun u p hu hp => ?_, fun k hk => ?_, fun u p h1 h2 h3 => ?_, fun u h1 h2 => ?_, fun p h1 h2 => ?_⟩
  · simp only [va_up_self]
    exact ⟨a1, a2, a3, a4, rfl⟩
  · simp (disch := omega) only [va_up_ne]; exact b u hu
  · simp (disch := omega) only [va_up_ne]; exact c p hp
  · simp (disch := omega) only [va_up_ne]; exact d u p hu hp
  · simp (disch := omega) only [va_up_ne]; exact e u p hu hp
  · simp (disch := omega) only [va_up_ne]; exact f k hk
  · simp (disch := omega) only [va_up_ne]; exact g u p h1 h2 h3
  · simp (disch := omega) only [va_up_ne]; exact i u h1 h2
  · simp (disch := omega) only [va_up_ne]; exact q p h1 h2
theorem ix_ne {a b u p : Nat} (hb : b < 12) (hp : p < 12) (h : ¬ (u = a ∧ p = b)) : 12 * u + p ≠ 12 * a + b := by omega
theorem md_cost (h12 : w.2.2.1 ≤ 12) (hR : md_R w G T) {a b : Nat} (ha : a < w.2.2.1) (hb : b < 12) (x : Int32) : md_R w (va_up G (100 + a + 100) (upd (G (100 + a + 100)) b x)) (va_up T 410 (upd (T 410) (12 * a + b) x)) := by
  unfold md_R md_u md_p at *
  obtain ⟨a1, b1, c, d, e, f, g, i, q⟩ := hR
  refine ⟨?_, fun u hu => ?_, fun p hp => ?_, fun u p hu hp => ?_, fun u p hu hp => ?_, fun k hk => ?_, fun u p h1 h2 h3 => ?_, fun u h1 h2 => ?_, fun p h1 h2 => ?_⟩
  · simp (disch := omega) only [va_up_ne]; exact a1
  · simp (disch := omega) only [va_up_ne]; exact b1 u hu
  · simp (disch := omega) only [va_up_ne]; exact c p hp
  · simp (disch := omega) only [va_up_ne]; exact d u p hu hp
  · rw [va_up_self]
    by_cases z : u = a
    · subst z
      rw [va_up_self]
      simp only [upd]
      by_cases y : p = b
      · rw [if_pos (by omega), if_pos y]
      · rw [if_neg (by omega), if_neg y]; exact e u p hu hp
    · rw [va_up_ne _ _ (by omega)]
      simp only [upd]
      rw [if_neg (by omega)]; exact e u p hu hp
  · simp (disch := omega) only [va_up_ne]; exact f k hk
  · rw [va_up_self, va_up_ne _ _ (by omega)]
    simp only [upd]
    rw [if_neg (by omega)]; exact g u p h1 h2 h3
  · simp (disch := omega) only [va_up_ne]; exact i u h1 h2
  · simp (disch := omega) only [va_up_ne]; exact q p h1 h2
theorem md_fits (h12 : w.2.2.1 ≤ 12) (hR : md_R w G T) {a b : Nat} (ha : a < w.2.2.1) (hb : b < 12) {x y : Int32} (h1 : y = 0 ↔ bt x b = false) (h2 : ∀ p, p < 12 → p ≠ b → bt x p = bt (G (100 + a) 6) p) : md_R w (va_up G (100 + a) (upd (G (100 + a)) 6 x)) (va_up T 409 (upd (T 409) (12 * a + b) y)) := by
  unfold md_R md_u md_p at *
  obtain ⟨a1, b1, c, d, e, f, g, i, q⟩ := hR
  refine ⟨?_, fun u hu => ?_, fun p hp => ?_, fun u p hu hp => ?_, fun u p hu hp => ?_, fun k hk => ?_, fun u p q1 q2 q3 => ?_, fun u q1 q2 => ?_, fun p q1 q2 => ?_⟩
  · simp (disch := omega) only [va_up_ne]; exact a1
  · by_cases z : u = a
    · subst z
      simp (disch := omega) only [va_up_ne, va_up_self]
      exact b1 u hu
    · simp (disch := omega) only [va_up_ne]; exact b1 u hu
  · simp (disch := omega) only [va_up_ne]; exact c p hp
  · rw [va_up_self]
    by_cases z : u = a
    · subst z
      rw [va_up_self]
      simp only [upd, if_true]
      by_cases v : p = b
      · subst v; rw [if_pos rfl]; exact h1
      · rw [if_neg (by omega), h2 p hp v]; exact d u p hu hp
    · rw [va_up_ne _ _ (by omega)]
      simp only [upd]
      rw [if_neg (by omega)]; exact d u p hu hp
  · simp (disch := omega) only [va_up_ne]; exact e u p hu hp
  · simp (disch := omega) only [va_up_ne]; exact f k hk
  · rw [va_up_self, va_up_ne _ _ (by omega)]
    simp only [upd]
    rw [if_neg (by omega)]; exact g u p q1 q2 q3
  · simp (disch := omega) only [va_up_ne]; exact i u q1 q2
  · simp (disch := omega) only [va_up_ne]; exact q p q1 q2
theorem md_fix (h12 : w.2.2.1 ≤ 12) (hR : md_R w G T) {a : Nat} (ha : a < w.2.2.1) (x : Int32) : md_R w (va_up G (100 + a) (upd (G (100 + a)) 4 x)) (va_up T 406 (upd (T 406) a x)) := by
  unfold md_R md_u md_p at *
  obtain ⟨a1, b1, c, d, e, f, g, i, q⟩ := hR
  refine ⟨?_, fun u hu => ?_, fun p hp => ?_, fun u p hu hp => ?_, fun u p hu hp => ?_, fun k hk => ?_, fun u p q1 q2 q3 => ?_, fun u q1 q2 => ?_, fun p q1 q2 => ?_⟩
  · simp (disch := omega) only [va_up_ne]; exact a1
  · by_cases z : u = a
    · subst z
      obtain ⟨y1, y2, y3, y4, y5, y6⟩ := b1 u hu
      simp (disch := omega) only [va_up_ne, va_up_self, upd]
      exact ⟨y1, y2, y3, by simp, y5, y6⟩
    · simp (disch := omega) only [va_up_ne, va_up_self, upd, if_neg z]; exact b1 u hu
  · simp (disch := omega) only [va_up_ne]; exact c p hp
  · by_cases z : u = a
    · subst z
      simp (disch := omega) only [va_up_ne, va_up_self]
      exact d u p hu hp
    · simp (disch := omega) only [va_up_ne]; exact d u p hu hp
  · simp (disch := omega) only [va_up_ne]; exact e u p hu hp
  · simp (disch := omega) only [va_up_ne]; exact f k hk
  · simp (disch := omega) only [va_up_ne]; exact g u p q1 q2 q3
  · simp (disch := omega) only [va_up_ne]; exact i u q1 q2
  · simp (disch := omega) only [va_up_ne]; exact q p q1 q2
theorem md_bl (h12 : w.2.2.1 ≤ 12) (h13 : w.2.2.2 ≤ 12) (hR : md_R w G T) {b : Nat} (hb : b < w.2.2.2) (x : Int32) : md_R w (va_up G (300 + b) (upd (G (300 + b)) 4 x)) (va_up T 416 (upd (T 416) b x)) := by
  unfold md_R md_u md_p at *
  obtain ⟨a1, b1, c, d, e, f, g, i, q⟩ := hR
  refine ⟨?_, fun u hu => ?_, fun p hp => ?_, fun u p hu hp => ?_, fun u p hu hp => ?_, fun k hk => ?_, fun u p q1 q2 q3 => ?_, fun u q1 q2 => ?_, fun p q1 q2 => ?_⟩
  · simp (disch := omega) only [va_up_ne]; exact a1
  · simp (disch := omega) only [va_up_ne]; exact b1 u hu
  · by_cases z : p = b
    · subst z
      obtain ⟨y1, y2, y3, y4, y5⟩ := c p hp
      simp (disch := omega) only [va_up_ne, va_up_self, upd]
      exact ⟨y1, y2, y3, y4, by simp⟩
    · simp (disch := omega) only [va_up_ne, va_up_self, upd, if_neg z]; exact c p hp
  · simp (disch := omega) only [va_up_ne]; exact d u p hu hp
  · simp (disch := omega) only [va_up_ne]; exact e u p hu hp
  · simp (disch := omega) only [va_up_ne]; exact f k hk
  · simp (disch := omega) only [va_up_ne]; exact g u p q1 q2 q3
  · simp (disch := omega) only [va_up_ne]; exact i u q1 q2
  · rw [va_up_self]
    simp only [upd]
    rw [if_neg (by omega)]; exact q p q1 q2
theorem md_free (h12 : w.2.2.1 ≤ 12) (h13 : w.2.2.2 ≤ 12) (hR : md_R w G T) {b : Nat} (hb : b < w.2.2.2) (x : Int32) : md_R w (va_up G (300 + b) (upd (G (300 + b)) 3 x)) (va_up T 414 (upd (T 414) b x)) := by
  unfold md_R md_u md_p at *
  obtain ⟨a1, b1, c, d, e, f, g, i, q⟩ := hR
  refine ⟨?_, fun u hu => ?_, fun p hp => ?_, fun u p hu hp => ?_, fun u p hu hp => ?_, fun k hk => ?_, fun u p q1 q2 q3 => ?_, fun u q1 q2 => ?_, fun p q1 q2 => ?_⟩
  · simp (disch := omega) only [va_up_ne]; exact a1
  · simp (disch := omega) only [va_up_ne]; exact b1 u hu
  · by_cases z : p = b
    · subst z
      obtain ⟨y1, y2, y3, y4, y5⟩ := c p hp
      simp (disch := omega) only [va_up_ne, va_up_self, upd]
      exact ⟨y1, y2, by simp, y4, y5⟩
    · simp (disch := omega) only [va_up_ne, va_up_self, upd, if_neg z]; exact c p hp
  · simp (disch := omega) only [va_up_ne]; exact d u p hu hp
  · simp (disch := omega) only [va_up_ne]; exact e u p hu hp
  · simp (disch := omega) only [va_up_ne]; exact f k hk
  · simp (disch := omega) only [va_up_ne]; exact g u p q1 q2 q3
  · simp (disch := omega) only [va_up_ne]; exact i u q1 q2
  · simp (disch := omega) only [va_up_ne]; exact q p q1 q2
/-- units' rows are written: group, place or done -/
theorem md_wr (h12 : w.2.2.1 ≤ 12) (hR : md_R w G T) {cc : Nat → Bool} {f : (Nat → Int32) → Nat → Int32} {T' : Nat → Nat → Int32} (hf : ∀ row k, k ≠ 2 → k ≠ 3 → k ≠ 5 → f row k = row k)
    (ho : ∀ r, r ≠ 405 → r ≠ 407 → r ≠ 408 → T' r = T r) (h5 : ∀ u, u < w.2.2.1 → T' 405 u = (if cc u = true then f (G (100 + u)) 2 else G (100 + u) 2) ∧ T' 407 u = (if cc u = true then f (G (100 + u)) 3 else G (100 + u) 3) ∧ T' 408 u = (if cc u = true then f (G (100 + u)) 5 else G (100 + u) 5))
    (h8 : ∀ u, w.2.2.1 ≤ u → T' 408 u = T 408 u) : md_R w (fa_wr G cc f w.2.2.1) T' := by
  unfold md_R md_u md_p at *
  obtain ⟨a1, b1, c, d, e, f9, g, i, q⟩ := hR
  have gu : ∀ u, u < w.2.2.1 → ∀ k, fa_wr G cc f w.2.2.1 (100 + u) k = if cc u = true then f (G (100 + u)) k else G (100 + u) k := fun u hu k => by
    rw [fa_wr_un _ hu]; split <;> rfl
  have gs : ∀ u, u < w.2.2.1 → ∀ k, k ≠ 2 → k ≠ 3 → k ≠ 5 → fa_wr G cc f w.2.2.1 (100 + u) k = G (100 + u) k := fun u hu k k1 k2 k3 => by
    rw [gu u hu]; split
    · exact hf _ _ k1 k2 k3
    · rfl
  have go : ∀ r, (r < 100 ∨ 112 ≤ r) → fa_wr G cc f w.2.2.1 r = G r := fun r hr => fa_wr_out _ (by omega)
  refine ⟨?_, fun u hu => ?_, fun p hp => ?_, fun u p hu hp => ?_, fun u p hu hp => ?_, fun k hk => ?_, fun u p q1 q2 q3 => ?_, fun u q1 q2 => ?_, fun p q1 q2 => ?_⟩
  · rw [ho 400 (by omega) (by omega) (by omega), go 0 (by omega)]; exact a1
  · obtain ⟨y1, y2, y3, y4, y5, y6⟩ := b1 u hu
    obtain ⟨z1, z2, z3⟩ := h5 u hu
    rw [ho 403 (by omega) (by omega) (by omega), ho 404 (by omega) (by omega) (by omega), ho 406 (by omega) (by omega) (by omega), gs u hu 0 (by omega) (by omega) (by omega), gs u hu 1 (by omega) (by omega) (by omega), gs u hu 4 (by omega) (by omega) (by omega), gu u hu 2, gu u hu 3, gu u hu 5]
    exact ⟨y1, y2, z1, y4, z2, z3⟩
  · rw [ho 412 (by omega) (by omega) (by omega), ho 413 (by omega) (by omega) (by omega), ho 414 (by omega) (by omega) (by omega), ho 415 (by omega) (by omega) (by omega), ho 416 (by omega) (by omega) (by omega), go (300 + p) (by omega)]; exact c p hp
  · rw [ho 409 (by omega) (by omega) (by omega), gs u hu 6 (by omega) (by omega) (by omega)]; exact d u p hu hp
  · rw [ho 410 (by omega) (by omega) (by omega), go (100 + u + 100) (by omega)]; exact e u p hu hp
  · rw [ho 417 (by omega) (by omega) (by omega), go 3 (by omega)]; exact f9 k hk
  · rw [ho 409 (by omega) (by omega) (by omega), ho 410 (by omega) (by omega) (by omega)]; exact g u p q1 q2 q3
  · rw [h8 u q1]; exact i u q1 q2
  · rw [ho 416 (by omega) (by omega) (by omega)]; exact q p q1 q2
end MO
