/-! THE CLASS AS FUNCTIONS, on: what its loops write, groups, rules, costs. -/
section JDE
variable {l : Launch} {D : va_G} {w : wd_T} {own : String} {cc : ByteArray} {nL : Nat} {ret : Option FieldType} {tab : List ExceptionTableEntry} {R : Room} {mc ms : Nat} {Qp : jd_P} {kc ks : Nat} {pc : Nat} {lo : jl_T} {st : List av_T} {S S' : Nat → Nat → Int32} {L L' : Nat → Nat → Int64}
theorem jd_eqS (h : S = S') (k : jd_J l D w own cc nL ret tab R mc ms Qp kc ks pc lo st S' L) : jd_J l D w own cc nL ret tab R mc ms Qp kc ks pc lo st S L := h ▸ k
theorem jd_eqL (h : L = L') (k : jd_J l D w own cc nL ret tab R mc ms Qp kc ks pc lo st S L') : jd_J l D w own cc nL ret tab R mc ms Qp kc ks pc lo st S L := h ▸ k
end JDE
/-- the units below n for which c holds get the row that f makes -/
def fa_wr (S : Nat → Nat → Int32) (c : Nat → Bool) (f : (Nat → Int32) → Nat → Int32) : Nat → Nat → Nat → Int32
  | 0 => S
  | u + 1 => if c u = true then va_up (fa_wr S c f u) (100 + u) (f (S (100 + u))) else fa_wr S c f u
theorem fa_wr_out {S : Nat → Nat → Int32} {c : Nat → Bool} {f : (Nat → Int32) → Nat → Int32} {r : Nat} : ∀ n, (r < 100 ∨ 100 + n ≤ r) → fa_wr S c f n r = S r := by
  intro n
  induction n with
  | zero => intro _; rfl
  | succ n ih =>
    intro h
    simp only [fa_wr]
    split
    · rw [va_up_ne _ _ (by omega)]; exact ih (by omega)
    · exact ih (by omega)
theorem fa_wr_at {S : Nat → Nat → Int32} {c : Nat → Bool} {f : (Nat → Int32) → Nat → Int32} (u : Nat) : fa_wr S c f u (100 + u) = S (100 + u) := fa_wr_out u (Or.inr (Nat.le_refl _))
theorem fa_wr_un {S : Nat → Nat → Int32} {c : Nat → Bool} {f : (Nat → Int32) → Nat → Int32} {v : Nat} : ∀ n, v < n → fa_wr S c f n (100 + v) = if c v = true then f (S (100 + v)) else S (100 + v) := by
  intro n
  induction n with
  | zero => intro h; omega
  | succ n ih =>
    intro h
    simp only [fa_wr]
    by_cases e : v = n
    · subst e
      by_cases hc : c v = true
      · rw [if_pos hc, if_pos hc, va_up_self]
      · rw [if_neg hc, if_neg hc, fa_wr_at]
    · by_cases hc : c n = true
      · rw [if_pos hc, va_up_ne _ _ (by omega)]; exact ih (by omega)
      · rw [if_neg hc]; exact ih (by omega)
theorem fa_in_wr {S : Nat → Nat → Int32} {c : Nat → Bool} {f : (Nat → Int32) → Nat → Int32} (u : Nat) (g : Int32) : fa_in (fa_wr S c f u) u g = fa_in S u g := by
  unfold fa_in; rw [fa_wr_at]
theorem ok_N_wr {w : wd_T} {S : Nat → Nat → Int32} {c : Nat → Bool} {f : (Nat → Int32) → Nat → Int32} {n : Nat} (h : ok_N w S) : ok_N w (fa_wr S c f n) := by
  unfold ok_N
  rw [fa_wr_out (r := 0) n (Or.inl (by omega))]
  exact h
/-- a group's row: 0 number, 1 count, 2 size, 3 heaviest, 4 kinds, 5 notAt, 6 fixed -/
def fa_g0 (n : Int32) : Nat → Int32 := fun k => if k = 0 then n else if k = 6 then -1 else 0
def fa_tk (g u : Nat → Int32) (wt : Int32) : Nat → Int32 := fun k =>
  if k = 0 then g 0 else if k = 1 then g 1 + 1 else if k = 2 then g 2 + u 1 else if k = 3 then (if g 3 < wt then wt else g 3) else if k = 4 then g 4 ||| ((1 : Int32) <<< (u 0 &&& 31)) else if k = 5 then g 5 ||| u 6
  else if k = 6 then (if u 4 = -1 then g 6 else if g 6 = -1 ∨ g 6 = u 4 then u 4 else -2) else 0
def fa_ga (S : Nat → Nat → Int32) (g : Int32) : Nat → Nat → Int32
  | 0 => fa_g0 g
  | u + 1 => if fa_in S u g = true then fa_tk (fa_ga S g u) (S (100 + u)) (S 3 (S (100 + u) 0).toNatClampNeg) else fa_ga S g u
/-- the first rule that bars the group of the row g from the place of the row q -/
def fa_br (g q : Nat → Int32) (p : Int32) : Int32 :=
  if ¬ q 4 = 0 then 1 else if ¬ g 4 &&& (q 0 ^^^ (-1)) = 0 then 2 else if ¬ (g 5 >>> (p &&& 31)) &&& 1 = 0 then 3 else if ¬ g 2 ≤ q 3 then 4 else if ¬ g 6 = -1 ∧ ¬ g 6 = p then 5 else 0
def fa_co (S : Nat → Nat → Int32) (g : Nat → Int32) (gn p : Nat) : Int32 := if S (100 + gn + 100) p = -1 then S (300 + p) 2 * g 3 + S (300 + p) 3 - g 2 else S (100 + gn + 100) p
def fa_ch (S : Nat → Nat → Int32) (g : Nat → Int32) (gn : Nat) (taken : Int32) : Nat → Int32 × Int32
  | 0 => (-1, 0)
  | p + 1 => if (taken >>> (nI p &&& 31)) &&& 1 = 0 ∧ fa_br g (S (300 + p)) (nI p) = 0 ∧ ((fa_ch S g gn taken p).1 = -1 ∨ fa_co S g gn p < (fa_ch S g gn taken p).2) then (nI p, fa_co S g gn p) else fa_ch S g gn taken p
theorem up_4u (S : Nat → Nat → Int32) (r : Nat → Int32) (u : Nat) : va_up S 4 r (100 + u) = S (100 + u) := va_up_ne _ _ (by omega)
theorem up_40 (S : Nat → Nat → Int32) (r : Nat → Int32) : va_up S 4 r 0 = S 0 := va_up_ne _ _ (by omega)
theorem up_43 (S : Nat → Nat → Int32) (r : Nat → Int32) : va_up S 4 r 3 = S 3 := va_up_ne _ _ (by omega)
theorem up_44 (S : Nat → Nat → Int32) (r : Nat → Int32) : va_up S 4 r 4 = r := va_up_self _ _ _
theorem fa_in_4 (S : Nat → Nat → Int32) (r : Nat → Int32) (u : Nat) (g : Int32) : fa_in (va_up S 4 r) u g = fa_in S u g := by
  unfold fa_in; rw [up_4u]
theorem ok_N_4 {w : wd_T} {S : Nat → Nat → Int32} {r : Nat → Int32} (h : ok_N w S) : ok_N w (va_up S 4 r) := by
  unfold ok_N; rw [up_40]; exact h
theorem wd_same4 {w : wd_T} {S : Nat → Nat → Int32} {L : Nat → Nat → Int64} {a b : Nat → Int32} (h : ∀ k, k < 7 → a k = b k) : wd_same w (va_up S 4 a) (va_up S 4 b) L L := by
  refine wd_same1 (r0 := 4) (fun r hr => by rw [va_up_ne _ _ hr, va_up_ne _ _ hr]) rfl rfl ?_
  show Sum.inr (2, [av_i (b 0), av_i (b 1), av_i (b 2), av_i (b 3), av_i (b 4), av_i (b 5), av_i (b 6)]) = Sum.inr (2, [av_i (a 0), av_i (a 1), av_i (a 2), av_i (a 3), av_i (a 4), av_i (a 5), av_i (a 6)])
  rw [h 0 (by omega), h 1 (by omega), h 2 (by omega), h 3 (by omega), h 4 (by omega), h 5 (by omega), h 6 (by omega)]
def po_S (S : Nat → Nat → Int32) (L : Nat → Nat → Int64) : jd_P := (fun v S' L' => v = none ∧ S = S' ∧ L = L', fun _ _ _ => False)
def po_rS (r : Nat) (S : Nat → Nat → Int32) (L : Nat → Nat → Int64) : jd_P := (fun v S' L' => v = some (av_r r) ∧ S = S' ∧ L = L', fun _ _ _ => False)
