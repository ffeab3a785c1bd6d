/-! THE CLASS AS FUNCTIONS of its numbers: S (100 + u) holds unit u (0 kind, 1 size, 2 group, 3 stand, 4 fixed, 5 done, 6 notAt), S (300 + p) place p (0 kinds, 1 zone, 2 way, 3 free, 4 blocked), S 0 6 and S 0 7 how many there are. -/
def bi_of (b : Bool) : Int32 := if b = true then 1 else 0
def fa_in (S : Nat → Nat → Int32) (u : Nat) (g : Int32) : Bool := decide (S (100 + u) 5 = 0) && decide (S (100 + u) 2 = g)
def fa_gr (S : Nat → Nat → Int32) (u : Nat) : Bool := fa_in S u (nI u)
def fa_pl (S : Nat → Nat → Int32) (u : Nat) : Bool := decide (S (100 + u) 5 = 0) && !decide (S (100 + u) 3 = -1)
def fa_cnt (S : Nat → Nat → Int32) : Nat → Int32
  | 0 => 0
  | u + 1 => if fa_gr S u = true then fa_cnt S u + 1 else fa_cnt S u
def fa_dn (S : Nat → Nat → Int32) : Nat → Int32
  | 0 => 0
  | u + 1 => if S (100 + u) 5 = 0 then fa_dn S u else fa_dn S u + 1
def fa_pf (S : Nat → Nat → Int32) (p : Int32) : Nat → Nat → Int32
  | 0, _ => -1
  | k + 1, u => if fa_gr S u = true ∧ S (100 + u) 3 = p then nI u else fa_pf S p k (u + 1)
def fa_pp (S : Nat → Nat → Int32) : Nat → Int32
  | 0 => 0
  | u + 1 => if fa_pl S u = true then fa_pp S u ||| ((1 : Int32) <<< (S (100 + u) 3 &&& 31)) else fa_pp S u
/-- how many there are -/
def ok_N (w : wd_T) (S : Nat → Nat → Int32) : Prop := w.2.2.1 ≤ 12 ∧ w.2.2.2 ≤ 12 ∧ S 0 6 = nI w.2.2.1 ∧ S 0 7 = nI w.2.2.2
theorem nI_end {x : Int32} {n u : Nat} (hx : x = nI n) (hn : n ≤ 5000) (hu : u ≤ n) (h : x ≤ nI u) : u = n := by
  rw [hx, nI_leI (by omega) (by omega)] at h
  omega
theorem nI_on {x : Int32} {n u : Nat} (hx : x = nI n) (hn : n ≤ 5000) (hu : u ≤ n) (h : ¬ x ≤ nI u) : u < n := by
  rw [hx, nI_leI (by omega) (by omega)] at h
  omega
/-- a unit's numbers: its kind, its group's number, its stand, done or not -/
def ok_U (w : wd_T) (S : Nat → Nat → Int32) : Prop := ∀ u, u < w.2.2.1 → (∃ k, k < 8 ∧ S (100 + u) 0 = nI k) ∧ (∃ g, g ≤ u ∧ S (100 + u) 2 = nI g) ∧ (S (100 + u) 3 = -1 ∨ ∃ p, p < w.2.2.2 ∧ S (100 + u) 3 = nI p) ∧ (S (100 + u) 5 = 0 ∨ S (100 + u) 5 = 1)
def fa_gt (S : Nat → Nat → Int32) (u : Nat) (z : Int32) : Bool := fa_pl S u && decide (S (300 + (S (100 + u) 3).toNatClampNeg) 1 = z)
def fa_ct (S : Nat → Nat → Int32) (n : Nat) (x : Int32) : Int32 := if x = 0 then S 0 6 else if x = 1 then S 0 7 else if x = 2 then fa_cnt S n else if x = 3 then fa_dn S n else -1
theorem i32_4 (x : Int32) : x = 0 ∨ x = 1 ∨ x = 2 ∨ x = 3 ∨ ((x.toInt < 0 ∨ 3 < x.toInt) ∧ ¬ x = 0 ∧ ¬ x = 1 ∧ ¬ x = 2 ∧ ¬ x = 3) := by
  by_cases h : x.toInt < 0 ∨ 3 < x.toInt
  · refine Or.inr (Or.inr (Or.inr (Or.inr ⟨h, fun e => ?_, fun e => ?_, fun e => ?_, fun e => ?_⟩)))
    · subst e; revert h; decide
    · subst e; revert h; decide
    · subst e; revert h; decide
    · subst e; revert h; decide
  · have h0 : x.toInt = 0 ∨ x.toInt = 1 ∨ x.toInt = 2 ∨ x.toInt = 3 := by omega
    rcases h0 with e | e | e | e
    · exact Or.inl (Int32.toInt_inj.mp (e.trans (by decide)))
    · exact Or.inr (Or.inl (Int32.toInt_inj.mp (e.trans (by decide))))
    · exact Or.inr (Or.inr (Or.inl (Int32.toInt_inj.mp (e.trans (by decide)))))
    · exact Or.inr (Or.inr (Or.inr (Or.inl (Int32.toInt_inj.mp (e.trans (by decide))))))
