/-! WHAT THE CLASS'S OWN SCRATCH (roles 4 to 22) DOESN'T TOUCH, and the plans one by one. -/
def sw_S (S T : Nat → Nat → Int32) : Prop := ∀ r, (r < 4 ∨ 23 ≤ r) → T r = S r
def sw_L (L M : Nat → Nat → Int64) : Prop := ∀ r, 23 ≤ r → M r = L r
theorem sw_refl (S : Nat → Nat → Int32) : sw_S S S := fun _ _ => rfl
theorem sw_reflL (L : Nat → Nat → Int64) : sw_L L L := fun _ _ => rfl
theorem sw_S.up {S T : Nat → Nat → Int32} (h : sw_S S T) {r : Nat} (h1 : 4 ≤ r) (h2 : r < 23) (row : Nat → Int32) : sw_S S (va_up T r row) := fun q hq => by rw [va_up_ne _ _ (by omega)]; exact h q hq
theorem sw_L.up {L M : Nat → Nat → Int64} (h : sw_L L M) {r : Nat} (h2 : r < 23) (row : Nat → Int64) : sw_L L (va_up M r row) := fun q hq => by rw [va_up_ne _ _ (by omega)]; exact h q hq
theorem sw_S.tr {S T U : Nat → Nat → Int32} (h : sw_S S T) (h2 : sw_S T U) : sw_S S U := fun q hq => (h2 q hq).trans (h q hq)
theorem sw_L.tr {S T U : Nat → Nat → Int64} (h : sw_L S T) (h2 : sw_L T U) : sw_L S U := fun q hq => (h2 q hq).trans (h q hq)
theorem sw_S.sy {S T : Nat → Nat → Int32} (h : sw_S S T) : sw_S T S := fun q hq => (h q hq).symm
theorem sw_S.u {S T : Nat → Nat → Int32} (h : sw_S S T) (u : Nat) : T (100 + u) = S (100 + u) := h _ (by omega)
theorem sw_S.c {S T : Nat → Nat → Int32} (h : sw_S S T) (u : Nat) : T (100 + u + 100) = S (100 + u + 100) := h _ (by omega)
theorem sw_S.p {S T : Nat → Nat → Int32} (h : sw_S S T) (u : Nat) : T (300 + u) = S (300 + u) := h _ (by omega)
theorem sw_S.z {S T : Nat → Nat → Int32} (h : sw_S S T) : T 0 = S 0 := h _ (by omega)
theorem sw_S.wt {S T : Nat → Nat → Int32} (h : sw_S S T) : T 3 = S 3 := h _ (by omega)
theorem fa_in_sw {S T : Nat → Nat → Int32} (h : sw_S S T) (u : Nat) (g : Int32) : fa_in T u g = fa_in S u g := by
  unfold fa_in; rw [h.u]
theorem fa_gr_sw {S T : Nat → Nat → Int32} (h : sw_S S T) (u : Nat) : fa_gr T u = fa_gr S u := fa_in_sw h u _
theorem fa_pl_sw {S T : Nat → Nat → Int32} (h : sw_S S T) (u : Nat) : fa_pl T u = fa_pl S u := by
  unfold fa_pl; rw [h.u]
theorem fa_ga_sw {S T : Nat → Nat → Int32} (h : sw_S S T) (g : Int32) : ∀ n, fa_ga T g n = fa_ga S g n
  | 0 => rfl
  | n + 1 => by simp only [fa_ga]; rw [fa_in_sw h, fa_ga_sw h g n, h.u, h.wt]
theorem fa_co_sw {S T : Nat → Nat → Int32} (h : sw_S S T) (g : Nat → Int32) (gn p : Nat) : fa_co T g gn p = fa_co S g gn p := by
  unfold fa_co; rw [h.c, h.p]
theorem fa_ch_sw {S T : Nat → Nat → Int32} (h : sw_S S T) (g : Nat → Int32) (gn : Nat) (t : Int32) : ∀ n, fa_ch T g gn t n = fa_ch S g gn t n
  | 0 => rfl
  | n + 1 => by simp only [fa_ch]; rw [fa_ch_sw h g gn t n, fa_co_sw h, h.p]
theorem fa_cnt_sw {S T : Nat → Nat → Int32} (h : sw_S S T) : ∀ n, fa_cnt T n = fa_cnt S n
  | 0 => rfl
  | n + 1 => by simp only [fa_cnt]; rw [fa_cnt_sw h n, fa_gr_sw h]
theorem ok_N_sw {w : wd_T} {S T : Nat → Nat → Int32} (h : sw_S S T) (hN : ok_N w S) : ok_N w T := by
  unfold ok_N; rw [h.z]; exact hN
theorem ok_U_sw {w : wd_T} {S T : Nat → Nat → Int32} (h : sw_S S T) (hN : ok_U w S) : ok_U w T := by
  intro u hu; rw [h.u]; exact hN u hu
theorem fa_ga_0 (S : Nat → Nat → Int32) (g : Int32) : ∀ n, fa_ga S g n 0 = g
  | 0 => rfl
  | n + 1 => by
    simp only [fa_ga]
    split
    · show fa_ga S g n 0 = g; exact fa_ga_0 S g n
    · exact fa_ga_0 S g n
theorem fa_ch_in (S : Nat → Nat → Int32) (g : Nat → Int32) (gn : Nat) (t : Int32) : ∀ n, (fa_ch S g gn t n).1 = -1 ∨ ∃ p, p < n ∧ (fa_ch S g gn t n).1 = nI p
  | 0 => Or.inl rfl
  | n + 1 => by
    simp only [fa_ch]
    split
    · exact Or.inr ⟨n, by omega, rfl⟩
    · rcases fa_ch_in S g gn t n with e | ⟨p, hp, e⟩
      · exact Or.inl e
      · exact Or.inr ⟨p, by omega, e⟩
/-- ends with an answer, the scratch apart -/
def po_w (v : Int32) (S : Nat → Nat → Int32) (L : Nat → Nat → Int64) : jd_P := (fun v' S' L' => v' = some (av_i v) ∧ sw_S S S' ∧ sw_L L L', fun _ _ _ => False)
def po_wv (S : Nat → Nat → Int32) (L : Nat → Nat → Int64) : jd_P := (fun v' S' L' => v' = none ∧ sw_S S S' ∧ sw_L L L', fun _ _ _ => False)
def po_wd (v : Int32) (P : (Nat → Int32) → Prop) (S : Nat → Nat → Int32) (L : Nat → Nat → Int64) : jd_P := (fun v' S' L' => v' = some (av_i v) ∧ P (S' 6) ∧ sw_S S S' ∧ sw_L L L', fun _ _ _ => False)
def fa_bd (S : Nat → Nat → Int32) (nU nP : Nat) : Nat → Nat → Int32 → Int32
  | 0, _, c => c
  | k + 1, u, c => if fa_gr S u = true then (if (fa_ch S (fa_ga S (nI u) nU) u 0 nP).1 = -1 then -1 else fa_bd S nU nP k (u + 1) (c + fa_co S (fa_ga S (nI u) nU) u (fa_ch S (fa_ga S (nI u) nU) u 0 nP).1.toNatClampNeg)) else fa_bd S nU nP k (u + 1) c
def fa_pc (S : Nat → Nat → Int32) (nU : Nat) : Nat → Int32
  | 0 => 0
  | u + 1 => if fa_gr S u = true ∧ fa_pl S u = true then fa_pc S nU u + fa_co S (fa_ga S (nI u) nU) u (S (100 + u) 3).toNatClampNeg else fa_pc S nU u
/-- one by one: taken, sum, draft -/
def fa_d1 (S : Nat → Nat → Int32) (nU nP : Nat) : Nat → Int32 × Int32 × (Nat → Int32)
  | 0 => (0, 0, fun _ => 0)
  | u + 1 => if fa_gr S u = true then (if (fa_ch S (fa_ga S (nI u) nU) u (fa_d1 S nU nP u).1 nP).1 = -1 then ((fa_d1 S nU nP u).1, (fa_d1 S nU nP u).2.1, upd (fa_d1 S nU nP u).2.2 u (-1))
      else ((fa_d1 S nU nP u).1 ||| ((1 : Int32) <<< ((fa_ch S (fa_ga S (nI u) nU) u (fa_d1 S nU nP u).1 nP).1 &&& 31)), (fa_d1 S nU nP u).2.1 + fa_co S (fa_ga S (nI u) nU) u (fa_ch S (fa_ga S (nI u) nU) u (fa_d1 S nU nP u).1 nP).1.toNatClampNeg, upd (fa_d1 S nU nP u).2.2 u (fa_ch S (fa_ga S (nI u) nU) u (fa_d1 S nU nP u).1 nP).1)) else fa_d1 S nU nP u
/-- the draft is taken -/
def fa_td (S : Nat → Nat → Int32) (n : Nat) : Nat → Nat → Nat → Int32
  | 0 => S
  | u + 1 => if fa_gr (fa_td S n u) u = true then fa_wr (fa_td S n u) (fun v => fa_in (fa_td S n u) v (nI u)) (fun row => upd row 3 (fa_td S n u 6 u)) n else fa_td S n u
theorem fa_td_out {S : Nat → Nat → Int32} {n r : Nat} (h : r < 100 ∨ 100 + n ≤ r) : ∀ k, fa_td S n k r = S r
  | 0 => rfl
  | k + 1 => by
    simp only [fa_td]
    split
    · rw [fa_wr_out n h]; exact fa_td_out h k
    · exact fa_td_out h k
theorem ok_N_td {w : wd_T} {S : Nat → Nat → Int32} {n k : Nat} (h : ok_N w S) : ok_N w (fa_td S n k) := by
  unfold ok_N; rw [fa_td_out (Or.inl (by omega))]; exact h
section D1
variable {S : Nat → Nat → Int32} {a b u : Nat}
theorem sw_d1n (hg : ¬ fa_gr S u = true) : fa_d1 S a b (u + 1) = fa_d1 S a b u := by
  simp only [fa_d1]; rw [if_neg hg]
theorem sw_d1a (hg : fa_gr S u = true) (h : ¬ (fa_ch S (fa_ga S (nI u) a) u (fa_d1 S a b u).1 b).1 = -1) : upd (fa_d1 S a b u).2.2 u (fa_ch S (fa_ga S (nI u) a) u (fa_d1 S a b u).1 b).1 = (fa_d1 S a b (u + 1)).2.2 := by
  conv => rhs; unfold fa_d1
  rw [if_pos hg]
  show _ = (if (fa_ch S (fa_ga S (nI u) a) u (fa_d1 S a b u).1 b).1 = -1 then _ else _ : Int32 × Int32 × (Nat → Int32)).2.2
  rw [if_neg h]
theorem sw_d1b (hg : fa_gr S u = true) (h : ¬ (fa_ch S (fa_ga S (nI u) a) u (fa_d1 S a b u).1 b).1 = -1) : (fa_d1 S a b (u + 1)).1 = (fa_d1 S a b u).1 ||| ((1 : Int32) <<< ((fa_ch S (fa_ga S (nI u) a) u (fa_d1 S a b u).1 b).1 &&& 31)) := by
  conv => lhs; unfold fa_d1
  rw [if_pos hg]
  show (if (fa_ch S (fa_ga S (nI u) a) u (fa_d1 S a b u).1 b).1 = -1 then _ else _ : Int32 × Int32 × (Nat → Int32)).1 = _
  rw [if_neg h]
theorem sw_d1c (hg : fa_gr S u = true) (h : ¬ (fa_ch S (fa_ga S (nI u) a) u (fa_d1 S a b u).1 b).1 = -1) : (fa_d1 S a b (u + 1)).2.1 = (fa_d1 S a b u).2.1 + fa_co S (fa_ga S (nI u) a) u (fa_ch S (fa_ga S (nI u) a) u (fa_d1 S a b u).1 b).1.toNatClampNeg := by
  conv => lhs; unfold fa_d1
  rw [if_pos hg]
  show (if (fa_ch S (fa_ga S (nI u) a) u (fa_d1 S a b u).1 b).1 = -1 then _ else _ : Int32 × Int32 × (Nat → Int32)).2.1 = _
  rw [if_neg h]
theorem sw_d1d (hg : fa_gr S u = true) (h : (fa_ch S (fa_ga S (nI u) a) u (fa_d1 S a b u).1 b).1 = -1) : upd (fa_d1 S a b u).2.2 u (fa_ch S (fa_ga S (nI u) a) u (fa_d1 S a b u).1 b).1 = (fa_d1 S a b (u + 1)).2.2 := by
  conv => rhs; unfold fa_d1
  rw [if_pos hg]
  show _ = (if (fa_ch S (fa_ga S (nI u) a) u (fa_d1 S a b u).1 b).1 = -1 then _ else _ : Int32 × Int32 × (Nat → Int32)).2.2
  rw [if_pos h, h]
theorem sw_d1e (hg : fa_gr S u = true) (h : (fa_ch S (fa_ga S (nI u) a) u (fa_d1 S a b u).1 b).1 = -1) : (fa_d1 S a b (u + 1)).1 = (fa_d1 S a b u).1 := by
  conv => lhs; unfold fa_d1
  rw [if_pos hg]
  show (if (fa_ch S (fa_ga S (nI u) a) u (fa_d1 S a b u).1 b).1 = -1 then _ else _ : Int32 × Int32 × (Nat → Int32)).1 = _
  rw [if_pos h]
theorem sw_d1f (hg : fa_gr S u = true) (h : (fa_ch S (fa_ga S (nI u) a) u (fa_d1 S a b u).1 b).1 = -1) : (fa_d1 S a b (u + 1)).2.1 = (fa_d1 S a b u).2.1 := by
  conv => lhs; unfold fa_d1
  rw [if_pos hg]
  show (if (fa_ch S (fa_ga S (nI u) a) u (fa_d1 S a b u).1 b).1 = -1 then _ else _ : Int32 × Int32 × (Nat → Int32)).2.1 = _
  rw [if_pos h]
theorem sw_dr {P : Nat → Prop} {d e : Nat → Int32} {n : Nat} {c : Int32} {T : Nat → Nat → Int32} {q : Nat} (h : ∀ v, v < n → P v → d v = e v) : ∀ v, v < n + 1 → P v → va_up T q (upd d n c) q v = upd e n c v := by
  intro v hv hp
  rw [va_up_self]
  by_cases hn : v = n
  · subst hn; simp [upd]
  · have := h v (by omega) hp; simp [upd, hn, this]
end D1
