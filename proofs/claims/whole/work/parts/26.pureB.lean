/-! THE BEST PLAN AS FUNCTIONS of its numbers: S 5 7 rows, L 5 8 the digit's worth, L (14 + row) prices, L 8 and L 9 the shifts, S 10 rowWith, S 11 columnBefore, L 12 distance, S 13 reached. -/
theorem ac_R {nU nP i : Nat} {row : Nat → Int32} {lr : Nat → Int64} (h : i < 9) : ac_of nU nP (14 + i) row lr = .inl (1, 21, .inl 1) := by
  rcases (show i = 0 ∨ i = 1 ∨ i = 2 ∨ i = 3 ∨ i = 4 ∨ i = 5 ∨ i = 6 ∨ i = 7 ∨ i = 8 by omega) with rfl | rfl | rfl | rfl | rfl | rfl | rfl | rfl | rfl <;> rfl
theorem rl_R {nU nP i : Nat} (h : i < 9) : rl_in nU nP (14 + i) = true := by
  unfold rl_in
  simp
  omega
section JDB
variable {l : Launch} {D : va_G} {w : wd_T} {own : String} {cc : ByteArray} {nL : Nat} {ret : Option FieldType} {tab : List ExceptionTableEntry} {R : Room} {mc ms : Nat} {Qp : jd_P} {kc ks : Nat} {pc : Nat} {lo : jl_T} {st : List av_T} {S : Nat → Nat → Int32} {L : Nat → Nat → Int64}
theorem jd_row {u : Nat} {i : Int32} (hi : i = nI u) (hu : u < 9) (hdg : decode cc pc = .ok (.aaload, 1)) (k : jd_J l D w own cc nL ret tab R mc ms Qp kc ks (pc + 1) lo (av_r (14 + u) :: st) S L) : jd_J l D w own cc nL ret tab R mc ms Qp kc ks pc lo (av_i i :: av_r 7 :: st) S L := by
  subst hi
  exact jd_aald (k0 := 5) rfl rfl rfl (vp_in_nI (show u < 9 by omega) (by omega)) (r2 := 14 + u) (by rw [nI_clamp (by omega)]; exact if_pos hu) rfl (by decide) hdg k
/-- a long array at a natural number -/
theorem jd_lldN {r n c : Nat} {i : Int32} (hc : ac_of w.2.2.1 w.2.2.2 r (S r) (L r) = .inl (1, n, .inl 1)) (hi : i = nI c) (hin : c < n) (hn : n < 5000) (hr : rl_in w.2.2.1 w.2.2.2 r = true) (hr2 : r < 501) (hdg : decode cc pc = .ok (.laload, 1)) (k : jd_J l D w own cc nL ret tab R mc ms Qp kc ks (pc + 1) lo (av_l (L r c) :: st) S L) : jd_J l D w own cc nL ret tab R mc ms Qp kc ks pc lo (av_i i :: av_r r :: st) S L := by
  subst hi
  refine jd_lald hc (vp_in_nI hin (by omega)) hr hr2 hdg ?_
  rw [nI_clamp (by omega)]; exact k
theorem jd_ildN {r n c : Nat} {i : Int32} (hc : ac_of w.2.2.1 w.2.2.2 r (S r) (L r) = .inl (0, n, .inl 0)) (hi : i = nI c) (hin : c < n) (hn : n < 5000) (hr : rl_in w.2.2.1 w.2.2.2 r = true) (hr2 : r < 501) (hdg : decode cc pc = .ok (.iaload, 1)) (k : jd_J l D w own cc nL ret tab R mc ms Qp kc ks (pc + 1) lo (av_i (S r c) :: st) S L) : jd_J l D w own cc nL ret tab R mc ms Qp kc ks pc lo (av_i i :: av_r r :: st) S L := by
  subst hi
  refine jd_iald hc (vp_in_nI hin (by omega)) hr hr2 hdg ?_
  rw [nI_clamp (by omega)]; exact k
theorem jd_zldN {r n c : Nat} {i : Int32} (hc : ac_of w.2.2.1 w.2.2.2 r (S r) (L r) = .inl (2, n, .inl 0)) (hi : i = nI c) (hin : c < n) (hn : n < 5000) (hr : rl_in w.2.2.1 w.2.2.2 r = true) (hr2 : r < 501) (hdg : decode cc pc = .ok (.baload, 1)) (k : jd_J l D w own cc nL ret tab R mc ms Qp kc ks (pc + 1) lo (av_i (S r c) :: st) S L) : jd_J l D w own cc nL ret tab R mc ms Qp kc ks pc lo (av_i i :: av_r r :: st) S L := by
  subst hi
  refine jd_zald hc (vp_in_nI hin (by omega)) hr hr2 hdg ?_
  rw [nI_clamp (by omega)]; exact k
theorem jd_lstN {r n c : Nat} {i : Int32} {x : Int64} (hc : ∀ f : Nat → Int64, ac_of w.2.2.1 w.2.2.2 r (S r) f = .inl (1, n, .inl 1)) (hi : i = nI c) (hin : c < n) (hn : n < 5000) (hr : rl_in w.2.2.1 w.2.2.2 r = true) (hr2 : r < 501) (hdg : decode cc pc = .ok (.lastore, 1)) (k : jd_J l D w own cc nL ret tab R mc ms Qp kc ks (pc + 1) lo st S (va_up L r (vp_updL (L r) c x))) : jd_J l D w own cc nL ret tab R mc ms Qp kc ks pc lo (av_l x :: av_i i :: av_r r :: st) S L := by
  subst hi
  refine jd_last hc (vp_in_nI hin (by omega)) hr hr2 hdg ?_
  rw [nI_clamp (by omega)]; exact k
theorem jd_istN {r n c : Nat} {i x : Int32} (hc : ∀ f : Nat → Int32, ac_of w.2.2.1 w.2.2.2 r f (L r) = .inl (0, n, .inl 0)) (hi : i = nI c) (hin : c < n) (hn : n < 5000) (hr : rl_in w.2.2.1 w.2.2.2 r = true) (hr2 : r < 501) (hdg : decode cc pc = .ok (.iastore, 1)) (k : jd_J l D w own cc nL ret tab R mc ms Qp kc ks (pc + 1) lo st (va_up S r (upd (S r) c x)) L) : jd_J l D w own cc nL ret tab R mc ms Qp kc ks pc lo (av_i x :: av_i i :: av_r r :: st) S L := by
  subst hi
  refine jd_iast hc (vp_in_nI hin (by omega)) hr hr2 hdg ?_
  rw [nI_clamp (by omega)]; exact k
theorem jd_zstN {r n c : Nat} {i x : Int32} (hc : ∀ f : Nat → Int32, ac_of w.2.2.1 w.2.2.2 r f (L r) = .inl (2, n, .inl 0)) (hx : vp_nar .boolean x = x) (hi : i = nI c) (hin : c < n) (hn : n < 5000) (hr : rl_in w.2.2.1 w.2.2.2 r = true) (hr2 : r < 501) (hdg : decode cc pc = .ok (.bastore, 1)) (k : jd_J l D w own cc nL ret tab R mc ms Qp kc ks (pc + 1) lo st (va_up S r (upd (S r) c x)) L) : jd_J l D w own cc nL ret tab R mc ms Qp kc ks pc lo (av_i x :: av_i i :: av_r r :: st) S L := by
  subst hi
  refine jd_zast hc hx (vp_in_nI hin (by omega)) hr hr2 hdg ?_
  rw [nI_clamp (by omega)]; exact k
end JDB
theorem cb_end {n c : Nat} (hn : n < 5000) (hc : c ≤ n + 1) (h : nI n < nI c) : c = n + 1 := by
  rw [nI_ltI (by omega) (by omega)] at h; omega
theorem cb_on {n c : Nat} (hn : n < 5000) (hc : c ≤ n + 1) (h : ¬ nI n < nI c) : c ≤ n := by
  rw [nI_ltI (by omega) (by omega)] at h; omega
theorem ul_up {M : Nat → Nat → Int64} {r c : Nat} {x : Int64} {P : Nat → Int64 → Prop} (h : ∀ i, i < c → P i (M r i)) (hx : P c x) : ∀ i, i < c + 1 → P i (va_up M r (vp_updL (M r) c x) r i) := by
  intro i hi
  rw [va_up_self]
  by_cases e : i = c
  · subst e; rw [pk_uLs]; exact hx
  · rw [pk_uLn e]; exact h i (by omega)
theorem us_up {M : Nat → Nat → Int32} {r c : Nat} {x : Int32} {P : Nat → Int32 → Prop} (h : ∀ i, i < c → P i (M r i)) (hx : P c x) : ∀ i, i < c + 1 → P i (va_up M r (upd (M r) c x) r i) := by
  intro i hi
  rw [va_up_self]
  by_cases e : i = c
  · subst e; simp only [upd, if_true]; exact hx
  · simp only [upd, if_neg e]; exact h i (by omega)
/-- how far column c is from the row -/
def bp_far (L : Nat → Nat → Int64) (row c : Nat) : Int64 := L (14 + row) c - L 8 row - L 9 c
def bp_u (S : Nat → Nat → Int32) (L : Nat → Nat → Int64) (row n c : Nat) : Bool := decide (1 ≤ c) && decide (c < n) && decide (S 13 c = 0) && decide (bp_far L row c < L 12 c)
def bp_d (S : Nat → Nat → Int32) (L : Nat → Nat → Int64) (row n : Nat) : Nat → Int64 := fun c => if bp_u S L row n c = true then bp_far L row c else L 12 c
def bp_w (S : Nat → Nat → Int32) (L : Nat → Nat → Int64) (row f n : Nat) : Nat → Int32 := fun c => if bp_u S L row n c = true then nI f else S 11 c
theorem bp_u_ne {S : Nat → Nat → Int32} {L : Nat → Nat → Int64} {row n c : Nat} (h : c ≠ n) : bp_u S L row (n + 1) c = bp_u S L row n c := by
  unfold bp_u
  rw [show decide (c < n + 1) = decide (c < n) from decide_eq_decide.mpr (by omega)]
theorem bp_u_no {S : Nat → Nat → Int32} {L : Nat → Nat → Int64} {row n : Nat} : bp_u S L row n n = false := by simp [bp_u]
theorem bp_u_at {S : Nat → Nat → Int32} {L : Nat → Nat → Int64} {row n : Nat} (h : 1 ≤ n) : bp_u S L row (n + 1) n = (decide (S 13 n = 0) && decide (bp_far L row n < L 12 n)) := by simp [bp_u, h]
theorem bp_d_at {S : Nat → Nat → Int32} {L : Nat → Nat → Int64} {row n : Nat} : bp_d S L row n n = L 12 n := by simp [bp_d, bp_u_no]
theorem bp_dY {S : Nat → Nat → Int32} {L : Nat → Nat → Int64} {row n : Nat} (h : 1 ≤ n) (h1 : S 13 n = 0) (h2 : bp_far L row n < L 12 n) : vp_updL (bp_d S L row n) n (bp_far L row n) = bp_d S L row (n + 1) := by
  funext c
  by_cases e : c = n
  · subst e; rw [pk_uLs]; simp [bp_d, bp_u_at h, h1, h2]
  · rw [pk_uLn e]; simp only [bp_d, bp_u_ne e]
theorem bp_wY {S : Nat → Nat → Int32} {L : Nat → Nat → Int64} {row f n : Nat} (h : 1 ≤ n) (h1 : S 13 n = 0) (h2 : bp_far L row n < L 12 n) : upd (bp_w S L row f n) n (nI f) = bp_w S L row f (n + 1) := by
  funext c
  by_cases e : c = n
  · subst e; simp [upd, bp_w, bp_u_at h, h1, h2]
  · simp only [upd, if_neg e, bp_w, bp_u_ne e]
theorem bp_dN {S : Nat → Nat → Int32} {L : Nat → Nat → Int64} {row n : Nat} (h : 1 ≤ n) (h1 : ¬ (S 13 n = 0 ∧ bp_far L row n < L 12 n)) : bp_d S L row n = bp_d S L row (n + 1) := by
  funext c
  by_cases e : c = n
  · subst e
    rw [bp_d_at]
    simp only [bp_d]
    rw [if_neg (by rw [bp_u_at h]; simp only [Bool.and_eq_true, decide_eq_true_eq]; exact h1)]
  · simp only [bp_d, bp_u_ne e]
theorem bp_wN {S : Nat → Nat → Int32} {L : Nat → Nat → Int64} {row f n : Nat} (h : 1 ≤ n) (h1 : ¬ (S 13 n = 0 ∧ bp_far L row n < L 12 n)) : bp_w S L row f n = bp_w S L row f (n + 1) := by
  funext c
  by_cases e : c = n
  · subst e
    simp only [bp_w]
    rw [if_neg (by rw [bp_u_no]; decide), if_neg (by rw [bp_u_at h]; simp only [Bool.and_eq_true, decide_eq_true_eq]; exact h1)]
  · simp only [bp_w, bp_u_ne e]
/-- the nearest of the columns below n that aren't reached -/
def bp_n (S : Nat → Nat → Int32) (L : Nat → Nat → Int64) : Nat → Nat
  | 0 => 0
  | c + 1 => if 1 ≤ c ∧ S 13 c = 0 ∧ (bp_n S L c = 0 ∨ L 12 c < L 12 (bp_n S L c)) then c else bp_n S L c
theorem bp_n_le {S : Nat → Nat → Int32} {L : Nat → Nat → Int64} : ∀ n, bp_n S L n ≤ n
  | 0 => Nat.le_refl 0
  | n + 1 => by
    simp only [bp_n]
    split
    · omega
    · have := bp_n_le (S := S) (L := L) n; omega
/-- the shifts after the columns below n -/
def bp_s (S : Nat → Nat → Int32) (L : Nat → Nat → Int64) (x : Int64) : Nat → Nat → Nat → Int64
  | 0 => L
  | c + 1 => if S 13 c = 0 then va_up (bp_s S L x c) 12 (vp_updL (bp_s S L x c 12) c (bp_s S L x c 12 c - x))
    else va_up (va_up (bp_s S L x c) 8 (vp_updL (bp_s S L x c 8) (S 10 c).toNatClampNeg (bp_s S L x c 8 (S 10 c).toNatClampNeg + x))) 9 (vp_updL (bp_s S L x c 9) c (bp_s S L x c 9 c - x))
/-- prices of a new row before places are offered -/
def bp_ag (f : Nat → Int64) (dw : Int64) (n : Nat) : Nat → Int64 := fun c => if 1 ≤ c ∧ c < n then (if c ≤ 12 then 6525847399461442 else 6525846583730721 + 12 * dw) else f c
theorem bp_ag_at {f : Nat → Int64} {dw x : Int64} {n : Nat} (h : 1 ≤ n) (hx : x = if n ≤ 12 then 6525847399461442 else 6525846583730721 + 12 * dw) : vp_updL (bp_ag f dw n) n x = bp_ag f dw (n + 1) := by
  funext c
  by_cases e : c = n
  · subst e
    rw [pk_uLs, hx]
    simp only [bp_ag]
    rw [if_pos (show 1 ≤ c ∧ c < c + 1 from ⟨h, by omega⟩)]
  · rw [pk_uLn e]
    simp only [bp_ag]
    by_cases q : 1 ≤ c ∧ c < n
    · rw [if_pos q, if_pos (show 1 ≤ c ∧ c < n + 1 from ⟨q.1, by omega⟩)]
    · rw [if_neg q, if_neg (show ¬ (1 ≤ c ∧ c < n + 1) from fun z => q ⟨z.1, by omega⟩)]
theorem bp_ag_1 {f : Nat → Int64} {dw : Int64} : bp_ag f dw 1 = f := by
  funext c
  simp only [bp_ag]
  rw [if_neg (by omega)]
def bp_pg (S : Nat → Nat → Int32) (r : Int32) : Nat → Nat → Int32
  | 0, _ => -1
  | k + 1, c => if S 10 c = r then nI c - 1 else bp_pg S r k (c + 1)
/-- what the clearing leaves -/
def bp_cl (S S' : Nat → Nat → Int32) (L L' : Nat → Nat → Int64) : Prop := sw_S S S' ∧ sw_L L L' ∧ S' 5 7 = 0 ∧ L' 5 8 = 815730721 ∧ (∀ i, i < 9 → L' 8 i = 0) ∧ (∀ c, c < 21 → L' 9 c = 0) ∧ (∀ c, c < 21 → S' 10 c = 0)
