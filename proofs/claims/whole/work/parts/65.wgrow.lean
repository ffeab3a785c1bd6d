/-! A WORLD WITH ONE UNIT MORE, WITH ONE PLACE MORE. -/
def wu (w : wd_T) (q q2 : Nat) : wd_T := (fun r => if r = 100 + w.2.2.1 then q else if r = 100 + w.2.2.1 + 100 then q2 else w.1 r, w.2.1, w.2.2.1 + 1, w.2.2.2)
def wp (w : wd_T) (q : Nat) : wd_T := (fun r => if r = 300 + w.2.2.2 then q else w.1 r, w.2.1, w.2.2.1, w.2.2.2 + 1)
section WUP
variable {w : wd_T} {q q2 : Nat}
theorem wu_o {r : Nat} (h1 : r ≠ 100 + w.2.2.1) (h2 : r ≠ 100 + w.2.2.1 + 100) : (wu w q q2).1 r = w.1 r := (if_neg h1).trans (if_neg h2)
theorem wu_a : (wu w q q2).1 (100 + w.2.2.1) = q := if_pos rfl
theorem wu_b : (wu w q q2).1 (100 + w.2.2.1 + 100) = q2 := (if_neg (by omega)).trans (if_pos rfl)
theorem wp_o {r : Nat} (h1 : r ≠ 300 + w.2.2.2) : (wp w q).1 r = w.1 r := if_neg h1
theorem wp_a : (wp w q).1 (300 + w.2.2.2) = q := if_pos rfl
theorem rl_wu {r : Nat} (h : rl_in (w.2.2.1 + 1) w.2.2.2 r = true) : r = 100 + w.2.2.1 ∨ r = 100 + w.2.2.1 + 100 ∨ rl_in w.2.2.1 w.2.2.2 r = true := by
  unfold rl_in at *
  simp only [Bool.or_eq_true, Bool.and_eq_true, decide_eq_true_eq] at h ⊢
  omega
theorem rl_wp {r : Nat} (h : rl_in w.2.2.1 (w.2.2.2 + 1) r = true) : r = 300 + w.2.2.2 ∨ rl_in w.2.2.1 w.2.2.2 r = true := by
  unfold rl_in at *
  simp only [Bool.or_eq_true, Bool.and_eq_true, decide_eq_true_eq] at h ⊢
  omega
/-- an object's fields, an array's places, that name roles which both worlds have alike -/
theorem en_same {w w' : wd_T} {r : Nat} {row : Nat → Int32} {lr : Nat → Int64} (h0 : w'.2.1 = w.2.1) (hc : ac_of w'.2.2.1 w'.2.2.2 r row lr = ac_of w.2.2.1 w.2.2.2 r row lr)
    (h1 : ∀ ci fs, ac_of w.2.2.1 w.2.2.2 r row lr = .inr (ci, fs) → ∀ x ∈ fs, av_v w'.1 x = av_v w.1 x) (h2 : ∀ k n f, ac_of w.2.2.1 w.2.2.2 r row lr = .inl (k, n, .inr f) → ∀ j, (f j).map w'.1 = (f j).map w.1) : wd_en w' r row lr = wd_en w r row lr := by
  unfold wd_en
  rw [hc, h0]
  cases hac : ac_of w.2.2.1 w.2.2.2 r row lr with
  | inl a =>
    obtain ⟨k, n, b⟩ := a
    cases b with
    | inl z => cases z <;> rfl
    | inr f =>
      show Sum.inl (_, _, _) = Sum.inl (_, _, _)
      rw [show (fun j => (f j).map w'.1) = fun j => (f j).map w.1 from funext (h2 k n f hac)]
  | inr a =>
    obtain ⟨ci, fs⟩ := a
    show Sum.inr (_, _) = Sum.inr (_, _)
    rw [List.map_congr_left (h1 ci fs hac)]
def fs_lo (fs : List av_T) (a b : Nat) : Bool := fs.all (fun x => match x with | .inr (.inr (.inl r)) => decide (a ≤ r) && decide (r < b) | _ => true)
theorem fs_in {fs : List av_T} {a b r : Nat} (h : fs_lo fs a b = true) (hx : av_r r ∈ fs) : a ≤ r ∧ r < b := by
  have := List.all_eq_true.mp h _ hx
  simpa using this
theorem ac_fsB {r : Nat} {row : Nat → Int32} {lr : Nat → Int64} {ci : Nat} {fs : List av_T} (h : ac_B r row lr = .inr (ci, fs)) {r' : Nat} (hx : av_r r' ∈ fs) : r' < 100 := by
  have hb : fs_lo fs 0 100 = true := by
    match r, h with
    | 0, h => cases h; rfl
    | 1, h => cases h
    | 2, h => cases h
    | 3, h => cases h
    | 4, h => cases h; rfl
    | 5, h => cases h; rfl
    | 6, h => cases h
    | 7, h => cases h
    | 8, h => cases h
    | 9, h => cases h
    | 10, h => cases h
    | 11, h => cases h
    | 12, h => cases h
    | 13, h => cases h
    | k + 14, h => cases h
  exact (fs_in hb hx).2
theorem ac_fsM {r : Nat} {row : Nat → Int32} {ci : Nat} {fs : List av_T} (h : ac_M r row = .inr (ci, fs)) {r' : Nat} (hx : av_r r' ∈ fs) : 400 ≤ r' := by
  have hb : fs_lo fs 400 500 = true := by
    match r, h with
    | 0, h => cases h; rfl
    | 1, h => cases h
    | 2, h => cases h
    | 3, h => cases h
    | 4, h => cases h
    | 5, h => cases h
    | 6, h => cases h
    | 7, h => cases h
    | 8, h => cases h
    | 9, h => cases h
    | 10, h => cases h
    | 11, h => cases h
    | 12, h => cases h
    | 13, h => cases h
    | 14, h => cases h
    | 15, h => cases h
    | 16, h => cases h
    | 17, h => cases h
    | 18, h => cases h
    | 19, h => cases h
    | 20, h => cases h
    | 21, h => cases h
    | 22, h => cases h
    | 23, h => cases h
    | 24, h => cases h
    | 25, h => cases h
    | 26, h => cases h
    | k + 27, h => cases h
  exact (fs_in hb hx).1
theorem ac_rfB {r : Nat} {row : Nat → Int32} {lr : Nat → Int64} {k n : Nat} {f : Nat → Option Nat} (h : ac_B r row lr = .inl (k, n, .inr f)) {j r' : Nat} (e : f j = some r') : r' < 100 := by
  match r, h with
  | 0, h => cases h
  | 1, h => cases h
  | 2, h => cases h
  | 3, h => cases h
  | 4, h => cases h
  | 5, h => cases h
  | 6, h => cases h
  | 8, h => cases h
  | 9, h => cases h
  | 10, h => cases h
  | 11, h => cases h
  | 12, h => cases h
  | 13, h => cases h
  | k + 14, h => cases h
  | 7, h =>
    cases h
    by_cases z : j < 9
    · have e2 : (if j < 9 then some (14 + j) else none : Option Nat) = some r' := e
      rw [if_pos z] at e2
      cases e2; omega
    · have e2 : (if j < 9 then some (14 + j) else none : Option Nat) = some r' := e
      rw [if_neg z] at e2
      cases e2
theorem ac_rfM {r : Nat} {row : Nat → Int32} {k n : Nat} {f : Nat → Option Nat} : ¬ ac_M r row = .inl (k, n, .inr f) := by
  intro h
  match r, h with
  | 0, h => cases h
  | 1, h => cases h
  | 2, h => cases h
  | 3, h => cases h
  | 4, h => cases h
  | 5, h => cases h
  | 6, h => cases h
  | 7, h => cases h
  | 8, h => cases h
  | 9, h => cases h
  | 10, h => cases h
  | 11, h => cases h
  | 12, h => cases h
  | 13, h => cases h
  | 14, h => cases h
  | 15, h => cases h
  | 16, h => cases h
  | 17, h => cases h
  | 18, h => cases h
  | 19, h => cases h
  | 20, h => cases h
  | 21, h => cases h
  | 22, h => cases h
  | 23, h => cases h
  | 24, h => cases h
  | 25, h => cases h
  | 26, h => cases h
  | k + 27, h => cases h
/-- which roles a cell names -/
theorem ac_fs {nU nP r : Nat} {row : Nat → Int32} {lr : Nat → Int64} {ci : Nat} {fs : List av_T} (h : ac_of nU nP r row lr = .inr (ci, fs)) : ∀ x ∈ fs, ∀ r', x = av_r r' → (r' < 100 ∨ (100 ≤ r ∧ r < 200 ∧ r' = r + 100) ∨ 400 ≤ r') := by
  intro x hx r' e
  subst e
  by_cases a1 : r = 1
  · subst a1; simp [ac_of] at h
  by_cases a2 : r = 2
  · subst a2; simp [ac_of] at h
  by_cases a3 : r < 100
  · have hb : ac_of nU nP r row lr = ac_B r row lr := by unfold ac_of; rw [if_neg a1, if_neg a2, if_pos a3]
    rw [hb] at h
    left
    exact ac_fsB h hx
  by_cases a4 : r < 200
  · have hb : ac_of nU nP r row lr = .inr (4, [av_i (row 0), av_i (row 1), av_i (row 2), av_i (row 3), av_i (row 4), av_i (row 5), av_i (row 6), av_r (r + 100)]) := by unfold ac_of; rw [if_neg a1, if_neg a2, if_neg a3, if_pos a4]
    rw [hb] at h
    simp at h
    obtain ⟨-, rfl⟩ := h
    simp at hx
    right; left
    omega
  by_cases a5 : r < 300
  · have hb : ac_of nU nP r row lr = .inl (0, 12, .inl 0) := by unfold ac_of; rw [if_neg a1, if_neg a2, if_neg a3, if_neg a4, if_pos a5]
    rw [hb] at h; simp at h
  by_cases a6 : r < 400
  · have hb : ac_of nU nP r row lr = .inr (3, [av_i (row 0), av_i (row 1), av_i (row 2), av_i (row 3), av_i (row 4)]) := by unfold ac_of; rw [if_neg a1, if_neg a2, if_neg a3, if_neg a4, if_neg a5, if_pos a6]
    rw [hb] at h
    simp at h
    obtain ⟨-, rfl⟩ := h
    simp at hx
  by_cases a7 : r < 500
  · have hb : ac_of nU nP r row lr = ac_M (r - 400) row := by unfold ac_of; rw [if_neg a1, if_neg a2, if_neg a3, if_neg a4, if_neg a5, if_neg a6, if_pos a7]
    rw [hb] at h
    right; right
    exact ac_fsM h hx
  · have hb : ac_of nU nP r row lr = .inl (1, 1, .inl 1) := by unfold ac_of; rw [if_neg a1, if_neg a2, if_neg a3, if_neg a4, if_neg a5, if_neg a6, if_neg a7]
    rw [hb] at h; simp at h
theorem ac_rf {nU nP r : Nat} {row : Nat → Int32} {lr : Nat → Int64} {k n : Nat} {f : Nat → Option Nat} (h : ac_of nU nP r row lr = .inl (k, n, .inr f)) : ∀ j r', f j = some r' → ((r = 1 ∧ j < nU ∧ r' = 100 + j) ∨ (r = 2 ∧ j < nP ∧ r' = 300 + j) ∨ r' < 100) := by
  intro j r' e
  by_cases a1 : r = 1
  · subst a1
    simp [ac_of] at h
    obtain ⟨-, -, rfl⟩ := h
    simp at e
    left; omega
  by_cases a2 : r = 2
  · subst a2
    simp [ac_of] at h
    obtain ⟨-, -, rfl⟩ := h
    simp at e
    right; left; omega
  by_cases a3 : r < 100
  · have hb : ac_of nU nP r row lr = ac_B r row lr := by unfold ac_of; rw [if_neg a1, if_neg a2, if_pos a3]
    rw [hb] at h
    exact Or.inr (Or.inr (ac_rfB h e))
  by_cases a4 : r < 200
  · have hb : ac_of nU nP r row lr = .inr (4, [av_i (row 0), av_i (row 1), av_i (row 2), av_i (row 3), av_i (row 4), av_i (row 5), av_i (row 6), av_r (r + 100)]) := by unfold ac_of; rw [if_neg a1, if_neg a2, if_neg a3, if_pos a4]
    rw [hb] at h; simp at h
  by_cases a5 : r < 300
  · have hb : ac_of nU nP r row lr = .inl (0, 12, .inl 0) := by unfold ac_of; rw [if_neg a1, if_neg a2, if_neg a3, if_neg a4, if_pos a5]
    rw [hb] at h; simp at h
  by_cases a6 : r < 400
  · have hb : ac_of nU nP r row lr = .inr (3, [av_i (row 0), av_i (row 1), av_i (row 2), av_i (row 3), av_i (row 4)]) := by unfold ac_of; rw [if_neg a1, if_neg a2, if_neg a3, if_neg a4, if_neg a5, if_pos a6]
    rw [hb] at h; simp at h
  by_cases a7 : r < 500
  · have hb : ac_of nU nP r row lr = ac_M (r - 400) row := by unfold ac_of; rw [if_neg a1, if_neg a2, if_neg a3, if_neg a4, if_neg a5, if_neg a6, if_pos a7]
    rw [hb] at h
    exact absurd h ac_rfM
  · have hb : ac_of nU nP r row lr = .inl (1, 1, .inl 1) := by unfold ac_of; rw [if_neg a1, if_neg a2, if_neg a3, if_neg a4, if_neg a5, if_neg a6, if_neg a7]
    rw [hb] at h; simp at h
theorem en_wu {r : Nat} {row : Nat → Int32} {lr : Nat → Int64} (h12 : w.2.2.1 < 12) (h13 : w.2.2.2 ≤ 12) (h1 : r ≠ 1) (hr : r ≠ 100 + w.2.2.1) (hl : r < 100 + w.2.2.1 ∨ 200 ≤ r) : wd_en (wu w q q2) r row lr = wd_en w r row lr := by
  refine en_same rfl ?_ (fun ci fs h x hx => ?_) (fun k n f h j => ?_)
  · show ac_of (w.2.2.1 + 1) w.2.2.2 r row lr = _
    unfold ac_of; rw [if_neg h1, if_neg h1]
  · rcases x with x | x | r' | a
    · rfl
    · rfl
    · show Value.ref _ = Value.ref _
      rw [wu_o]
      · rcases ac_fs h _ hx r' rfl with z | z | z <;> omega
      · rcases ac_fs h _ hx r' rfl with z | z | z <;> omega
    · rfl
  · cases hf : f j with
    | none => rfl
    | some r' =>
      show some _ = some _
      rw [wu_o]
      · rcases ac_rf h j r' hf with z | z | z <;> omega
      · rcases ac_rf h j r' hf with z | z | z <;> omega
theorem en_wu1 {row : Nat → Int32} {lr : Nat → Int64} (h12 : w.2.2.1 < 12) : wd_en (wu w q q2) 1 row lr = .inl (w.2.1 3, 12, .inr (.inr (.inr (.inr (va_up (fun j => (if j < w.2.2.1 then some (100 + j) else none : Option Nat).map w.1) w.2.2.1 (some q)))))) := by
  have h : wd_en (wu w q q2) 1 row lr = .inl (w.2.1 3, 12, .inr (.inr (.inr (.inr (fun j => (if j < w.2.2.1 + 1 then some (100 + j) else none : Option Nat).map (wu w q q2).1))))) := rfl
  rw [h]
  congr 7
  funext j
  by_cases e : j = w.2.2.1
  · subst e
    rw [va_up_self, if_pos (by omega)]
    show some _ = some _
    rw [wu_a]
  · rw [va_up_ne _ _ e]
    by_cases z : j < w.2.2.1
    · rw [if_pos (by omega), if_pos z]
      show some _ = some _
      rw [wu_o (by omega) (by omega)]
    · rw [if_neg (by omega), if_neg z]; rfl
theorem en_wp {r : Nat} {row : Nat → Int32} {lr : Nat → Int64} (h12 : w.2.2.1 ≤ 12) (h13 : w.2.2.2 < 12) (h1 : r ≠ 2) (hl : r < 300 + w.2.2.2 ∨ 400 ≤ r) : wd_en (wp w q) r row lr = wd_en w r row lr := by
  refine en_same rfl ?_ (fun ci fs h x hx => ?_) (fun k n f h j => ?_)
  · show ac_of w.2.2.1 (w.2.2.2 + 1) r row lr = _
    unfold ac_of; rw [if_neg h1, if_neg h1]
  · rcases x with x | x | r' | a
    · rfl
    · rfl
    · show Value.ref _ = Value.ref _
      rw [wp_o]
      rcases ac_fs h _ hx r' rfl with z | z | z <;> omega
    · rfl
  · cases hf : f j with
    | none => rfl
    | some r' =>
      show some _ = some _
      rw [wp_o]
      rcases ac_rf h j r' hf with z | z | z <;> omega
theorem en_wp2 {row : Nat → Int32} {lr : Nat → Int64} (h13 : w.2.2.2 < 12) : wd_en (wp w q) 2 row lr = .inl (w.2.1 4, 12, .inr (.inr (.inr (.inr (va_up (fun j => (if j < w.2.2.2 then some (300 + j) else none : Option Nat).map w.1) w.2.2.2 (some q)))))) := by
  have h : wd_en (wp w q) 2 row lr = .inl (w.2.1 4, 12, .inr (.inr (.inr (.inr (fun j => (if j < w.2.2.2 + 1 then some (300 + j) else none : Option Nat).map (wp w q).1))))) := rfl
  rw [h]
  congr 7
  funext j
  by_cases e : j = w.2.2.2
  · subst e
    rw [va_up_self, if_pos (by omega)]
    show some _ = some _
    rw [wp_a]
  · rw [va_up_ne _ _ e]
    by_cases z : j < w.2.2.2
    · rw [if_pos (by omega), if_pos z]
      show some _ = some _
      rw [wp_o (by omega)]
    · rw [if_neg (by omega), if_neg z]; rfl
end WUP
section WUF
variable {D : va_G} {w : wd_T} {S : Nat → Nat → Int32} {L : Nat → Nat → Int64} {H : Heap} {A : Nat → Prop} {q q2 : Nat}
theorem rl_or {r : Nat} (h : rl_in w.2.2.1 w.2.2.2 r = true) (h12 : w.2.2.1 ≤ 12) (h13 : w.2.2.2 ≤ 12) : (r ≠ 100 + w.2.2.1 ∧ r ≠ 100 + w.2.2.1 + 100 ∧ r ≠ 300 + w.2.2.2) ∧ (r < 100 + w.2.2.1 ∨ 200 ≤ r) ∧ (r < 300 + w.2.2.2 ∨ 400 ≤ r) := by
  unfold rl_in at h
  simp only [Bool.or_eq_true, Bool.and_eq_true, decide_eq_true_eq] at h
  omega
theorem wu_fold {n : Nat} {x y : Int32} (hn : w.2.2.1 = n) (h12 : n < 12) (h13 : w.2.2.2 ≤ 12) (hold : ∀ r, rl_in w.2.2.1 w.2.2.2 r = true → r < 501 → r ≠ 1 → va_at D zcl (rp_F w.1 (wd_en w) S L r) H)
    (h1 : va_at D zcl (w.1 1, .inl (w.2.1 3, 12, .inr (.inr (.inr (.inr (va_up (fun j => (if j < n then some (100 + j) else none : Option Nat).map w.1) n (some q))))))) H)
    (hq : va_at D zcl (q, .inr (4, [.int x, .int y, .int (nI n), .int (-1), .int (-1), .int 0, .int 0, .ref q2])) H) (hq2 : va_at D zcl (q2, .inl (w.2.1 0, 12, .inl (fun _ => -1))) H) :
    va_P D zcl (wd_W (wu w q q2) (va_up (va_up S (100 + n) (nu_row n x y)) (100 + n + 100) (fun _ => -1)) L) H := by
  subst hn
  refine wd_P_of (fun r hr hr2 => ?_)
  unfold rp_F
  rcases rl_wu hr with e | e | e
  · subst e
    rw [wu_a, va_up_ne _ _ (by omega), va_up_self, wd_obj (ac_U (by omega))]
    have e2 : (wu w q q2).1 (100 + w.2.2.1 + 100) = q2 := wu_b
    simp only [List.map, av_v, e2]
    exact hq
  · subst e
    rw [wu_b, va_up_self, wd_ints (ac_C (by omega))]
    exact hq2
  · obtain ⟨⟨o1, o2, -⟩, o3, -⟩ := rl_or e (by omega) h13
    rw [wu_o o1 o2, va_up_ne _ _ o2, va_up_ne _ _ o1]
    by_cases z : r = 1
    · subst z
      rw [en_wu1 h12]; exact h1
    · rw [en_wu h12 h13 z o1 o3]
      exact hold r e hr2 z
theorem wu_D {S' : Nat → Nat → Int32} {L' : Nat → Nat → Int64} (h12 : w.2.2.1 < 12) (h13 : w.2.2.2 ≤ 12) (hD : va_D A (wd_W w S L)) (hqA : A q) (hq2A : A q2) (hne : q ≠ q2) (hd : ∀ r, rl_in w.2.2.1 w.2.2.2 r = true → r < 501 → w.1 r ≠ q ∧ w.1 r ≠ q2) : va_D A (wd_W (wu w q q2) S' L') := by
  have ad : ∀ r, rl_in w.2.2.1 w.2.2.2 r = true → (wu w q q2).1 r = w.1 r := fun r h => by
    obtain ⟨⟨o1, o2, -⟩, -⟩ := rl_or h (by omega) h13
    exact wu_o o1 o2
  refine wd_D_of (fun r r' h1 h2 h3 h4 e => ?_) (fun r h1 h2 => ?_)
  · rcases rl_wu h1 with z | z | z <;> rcases rl_wu h3 with y | y | y
    · omega
    · subst z; subst y; rw [wu_a, wu_b] at e; exact absurd e hne
    · subst z; rw [wu_a, ad r' y] at e; exact absurd e.symm (hd r' y h4).1
    · subst z; subst y; rw [wu_a, wu_b] at e; exact absurd e.symm hne
    · omega
    · subst z; rw [wu_b, ad r' y] at e; exact absurd e.symm (hd r' y h4).2
    · subst y; rw [wu_a, ad r z] at e; exact absurd e (hd r z h2).1
    · subst y; rw [wu_b, ad r z] at e; exact absurd e (hd r z h2).2
    · rw [ad r z, ad r' y] at e; exact wd_D_inj hD z h2 y h4 e
  · rcases rl_wu h1 with z | z | z
    · subst z; rw [wu_a]; exact hqA
    · subst z; rw [wu_b]; exact hq2A
    · rw [ad r z]; exact wd_D_A hD z h2
theorem wp_fold {n : Nat} {f z y x : Int32} (hn : w.2.2.2 = n) (h12 : w.2.2.1 ≤ 12) (h13 : n < 12) (hold : ∀ r, rl_in w.2.2.1 w.2.2.2 r = true → r < 501 → r ≠ 2 → va_at D zcl (rp_F w.1 (wd_en w) S L r) H)
    (h1 : va_at D zcl (w.1 2, .inl (w.2.1 4, 12, .inr (.inr (.inr (.inr (va_up (fun j => (if j < n then some (300 + j) else none : Option Nat).map w.1) n (some q))))))) H)
    (hq : va_at D zcl (q, .inr (3, [.int f, .int z, .int x, .int y, .int 0])) H) :
    va_P D zcl (wd_W (wp w q) (va_up S (300 + n) (np_row f z y x)) L) H := by
  subst hn
  refine wd_P_of (fun r hr hr2 => ?_)
  unfold rp_F
  rcases rl_wp (w := w) hr with e | e
  · subst e
    rw [wp_a, va_up_self, wd_obj (ac_P (by omega))]
    exact hq
  · obtain ⟨⟨-, -, o1⟩, -, o3⟩ := rl_or e h12 (by omega)
    rw [wp_o o1, va_up_ne _ _ o1]
    by_cases z : r = 2
    · subst z
      rw [en_wp2 h13]; exact h1
    · rw [en_wp h12 h13 z o3]
      exact hold r e hr2 z
theorem wp_D {S' : Nat → Nat → Int32} {L' : Nat → Nat → Int64} (h12 : w.2.2.1 ≤ 12) (h13 : w.2.2.2 < 12) (hD : va_D A (wd_W w S L)) (hqA : A q) (hd : ∀ r, rl_in w.2.2.1 w.2.2.2 r = true → r < 501 → w.1 r ≠ q) : va_D A (wd_W (wp w q) S' L') := by
  have ad : ∀ r, rl_in w.2.2.1 w.2.2.2 r = true → (wp w q).1 r = w.1 r := fun r h => by
    obtain ⟨⟨-, -, o1⟩, -⟩ := rl_or h h12 (by omega)
    exact wp_o o1
  refine wd_D_of (fun r r' h1 h2 h3 h4 e => ?_) (fun r h1 h2 => ?_)
  · rcases rl_wp (w := w) h1 with z | z <;> rcases rl_wp (w := w) h3 with y | y
    · omega
    · subst z; rw [wp_a, ad r' y] at e; exact absurd e.symm (hd r' y h4)
    · subst y; rw [wp_a, ad r z] at e; exact absurd e (hd r z h2)
    · rw [ad r z, ad r' y] at e; exact wd_D_inj hD z h2 y h4 e
  · rcases rl_wp (w := w) h1 with z | z
    · subst z; rw [wp_a]; exact hqA
    · rw [ad r z]; exact wd_D_A hD z h2
end WUF
