/-! VALUES AND WORLDS: ints, longs, roles (objects and arrays of the world by their number), and bare addresses. -/
abbrev av_T : Type := Int32 ⊕ Int64 ⊕ Nat ⊕ Nat
abbrev av_i (x : Int32) : av_T := Sum.inl x
abbrev av_l (x : Int64) : av_T := Sum.inr (Sum.inl x)
abbrev av_r (r : Nat) : av_T := Sum.inr (Sum.inr (Sum.inl r))
abbrev av_a (a : Nat) : av_T := Sum.inr (Sum.inr (Sum.inr a))
def av_v (ad : Nat → Nat) : av_T → Value
  | .inl x => .int x
  | .inr (.inl x) => .long x
  | .inr (.inr (.inl r)) => .ref (ad r)
  | .inr (.inr (.inr a)) => .ref a
def av_cat : av_T → Nat
  | .inr (.inl _) => 2
  | _ => 1
theorem av_cat_ok (ad : Nat → Nat) (v : av_T) : (av_v ad v).category = av_cat v := by
  rcases v with x | x | r | a <;> rfl
/-- a cell by its contents: an array (its kind, its length; ints, longs, or roles) or an object (its kind, its fields) -/
abbrev ac_T : Type := (Nat × Nat × (Nat ⊕ (Nat → Option Nat))) ⊕ (Nat × List av_T)
/-- the world: addresses of roles, kinds of arrays, how many units, how many places -/
abbrev wd_T : Type := (Nat → Nat) × (Nat → ClassId) × Nat × Nat
def ac_B (r : Nat) (row : Nat → Int32) (lr : Nat → Int64) : ac_T := match r with
  | 0 => .inr (0, [av_r 1, av_r 2, av_r 3, av_r 4, av_r 5, av_r 6, av_i (row 6), av_i (row 7), av_i (row 8), av_i (row 9), av_i (row 10)])
  | 3 => .inl (0, 8, .inl 0)
  | 4 => .inr (2, [av_i (row 0), av_i (row 1), av_i (row 2), av_i (row 3), av_i (row 4), av_i (row 5), av_i (row 6)])
  | 5 => .inr (1, [av_r 7, av_r 8, av_r 9, av_r 10, av_r 11, av_r 12, av_r 13, av_i (row 7), av_l (lr 8)])
  | 6 => .inl (0, 12, .inl 0)
  | 7 => .inl (5, 9, .inr (fun j => if j < 9 then some (14 + j) else none))
  | 8 => .inl (1, 9, .inl 1)
  | 9 => .inl (1, 21, .inl 1)
  | 10 => .inl (0, 21, .inl 0)
  | 11 => .inl (0, 21, .inl 0)
  | 12 => .inl (1, 21, .inl 1)
  | 13 => .inl (2, 21, .inl 0)
  | _ => .inl (1, 21, .inl 1)
def ac_M (r : Nat) (row : Nat → Int32) : ac_T := match r with
  | 0 => .inr (5, [av_i (row 0), av_i (row 1), av_r 403, av_r 404, av_r 405, av_r 406, av_r 407, av_r 408, av_r 409, av_r 410, av_i (row 10), av_r 412, av_r 413, av_r 414, av_r 415, av_r 416, av_r 417, av_i (row 17), av_i (row 18), av_i (row 19), av_i (row 20), av_r 422, av_r 423, av_r 424, av_r 425, av_r 426])
  | 8 => .inl (2, 12, .inl 0)
  | 9 => .inl (2, 144, .inl 0)
  | 10 => .inl (0, 144, .inl 0)
  | 16 => .inl (2, 12, .inl 0)
  | 17 => .inl (0, 8, .inl 0)
  | 24 => .inl (0, 144, .inl 0)
  | 25 => .inl (1, 4096, .inl 1)
  | 26 => .inl (1, 4096, .inl 1)
  | _ => .inl (0, 12, .inl 0)
/-- roles 0 .. 22 the class's own, 100+ units, 200+ their told costs, 300+ places, 400+ the model's, 500 the law's array -/
def ac_of (nU nP : Nat) (r : Nat) (row : Nat → Int32) (lr : Nat → Int64) : ac_T :=
  if r = 1 then .inl (3, 12, .inr (fun j => if j < nU then some (100 + j) else none))
  else if r = 2 then .inl (4, 12, .inr (fun j => if j < nP then some (300 + j) else none))
  else if r < 100 then ac_B r row lr
  else if r < 200 then .inr (4, [av_i (row 0), av_i (row 1), av_i (row 2), av_i (row 3), av_i (row 4), av_i (row 5), av_i (row 6), av_r (r + 100)])
  else if r < 300 then .inl (0, 12, .inl 0)
  else if r < 400 then .inr (3, [av_i (row 0), av_i (row 1), av_i (row 2), av_i (row 3), av_i (row 4)])
  else if r < 500 then ac_M (r - 400) row
  else .inl (1, 1, .inl 1)
def wd_en (w : wd_T) (r : Nat) (row : Nat → Int32) (lr : Nat → Int64) : va_E := match ac_of w.2.2.1 w.2.2.2 r row lr with
  | .inl (k, n, .inl 0) => .inl (w.2.1 k, n, .inl row)
  | .inl (k, n, .inl _) => .inl (w.2.1 k, n, .inr (.inl lr))
  | .inl (k, n, .inr f) => .inl (w.2.1 k, n, .inr (.inr (.inr (.inr (fun j => (f j).map w.1)))))
  | .inr (ci, fs) => .inr (ci, fs.map (av_v w.1))
/-- which roles there are -/
def rl_in (nU nP r : Nat) : Bool := decide (r < 23) || (decide (100 ≤ r) && decide (r < 100 + nU)) || (decide (200 ≤ r) && decide (r < 200 + nU)) || (decide (300 ≤ r) && decide (r < 300 + nP)) || decide (r = 400) || (decide (403 ≤ r) && decide (r < 411)) || (decide (412 ≤ r) && decide (r < 418)) || (decide (422 ≤ r) && decide (r < 427)) || decide (r = 500)
def wd_dl (w : wd_T) : List Nat := (List.range 501).filter (rl_in w.2.2.1 w.2.2.2)
abbrev wd_W (w : wd_T) (S : Nat → Nat → Int32) (L : Nat → Nat → Int64) : va_W := (wd_dl w).map (rp_F w.1 (wd_en w) S L)
abbrev wd_ty (w : wd_T) : List (ClassId × FieldType) := [(w.2.1 0, .int), (w.2.1 1, .long), (w.2.1 2, .boolean), (w.2.1 3, .object "PutAwayAssign$Unit"), (w.2.1 4, .object "PutAwayAssign$Place"), (w.2.1 5, .array .long)]
theorem wd_mem {w : wd_T} {r : Nat} (h : rl_in w.2.2.1 w.2.2.2 r = true) (h2 : r < 501) : r ∈ wd_dl w := List.mem_filter.mpr ⟨List.mem_range.mpr h2, h⟩
theorem wd_obj {w : wd_T} {r ci : Nat} {row : Nat → Int32} {lr : Nat → Int64} {fs : List av_T} (h : ac_of w.2.2.1 w.2.2.2 r row lr = .inr (ci, fs)) : wd_en w r row lr = .inr (ci, fs.map (av_v w.1)) := by
  unfold wd_en; rw [h]
theorem wd_ints {w : wd_T} {r k n : Nat} {row : Nat → Int32} {lr : Nat → Int64} (h : ac_of w.2.2.1 w.2.2.2 r row lr = .inl (k, n, .inl 0)) : wd_en w r row lr = .inl (w.2.1 k, n, .inl row) := by
  unfold wd_en; rw [h]; rfl
theorem wd_longs {w : wd_T} {r k n : Nat} {row : Nat → Int32} {lr : Nat → Int64} (h : ac_of w.2.2.1 w.2.2.2 r row lr = .inl (k, n, .inl 1)) : wd_en w r row lr = .inl (w.2.1 k, n, .inr (.inl lr)) := by
  unfold wd_en; rw [h]; rfl
theorem wd_refs {w : wd_T} {r k n : Nat} {row : Nat → Int32} {lr : Nat → Int64} {f : Nat → Option Nat} (h : ac_of w.2.2.1 w.2.2.2 r row lr = .inl (k, n, .inr f)) : wd_en w r row lr = .inl (w.2.1 k, n, .inr (.inr (.inr (.inr (fun j => (f j).map w.1))))) := by
  unfold wd_en; rw [h]
/-- locals, by their numbers -/
abbrev jl_T : Type := List (Nat × av_T)
def jl_get (lo : jl_T) (i : Nat) : Option av_T := (lo.find? (fun q => q.1 == i)).map (fun q => q.2)
def jl_s1 (lo : jl_T) (i : Nat) (v : av_T) : jl_T := (i, v) :: lo.filter (fun q => !(q.1 == i) && !(q.1 + 1 == i && av_cat q.2 == 2))
def jl_s2 (lo : jl_T) (i : Nat) (v : av_T) : jl_T := (i, v) :: lo.filter (fun q => !(q.1 == i) && (!(q.1 == i + 1) && !(q.1 + 1 == i && av_cat q.2 == 2)))
def jl_v (ad : Nat → Nat) (lo : jl_T) : List (Nat × Value) := lo.map (fun q => (q.1, av_v ad q.2))
theorem jl_mem {lo : jl_T} {i : Nat} {v : av_T} (h : jl_get lo i = some v) : (i, v) ∈ lo := by
  unfold jl_get at h
  cases hf : lo.find? (fun q => q.1 == i) with
  | none => rw [hf] at h; cases h
  | some q =>
    rw [hf] at h
    cases h
    have h1 := List.mem_of_find?_eq_some hf
    have h2 := List.find?_some hf
    simp only [beq_iff_eq] at h2
    rw [← h2]
    exact h1
theorem jl_at {ad : Nat → Nat} {ls : Array Slot} {nL : Nat} {lo : jl_T} {i : Nat} {v : av_T} (hl : lv_has ls nL (jl_v ad lo)) (h : jl_get lo i = some v) : ls[i]? = some (.val (av_v ad v)) :=
  hl.2.2 (i, av_v ad v) (List.mem_map.mpr ⟨(i, v), jl_mem h, rfl⟩)
theorem jl_f1 (ad : Nat → Nat) (lo : jl_T) (i : Nat) (v : av_T) : (i, av_v ad v) :: (jl_v ad lo).filter (fun q => !(q.1 == i) && !(q.1 + 1 == i && q.2.category == 2)) = jl_v ad (jl_s1 lo i v) := by
  unfold jl_v jl_s1
  rw [List.map_cons, List.filter_map]
  congr 2
  apply List.filter_congr
  intro q _
  simp only [Function.comp, av_cat_ok]
theorem jl_f2 (ad : Nat → Nat) (lo : jl_T) (i : Nat) (v : av_T) : (i, av_v ad v) :: (jl_v ad lo).filter (fun q => !(q.1 == i) && (!(q.1 == i + 1) && !(q.1 + 1 == i && q.2.category == 2))) = jl_v ad (jl_s2 lo i v) := by
  unfold jl_v jl_s2
  rw [List.map_cons, List.filter_map]
  congr 2
  apply List.filter_congr
  intro q _
  simp only [Function.comp, av_cat_ok]
/-- fewer locals -/
def jl_le (lo : jl_T) : jl_T → Prop
  | [] => True
  | q :: t => jl_get lo q.1 = some q.2 ∧ jl_le lo t
theorem jl_sub {ad : Nat → Nat} {ls : Array Slot} {nL : Nat} {lo : jl_T} : ∀ {lo' : jl_T}, jl_le lo lo' → lv_has ls nL (jl_v ad lo) → lv_has ls nL (jl_v ad lo')
  | [], _, hl => ⟨hl.1, hl.2.1, fun q hq => by cases hq⟩
  | q :: t, h, hl => by
    have h2 := jl_sub (lo' := t) h.2 hl
    refine ⟨hl.1, hl.2.1, fun z hz => ?_⟩
    rcases List.mem_cons.mp hz with e | e
    · rw [e]; exact jl_at hl h.1
    · exact h2.2.2 z e
def jl_args : Nat → List av_T → jl_T
  | _, [] => []
  | i, v :: vs => (i, v) :: jl_args (if av_cat v = 2 then i + 2 else i + 1) vs
theorem jl_args_ok (ad : Nat → Nat) : ∀ (vs : List av_T) (i : Nat), lv_args i (vs.map (av_v ad)) = jl_v ad (jl_args i vs)
  | [], _ => rfl
  | v :: vs, i => by
    show (i, av_v ad v) :: lv_args (if (av_v ad v).category = 2 then i + 2 else i + 1) (vs.map (av_v ad)) = _
    rw [av_cat_ok, jl_args_ok ad vs]
    rfl
