/-! THE WORLD BY ROLES: a list dl of roles; a role's cell is F r = (address, contents). -/
theorem rp_at {dl : List Nat} (F : Nat → Nat × va_E) {r : Nat} (h : r ∈ dl) : ∃ q : Nat, dl[q]? = some r ∧ (dl.map F)[q]? = some (F r) := by
  obtain ⟨q, hq⟩ := List.getElem?_of_mem h
  exact ⟨q, hq, by rw [List.getElem?_map, hq]; rfl⟩
theorem rp_set {dl : List Nat} {F F' : Nat → Nat × va_E} {A : Nat → Prop} (hD : va_D A (dl.map F)) {q r : Nat} (hq : dl[q]? = some r) (h : ∀ r', r' ∈ dl → r' ≠ r → F' r' = F r') : (dl.map F).set q (F' r) = dl.map F' := by
  apply List.ext_getElem?
  intro i
  by_cases hi : i = q
  · subst hi
    have hl : i < (dl.map F).length := by rw [List.length_map]; exact (List.getElem?_eq_some_iff.mp hq).1
    rw [List.getElem?_set_self hl, List.getElem?_map, hq]
    rfl
  · rw [List.getElem?_set_ne (Ne.symm hi), List.getElem?_map, List.getElem?_map]
    cases hd : dl[i]? with
    | none => rfl
    | some r' =>
      have hne : r' ≠ r := by
        intro e
        subst e
        exact hi (hD.1 i q (F r') (F r') (by rw [List.getElem?_map, hd]; rfl) (by rw [List.getElem?_map, hq]; rfl) rfl)
      show some (F r') = some (F' r')
      rw [h r' (List.mem_of_getElem? hd) hne]
/-- a role's address and contents out of its row of ints and its row of longs -/
def rp_F (ad : Nat → Nat) (en : Nat → (Nat → Int32) → (Nat → Int64) → va_E) (S : Nat → Nat → Int32) (L : Nat → Nat → Int64) : Nat → Nat × va_E := fun r => (ad r, en r (S r) (L r))
theorem rp_FS {ad : Nat → Nat} {en : Nat → (Nat → Int32) → (Nat → Int64) → va_E} {S : Nat → Nat → Int32} {L : Nat → Nat → Int64} {r : Nat} {row : Nat → Int32} : ∀ (dl : List Nat) (r' : Nat), r' ∈ dl → r' ≠ r → rp_F ad en (va_up S r row) L r' = rp_F ad en S L r' := by
  intro dl r' _ h
  simp only [rp_F, va_up_ne S row h]
theorem rp_FL {ad : Nat → Nat} {en : Nat → (Nat → Int32) → (Nat → Int64) → va_E} {S : Nat → Nat → Int32} {L : Nat → Nat → Int64} {r : Nat} {row : Nat → Int64} : ∀ (dl : List Nat) (r' : Nat), r' ∈ dl → r' ≠ r → rp_F ad en S (va_up L r row) r' = rp_F ad en S L r' := by
  intro dl r' _ h
  simp only [rp_F, va_up_ne L row h]
section RPW
variable {p : Program} {l : Launch} {e : Env} {R : Room} {s : State} {m : MethodId} {args : Array Value} {below : List Frame} {meth : Method} {c : Code} {H : Heap} {locs : List Loc} {cells slots : Nat} {Q : State → Prop}
variable {cc : ByteArray} {pc : Nat} {ls : Array Slot} {rest : List Value} {D : va_G} {cl : List vw_C} {A : Nat → Prop} {a : Nat} {tys : List (ClassId × FieldType)} {H0 : Heap}
variable {dl : List Nat} {ad : Nat → Nat} {en : Nat → (Nat → Int32) → (Nat → Int64) → va_E} {S : Nat → Nat → Int32} {L : Nat → Nat → Int64}
/-- a field is read -/
theorem rp_get (hexec : p.tables.exec = Jvm.exec) (hb : c.code = cc) {own ref C : String} {T : u_T} {N ci index : Nat} {Ts : List Cond} (hts : ∀ w ∈ Ts, w.before args s = true) (hin : ∀ w ∈ u_ws C T N, w ∈ Ts) (hown : s.vm.findClass own = some m.cls) (hK : va_K D cl tys s) (hP : va_P D cl (dl.map (rp_F ad en S L)) H) {r : Nat} (hr : r ∈ dl) {fs : List Value} (he : en r (S r) (L r) = .inr (ci, fs)) (hc : cl[ci]? = some (C, T, N)) (k : Nat) (hk : k < N) (hlink : (Cond.fieldLink own index ref (T k).2.1 (T k).2.2.1).before args s = true) (hsame : ∀ x, s.fieldFound? (T k).1 (T k).2.1 (T k).2.2.1 = some x → s.fieldFound? ref (T k).2.1 (T k).2.2.1 = some x) {v : Value} (hv : fs[k]? = some v) (hdg : decode cc pc = .ok (.getfield index, 3))
    (kk : W p l e R s m args below meth c H locs cells slots Q (F0 m (pc + 3) ls (v :: rest))) : W p l e R s m args below meth c H locs cells slots Q (F0 m pc ls (.ref (ad r) :: rest)) := by
  obtain ⟨q, -, hq⟩ := rp_at (rp_F ad en S L) hr
  have hq2 : (dl.map (rp_F ad en S L))[q]? = some (ad r, .inr (ci, fs)) := by rw [hq]; simp only [rp_F, he]
  exact va_get hexec hb hts hin hown hK hP q hq2 hc k hk hlink hsame hv hdg kk
/-- an int field is written -/
theorem rp_put (hexec : p.tables.exec = Jvm.exec) (hb : c.code = cc) {own ref C : String} {T : u_T} {N ci index : Nat} {Ts : List Cond} (hts : ∀ w ∈ Ts, w.before args s = true) (hin : ∀ w ∈ u_ws C T N, w ∈ Ts) (ty0 : Nat → FieldType) (hty : ∀ k, k < N → parseFieldDescriptor (T k).2.2.1 = some (ty0 k)) (hnm : ∀ a, a < N → ∀ b, b < N → a ≠ b → (T a).2.1 ≠ (T b).2.1) (hown : s.vm.findClass own = some m.cls) (hK : va_K D cl tys s) (hP : va_P D cl (dl.map (rp_F ad en S L)) H) (hD : va_D A (dl.map (rp_F ad en S L))) (hS0 : va_S A H0 H locs) {r : Nat} (hr : r ∈ dl) {fs : List Value} (he : en r (S r) (L r) = .inr (ci, fs)) (hc : cl[ci]? = some (C, T, N)) (k : Nat) (hk : k < N) (hlink : (Cond.fieldLink own index ref (T k).2.1 (T k).2.2.1).before args s = true) (hsame : ∀ x, s.fieldFound? (T k).1 (T k).2.1 (T k).2.2.1 = some x → s.fieldFound? ref (T k).2.1 (T k).2.2.1 = some x) (hfin : (T k).2.2.2 = false) {ty : FieldType} {x : Int32} (hd : parseFieldDescriptor (T k).2.2.1 = some ty) (hn : narrow ty (.int x) = .int x) (hfit : fits ty (.int x) = true) (hl : k < fs.length) (j : Nat) (he' : en r (upd (S r) j x) (L r) = .inr (ci, fs.set k (.int x)))
    (hdg : decode cc pc = .ok (.putfield index, 3)) (kk : ∀ (H1 : Heap) (locs1 : List Loc), va_P D cl (dl.map (rp_F ad en (va_up S r (upd (S r) j x)) L)) H1 → va_D A (dl.map (rp_F ad en (va_up S r (upd (S r) j x)) L)) → va_S A H0 H1 locs1 → W p l e R s m args below meth c H1 locs1 cells slots Q (F0 m (pc + 3) ls rest)) : W p l e R s m args below meth c H locs cells slots Q (F0 m pc ls (.int x :: .ref (ad r) :: rest)) := by
  obtain ⟨q, hq0, hq⟩ := rp_at (rp_F ad en S L) hr
  have hq2 : (dl.map (rp_F ad en S L))[q]? = some (ad r, .inr (ci, fs)) := by rw [hq]; simp only [rp_F, he]
  have e1 : rp_F ad en (va_up S r (upd (S r) j x)) L r = (ad r, .inr (ci, fs.set k (.int x))) := by simp only [rp_F, va_up_self, he']
  have e2 := rp_set (F' := rp_F ad en (va_up S r (upd (S r) j x)) L) hD hq0 (rp_FS dl)
  rw [e1] at e2
  exact va_put hexec hb hts hin ty0 hty hnm hown hK hP hD hS0 q hq2 hc k hk hlink hsame hfin hd hn hfit hl hdg (fun H1 locs1 hP1 hD1 hS1 => kk H1 locs1 (by rw [← e2]; exact hP1) (by rw [← e2]; exact hD1) hS1)
/-- a long field is written -/
theorem rp_putL (hexec : p.tables.exec = Jvm.exec) (hb : c.code = cc) {own ref C : String} {T : u_T} {N ci index : Nat} {Ts : List Cond} (hts : ∀ w ∈ Ts, w.before args s = true) (hin : ∀ w ∈ u_ws C T N, w ∈ Ts) (ty0 : Nat → FieldType) (hty : ∀ k, k < N → parseFieldDescriptor (T k).2.2.1 = some (ty0 k)) (hnm : ∀ a, a < N → ∀ b, b < N → a ≠ b → (T a).2.1 ≠ (T b).2.1) (hown : s.vm.findClass own = some m.cls) (hK : va_K D cl tys s) (hP : va_P D cl (dl.map (rp_F ad en S L)) H) (hD : va_D A (dl.map (rp_F ad en S L))) (hS0 : va_S A H0 H locs) {r : Nat} (hr : r ∈ dl) {fs : List Value} (he : en r (S r) (L r) = .inr (ci, fs)) (hc : cl[ci]? = some (C, T, N)) (k : Nat) (hk : k < N) (hlink : (Cond.fieldLink own index ref (T k).2.1 (T k).2.2.1).before args s = true) (hsame : ∀ x, s.fieldFound? (T k).1 (T k).2.1 (T k).2.2.1 = some x → s.fieldFound? ref (T k).2.1 (T k).2.2.1 = some x) (hfin : (T k).2.2.2 = false) {ty : FieldType} {x : Int64} (hd : parseFieldDescriptor (T k).2.2.1 = some ty) (hn : narrow ty (.long x) = .long x) (hfit : fits ty (.long x) = true) (hl : k < fs.length) (j : Nat) (he' : en r (S r) (vp_updL (L r) j x) = .inr (ci, fs.set k (.long x)))
    (hdg : decode cc pc = .ok (.putfield index, 3)) (kk : ∀ (H1 : Heap) (locs1 : List Loc), va_P D cl (dl.map (rp_F ad en S (va_up L r (vp_updL (L r) j x)))) H1 → va_D A (dl.map (rp_F ad en S (va_up L r (vp_updL (L r) j x)))) → va_S A H0 H1 locs1 → W p l e R s m args below meth c H1 locs1 cells slots Q (F0 m (pc + 3) ls rest)) : W p l e R s m args below meth c H locs cells slots Q (F0 m pc ls (.long x :: .ref (ad r) :: rest)) := by
  obtain ⟨q, hq0, hq⟩ := rp_at (rp_F ad en S L) hr
  have hq2 : (dl.map (rp_F ad en S L))[q]? = some (ad r, .inr (ci, fs)) := by rw [hq]; simp only [rp_F, he]
  have e1 : rp_F ad en S (va_up L r (vp_updL (L r) j x)) r = (ad r, .inr (ci, fs.set k (.long x))) := by simp only [rp_F, va_up_self, he']
  have e2 := rp_set (F' := rp_F ad en S (va_up L r (vp_updL (L r) j x))) hD hq0 (rp_FL dl)
  rw [e1] at e2
  exact va_put hexec hb hts hin ty0 hty hnm hown hK hP hD hS0 q hq2 hc k hk hlink hsame hfin hd hn hfit hl hdg (fun H1 locs1 hP1 hD1 hS1 => kk H1 locs1 (by rw [← e2]; exact hP1) (by rw [← e2]; exact hD1) hS1)
/-- arrays are read -/
theorem rp_ild (hexec : p.tables.exec = Jvm.exec) (hb : c.code = cc) (hK : va_K D cl tys s) (hP : va_P D cl (dl.map (rp_F ad en S L)) H) (t0 : Nat) {r : Nat} (hr : r ∈ dl) {cA : ClassId} {n : Nat} {f : Nat → Int32} (he : en r (S r) (L r) = .inl (cA, n, .inl f)) (ht : tys[t0]? = some (cA, .int)) {i : Int32} (hin : vp_in i n) (hdg : decode cc pc = .ok (.iaload, 1))
    (kk : W p l e R s m args below meth c H locs cells slots Q (F0 m (pc + 1) ls (.int (f i.toNatClampNeg) :: rest))) : W p l e R s m args below meth c H locs cells slots Q (F0 m pc ls (.int i :: .ref (ad r) :: rest)) := by
  obtain ⟨q, -, hq⟩ := rp_at (rp_F ad en S L) hr
  have hq2 : (dl.map (rp_F ad en S L))[q]? = some (ad r, .inl (cA, n, .inl f)) := by rw [hq]; simp only [rp_F, he]
  exact va_iald hexec hb hK hP q t0 hq2 ht hin hdg kk
theorem rp_zld (hexec : p.tables.exec = Jvm.exec) (hb : c.code = cc) (hK : va_K D cl tys s) (hP : va_P D cl (dl.map (rp_F ad en S L)) H) (t0 : Nat) {r : Nat} (hr : r ∈ dl) {cA : ClassId} {n : Nat} {f : Nat → Int32} (he : en r (S r) (L r) = .inl (cA, n, .inl f)) (ht : tys[t0]? = some (cA, .boolean)) {i : Int32} (hin : vp_in i n) (hdg : decode cc pc = .ok (.baload, 1))
    (kk : W p l e R s m args below meth c H locs cells slots Q (F0 m (pc + 1) ls (.int (f i.toNatClampNeg) :: rest))) : W p l e R s m args below meth c H locs cells slots Q (F0 m pc ls (.int i :: .ref (ad r) :: rest)) := by
  obtain ⟨q, -, hq⟩ := rp_at (rp_F ad en S L) hr
  have hq2 : (dl.map (rp_F ad en S L))[q]? = some (ad r, .inl (cA, n, .inl f)) := by rw [hq]; simp only [rp_F, he]
  exact va_zald hexec hb hK hP q t0 hq2 ht hin hdg kk
theorem rp_lld (hexec : p.tables.exec = Jvm.exec) (hb : c.code = cc) (hK : va_K D cl tys s) (hP : va_P D cl (dl.map (rp_F ad en S L)) H) (t0 : Nat) {r : Nat} (hr : r ∈ dl) {cA : ClassId} {n : Nat} {f : Nat → Int64} (he : en r (S r) (L r) = .inl (cA, n, .inr (.inl f))) (ht : tys[t0]? = some (cA, .long)) {i : Int32} (hin : vp_in i n) (hdg : decode cc pc = .ok (.laload, 1))
    (kk : W p l e R s m args below meth c H locs cells slots Q (F0 m (pc + 1) ls (.long (f i.toNatClampNeg) :: rest))) : W p l e R s m args below meth c H locs cells slots Q (F0 m pc ls (.int i :: .ref (ad r) :: rest)) := by
  obtain ⟨q, -, hq⟩ := rp_at (rp_F ad en S L) hr
  have hq2 : (dl.map (rp_F ad en S L))[q]? = some (ad r, .inl (cA, n, .inr (.inl f))) := by rw [hq]; simp only [rp_F, he]
  exact va_lald hexec hb hK hP q t0 hq2 ht hin hdg kk
theorem rp_ald (hexec : p.tables.exec = Jvm.exec) (hb : c.code = cc) (hK : va_K D cl tys s) (hP : va_P D cl (dl.map (rp_F ad en S L)) H) (t0 : Nat) {r : Nat} (hr : r ∈ dl) {cA : ClassId} {n : Nat} {f : Nat → Option Nat} {ty : FieldType} (hty : ty.isReference = true) (he : en r (S r) (L r) = .inl (cA, n, .inr (.inr (.inr (.inr f))))) (ht : tys[t0]? = some (cA, ty)) {i : Int32} (hin : vp_in i n) {y : Nat} (hy : f i.toNatClampNeg = some y) (hdg : decode cc pc = .ok (.aaload, 1))
    (kk : W p l e R s m args below meth c H locs cells slots Q (F0 m (pc + 1) ls (.ref y :: rest))) : W p l e R s m args below meth c H locs cells slots Q (F0 m pc ls (.int i :: .ref (ad r) :: rest)) := by
  obtain ⟨q, -, hq⟩ := rp_at (rp_F ad en S L) hr
  have hq2 : (dl.map (rp_F ad en S L))[q]? = some (ad r, .inl (cA, n, .inr (.inr (.inr (.inr f))))) := by rw [hq]; simp only [rp_F, he]
  have hlt : i.toNatClampNeg < n := Nat.not_le.mp fun q => hin (Or.inr q)
  exact W.aald (v := .ref y) (ty := ty) hexec hb (hP q _ hq2) ((hK.2 t0 _ ht).1 n (fun j => va_rf (f j))) hty (fun q => by cases q) (by show ¬ (i < 0 ∨ (arrV _ _ _).slots.size ≤ _); rw [arrV_size]; exact hin) (by show (arrV _ _ _).slots[_]? = _; rw [arrV_read _ _ hlt, hy]; rfl) rfl rfl hdg kk
/-- arrays are written -/
theorem rp_ist (hexec : p.tables.exec = Jvm.exec) (hb : c.code = cc) (hK : va_K D cl tys s) (hP : va_P D cl (dl.map (rp_F ad en S L)) H) (hD : va_D A (dl.map (rp_F ad en S L))) (hS : va_S A H0 H locs) (t0 : Nat) {r : Nat} (hr : r ∈ dl) {cA : ClassId} {n : Nat} (he : ∀ f : Nat → Int32, en r f (L r) = .inl (cA, n, .inl f)) (ht : tys[t0]? = some (cA, .int)) {i x : Int32} (hin : vp_in i n) (hdg : decode cc pc = .ok (.iastore, 1))
    (kk : ∀ (H1 : Heap) (locs1 : List Loc), va_P D cl (dl.map (rp_F ad en (va_up S r (upd (S r) i.toNatClampNeg x)) L)) H1 → va_D A (dl.map (rp_F ad en (va_up S r (upd (S r) i.toNatClampNeg x)) L)) → va_S A H0 H1 locs1 → W p l e R s m args below meth c H1 locs1 cells slots Q (F0 m (pc + 1) ls rest)) : W p l e R s m args below meth c H locs cells slots Q (F0 m pc ls (.int x :: .int i :: .ref (ad r) :: rest)) := by
  obtain ⟨q, hq0, hq⟩ := rp_at (rp_F ad en S L) hr
  have hq2 : (dl.map (rp_F ad en S L))[q]? = some (ad r, .inl (cA, n, .inl (S r))) := by rw [hq]; simp only [rp_F, he]
  have e1 : rp_F ad en (va_up S r (upd (S r) i.toNatClampNeg x)) L r = (ad r, .inl (cA, n, .inl (upd (S r) i.toNatClampNeg x))) := by simp only [rp_F, va_up_self, he]
  have e2 := rp_set (F' := rp_F ad en (va_up S r (upd (S r) i.toNatClampNeg x)) L) hD hq0 (rp_FS dl)
  rw [e1] at e2
  exact va_iast hexec hb hK hP hD hS q t0 hq2 ht hin hdg (fun H1 locs1 hP1 hD1 hS1 => kk H1 locs1 (by rw [← e2]; exact hP1) (by rw [← e2]; exact hD1) hS1)
theorem rp_zst (hexec : p.tables.exec = Jvm.exec) (hb : c.code = cc) (hK : va_K D cl tys s) (hP : va_P D cl (dl.map (rp_F ad en S L)) H) (hD : va_D A (dl.map (rp_F ad en S L))) (hS : va_S A H0 H locs) (t0 : Nat) {r : Nat} (hr : r ∈ dl) {cA : ClassId} {n : Nat} (he : ∀ f : Nat → Int32, en r f (L r) = .inl (cA, n, .inl f)) (ht : tys[t0]? = some (cA, .boolean)) {i x : Int32} (hx : vp_nar .boolean x = x) (hin : vp_in i n) (hdg : decode cc pc = .ok (.bastore, 1))
    (kk : ∀ (H1 : Heap) (locs1 : List Loc), va_P D cl (dl.map (rp_F ad en (va_up S r (upd (S r) i.toNatClampNeg x)) L)) H1 → va_D A (dl.map (rp_F ad en (va_up S r (upd (S r) i.toNatClampNeg x)) L)) → va_S A H0 H1 locs1 → W p l e R s m args below meth c H1 locs1 cells slots Q (F0 m (pc + 1) ls rest)) : W p l e R s m args below meth c H locs cells slots Q (F0 m pc ls (.int x :: .int i :: .ref (ad r) :: rest)) := by
  obtain ⟨q, hq0, hq⟩ := rp_at (rp_F ad en S L) hr
  have hq2 : (dl.map (rp_F ad en S L))[q]? = some (ad r, .inl (cA, n, .inl (S r))) := by rw [hq]; simp only [rp_F, he]
  have e1 : rp_F ad en (va_up S r (upd (S r) i.toNatClampNeg x)) L r = (ad r, .inl (cA, n, .inl (upd (S r) i.toNatClampNeg x))) := by simp only [rp_F, va_up_self, he]
  have e2 := rp_set (F' := rp_F ad en (va_up S r (upd (S r) i.toNatClampNeg x)) L) hD hq0 (rp_FS dl)
  rw [e1] at e2
  refine va_zast hexec hb hK hP hD hS q t0 hq2 ht hin hdg (fun H1 locs1 hP1 hD1 hS1 => ?_)
  rw [hx] at hP1 hD1
  exact kk H1 locs1 (by rw [← e2]; exact hP1) (by rw [← e2]; exact hD1) hS1
theorem rp_lst (hexec : p.tables.exec = Jvm.exec) (hb : c.code = cc) (hK : va_K D cl tys s) (hP : va_P D cl (dl.map (rp_F ad en S L)) H) (hD : va_D A (dl.map (rp_F ad en S L))) (hS : va_S A H0 H locs) (t0 : Nat) {r : Nat} (hr : r ∈ dl) {cA : ClassId} {n : Nat} (he : ∀ f : Nat → Int64, en r (S r) f = .inl (cA, n, .inr (.inl f))) (ht : tys[t0]? = some (cA, .long)) {i : Int32} {x : Int64} (hin : vp_in i n) (hdg : decode cc pc = .ok (.lastore, 1))
    (kk : ∀ (H1 : Heap) (locs1 : List Loc), va_P D cl (dl.map (rp_F ad en S (va_up L r (vp_updL (L r) i.toNatClampNeg x)))) H1 → va_D A (dl.map (rp_F ad en S (va_up L r (vp_updL (L r) i.toNatClampNeg x)))) → va_S A H0 H1 locs1 → W p l e R s m args below meth c H1 locs1 cells slots Q (F0 m (pc + 1) ls rest)) : W p l e R s m args below meth c H locs cells slots Q (F0 m pc ls (.long x :: .int i :: .ref (ad r) :: rest)) := by
  obtain ⟨q, hq0, hq⟩ := rp_at (rp_F ad en S L) hr
  have hq2 : (dl.map (rp_F ad en S L))[q]? = some (ad r, .inl (cA, n, .inr (.inl (L r)))) := by rw [hq]; simp only [rp_F, he]
  have e1 : rp_F ad en S (va_up L r (vp_updL (L r) i.toNatClampNeg x)) r = (ad r, .inl (cA, n, .inr (.inl (vp_updL (L r) i.toNatClampNeg x)))) := by simp only [rp_F, va_up_self, he]
  have e2 := rp_set (F' := rp_F ad en S (va_up L r (vp_updL (L r) i.toNatClampNeg x))) hD hq0 (rp_FL dl)
  rw [e1] at e2
  exact va_last hexec hb hK hP hD hS q t0 hq2 ht hin hdg (fun H1 locs1 hP1 hD1 hS1 => kk H1 locs1 (by rw [← e2]; exact hP1) (by rw [← e2]; exact hD1) hS1)
/-- a receiver -/
theorem rp_recv (hK : va_K D cl tys s) (hP : va_P D cl (dl.map (rp_F ad en S L)) H) {r ci : Nat} (hr : r ∈ dl) {fs : List Value} (he : en r (S r) (L r) = .inr (ci, fs)) {k : vw_C} (hc : cl[ci]? = some k) : ∃ cell : Cell, H[ad r]? = some cell ∧ cell.vm.isStatics = false ∧ s.vm.findClass k.1 = some cell.cls := by
  obtain ⟨q, -, hq⟩ := rp_at (rp_F ad en S L) hr
  have hq2 : (dl.map (rp_F ad en S L))[q]? = some (ad r, .inr (ci, fs)) := by rw [hq]; simp only [rp_F, he]
  exact va_recv hK hP hc hq2
/-- what a callee may change, the caller may -/
theorem rp_free {A0 : Nat → Prop} {F : Nat → Nat × va_E} (hD : va_D A0 (dl.map F)) (hS : va_S A0 H0 H locs) (hA : ∀ q, H0.size ≤ q → A0 q) : ∀ q, va_A (dl.map F) H.size q → A0 q := by
  intro q h
  rcases h with ⟨k, e, h⟩ | h
  · exact hD.2 k (q, e) h
  · exact hA q (Nat.le_trans hS.1 h)
end RPW
