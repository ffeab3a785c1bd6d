/-! THE WORLD CELL BY CELL: out of cells into roles. -/
section WDC
variable {D : va_G} {w : wd_T} {S : Nat → Nat → Int32} {L : Nat → Nat → Int64} {H : Heap} {A : Nat → Prop}
theorem wd_dl_mem {r : Nat} : r ∈ wd_dl w ↔ rl_in w.2.2.1 w.2.2.2 r = true ∧ r < 501 := by
  unfold wd_dl
  rw [List.mem_filter, List.mem_range]
  exact ⟨fun h => ⟨h.2, h.1⟩, fun h => ⟨h.2, h.1⟩⟩
theorem wd_P_of (h : ∀ r, rl_in w.2.2.1 w.2.2.2 r = true → r < 501 → va_at D zcl (rp_F w.1 (wd_en w) S L r) H) : va_P D zcl (wd_W w S L) H := by
  intro k q hk
  obtain ⟨r, hr, rfl⟩ := List.mem_map.mp (List.mem_of_getElem? hk)
  exact h r (wd_dl_mem.mp hr).1 (wd_dl_mem.mp hr).2
theorem wd_P_at (hP : va_P D zcl (wd_W w S L) H) {r : Nat} (h1 : rl_in w.2.2.1 w.2.2.2 r = true) (h2 : r < 501) : va_at D zcl (rp_F w.1 (wd_en w) S L r) H := by
  obtain ⟨q, -, hq⟩ := rp_at (rp_F w.1 (wd_en w) S L) (wd_mem h1 h2)
  exact hP q _ hq
theorem wd_D_of (hi : ∀ r r', rl_in w.2.2.1 w.2.2.2 r = true → r < 501 → rl_in w.2.2.1 w.2.2.2 r' = true → r' < 501 → w.1 r = w.1 r' → r = r') (hA : ∀ r, rl_in w.2.2.1 w.2.2.2 r = true → r < 501 → A (w.1 r)) : va_D A (wd_W w S L) := by
  have hnd : (wd_dl w).Nodup := List.Nodup.sublist List.filter_sublist List.nodup_range
  refine ⟨fun i j p q hp hq e => ?_, fun k q hk => ?_⟩
  · rw [List.getElem?_map, Option.map_eq_some_iff] at hp hq
    obtain ⟨r, hr, rfl⟩ := hp
    obtain ⟨r', hr', rfl⟩ := hq
    have m1 := wd_dl_mem.mp (List.mem_of_getElem? hr)
    have m2 := wd_dl_mem.mp (List.mem_of_getElem? hr')
    have := hi r r' m1.1 m1.2 m2.1 m2.2 e
    subst this
    have hl := (List.getElem?_eq_some_iff.mp hr).1
    exact (List.getElem?_inj hl hnd).mp (hr.trans hr'.symm)
  · obtain ⟨r, hr, rfl⟩ := List.mem_map.mp (List.mem_of_getElem? hk)
    exact hA r (wd_dl_mem.mp hr).1 (wd_dl_mem.mp hr).2
theorem wd_D_inj (hD : va_D A (wd_W w S L)) {r r' : Nat} (h1 : rl_in w.2.2.1 w.2.2.2 r = true) (h2 : r < 501) (h3 : rl_in w.2.2.1 w.2.2.2 r' = true) (h4 : r' < 501) (e : w.1 r = w.1 r') : r = r' := by
  obtain ⟨q, hq0, hq⟩ := rp_at (rp_F w.1 (wd_en w) S L) (wd_mem h1 h2)
  obtain ⟨q', hq0', hq'⟩ := rp_at (rp_F w.1 (wd_en w) S L) (wd_mem h3 h4)
  have := hD.1 q q' _ _ hq hq' e
  subst this
  exact Option.some.inj (hq0.symm.trans hq0')
theorem wd_D_A (hD : va_D A (wd_W w S L)) {r : Nat} (h1 : rl_in w.2.2.1 w.2.2.2 r = true) (h2 : r < 501) : A (w.1 r) := by
  obtain ⟨q, -, hq⟩ := rp_at (rp_F w.1 (wd_en w) S L) (wd_mem h1 h2)
  exact hD.2 q _ hq
end WDC
/-- arrays that agree where they have places -/
theorem vp_cell_eq {c : ClassId} {n : Nat} {f g : Nat → Int32} (h : ∀ j, j < n → f j = g j) : vp_cell c (n, .inl f) = vp_cell c (n, .inl g) := by
  rw [vp_cell_i, vp_cell_i]
  unfold arrV
  congr 1
  apply Array.ext
  · simp
  · intro i h1 h2
    simp only [Array.getElem_ofFn]
    rw [h i (by simpa using h1)]
section NKA
variable {p : Program} {l : Launch} {e : Env} {R : Room} {s : State} {m : MethodId} {args : Array Value} {below : List Frame} {meth : Method} {c : Code} {H : Heap} {locs : List Loc} {cells slots : Nat} {Q : State → Prop}
variable {cc : ByteArray} {pc : Nat} {ls : Array Slot} {rest : List Value} {D : va_G} {A : Nat → Prop} {w : wd_T} {ws : va_W} {H0 : Heap}
/-- a new array, its class known -/
theorem nk_newa (hexec : p.tables.exec = Jvm.exec) (hb : c.code = cc) {atype : ArrayType} (harr : (Cond.arrayClass (newarray.typeOf atype)).before args s = true) {ty : FieldType} (hty : newarray.typeOf atype = ty) (hK : va_K D zcl (wd_ty w) s) (hP : va_P D zcl ws H) (hD : va_D A ws) (hS : va_S A H0 H locs) (hA : ∀ q, H0.size ≤ q → A q)
    {n : Int32} {N' : Nat} {a0 : vp_A} (ha : ∀ cA : ClassId, vp_cell cA a0 = arrV cA N' (fun _ => defaultValue ty)) (hn : ¬ n < 0) (hN : n.toNatClampNeg = N') (hbytes : N' * componentBytes ty ≤ 536870912) (hcells : cells + 1 ≤ R.cells) (hslots : slots + N' ≤ R.slots) (hdg : decode cc pc = .ok (.newarray atype, 2))
    {cI : ClassId} (hcI : s.vm.findClass ("[" ++ ty.toString) = some cI) (hra : ∀ cA, va_RA s cA ty → s.vm.findClass ("[" ++ ty.toString) = some cA)
    (kk : ∀ (q : Nat) (H1 : Heap), va_P D zcl (ws ++ [(q, .inl (cI, a0))]) H1 → va_D A (ws ++ [(q, .inl (cI, a0))]) → va_S A H0 H1 locs →
      W p l e R s m args below meth c H1 locs (cells + 1) (slots + N') Q (F0 m (pc + 2) ls (.ref q :: rest))) : W p l e R s m args below meth c H locs cells slots Q (F0 m pc ls (.int n :: rest)) := by
  refine va_newa hexec hb harr hty hK hP hD hS hA ha hn hN hbytes hcells hslots hdg (fun q cA H1 hK1 hP1 hD1 hS1 => ?_)
  have h1 : va_RA s cA ty := (hK1.2 6 (cA, ty) rfl).2
  have h2 := hra cA h1
  rw [hcI] at h2
  cases h2
  exact kk q H1 hP1 hD1 hS1
/-- a new array of objects, its class known -/
theorem nk_newq (hexec : p.tables.exec = Jvm.exec) (hb : c.code = cc) {own C : String} {index : Nat} (hown : s.vm.findClass own = some m.cls) (hclink : (Cond.classLink own index C).before args s = true) (hover : va_AO C s) (hK : va_K D zcl (wd_ty w) s) (hP : va_P D zcl ws H) (hD : va_D A ws) (hS : va_S A H0 H locs) (hA : ∀ q, H0.size ≤ q → A q)
    {n : Int32} {N' : Nat} (hn : ¬ n < 0) (hN : n.toNatClampNeg = N') (hbytes : N' * 4 ≤ 536870912) (hcells : cells + 1 ≤ R.cells) (hslots : slots + N' ≤ R.slots) (hdg : decode cc pc = .ok (.anewarray index, 3))
    {cI : ClassId} (t0 : Nat) (ht : (wd_ty w)[t0]? = some (cI, .object C))
    (kk : ∀ (q : Nat) (H1 : Heap), va_P D zcl (ws ++ [(q, .inl (cI, N', .inr (.inr (.inr (.inr (fun _ => none))))))]) H1 → va_D A (ws ++ [(q, .inl (cI, N', .inr (.inr (.inr (.inr (fun _ => none))))))]) → va_S A H0 H1 locs →
      W p l e R s m args below meth c H1 locs (cells + 1) (slots + N') Q (F0 m (pc + 3) ls (.ref q :: rest))) : W p l e R s m args below meth c H locs cells slots Q (F0 m pc ls (.int n :: rest)) := by
  refine va_newq hexec hb hown hclink hover hK hP hD hS hA hn hN hbytes hcells hslots hdg (fun q cA H1 hK1 hP1 hD1 hS1 => ?_)
  obtain ⟨k1, c1, -, -, -, h1⟩ := (hK1.2 6 (cA, .object C) rfl).2
  obtain ⟨k2, c2, -, -, -, h2⟩ := (hK.2 t0 _ ht).2
  rw [h1] at h2
  cases h2
  exact kk q H1 hP1 hD1 hS1
end NKA
