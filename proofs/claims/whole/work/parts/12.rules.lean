/-! THE JUDGEMENT: from this frame, over the world with the numbers S and L, the method comes to an end that Qp allows (its first half: returned; its second: thrown, by the kind's name). -/
abbrev jd_P : Type := (Option av_T → (Nat → Nat → Int32) → (Nat → Nat → Int64) → Prop) × (String → (Nat → Nat → Int32) → (Nat → Nat → Int64) → Prop)
def jd_kinds : List String := ["java/lang/IllegalArgumentException", "java/lang/UnsupportedOperationException", "java/util/NoSuchElementException", "java/lang/IllegalStateException", "java/lang/ArithmeticException"]
def jd_texts : List (Nat × String) := [(55, "a kind is 0 .. 7, a size 1 .. 100"), (65, "no room for another unit"), (71, "fits are 0 .. 255, a zone is 0 .. 3"), (73, "free room and way are 0 .. 1000"), (78, "no room for another place"), (83, "a kind is 0 .. 7, a weight 0 .. 100"), (239, "no such unit"), (242, "no such place"), (97, "a cost is at most 1000000"), (108, "a unit is done"), (114, "the units are together already"), (139, "the unit is done"), (144, "exact is 0 .. 8, a cart 1 .. 1000"), (146, "most is below 0"), (185, "the unit is done or not planned"), (187, "rules do not allow the place any more"), (205, "the place is blocked"), (214, "the place is not blocked"), (221, "/ by zero"), (232, "what is 0 .. 3")]
def jd_decl : List MethodName := [⟨"java/lang/RuntimeException", "<init>", "(Ljava/lang/String;)V"⟩, ⟨"java/lang/Exception", "<init>", "(Ljava/lang/String;)V"⟩, ⟨"java/lang/Throwable", "<init>", "(Ljava/lang/String;)V"⟩]
/-- what throwing and catching need of a state beside the good words -/
def jd_X (A : Nat → Prop) (U : State) (H : Heap) : Prop :=
  vx_Zq Bundle.tN "UNASSIGNED_STACK" Bundle.steD A U H ∧ vx_Zq Bundle.tN "SUPPRESSED_SENTINEL" Bundle.listD A U H ∧ (∀ E ∈ jd_kinds, (Cond.castable E E).before #[] U = true) ∧ (∀ E ∈ jd_kinds, ∀ E' ∈ jd_kinds, E ≠ E' → va_Nc E E' U) ∧ (∀ q ∈ jd_decl, va_Nw (.declares q) U) ∧ ∀ q ∈ jd_texts, ∃ a : Nat, vk_R zn_A q.1 q.2 a U
theorem jd_cast {E E' : String} {A A' : Array Value} {u U : State} (hvm : u.vm.Alike U.vm) (h : (Cond.castable E E').before A u = true) : (Cond.castable E E').before A' U = true := by
  obtain ⟨c, t, h1, h2, h3⟩ := Cond.castable_spec h
  simp [Cond.before, Cond.holds, Cond.value, hvm.findClass, h1, h2, hvm.assignable, h3]
theorem jd_X.call {A A' : Nat → Prop} {s U : State} {H : Heap} {locs : List Loc} (h : jd_X A s s.heap) (hS : va_S A s.heap H locs) (hA : ∀ q, A' q → A q) (hW : s.WarmedH U.vm) : jd_X A' U H := by
  obtain ⟨h1, h2, h3, h4, h6, h5⟩ := h
  refine ⟨((h1.kept hS.2.1).narrow hA).moved hW.alike, ((h2.kept hS.2.1).narrow hA).moved hW.alike, fun E hE => jd_cast hW.alike (h3 E hE), fun E hE E' hE' hne => va_Nc.moved hW.alike (h4 E hE E' hE' hne), fun q hq => va_Nw.warmD hW (h6 q hq), fun q hq => ?_⟩
  obtain ⟨a, ha⟩ := h5 q hq
  exact ⟨a, vk_R.warm hW ha⟩
/-- what stands fast during a method -/
def jd_C (p : Program) (l : Launch) (s : State) (m : MethodId) (args : Array Value) (meth : Method) (c : Code) (D : va_G) (w : wd_T) (own : String) (cc : ByteArray) (nL : Nat) (ret : Option FieldType) (tab : List ExceptionTableEntry) (A : Nat → Prop) : Prop :=
  p.tables.exec = Jvm.exec ∧ c.code = cc ∧ c.maxLocals = nL ∧ s.vm.findClass own = some m.cls ∧ (∀ q ∈ zw_all, q.before args s = true) ∧ meth.locks = false ∧ va_K D zcl (wd_ty w) s ∧ (∀ q, s.heap.size ≤ q → A q) ∧ c.exceptionTable.toList = tab ∧ l.stackTraces = false ∧ jd_X A s s.heap ∧ meth.sig.returnType = ret
/-- which ends the method's own end allows -/
def jd_E (D : va_G) (w : wd_T) (s : State) (args : Array Value) (A : Nat → Prop) (Qp : jd_P) (Qc : Array Value → State → Outcome → State → Prop) (XC : String → State → State → Prop) : Prop :=
  (∀ (v : Option av_T) S L (t : State), Qp.1 v S L → va_P D zcl (wd_W w S L) t.heap → va_D A (wd_W w S L) → va_F A s t → s.vm.Alike t.vm → Qc args s (.returned (v.map (av_v w.1))) t) ∧
  (∀ (E : String) S L (t : State), Qp.2 E S L → va_P D zcl (wd_W w S L) t.heap → va_D A (wd_W w S L) → va_F A s t → s.vm.Alike t.vm → XC E s t)
def jd_J (l : Launch) (D : va_G) (w : wd_T) (own : String) (cc : ByteArray) (nL : Nat) (ret : Option FieldType) (tab : List ExceptionTableEntry) (R : Room) (mc ms : Nat) (Qp : jd_P) (kc ks : Nat) (pc : Nat) (lo : jl_T) (st : List av_T) (S : Nat → Nat → Int32) (L : Nat → Nat → Int64) : Prop :=
  ∀ (p : Program) (e : Env) (s : State) (m : MethodId) (args : Array Value) (below : List Frame) (meth : Method) (c : Code) (H : Heap) (locs : List Loc) (A free : Nat → Prop) (Qc : Array Value → State → Outcome → State → Prop) (XC : String → State → State → Prop) (ls : Array Slot),
    jd_C p l s m args meth c D w own cc nL ret tab A → jd_E D w s args A Qp Qc XC → (∀ q, A q → free q) → lv_has ls nL (jl_v w.1 lo) → va_P D zcl (wd_W w S L) H → va_D A (wd_W w S L) → va_S A s.heap H locs →
    W p l e R s m args below meth c H locs kc ks (vx_MQ below Qc XC args s mc ms free) (F0 m pc ls (st.map (av_v w.1)))
section JDR
variable {l : Launch} {D : va_G} {w : wd_T} {own : String} {cc : ByteArray} {nL : Nat} {ret : Option FieldType} {tab : List ExceptionTableEntry} {R : Room} {mc ms : Nat} {Qp : jd_P} {kc ks : Nat} {pc : Nat} {lo : jl_T} {st : List av_T} {S : Nat → Nat → Int32} {L : Nat → Nat → Int64}
/-- fewer locals suffice -/
theorem jd_sub (lo' : jl_T) (h : jl_le lo lo') (k : jd_J l D w own cc nL ret tab R mc ms Qp kc ks pc lo' st S L) : jd_J l D w own cc nL ret tab R mc ms Qp kc ks pc lo st S L :=
  fun p e s m args below meth c H locs A free Qc XC ls hC hE hf hl => k p e s m args below meth c H locs A free Qc XC ls hC hE hf (jl_sub h hl)
/-- more cells may be counted -/
theorem jd_widen {kc' ks' : Nat} (h1 : kc ≤ kc') (h2 : ks ≤ ks') (k : jd_J l D w own cc nL ret tab R mc ms Qp kc' ks' pc lo st S L) : jd_J l D w own cc nL ret tab R mc ms Qp kc ks pc lo st S L :=
  fun p e s m args below meth c H locs A free Qc XC ls hC hE hf hl hP hD hS => W.widen h1 h2 (k p e s m args below meth c H locs A free Qc XC ls hC hE hf hl hP hD hS)
theorem jd_iconst {n : Int} {v : Int32} (hdg : decode cc pc = .ok (.iconst n, 1)) (hv : Int32.ofInt n = v) (k : jd_J l D w own cc nL ret tab R mc ms Qp kc ks (pc + 1) lo (av_i v :: st) S L) : jd_J l D w own cc nL ret tab R mc ms Qp kc ks pc lo st S L := by
  intro p e s m args below meth c H locs A free Qc XC ls hC hE hf hl hP hD hS
  exact lv_iconst hC.1 hC.2.1 hdg hv (k p e s m args below meth c H locs A free Qc XC ls hC hE hf hl hP hD hS)
theorem jd_bipush {n : Int} {v : Int32} (hdg : decode cc pc = .ok (.bipush n, 2)) (hv : (Int8.ofInt n).toInt32 = v) (k : jd_J l D w own cc nL ret tab R mc ms Qp kc ks (pc + 2) lo (av_i v :: st) S L) : jd_J l D w own cc nL ret tab R mc ms Qp kc ks pc lo st S L := by
  intro p e s m args below meth c H locs A free Qc XC ls hC hE hf hl hP hD hS
  exact lv_bipush hC.1 hC.2.1 hdg hv (k p e s m args below meth c H locs A free Qc XC ls hC hE hf hl hP hD hS)
theorem jd_sipush {n : Int} {v : Int32} (hdg : decode cc pc = .ok (.sipush n, 3)) (hv : (Int16.ofInt n).toInt32 = v) (k : jd_J l D w own cc nL ret tab R mc ms Qp kc ks (pc + 3) lo (av_i v :: st) S L) : jd_J l D w own cc nL ret tab R mc ms Qp kc ks pc lo st S L := by
  intro p e s m args below meth c H locs A free Qc XC ls hC hE hf hl hP hD hS
  exact lv_sipush hC.1 hC.2.1 hdg hv (k p e s m args below meth c H locs A free Qc XC ls hC hE hf hl hP hD hS)
theorem jd_ldc {index : Nat} {v : Int32} (hc : Cond.constant own index v ∈ zw_all) (hdg : decode cc pc = .ok (.ldc index, 2)) (k : jd_J l D w own cc nL ret tab R mc ms Qp kc ks (pc + 2) lo (av_i v :: st) S L) : jd_J l D w own cc nL ret tab R mc ms Qp kc ks pc lo st S L := by
  intro p e s m args below meth c H locs A free Qc XC ls hC hE hf hl hP hD hS
  exact lv_ldc hC.1 hC.2.1 hC.2.2.2.1 (hC.2.2.2.2.1 _ hc) hdg (k p e s m args below meth c H locs A free Qc XC ls hC hE hf hl hP hD hS)
theorem jd_ldc2 {index : Nat} {v : Int64} (hc : Cond.constantLong own index v ∈ zw_all) (hdg : decode cc pc = .ok (.ldc2_w index, 3)) (k : jd_J l D w own cc nL ret tab R mc ms Qp kc ks (pc + 3) lo (av_l v :: st) S L) : jd_J l D w own cc nL ret tab R mc ms Qp kc ks pc lo st S L := by
  intro p e s m args below meth c H locs A free Qc XC ls hC hE hf hl hP hD hS
  exact lv_ldc2 hC.1 hC.2.1 hC.2.2.2.1 (hC.2.2.2.2.1 _ hc) hdg (k p e s m args below meth c H locs A free Qc XC ls hC hE hf hl hP hD hS)
theorem jd_iload_n {i : Fin 4} {x : Int32} (hdg : decode cc pc = .ok (.iload_n i, 1)) (hv : jl_get lo i = some (av_i x)) (k : jd_J l D w own cc nL ret tab R mc ms Qp kc ks (pc + 1) lo (av_i x :: st) S L) : jd_J l D w own cc nL ret tab R mc ms Qp kc ks pc lo st S L := by
  intro p e s m args below meth c H locs A free Qc XC ls hC hE hf hl hP hD hS
  exact lv_iload_n hC.1 hC.2.1 hdg rfl (jl_at hl hv) (k p e s m args below meth c H locs A free Qc XC ls hC hE hf hl hP hD hS)
theorem jd_iload {i : Nat} {x : Int32} (hdg : decode cc pc = .ok (.iload i, 2)) (hv : jl_get lo i = some (av_i x)) (k : jd_J l D w own cc nL ret tab R mc ms Qp kc ks (pc + 2) lo (av_i x :: st) S L) : jd_J l D w own cc nL ret tab R mc ms Qp kc ks pc lo st S L := by
  intro p e s m args below meth c H locs A free Qc XC ls hC hE hf hl hP hD hS
  exact lv_iload hC.1 hC.2.1 hdg (jl_at hl hv) (k p e s m args below meth c H locs A free Qc XC ls hC hE hf hl hP hD hS)
theorem jd_lload_n {i : Fin 4} {x : Int64} (hdg : decode cc pc = .ok (.lload_n i, 1)) (hv : jl_get lo i = some (av_l x)) (k : jd_J l D w own cc nL ret tab R mc ms Qp kc ks (pc + 1) lo (av_l x :: st) S L) : jd_J l D w own cc nL ret tab R mc ms Qp kc ks pc lo st S L := by
  intro p e s m args below meth c H locs A free Qc XC ls hC hE hf hl hP hD hS
  exact lv_lload_n hC.1 hC.2.1 hdg rfl (jl_at hl hv) (k p e s m args below meth c H locs A free Qc XC ls hC hE hf hl hP hD hS)
theorem jd_lload {i : Nat} {x : Int64} (hdg : decode cc pc = .ok (.lload i, 2)) (hv : jl_get lo i = some (av_l x)) (k : jd_J l D w own cc nL ret tab R mc ms Qp kc ks (pc + 2) lo (av_l x :: st) S L) : jd_J l D w own cc nL ret tab R mc ms Qp kc ks pc lo st S L := by
  intro p e s m args below meth c H locs A free Qc XC ls hC hE hf hl hP hD hS
  exact lv_lload hC.1 hC.2.1 hdg (jl_at hl hv) (k p e s m args below meth c H locs A free Qc XC ls hC hE hf hl hP hD hS)
theorem jd_aload_n {i : Fin 4} {r : Nat} (hdg : decode cc pc = .ok (.aload_n i, 1)) (hv : jl_get lo i = some (av_r r)) (k : jd_J l D w own cc nL ret tab R mc ms Qp kc ks (pc + 1) lo (av_r r :: st) S L) : jd_J l D w own cc nL ret tab R mc ms Qp kc ks pc lo st S L := by
  intro p e s m args below meth c H locs A free Qc XC ls hC hE hf hl hP hD hS
  exact lv_aload_n hC.1 hC.2.1 hdg rfl (jl_at hl hv) (k p e s m args below meth c H locs A free Qc XC ls hC hE hf hl hP hD hS)
theorem jd_aload {i : Nat} {r : Nat} (hdg : decode cc pc = .ok (.aload i, 2)) (hv : jl_get lo i = some (av_r r)) (k : jd_J l D w own cc nL ret tab R mc ms Qp kc ks (pc + 2) lo (av_r r :: st) S L) : jd_J l D w own cc nL ret tab R mc ms Qp kc ks pc lo st S L := by
  intro p e s m args below meth c H locs A free Qc XC ls hC hE hf hl hP hD hS
  exact lv_aload hC.1 hC.2.1 hdg (jl_at hl hv) (k p e s m args below meth c H locs A free Qc XC ls hC hE hf hl hP hD hS)
theorem jd_istore_n {i : Fin 4} {x : Int32} (hdg : decode cc pc = .ok (.istore_n i, 1)) (hn : (i : Nat) < nL) (k : jd_J l D w own cc nL ret tab R mc ms Qp kc ks (pc + 1) (jl_s1 lo i (av_i x)) st S L) : jd_J l D w own cc nL ret tab R mc ms Qp kc ks pc lo (av_i x :: st) S L := by
  intro p e s m args below meth c H locs A free Qc XC ls hC hE hf hl hP hD hS
  exact lv_istore_n hC.1 hC.2.1 hdg rfl hl hn (jl_f1 w.1 lo i (av_i x)) (fun ls' hl' => k p e s m args below meth c H locs A free Qc XC ls' hC hE hf hl' hP hD hS)
theorem jd_istore {i : Nat} {x : Int32} (hdg : decode cc pc = .ok (.istore i, 2)) (hn : i < nL) (k : jd_J l D w own cc nL ret tab R mc ms Qp kc ks (pc + 2) (jl_s1 lo i (av_i x)) st S L) : jd_J l D w own cc nL ret tab R mc ms Qp kc ks pc lo (av_i x :: st) S L := by
  intro p e s m args below meth c H locs A free Qc XC ls hC hE hf hl hP hD hS
  exact lv_istore hC.1 hC.2.1 hdg hl hn (jl_f1 w.1 lo i (av_i x)) (fun ls' hl' => k p e s m args below meth c H locs A free Qc XC ls' hC hE hf hl' hP hD hS)
theorem jd_lstore_n {i : Fin 4} {x : Int64} (hdg : decode cc pc = .ok (.lstore_n i, 1)) (hn : (i : Nat) + 1 < nL) (k : jd_J l D w own cc nL ret tab R mc ms Qp kc ks (pc + 1) (jl_s2 lo i (av_l x)) st S L) : jd_J l D w own cc nL ret tab R mc ms Qp kc ks pc lo (av_l x :: st) S L := by
  intro p e s m args below meth c H locs A free Qc XC ls hC hE hf hl hP hD hS
  exact lv_lstore_n hC.1 hC.2.1 hdg rfl hl hn (jl_f2 w.1 lo i (av_l x)) (fun ls' hl' => k p e s m args below meth c H locs A free Qc XC ls' hC hE hf hl' hP hD hS)
theorem jd_lstore {i : Nat} {x : Int64} (hdg : decode cc pc = .ok (.lstore i, 2)) (hn : i + 1 < nL) (k : jd_J l D w own cc nL ret tab R mc ms Qp kc ks (pc + 2) (jl_s2 lo i (av_l x)) st S L) : jd_J l D w own cc nL ret tab R mc ms Qp kc ks pc lo (av_l x :: st) S L := by
  intro p e s m args below meth c H locs A free Qc XC ls hC hE hf hl hP hD hS
  exact lv_lstore hC.1 hC.2.1 hdg hl hn (jl_f2 w.1 lo i (av_l x)) (fun ls' hl' => k p e s m args below meth c H locs A free Qc XC ls' hC hE hf hl' hP hD hS)
theorem jd_astore_n {i : Fin 4} {r : Nat} (hdg : decode cc pc = .ok (.astore_n i, 1)) (hn : (i : Nat) < nL) (k : jd_J l D w own cc nL ret tab R mc ms Qp kc ks (pc + 1) (jl_s1 lo i (av_r r)) st S L) : jd_J l D w own cc nL ret tab R mc ms Qp kc ks pc lo (av_r r :: st) S L := by
  intro p e s m args below meth c H locs A free Qc XC ls hC hE hf hl hP hD hS
  exact lv_astore_n hC.1 hC.2.1 hdg rfl hl hn (jl_f1 w.1 lo i (av_r r)) (fun ls' hl' => k p e s m args below meth c H locs A free Qc XC ls' hC hE hf hl' hP hD hS)
theorem jd_astore {i : Nat} {r : Nat} (hdg : decode cc pc = .ok (.astore i, 2)) (hn : i < nL) (k : jd_J l D w own cc nL ret tab R mc ms Qp kc ks (pc + 2) (jl_s1 lo i (av_r r)) st S L) : jd_J l D w own cc nL ret tab R mc ms Qp kc ks pc lo (av_r r :: st) S L := by
  intro p e s m args below meth c H locs A free Qc XC ls hC hE hf hl hP hD hS
  exact lv_astore hC.1 hC.2.1 hdg hl hn (jl_f1 w.1 lo i (av_r r)) (fun ls' hl' => k p e s m args below meth c H locs A free Qc XC ls' hC hE hf hl' hP hD hS)
theorem jd_astoreX {i : Nat} {q : Nat} (hdg : decode cc pc = .ok (.astore i, 2)) (hn : i < nL) (k : jd_J l D w own cc nL ret tab R mc ms Qp kc ks (pc + 2) (jl_s1 lo i (av_a q)) st S L) : jd_J l D w own cc nL ret tab R mc ms Qp kc ks pc lo (av_a q :: st) S L := by
  intro p e s m args below meth c H locs A free Qc XC ls hC hE hf hl hP hD hS
  exact lv_astore hC.1 hC.2.1 hdg hl hn (jl_f1 w.1 lo i (av_a q)) (fun ls' hl' => k p e s m args below meth c H locs A free Qc XC ls' hC hE hf hl' hP hD hS)
theorem jd_astore_nX {i : Fin 4} {q : Nat} (hdg : decode cc pc = .ok (.astore_n i, 1)) (hn : (i : Nat) < nL) (k : jd_J l D w own cc nL ret tab R mc ms Qp kc ks (pc + 1) (jl_s1 lo i (av_a q)) st S L) : jd_J l D w own cc nL ret tab R mc ms Qp kc ks pc lo (av_a q :: st) S L := by
  intro p e s m args below meth c H locs A free Qc XC ls hC hE hf hl hP hD hS
  exact lv_astore_n hC.1 hC.2.1 hdg rfl hl hn (jl_f1 w.1 lo i (av_a q)) (fun ls' hl' => k p e s m args below meth c H locs A free Qc XC ls' hC hE hf hl' hP hD hS)
end JDR
