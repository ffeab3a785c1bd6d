/-! CONTRACTS over worlds, and calls. -/
def ct_Pc (D : va_G) (w : wd_T) (av : List av_T) (S : Nat → Nat → Int32) (L : Nat → Nat → Int64) (sz : Nat) : Array Value → State → Prop :=
  va_Pc (av.map (av_v w.1)) (fun U => U.heap.size = sz ∧ va_P D zcl (wd_W w S L) U.heap ∧ va_K D zcl (wd_ty w) U ∧ va_D (fun _ => True) (wd_W w S L) ∧ jd_X (va_A (wd_W w S L) sz) U U.heap)
def ct_Qc (D : va_G) (w : wd_T) (S : Nat → Nat → Int32) (L : Nat → Nat → Int64) (Qp : jd_P) (sz : Nat) : Array Value → State → Outcome → State → Prop := fun _ st oc t =>
  (∃ (v : Option av_T) (S' : Nat → Nat → Int32) (L' : Nat → Nat → Int64), oc = .returned (v.map (av_v w.1)) ∧ Qp.1 v S' L' ∧ va_P D zcl (wd_W w S' L') t.heap ∧ va_D (va_A (wd_W w S L) sz) (wd_W w S' L')) ∧ va_F (va_A (wd_W w S L) sz) st t
def ct_XC (D : va_G) (w : wd_T) (S : Nat → Nat → Int32) (L : Nat → Nat → Int64) (Qp : jd_P) (sz : Nat) : String → State → State → Prop := fun E st t =>
  (∃ (S' : Nat → Nat → Int32) (L' : Nat → Nat → Int64), Qp.2 E S' L' ∧ va_P D zcl (wd_W w S' L') t.heap ∧ va_D (va_A (wd_W w S L) sz) (wd_W w S' L')) ∧ va_F (va_A (wd_W w S L) sz) st t
/-- the contract of a method with the code word hd: from the numbers S and L with these arguments it comes to an end that Qp allows -/
def ct_M (l : Launch) (D : va_G) (w : wd_T) (y : MethodName) (hd : Cond) (rm : Room) (av : List av_T) (S : Nat → Nat → Int32) (L : Nat → Nat → Int64) (Qp : jd_P) (mc ms : Nat) : Prop :=
  ∀ sz : Nat, vx_Met l y (hd :: zw_all) rm (ct_Pc D w av S L sz) (ct_Qc D w S L Qp sz) (ct_XC D w S L Qp sz) mc ms (va_A (wd_W w S L) sz)
theorem jd_X.same {A : Nat → Prop} {u U : State} {H : Heap} (hv : U.vm = u.vm) (h : jd_X A u H) : jd_X A U H := by
  obtain ⟨h1, h2, h3, h4, h6, h5⟩ := h
  have hal : u.vm.Alike U.vm := by rw [hv]; exact Vm.Alike.refl u.vm
  refine ⟨h1.moved hal, h2.moved hal, fun E hE => jd_cast hal (h3 E hE), fun E hE E' hE' hne => va_Nc.moved hal (h4 E hE E' hE' hne), fun q hq => va_Nw.same rfl hv.symm (h6 q hq), fun q hq => ?_⟩
  obtain ⟨a, ha⟩ := h5 q hq
  exact ⟨a, vk_R.same hv ha⟩
theorem ct_blind {D : va_G} {w : wd_T} {av : List av_T} {S : Nat → Nat → Int32} {L : Nat → Nat → Int64} {sz : Nat} : FrameBlind (ct_Pc D w av S L sz) := by
  intro a U g mk h
  obtain ⟨q0, q1, qP, qK, qD, qX⟩ := h
  exact ⟨q0, q1, qP, va_K.moved (u := U) (U := U.calling g mk a) (Vm.Alike.refl U.vm) qK, qD, jd_X.same (u := U) (U := U.calling g mk a) rfl qX⟩
/-- out of the judgement at the entry -/
theorem ct_intro {l : Launch} (hls : l.stackTraces = false) {D : va_G} {w : wd_T} {own : String} {y : MethodName} {cc : ByteArray} {nL : Nat} {ret : Option FieldType} {rm : Room} {av : List av_T} {S : Nat → Nat → Int32} {L : Nat → Nat → Int64} {Qp : jd_P} {mc ms : Nat} (hy : plainName y.cls = true) (hyo : y.cls = own) (hfit : (lg_sl (av.map (av_v w.1))).length ≤ nL)
    (k : jd_J l D w own cc nL ret [] rm mc ms Qp 0 0 0 (jl_args 0 av) [] S L) : ct_M l D w y (.code y cc nL ret) rm av S L Qp mc ms := by
  intro sz
  refine vx_ofW (cc := cc) (maxL := nL) (ret := ret) hy rfl ?_
  intro p e s m args below meth c s₁ B hml ht hv
  obtain ⟨rfl, hsz, hP, hK, hD0, hX⟩ := hv
  have hts := atoms_spec (ws := .code y cc nL ret :: zw_all) B.pre
  have hown : s.vm.findClass own = some m.cls := by rw [← hyo]; exact findClass_of_methodNamed B.named
  subst hsz
  have hD := hD0.self (sz := s.heap.size)
  have hl := lv_entry (av.map (av_v w.1)) (n := nL) hfit
  rw [jl_args_ok] at hl
  rw [lg_entry_eq]
  have htab : c.exceptionTable.toList = [] := List.eq_nil_iff_forall_not_mem.mpr (fun x hx => ht x hx)
  exact k p e s m _ below meth c s.heap [] (va_A (wd_W w S L) s.heap.size) (va_A (wd_W w S L) s.heap.size) _ _ _
    ⟨B.exec, B.bytes, hml, hown, fun q hq => hts q (List.mem_cons_of_mem _ hq), B.notSynchronized, hK, fun q h => Or.inr h, htab, hls, hX, B.returns⟩
    ⟨fun v S' L' t hq hP' hD' hF _ => ⟨⟨v, S', L', rfl, hq, hP', hD'⟩, hF⟩, fun E S' L' t hq hP' hD' hF _ => ⟨⟨S', L', hq, hP', hD'⟩, hF⟩⟩ (fun _ h => h) hl hP hD va_S.rf
/-- the same for a method with a table of its own -/
theorem ct_introH {l : Launch} (hls : l.stackTraces = false) {D : va_G} {w : wd_T} {own : String} {y : MethodName} {cc : ByteArray} {nL : Nat} {ret : Option FieldType} {hh : List (Nat × Nat × Nat × Nat)} {rm : Room} {av : List av_T} {S : Nat → Nat → Int32} {L : Nat → Nat → Int64} {Qp : jd_P} {mc ms : Nat} (hy : plainName y.cls = true) (hyo : y.cls = own) (hfit : (lg_sl (av.map (av_v w.1))).length ≤ nL)
    (k : jd_J l D w own cc nL ret (tableOf hh) rm mc ms Qp 0 0 0 (jl_args 0 av) [] S L) : ct_M l D w y (.codeWith y cc nL ret hh) rm av S L Qp mc ms := by
  intro sz
  refine vx_ofWH (cc := cc) (maxL := nL) (ret := ret) hy rfl ?_
  intro p e s m args below meth c s₁ B hml hv
  obtain ⟨rfl, hsz, hP, hK, hD0, hX⟩ := hv
  have hts := atoms_spec (ws := .codeWith y cc nL ret hh :: zw_all) B.pre
  have hown : s.vm.findClass own = some m.cls := by rw [← hyo]; exact findClass_of_methodNamed B.named
  subst hsz
  have hD := hD0.self (sz := s.heap.size)
  have hl := lv_entry (av.map (av_v w.1)) (n := nL) hfit
  rw [jl_args_ok] at hl
  rw [lg_entry_eq]
  have htab : c.exceptionTable.toList = tableOf hh := vx_table (x := y) B (hts _ List.mem_cons_self)
  exact k p e s m _ below meth c s.heap [] (va_A (wd_W w S L) s.heap.size) (va_A (wd_W w S L) s.heap.size) _ _ _
    ⟨B.exec, B.bytes, hml, hown, fun q hq => hts q (List.mem_cons_of_mem _ hq), B.notSynchronized, hK, fun q h => Or.inr h, htab, hls, hX, B.returns⟩
    ⟨fun v S' L' t hq hP' hD' hF _ => ⟨⟨v, S', L', rfl, hq, hP', hD'⟩, hF⟩, fun E S' L' t hq hP' hD' hF _ => ⟨⟨S', L', hq, hP', hD'⟩, hF⟩⟩ (fun _ h => h) hl hP hD va_S.rf
theorem tw_all {ws : List Cond} (h : ∀ q ∈ ws, q ∈ zw_all) : GoodIn zw_all ws := fun q hq => ⟨h q hq, good_of_word (zw_good q (h q hq))⟩
theorem tw_V {own C : String} {index : Nat} {y : MethodName} {hd : Cond} (h1 : Cond.methodLink own index y ∈ zw_all) (h2 : Cond.instanceMethod y ∈ zw_all) (h3 : Cond.selects C y y ∈ zw_all) (h4 : Cond.initialized C ∈ zw_all) (h5 : hd ∈ zw_all) : GoodIn zw_all (wsV own index C y (hd :: zw_all)) := tw_all (fun q hq => by
  unfold wsV at hq
  simp only [List.cons_append, List.nil_append, List.mem_cons] at hq
  rcases hq with e | e | e | e | e | e
  · rw [e]; exact h1
  · rw [e]; exact h2
  · rw [e]; exact h3
  · rw [e]; exact h4
  · rw [e]; exact h5
  · exact e)
theorem tw_S {own : String} {index : Nat} {y : MethodName} {hd : Cond} (h1 : Cond.methodLink own index y ∈ zw_all) (h2 : Cond.static y ∈ zw_all) (h4 : Cond.initialized y.cls ∈ zw_all) (h5 : hd ∈ zw_all) : GoodIn zw_all (va_wsS own index y (hd :: zw_all)) := tw_all (fun q hq => by
  unfold va_wsS at hq
  simp only [List.cons_append, List.nil_append, List.mem_cons] at hq
  rcases hq with e | e | e | e | e
  · rw [e]; exact h1
  · rw [e]; exact h2
  · rw [e]; exact h4
  · rw [e]; exact h5
  · exact e)
section JDC
variable {l : Launch} {D : va_G} {w : wd_T} {own : String} {cc : ByteArray} {nL : Nat} {ret : Option FieldType} {tab : List ExceptionTableEntry} {R : Room} {mc ms : Nat} {Qp : jd_P} {kc ks : Nat} {pc : Nat} {lo : jl_T} {st : List av_T} {S : Nat → Nat → Int32} {L : Nat → Nat → Int64}
/-- an exception of the kind E is on its way over the frame -/
def jd_T (l : Launch) (D : va_G) (w : wd_T) (own : String) (cc : ByteArray) (nL : Nat) (ret : Option FieldType) (tab : List ExceptionTableEntry) (R : Room) (mc ms : Nat) (Qp : jd_P) (kc ks : Nat) (pc : Nat) (lo : jl_T) (E : String) (S : Nat → Nat → Int32) (L : Nat → Nat → Int64) : Prop :=
  ∀ (p : Program) (e : Env) (s : State) (m : MethodId) (args : Array Value) (below : List Frame) (meth : Method) (c : Code) (H : Heap) (locs : List Loc) (A free : Nat → Prop) (Qc : Array Value → State → Outcome → State → Prop) (XC : String → State → State → Prop) (ls : Array Slot) (st : List Value) (q : Nat) (ce : Cell),
    jd_C p l s m args meth c D w own cc nL ret tab A → jd_E D w s args A Qp Qc XC → (∀ q, A q → free q) → lv_has ls nL (jl_v w.1 lo) → va_P D zcl (wd_W w S L) H → va_D A (wd_W w S L) → va_S A s.heap H locs → H[q]? = some ce → ce.vm = .none → s.vm.findClass E = some ce.cls →
    vx_W p l e R s m args below meth c H locs kc ks (vx_MQ below Qc XC args s mc ms free) (F0 m pc ls st) q
/-- the method has no table: it ends by the exception -/
theorem jd_out {E : String} (ht : tab = []) (hq : Qp.2 E S L) (h1 : kc ≤ mc) (h2 : ks ≤ ms) : jd_T l D w own cc nL ret tab R mc ms Qp kc ks pc lo E S L := by
  intro p e s m args below meth c H locs A free Qc XC ls st q ce hC hE hf hl hP hD hS hce hcv hcl
  exact vx_out (by rw [hC.2.2.2.2.2.2.2.2.1, ht]; exact fun x hx => by cases hx) hC.2.2.2.2.2.1 hce hcv hcl (fun t ht hW => hE.2 E S L t hq (by rw [ht]; exact hP) hD (hS.F ht) hW) (fun z hz => hf _ (hS.2.2 z hz)) h1 h2
/-- a call of an object's method: it returns, or throws -/
theorem jd_callV {C : String} {index ci rb : Nat} {y : MethodName} {bb : ByteArray} {nB : Nat} {retB : Option FieldType} {rm : Room} {As rest st0 : List av_T} {Qp' : jd_P} {mc' ms' n : Nat} {fs : List av_T} {T : u_T} {N : Nat}
    (hM : ct_M l D w y (.code y bb nB retB) rm (av_r rb :: As) S L Qp' mc' ms') (hst : st0 = As.reverse ++ av_r rb :: rest) (hc : ac_of w.2.2.1 w.2.2.2 rb (S rb) (L rb) = .inr (ci, fs)) (hcl : zcl[ci]? = some (C, T, N)) (hr : rl_in w.2.2.1 w.2.2.2 rb = true) (hr2 : rb < 501)
    (h1 : Cond.methodLink own index y ∈ zw_all) (h2 : Cond.instanceMethod y ∈ zw_all) (h3 : Cond.selects C y y ∈ zw_all) (h4 : Cond.initialized C ∈ zw_all) (h5 : Cond.code y bb nB retB ∈ zw_all) (hd : y.cls = C ∧ y.cls ≠ "java/lang/invoke/MethodHandle" ∧ y.cls ≠ "java/lang/invoke/VarHandle" ∧ (parseMethodDescriptor y.desc).map (fun d => d.parameters.length) = some n) (hn : As.length = n)
    (hrc : rm.cells = mc') (hrs : rm.slots = ms') (hR : rm.frames + 1 ≤ R.frames ∧ 8 + (nB + 11) + rm.locals ≤ R.locals) (hw8 : (rest.map av_cat).sum ≤ 8) (hroom : kc + mc' ≤ R.cells ∧ ks + ms' ≤ R.slots) (hdg : decode cc pc = .ok (.invokevirtual index, 3))
    (kt : ∀ E S' L', Qp'.2 E S' L' → jd_T l D w own cc nL ret tab R mc ms Qp (kc + mc') (ks + ms') pc lo E S' L')
    (kk : ∀ v S' L', Qp'.1 v S' L' → jd_J l D w own cc nL ret tab R mc ms Qp (kc + mc') (ks + ms') (pc + 3) lo (v.toList ++ rest) S' L') : jd_J l D w own cc nL ret tab R mc ms Qp kc ks pc lo st0 S L := by
  intro p e s m args below meth c H locs A free Qc XC ls hC hE hf hl hP hD hS
  have hFc := rp_free (H := H) hD hS hC.2.2.2.2.2.2.2.1
  have hrun := vx_runV (p := p) (e := e) (R := R) (below := below) (meth := meth) (H := H) (locs := locs) (cells := kc) (slots := ks) (g := F0 m pc ls (st0.map (av_v w.1))) (As := As.map (av_v w.1)) (rest := rest.map (av_v w.1)) (b := w.1 rb) (Ts := zw_all) (cc := cc) (nL := nL) ⟨hC.1, hC.2.1, hC.2.2.1, hC.2.2.2.1, hC.2.2.2.2.1⟩ (hM H.size) (cwV n hC.2.2.2.2.1 (tw_V h1 h2 h3 h4 h5) rfl hrc hrs hd hR)
    ⟨ct_blind, rp_recv hC.2.2.2.2.2.2.1 hP (wd_mem hr hr2) (wd_obj hc) hcl, fun U hU hW => ⟨rfl, by rw [hU], by rw [hU]; exact hP, va_K.moved hW.alike hC.2.2.2.2.2.2.1, hD.weaken (fun _ _ _ _ => trivial), by rw [hU]; exact hC.2.2.2.2.2.2.2.2.2.2.1.call hS hFc hW⟩⟩ rfl (by rw [List.length_map]; exact hn) hl.1 (by show st0.map (av_v w.1) = _; rw [hst]; simp [av_v]) (lv_room (by rw [List.map_map]; refine Nat.le_trans (Nat.le_of_eq ?_) hw8; congr 1; apply List.map_congr_left; intro v _; exact av_cat_ok w.1 v)) hdg hroom
  intro T9 hT X
  rcases hrun T9 hT X with ⟨v, st₀, t, T', L9, h0, X', hL, e1, e2, ⟨⟨v', S', L', hv, hq, hP', hD'⟩, hF⟩, sg⟩ | ⟨q, st₀, t, T', L9, E, ce, h0, X', hL, e1, e2, ⟨⟨S', L', hq, hP', hD'⟩, hF⟩, hce, hcv, hcl9, sg⟩
  · cases hv
    obtain ⟨k1, k2, k3⟩ := vx_keep h0 e1 hS (fun q _ h => hFc q h) hFc hL hF
    obtain ⟨t2, a1, b1⟩ := kk v' S' L' hq p e s m args below meth c T'.heap (locs ++ L9) A free Qc XC ls hC hE hf hl (by rw [e1]; exact hP') (hD'.weaken (fun _ z _ h => hFc _ h)) k3 T' rfl X'
    refine ⟨t2, sg t2 ?_, b1⟩
    have e9 : (v'.toList ++ rest).map (av_v w.1) = (v'.map (av_v w.1)).toList ++ rest.map (av_v w.1) := by cases v' <;> simp
    rw [e9] at a1
    exact a1
  · obtain ⟨k1, k2, k3⟩ := vx_keep h0 e1 hS (fun q _ h => hFc q h) hFc hL hF
    obtain ⟨t2, a1, b1⟩ := kt E S' L' hq p e s m args below meth c T'.heap (locs ++ L9) A free Qc XC ls (rest.map (av_v w.1)) q ce hC hE hf hl (by rw [e1]; exact hP') (hD'.weaken (fun _ z _ h => hFc _ h)) k3 (by rw [e1]; exact hce) hcv hcl9 T' rfl X'
    exact ⟨t2, sg.trans a1, b1⟩
/-- a call of a static method -/
theorem jd_callS {index : Nat} {y : MethodName} {bb : ByteArray} {nB : Nat} {retB : Option FieldType} {rm : Room} {As rest st0 : List av_T} {Qp' : jd_P} {mc' ms' n : Nat}
    (hM : ct_M l D w y (.code y bb nB retB) rm As S L Qp' mc' ms') (hst : st0 = As.reverse ++ rest)
    (h1 : Cond.methodLink own index y ∈ zw_all) (h2 : Cond.static y ∈ zw_all) (h4 : Cond.initialized y.cls ∈ zw_all) (h5 : Cond.code y bb nB retB ∈ zw_all) (hd : y.cls ≠ "java/lang/invoke/MethodHandle" ∧ y.cls ≠ "java/lang/invoke/VarHandle" ∧ (parseMethodDescriptor y.desc).map (fun d => d.parameters.length) = some n) (hn : As.length = n)
    (hrc : rm.cells = mc') (hrs : rm.slots = ms') (hR : rm.frames + 1 ≤ R.frames ∧ 8 + (nB + 11) + rm.locals ≤ R.locals) (hw8 : (rest.map av_cat).sum ≤ 8) (hroom : kc + mc' ≤ R.cells ∧ ks + ms' ≤ R.slots) (hdg : decode cc pc = .ok (.invokestatic index, 3))
    (kt : ∀ E S' L', Qp'.2 E S' L' → jd_T l D w own cc nL ret tab R mc ms Qp (kc + mc') (ks + ms') pc lo E S' L')
    (kk : ∀ v S' L', Qp'.1 v S' L' → jd_J l D w own cc nL ret tab R mc ms Qp (kc + mc') (ks + ms') (pc + 3) lo (v.toList ++ rest) S' L') : jd_J l D w own cc nL ret tab R mc ms Qp kc ks pc lo st0 S L := by
  intro p e s m args below meth c H locs A free Qc XC ls hC hE hf hl hP hD hS
  have hFc := rp_free (H := H) hD hS hC.2.2.2.2.2.2.2.1
  have hrun := vx_runS (p := p) (e := e) (R := R) (below := below) (meth := meth) (H := H) (locs := locs) (cells := kc) (slots := ks) (g := F0 m pc ls (st0.map (av_v w.1))) (As := As.map (av_v w.1)) (rest := rest.map (av_v w.1)) (Ts := zw_all) (cc := cc) (nL := nL) ⟨hC.1, hC.2.1, hC.2.2.1, hC.2.2.2.1, hC.2.2.2.2.1⟩ (hM H.size) (va_cwS n hC.2.2.2.2.1 (tw_S h1 h2 h4 h5) rfl hrc hrs hd hR)
    ⟨ct_blind, fun U hU hW => ⟨rfl, by rw [hU], by rw [hU]; exact hP, va_K.moved hW.alike hC.2.2.2.2.2.2.1, hD.weaken (fun _ _ _ _ => trivial), by rw [hU]; exact hC.2.2.2.2.2.2.2.2.2.2.1.call hS hFc hW⟩⟩ rfl (by rw [List.length_map]; exact hn) hl.1 (by show st0.map (av_v w.1) = _; rw [hst]; simp) (lv_room (by rw [List.map_map]; refine Nat.le_trans (Nat.le_of_eq ?_) hw8; congr 1; apply List.map_congr_left; intro v _; exact av_cat_ok w.1 v)) hdg hroom
  intro T9 hT X
  rcases hrun T9 hT X with ⟨v, st₀, t, T', L9, h0, X', hL, e1, e2, ⟨⟨v', S', L', hv, hq, hP', hD'⟩, hF⟩, sg⟩ | ⟨q, st₀, t, T', L9, E, ce, h0, X', hL, e1, e2, ⟨⟨S', L', hq, hP', hD'⟩, hF⟩, hce, hcv, hcl9, sg⟩
  · cases hv
    obtain ⟨k1, k2, k3⟩ := vx_keep h0 e1 hS (fun q _ h => hFc q h) hFc hL hF
    obtain ⟨t2, a1, b1⟩ := kk v' S' L' hq p e s m args below meth c T'.heap (locs ++ L9) A free Qc XC ls hC hE hf hl (by rw [e1]; exact hP') (hD'.weaken (fun _ z _ h => hFc _ h)) k3 T' rfl X'
    refine ⟨t2, sg t2 ?_, b1⟩
    have e9 : (v'.toList ++ rest).map (av_v w.1) = (v'.map (av_v w.1)).toList ++ rest.map (av_v w.1) := by cases v' <;> simp
    rw [e9] at a1
    exact a1
  · obtain ⟨k1, k2, k3⟩ := vx_keep h0 e1 hS (fun q _ h => hFc q h) hFc hL hF
    obtain ⟨t2, a1, b1⟩ := kt E S' L' hq p e s m args below meth c T'.heap (locs ++ L9) A free Qc XC ls (rest.map (av_v w.1)) q ce hC hE hf hl (by rw [e1]; exact hP') (hD'.weaken (fun _ z _ h => hFc _ h)) k3 (by rw [e1]; exact hce) hcv hcl9 T' rfl X'
    exact ⟨t2, sg.trans a1, b1⟩
end JDC
