/-! CONTRACTS OF METHODS BEHIND WHICH THE WORLD HAS GROWN. -/
abbrev cg_P : Type := Option av_T → wd_T → (Nat → Nat → Int32) → (Nat → Nat → Int64) → Prop
def cg_Qc (D : va_G) (w : wd_T) (S : Nat → Nat → Int32) (L : Nat → Nat → Int64) (Qg : cg_P) (sz : Nat) : Array Value → State → Outcome → State → Prop := fun _ st oc t =>
  (∃ (v : Option av_T) (w' : wd_T) (S' : Nat → Nat → Int32) (L' : Nat → Nat → Int64), oc = .returned (v.map (av_v w'.1)) ∧ Qg v w' S' L' ∧ va_P D zcl (wd_W w' S' L') t.heap ∧ va_D (va_A (wd_W w S L) sz) (wd_W w' S' L')) ∧ va_F (va_A (wd_W w S L) sz) st t
def cg_M (l : Launch) (D : va_G) (w : wd_T) (y : MethodName) (hd : Cond) (rm : Room) (av : List av_T) (S : Nat → Nat → Int32) (L : Nat → Nat → Int64) (Qg : cg_P) (mc ms : Nat) : Prop :=
  ∀ sz : Nat, vx_Met l y (hd :: zw_all) rm (ct_Pc D w av S L sz) (cg_Qc D w S L Qg sz) (fun _ _ _ => False) mc ms (va_A (wd_W w S L) sz)
theorem cg_intro {l : Launch} (hls : l.stackTraces = false) {D : va_G} {w : wd_T} {own : String} {y : MethodName} {cc : ByteArray} {nL : Nat} {ret : Option FieldType} {rm : Room} {av : List av_T} {S : Nat → Nat → Int32} {L : Nat → Nat → Int64} {Qg : cg_P} {mc ms : Nat} (hy : plainName y.cls = true) (hyo : y.cls = own) (hfit : (lg_sl (av.map (av_v w.1))).length ≤ nL)
    (k : ∀ (p : Program) (e : Env) (s : State) (m : MethodId) (args : Array Value) (below : List Frame) (meth : Method) (c : Code) (sz : Nat), jw_J p l e rm s m args below meth c (vx_MQ below (cg_Qc D w S L Qg sz) (fun _ _ _ => False) args s mc ms (va_A (wd_W w S L) sz)) D own cc nL ret [] (va_A (wd_W w S L) sz) w 0 0 0 (jl_args 0 av) [] S L) : cg_M l D w y (.code y cc nL ret) rm av S L Qg mc ms := by
  intro sz
  refine vx_ofW (cc := cc) (maxL := nL) (ret := ret) hy rfl ?_
  intro p e s m args below meth c s₁ B hml ht hv
  obtain ⟨rfl, hsz, hP, hK, hD0, hX⟩ := hv
  have hts := atoms_spec (ws := .code y cc nL ret :: zw_all) B.pre
  have hown : s.vm.findClass own = some m.cls := by rw [← hyo]; exact findClass_of_methodNamed B.named
  subst hsz
  have hD := hD0.self (sz := s.heap.size)
  have hl := lv_entry (av.map (av_v w.1)) (n := nL) hfit
  rw [jl_args_ok] at hl
  rw [lg_entry_eq]
  have htab : c.exceptionTable.toList = [] := List.eq_nil_iff_forall_not_mem.mpr (fun x hx => ht x hx)
  exact k p e s m _ below meth c s.heap.size
    ⟨B.exec, B.bytes, hml, hown, fun q hq => hts q (List.mem_cons_of_mem _ hq), B.notSynchronized, hK, fun q h => Or.inr h, htab, hls, hX, B.returns⟩ s.heap [] _ hl hP hD va_S.rf
theorem cg_introH {l : Launch} (hls : l.stackTraces = false) {D : va_G} {w : wd_T} {own : String} {y : MethodName} {cc : ByteArray} {nL : Nat} {ret : Option FieldType} {hh : List (Nat × Nat × Nat × Nat)} {rm : Room} {av : List av_T} {S : Nat → Nat → Int32} {L : Nat → Nat → Int64} {Qg : cg_P} {mc ms : Nat} (hy : plainName y.cls = true) (hyo : y.cls = own) (hfit : (lg_sl (av.map (av_v w.1))).length ≤ nL)
    (k : ∀ (p : Program) (e : Env) (s : State) (m : MethodId) (args : Array Value) (below : List Frame) (meth : Method) (c : Code) (sz : Nat), jw_J p l e rm s m args below meth c (vx_MQ below (cg_Qc D w S L Qg sz) (fun _ _ _ => False) args s mc ms (va_A (wd_W w S L) sz)) D own cc nL ret (tableOf hh) (va_A (wd_W w S L) sz) w 0 0 0 (jl_args 0 av) [] S L) : cg_M l D w y (.codeWith y cc nL ret hh) rm av S L Qg mc ms := by
  intro sz
  refine vx_ofWH (cc := cc) (maxL := nL) (ret := ret) hy rfl ?_
  intro p e s m args below meth c s₁ B hml hv
  obtain ⟨rfl, hsz, hP, hK, hD0, hX⟩ := hv
  have hts := atoms_spec (ws := .codeWith y cc nL ret hh :: zw_all) B.pre
  have hown : s.vm.findClass own = some m.cls := by rw [← hyo]; exact findClass_of_methodNamed B.named
  subst hsz
  have hD := hD0.self (sz := s.heap.size)
  have hl := lv_entry (av.map (av_v w.1)) (n := nL) hfit
  rw [jl_args_ok] at hl
  rw [lg_entry_eq]
  have htab : c.exceptionTable.toList = tableOf hh := vx_table (x := y) B (hts _ List.mem_cons_self)
  exact k p e s m _ below meth c s.heap.size
    ⟨B.exec, B.bytes, hml, hown, fun q hq => hts q (List.mem_cons_of_mem _ hq), B.notSynchronized, hK, fun q h => Or.inr h, htab, hls, hX, B.returns⟩ s.heap [] _ hl hP hD va_S.rf
theorem jd_C_w {p : Program} {l : Launch} {s : State} {m : MethodId} {args : Array Value} {meth : Method} {c : Code} {D : va_G} {w w' : wd_T} {own : String} {cc : ByteArray} {nL : Nat} {ret : Option FieldType} {tab : List ExceptionTableEntry} {A : Nat → Prop} (h : jd_C p l s m args meth c D w own cc nL ret tab A) (e : w'.2.1 = w.2.1) : jd_C p l s m args meth c D w' own cc nL ret tab A := by
  obtain ⟨h1, h2, h3, h4, h5, h6, h7, h8⟩ := h
  refine ⟨h1, h2, h3, h4, h5, h6, ?_, h8⟩
  have e2 : wd_ty w' = wd_ty w := by unfold wd_ty; rw [e]
  rw [e2]; exact h7
section JWG
variable {p : Program} {l : Launch} {e : Env} {R : Room} {s : State} {m : MethodId} {args : Array Value} {below : List Frame} {meth : Method} {c0 : Code} {Q : State → Prop} {D : va_G} {own : String} {cc : ByteArray} {nL : Nat} {ret : Option FieldType} {tab : List ExceptionTableEntry} {A : Nat → Prop} {w : wd_T} {kc ks : Nat} {pc : Nat} {lo : jl_T} {st : List av_T} {S S' : Nat → Nat → Int32} {L L' : Nat → Nat → Int64}
/-- the end of a method behind which the world has grown -/
theorem jw_giret {w0 : wd_T} {S0 : Nat → Nat → Int32} {L0 : Nat → Nat → Int64} {sz mc ms : Nat} {Qg : cg_P} {XC : String → State → State → Prop} {v : Int32} (hr : ret = some .int) (hq : Qg (some (av_i v)) w S L) (h1 : kc ≤ mc) (h2 : ks ≤ ms) (hdg : decode cc pc = .ok (.ireturn, 1)) : jw_J p l e R s m args below meth c0 (vx_MQ below (cg_Qc D w0 S0 L0 Qg sz) XC args s mc ms (va_A (wd_W w0 S0 L0) sz)) D own cc nL ret tab (va_A (wd_W w0 S0 L0) sz) w kc ks pc lo [av_i v] S L := by
  intro hC H locs ls hl hP hD hS
  exact W.widen h1 h2 (vx_ret (W.iret hC.1 hC.2.1 (hC.2.2.2.2.2.2.2.2.2.2.2.trans hr) (fun t ht hW => ⟨⟨some (av_i v), w, S, L, rfl, hq, by rw [ht]; exact hP, hD⟩, hS.F ht⟩) (fun q hq => hS.2.2 q hq) hdg hC.2.2.2.2.2.1))
/-- a call behind which the world has grown -/
theorem jw_callGV {C : String} {index ci rb : Nat} {y : MethodName} {bb : ByteArray} {nB : Nat} {retB : Option FieldType} {rm : Room} {As rest st0 : List av_T} {Qg : cg_P} {mc' ms' n : Nat} {fs : List av_T} {T : u_T} {N : Nat}
    (hM : cg_M l D w y (.code y bb nB retB) rm (av_r rb :: As) S L Qg mc' ms') (hst : st0 = As.reverse ++ av_r rb :: rest) (hc : ac_of w.2.2.1 w.2.2.2 rb (S rb) (L rb) = .inr (ci, fs)) (hcl : zcl[ci]? = some (C, T, N)) (hr : rl_in w.2.2.1 w.2.2.2 rb = true) (hr2 : rb < 501)
    (h1 : Cond.methodLink own index y ∈ zw_all) (h2 : Cond.instanceMethod y ∈ zw_all) (h3 : Cond.selects C y y ∈ zw_all) (h4 : Cond.initialized C ∈ zw_all) (h5 : Cond.code y bb nB retB ∈ zw_all) (hd : y.cls = C ∧ y.cls ≠ "java/lang/invoke/MethodHandle" ∧ y.cls ≠ "java/lang/invoke/VarHandle" ∧ (parseMethodDescriptor y.desc).map (fun d => d.parameters.length) = some n) (hn : As.length = n)
    (hrc : rm.cells = mc') (hrs : rm.slots = ms') (hR : rm.frames + 1 ≤ R.frames ∧ 8 + (nB + 11) + rm.locals ≤ R.locals) (hw8 : (rest.map av_cat).sum ≤ 8) (hroom : kc + mc' ≤ R.cells ∧ ks + ms' ≤ R.slots) (hdg : decode cc pc = .ok (.invokevirtual index, 3))
    (hx : ∀ v w' S' L', Qg v w' S' L' → w'.2.1 = w.2.1 ∧ jl_v w'.1 lo = jl_v w.1 lo ∧ rest.map (av_v w'.1) = rest.map (av_v w.1))
    (kk : ∀ v w' S' L', Qg v w' S' L' → jw_J p l e R s m args below meth c0 Q D own cc nL ret tab A w' (kc + mc') (ks + ms') (pc + 3) lo (v.toList ++ rest) S' L') : jw_J p l e R s m args below meth c0 Q D own cc nL ret tab A w kc ks pc lo st0 S L := by
  intro hC H locs ls hl hP hD hS
  have hFc := rp_free (H := H) hD hS hC.2.2.2.2.2.2.2.1
  have hrun := vx_runV (p := p) (e := e) (R := R) (below := below) (meth := meth) (H := H) (locs := locs) (cells := kc) (slots := ks) (g := F0 m pc ls (st0.map (av_v w.1))) (As := As.map (av_v w.1)) (rest := rest.map (av_v w.1)) (b := w.1 rb) (Ts := zw_all) (cc := cc) (nL := nL) ⟨hC.1, hC.2.1, hC.2.2.1, hC.2.2.2.1, hC.2.2.2.2.1⟩ (hM H.size) (cwV n hC.2.2.2.2.1 (tw_V h1 h2 h3 h4 h5) rfl hrc hrs hd hR)
    ⟨ct_blind, rp_recv hC.2.2.2.2.2.2.1 hP (wd_mem hr hr2) (wd_obj hc) hcl, fun U hU hW => ⟨rfl, by rw [hU], by rw [hU]; exact hP, va_K.moved hW.alike hC.2.2.2.2.2.2.1, hD.weaken (fun _ _ _ _ => trivial), by rw [hU]; exact hC.2.2.2.2.2.2.2.2.2.2.1.call hS hFc hW⟩⟩ rfl (by rw [List.length_map]; exact hn) hl.1 (by show st0.map (av_v w.1) = _; rw [hst]; simp [av_v]) (lv_room (by rw [List.map_map]; refine Nat.le_trans (Nat.le_of_eq ?_) hw8; congr 1; apply List.map_congr_left; intro v _; exact av_cat_ok w.1 v)) hdg hroom
  intro T9 hT X
  rcases hrun T9 hT X with ⟨v, st₀, t, T', L9, h0, X', hL, e1, e2, ⟨⟨v', w', S', L', hv, hq, hP', hD'⟩, hF⟩, sg⟩ | ⟨q, st₀, t, T', L9, E, ce, h0, X', hL, e1, e2, hfalse, -⟩
  · cases hv
    obtain ⟨k1, k2, k3⟩ := vx_keep h0 e1 hS (fun q _ h => hFc q h) hFc hL hF
    obtain ⟨x1, x2, x3⟩ := hx v' w' S' L' hq
    obtain ⟨t2, a1, b1⟩ := kk v' w' S' L' hq (jd_C_w hC x1) T'.heap (locs ++ L9) ls (by rw [x2]; exact hl) (by rw [e1]; exact hP') (hD'.weaken (fun _ z _ h => hFc _ h)) k3 T' rfl X'
    refine ⟨t2, sg t2 ?_, b1⟩
    have e9 : (v'.toList ++ rest).map (av_v w'.1) = (v'.map (av_v w'.1)).toList ++ rest.map (av_v w.1) := by rw [← x3]; cases v' <;> simp
    rw [e9] at a1
    exact a1
  · exact hfalse.elim
/-- .. of a static method with a table -/
theorem jw_callGS {index : Nat} {y : MethodName} {bb : ByteArray} {nB : Nat} {retB : Option FieldType} {hh : List (Nat × Nat × Nat × Nat)} {rm : Room} {As rest st0 : List av_T} {Qg : cg_P} {mc' ms' n : Nat}
    (hM : cg_M l D w y (.codeWith y bb nB retB hh) rm As S L Qg mc' ms') (hst : st0 = As.reverse ++ rest)
    (h1 : Cond.methodLink own index y ∈ zw_all) (h2 : Cond.static y ∈ zw_all) (h4 : Cond.initialized y.cls ∈ zw_all) (h5 : Cond.codeWith y bb nB retB hh ∈ zw_all) (hd : y.cls ≠ "java/lang/invoke/MethodHandle" ∧ y.cls ≠ "java/lang/invoke/VarHandle" ∧ (parseMethodDescriptor y.desc).map (fun d => d.parameters.length) = some n) (hn : As.length = n)
    (hrc : rm.cells = mc') (hrs : rm.slots = ms') (hR : rm.frames + 1 ≤ R.frames ∧ 8 + (nB + 11) + rm.locals ≤ R.locals) (hw8 : (rest.map av_cat).sum ≤ 8) (hroom : kc + mc' ≤ R.cells ∧ ks + ms' ≤ R.slots) (hdg : decode cc pc = .ok (.invokestatic index, 3))
    (hx : ∀ v w' S' L', Qg v w' S' L' → w'.2.1 = w.2.1 ∧ jl_v w'.1 lo = jl_v w.1 lo ∧ rest.map (av_v w'.1) = rest.map (av_v w.1))
    (kk : ∀ v w' S' L', Qg v w' S' L' → jw_J p l e R s m args below meth c0 Q D own cc nL ret tab A w' (kc + mc') (ks + ms') (pc + 3) lo (v.toList ++ rest) S' L') : jw_J p l e R s m args below meth c0 Q D own cc nL ret tab A w kc ks pc lo st0 S L := by
  intro hC H locs ls hl hP hD hS
  have hFc := rp_free (H := H) hD hS hC.2.2.2.2.2.2.2.1
  have hrun := vx_runSX (hh := hh) (p := p) (e := e) (R := R) (below := below) (meth := meth) (H := H) (locs := locs) (cells := kc) (slots := ks) (g := F0 m pc ls (st0.map (av_v w.1))) (As := As.map (av_v w.1)) (rest := rest.map (av_v w.1)) (Ts := zw_all) (cc := cc) (nL := nL) ⟨hC.1, hC.2.1, hC.2.2.1, hC.2.2.2.1, hC.2.2.2.2.1⟩ (hM H.size) (vx_cwSW n hC.2.2.2.2.1 (tw_S h1 h2 h4 h5) rfl hrc hrs hd hR)
    ⟨ct_blind, fun U hU hW => ⟨rfl, by rw [hU], by rw [hU]; exact hP, va_K.moved hW.alike hC.2.2.2.2.2.2.1, hD.weaken (fun _ _ _ _ => trivial), by rw [hU]; exact hC.2.2.2.2.2.2.2.2.2.2.1.call hS hFc hW⟩⟩ rfl (by rw [List.length_map]; exact hn) hl.1 (by show st0.map (av_v w.1) = _; rw [hst]; simp) (lv_room (by rw [List.map_map]; refine Nat.le_trans (Nat.le_of_eq ?_) hw8; congr 1; apply List.map_congr_left; intro v _; exact av_cat_ok w.1 v)) hdg hroom
  intro T9 hT X
  rcases hrun T9 hT X with ⟨v, st₀, t, T', L9, h0, X', hL, e1, e2, ⟨⟨v', w', S', L', hv, hq, hP', hD'⟩, hF⟩, sg⟩ | ⟨q, st₀, t, T', L9, E, ce, h0, X', hL, e1, e2, hfalse, -⟩
  · cases hv
    obtain ⟨k1, k2, k3⟩ := vx_keep h0 e1 hS (fun q _ h => hFc q h) hFc hL hF
    obtain ⟨x1, x2, x3⟩ := hx v' w' S' L' hq
    obtain ⟨t2, a1, b1⟩ := kk v' w' S' L' hq (jd_C_w hC x1) T'.heap (locs ++ L9) ls (by rw [x2]; exact hl) (by rw [e1]; exact hP') (hD'.weaken (fun _ z _ h => hFc _ h)) k3 T' rfl X'
    refine ⟨t2, sg t2 ?_, b1⟩
    have e9 : (v'.toList ++ rest).map (av_v w'.1) = (v'.map (av_v w'.1)).toList ++ rest.map (av_v w.1) := by rw [← x3]; cases v' <;> simp
    rw [e9] at a1
    exact a1
  · exact hfalse.elim
/-- a static method with a table, the world stays -/
theorem jw_callSX {index : Nat} {y : MethodName} {bb : ByteArray} {nB : Nat} {retB : Option FieldType} {hh : List (Nat × Nat × Nat × Nat)} {rm : Room} {As rest st0 : List av_T} {Qp' : jd_P} {mc' ms' n : Nat}
    (hM : ct_M l D w y (.codeWith y bb nB retB hh) rm As S L Qp' mc' ms') (hst : st0 = As.reverse ++ rest)
    (h1 : Cond.methodLink own index y ∈ zw_all) (h2 : Cond.static y ∈ zw_all) (h4 : Cond.initialized y.cls ∈ zw_all) (h5 : Cond.codeWith y bb nB retB hh ∈ zw_all) (hd : y.cls ≠ "java/lang/invoke/MethodHandle" ∧ y.cls ≠ "java/lang/invoke/VarHandle" ∧ (parseMethodDescriptor y.desc).map (fun d => d.parameters.length) = some n) (hn : As.length = n)
    (hrc : rm.cells = mc') (hrs : rm.slots = ms') (hR : rm.frames + 1 ≤ R.frames ∧ 8 + (nB + 11) + rm.locals ≤ R.locals) (hw8 : (rest.map av_cat).sum ≤ 8) (hroom : kc + mc' ≤ R.cells ∧ ks + ms' ≤ R.slots) (hdg : decode cc pc = .ok (.invokestatic index, 3))
    (kt : ∀ E S' L', Qp'.2 E S' L' → False)
    (kk : ∀ v S' L', Qp'.1 v S' L' → jw_J p l e R s m args below meth c0 Q D own cc nL ret tab A w (kc + mc') (ks + ms') (pc + 3) lo (v.toList ++ rest) S' L') : jw_J p l e R s m args below meth c0 Q D own cc nL ret tab A w kc ks pc lo st0 S L := by
  intro hC H locs ls hl hP hD hS
  have hFc := rp_free (H := H) hD hS hC.2.2.2.2.2.2.2.1
  have hrun := vx_runSX (hh := hh) (p := p) (e := e) (R := R) (below := below) (meth := meth) (H := H) (locs := locs) (cells := kc) (slots := ks) (g := F0 m pc ls (st0.map (av_v w.1))) (As := As.map (av_v w.1)) (rest := rest.map (av_v w.1)) (Ts := zw_all) (cc := cc) (nL := nL) ⟨hC.1, hC.2.1, hC.2.2.1, hC.2.2.2.1, hC.2.2.2.2.1⟩ (hM H.size) (vx_cwSW n hC.2.2.2.2.1 (tw_S h1 h2 h4 h5) rfl hrc hrs hd hR)
    ⟨ct_blind, fun U hU hW => ⟨rfl, by rw [hU], by rw [hU]; exact hP, va_K.moved hW.alike hC.2.2.2.2.2.2.1, hD.weaken (fun _ _ _ _ => trivial), by rw [hU]; exact hC.2.2.2.2.2.2.2.2.2.2.1.call hS hFc hW⟩⟩ rfl (by rw [List.length_map]; exact hn) hl.1 (by show st0.map (av_v w.1) = _; rw [hst]; simp) (lv_room (by rw [List.map_map]; refine Nat.le_trans (Nat.le_of_eq ?_) hw8; congr 1; apply List.map_congr_left; intro v _; exact av_cat_ok w.1 v)) hdg hroom
  intro T9 hT X
  rcases hrun T9 hT X with ⟨v, st₀, t, T', L9, h0, X', hL, e1, e2, ⟨⟨v', S', L', hv, hq, hP', hD'⟩, hF⟩, sg⟩ | ⟨q, st₀, t, T', L9, E, ce, h0, X', hL, e1, e2, ⟨⟨S', L', hq, -⟩, -⟩, -⟩
  · cases hv
    obtain ⟨k1, k2, k3⟩ := vx_keep h0 e1 hS (fun q _ h => hFc q h) hFc hL hF
    obtain ⟨t2, a1, b1⟩ := kk v' S' L' hq hC T'.heap (locs ++ L9) ls hl (by rw [e1]; exact hP') (hD'.weaken (fun _ z _ h => hFc _ h)) k3 T' rfl X'
    refine ⟨t2, sg t2 ?_, b1⟩
    have e9 : (v'.toList ++ rest).map (av_v w.1) = (v'.map (av_v w.1)).toList ++ rest.map (av_v w.1) := by cases v' <;> simp
    rw [e9] at a1
    exact a1
  · exact (kt E S' L' hq).elim
end JWG
