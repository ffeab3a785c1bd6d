/-! THE JUDGEMENT OVER ONE RUN: the frame and the aim stand fast, the world may grow (rows by wip/whole/gen/jw.py). -/
def jw_J (p : Program) (l : Launch) (e : Env) (R : Room) (s : State) (m : MethodId) (args : Array Value) (below : List Frame) (meth : Method) (c : Code) (Q : State → Prop) (D : va_G) (own : String) (cc : ByteArray) (nL : Nat) (ret : Option FieldType) (tab : List ExceptionTableEntry) (A : Nat → Prop) (w : wd_T) (kc ks : Nat) (pc : Nat) (lo : jl_T) (st : List av_T) (S : Nat → Nat → Int32) (L : Nat → Nat → Int64) : Prop :=
  jd_C p l s m args meth c D w own cc nL ret tab A → ∀ (H : Heap) (locs : List Loc) (ls : Array Slot), lv_has ls nL (jl_v w.1 lo) → va_P D zcl (wd_W w S L) H → va_D A (wd_W w S L) → va_S A s.heap H locs →
    W p l e R s m args below meth c H locs kc ks Q (F0 m pc ls (st.map (av_v w.1)))
section JWR
variable {p : Program} {l : Launch} {e : Env} {R : Room} {s : State} {m : MethodId} {args : Array Value} {below : List Frame} {meth : Method} {c0 : Code} {Q : State → Prop} {D : va_G} {own : String} {cc : ByteArray} {nL : Nat} {ret : Option FieldType} {tab : List ExceptionTableEntry} {A : Nat → Prop} {w : wd_T} {kc ks : Nat} {pc : Nat} {lo : jl_T} {st : List av_T} {S S' : Nat → Nat → Int32} {L L' : Nat → Nat → Int64}
theorem jw_sub (lo' : jl_T) (h : jl_le lo lo') (k : jw_J p l e R s m args below meth c0 Q D own cc nL ret tab A w kc ks pc lo' st S L) : jw_J p l e R s m args below meth c0 Q D own cc nL ret tab A w kc ks pc lo st S L :=
  fun hC H locs ls hl => k hC H locs ls (jl_sub h hl)
theorem jw_widen {kc' ks' : Nat} (h1 : kc ≤ kc') (h2 : ks ≤ ks') (k : jw_J p l e R s m args below meth c0 Q D own cc nL ret tab A w kc' ks' pc lo st S L) : jw_J p l e R s m args below meth c0 Q D own cc nL ret tab A w kc ks pc lo st S L :=
  fun hC H locs ls hl hP hD hS => W.widen h1 h2 (k hC H locs ls hl hP hD hS)
theorem jw_iconst {n : Int} {v : Int32} (hdg : decode cc pc = .ok (.iconst n, 1)) (hv : Int32.ofInt n = v) (k : jw_J p l e R s m args below meth c0 Q D own cc nL ret tab A w kc ks (pc + 1) lo (av_i v :: st) S L) : jw_J p l e R s m args below meth c0 Q D own cc nL ret tab A w kc ks pc lo st S L := by
  intro hC H locs ls hl hP hD hS
  exact lv_iconst hC.1 hC.2.1 hdg hv (k hC H locs ls hl hP hD hS)
theorem jw_bipush {n : Int} {v : Int32} (hdg : decode cc pc = .ok (.bipush n, 2)) (hv : (Int8.ofInt n).toInt32 = v) (k : jw_J p l e R s m args below meth c0 Q D own cc nL ret tab A w kc ks (pc + 2) lo (av_i v :: st) S L) : jw_J p l e R s m args below meth c0 Q D own cc nL ret tab A w kc ks pc lo st S L := by
  intro hC H locs ls hl hP hD hS
  exact lv_bipush hC.1 hC.2.1 hdg hv (k hC H locs ls hl hP hD hS)
theorem jw_sipush {n : Int} {v : Int32} (hdg : decode cc pc = .ok (.sipush n, 3)) (hv : (Int16.ofInt n).toInt32 = v) (k : jw_J p l e R s m args below meth c0 Q D own cc nL ret tab A w kc ks (pc + 3) lo (av_i v :: st) S L) : jw_J p l e R s m args below meth c0 Q D own cc nL ret tab A w kc ks pc lo st S L := by
  intro hC H locs ls hl hP hD hS
  exact lv_sipush hC.1 hC.2.1 hdg hv (k hC H locs ls hl hP hD hS)
theorem jw_ldc {index : Nat} {v : Int32} (hc : Cond.constant own index v ∈ zw_all) (hdg : decode cc pc = .ok (.ldc index, 2)) (k : jw_J p l e R s m args below meth c0 Q D own cc nL ret tab A w kc ks (pc + 2) lo (av_i v :: st) S L) : jw_J p l e R s m args below meth c0 Q D own cc nL ret tab A w kc ks pc lo st S L := by
  intro hC H locs ls hl hP hD hS
  exact lv_ldc hC.1 hC.2.1 hC.2.2.2.1 (hC.2.2.2.2.1 _ hc) hdg (k hC H locs ls hl hP hD hS)
theorem jw_ldc2 {index : Nat} {v : Int64} (hc : Cond.constantLong own index v ∈ zw_all) (hdg : decode cc pc = .ok (.ldc2_w index, 3)) (k : jw_J p l e R s m args below meth c0 Q D own cc nL ret tab A w kc ks (pc + 3) lo (av_l v :: st) S L) : jw_J p l e R s m args below meth c0 Q D own cc nL ret tab A w kc ks pc lo st S L := by
  intro hC H locs ls hl hP hD hS
  exact lv_ldc2 hC.1 hC.2.1 hC.2.2.2.1 (hC.2.2.2.2.1 _ hc) hdg (k hC H locs ls hl hP hD hS)
theorem jw_iload_n {i : Fin 4} {x : Int32} (hdg : decode cc pc = .ok (.iload_n i, 1)) (hv : jl_get lo i = some (av_i x)) (k : jw_J p l e R s m args below meth c0 Q D own cc nL ret tab A w kc ks (pc + 1) lo (av_i x :: st) S L) : jw_J p l e R s m args below meth c0 Q D own cc nL ret tab A w kc ks pc lo st S L := by
  intro hC H locs ls hl hP hD hS
  exact lv_iload_n hC.1 hC.2.1 hdg rfl (jl_at hl hv) (k hC H locs ls hl hP hD hS)
theorem jw_iload {i : Nat} {x : Int32} (hdg : decode cc pc = .ok (.iload i, 2)) (hv : jl_get lo i = some (av_i x)) (k : jw_J p l e R s m args below meth c0 Q D own cc nL ret tab A w kc ks (pc + 2) lo (av_i x :: st) S L) : jw_J p l e R s m args below meth c0 Q D own cc nL ret tab A w kc ks pc lo st S L := by
  intro hC H locs ls hl hP hD hS
  exact lv_iload hC.1 hC.2.1 hdg (jl_at hl hv) (k hC H locs ls hl hP hD hS)
theorem jw_lload_n {i : Fin 4} {x : Int64} (hdg : decode cc pc = .ok (.lload_n i, 1)) (hv : jl_get lo i = some (av_l x)) (k : jw_J p l e R s m args below meth c0 Q D own cc nL ret tab A w kc ks (pc + 1) lo (av_l x :: st) S L) : jw_J p l e R s m args below meth c0 Q D own cc nL ret tab A w kc ks pc lo st S L := by
  intro hC H locs ls hl hP hD hS
  exact lv_lload_n hC.1 hC.2.1 hdg rfl (jl_at hl hv) (k hC H locs ls hl hP hD hS)
theorem jw_lload {i : Nat} {x : Int64} (hdg : decode cc pc = .ok (.lload i, 2)) (hv : jl_get lo i = some (av_l x)) (k : jw_J p l e R s m args below meth c0 Q D own cc nL ret tab A w kc ks (pc + 2) lo (av_l x :: st) S L) : jw_J p l e R s m args below meth c0 Q D own cc nL ret tab A w kc ks pc lo st S L := by
  intro hC H locs ls hl hP hD hS
  exact lv_lload hC.1 hC.2.1 hdg (jl_at hl hv) (k hC H locs ls hl hP hD hS)
theorem jw_aload_n {i : Fin 4} {r : Nat} (hdg : decode cc pc = .ok (.aload_n i, 1)) (hv : jl_get lo i = some (av_r r)) (k : jw_J p l e R s m args below meth c0 Q D own cc nL ret tab A w kc ks (pc + 1) lo (av_r r :: st) S L) : jw_J p l e R s m args below meth c0 Q D own cc nL ret tab A w kc ks pc lo st S L := by
  intro hC H locs ls hl hP hD hS
  exact lv_aload_n hC.1 hC.2.1 hdg rfl (jl_at hl hv) (k hC H locs ls hl hP hD hS)
theorem jw_aload {i : Nat} {r : Nat} (hdg : decode cc pc = .ok (.aload i, 2)) (hv : jl_get lo i = some (av_r r)) (k : jw_J p l e R s m args below meth c0 Q D own cc nL ret tab A w kc ks (pc + 2) lo (av_r r :: st) S L) : jw_J p l e R s m args below meth c0 Q D own cc nL ret tab A w kc ks pc lo st S L := by
  intro hC H locs ls hl hP hD hS
  exact lv_aload hC.1 hC.2.1 hdg (jl_at hl hv) (k hC H locs ls hl hP hD hS)
theorem jw_istore_n {i : Fin 4} {x : Int32} (hdg : decode cc pc = .ok (.istore_n i, 1)) (hn : (i : Nat) < nL) (k : jw_J p l e R s m args below meth c0 Q D own cc nL ret tab A w kc ks (pc + 1) (jl_s1 lo i (av_i x)) st S L) : jw_J p l e R s m args below meth c0 Q D own cc nL ret tab A w kc ks pc lo (av_i x :: st) S L := by
  intro hC H locs ls hl hP hD hS
  exact lv_istore_n hC.1 hC.2.1 hdg rfl hl hn (jl_f1 w.1 lo i (av_i x)) (fun ls' hl' => k hC H locs ls' hl' hP hD hS)
theorem jw_istore {i : Nat} {x : Int32} (hdg : decode cc pc = .ok (.istore i, 2)) (hn : i < nL) (k : jw_J p l e R s m args below meth c0 Q D own cc nL ret tab A w kc ks (pc + 2) (jl_s1 lo i (av_i x)) st S L) : jw_J p l e R s m args below meth c0 Q D own cc nL ret tab A w kc ks pc lo (av_i x :: st) S L := by
  intro hC H locs ls hl hP hD hS
  exact lv_istore hC.1 hC.2.1 hdg hl hn (jl_f1 w.1 lo i (av_i x)) (fun ls' hl' => k hC H locs ls' hl' hP hD hS)
theorem jw_lstore_n {i : Fin 4} {x : Int64} (hdg : decode cc pc = .ok (.lstore_n i, 1)) (hn : (i : Nat) + 1 < nL) (k : jw_J p l e R s m args below meth c0 Q D own cc nL ret tab A w kc ks (pc + 1) (jl_s2 lo i (av_l x)) st S L) : jw_J p l e R s m args below meth c0 Q D own cc nL ret tab A w kc ks pc lo (av_l x :: st) S L := by
  intro hC H locs ls hl hP hD hS
  exact lv_lstore_n hC.1 hC.2.1 hdg rfl hl hn (jl_f2 w.1 lo i (av_l x)) (fun ls' hl' => k hC H locs ls' hl' hP hD hS)
theorem jw_lstore {i : Nat} {x : Int64} (hdg : decode cc pc = .ok (.lstore i, 2)) (hn : i + 1 < nL) (k : jw_J p l e R s m args below meth c0 Q D own cc nL ret tab A w kc ks (pc + 2) (jl_s2 lo i (av_l x)) st S L) : jw_J p l e R s m args below meth c0 Q D own cc nL ret tab A w kc ks pc lo (av_l x :: st) S L := by
  intro hC H locs ls hl hP hD hS
  exact lv_lstore hC.1 hC.2.1 hdg hl hn (jl_f2 w.1 lo i (av_l x)) (fun ls' hl' => k hC H locs ls' hl' hP hD hS)
theorem jw_astore_n {i : Fin 4} {r : Nat} (hdg : decode cc pc = .ok (.astore_n i, 1)) (hn : (i : Nat) < nL) (k : jw_J p l e R s m args below meth c0 Q D own cc nL ret tab A w kc ks (pc + 1) (jl_s1 lo i (av_r r)) st S L) : jw_J p l e R s m args below meth c0 Q D own cc nL ret tab A w kc ks pc lo (av_r r :: st) S L := by
  intro hC H locs ls hl hP hD hS
  exact lv_astore_n hC.1 hC.2.1 hdg rfl hl hn (jl_f1 w.1 lo i (av_r r)) (fun ls' hl' => k hC H locs ls' hl' hP hD hS)
theorem jw_astore {i : Nat} {r : Nat} (hdg : decode cc pc = .ok (.astore i, 2)) (hn : i < nL) (k : jw_J p l e R s m args below meth c0 Q D own cc nL ret tab A w kc ks (pc + 2) (jl_s1 lo i (av_r r)) st S L) : jw_J p l e R s m args below meth c0 Q D own cc nL ret tab A w kc ks pc lo (av_r r :: st) S L := by
  intro hC H locs ls hl hP hD hS
  exact lv_astore hC.1 hC.2.1 hdg hl hn (jl_f1 w.1 lo i (av_r r)) (fun ls' hl' => k hC H locs ls' hl' hP hD hS)
theorem jw_astoreX {i : Nat} {q : Nat} (hdg : decode cc pc = .ok (.astore i, 2)) (hn : i < nL) (k : jw_J p l e R s m args below meth c0 Q D own cc nL ret tab A w kc ks (pc + 2) (jl_s1 lo i (av_a q)) st S L) : jw_J p l e R s m args below meth c0 Q D own cc nL ret tab A w kc ks pc lo (av_a q :: st) S L := by
  intro hC H locs ls hl hP hD hS
  exact lv_astore hC.1 hC.2.1 hdg hl hn (jl_f1 w.1 lo i (av_a q)) (fun ls' hl' => k hC H locs ls' hl' hP hD hS)
theorem jw_astore_nX {i : Fin 4} {q : Nat} (hdg : decode cc pc = .ok (.astore_n i, 1)) (hn : (i : Nat) < nL) (k : jw_J p l e R s m args below meth c0 Q D own cc nL ret tab A w kc ks (pc + 1) (jl_s1 lo i (av_a q)) st S L) : jw_J p l e R s m args below meth c0 Q D own cc nL ret tab A w kc ks pc lo (av_a q :: st) S L := by
  intro hC H locs ls hl hP hD hS
  exact lv_astore_n hC.1 hC.2.1 hdg rfl hl hn (jl_f1 w.1 lo i (av_a q)) (fun ls' hl' => k hC H locs ls' hl' hP hD hS)
theorem jw_iadd {x y : Int32} (hdg : decode cc pc = .ok (.iadd, 1))  (k : jw_J p l e R s m args below meth c0 Q D own cc nL ret tab A w kc ks (pc + 1) lo (av_i (x + y) :: st) S L) : jw_J p l e R s m args below meth c0 Q D own cc nL ret tab A w kc ks pc lo (av_i y :: av_i x :: st) S L := by
  intro hC H locs ls hl hP hD hS
  exact lv_iadd hC.1 hC.2.1 hdg (k hC H locs ls hl hP hD hS)
theorem jw_isub {x y : Int32} (hdg : decode cc pc = .ok (.isub, 1))  (k : jw_J p l e R s m args below meth c0 Q D own cc nL ret tab A w kc ks (pc + 1) lo (av_i (x - y) :: st) S L) : jw_J p l e R s m args below meth c0 Q D own cc nL ret tab A w kc ks pc lo (av_i y :: av_i x :: st) S L := by
  intro hC H locs ls hl hP hD hS
  exact lv_isub hC.1 hC.2.1 hdg (k hC H locs ls hl hP hD hS)
theorem jw_imul {x y : Int32} (hdg : decode cc pc = .ok (.imul, 1))  (k : jw_J p l e R s m args below meth c0 Q D own cc nL ret tab A w kc ks (pc + 1) lo (av_i (x * y) :: st) S L) : jw_J p l e R s m args below meth c0 Q D own cc nL ret tab A w kc ks pc lo (av_i y :: av_i x :: st) S L := by
  intro hC H locs ls hl hP hD hS
  exact lv_imul hC.1 hC.2.1 hdg (k hC H locs ls hl hP hD hS)
theorem jw_iand {x y : Int32} (hdg : decode cc pc = .ok (.iand, 1))  (k : jw_J p l e R s m args below meth c0 Q D own cc nL ret tab A w kc ks (pc + 1) lo (av_i (x &&& y) :: st) S L) : jw_J p l e R s m args below meth c0 Q D own cc nL ret tab A w kc ks pc lo (av_i y :: av_i x :: st) S L := by
  intro hC H locs ls hl hP hD hS
  exact lv_iand hC.1 hC.2.1 hdg (k hC H locs ls hl hP hD hS)
theorem jw_ior {x y : Int32} (hdg : decode cc pc = .ok (.ior, 1))  (k : jw_J p l e R s m args below meth c0 Q D own cc nL ret tab A w kc ks (pc + 1) lo (av_i (x ||| y) :: st) S L) : jw_J p l e R s m args below meth c0 Q D own cc nL ret tab A w kc ks pc lo (av_i y :: av_i x :: st) S L := by
  intro hC H locs ls hl hP hD hS
  exact lv_ior hC.1 hC.2.1 hdg (k hC H locs ls hl hP hD hS)
theorem jw_ixor {x y : Int32} (hdg : decode cc pc = .ok (.ixor, 1))  (k : jw_J p l e R s m args below meth c0 Q D own cc nL ret tab A w kc ks (pc + 1) lo (av_i (x ^^^ y) :: st) S L) : jw_J p l e R s m args below meth c0 Q D own cc nL ret tab A w kc ks pc lo (av_i y :: av_i x :: st) S L := by
  intro hC H locs ls hl hP hD hS
  exact lv_ixor hC.1 hC.2.1 hdg (k hC H locs ls hl hP hD hS)
theorem jw_ishl {x y : Int32} (hdg : decode cc pc = .ok (.ishl, 1))  (k : jw_J p l e R s m args below meth c0 Q D own cc nL ret tab A w kc ks (pc + 1) lo (av_i (x <<< (y &&& 31)) :: st) S L) : jw_J p l e R s m args below meth c0 Q D own cc nL ret tab A w kc ks pc lo (av_i y :: av_i x :: st) S L := by
  intro hC H locs ls hl hP hD hS
  exact lv_ishl hC.1 hC.2.1 hdg (k hC H locs ls hl hP hD hS)
theorem jw_ishr {x y : Int32} (hdg : decode cc pc = .ok (.ishr, 1))  (k : jw_J p l e R s m args below meth c0 Q D own cc nL ret tab A w kc ks (pc + 1) lo (av_i (x >>> (y &&& 31)) :: st) S L) : jw_J p l e R s m args below meth c0 Q D own cc nL ret tab A w kc ks pc lo (av_i y :: av_i x :: st) S L := by
  intro hC H locs ls hl hP hD hS
  exact lv_ishr hC.1 hC.2.1 hdg (k hC H locs ls hl hP hD hS)
theorem jw_idiv {x y : Int32} (hdg : decode cc pc = .ok (.idiv, 1)) (hne : ¬ y = 0) (k : jw_J p l e R s m args below meth c0 Q D own cc nL ret tab A w kc ks (pc + 1) lo (av_i (x / y) :: st) S L) : jw_J p l e R s m args below meth c0 Q D own cc nL ret tab A w kc ks pc lo (av_i y :: av_i x :: st) S L := by
  intro hC H locs ls hl hP hD hS
  exact lv_idiv hC.1 hC.2.1 hdg hne (k hC H locs ls hl hP hD hS)
theorem jw_ladd {x y : Int64} (hdg : decode cc pc = .ok (.ladd, 1))  (k : jw_J p l e R s m args below meth c0 Q D own cc nL ret tab A w kc ks (pc + 1) lo (av_l (x + y) :: st) S L) : jw_J p l e R s m args below meth c0 Q D own cc nL ret tab A w kc ks pc lo (av_l y :: av_l x :: st) S L := by
  intro hC H locs ls hl hP hD hS
  exact lv_ladd hC.1 hC.2.1 hdg (k hC H locs ls hl hP hD hS)
theorem jw_lsub {x y : Int64} (hdg : decode cc pc = .ok (.lsub, 1))  (k : jw_J p l e R s m args below meth c0 Q D own cc nL ret tab A w kc ks (pc + 1) lo (av_l (x - y) :: st) S L) : jw_J p l e R s m args below meth c0 Q D own cc nL ret tab A w kc ks pc lo (av_l y :: av_l x :: st) S L := by
  intro hC H locs ls hl hP hD hS
  exact lv_lsub hC.1 hC.2.1 hdg (k hC H locs ls hl hP hD hS)
theorem jw_lmul {x y : Int64} (hdg : decode cc pc = .ok (.lmul, 1))  (k : jw_J p l e R s m args below meth c0 Q D own cc nL ret tab A w kc ks (pc + 1) lo (av_l (x * y) :: st) S L) : jw_J p l e R s m args below meth c0 Q D own cc nL ret tab A w kc ks pc lo (av_l y :: av_l x :: st) S L := by
  intro hC H locs ls hl hP hD hS
  exact lv_lmul hC.1 hC.2.1 hdg (k hC H locs ls hl hP hD hS)
theorem jw_ldiv {x y : Int64} (hdg : decode cc pc = .ok (.ldiv, 1)) (hne : ¬ y = 0) (k : jw_J p l e R s m args below meth c0 Q D own cc nL ret tab A w kc ks (pc + 1) lo (av_l (x / y) :: st) S L) : jw_J p l e R s m args below meth c0 Q D own cc nL ret tab A w kc ks pc lo (av_l y :: av_l x :: st) S L := by
  intro hC H locs ls hl hP hD hS
  exact lv_ldiv hC.1 hC.2.1 hdg hne (k hC H locs ls hl hP hD hS)
theorem jw_lcmp {x y : Int64} (hdg : decode cc pc = .ok (.lcmp, 1))  (k : jw_J p l e R s m args below meth c0 Q D own cc nL ret tab A w kc ks (pc + 1) lo (av_i (lg_cmp x y) :: st) S L) : jw_J p l e R s m args below meth c0 Q D own cc nL ret tab A w kc ks pc lo (av_l y :: av_l x :: st) S L := by
  intro hC H locs ls hl hP hD hS
  exact W.lcmp hC.1 hC.2.1 hdg (k hC H locs ls hl hP hD hS)
theorem jw_i2l {x : Int32} (hdg : decode cc pc = .ok (.i2l, 1))  (k : jw_J p l e R s m args below meth c0 Q D own cc nL ret tab A w kc ks (pc + 1) lo (av_l x.toInt64 :: st) S L) : jw_J p l e R s m args below meth c0 Q D own cc nL ret tab A w kc ks pc lo (av_i x :: st) S L := by
  intro hC H locs ls hl hP hD hS
  exact lv_i2l hC.1 hC.2.1 hdg rfl (k hC H locs ls hl hP hD hS)
theorem jw_lconst {n : Fin 2} {v : Int64} (hdg : decode cc pc = .ok (.lconst n, 1)) (hv : Int64.ofNat (n : Nat) = v) (k : jw_J p l e R s m args below meth c0 Q D own cc nL ret tab A w kc ks (pc + 1) lo (av_l v :: st) S L) : jw_J p l e R s m args below meth c0 Q D own cc nL ret tab A w kc ks pc lo st S L := by
  intro hC H locs ls hl hP hD hS
  exact lv_lconst hC.1 hC.2.1 hdg hv (k hC H locs ls hl hP hD hS)
theorem jw_dup {v : av_T} (hdg : decode cc pc = .ok (.dup, 1)) (hv : av_cat v = 1) (k : jw_J p l e R s m args below meth c0 Q D own cc nL ret tab A w kc ks (pc + 1) lo (v :: v :: st) S L) : jw_J p l e R s m args below meth c0 Q D own cc nL ret tab A w kc ks pc lo (v :: st) S L := by
  intro hC H locs ls hl hP hD hS
  exact lv_dup hC.1 hC.2.1 hdg ((av_cat_ok w.1 v).trans hv) (k hC H locs ls hl hP hD hS)
theorem jw_pop {v : av_T} (hdg : decode cc pc = .ok (.pop, 1)) (hv : av_cat v = 1) (k : jw_J p l e R s m args below meth c0 Q D own cc nL ret tab A w kc ks (pc + 1) lo st S L) : jw_J p l e R s m args below meth c0 Q D own cc nL ret tab A w kc ks pc lo (v :: st) S L := by
  intro hC H locs ls hl hP hD hS
  exact lv_pop hC.1 hC.2.1 hdg ((av_cat_ok w.1 v).trans hv) (k hC H locs ls hl hP hD hS)
theorem jw_dup2 {v u : av_T} (hdg : decode cc pc = .ok (.dup2, 1)) (hv : av_cat v = 1) (hu : av_cat u = 1) (k : jw_J p l e R s m args below meth c0 Q D own cc nL ret tab A w kc ks (pc + 1) lo (v :: u :: v :: u :: st) S L) : jw_J p l e R s m args below meth c0 Q D own cc nL ret tab A w kc ks pc lo (v :: u :: st) S L := by
  intro hC H locs ls hl hP hD hS
  exact lv_dup2_11 hC.1 hC.2.1 hdg ((av_cat_ok w.1 v).trans hv) ((av_cat_ok w.1 u).trans hu) (k hC H locs ls hl hP hD hS)
theorem jw_iinc {i : Nat} {n : Int} {x v : Int32} (hdg : decode cc pc = .ok (.iinc i n, 3)) (hx : jl_get lo i = some (av_i x)) (hv : x + Int32.ofInt n = v) (hn : i < nL) (k : jw_J p l e R s m args below meth c0 Q D own cc nL ret tab A w kc ks (pc + 3) (jl_s1 lo i (av_i v)) st S L) : jw_J p l e R s m args below meth c0 Q D own cc nL ret tab A w kc ks pc lo st S L := by
  intro hC H locs ls hl hP hD hS
  obtain ⟨k9, hk9⟩ := List.getElem?_of_mem (jl_mem hx)
  exact lv_iinc (k := k9) hC.1 hC.2.1 hdg hl (by unfold jl_v; rw [List.getElem?_map, hk9]; rfl) hv hn (jl_f1 w.1 lo i (av_i v)) (fun ls hl => k hC H locs ls hl hP hD hS)
theorem jw_if_eq {x : Int32} {off : Int} (tgt : Nat) (hdg : decode cc pc = .ok (.ifCond .eq off, 3)) (ht : (pc : Int) + off = (tgt : Int)) (kt : x = 0 → jw_J p l e R s m args below meth c0 Q D own cc nL ret tab A w kc ks tgt lo st S L) (kf : ¬ (x = 0) → jw_J p l e R s m args below meth c0 Q D own cc nL ret tab A w kc ks (pc + 3) lo st S L) : jw_J p l e R s m args below meth c0 Q D own cc nL ret tab A w kc ks pc lo (av_i x :: st) S L := by
  intro hC H locs ls hl hP hD hS
  exact lv_if_eq hC.1 hC.2.1 hdg ht (fun h9 => kt h9 hC H locs ls hl hP hD hS) (fun h9 => kf h9 hC H locs ls hl hP hD hS)
theorem jw_if_ne {x : Int32} {off : Int} (tgt : Nat) (hdg : decode cc pc = .ok (.ifCond .ne off, 3)) (ht : (pc : Int) + off = (tgt : Int)) (kt : ¬ x = 0 → jw_J p l e R s m args below meth c0 Q D own cc nL ret tab A w kc ks tgt lo st S L) (kf : x = 0 → jw_J p l e R s m args below meth c0 Q D own cc nL ret tab A w kc ks (pc + 3) lo st S L) : jw_J p l e R s m args below meth c0 Q D own cc nL ret tab A w kc ks pc lo (av_i x :: st) S L := by
  intro hC H locs ls hl hP hD hS
  exact lv_if_ne hC.1 hC.2.1 hdg ht (fun h9 => kt h9 hC H locs ls hl hP hD hS) (fun h9 => kf h9 hC H locs ls hl hP hD hS)
theorem jw_if_lt {x : Int32} {off : Int} (tgt : Nat) (hdg : decode cc pc = .ok (.ifCond .lt off, 3)) (ht : (pc : Int) + off = (tgt : Int)) (kt : x < 0 → jw_J p l e R s m args below meth c0 Q D own cc nL ret tab A w kc ks tgt lo st S L) (kf : ¬ (x < 0) → jw_J p l e R s m args below meth c0 Q D own cc nL ret tab A w kc ks (pc + 3) lo st S L) : jw_J p l e R s m args below meth c0 Q D own cc nL ret tab A w kc ks pc lo (av_i x :: st) S L := by
  intro hC H locs ls hl hP hD hS
  exact lv_if_lt hC.1 hC.2.1 hdg ht (fun h9 => kt h9 hC H locs ls hl hP hD hS) (fun h9 => kf h9 hC H locs ls hl hP hD hS)
theorem jw_if_ge {x : Int32} {off : Int} (tgt : Nat) (hdg : decode cc pc = .ok (.ifCond .ge off, 3)) (ht : (pc : Int) + off = (tgt : Int)) (kt : 0 ≤ x → jw_J p l e R s m args below meth c0 Q D own cc nL ret tab A w kc ks tgt lo st S L) (kf : ¬ (0 ≤ x) → jw_J p l e R s m args below meth c0 Q D own cc nL ret tab A w kc ks (pc + 3) lo st S L) : jw_J p l e R s m args below meth c0 Q D own cc nL ret tab A w kc ks pc lo (av_i x :: st) S L := by
  intro hC H locs ls hl hP hD hS
  exact lv_if_ge hC.1 hC.2.1 hdg ht (fun h9 => kt h9 hC H locs ls hl hP hD hS) (fun h9 => kf h9 hC H locs ls hl hP hD hS)
theorem jw_if_gt {x : Int32} {off : Int} (tgt : Nat) (hdg : decode cc pc = .ok (.ifCond .gt off, 3)) (ht : (pc : Int) + off = (tgt : Int)) (kt : 0 < x → jw_J p l e R s m args below meth c0 Q D own cc nL ret tab A w kc ks tgt lo st S L) (kf : ¬ (0 < x) → jw_J p l e R s m args below meth c0 Q D own cc nL ret tab A w kc ks (pc + 3) lo st S L) : jw_J p l e R s m args below meth c0 Q D own cc nL ret tab A w kc ks pc lo (av_i x :: st) S L := by
  intro hC H locs ls hl hP hD hS
  exact lv_if_gt hC.1 hC.2.1 hdg ht (fun h9 => kt h9 hC H locs ls hl hP hD hS) (fun h9 => kf h9 hC H locs ls hl hP hD hS)
theorem jw_if_le {x : Int32} {off : Int} (tgt : Nat) (hdg : decode cc pc = .ok (.ifCond .le off, 3)) (ht : (pc : Int) + off = (tgt : Int)) (kt : x ≤ 0 → jw_J p l e R s m args below meth c0 Q D own cc nL ret tab A w kc ks tgt lo st S L) (kf : ¬ (x ≤ 0) → jw_J p l e R s m args below meth c0 Q D own cc nL ret tab A w kc ks (pc + 3) lo st S L) : jw_J p l e R s m args below meth c0 Q D own cc nL ret tab A w kc ks pc lo (av_i x :: st) S L := by
  intro hC H locs ls hl hP hD hS
  exact lv_if_le hC.1 hC.2.1 hdg ht (fun h9 => kt h9 hC H locs ls hl hP hD hS) (fun h9 => kf h9 hC H locs ls hl hP hD hS)
theorem jw_icmp_eq {x y : Int32} {off : Int} (tgt : Nat) (hdg : decode cc pc = .ok (.if_icmp .eq off, 3)) (ht : (pc : Int) + off = (tgt : Int)) (kt : x = y → jw_J p l e R s m args below meth c0 Q D own cc nL ret tab A w kc ks tgt lo st S L) (kf : ¬ (x = y) → jw_J p l e R s m args below meth c0 Q D own cc nL ret tab A w kc ks (pc + 3) lo st S L) : jw_J p l e R s m args below meth c0 Q D own cc nL ret tab A w kc ks pc lo (av_i y :: av_i x :: st) S L := by
  intro hC H locs ls hl hP hD hS
  exact lv_icmp_eq hC.1 hC.2.1 hdg ht (fun h9 => kt h9 hC H locs ls hl hP hD hS) (fun h9 => kf h9 hC H locs ls hl hP hD hS)
theorem jw_icmp_ne {x y : Int32} {off : Int} (tgt : Nat) (hdg : decode cc pc = .ok (.if_icmp .ne off, 3)) (ht : (pc : Int) + off = (tgt : Int)) (kt : ¬ x = y → jw_J p l e R s m args below meth c0 Q D own cc nL ret tab A w kc ks tgt lo st S L) (kf : x = y → jw_J p l e R s m args below meth c0 Q D own cc nL ret tab A w kc ks (pc + 3) lo st S L) : jw_J p l e R s m args below meth c0 Q D own cc nL ret tab A w kc ks pc lo (av_i y :: av_i x :: st) S L := by
  intro hC H locs ls hl hP hD hS
  exact lv_icmp_ne hC.1 hC.2.1 hdg ht (fun h9 => kt h9 hC H locs ls hl hP hD hS) (fun h9 => kf h9 hC H locs ls hl hP hD hS)
theorem jw_icmp_lt {x y : Int32} {off : Int} (tgt : Nat) (hdg : decode cc pc = .ok (.if_icmp .lt off, 3)) (ht : (pc : Int) + off = (tgt : Int)) (kt : x < y → jw_J p l e R s m args below meth c0 Q D own cc nL ret tab A w kc ks tgt lo st S L) (kf : ¬ (x < y) → jw_J p l e R s m args below meth c0 Q D own cc nL ret tab A w kc ks (pc + 3) lo st S L) : jw_J p l e R s m args below meth c0 Q D own cc nL ret tab A w kc ks pc lo (av_i y :: av_i x :: st) S L := by
  intro hC H locs ls hl hP hD hS
  exact lv_icmp_lt hC.1 hC.2.1 hdg ht (fun h9 => kt h9 hC H locs ls hl hP hD hS) (fun h9 => kf h9 hC H locs ls hl hP hD hS)
theorem jw_icmp_ge {x y : Int32} {off : Int} (tgt : Nat) (hdg : decode cc pc = .ok (.if_icmp .ge off, 3)) (ht : (pc : Int) + off = (tgt : Int)) (kt : y ≤ x → jw_J p l e R s m args below meth c0 Q D own cc nL ret tab A w kc ks tgt lo st S L) (kf : ¬ (y ≤ x) → jw_J p l e R s m args below meth c0 Q D own cc nL ret tab A w kc ks (pc + 3) lo st S L) : jw_J p l e R s m args below meth c0 Q D own cc nL ret tab A w kc ks pc lo (av_i y :: av_i x :: st) S L := by
  intro hC H locs ls hl hP hD hS
  exact lv_icmp_ge hC.1 hC.2.1 hdg ht (fun h9 => kt h9 hC H locs ls hl hP hD hS) (fun h9 => kf h9 hC H locs ls hl hP hD hS)
theorem jw_icmp_gt {x y : Int32} {off : Int} (tgt : Nat) (hdg : decode cc pc = .ok (.if_icmp .gt off, 3)) (ht : (pc : Int) + off = (tgt : Int)) (kt : y < x → jw_J p l e R s m args below meth c0 Q D own cc nL ret tab A w kc ks tgt lo st S L) (kf : ¬ (y < x) → jw_J p l e R s m args below meth c0 Q D own cc nL ret tab A w kc ks (pc + 3) lo st S L) : jw_J p l e R s m args below meth c0 Q D own cc nL ret tab A w kc ks pc lo (av_i y :: av_i x :: st) S L := by
  intro hC H locs ls hl hP hD hS
  exact lv_icmp_gt hC.1 hC.2.1 hdg ht (fun h9 => kt h9 hC H locs ls hl hP hD hS) (fun h9 => kf h9 hC H locs ls hl hP hD hS)
theorem jw_icmp_le {x y : Int32} {off : Int} (tgt : Nat) (hdg : decode cc pc = .ok (.if_icmp .le off, 3)) (ht : (pc : Int) + off = (tgt : Int)) (kt : x ≤ y → jw_J p l e R s m args below meth c0 Q D own cc nL ret tab A w kc ks tgt lo st S L) (kf : ¬ (x ≤ y) → jw_J p l e R s m args below meth c0 Q D own cc nL ret tab A w kc ks (pc + 3) lo st S L) : jw_J p l e R s m args below meth c0 Q D own cc nL ret tab A w kc ks pc lo (av_i y :: av_i x :: st) S L := by
  intro hC H locs ls hl hP hD hS
  exact lv_icmp_le hC.1 hC.2.1 hdg ht (fun h9 => kt h9 hC H locs ls hl hP hD hS) (fun h9 => kf h9 hC H locs ls hl hP hD hS)
theorem jw_goto {off : Int} (tgt : Nat) (hdg : decode cc pc = .ok (.goto off, 3)) (ht : (pc : Int) + off = (tgt : Int)) (k : jw_J p l e R s m args below meth c0 Q D own cc nL ret tab A w kc ks tgt lo st S L) : jw_J p l e R s m args below meth c0 Q D own cc nL ret tab A w kc ks pc lo st S L := by
  intro hC H locs ls hl hP hD hS
  exact lv_goto hC.1 hC.2.1 hdg ht (k hC H locs ls hl hP hD hS)
theorem jw_get {ref C : String} {T : u_T} {N ci index r : Nat} {fs : List av_T} {v : av_T} (hc : ac_of w.2.2.1 w.2.2.2 r (S r) (L r) = .inr (ci, fs)) (hcl : zcl[ci]? = some (C, T, N)) (hin : ∀ q ∈ u_ws C T N, q ∈ zw_all) (k0 : Nat) (hk : k0 < N) (hlink : Cond.fieldLink own index ref (T k0).2.1 (T k0).2.2.1 ∈ zw_all) (hsame : (T k0).1 = ref) (hv : fs[k0]? = some v) (hr : rl_in w.2.2.1 w.2.2.2 r = true) (hr2 : r < 501) (hdg : decode cc pc = .ok (.getfield index, 3)) (k : jw_J p l e R s m args below meth c0 Q D own cc nL ret tab A w kc ks (pc + 3) lo (v :: st) S L) : jw_J p l e R s m args below meth c0 Q D own cc nL ret tab A w kc ks pc lo (av_r r :: st) S L := by
  intro hC H locs ls hl hP hD hS
  exact rp_get hC.1 hC.2.1 hC.2.2.2.2.1 hin hC.2.2.2.1 hC.2.2.2.2.2.2.1 hP (wd_mem hr hr2) (wd_obj hc) hcl k0 hk (hC.2.2.2.2.1 _ hlink) (fun x h => by rw [← hsame]; exact h) (by rw [List.getElem?_map, hv]; rfl) hdg (k hC H locs ls hl hP hD hS)
theorem jw_put {ref C : String} {T : u_T} {ty0 : Nat → FieldType} {N ci index r : Nat} {fs : List av_T} {x : Int32} {ty : FieldType} (hc : ac_of w.2.2.1 w.2.2.2 r (S r) (L r) = .inr (ci, fs)) (hcl : zcl[ci]? = some (C, T, N)) (hin : ∀ q ∈ u_ws C T N, q ∈ zw_all) (hty : ∀ k, k < N → parseFieldDescriptor (T k).2.2.1 = some (ty0 k)) (hnm : ∀ a, a < N → ∀ b, b < N → a ≠ b → (T a).2.1 ≠ (T b).2.1) (k0 : Nat) (hk : k0 < N) (hlink : Cond.fieldLink own index ref (T k0).2.1 (T k0).2.2.1 ∈ zw_all) (hsame : (T k0).1 = ref) (hfin : (T k0).2.2.2 = false) (hd : parseFieldDescriptor (T k0).2.2.1 = some ty) (hn : narrow ty (.int x) = .int x) (hfit : fits ty (.int x) = true) (hlen : k0 < fs.length) (hc2 : ac_of w.2.2.1 w.2.2.2 r (upd (S r) k0 x) (L r) = .inr (ci, fs.set k0 (av_i x))) (hr : rl_in w.2.2.1 w.2.2.2 r = true) (hr2 : r < 501) (hdg : decode cc pc = .ok (.putfield index, 3)) (k : jw_J p l e R s m args below meth c0 Q D own cc nL ret tab A w kc ks (pc + 3) lo st (va_up S r (upd (S r) k0 x)) L) : jw_J p l e R s m args below meth c0 Q D own cc nL ret tab A w kc ks pc lo (av_i x :: av_r r :: st) S L := by
  intro hC H locs ls hl hP hD hS
  exact rp_put hC.1 hC.2.1 hC.2.2.2.2.1 hin ty0 hty hnm hC.2.2.2.1 hC.2.2.2.2.2.2.1 hP hD hS (wd_mem hr hr2) (wd_obj hc) hcl k0 hk (hC.2.2.2.2.1 _ hlink) (fun x h => by rw [← hsame]; exact h) hfin hd hn hfit (by rw [List.length_map]; exact hlen) k0 (by rw [wd_obj hc2, List.map_set]; rfl) hdg (fun H locs hP hD hS => k hC H locs ls hl hP hD hS)
theorem jw_putL {ref C : String} {T : u_T} {ty0 : Nat → FieldType} {N ci index r : Nat} {fs : List av_T} {x : Int64} {ty : FieldType} (hc : ac_of w.2.2.1 w.2.2.2 r (S r) (L r) = .inr (ci, fs)) (hcl : zcl[ci]? = some (C, T, N)) (hin : ∀ q ∈ u_ws C T N, q ∈ zw_all) (hty : ∀ k, k < N → parseFieldDescriptor (T k).2.2.1 = some (ty0 k)) (hnm : ∀ a, a < N → ∀ b, b < N → a ≠ b → (T a).2.1 ≠ (T b).2.1) (k0 : Nat) (hk : k0 < N) (hlink : Cond.fieldLink own index ref (T k0).2.1 (T k0).2.2.1 ∈ zw_all) (hsame : (T k0).1 = ref) (hfin : (T k0).2.2.2 = false) (hd : parseFieldDescriptor (T k0).2.2.1 = some ty) (hn : narrow ty (.long x) = .long x) (hfit : fits ty (.long x) = true) (hlen : k0 < fs.length) (hc2 : ac_of w.2.2.1 w.2.2.2 r (S r) (vp_updL (L r) k0 x) = .inr (ci, fs.set k0 (av_l x))) (hr : rl_in w.2.2.1 w.2.2.2 r = true) (hr2 : r < 501) (hdg : decode cc pc = .ok (.putfield index, 3)) (k : jw_J p l e R s m args below meth c0 Q D own cc nL ret tab A w kc ks (pc + 3) lo st S (va_up L r (vp_updL (L r) k0 x))) : jw_J p l e R s m args below meth c0 Q D own cc nL ret tab A w kc ks pc lo (av_l x :: av_r r :: st) S L := by
  intro hC H locs ls hl hP hD hS
  exact rp_putL hC.1 hC.2.1 hC.2.2.2.2.1 hin ty0 hty hnm hC.2.2.2.1 hC.2.2.2.2.2.2.1 hP hD hS (wd_mem hr hr2) (wd_obj hc) hcl k0 hk (hC.2.2.2.2.1 _ hlink) (fun x h => by rw [← hsame]; exact h) hfin hd hn hfit (by rw [List.length_map]; exact hlen) k0 (by rw [wd_obj hc2, List.map_set]; rfl) hdg (fun H locs hP hD hS => k hC H locs ls hl hP hD hS)
theorem jw_iald {n r : Nat} {i : Int32} (hc : ac_of w.2.2.1 w.2.2.2 r (S r) (L r) = .inl (0, n, .inl 0)) (hin : vp_in i n) (hr : rl_in w.2.2.1 w.2.2.2 r = true) (hr2 : r < 501) (hdg : decode cc pc = .ok (.iaload, 1)) (k : jw_J p l e R s m args below meth c0 Q D own cc nL ret tab A w kc ks (pc + 1) lo (av_i (S r i.toNatClampNeg) :: st) S L) : jw_J p l e R s m args below meth c0 Q D own cc nL ret tab A w kc ks pc lo (av_i i :: av_r r :: st) S L := by
  intro hC H locs ls hl hP hD hS
  exact rp_ild hC.1 hC.2.1 hC.2.2.2.2.2.2.1 hP 0 (wd_mem hr hr2) (wd_ints hc) rfl hin hdg (k hC H locs ls hl hP hD hS)
theorem jw_zald {n r : Nat} {i : Int32} (hc : ac_of w.2.2.1 w.2.2.2 r (S r) (L r) = .inl (2, n, .inl 0)) (hin : vp_in i n) (hr : rl_in w.2.2.1 w.2.2.2 r = true) (hr2 : r < 501) (hdg : decode cc pc = .ok (.baload, 1)) (k : jw_J p l e R s m args below meth c0 Q D own cc nL ret tab A w kc ks (pc + 1) lo (av_i (S r i.toNatClampNeg) :: st) S L) : jw_J p l e R s m args below meth c0 Q D own cc nL ret tab A w kc ks pc lo (av_i i :: av_r r :: st) S L := by
  intro hC H locs ls hl hP hD hS
  exact rp_zld hC.1 hC.2.1 hC.2.2.2.2.2.2.1 hP 2 (wd_mem hr hr2) (wd_ints hc) rfl hin hdg (k hC H locs ls hl hP hD hS)
theorem jw_lald {n r : Nat} {i : Int32} (hc : ac_of w.2.2.1 w.2.2.2 r (S r) (L r) = .inl (1, n, .inl 1)) (hin : vp_in i n) (hr : rl_in w.2.2.1 w.2.2.2 r = true) (hr2 : r < 501) (hdg : decode cc pc = .ok (.laload, 1)) (k : jw_J p l e R s m args below meth c0 Q D own cc nL ret tab A w kc ks (pc + 1) lo (av_l (L r i.toNatClampNeg) :: st) S L) : jw_J p l e R s m args below meth c0 Q D own cc nL ret tab A w kc ks pc lo (av_i i :: av_r r :: st) S L := by
  intro hC H locs ls hl hP hD hS
  exact rp_lld hC.1 hC.2.1 hC.2.2.2.2.2.2.1 hP 1 (wd_mem hr hr2) (wd_longs hc) rfl hin hdg (k hC H locs ls hl hP hD hS)
theorem jw_aald {n r k0 : Nat} {i : Int32} {f : Nat → Option Nat} {ty : FieldType} (hc : ac_of w.2.2.1 w.2.2.2 r (S r) (L r) = .inl (k0, n, .inr f)) (hty : (wd_ty w)[k0]? = some (w.2.1 k0, ty)) (href : ty.isReference = true) (hin : vp_in i n) {r2 : Nat} (hf2 : f i.toNatClampNeg = some r2) (hr : rl_in w.2.2.1 w.2.2.2 r = true) (hr2 : r < 501) (hdg : decode cc pc = .ok (.aaload, 1)) (k : jw_J p l e R s m args below meth c0 Q D own cc nL ret tab A w kc ks (pc + 1) lo (av_r r2 :: st) S L) : jw_J p l e R s m args below meth c0 Q D own cc nL ret tab A w kc ks pc lo (av_i i :: av_r r :: st) S L := by
  intro hC H locs ls hl hP hD hS
  exact rp_ald hC.1 hC.2.1 hC.2.2.2.2.2.2.1 hP k0 (wd_mem hr hr2) href (wd_refs hc) hty hin (y := w.1 r2) (by rw [hf2]; rfl) hdg (k hC H locs ls hl hP hD hS)
theorem jw_iast {n r : Nat} {i x : Int32} (hc : ∀ f : Nat → Int32, ac_of w.2.2.1 w.2.2.2 r f (L r) = .inl (0, n, .inl 0)) (hin : vp_in i n) (hr : rl_in w.2.2.1 w.2.2.2 r = true) (hr2 : r < 501) (hdg : decode cc pc = .ok (.iastore, 1)) (k : jw_J p l e R s m args below meth c0 Q D own cc nL ret tab A w kc ks (pc + 1) lo st (va_up S r (upd (S r) i.toNatClampNeg x)) L) : jw_J p l e R s m args below meth c0 Q D own cc nL ret tab A w kc ks pc lo (av_i x :: av_i i :: av_r r :: st) S L := by
  intro hC H locs ls hl hP hD hS
  exact rp_ist hC.1 hC.2.1 hC.2.2.2.2.2.2.1 hP hD hS 0 (wd_mem hr hr2) (fun f => wd_ints (hc f)) rfl hin hdg (fun H locs hP hD hS => k hC H locs ls hl hP hD hS)
theorem jw_zast {n r : Nat} {i x : Int32} (hc : ∀ f : Nat → Int32, ac_of w.2.2.1 w.2.2.2 r f (L r) = .inl (2, n, .inl 0)) (hx : vp_nar .boolean x = x) (hin : vp_in i n) (hr : rl_in w.2.2.1 w.2.2.2 r = true) (hr2 : r < 501) (hdg : decode cc pc = .ok (.bastore, 1)) (k : jw_J p l e R s m args below meth c0 Q D own cc nL ret tab A w kc ks (pc + 1) lo st (va_up S r (upd (S r) i.toNatClampNeg x)) L) : jw_J p l e R s m args below meth c0 Q D own cc nL ret tab A w kc ks pc lo (av_i x :: av_i i :: av_r r :: st) S L := by
  intro hC H locs ls hl hP hD hS
  exact rp_zst hC.1 hC.2.1 hC.2.2.2.2.2.2.1 hP hD hS 2 (wd_mem hr hr2) (fun f => wd_ints (hc f)) rfl hx hin hdg (fun H locs hP hD hS => k hC H locs ls hl hP hD hS)
theorem jw_last {n r : Nat} {i : Int32} {x : Int64} (hc : ∀ f : Nat → Int64, ac_of w.2.2.1 w.2.2.2 r (S r) f = .inl (1, n, .inl 1)) (hin : vp_in i n) (hr : rl_in w.2.2.1 w.2.2.2 r = true) (hr2 : r < 501) (hdg : decode cc pc = .ok (.lastore, 1)) (k : jw_J p l e R s m args below meth c0 Q D own cc nL ret tab A w kc ks (pc + 1) lo st S (va_up L r (vp_updL (L r) i.toNatClampNeg x))) : jw_J p l e R s m args below meth c0 Q D own cc nL ret tab A w kc ks pc lo (av_l x :: av_i i :: av_r r :: st) S L := by
  intro hC H locs ls hl hP hD hS
  exact rp_lst hC.1 hC.2.1 hC.2.2.2.2.2.2.1 hP hD hS 1 (wd_mem hr hr2) (fun f => wd_longs (hc f)) rfl hin hdg (fun H locs hP hD hS => k hC H locs ls hl hP hD hS)
theorem jw_unit {u : Nat} {i : Int32} (hi : i = nI u) (hu : u < w.2.2.1) (h12 : w.2.2.1 ≤ 12) (hdg : decode cc pc = .ok (.aaload, 1)) (k : jw_J p l e R s m args below meth c0 Q D own cc nL ret tab A w kc ks (pc + 1) lo (av_r (100 + u) :: st) S L) : jw_J p l e R s m args below meth c0 Q D own cc nL ret tab A w kc ks pc lo (av_i i :: av_r 1 :: st) S L := by
  subst hi
  exact jw_aald (k0 := 3) rfl rfl rfl (vp_in_nI (by omega) (by omega)) (r2 := 100 + u) (by rw [nI_clamp (by omega)]; exact if_pos hu) rfl (by decide) hdg k
theorem jw_plc {u : Nat} {i : Int32} (hi : i = nI u) (hu : u < w.2.2.2) (h12 : w.2.2.2 ≤ 12) (hdg : decode cc pc = .ok (.aaload, 1)) (k : jw_J p l e R s m args below meth c0 Q D own cc nL ret tab A w kc ks (pc + 1) lo (av_r (300 + u) :: st) S L) : jw_J p l e R s m args below meth c0 Q D own cc nL ret tab A w kc ks pc lo (av_i i :: av_r 2 :: st) S L := by
  subst hi
  exact jw_aald (k0 := 4) rfl rfl rfl (vp_in_nI (by omega) (by omega)) (r2 := 300 + u) (by rw [nI_clamp (by omega)]; exact if_pos hu) rfl (by decide) hdg k
theorem jw_tabIn {dflt lo9 hi : Int} {offs : Array Int} {len : Nat} {x : Int32} {off : Int} (tgt : Nat) (hdg : decode cc pc = .ok (.tableswitch dflt lo9 hi offs, len)) (h1 : ¬ x.toInt < lo9) (h2 : ¬ hi < x.toInt) (ho : offs[(x.toInt - lo9).toNat]? = some off) (ht : (pc : Int) + off = (tgt : Int)) (k : jw_J p l e R s m args below meth c0 Q D own cc nL ret tab A w kc ks tgt lo st S L) : jw_J p l e R s m args below meth c0 Q D own cc nL ret tab A w kc ks pc lo (av_i x :: st) S L := by
  intro hC H locs ls hl hP hD hS
  exact lv_tableIn hC.1 hC.2.1 hdg h1 h2 ho ht (k hC H locs ls hl hP hD hS)
theorem jw_tabOut {dflt lo9 hi : Int} {offs : Array Int} {len : Nat} {x : Int32} (tgt : Nat) (hdg : decode cc pc = .ok (.tableswitch dflt lo9 hi offs, len)) (h : x.toInt < lo9 ∨ hi < x.toInt) (ht : (pc : Int) + dflt = (tgt : Int)) (k : jw_J p l e R s m args below meth c0 Q D own cc nL ret tab A w kc ks tgt lo st S L) : jw_J p l e R s m args below meth c0 Q D own cc nL ret tab A w kc ks pc lo (av_i x :: st) S L := by
  intro hC H locs ls hl hP hD hS
  exact lv_tableOut hC.1 hC.2.1 hdg h ht (k hC H locs ls hl hP hD hS)
theorem jw_eqS (h : S = S') (k : jw_J p l e R s m args below meth c0 Q D own cc nL ret tab A w kc ks pc lo st S' L) : jw_J p l e R s m args below meth c0 Q D own cc nL ret tab A w kc ks pc lo st S L := h ▸ k
theorem jw_eqL (h : L = L') (k : jw_J p l e R s m args below meth c0 Q D own cc nL ret tab A w kc ks pc lo st S L') : jw_J p l e R s m args below meth c0 Q D own cc nL ret tab A w kc ks pc lo st S L := h ▸ k
theorem jw_row {u : Nat} {i : Int32} (hi : i = nI u) (hu : u < 9) (hdg : decode cc pc = .ok (.aaload, 1)) (k : jw_J p l e R s m args below meth c0 Q D own cc nL ret tab A w kc ks (pc + 1) lo (av_r (14 + u) :: st) S L) : jw_J p l e R s m args below meth c0 Q D own cc nL ret tab A w kc ks pc lo (av_i i :: av_r 7 :: st) S L := by
  subst hi
  exact jw_aald (k0 := 5) rfl rfl rfl (vp_in_nI (show u < 9 by omega) (by omega)) (r2 := 14 + u) (by rw [nI_clamp (by omega)]; exact if_pos hu) rfl (by decide) hdg k
theorem jw_lldN {r n c : Nat} {i : Int32} (hc : ac_of w.2.2.1 w.2.2.2 r (S r) (L r) = .inl (1, n, .inl 1)) (hi : i = nI c) (hin : c < n) (hn : n < 5000) (hr : rl_in w.2.2.1 w.2.2.2 r = true) (hr2 : r < 501) (hdg : decode cc pc = .ok (.laload, 1)) (k : jw_J p l e R s m args below meth c0 Q D own cc nL ret tab A w kc ks (pc + 1) lo (av_l (L r c) :: st) S L) : jw_J p l e R s m args below meth c0 Q D own cc nL ret tab A w kc ks pc lo (av_i i :: av_r r :: st) S L := by
  subst hi
  refine jw_lald hc (vp_in_nI hin (by omega)) hr hr2 hdg ?_
  rw [nI_clamp (by omega)]; exact k
theorem jw_ildN {r n c : Nat} {i : Int32} (hc : ac_of w.2.2.1 w.2.2.2 r (S r) (L r) = .inl (0, n, .inl 0)) (hi : i = nI c) (hin : c < n) (hn : n < 5000) (hr : rl_in w.2.2.1 w.2.2.2 r = true) (hr2 : r < 501) (hdg : decode cc pc = .ok (.iaload, 1)) (k : jw_J p l e R s m args below meth c0 Q D own cc nL ret tab A w kc ks (pc + 1) lo (av_i (S r c) :: st) S L) : jw_J p l e R s m args below meth c0 Q D own cc nL ret tab A w kc ks pc lo (av_i i :: av_r r :: st) S L := by
  subst hi
  refine jw_iald hc (vp_in_nI hin (by omega)) hr hr2 hdg ?_
  rw [nI_clamp (by omega)]; exact k
theorem jw_zldN {r n c : Nat} {i : Int32} (hc : ac_of w.2.2.1 w.2.2.2 r (S r) (L r) = .inl (2, n, .inl 0)) (hi : i = nI c) (hin : c < n) (hn : n < 5000) (hr : rl_in w.2.2.1 w.2.2.2 r = true) (hr2 : r < 501) (hdg : decode cc pc = .ok (.baload, 1)) (k : jw_J p l e R s m args below meth c0 Q D own cc nL ret tab A w kc ks (pc + 1) lo (av_i (S r c) :: st) S L) : jw_J p l e R s m args below meth c0 Q D own cc nL ret tab A w kc ks pc lo (av_i i :: av_r r :: st) S L := by
  subst hi
  refine jw_zald hc (vp_in_nI hin (by omega)) hr hr2 hdg ?_
  rw [nI_clamp (by omega)]; exact k
theorem jw_lstN {r n c : Nat} {i : Int32} {x : Int64} (hc : ∀ f : Nat → Int64, ac_of w.2.2.1 w.2.2.2 r (S r) f = .inl (1, n, .inl 1)) (hi : i = nI c) (hin : c < n) (hn : n < 5000) (hr : rl_in w.2.2.1 w.2.2.2 r = true) (hr2 : r < 501) (hdg : decode cc pc = .ok (.lastore, 1)) (k : jw_J p l e R s m args below meth c0 Q D own cc nL ret tab A w kc ks (pc + 1) lo st S (va_up L r (vp_updL (L r) c x))) : jw_J p l e R s m args below meth c0 Q D own cc nL ret tab A w kc ks pc lo (av_l x :: av_i i :: av_r r :: st) S L := by
  subst hi
  refine jw_last hc (vp_in_nI hin (by omega)) hr hr2 hdg ?_
  rw [nI_clamp (by omega)]; exact k
theorem jw_istN {r n c : Nat} {i x : Int32} (hc : ∀ f : Nat → Int32, ac_of w.2.2.1 w.2.2.2 r f (L r) = .inl (0, n, .inl 0)) (hi : i = nI c) (hin : c < n) (hn : n < 5000) (hr : rl_in w.2.2.1 w.2.2.2 r = true) (hr2 : r < 501) (hdg : decode cc pc = .ok (.iastore, 1)) (k : jw_J p l e R s m args below meth c0 Q D own cc nL ret tab A w kc ks (pc + 1) lo st (va_up S r (upd (S r) c x)) L) : jw_J p l e R s m args below meth c0 Q D own cc nL ret tab A w kc ks pc lo (av_i x :: av_i i :: av_r r :: st) S L := by
  subst hi
  refine jw_iast hc (vp_in_nI hin (by omega)) hr hr2 hdg ?_
  rw [nI_clamp (by omega)]; exact k
theorem jw_zstN {r n c : Nat} {i x : Int32} (hc : ∀ f : Nat → Int32, ac_of w.2.2.1 w.2.2.2 r f (L r) = .inl (2, n, .inl 0)) (hx : vp_nar .boolean x = x) (hi : i = nI c) (hin : c < n) (hn : n < 5000) (hr : rl_in w.2.2.1 w.2.2.2 r = true) (hr2 : r < 501) (hdg : decode cc pc = .ok (.bastore, 1)) (k : jw_J p l e R s m args below meth c0 Q D own cc nL ret tab A w kc ks (pc + 1) lo st (va_up S r (upd (S r) c x)) L) : jw_J p l e R s m args below meth c0 Q D own cc nL ret tab A w kc ks pc lo (av_i x :: av_i i :: av_r r :: st) S L := by
  subst hi
  refine jw_zast hc hx (vp_in_nI hin (by omega)) hr hr2 hdg ?_
  rw [nI_clamp (by omega)]; exact k
/-- a call of an object's method: it returns, or throws -/
theorem jw_callV {C : String} {index ci rb : Nat} {y : MethodName} {bb : ByteArray} {nB : Nat} {retB : Option FieldType} {rm : Room} {As rest st0 : List av_T} {Qp' : jd_P} {mc' ms' n : Nat} {fs : List av_T} {T : u_T} {N : Nat}
    (hM : ct_M l D w y (.code y bb nB retB) rm (av_r rb :: As) S L Qp' mc' ms') (hst : st0 = As.reverse ++ av_r rb :: rest) (hc : ac_of w.2.2.1 w.2.2.2 rb (S rb) (L rb) = .inr (ci, fs)) (hcl : zcl[ci]? = some (C, T, N)) (hr : rl_in w.2.2.1 w.2.2.2 rb = true) (hr2 : rb < 501)
    (h1 : Cond.methodLink own index y ∈ zw_all) (h2 : Cond.instanceMethod y ∈ zw_all) (h3 : Cond.selects C y y ∈ zw_all) (h4 : Cond.initialized C ∈ zw_all) (h5 : Cond.code y bb nB retB ∈ zw_all) (hd : y.cls = C ∧ y.cls ≠ "java/lang/invoke/MethodHandle" ∧ y.cls ≠ "java/lang/invoke/VarHandle" ∧ (parseMethodDescriptor y.desc).map (fun d => d.parameters.length) = some n) (hn : As.length = n)
    (hrc : rm.cells = mc') (hrs : rm.slots = ms') (hR : rm.frames + 1 ≤ R.frames ∧ 8 + (nB + 11) + rm.locals ≤ R.locals) (hw8 : (rest.map av_cat).sum ≤ 8) (hroom : kc + mc' ≤ R.cells ∧ ks + ms' ≤ R.slots) (hdg : decode cc pc = .ok (.invokevirtual index, 3))
    (kt : ∀ E S' L', Qp'.2 E S' L' → False)
    (kk : ∀ v S' L', Qp'.1 v S' L' → jw_J p l e R s m args below meth c0 Q D own cc nL ret tab A w (kc + mc') (ks + ms') (pc + 3) lo (v.toList ++ rest) S' L') : jw_J p l e R s m args below meth c0 Q D own cc nL ret tab A w kc ks pc lo st0 S L := by
  intro hC H locs ls hl hP hD hS
  have hFc := rp_free (H := H) hD hS hC.2.2.2.2.2.2.2.1
  have hrun := vx_runV (p := p) (e := e) (R := R) (below := below) (meth := meth) (H := H) (locs := locs) (cells := kc) (slots := ks) (g := F0 m pc ls (st0.map (av_v w.1))) (As := As.map (av_v w.1)) (rest := rest.map (av_v w.1)) (b := w.1 rb) (Ts := zw_all) (cc := cc) (nL := nL) ⟨hC.1, hC.2.1, hC.2.2.1, hC.2.2.2.1, hC.2.2.2.2.1⟩ (hM H.size) (cwV n hC.2.2.2.2.1 (tw_V h1 h2 h3 h4 h5) rfl hrc hrs hd hR)
    ⟨ct_blind, rp_recv hC.2.2.2.2.2.2.1 hP (wd_mem hr hr2) (wd_obj hc) hcl, fun U hU hW => ⟨rfl, by rw [hU], by rw [hU]; exact hP, va_K.moved hW.alike hC.2.2.2.2.2.2.1, hD.weaken (fun _ _ _ _ => trivial), by rw [hU]; exact hC.2.2.2.2.2.2.2.2.2.2.1.call hS hFc hW⟩⟩ rfl (by rw [List.length_map]; exact hn) hl.1 (by show st0.map (av_v w.1) = _; rw [hst]; simp [av_v]) (lv_room (by rw [List.map_map]; refine Nat.le_trans (Nat.le_of_eq ?_) hw8; congr 1; apply List.map_congr_left; intro v _; exact av_cat_ok w.1 v)) hdg hroom
  intro T9 hT X
  rcases hrun T9 hT X with ⟨v, st₀, t, T', L9, h0, X', hL, e1, e2, ⟨⟨v', S', L', hv, hq, hP', hD'⟩, hF⟩, sg⟩ | ⟨q, st₀, t, T', L9, E, ce, h0, X', hL, e1, e2, ⟨⟨S', L', hq, hP', hD'⟩, hF⟩, hce, hcv, hcl9, sg⟩
  · cases hv
    obtain ⟨k1, k2, k3⟩ := vx_keep h0 e1 hS (fun q _ h => hFc q h) hFc hL hF
    obtain ⟨t2, a1, b1⟩ := kk v' S' L' hq hC T'.heap (locs ++ L9) ls hl (by rw [e1]; exact hP') (hD'.weaken (fun _ z _ h => hFc _ h)) k3 T' rfl X'
    refine ⟨t2, sg t2 ?_, b1⟩
    have e9 : (v'.toList ++ rest).map (av_v w.1) = (v'.map (av_v w.1)).toList ++ rest.map (av_v w.1) := by cases v' <;> simp
    rw [e9] at a1
    exact a1
  · exact (kt E S' L' hq).elim
/-- a call of a static method -/
theorem jw_callS {index : Nat} {y : MethodName} {bb : ByteArray} {nB : Nat} {retB : Option FieldType} {rm : Room} {As rest st0 : List av_T} {Qp' : jd_P} {mc' ms' n : Nat}
    (hM : ct_M l D w y (.code y bb nB retB) rm As S L Qp' mc' ms') (hst : st0 = As.reverse ++ rest)
    (h1 : Cond.methodLink own index y ∈ zw_all) (h2 : Cond.static y ∈ zw_all) (h4 : Cond.initialized y.cls ∈ zw_all) (h5 : Cond.code y bb nB retB ∈ zw_all) (hd : y.cls ≠ "java/lang/invoke/MethodHandle" ∧ y.cls ≠ "java/lang/invoke/VarHandle" ∧ (parseMethodDescriptor y.desc).map (fun d => d.parameters.length) = some n) (hn : As.length = n)
    (hrc : rm.cells = mc') (hrs : rm.slots = ms') (hR : rm.frames + 1 ≤ R.frames ∧ 8 + (nB + 11) + rm.locals ≤ R.locals) (hw8 : (rest.map av_cat).sum ≤ 8) (hroom : kc + mc' ≤ R.cells ∧ ks + ms' ≤ R.slots) (hdg : decode cc pc = .ok (.invokestatic index, 3))
    (kt : ∀ E S' L', Qp'.2 E S' L' → False)
    (kk : ∀ v S' L', Qp'.1 v S' L' → jw_J p l e R s m args below meth c0 Q D own cc nL ret tab A w (kc + mc') (ks + ms') (pc + 3) lo (v.toList ++ rest) S' L') : jw_J p l e R s m args below meth c0 Q D own cc nL ret tab A w kc ks pc lo st0 S L := by
  intro hC H locs ls hl hP hD hS
  have hFc := rp_free (H := H) hD hS hC.2.2.2.2.2.2.2.1
  have hrun := vx_runS (p := p) (e := e) (R := R) (below := below) (meth := meth) (H := H) (locs := locs) (cells := kc) (slots := ks) (g := F0 m pc ls (st0.map (av_v w.1))) (As := As.map (av_v w.1)) (rest := rest.map (av_v w.1)) (Ts := zw_all) (cc := cc) (nL := nL) ⟨hC.1, hC.2.1, hC.2.2.1, hC.2.2.2.1, hC.2.2.2.2.1⟩ (hM H.size) (va_cwS n hC.2.2.2.2.1 (tw_S h1 h2 h4 h5) rfl hrc hrs hd hR)
    ⟨ct_blind, fun U hU hW => ⟨rfl, by rw [hU], by rw [hU]; exact hP, va_K.moved hW.alike hC.2.2.2.2.2.2.1, hD.weaken (fun _ _ _ _ => trivial), by rw [hU]; exact hC.2.2.2.2.2.2.2.2.2.2.1.call hS hFc hW⟩⟩ rfl (by rw [List.length_map]; exact hn) hl.1 (by show st0.map (av_v w.1) = _; rw [hst]; simp) (lv_room (by rw [List.map_map]; refine Nat.le_trans (Nat.le_of_eq ?_) hw8; congr 1; apply List.map_congr_left; intro v _; exact av_cat_ok w.1 v)) hdg hroom
  intro T9 hT X
  rcases hrun T9 hT X with ⟨v, st₀, t, T', L9, h0, X', hL, e1, e2, ⟨⟨v', S', L', hv, hq, hP', hD'⟩, hF⟩, sg⟩ | ⟨q, st₀, t, T', L9, E, ce, h0, X', hL, e1, e2, ⟨⟨S', L', hq, hP', hD'⟩, hF⟩, hce, hcv, hcl9, sg⟩
  · cases hv
    obtain ⟨k1, k2, k3⟩ := vx_keep h0 e1 hS (fun q _ h => hFc q h) hFc hL hF
    obtain ⟨t2, a1, b1⟩ := kk v' S' L' hq hC T'.heap (locs ++ L9) ls hl (by rw [e1]; exact hP') (hD'.weaken (fun _ z _ h => hFc _ h)) k3 T' rfl X'
    refine ⟨t2, sg t2 ?_, b1⟩
    have e9 : (v'.toList ++ rest).map (av_v w.1) = (v'.map (av_v w.1)).toList ++ rest.map (av_v w.1) := by cases v' <;> simp
    rw [e9] at a1
    exact a1
  · exact (kt E S' L' hq).elim
end JWR
