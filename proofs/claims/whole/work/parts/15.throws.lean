/-! THROWING AND CATCHING, and Math's two. -/
def th_up : List String := ["java/lang/RuntimeException", "java/lang/Exception"]
def th_bad (E : String) : List Cond := [Cond.castable E E, Cond.declares ⟨"java/lang/RuntimeException", "<init>", "(Ljava/lang/String;)V"⟩, Cond.declares ⟨"java/lang/Exception", "<init>", "(Ljava/lang/String;)V"⟩, Cond.declares ⟨"java/lang/Throwable", "<init>", "(Ljava/lang/String;)V"⟩]
def th_W (own : String) (ik ic : Nat) (E : String) : Prop := Cond.classLink own ik E ∈ zw_all ∧ Cond.initialized E ∈ zw_all ∧ E ∈ jd_kinds ∧ Bundle.fit E = true ∧ (∀ q ∈ (vx_atS own ic E th_up).filter goodWord, q ∈ zw_all) ∧ (∀ q ∈ (vx_atS own ic E th_up).filter (fun q => !goodWord q), q ∈ th_bad E) ∧ (∀ q ∈ Cond.classLink own ik E :: Cond.initialized E :: vx_atS own ic E th_up, vx_ot q = true)
theorem th_iae : th_W zn_A 53 57 "java/lang/IllegalArgumentException" := ⟨by decide +kernel, by decide +kernel, by decide +kernel, by decide +kernel, by decide +kernel, by decide +kernel, by decide +kernel⟩
theorem th_uoe : th_W zn_A 63 67 "java/lang/UnsupportedOperationException" := ⟨by decide +kernel, by decide +kernel, by decide +kernel, by decide +kernel, by decide +kernel, by decide +kernel, by decide +kernel⟩
theorem th_ise : th_W zn_A 106 110 "java/lang/IllegalStateException" := ⟨by decide +kernel, by decide +kernel, by decide +kernel, by decide +kernel, by decide +kernel, by decide +kernel, by decide +kernel⟩
theorem th_ae : th_W zn_A 219 223 "java/lang/ArithmeticException" := ⟨by decide +kernel, by decide +kernel, by decide +kernel, by decide +kernel, by decide +kernel, by decide +kernel, by decide +kernel⟩
theorem th_ups : ∀ q ∈ th_up, Bundle.fit q = true := by decide +kernel
section JDX
variable {l : Launch} {D : va_G} {w : wd_T} {own : String} {cc : ByteArray} {nL : Nat} {ret : Option FieldType} {tab : List ExceptionTableEntry} {R : Room} {mc ms : Nat} {Qp : jd_P} {kc ks : Nat} {pc : Nat} {lo : jl_T} {st : List av_T} {S : Nat → Nat → Int32} {L : Nat → Nat → Int64}
/-- new E("text") is made and thrown out of the method -/
theorem jd_throw {E text : String} {ik is ic : Nat} (hth : th_W zn_A ik ic E) (htx : (is, text) ∈ jd_texts) (ht : tab = []) (hq : Qp.2 E S L)
    (d0 : decode cc pc = .ok (.new ik, 3)) (d3 : decode cc (pc + 3) = .ok (.dup, 1)) (d4 : decode cc (pc + 4) = .ok (.ldc is, 2)) (d6 : decode cc (pc + 6) = .ok (.invokespecial ic, 3)) (d9 : decode cc (pc + 9) = .ok (.athrow, 1))
    (hR1 : 5 < R.frames) (hR2 : (st.map av_cat).sum + 82 ≤ R.locals) (hR3 : kc + 1 ≤ R.cells) (hR4 : ks + 6 ≤ R.slots) (h1 : kc + 1 ≤ mc) (h2 : ks + 6 ≤ ms) : jd_J l D w zn_A cc nL ret tab R mc ms Qp kc ks pc lo st S L := by
  intro p e s m args below meth c H locs A free Qc XC ls hC hE hf hl hP hD hS
  obtain ⟨t1, t2, t3, t4, t5, t6, t7⟩ := hth
  obtain ⟨x1, x2, x3, x4, x6, x5⟩ := hC.2.2.2.2.2.2.2.2.2.2.1
  obtain ⟨sa, hsa⟩ := x5 _ htx
  exact vx_throwS hC.1 hC.2.1 hC.2.2.2.2.2.2.2.2.2.1 (names := th_up) hC.2.2.2.1 t4 th_ups (hC.2.2.2.2.1 _ t1) (hC.2.2.2.2.1 _ t2) hsa (vx_hat (B := th_bad E) (fun q hq => hC.2.2.2.2.1 q (t5 q hq)) t6 (vx_c (jd_cast (Vm.Alike.refl s.vm) (x3 E t3)) (vx_c (va_Nw.use rfl (x6 _ (by decide +kernel))) (vx_c (va_Nw.use rfl (x6 _ (by decide +kernel))) (vx_c (va_Nw.use rfl (x6 _ (by decide +kernel))) vx_n))))) t7 x1 x2 hS (hl.1.trans hC.2.2.1.symm) d0 d3 d4 d6 d9
    (by rw [hC.2.2.2.2.2.2.2.2.1, ht]; exact fun x hx => by cases hx) hR1 (by rw [List.map_map]; refine Nat.le_trans (Nat.le_of_eq ?_) hR2; show _ + 82 = _ + 82; congr 2; apply List.map_congr_left; intro v _; exact av_cat_ok w.1 v) hR3 hR4 hC.2.2.2.2.2.1
    (fun t hal hz hk => hE.2 E S L t hq (hP.kept (fun k9 x hx => hk x.1 ((hP k9 x hx).lt))) hD ⟨Nat.le_trans hS.1 hz, fun q g1 g2 => (hk q (Nat.lt_of_lt_of_le g1 hS.1)).trans (hS.2.1 q g1 g2)⟩ hal) (fun z hz => hf _ (hS.2.2 z hz)) h1 h2
/-- caught by a row of the method's own table, behind rows that name other kinds -/
theorem jd_catch {E : String} (hE0 : E ∈ jd_kinds) (pre : List ExceptionTableEntry) (x : ExceptionTableEntry) (suf : List ExceptionTableEntry) (ht : tab = pre ++ x :: suf) (hpass : ∀ z ∈ pre, z.catchType ≠ 0 ∧ ∃ nm ∈ jd_kinds, E ≠ nm ∧ Cond.classLink own z.catchType nm ∈ zw_all) (hx : covers x pc = true) (h0 : x.catchType ≠ 0) (hlink : Cond.classLink own x.catchType E ∈ zw_all)
    (kk : ∀ q : Nat, jd_J l D w own cc nL ret tab R mc ms Qp kc ks x.handlerPc lo [av_a q] S L) : jd_T l D w own cc nL ret tab R mc ms Qp kc ks pc lo E S L := by
  intro p e s m args below meth c H locs A free Qc XC ls st q ce hC hE hf hl hP hD hS hce hcv hcl
  obtain ⟨x1, x2, x3, x4, x6, x5⟩ := hC.2.2.2.2.2.2.2.2.2.2.1
  exact vx_catch (name := E) hC.2.2.2.1 pre x suf (hC.2.2.2.2.2.2.2.2.1.trans ht) (fun z hz => by
      obtain ⟨g1, nm, g2, g3, g4⟩ := hpass z hz
      exact Or.inr ⟨g1, nm, hC.2.2.2.2.1 _ g4, x4 E hE0 nm g2 g3⟩) hx h0 (hC.2.2.2.2.1 _ hlink) (jd_cast (Vm.Alike.refl s.vm) (x3 E hE0)) hce hcv hcl (kk q p e s m args below meth c H locs A free Qc XC ls hC hE hf hl hP hD hS)
theorem jd_max {index : Nat} {x y : Int32} (h1 : Cond.methodLink own index Lib.Math.max.name ∈ zw_all) (h2 : Cond.static Lib.Math.max.name ∈ zw_all) (h3 : Cond.initialized "java/lang/Math" ∈ zw_all) (h4 : Cond.code Lib.Math.max.name Lib.Math.max.code 2 (some .int) ∈ zw_all) (hR1 : 1 ≤ R.frames) (hR2 : (st.map av_cat).sum + 13 ≤ R.locals) (hR3 : kc ≤ R.cells) (hR4 : ks ≤ R.slots) (hdg : decode cc pc = .ok (.invokestatic index, 3))
    (k : jd_J l D w own cc nL ret tab R mc ms Qp kc ks (pc + 3) lo (av_i (if x < y then y else x) :: st) S L) : jd_J l D w own cc nL ret tab R mc ms Qp kc ks pc lo (av_i y :: av_i x :: st) S L := by
  intro p e s m args below meth c H locs A free Qc XC ls hC hE hf hl hP hD hS
  exact va_mmax hC.1 hC.2.1 (hC.2.2.1.trans hl.1.symm) hC.2.2.2.1 (hC.2.2.2.2.1 _ h1) (hC.2.2.2.2.1 _ h2) (hC.2.2.2.2.1 _ h3) (hC.2.2.2.2.1 _ h4) hR1 (by rw [List.map_map]; refine Nat.le_trans (Nat.le_of_eq ?_) hR2; congr 2; apply List.map_congr_left; intro v _; exact av_cat_ok w.1 v) hR3 hR4 hdg (k p e s m args below meth c H locs A free Qc XC ls hC hE hf hl hP hD hS)
theorem jd_min {index : Nat} {x y : Int32} (h1 : Cond.methodLink own index Lib.Math.min.name ∈ zw_all) (h2 : Cond.static Lib.Math.min.name ∈ zw_all) (h3 : Cond.initialized "java/lang/Math" ∈ zw_all) (h4 : Cond.code Lib.Math.min.name Lib.Math.min.code 2 (some .int) ∈ zw_all) (hR1 : 1 ≤ R.frames) (hR2 : (st.map av_cat).sum + 13 ≤ R.locals) (hR3 : kc ≤ R.cells) (hR4 : ks ≤ R.slots) (hdg : decode cc pc = .ok (.invokestatic index, 3))
    (k : jd_J l D w own cc nL ret tab R mc ms Qp kc ks (pc + 3) lo (av_i (if y < x then y else x) :: st) S L) : jd_J l D w own cc nL ret tab R mc ms Qp kc ks pc lo (av_i y :: av_i x :: st) S L := by
  intro p e s m args below meth c H locs A free Qc XC ls hC hE hf hl hP hD hS
  exact va_mmin hC.1 hC.2.1 (hC.2.2.1.trans hl.1.symm) hC.2.2.2.1 (hC.2.2.2.2.1 _ h1) (hC.2.2.2.2.1 _ h2) (hC.2.2.2.2.1 _ h3) (hC.2.2.2.2.1 _ h4) hR1 (by rw [List.map_map]; refine Nat.le_trans (Nat.le_of_eq ?_) hR2; congr 2; apply List.map_congr_left; intro v _; exact av_cat_ok w.1 v) hR3 hR4 hdg (k p e s m args below meth c H locs A free Qc XC ls hC hE hf hl hP hD hS)
end JDX
