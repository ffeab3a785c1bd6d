/-! SMALL FACTS about roles, and rules for the class's own arrays of objects. -/
theorem ac_U {nU nP u : Nat} {row : Nat → Int32} {lr : Nat → Int64} (h : u < 100) : ac_of nU nP (100 + u) row lr = .inr (4, [av_i (row 0), av_i (row 1), av_i (row 2), av_i (row 3), av_i (row 4), av_i (row 5), av_i (row 6), av_r (100 + u + 100)]) := by
  unfold ac_of
  rw [if_neg (by omega), if_neg (by omega), if_neg (by omega), if_pos (by omega)]
theorem ac_C {nU nP u : Nat} {row : Nat → Int32} {lr : Nat → Int64} (h : u < 100) : ac_of nU nP (100 + u + 100) row lr = .inl (0, 12, .inl 0) := by
  unfold ac_of
  rw [if_neg (by omega), if_neg (by omega), if_neg (by omega), if_neg (by omega), if_pos (by omega)]
theorem ac_P {nU nP p : Nat} {row : Nat → Int32} {lr : Nat → Int64} (h : p < 100) : ac_of nU nP (300 + p) row lr = .inr (3, [av_i (row 0), av_i (row 1), av_i (row 2), av_i (row 3), av_i (row 4)]) := by
  unfold ac_of
  rw [if_neg (by omega), if_neg (by omega), if_neg (by omega), if_neg (by omega), if_neg (by omega), if_pos (by omega)]
theorem rl_U {nU nP u : Nat} (h : u < nU) : rl_in nU nP (100 + u) = true := by
  unfold rl_in
  simp
  omega
theorem rl_C {nU nP u : Nat} (h : u < nU) : rl_in nU nP (100 + u + 100) = true := by
  unfold rl_in
  simp
  omega
theorem rl_P {nU nP p : Nat} (h : p < nP) : rl_in nU nP (300 + p) = true := by
  unfold rl_in
  simp
  omega
theorem nI_inc (u : Nat) : nI u + Int32.ofInt 1 = nI (u + 1) := nI_1 u
/-- ends that change nothing -/
def po_i (r : Int32) (S : Nat → Nat → Int32) (L : Nat → Nat → Int64) : jd_P := (fun v S' L' => v = some (av_i r) ∧ S = S' ∧ L = L', fun _ _ _ => False)
def po_v (S : Nat → Nat → Int32) (L : Nat → Nat → Int64) : jd_P := (fun v S' L' => v = none ∧ S = S' ∧ L = L', fun _ _ _ => False)
section JDH
variable {l : Launch} {D : va_G} {w : wd_T} {own : String} {cc : ByteArray} {nL : Nat} {ret : Option FieldType} {tab : List ExceptionTableEntry} {R : Room} {mc ms : Nat} {Qp : jd_P} {kc ks : Nat} {pc : Nat} {lo : jl_T} {st : List av_T} {S : Nat → Nat → Int32} {L : Nat → Nat → Int64}
theorem jd_unit {u : Nat} {i : Int32} (hi : i = nI u) (hu : u < w.2.2.1) (h12 : w.2.2.1 ≤ 12) (hdg : decode cc pc = .ok (.aaload, 1)) (k : jd_J l D w own cc nL ret tab R mc ms Qp kc ks (pc + 1) lo (av_r (100 + u) :: st) S L) : jd_J l D w own cc nL ret tab R mc ms Qp kc ks pc lo (av_i i :: av_r 1 :: st) S L := by
  subst hi
  exact jd_aald (k0 := 3) rfl rfl rfl (vp_in_nI (by omega) (by omega)) (r2 := 100 + u) (by rw [nI_clamp (by omega)]; exact if_pos hu) rfl (by decide) hdg k
theorem jd_plc {u : Nat} {i : Int32} (hi : i = nI u) (hu : u < w.2.2.2) (h12 : w.2.2.2 ≤ 12) (hdg : decode cc pc = .ok (.aaload, 1)) (k : jd_J l D w own cc nL ret tab R mc ms Qp kc ks (pc + 1) lo (av_r (300 + u) :: st) S L) : jd_J l D w own cc nL ret tab R mc ms Qp kc ks pc lo (av_i i :: av_r 2 :: st) S L := by
  subst hi
  exact jd_aald (k0 := 4) rfl rfl rfl (vp_in_nI (by omega) (by omega)) (r2 := 300 + u) (by rw [nI_clamp (by omega)]; exact if_pos hu) rfl (by decide) hdg k
end JDH
section JDK
variable {l : Launch} {D : va_G} {w : wd_T} {own : String} {cc : ByteArray} {nL : Nat} {ret : Option FieldType} {tab : List ExceptionTableEntry} {R : Room} {mc ms : Nat} {Qp : jd_P} {kc ks : Nat} {pc : Nat} {lo : jl_T} {st : List av_T} {S S' : Nat → Nat → Int32} {L L' : Nat → Nat → Int64}
theorem jd_tabIn {dflt lo9 hi : Int} {offs : Array Int} {len : Nat} {x : Int32} {off : Int} (tgt : Nat) (hdg : decode cc pc = .ok (.tableswitch dflt lo9 hi offs, len)) (h1 : ¬ x.toInt < lo9) (h2 : ¬ hi < x.toInt) (ho : offs[(x.toInt - lo9).toNat]? = some off) (ht : (pc : Int) + off = (tgt : Int)) (k : jd_J l D w own cc nL ret tab R mc ms Qp kc ks tgt lo st S L) : jd_J l D w own cc nL ret tab R mc ms Qp kc ks pc lo (av_i x :: st) S L := by
  intro p e s m args below meth c H locs A free Qc XC ls hC hE hf hl hP hD hS
  exact lv_tableIn hC.1 hC.2.1 hdg h1 h2 ho ht (k p e s m args below meth c H locs A free Qc XC ls hC hE hf hl hP hD hS)
theorem jd_tabOut {dflt lo9 hi : Int} {offs : Array Int} {len : Nat} {x : Int32} (tgt : Nat) (hdg : decode cc pc = .ok (.tableswitch dflt lo9 hi offs, len)) (h : x.toInt < lo9 ∨ hi < x.toInt) (ht : (pc : Int) + dflt = (tgt : Int)) (k : jd_J l D w own cc nL ret tab R mc ms Qp kc ks tgt lo st S L) : jd_J l D w own cc nL ret tab R mc ms Qp kc ks pc lo (av_i x :: st) S L := by
  intro p e s m args below meth c H locs A free Qc XC ls hC hE hf hl hP hD hS
  exact lv_tableOut hC.1 hC.2.1 hdg h ht (k p e s m args below meth c H locs A free Qc XC ls hC hE hf hl hP hD hS)
/-- numbers that no cell shows may be others -/
def wd_same (w : wd_T) (S S' : Nat → Nat → Int32) (L L' : Nat → Nat → Int64) : Prop := ∀ r, r ∈ wd_dl w → ac_of w.2.2.1 w.2.2.2 r (S r) (L r) = ac_of w.2.2.1 w.2.2.2 r (S' r) (L' r) ∧ wd_en w r (S r) (L r) = wd_en w r (S' r) (L' r)
theorem wd_same_W {w : wd_T} {S S' : Nat → Nat → Int32} {L L' : Nat → Nat → Int64} (h : wd_same w S S' L L') : wd_W w S L = wd_W w S' L' := by
  unfold wd_W
  apply List.map_congr_left
  intro r hr
  simp only [rp_F, (h r hr).2]
theorem jd_same (h : wd_same w S S' L L') (k : jd_J l D w own cc nL ret tab R mc ms Qp kc ks pc lo st S' L') : jd_J l D w own cc nL ret tab R mc ms Qp kc ks pc lo st S L := by
  intro p e s m args below meth c H locs A free Qc XC ls hC hE hf hl hP hD hS
  rw [wd_same_W h] at hP hD
  exact k p e s m args below meth c H locs A free Qc XC ls hC hE hf hl hP hD hS
/-- .. of one role alone, an object -/
theorem wd_same1 {r0 ci : Nat} {fs : List av_T} (h0 : ∀ r, r ≠ r0 → S r = S' r) (hL : L = L') (h1 : ac_of w.2.2.1 w.2.2.2 r0 (S r0) (L r0) = .inr (ci, fs)) (h2 : ac_of w.2.2.1 w.2.2.2 r0 (S' r0) (L r0) = .inr (ci, fs)) : wd_same w S S' L L' := by
  subst hL
  intro r _
  by_cases e : r = r0
  · subst e
    exact ⟨h1.trans h2.symm, (wd_obj h1).trans (wd_obj h2).symm⟩
  · rw [h0 r e]; exact ⟨rfl, rfl⟩
end JDK
