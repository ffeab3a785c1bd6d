/-! THE START: what the tables and the Statement give (rows by wip/whole/gen/ws.py) -/
theorem st_w1 : ∀ E ∈ jd_kinds, Cond.castable E E ∈ lw_tbl := by decide +kernel
theorem st_w2 : ∀ E ∈ jd_kinds, ∀ E' ∈ jd_kinds, E ≠ E' → Cond.not (Cond.castable E E') ∈ flatC (Jvm.Cond.and given_1 narrow_1) := by decide +kernel
theorem st_w3 : ∀ q ∈ jd_decl, Cond.declares q ∈ lw_tbl := by decide +kernel
theorem st_w4 : ∀ q ∈ jd_texts, Cond.stringRef zn_A q.1 q.2 ∈ lw_tbl := by decide +kernel
theorem st_w5 : ∀ q ∈ jd_texts, Cond.exactly (Term.string zn_A q.1) "java/lang/String" ∈ flatC (Jvm.Cond.and given_1 narrow_1) := by decide +kernel
theorem st_all : ∀ q ∈ zw_all, q ∈ lw_tbl := fun q hq => (List.mem_filter.mp hq).1
theorem st_X {args : Array Value} {s : State} (hts : ∀ w ∈ lw_tbl, w.before args s = true) (hgv : (Jvm.Cond.and given_1 narrow_1).before args s = true) : jd_X (fun q => s.heap.size ≤ q) s s.heap := by
  have hf := flat_of_before _ hgv
  have hA : ∀ a : Nat, a < s.heap.size → ¬ (fun q => s.heap.size ≤ q) a := fun a h => Nat.not_le.mpr h
  refine ⟨vx_Zqof (hts _ (by decide +kernel)) (hts _ (by decide +kernel)) (hf _ (by decide +kernel)) hA, vx_Zqof (hts _ (by decide +kernel)) (hts _ (by decide +kernel)) (hf _ (by decide +kernel)) hA, fun E hE => jd_cast (Vm.Alike.refl s.vm) (hts _ (st_w1 E hE)), fun E hE E' hE' hne => va_Nc.of (hf _ (st_w2 E hE E' hE' hne)), fun q hq => va_Nw.of rfl (hts _ (st_w3 q hq)), fun q hq => ?_⟩
  obtain ⟨a, c, cA, kA, q1, -⟩ := Cond.exactly_spec (args := args) (first := s) (o := none) (s := s) (idx := []) (hf _ (st_w5 q hq))
  exact ⟨a, vk_R.of (hts _ (st_w4 q hq)) q1⟩
/-- the classes' numbers, the arrays' classes -/
theorem st_K {args : Array Value} {s : State} (hts : ∀ w ∈ lw_tbl, w.before args s = true) : ∃ (D : va_G) (cls : Nat → ClassId), va_K D zcl (wd_ty (fun _ => 0, cls, 0, 0)) s := by
  have hz : ∀ q ∈ zw_all, q.before args s = true := fun q hq => hts q (st_all q hq)
  obtain ⟨c0, i0, k0⟩ := u_known (C := zn_A) (T := zf_A) (N := 11) (n := 11) hz zl_A (hz _ zi_57)
  obtain ⟨c1, i1, k1⟩ := u_known (C := zn_B) (T := zf_B) (N := 9) (n := 9) hz zl_B (hz _ zi_105)
  obtain ⟨c2, i2, k2⟩ := u_known (C := zn_G) (T := zf_G) (N := 7) (n := 7) hz zl_G (hz _ zi_69)
  obtain ⟨c3, i3, k3⟩ := u_known (C := zn_P) (T := zf_P) (N := 5) (n := 5) hz zl_P (hz _ zi_379)
  obtain ⟨c4, i4, k4⟩ := u_known (C := zn_U) (T := zf_U) (N := 8) (n := 8) hz zl_U (hz _ zi_329)
  obtain ⟨c5, i5, k5⟩ := u_known (C := zn_M) (T := zf_M) (N := 26) (n := 26) hz zl_M (hz _ zi_675)
  obtain ⟨a0, ka0, p0, x0, y0, z0⟩ := Cond.arrayClass_spec (hz _ zi_103)
  obtain ⟨a1, ka1, p1, x1, y1, z1⟩ := Cond.arrayClass_spec (hz _ zi_140)
  obtain ⟨a2, ka2, p2, x2, y2, z2⟩ := Cond.arrayClass_spec (hz _ zi_141)
  obtain ⟨p3, a3, ka3, f3, -, y3, z3, x3⟩ := Cond.arrayOver_spec (n := zn_U) (hts _ (by decide +kernel))
  obtain ⟨p4, a4, ka4, f4, -, y4, z4, x4⟩ := Cond.arrayOver_spec (n := zn_P) (hts _ (by decide +kernel))
  obtain ⟨p5, a5, ka5, f5, -, y5, z5, x5⟩ := aoa_spec (ty := .long) (u := s) (hts (Cond.arrayOver (.array .long)) (by decide +kernel))
  refine ⟨(fun k => if k = 0 then c0 else if k = 1 then c1 else if k = 2 then c2 else if k = 3 then c3 else if k = 4 then c4 else c5, fun k => if k = 0 then i0 else if k = 1 then i1 else if k = 2 then i2 else if k = 3 then i3 else if k = 4 then i4 else i5), fun k => if k = 0 then a0 else if k = 1 then a1 else if k = 2 then a2 else if k = 3 then a3 else if k = 4 then a4 else a5, ?_, ?_⟩
  · intro k q hq
    match k, hq with
    | 0, hq => cases hq; exact k0
    | 1, hq => cases hq; exact k1
    | 2, hq => cases hq; exact k2
    | 3, hq => cases hq; exact k3
    | 4, hq => cases hq; exact k4
    | 5, hq => cases hq; exact k5
    | k + 6, hq => simp [zcl] at hq
  · intro k q hq
    match k, hq with
    | 0, hq => cases hq; exact ⟨fun n z => ⟨fun k h => (by cases h), ka0, y0, p0, z0⟩, x0⟩
    | 1, hq => cases hq; exact ⟨fun n z => ⟨fun k h => (by cases h), ka1, y1, p1, z1⟩, x1⟩
    | 2, hq => cases hq; exact ⟨fun n z => ⟨fun k h => (by cases h), ka2, y2, p2, z2⟩, x2⟩
    | 3, hq => cases hq; exact ⟨fun n z => ⟨fun k h => (by cases h), ka3, y3, p3, z3⟩, ka3, p3, y3, z3, f3, x3⟩
    | 4, hq => cases hq; exact ⟨fun n z => ⟨fun k h => (by cases h), ka4, y4, p4, z4⟩, ka4, p4, y4, z4, f4, x4⟩
    | 5, hq => cases hq; exact ⟨fun n z => ⟨fun k h => (by cases h), ka5, y5, p5, z5⟩, x5⟩
    | k + 6, hq => simp [wd_ty] at hq
def st_rl : List Nat := [0, 1, 2, 3, 4, 5, 7, 14, 15, 16, 17, 18, 19, 20, 21, 22, 8, 9, 10, 11, 12, 13, 6, 400, 403, 404, 405, 406, 407, 408, 409, 410, 412, 413, 414, 415, 416, 417, 422, 423, 424, 425, 426, 500]
theorem st_in : ∀ r, r < 501 → rl_in 0 0 r = true → r ∈ st_rl := by decide +kernel
def st_ad (as : List Nat) : Nat → Nat := fun r => as.getD (st_rl.idxOf r) 0
def st_w8 : Nat → Int32 := (upd (upd (upd (upd (upd (upd (upd (upd (fun _ => 0) 0 1) 1 1) 2 1) 3 1) 4 1) 5 1) 6 1) 7 1)
def st_S : Nat → Nat → Int32 := fun r => if r = 0 then (fun k => if k = 8 then 6 else if k = 9 then 100 else 0) else if r = 3 then (fun j => if j < 8 then 1 else 0) else if r = 400 then (fun k => if k = 17 then 6 else if k = 18 then 100 else 0) else if r = 410 then (fun j => if j < 144 then -1 else 0) else if r = 417 then st_w8 else fun _ => 0
theorem st_I {w : wd_T} (h1 : w.2.2.1 = 0) (h2 : w.2.2.2 = 0) : lw_I w st_S := by
  have hw : ∀ k, k < 8 → st_S 417 k = st_S 3 k ∧ st_S 3 k = nI 1 := by decide +kernel
  refine ⟨⟨⟨by omega, by omega, by rw [h1]; rfl, by rw [h2]; rfl⟩, fun u hu => by omega, fun u hu => by omega, fun u g hu => by omega, ⟨fun u hu => by omega, fun u p hu => by omega, fun p hp => by omega, fun k hk => ⟨1, by omega, (hw k hk).2⟩⟩, fun u hu => by omega, ⟨6, by omega, rfl⟩, Or.inl rfl, fun u g hu => by omega⟩, ?_⟩
  refine ⟨⟨by rw [h1]; rfl, by rw [h2]; rfl, rfl, rfl, rfl⟩, fun u hu => by omega, fun p hp => by omega, fun u p hu => by omega, fun u p hu => by omega, fun k hk => (hw k hk).1, fun u p _ hu hp => ⟨rfl, ?_⟩, fun u _ hu => rfl, fun p _ hp => rfl⟩
  show (if 12 * u + p < 144 then (-1 : Int32) else 0) = -1
  rw [if_pos (by omega)]
set_option maxRecDepth 100000 in
set_option maxHeartbeats 4000000 in
theorem st_hat {w : wd_T} {qA q0 q1 q2 qg qb qp b0 b1 b2 b3 b4 b5 q3 qM m0 m1 m2 m3 m4 m5 m6 m7 m8 m9 m10 m11 m12 m13 m14 m15 m16 m17 m18 qo : Nat} {r : Nat → Nat} (h1 : w.1 = st_ad [qA, q0, q1, q2, qg, qb, qp, r 0, r 1, r 2, r 3, r 4, r 5, r 6, r 7, r 8, b0, b1, b2, b3, b4, b5, q3, qM, m0, m1, m2, m3, m4, m5, m6, m7, m8, m9, m10, m11, m12, m13, m14, m15, m16, m17, m18, qo]) (h2 : w.2.2.1 = 0) (h3 : w.2.2.2 = 0) : ∀ k ∈ st_rl, ([(qA, .inr (0, [.ref q0, .ref q1, .ref q2, .ref qg, .ref qb, .ref q3, .int 0, .int 0, .int 6, .int 100, .int 0])), (q0, .inl (w.2.1 3, 12, .inr (.inr (.inr (.inr (fun _ => none)))))), (q1, .inl (w.2.1 4, 12, .inr (.inr (.inr (.inr (fun _ => none)))))), (q2, .inl (w.2.1 0, 8, .inl (fun j => if j < 8 then (1 : Int32) else 0))), (qg, .inr (2, [.int 0, .int 0, .int 0, .int 0, .int 0, .int 0, .int 0])), (qb, .inr (1, [.ref qp, .ref b0, .ref b1, .ref b2, .ref b3, .ref b4, .ref b5, .int 0, .long 0])), (qp, .inl (w.2.1 5, 9, .inr (.inr (.inr (.inr (fun i => if i < 9 then some (r i) else none)))))), (r 0, .inl (w.2.1 1, 21, .inr (.inl (fun _ => 0)))), (r 1, .inl (w.2.1 1, 21, .inr (.inl (fun _ => 0)))), (r 2, .inl (w.2.1 1, 21, .inr (.inl (fun _ => 0)))), (r 3, .inl (w.2.1 1, 21, .inr (.inl (fun _ => 0)))), (r 4, .inl (w.2.1 1, 21, .inr (.inl (fun _ => 0)))), (r 5, .inl (w.2.1 1, 21, .inr (.inl (fun _ => 0)))), (r 6, .inl (w.2.1 1, 21, .inr (.inl (fun _ => 0)))), (r 7, .inl (w.2.1 1, 21, .inr (.inl (fun _ => 0)))), (r 8, .inl (w.2.1 1, 21, .inr (.inl (fun _ => 0)))), (b0, .inl (w.2.1 1, 9, .inr (.inl (fun _ => 0)))), (b1, .inl (w.2.1 1, 21, .inr (.inl (fun _ => 0)))), (b2, .inl (w.2.1 0, 21, .inl (fun _ => 0))), (b3, .inl (w.2.1 0, 21, .inl (fun _ => 0))), (b4, .inl (w.2.1 1, 21, .inr (.inl (fun _ => 0)))), (b5, .inl (w.2.1 2, 21, .inl (fun _ => 0))), (q3, .inl (w.2.1 0, 12, .inl (fun _ => 0))), (qM, .inr (5, [.int 0, .int 0, .ref m0, .ref m1, .ref m2, .ref m3, .ref m4, .ref m5, .ref m6, .ref m7, .int 0, .ref m8, .ref m9, .ref m10, .ref m11, .ref m12, .ref m13, .int 6, .int 100, .int 0, .int 0, .ref m14, .ref m15, .ref m16, .ref m17, .ref m18])), (m0, .inl (w.2.1 0, 12, .inl (fun _ => 0))), (m1, .inl (w.2.1 0, 12, .inl (fun _ => 0))), (m2, .inl (w.2.1 0, 12, .inl (fun _ => 0))), (m3, .inl (w.2.1 0, 12, .inl (fun _ => 0))), (m4, .inl (w.2.1 0, 12, .inl (fun _ => 0))), (m5, .inl (w.2.1 2, 12, .inl (fun _ => 0))), (m6, .inl (w.2.1 2, 144, .inl (fun _ => 0))), (m7, .inl (w.2.1 0, 144, .inl (fun j => if j < 144 then (-1 : Int32) else 0))), (m8, .inl (w.2.1 0, 12, .inl (fun _ => 0))), (m9, .inl (w.2.1 0, 12, .inl (fun _ => 0))), (m10, .inl (w.2.1 0, 12, .inl (fun _ => 0))), (m11, .inl (w.2.1 0, 12, .inl (fun _ => 0))), (m12, .inl (w.2.1 2, 12, .inl (fun _ => 0))), (m13, .inl (w.2.1 0, 8, .inl (upd (upd (upd (upd (upd (upd (upd (upd (fun _ => 0) 0 1) 1 1) 2 1) 3 1) 4 1) 5 1) 6 1) 7 1))), (m14, .inl (w.2.1 0, 12, .inl (fun _ => 0))), (m15, .inl (w.2.1 0, 12, .inl (fun _ => 0))), (m16, .inl (w.2.1 0, 144, .inl (fun _ => 0))), (m17, .inl (w.2.1 1, 4096, .inr (.inl (fun _ => 0)))), (m18, .inl (w.2.1 1, 4096, .inr (.inl (fun _ => 0)))), (qo, .inl (w.2.1 1, 1, .inr (.inl (fun _ => 0))))] : va_W)[st_rl.idxOf k]? = some (rp_F w.1 (wd_en w) st_S (fun _ _ => 0) k) := by
  obtain ⟨ad, cls, nU, nP⟩ := w
  have h1 : ad = st_ad [qA, q0, q1, q2, qg, qb, qp, r 0, r 1, r 2, r 3, r 4, r 5, r 6, r 7, r 8, b0, b1, b2, b3, b4, b5, q3, qM, m0, m1, m2, m3, m4, m5, m6, m7, m8, m9, m10, m11, m12, m13, m14, m15, m16, m17, m18, qo] := h1
  have h2 : nU = 0 := h2
  have h3 : nP = 0 := h3
  subst h1
  subst h2
  subst h3
  intro k hk
  simp only [st_rl, List.mem_cons, List.not_mem_nil, or_false] at hk
  rcases hk with rfl | rfl | rfl | rfl | rfl | rfl | rfl | rfl | rfl | rfl | rfl | rfl | rfl | rfl | rfl | rfl | rfl | rfl | rfl | rfl | rfl | rfl | rfl | rfl | rfl | rfl | rfl | rfl | rfl | rfl | rfl | rfl | rfl | rfl | rfl | rfl | rfl | rfl | rfl | rfl | rfl | rfl | rfl | rfl
  · rfl
  · rfl
  · rfl
  · rfl
  · rfl
  · rfl
  · have e7 : (fun j => (if j < 9 then some (14 + j) else none : Option Nat).map (st_ad [qA, q0, q1, q2, qg, qb, qp, r 0, r 1, r 2, r 3, r 4, r 5, r 6, r 7, r 8, b0, b1, b2, b3, b4, b5, q3, qM, m0, m1, m2, m3, m4, m5, m6, m7, m8, m9, m10, m11, m12, m13, m14, m15, m16, m17, m18, qo])) = fun i => if i < 9 then some (r i) else none := by
      funext j
      by_cases z : j < 9
      · rw [if_pos z, if_pos z]
        have hj : j = 0 ∨ j = 1 ∨ j = 2 ∨ j = 3 ∨ j = 4 ∨ j = 5 ∨ j = 6 ∨ j = 7 ∨ j = 8 := by omega
        rcases hj with rfl | rfl | rfl | rfl | rfl | rfl | rfl | rfl | rfl <;> rfl
      · rw [if_neg z, if_neg z]; rfl
    show some (qp, _) = some (_, Sum.inl (cls 5, 9, _))
    rw [← e7]
    rfl
  · rfl
  · rfl
  · rfl
  · rfl
  · rfl
  · rfl
  · rfl
  · rfl
  · rfl
  · rfl
  · rfl
  · rfl
  · rfl
  · rfl
  · rfl
  · rfl
  · rfl
  · rfl
  · rfl
  · rfl
  · rfl
  · rfl
  · rfl
  · rfl
  · rfl
  · rfl
  · rfl
  · rfl
  · rfl
  · rfl
  · rfl
  · rfl
  · rfl
  · rfl
  · rfl
  · rfl
  · rfl
theorem st_inj : ∀ a ∈ st_rl, ∀ b ∈ st_rl, st_rl.idxOf a = st_rl.idxOf b → a = b := by decide +kernel
theorem st_fold {D : va_G} {A : Nat → Prop} {H : Heap} {w : wd_T} {cs : va_W} {S : Nat → Nat → Int32} {L : Nat → Nat → Int64} (h2 : w.2.2.1 = 0) (h3 : w.2.2.2 = 0) (hat : ∀ k ∈ st_rl, cs[st_rl.idxOf k]? = some (rp_F w.1 (wd_en w) S L k)) (hP : va_P D zcl cs H) (hD : va_D A cs) : va_P D zcl (wd_W w S L) H ∧ va_D A (wd_W w S L) := by
  have hin : ∀ r, rl_in w.2.2.1 w.2.2.2 r = true → r < 501 → r ∈ st_rl := fun r h4 h5 => st_in r h5 (by rw [h2, h3] at h4; exact h4)
  refine ⟨wd_P_of (fun r h4 h5 => hP _ _ (hat r (hin r h4 h5))), wd_D_of (fun r r' h4 h5 h6 h7 e => ?_) (fun r h4 h5 => hD.2 _ _ (hat r (hin r h4 h5)))⟩
  exact st_inj r (hin r h4 h5) r' (hin r' h6 h7) (hD.1 _ _ _ _ (hat r (hin r h4 h5)) (hat r' (hin r' h6 h7)) e)
