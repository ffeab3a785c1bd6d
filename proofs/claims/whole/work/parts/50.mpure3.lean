/-! THE MODEL'S GROUPS AND PLANS, as functions. -/
section CLP
variable {w : wd_T} {G S T B : Nat → Nat → Int32} {u p : Nat}
def cl_pr (G : Nat → Nat → Int32) (nU u p : Nat) : Int32 := if fa_br (fa_ga G (nI u) nU) (G (300 + p)) (nI p) = 0 then fa_co G (fa_ga G (nI u) nU) u p else -1
def cl_I (w : wd_T) (G S T : Nat → Nat → Int32) (u : Nat) : Prop := sm_S S T ∧ T 400 0 = S 400 0 ∧ T 400 20 = nI (fa_cN G u) ∧ (∀ r, r < fa_cN G u → T 422 r = nI (fa_le G w.2.2.1 r)) ∧ ∀ r p, r < fa_cN G u → p < w.2.2.2 → T 424 (12 * r + p) = cl_pr G w.2.2.1 (fa_le G w.2.2.1 r) p
def cl_J (w : wd_T) (G S T : Nat → Nat → Int32) (u p : Nat) : Prop := sm_S S T ∧ T 400 0 = S 400 0 ∧ T 400 20 = nI (fa_cN G u) ∧ (∀ r, r < fa_cN G u + 1 → T 422 r = nI (fa_le G w.2.2.1 r)) ∧ (∀ r q, r < fa_cN G u → q < w.2.2.2 → T 424 (12 * r + q) = cl_pr G w.2.2.1 (fa_le G w.2.2.1 r) q) ∧ ∀ q, q < p → T 424 (12 * fa_cN G u + q) = cl_pr G w.2.2.1 u q
theorem cl_0 : cl_I w G S (va_up S 400 (upd (S 400) 20 0)) 0 := by
  refine ⟨(sm_refl S).fld (Or.inr rfl) 0, ?_, ?_, fun r hr => ?_, fun r p hr => ?_⟩
  · rw [va_up_self]; exact pk_un (by decide)
  · rw [va_up_self]; exact pk_us
  · simp only [fa_cN] at hr; omega
  · simp only [fa_cN] at hr; omega
theorem cl_IJ (h : cl_I w G S T u) (hg : fa_gr G u = true) (hu : u < w.2.2.1) : cl_J w G S (va_up T 422 (upd (T 422) (fa_cN G u) (nI u))) u 0 := by
  obtain ⟨a, b, c, d, e⟩ := h
  refine ⟨a.up (by decide) (by decide) _, ?_, ?_, fun r hr => ?_, fun r q hr hq => ?_, fun q hq => by omega⟩
  · rw [va_up_ne _ _ (by decide)]; exact b
  · rw [va_up_ne _ _ (by decide)]; exact c
  · rw [va_up_self]
    by_cases z : r = fa_cN G u
    · subst z; rw [pk_us, fa_le_at hg _ hu]
    · rw [pk_un z]; exact d r (by omega)
  · rw [va_up_ne _ _ (by decide)]; exact e r q hr hq
theorem cl_JJ (h13 : w.2.2.2 ≤ 12) (h : cl_J w G S T u p) (hp : p < w.2.2.2) {x : Int32} (hx : x = cl_pr G w.2.2.1 u p) : cl_J w G S (va_up T 424 (upd (T 424) (12 * fa_cN G u + p) x)) u (p + 1) := by
  obtain ⟨a, b, c, d, e, f⟩ := h
  refine ⟨a.up (by decide) (by decide) _, ?_, ?_, fun r hr => ?_, fun r q hr hq => ?_, fun q hq => ?_⟩
  · rw [va_up_ne _ _ (by decide)]; exact b
  · rw [va_up_ne _ _ (by decide)]; exact c
  · rw [va_up_ne _ _ (by decide)]; exact d r hr
  · rw [va_up_self, pk_un (by omega)]; exact e r q hr hq
  · rw [va_up_self]
    by_cases z : q = p
    · subst z; rw [pk_us]; exact hx
    · rw [pk_un (by omega)]; exact f q (by omega)
theorem cl_JI (h : cl_J w G S T u w.2.2.2) (hg : fa_gr G u = true) (hu : u < w.2.2.1) : cl_I w G S (va_up T 400 (upd (T 400) 20 (nI (fa_cN G u) + 1))) (u + 1) := by
  obtain ⟨a, b, c, d, e, f⟩ := h
  have ec : fa_cN G (u + 1) = fa_cN G u + 1 := by simp only [fa_cN]; rw [if_pos hg]
  unfold cl_I
  rw [ec]
  refine ⟨a.fld (Or.inr rfl) _, ?_, ?_, fun r hr => ?_, fun r q hr hq => ?_⟩
  · rw [va_up_self, pk_un (by decide)]; exact b
  · rw [va_up_self, pk_us, nI_1]
  · rw [va_up_ne _ _ (by decide)]; exact d r hr
  · rw [va_up_ne _ _ (by decide)]
    by_cases z : r = fa_cN G u
    · subst z; rw [fa_le_at hg _ hu]; exact f q hq
    · exact e r q (by omega) hq
theorem cl_N (h : cl_I w G S T u) (hg : ¬ fa_gr G u = true) : cl_I w G S T (u + 1) := by
  have ec : fa_cN G (u + 1) = fa_cN G u := by simp only [fa_cN]; rw [if_neg hg]
  unfold cl_I
  rw [ec]
  exact h
theorem cl_up (h : cl_I w G S T u) (row : Nat → Int32) : cl_I w G S (va_up T 423 row) u := by
  obtain ⟨a, b, c, d, e⟩ := h
  refine ⟨a.up (by decide) (by decide) _, ?_, ?_, fun r hr => ?_, fun r q hr hq => ?_⟩
  · rw [va_up_ne _ _ (by decide)]; exact b
  · rw [va_up_ne _ _ (by decide)]; exact c
  · rw [va_up_ne _ _ (by decide)]; exact d r hr
  · rw [va_up_ne _ _ (by decide)]; exact e r q hr hq
/-- the bound, by groups -/
def fm_bd (G : Nat → Nat → Int32) (nU nP : Nat) : Nat → Nat → Int32 → Int32
  | 0, _, c => c
  | k + 1, r, c => if (fa_ch G (fa_ga G (nI (fa_le G nU r)) nU) (fa_le G nU r) 0 nP).1 = -1 then -1 else fm_bd G nU nP k (r + 1) (c + fa_co G (fa_ga G (nI (fa_le G nU r)) nU) (fa_le G nU r) (fa_ch G (fa_ga G (nI (fa_le G nU r)) nU) (fa_le G nU r) 0 nP).1.toNatClampNeg)
theorem bd_fm {nU nP : Nat} : ∀ k u c, u + k = nU → fa_bd G nU nP k u c = fm_bd G nU nP (fa_cN G nU - fa_cN G u) (fa_cN G u) c
  | 0, u, c, h => by
    have : u = nU := by omega
    subst this
    rw [Nat.sub_self]; rfl
  | k + 1, u, c, h => by
    simp only [fa_bd]
    by_cases hg : fa_gr G u = true
    · have hlt := fa_cN_lt (S := G) (u := u) (n := nU) (by omega) hg
      have e1 : fa_cN G nU - fa_cN G u = (fa_cN G nU - fa_cN G (u + 1)) + 1 := by simp only [fa_cN]; rw [if_pos hg]; omega
      have e2 : fa_cN G (u + 1) = fa_cN G u + 1 := by simp only [fa_cN]; rw [if_pos hg]
      rw [if_pos hg, e1]
      simp only [fm_bd]
      rw [fa_le_at hg nU (by omega), ← e2]
      split
      · rfl
      · exact bd_fm k (u + 1) _ (by omega)
    · have e2 : fa_cN G (u + 1) = fa_cN G u := by simp only [fa_cN]; rw [if_neg hg]
      rw [if_neg hg, bd_fm k (u + 1) c (by omega), e2]
/-- one by one, by groups -/
def fm_o1 (G : Nat → Nat → Int32) (nU nP : Nat) : Nat → Int32
  | 0 => 0
  | r + 1 => if (fa_ch G (fa_ga G (nI (fa_le G nU r)) nU) (fa_le G nU r) (fm_o1 G nU nP r) nP).1 = -1 then fm_o1 G nU nP r else fm_o1 G nU nP r ||| ((1 : Int32) <<< ((fa_ch G (fa_ga G (nI (fa_le G nU r)) nU) (fa_le G nU r) (fm_o1 G nU nP r) nP).1 &&& 31))
def fm_gv (G : Nat → Nat → Int32) (nU nP r : Nat) : Int32 := (fa_ch G (fa_ga G (nI (fa_le G nU r)) nU) (fa_le G nU r) (fm_o1 G nU nP r) nP).1
theorem o1_d1 {nU nP : Nat} : ∀ u, u ≤ nU → (fa_d1 G nU nP u).1 = fm_o1 G nU nP (fa_cN G u)
  | 0, _ => rfl
  | u + 1, h => by
    have ih := o1_d1 (nU := nU) (nP := nP) u (by omega)
    by_cases hg : fa_gr G u = true
    · have e2 : fa_cN G (u + 1) = fa_cN G u + 1 := by simp only [fa_cN]; rw [if_pos hg]
      rw [e2]
      simp only [fm_o1]
      rw [fa_le_at hg nU (by omega), ← ih]
      by_cases hc : (fa_ch G (fa_ga G (nI u) nU) u (fa_d1 G nU nP u).1 nP).1 = -1
      · rw [if_pos hc, sw_d1e hg hc]
      · rw [if_neg hc, sw_d1b hg hc]
    · have e2 : fa_cN G (u + 1) = fa_cN G u := by simp only [fa_cN]; rw [if_neg hg]
      rw [e2, sw_d1n hg]; exact ih
theorem gv_d1 {nU nP : Nat} (hu : u < nU) (hg : fa_gr G u = true) : (fa_d1 G nU nP nU).2.2 u = fm_gv G nU nP (fa_cN G u) := by
  unfold fm_gv
  rw [d1_st nU hu, fa_le_at hg nU hu, ← o1_d1 u (by omega)]
  by_cases hc : (fa_ch G (fa_ga G (nI u) nU) u (fa_d1 G nU nP u).1 nP).1 = -1
  · rw [← sw_d1d hg hc]; exact pk_us
  · rw [← sw_d1a hg hc]; exact pk_us
/-- the plan's cost, by groups -/
def fm_sm (G : Nat → Nat → Int32) (nU : Nat) (gv : Nat → Int32) : Nat → Int32
  | 0 => 0
  | r + 1 => if gv r = -1 then fm_sm G nU gv r else fm_sm G nU gv r + fa_co G (fa_ga G (nI (fa_le G nU r)) nU) (fa_le G nU r) (gv r).toNatClampNeg
theorem sm_fm {nU : Nat} {d gv : Nat → Int32} (hd : ∀ u, u < nU → fa_gr G u = true → d u = gv (fa_cN G u)) : ∀ u, u ≤ nU → fa_sm G nU d u = fm_sm G nU gv (fa_cN G u)
  | 0, _ => rfl
  | u + 1, h => by
    have ih := sm_fm hd u (by omega)
    simp only [fa_sm]
    by_cases hg : fa_gr G u = true
    · have e2 : fa_cN G (u + 1) = fa_cN G u + 1 := by simp only [fa_cN]; rw [if_pos hg]
      rw [e2]
      simp only [fm_sm]
      rw [fa_le_at hg nU (by omega), ← hd u (by omega) hg, ih]
      by_cases hc : d u = -1
      · rw [if_pos hc, if_neg (fun z => z.2 hc)]
      · rw [if_neg hc, if_pos ⟨hg, hc⟩]
    · have e2 : fa_cN G (u + 1) = fa_cN G u := by simp only [fa_cN]; rw [if_neg hg]
      rw [e2, if_neg (fun z => hg z.1)]; exact ih
/-- the plan is written: groups below r, and of group r the units below v -/
def as_w (n : Nat) (G B T : Nat → Nat → Int32) (gv : Nat → Int32) (r v : Nat) : Prop := (∀ q, q ≠ 407 → T q = B q) ∧ ∀ x, T 407 x = if x < n ∧ G (100 + x) 5 = 0 ∧ (fa_cN G (G (100 + x) 2).toNatClampNeg < r ∨ (fa_cN G (G (100 + x) 2).toNatClampNeg = r ∧ x < v)) then gv (fa_cN G (G (100 + x) 2).toNatClampNeg) else B 407 x
theorem as_w0 {n : Nat} {gv : Nat → Int32} : as_w n G B B gv 0 0 := ⟨fun _ _ => rfl, fun x => by rw [if_neg (by omega)]⟩
theorem as_wS {n r : Nat} {gv : Nat → Int32} (h : as_w n G B T gv r n) : as_w n G B T gv (r + 1) 0 := by
  refine ⟨h.1, fun x => ?_⟩
  rw [h.2 x]
  by_cases z : x < n ∧ G (100 + x) 5 = 0 ∧ (fa_cN G (G (100 + x) 2).toNatClampNeg < r ∨ (fa_cN G (G (100 + x) 2).toNatClampNeg = r ∧ x < n))
  · rw [if_pos z, if_pos ⟨z.1, z.2.1, by omega⟩]
  · rw [if_neg z, if_neg (fun y => z ⟨y.1, y.2.1, by omega⟩)]
theorem as_wY {n r v : Nat} {gv : Nat → Int32} (h : as_w n G B T gv r v) (hv : v < n) (h5 : G (100 + v) 5 = 0) (hc : fa_cN G (G (100 + v) 2).toNatClampNeg = r) : as_w n G B (va_up T 407 (upd (T 407) v (gv r))) gv r (v + 1) := by
  refine ⟨fun q hq => by rw [va_up_ne _ _ hq]; exact h.1 q hq, fun x => ?_⟩
  rw [va_up_self]
  by_cases e : x = v
  · subst e; rw [pk_us, if_pos ⟨hv, h5, Or.inr ⟨hc, by omega⟩⟩, hc]
  · rw [pk_un e, h.2 x]
    by_cases z : x < n ∧ G (100 + x) 5 = 0 ∧ (fa_cN G (G (100 + x) 2).toNatClampNeg < r ∨ (fa_cN G (G (100 + x) 2).toNatClampNeg = r ∧ x < v))
    · rw [if_pos z, if_pos ⟨z.1, z.2.1, by omega⟩]
    · rw [if_neg z, if_neg (fun y => z ⟨y.1, y.2.1, by omega⟩)]
theorem as_wN {n r v : Nat} {gv : Nat → Int32} (h : as_w n G B T gv r v) (hc : ¬ (G (100 + v) 5 = 0 ∧ fa_cN G (G (100 + v) 2).toNatClampNeg = r)) : as_w n G B T gv r (v + 1) := by
  refine ⟨h.1, fun x => ?_⟩
  rw [h.2 x]
  by_cases z : x < n ∧ G (100 + x) 5 = 0 ∧ (fa_cN G (G (100 + x) 2).toNatClampNeg < r ∨ (fa_cN G (G (100 + x) 2).toNatClampNeg = r ∧ x < v))
  · rw [if_pos z, if_pos ⟨z.1, z.2.1, by omega⟩]
  · rw [if_neg z, if_neg (fun y => z ⟨y.1, y.2.1, by
      rcases y.2.2 with q | q
      · exact Or.inl q
      · refine Or.inr ⟨q.1, ?_⟩
        by_cases e : x = v
        · subst e; exact absurd ⟨y.2.1, q.1⟩ hc
        · omega⟩)]
/-- a unit is of group r just when its group's number is that of the unit at r -/
theorem as_in (hA : ok_A w G) (hu : u < w.2.2.1) {r : Nat} (hr : r < fa_cN G w.2.2.1) : G (100 + u) 2 = nI (fa_le G w.2.2.1 r) ↔ (G (100 + u) 5 = 0 ∧ fa_cN G (G (100 + u) 2).toNatClampNeg = r) := by
  have h12 := hA.1.1
  obtain ⟨a, b, c⟩ := fa_le_in w.2.2.1 hr
  constructor
  · intro h
    have := (mi_in hA hu a b).mp h
    refine ⟨(fa_in_tt this).1, ?_⟩
    rw [h, nI_clamp (by omega)]; exact c
  · rintro ⟨h1, h2⟩
    obtain ⟨g, g1, g2, g3⟩ := hA.2.2.1 u hu h1
    rw [g2, nI_clamp (by omega)] at h2
    rw [g2, ← h2, fa_le_at g3 _ (by omega)]
theorem as_md {T0 : Nat → Nat → Int32} {d gv : Nat → Int32} {b : Int32} (hA : ok_A w G) (hR : md_R w G T0) (hd : ∀ u, u < w.2.2.1 → fa_gr G u = true → d u = gv (fa_cN G u)) (h : as_w w.2.2.1 G (va_up T0 400 (upd (T0 400) 19 b)) T gv (fa_cN G w.2.2.1) 0) : md_R w (va_up (fa_as G w.2.2.1 d) 0 (upd (G 0) 10 b)) T := by
  have h12 := hA.1.1
  have h7 : ∀ v, v < w.2.2.1 → T 407 v = if decide (G (100 + v) 5 = 0) = true then d (G (100 + v) 2).toNatClampNeg else G (100 + v) 3 := fun v hv => by
    rw [h.2 v]
    by_cases z : G (100 + v) 5 = 0
    · obtain ⟨g, g1, g2, g3⟩ := hA.2.2.1 v hv z
      have hlt := fa_cN_lt (n := w.2.2.1) (by omega) g3
      rw [g2, nI_clamp (by omega), if_pos ⟨hv, z, Or.inl hlt⟩, if_pos (decide_eq_true z), hd g (by omega) g3]
    · rw [if_neg (fun y => z y.2.1), if_neg (by rw [decide_eq_false z]; decide), va_up_ne _ _ (by decide)]
      exact mr_407 hR hv
  have k := md_wr (G := G) (T := T0) (T' := va_up T0 407 (T 407)) h12 hR (cc := fun u => decide (G (100 + u) 5 = 0)) (f := fun row => upd row 3 (d (row 2).toNatClampNeg)) (fun row k k1 k2 k3 => pk_un k2) (fun r r1 r2 r3 => va_up_ne _ _ r2) (fun v hv => by
    rw [va_up_ne _ _ (by decide), va_up_self, va_up_ne _ _ (by decide), mr_405 hR hv, mr_408 hR hv]
    refine ⟨?_, ?_, ?_⟩
    · split <;> rfl
    · exact h7 v hv
    · split <;> rfl) (fun v hv => by rw [va_up_ne _ _ (by decide)])
  have k2 := md_best k b
  have e1 : fa_wr G (fun u => decide (G (100 + u) 5 = 0)) (fun row => upd row 3 (d (row 2).toNatClampNeg)) w.2.2.1 0 = G 0 := fa_wr_out _ (by omega)
  rw [e1] at k2
  have e2 : va_up (va_up T0 407 (T 407)) 400 (upd (va_up T0 407 (T 407) 400) 19 b) = T := by
    funext q
    by_cases z : q = 400
    · subst z; rw [va_up_self, va_up_ne _ _ (by decide), h.1 400 (by decide), va_up_self]
    · rw [va_up_ne _ _ z]
      by_cases y : q = 407
      · subst y; rw [va_up_self]
      · rw [va_up_ne _ _ y, h.1 q y, va_up_ne _ _ z]
  rw [e2] at k2
  exact k2
end CLP
/-! SETS of places as numbers. -/
theorem set_bt {s k : Nat} (hk : k < 32) : bt (nI s) k = s.testBit k := by
  unfold bt nI
  rw [show (Int32.ofNat s).toBitVec = BitVec.ofNat 32 s from rfl, BitVec.getLsbD_ofNat]
  simp [hk]
theorem set_or {s p : Nat} (hp : p < 32) : nI s ||| ((1 : Int32) <<< (nI p &&& 31)) = nI (s ||| 2 ^ p) := by
  apply bt_ext
  intro k hk
  rw [bt_or, set_bt hk, bt_one p hp k hk, set_bt hk, tb_or]
  congr 1
  by_cases e : k = p
  · subst e; simp
  · have : ¬ p = k := fun z => e z.symm
    simp [e, this]
theorem set_lt {s p P : Nat} (hs : s < 2 ^ P) (hp : p < P) : s ||| 2 ^ p < 2 ^ P := Nat.or_lt_two_pow hs (Nat.pow_lt_pow_right (by decide) hp)
theorem set_sh : ∀ P, P ≤ 12 → (1 : Int32) <<< (nI P &&& 31) = nI (2 ^ P) := by decide +kernel
theorem set_sz : ∀ P, P ≤ 12 → 2 ^ P ≤ 4096 := by decide +kernel
theorem set_is {s p : Nat} (hp : p < 32) : ((nI s >>> (nI p &&& 31)) &&& 1 = 1) ↔ s.testBit p = true := by
  rw [bt_1 _ hp, set_bt hp]
/-! A GROUP'S COST where rules allow it. -/
theorem fa_gb {w : wd_T} {G : Nat → Nat → Int32} {g : Int32} (hA : ok_A w G) : ∀ n, n ≤ w.2.2.1 → (∃ z, z ≤ 100 * n ∧ fa_ga G g n 2 = nI z) ∧ ∃ y, y ≤ 100 ∧ fa_ga G g n 3 = nI y
  | 0, _ => ⟨⟨0, Nat.le_refl _, rfl⟩, ⟨0, by omega, rfl⟩⟩
  | n + 1, h => by
    obtain ⟨⟨z, z1, z2⟩, ⟨y, y1, y2⟩⟩ := fa_gb (g := g) hA n (by omega)
    by_cases c : fa_in G n g = true
    · obtain ⟨s, s1, s2⟩ := hA.2.2.2.2.1.1 n (by omega)
      obtain ⟨kd, k1, k2⟩ := (hA.2.1 n (by omega)).1
      obtain ⟨t, t1, t2⟩ := hA.2.2.2.2.1.2.2.2 kd k1
      have e2 : fa_ga G g (n + 1) 2 = fa_ga G g n 2 + G (100 + n) 1 := by simp only [fa_ga]; rw [if_pos c]; rfl
      have e3 : fa_ga G g (n + 1) 3 = if fa_ga G g n 3 < G 3 (G (100 + n) 0).toNatClampNeg then G 3 (G (100 + n) 0).toNatClampNeg else fa_ga G g n 3 := by simp only [fa_ga]; rw [if_pos c]; rfl
      refine ⟨⟨z + s, by omega, by rw [e2, z2, s2, nI_add]⟩, ?_⟩
      rw [e3, k2, nI_clamp (by omega), t2]
      split
      · exact ⟨t, t1, rfl⟩
      · exact ⟨y, y1, y2⟩
    · rw [fa_ga_no c]
      exact ⟨⟨z, by omega, z2⟩, ⟨y, y1, y2⟩⟩
theorem fa_br_4 {g q : Nat → Int32} {p : Int32} (h : fa_br g q p = 0) : g 2 ≤ q 3 := by
  have h5 := fa_ka_5 g q p
  rw [h, show decide ((0 : Int32) = 0) = true from rfl] at h5
  simp only [fa_ka, Bool.and_eq_true] at h5
  exact of_decide_eq_true (show decide (g 2 ≤ q 3) = true from h5.1.2)
theorem ok_cost {w : wd_T} {G : Nat → Nat → Int32} (hA : ok_A w G) {g p : Nat} (hg : g < w.2.2.1) (hp : p < w.2.2.2) (hb : fa_br (fa_ga G (nI g) w.2.2.1) (G (300 + p)) (nI p) = 0) : ∃ c, c ≤ 1000000 ∧ fa_co G (fa_ga G (nI g) w.2.2.1) g p = nI c := by
  have h12 := hA.1.1
  have h13 := hA.1.2.1
  unfold fa_co
  rcases hA.2.2.2.2.1.2.1 g p hg (by omega) with e | ⟨c, c1, c2⟩
  · rw [if_pos e]
    obtain ⟨⟨z, z1, z2⟩, ⟨y, y1, y2⟩⟩ := fa_gb (g := nI g) hA w.2.2.1 (Nat.le_refl _)
    obtain ⟨⟨q, q1, q2⟩, ⟨f, f1, f2⟩, -⟩ := hA.2.2.2.2.1.2.2.1 p hp
    have h4 := fa_br_4 hb
    rw [z2, f2, nI_leI (by omega) (by omega)] at h4
    have m : q * y ≤ 1000 * 100 := Nat.mul_le_mul q1 y1
    refine ⟨q * y + f - z, by omega, ?_⟩
    rw [q2, y2, f2, z2, pk_mul, nI_add, pk_sub (by omega)]
  · by_cases e : G (100 + g + 100) p = -1
    · exfalso
      rw [c2] at e
      have h2 := congrArg Int32.toInt e
      rw [nI_toInt (by omega)] at h2
      have : (-1 : Int32).toInt = -1 := by decide
      omega
    · rw [if_neg e]; exact ⟨c, c1, c2⟩
theorem ok_hC {w : wd_T} {G : Nat → Nat → Int32} (hA : ok_A w G) : ∀ r p, r < fa_cN G w.2.2.1 → fa_al G w.2.2.1 w.2.2.2 r p → 0 ≤ fa_cost G w.2.2.1 r p ∧ fa_cost G w.2.2.1 r p ≤ 1000000 := by
  intro r p hr h
  obtain ⟨c, c1, c2⟩ := ok_cost hA (fa_le_in _ hr).1 h.1 h.2
  unfold fa_cost
  rw [c2, nI_toInt (by omega)]
  omega
/-- the prices that the model reads -/
theorem pr_no {G : Nat → Nat → Int32} {nU nP r p : Nat} (hp : p < nP) (h : ¬ fa_al G nU nP r p) : cl_pr G nU (fa_le G nU r) p = -1 := by
  unfold cl_pr
  rw [if_neg (fun z => h ⟨hp, z⟩)]
theorem pr_yes {w : wd_T} {G : Nat → Nat → Int32} (hA : ok_A w G) {r p : Nat} (hr : r < fa_cN G w.2.2.1) (h : fa_al G w.2.2.1 w.2.2.2 r p) : ¬ cl_pr G w.2.2.1 (fa_le G w.2.2.1 r) p = -1 ∧ (cl_pr G w.2.2.1 (fa_le G w.2.2.1 r) p).toInt64.toInt = fa_cost G w.2.2.1 r p := by
  have hc := ok_hC hA r p hr h
  unfold cl_pr
  rw [if_pos h.2]
  refine ⟨fun e => ?_, Int32.toInt_toInt64 _⟩
  unfold fa_cost at hc
  rw [e] at hc
  have : (-1 : Int32).toInt = -1 := by decide
  omega
