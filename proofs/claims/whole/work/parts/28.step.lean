/-! ONE STEP OF THE SEARCH, from the machine's longs to whole numbers. -/
theorem l_sub {x y : Int64} (h1 : -9223372036854775808 ≤ x.toInt - y.toInt) (h2 : x.toInt - y.toInt < 9223372036854775808) : (x - y).toInt = x.toInt - y.toInt := by
  rw [Int64.toInt_sub]
  exact Int.bmod_eq_of_le (by omega) (by omega)
theorem l_add {x y : Int64} (h1 : -9223372036854775808 ≤ x.toInt + y.toInt) (h2 : x.toInt + y.toInt < 9223372036854775808) : (x + y).toInt = x.toInt + y.toInt := by
  rw [Int64.toInt_add]
  exact Int.bmod_eq_of_le (by omega) (by omega)
theorem bp_n_spec {S : Nat → Nat → Int32} {L : Nat → Nat → Int64} : ∀ n, (bp_n S L n = 0 → ∀ c, 1 ≤ c → c < n → ¬ S 13 c = 0) ∧ (bp_n S L n ≠ 0 → bp_n S L n < n ∧ S 13 (bp_n S L n) = 0 ∧ ∀ c, 1 ≤ c → c < n → S 13 c = 0 → (L 12 (bp_n S L n)).toInt ≤ (L 12 c).toInt) := by
  intro n
  induction n with
  | zero => exact ⟨fun _ c h1 h2 => by omega, fun h => absurd rfl h⟩
  | succ n ih =>
    obtain ⟨i1, i2⟩ := ih
    by_cases h : 1 ≤ n ∧ S 13 n = 0 ∧ (bp_n S L n = 0 ∨ L 12 n < L 12 (bp_n S L n))
    · have e : bp_n S L (n + 1) = n := by simp only [bp_n]; rw [if_pos h]
      rw [e]
      refine ⟨fun q => by omega, fun _ => ⟨by omega, h.2.1, fun c c1 c2 hc => ?_⟩⟩
      rcases Nat.lt_or_ge c n with q | q
      · rcases h.2.2 with x | x
        · exact absurd hc (i1 x c c1 q)
        · by_cases y : bp_n S L n = 0
          · exact absurd hc (i1 y c c1 q)
          · have h3 := (i2 y).2.2 c c1 q hc
            have h4 := Int64.lt_iff_toInt_lt.mp x
            omega
      · have : c = n := by omega
        subst this
        exact Int.le_refl _
    · have e : bp_n S L (n + 1) = bp_n S L n := by simp only [bp_n]; rw [if_neg h]
      rw [e]
      refine ⟨fun q c c1 c2 hc => ?_, fun q => ⟨by have := (i2 q).1; omega, (i2 q).2.1, fun c c1 c2 hc => ?_⟩⟩
      · rcases Nat.lt_or_ge c n with x | x
        · exact i1 q c c1 x hc
        · have : c = n := by omega
          subst this
          exact h ⟨c1, hc, Or.inl q⟩
      · rcases Nat.lt_or_ge c n with x | x
        · exact (i2 q).2.2 c c1 x hc
        · have : c = n := by omega
          subst this
          have h5 : ¬ L 12 c < L 12 (bp_n S L c) := fun y => h ⟨c1, hc, Or.inr y⟩
          rw [Int64.lt_iff_toInt_lt] at h5
          omega
theorem bp_s_out {S : Nat → Nat → Int32} {L : Nat → Nat → Int64} {x : Int64} {r : Nat} (h8 : r ≠ 8) (h9 : r ≠ 9) (h12 : r ≠ 12) : ∀ n, bp_s S L x n r = L r
  | 0 => rfl
  | n + 1 => by
    simp only [bp_s]
    split
    · rw [va_up_ne _ _ h12]; exact bp_s_out h8 h9 h12 n
    · rw [va_up_ne _ _ h9, va_up_ne _ _ h8]; exact bp_s_out h8 h9 h12 n
theorem bp_s8_no {S : Nat → Nat → Int32} {L : Nat → Nat → Int64} {x : Int64} {r : Nat} : ∀ n, (∀ c, c < n → ¬ S 13 c = 0 → (S 10 c).toNatClampNeg ≠ r) → bp_s S L x n 8 r = L 8 r
  | 0, _ => rfl
  | n + 1, h => by
    have ih := bp_s8_no (x := x) (L := L) n (fun c hc => h c (by omega))
    simp only [bp_s]
    split
    · rw [va_up_ne _ _ (by decide)]; exact ih
    · rename_i q
      rw [va_up_ne _ _ (by decide), va_up_self, pk_uLn (fun e => h n (by omega) q e.symm)]; exact ih
theorem bp_s8_yes {S : Nat → Nat → Int32} {L : Nat → Nat → Int64} {x : Int64} {r c0 : Nat} (hc0 : ¬ S 13 c0 = 0) (er : (S 10 c0).toNatClampNeg = r) : ∀ n, c0 < n → (∀ c, c < n → ¬ S 13 c = 0 → (S 10 c).toNatClampNeg = r → c = c0) → bp_s S L x n 8 r = L 8 r + x
  | 0, h, _ => by omega
  | n + 1, h, hu => by
    by_cases e : c0 = n
    · subst e
      have ih := bp_s8_no (S := S) (L := L) (x := x) (r := r) c0 (fun c hc hn e => by have := hu c (by omega) hn e; omega)
      simp only [bp_s]
      rw [if_neg hc0, va_up_ne _ _ (by decide), va_up_self, er, pk_uLs, ih]
    · have ih := bp_s8_yes (L := L) (x := x) hc0 er n (by omega) (fun c hc => hu c (by omega))
      simp only [bp_s]
      split
      · rw [va_up_ne _ _ (by decide)]; exact ih
      · rename_i q
        rw [va_up_ne _ _ (by decide), va_up_self, pk_uLn (fun z => e (hu n (by omega) q z.symm).symm)]; exact ih
theorem bp_s9 {S : Nat → Nat → Int32} {L : Nat → Nat → Int64} {x : Int64} {c : Nat} : ∀ n, bp_s S L x n 9 c = if c < n ∧ ¬ S 13 c = 0 then L 9 c - x else L 9 c
  | 0 => by rw [if_neg (by omega)]; rfl
  | n + 1 => by
    have ih := bp_s9 (S := S) (L := L) (x := x) (c := c) n
    simp only [bp_s]
    by_cases q : S 13 n = 0
    · rw [if_pos q, va_up_ne _ _ (by decide), ih]
      by_cases e : c = n
      · subst e; rw [if_neg (fun z => z.2 q), if_neg (fun z => z.2 q)]
      · by_cases z : c < n ∧ ¬ S 13 c = 0
        · rw [if_pos z, if_pos ⟨by omega, z.2⟩]
        · rw [if_neg z, if_neg (fun y => z ⟨by omega, y.2⟩)]
    · rw [if_neg q, va_up_self]
      by_cases e : c = n
      · subst e; rw [pk_uLs, ih, if_neg (fun z => absurd z.1 (by omega)), if_pos ⟨by omega, q⟩]
      · rw [pk_uLn e, ih]
        by_cases z : c < n ∧ ¬ S 13 c = 0
        · rw [if_pos z, if_pos ⟨by omega, z.2⟩]
        · rw [if_neg z, if_neg (fun y => z ⟨by omega, y.2⟩)]
theorem bp_s12 {S : Nat → Nat → Int32} {L : Nat → Nat → Int64} {x : Int64} {c : Nat} : ∀ n, bp_s S L x n 12 c = if c < n ∧ S 13 c = 0 then L 12 c - x else L 12 c
  | 0 => by rw [if_neg (by omega)]; rfl
  | n + 1 => by
    have ih := bp_s12 (S := S) (L := L) (x := x) (c := c) n
    simp only [bp_s]
    by_cases q : S 13 n = 0
    · rw [if_pos q, va_up_self]
      by_cases e : c = n
      · subst e; rw [pk_uLs, ih, if_neg (fun z => absurd z.1 (by omega)), if_pos ⟨by omega, q⟩]
      · rw [pk_uLn e, ih]
        by_cases z : c < n ∧ S 13 c = 0
        · rw [if_pos z, if_pos ⟨by omega, z.2⟩]
        · rw [if_neg z, if_neg (fun y => z ⟨by omega, y.2⟩)]
    · rw [if_neg q, va_up_ne _ _ (by decide), va_up_ne _ _ (by decide), ih]
      by_cases e : c = n
      · subst e; rw [if_neg (fun z => q z.2), if_neg (fun z => q z.2)]
      · by_cases z : c < n ∧ S 13 c = 0
        · rw [if_pos z, if_pos ⟨by omega, z.2⟩]
        · rw [if_neg z, if_neg (fun y => z ⟨by omega, y.2⟩)]
/-- the machine's numbers are the whole numbers a, u, v, p -/
def bp_R (S : Nat → Nat → Int32) (L : Nat → Nat → Int64) (n : Nat) (a : Nat → Nat → Int) (u v : Nat → Int) (p : Nat → Nat) : Prop :=
  (∀ i c, 1 ≤ i → i ≤ n → 1 ≤ c → c ≤ 20 → (L (14 + i) c).toInt = a i c) ∧ (∀ i, 1 ≤ i → i ≤ 8 → (L 8 i).toInt = u i) ∧ (∀ c, 1 ≤ c → c ≤ 20 → (L 9 c).toInt = v c) ∧ (∀ c, c ≤ 20 → S 10 c = nI (p c) ∧ p c ≤ 8)
def bp_I (n k : Nat) (a : Nat → Nat → Int) (S : Nat → Nat → Int32) (L : Nat → Nat → Int64) (step : Nat) (u v d : Nat → Int) (p way z : Nat → Nat) : Prop :=
  hu_M 20 k a u v p ∧ hu_Z 20 step a u v p way z ∧ hu_D 20 step a u v p way z d ∧ 0 ≤ u k ∧ bp_R S L n a u v p ∧ (0 < step → ∀ c, 1 ≤ c → c ≤ 20 → S 11 c = nI (way c)) ∧
  (step = 0 → ∀ c, 1 ≤ c → c ≤ 20 → d c = 4611686018427387904) ∧ (∀ c, 1 ≤ c → c ≤ 20 → (∀ i, i < step → z i ≠ c) → (L 12 c).toInt = d c) ∧ (∀ c, c ≤ 20 → (S 13 c = 0 ↔ ∀ i, i < step → z i ≠ c))
theorem bp_step {n k step : Nat} {a : Nat → Nat → Int} {u v d : Nat → Int} {p way z : Nat → Nat} {S S1 S2 : Nat → Nat → Int32} {L L2 L3 : Nat → Nat → Int64} {j : Nat} (hn : n ≤ 8) (hk : k ≤ n)
    (ha : ∀ i c, 1 ≤ i → i ≤ n → 1 ≤ c → c ≤ 20 → 0 ≤ a i c ∧ a i c ≤ 6525847399461442) (hI : bp_I n k a S L step u v d p way z) (hp : p (z step) ≠ 0)
    (e1 : S1 = va_up S 13 (upd (S 13) (z step) 1)) (e2 : S2 = va_up S1 11 (bp_w S1 L (p (z step)) (z step) 21)) (e3 : L2 = va_up L 12 (bp_d S1 L (p (z step)) 21)) (e4 : j = bp_n S2 L2 21) (e5 : L3 = bp_s S2 L2 (L2 12 j) 21) :
    1 ≤ j ∧ j ≤ 20 ∧ (∀ c, c ≤ 20 → ¬ S2 13 c = 0 → ∃ r, r < 9 ∧ S2 10 c = nI r) ∧ ∃ (u' v' d' : Nat → Int) (way' : Nat → Nat), bp_I n k a S2 L3 (step + 1) u' v' d' p way' (fun i => if i = step + 1 then j else z i) := by
  obtain ⟨hM, hZ, hD, huk, ⟨ra, ru, rv, rp⟩, hway, hd0, hd, hr⟩ := hI
  have hrow := fun t ht => hu_row hM hZ hp (t := t) ht
  have hrw := hrow step (Nat.le_refl _)
  have hzN := hZ.2.1
  obtain ⟨bu, bv⟩ := hu_small hM (show k ≤ 20 by omega) (fun i c i1 ik c1 cN => ha i c i1 (by omega) c1 cN) huk
  have s13 : ∀ c, c ≤ 20 → (S2 13 c = 0 ↔ ∀ i, i < step + 1 → z i ≠ c) := by
    intro c hc
    have e : S2 13 c = upd (S 13) (z step) 1 c := by rw [e2, va_up_ne _ _ (by decide), e1, va_up_self]
    rw [e]
    by_cases q : c = z step
    · subst q
      simp only [upd, if_true]
      exact ⟨fun h => absurd h (by decide), fun h => absurd rfl (h step (by omega))⟩
    · simp only [upd, if_neg q]
      rw [hr c hc]
      refine ⟨fun h i hi => ?_, fun h i hi => h i (by omega)⟩
      rcases Nat.lt_or_ge i step with x | x
      · exact h i x
      · have : i = step := by omega
        subst this
        exact fun y => q y.symm
  have s10 : S2 10 = S 10 := by rw [e2, va_up_ne _ _ (by decide), e1, va_up_ne _ _ (by decide)]
  have far : ∀ i c, 1 ≤ i → i ≤ k → 1 ≤ c → c ≤ 20 → -6525847399461442 ≤ a i c - u i - v c ∧ a i c - u i - v c ≤ 13051694798922884 := by
    intro i c i1 ik c1 cN
    have y1 := ha i c i1 (by omega) c1 cN
    have y2 := bu i i1 ik
    have y3 := bv c c1 cN
    omega
  have hfar : ∀ c, 1 ≤ c → c ≤ 20 → (bp_far L (p (z step)) c).toInt = a (p (z step)) c - u (p (z step)) - v c := by
    intro c c1 cN
    have x1 := ra _ c hrw.1 (by omega) c1 cN
    have x2 := ru _ hrw.1 (by omega)
    have x3 := rv c c1 cN
    have y1 := ha _ c hrw.1 (by omega) c1 cN
    have y2 := bu _ hrw.1 hrw.2
    have y3 := bv c c1 cN
    unfold bp_far
    have z1 : (L (14 + p (z step)) c - L 8 (p (z step))).toInt = a (p (z step)) c - u (p (z step)) := by rw [l_sub (by omega) (by omega), x1, x2]
    rw [l_sub (by omega) (by omega), z1, x3]
  have s1e : S1 13 = S2 13 := by rw [e2, va_up_ne _ _ (by decide)]
  have hU : ∀ c, 1 ≤ c → c ≤ 20 → (bp_u S1 L (p (z step)) 21 c = true ↔ (∀ i, i < step + 1 → z i ≠ c) ∧ a (p (z step)) c - u (p (z step)) - v c < d c) := by
    intro c c1 cN
    simp only [bp_u, Bool.and_eq_true, decide_eq_true_eq, s1e, s13 c cN, Int64.lt_iff_toInt_lt, hfar c c1 cN]
    constructor
    · rintro ⟨⟨-, q1⟩, q2⟩
      exact ⟨q1, by rw [hd c c1 cN (fun i hi => q1 i (by omega))] at q2; exact q2⟩
    · rintro ⟨q1, q2⟩
      exact ⟨⟨⟨c1, by omega⟩, q1⟩, by rw [hd c c1 cN (fun i hi => q1 i (by omega))]; exact q2⟩
  have hU0 : bp_u S1 L (p (z step)) 21 0 = false := by simp [bp_u]
  have hZ0 := hZ.1
  obtain ⟨hZ1, hD1⟩ := hu_measure (d1 := fun c => if bp_u S1 L (p (z step)) 21 c = true then a (p (z step)) c - u (p (z step)) - v c else d c) (way1 := fun c => if bp_u S1 L (p (z step)) 21 c = true then z step else way c) hZ hD
    (fun s0 c c1 cN => by have := hd0 s0 c c1 cN; have := far _ c hrw.1 hrw.2 c1 cN; omega)
    (fun c c1 cN hc hf => by
      have q := (hU c c1 cN).mpr ⟨fun i hi => hc i (by omega), hf⟩
      simp only [if_pos q]; exact ⟨trivial, trivial⟩)
    (fun c c1 cN hc hf => by
      have q : ¬ bp_u S1 L (p (z step)) 21 c = true := fun q => hf ((hU c c1 cN).mp q).2
      simp only [if_neg q]; exact ⟨trivial, trivial⟩)
    (fun i hi => by
      rcases Nat.eq_zero_or_pos (z i) with q | q
      · show (if bp_u S1 L (p (z step)) 21 (z i) = true then z step else way (z i)) = way (z i)
        rw [if_neg (by rw [q, hU0]; decide)]
      · show (if bp_u S1 L (p (z step)) 21 (z i) = true then z step else way (z i)) = way (z i)
        rw [if_neg (fun x => ((hU (z i) q (hzN i hi)).mp x).1 i (by omega) rfl)])
  have hL2 : ∀ c, 1 ≤ c → c ≤ 20 → (∀ i, i < step + 1 → z i ≠ c) → (L2 12 c).toInt = (fun c => if bp_u S1 L (p (z step)) 21 c = true then a (p (z step)) c - u (p (z step)) - v c else d c) c := by
    intro c c1 cN hc
    show (L2 12 c).toInt = (if bp_u S1 L (p (z step)) 21 c = true then a (p (z step)) c - u (p (z step)) - v c else d c)
    rw [e3, va_up_self]
    by_cases q : bp_u S1 L (p (z step)) 21 c = true
    · simp only [bp_d, if_pos q]; exact hfar c c1 cN
    · simp only [bp_d, if_neg q]; exact hd c c1 cN (fun i hi => hc i (by omega))
  have hW2 : ∀ c, 1 ≤ c → c ≤ 20 → S2 11 c = nI ((fun c => if bp_u S1 L (p (z step)) 21 c = true then z step else way c) c) := by
    intro c c1 cN
    show S2 11 c = nI (if bp_u S1 L (p (z step)) 21 c = true then z step else way c)
    rw [e2, va_up_self]
    by_cases q : bp_u S1 L (p (z step)) 21 c = true
    · simp only [bp_w, if_pos q]
    · simp only [bp_w, if_neg q]
      rw [e1, va_up_ne _ _ (by decide)]
      rcases Nat.eq_zero_or_pos step with s0 | s0
      · exfalso
        apply q
        rw [hU c c1 cN]
        refine ⟨fun i hi => ?_, ?_⟩
        · have : i = 0 := by omega
          rw [this, hZ0]; omega
        · have := hd0 s0 c c1 cN
          have := far _ c hrw.1 hrw.2 c1 cN
          omega
      · exact hway s0 c c1 cN
  generalize (fun c => if bp_u S1 L (p (z step)) 21 c = true then a (p (z step)) c - u (p (z step)) - v c else d c) = d1 at hD1 hL2
  generalize (fun c => if bp_u S1 L (p (z step)) 21 c = true then z step else way c) = way1 at hZ1 hD1 hW2
  have hd1 : ∀ c, 1 ≤ c → c ≤ 20 → (∀ i, i < step + 1 → z i ≠ c) → -6525847399461442 ≤ d1 c ∧ d1 c ≤ 13051694798922884 := by
    intro c c1 cN hc
    obtain ⟨jt, jt1, -, jt3⟩ := (hD1 c c1 cN hc).2 (by omega)
    have h1 := hrow jt (by omega)
    have h2 := far (p (z jt)) c h1.1 h1.2 c1 cN
    omega
  obtain ⟨c0, c01, c0N, hc0⟩ := hu_bare hM (show k ≤ 20 by omega)
  have hc0z : ∀ i, i < step + 1 → z i ≠ c0 := fun i hi e => by have := hrow i (by omega); rw [e] at this; omega
  have hspec := bp_n_spec (S := S2) (L := L2) 21
  rw [← e4] at hspec
  have hj0 : j ≠ 0 := fun q => hspec.1 q c0 c01 (by omega) ((s13 c0 c0N).mpr hc0z)
  obtain ⟨hj1, hj2, hj3⟩ := hspec.2 hj0
  have hjz : ∀ i, i < step + 1 → z i ≠ j := (s13 j (by omega)).mp hj2
  have hxw : (L2 12 j).toInt = d1 j := hL2 j (by omega) (by omega) hjz
  have hwb := hd1 j (by omega) (by omega) hjz
  have l28 : L2 8 = L 8 := by rw [e3, va_up_ne _ _ (by decide)]
  have l29 : L2 9 = L 9 := by rw [e3, va_up_ne _ _ (by decide)]
  have hcl : ∀ c, c ≤ 20 → (S2 10 c).toNatClampNeg = p c := by
    intro c hc
    rw [s10, (rp c hc).1]
    exact nI_clamp (by have := (rp c hc).2; omega)
  have hreach : ∀ c, c ≤ 20 → ¬ S2 13 c = 0 → ∃ t, t < step + 1 ∧ z t = c := by
    intro c hc hn
    rw [s13 c hc] at hn
    by_cases q : ∃ t, t < step + 1 ∧ z t = c
    · exact q
    · exact absurd (fun i hi e => q ⟨i, hi, e⟩) hn
  have hnr : ∀ t, t ≤ step → ¬ S2 13 (z t) = 0 := fun t ht q => (s13 (z t) (hzN t ht)).mp q t (by omega) rfl
  have l38y : ∀ t, t ≤ step → (L3 8 (p (z t))).toInt = u (p (z t)) + d1 j := by
    intro t ht
    have h1 := hrow t ht
    rw [e5, bp_s8_yes (c0 := z t) (hnr t ht) (hcl _ (hzN t ht)) 21 (by have := hzN t ht; omega) (fun c hc hn e => by
      rw [hcl c (by omega)] at e
      exact hM.2.2.2.1 c (z t) (by omega) (hzN t ht) e (by omega)), l28]
    have h2 := bu _ h1.1 h1.2
    have h3 := ru _ h1.1 (by omega)
    rw [l_add (by omega) (by omega), h3, hxw]
  have l38n : ∀ i, (∀ t, t ≤ step → p (z t) ≠ i) → L3 8 i = L 8 i := by
    intro i hi
    rw [e5, bp_s8_no 21 (fun c hc hn e => by
      obtain ⟨t, ht, rfl⟩ := hreach c (by omega) hn
      rw [hcl _ (by omega)] at e
      exact hi t (by omega) e), l28]
  have l39y : ∀ t, t ≤ step → 1 ≤ z t → (L3 9 (z t)).toInt = v (z t) - d1 j := by
    intro t ht h1
    have hN := hzN t ht
    rw [e5, bp_s9, if_pos ⟨by omega, hnr t ht⟩, l29]
    have h2 := bv _ h1 hN
    have h3 := rv _ h1 hN
    rw [l_sub (by omega) (by omega), h3, hxw]
  have l39n : ∀ c, c ≤ 20 → (∀ t, t ≤ step → z t ≠ c) → L3 9 c = L 9 c := by
    intro c cN hc
    rw [e5, bp_s9, if_neg (fun q => q.2 ((s13 c cN).mpr (fun i hi => hc i (by omega)))), l29]
  have l312 : ∀ c, 1 ≤ c → c ≤ 20 → (∀ t, t ≤ step → z t ≠ c) → (L3 12 c).toInt = d1 c - d1 j := by
    intro c c1 cN hc
    have hc' : ∀ i, i < step + 1 → z i ≠ c := fun i hi => hc i (by omega)
    rw [e5, bp_s12, if_pos ⟨by omega, (s13 c cN).mpr hc'⟩]
    have h2 := hd1 c c1 cN hc'
    have h3 := hL2 c c1 cN hc'
    rw [l_sub (by omega) (by omega), h3, hxw]
  have hsh := hu_shift (u' := fun i => if 1 ≤ i ∧ i ≤ 8 then (L3 8 i).toInt else u i) (v' := fun c => if 1 ≤ c ∧ c ≤ 20 then (L3 9 c).toInt else if c = 0 then v 0 - d1 j else v c) (d' := fun c => (L3 12 c).toInt) hM hZ1 hp hD1 (by omega) (by omega) (fun i hi => hjz i (by omega)) rfl
    (fun c c1 cN hc => by
      have h1 := hj3 c c1 (by omega) ((s13 c cN).mpr (fun i hi => hc i (by omega)))
      rw [hxw, hL2 c c1 cN (fun i hi => hc i (by omega))] at h1
      exact h1)
    (fun t ht => by
      have h1 := hrow t ht
      show (if 1 ≤ p (z t) ∧ p (z t) ≤ 8 then (L3 8 (p (z t))).toInt else u (p (z t))) = _
      rw [if_pos ⟨h1.1, by omega⟩]; exact l38y t ht)
    (fun i hi => by
      show (if 1 ≤ i ∧ i ≤ 8 then (L3 8 i).toInt else u i) = u i
      by_cases q : 1 ≤ i ∧ i ≤ 8
      · rw [if_pos q, l38n i hi]; exact ru i q.1 q.2
      · rw [if_neg q])
    (fun t ht => by
      show (if 1 ≤ z t ∧ z t ≤ 20 then (L3 9 (z t)).toInt else if z t = 0 then v 0 - d1 j else v (z t)) = _
      rcases Nat.eq_zero_or_pos (z t) with q | q
      · rw [if_neg (by omega), if_pos q, q]
      · rw [if_pos ⟨q, hzN t ht⟩]; exact l39y t ht q)
    (fun c cN hc => by
      show (if 1 ≤ c ∧ c ≤ 20 then (L3 9 c).toInt else if c = 0 then v 0 - d1 j else v c) = v c
      rcases Nat.eq_zero_or_pos c with q | q
      · exact absurd (by rw [hZ0, q]) (hc 0 (by omega))
      · rw [if_pos ⟨q, cN⟩, l39n c cN hc]; exact rv c q cN)
    (fun c c1 cN hc => l312 c c1 cN hc)
  obtain ⟨hw0, hM', hZ', hD'⟩ := hsh
  have hz' : ∀ i, i < step + 1 → (if i = step + 1 then j else z i) = z i := fun i hi => if_neg (by omega)
  refine ⟨by omega, by omega, fun c hc hn => ⟨p c, by have := (rp c hc).2; omega, by rw [s10]; exact (rp c hc).1⟩, _, _, _, way1, hM', hZ', hD', ?_, ⟨?_, ?_, ?_, ?_⟩, fun _ => hW2, fun q => by omega, fun c c1 cN hc => rfl, fun c hc => ?_⟩
  · show 0 ≤ (if 1 ≤ k ∧ k ≤ 8 then (L3 8 k).toInt else u k)
    have hk1 := hM.2.1
    rw [if_pos ⟨hk1, by omega⟩]
    have h0 := l38y 0 (by omega)
    rw [hZ0, hM.1] at h0
    omega
  · intro i c i1 ik c1 cN
    rw [e5, bp_s_out (by omega) (by omega) (by omega), e3, va_up_ne _ _ (by omega)]
    exact ra i c i1 ik c1 cN
  · intro i i1 i8
    show _ = (if 1 ≤ i ∧ i ≤ 8 then (L3 8 i).toInt else u i)
    rw [if_pos ⟨i1, i8⟩]
  · intro c c1 cN
    show _ = (if 1 ≤ c ∧ c ≤ 20 then (L3 9 c).toInt else if c = 0 then v 0 - d1 j else v c)
    rw [if_pos ⟨c1, cN⟩]
  · intro c hc
    rw [s10]; exact rp c hc
  · rw [s13 c hc]
    refine ⟨fun h i hi => ?_, fun h i hi => ?_⟩
    · show (if i = step + 1 then j else z i) ≠ c
      rw [hz' i hi]; exact h i hi
    · have h9 : (if i = step + 1 then j else z i) ≠ c := h i hi
      rw [hz' i hi] at h9; exact h9
def bp_fS (S T : Nat → Nat → Int32) : Prop := ∀ r, r ≠ 10 → r ≠ 11 → r ≠ 13 → T r = S r
def bp_fL (L M : Nat → Nat → Int64) : Prop := ∀ r, r ≠ 8 → r ≠ 9 → r ≠ 12 → M r = L r
theorem bp_fS.up {S T : Nat → Nat → Int32} (h : bp_fS S T) {r : Nat} (hr : r = 10 ∨ r = 11 ∨ r = 13) (row : Nat → Int32) : bp_fS S (va_up T r row) := fun q h1 h2 h3 => by rw [va_up_ne _ _ (by omega)]; exact h q h1 h2 h3
theorem bp_fL.up {L M : Nat → Nat → Int64} (h : bp_fL L M) {r : Nat} (hr : r = 8 ∨ r = 9 ∨ r = 12) (row : Nat → Int64) : bp_fL L (va_up M r row) := fun q h1 h2 h3 => by rw [va_up_ne _ _ (by omega)]; exact h q h1 h2 h3
theorem bp_fL.s {S : Nat → Nat → Int32} {L M : Nat → Nat → Int64} (h : bp_fL L M) (x : Int64) (n : Nat) : bp_fL L (bp_s S M x n) := fun q h1 h2 h3 => by rw [bp_s_out h1 h2 h3]; exact h q h1 h2 h3
theorem bp_fS.tr {S T U : Nat → Nat → Int32} (h : bp_fS S T) (h2 : bp_fS T U) : bp_fS S U := fun q a b c => (h2 q a b c).trans (h q a b c)
theorem bp_fL.tr {S T U : Nat → Nat → Int64} (h : bp_fL S T) (h2 : bp_fL T U) : bp_fL S U := fun q a b c => (h2 q a b c).trans (h q a b c)
/-- row k gets its column: what is there before the search -/
theorem bp_start {n k : Nat} {a : Nat → Nat → Int} {u v : Nat → Int} {p : Nat → Nat} {S T : Nat → Nat → Int32} {L M : Nat → Nat → Int64} (hn : n ≤ 8) (hk : k + 1 ≤ n) (ha : ∀ i c, 1 ≤ i → i ≤ n → 1 ≤ c → c ≤ 20 → 0 ≤ a i c ∧ a i c ≤ 6525847399461442)
    (hR : bp_R S L n a u v p) (hG : hu_G 20 k a u v p) (hT : ∀ r, r ≠ 13 → T r = S r) (hT13 : ∀ c, c < 21 → T 13 c = 0) (hM : ∀ r, r ≠ 12 → M r = L r) (hM12 : ∀ c, c < 21 → M 12 c = 4611686018427387904) :
    bp_I n (k + 1) a (va_up T 10 (upd (T 10) 0 (nI (k + 1)))) M 0 u v (fun _ => 4611686018427387904) (fun c => if c = 0 then k + 1 else p c) (fun _ => 0) (fun _ => 0) := by
  obtain ⟨ra, ru, rv, rp⟩ := hR
  refine ⟨hu_G_next hG (fun c c1 cN => (ha (k + 1) c (by omega) (by omega) c1 cN).1) rfl (fun c c1 cN => by show (if c = 0 then k + 1 else p c) = p c; rw [if_neg (by omega)]), ⟨rfl, fun i _ => Nat.zero_le _, fun i j hi hj _ => by omega, fun i hi => by omega, fun i h1 h2 => by omega⟩, fun c c1 cN _ => ⟨fun i hi => by omega, fun h => by omega⟩, ?_, ⟨?_, ?_, ?_, ?_⟩, fun h => by omega, fun _ c _ _ => rfl, fun c c1 cN _ => ?_, fun c hc => ?_⟩
  · rw [hG.2.2.2.2.2.2.2 (k + 1) (by omega)]; exact Int.le_refl 0
  · intro i c i1 ik c1 cN
    rw [hM _ (by omega)]; exact ra i c i1 ik c1 cN
  · intro i i1 i8
    rw [hM _ (by omega)]; exact ru i i1 i8
  · intro c c1 cN
    rw [hM _ (by omega)]; exact rv c c1 cN
  · intro c hc
    rw [va_up_self]
    by_cases e : c = 0
    · subst e; simp only [upd, if_true]; exact ⟨trivial, by omega⟩
    · simp only [upd, if_neg e]; rw [hT _ (by omega)]; exact rp c hc
  · rw [hM12 c (by omega)]; exact (show Int64.toInt 4611686018427387904 = 4611686018427387904 by decide)
  · rw [va_up_ne _ _ (by decide), hT13 c (by omega)]
    exact ⟨fun _ i hi => by omega, fun _ => rfl⟩
