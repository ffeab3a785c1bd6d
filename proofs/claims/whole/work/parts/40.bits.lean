/-! BITS of an int. -/
def bt (x : Int32) (k : Nat) : Bool := x.toBitVec.getLsbD k
theorem bt_sm : ∀ k, k < 32 → (nI k &&& 31).toBitVec.smod 32 = BitVec.ofNat 32 k := by decide +kernel
theorem bt_and1 (y : Int32) : y &&& 1 = nI (if bt y 0 = true then 1 else 0) := by
  rw [pk_and y 1 (by decide)]
  unfold bt
  rw [BitVec.getLsbD, Nat.testBit_zero]
  congr 1
  simp only [decide_eq_true_eq]
  split <;> omega
theorem bt_shr (x : Int32) {k : Nat} (hk : k < 32) : bt (x >>> (nI k &&& 31)) 0 = bt x k := by
  unfold bt
  rw [Int32.toBitVec_shiftRight, BitVec.sshiftRight_eq', bt_sm k hk]
  rw [BitVec.getLsbD_sshiftRight]
  simp [hk]
  rw [Nat.mod_eq_of_lt (by omega), if_pos hk, BitVec.getLsbD_eq_getElem hk]
theorem bt_is (x : Int32) {k : Nat} (hk : k < 32) : (x >>> (nI k &&& 31)) &&& 1 = nI (if bt x k = true then 1 else 0) := by
  rw [bt_and1, bt_shr x hk]
theorem bt_0 (x : Int32) {k : Nat} (hk : k < 32) : (x >>> (nI k &&& 31)) &&& 1 = 0 ↔ bt x k = false := by
  rw [bt_is x hk]
  cases bt x k <;> decide
theorem bt_1 (x : Int32) {k : Nat} (hk : k < 32) : (x >>> (nI k &&& 31)) &&& 1 = 1 ↔ bt x k = true := by
  rw [bt_is x hk]
  cases bt x k <;> decide
theorem bt_or (x y : Int32) (k : Nat) : bt (x ||| y) k = (bt x k || bt y k) := by
  unfold bt
  rw [Int32.toBitVec_or, BitVec.getLsbD_or]
theorem bt_and (x y : Int32) (k : Nat) : bt (x &&& y) k = (bt x k && bt y k) := by
  unfold bt
  rw [Int32.toBitVec_and, BitVec.getLsbD_and]
theorem bt_one : ∀ j, j < 32 → ∀ k, k < 32 → bt ((1 : Int32) <<< (nI j &&& 31)) k = decide (k = j) := by decide +kernel
theorem bt_not (x : Int32) {k : Nat} (hk : k < 32) : bt (x ^^^ (-1)) k = !bt x k := by
  unfold bt
  rw [Int32.toBitVec_xor, BitVec.getLsbD_xor]
  have e : (-1 : Int32).toBitVec.getLsbD k = true := by
    have h : ∀ k, k < 32 → (-1 : Int32).toBitVec.getLsbD k = true := by decide +kernel
    exact h k hk
  rw [e]
  simp
theorem bt_zero (k : Nat) : bt 0 k = false := by
  unfold bt
  rw [show (0 : Int32).toBitVec = 0#32 from rfl]
  simp
theorem bt_ext {x y : Int32} (h : ∀ k, k < 32 → bt x k = bt y k) : x = y := by
  apply Int32.toBitVec_inj.mp
  apply BitVec.eq_of_getLsbD_eq
  intro i hi
  exact h i hi
theorem bt_eq0 {x : Int32} : x = 0 ↔ ∀ k, k < 32 → bt x k = false := by
  constructor
  · intro h k _; rw [h]; exact bt_zero k
  · intro h; exact bt_ext (fun k hk => by rw [h k hk, bt_zero])
/-- kinds: one more kind fits -/
theorem bt_kinds {a q : Int32} {j : Nat} (hj : j < 32) : (a ||| ((1 : Int32) <<< (nI j &&& 31))) &&& (q ^^^ (-1)) = 0 ↔ a &&& (q ^^^ (-1)) = 0 ∧ bt q j = true := by
  rw [bt_eq0, bt_eq0]
  constructor
  · intro h
    refine ⟨fun k hk => ?_, ?_⟩
    · have := h k hk
      rw [bt_and, bt_or, bt_not q hk] at this
      rw [bt_and, bt_not q hk]
      cases h1 : bt a k <;> cases h2 : bt q k <;> simp_all
    · have := h j hj
      rw [bt_and, bt_or, bt_not q hj, bt_one j hj j hj] at this
      cases h2 : bt q j <;> simp_all
  · intro h k hk
    have := h.1 k hk
    rw [bt_and, bt_not q hk] at this
    rw [bt_and, bt_or, bt_not q hk, bt_one j hj k hk]
    by_cases e : k = j
    · subst e; simp_all
    · cases h1 : bt a k <;> cases h2 : bt q k <;> simp_all
