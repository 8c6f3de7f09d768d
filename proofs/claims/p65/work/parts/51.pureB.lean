/-! PURE: longs as sets of places below 64 -/
def tb (x : Int64) (k : Nat) : Bool := x.toBitVec.getLsbD k
theorem tb_hi (x : Int64) {k : Nat} (h : 64 ≤ k) : tb x k = false := BitVec.getLsbD_of_ge x.toBitVec k h
theorem tb_and (a b : Int64) (k : Nat) : tb (a &&& b) k = (tb a k && tb b k) := by
  unfold tb
  rw [Int64.toBitVec_and, BitVec.getLsbD_and]
theorem tb_or (a b : Int64) (k : Nat) : tb (a ||| b) k = (tb a k || tb b k) := by
  unfold tb
  rw [Int64.toBitVec_or, BitVec.getLsbD_or]
theorem tb_zero (k : Nat) : tb 0 k = false := by
  show (0#64).getLsbD k = false
  rw [BitVec.getLsbD_zero]
theorem neg1_bv : (-1 : Int64).toBitVec = BitVec.allOnes 64 := by decide +kernel
theorem tb_not (a : Int64) {k : Nat} (h : k < 64) : tb (a ^^^ (-1 : Int64)) k = !tb a k := by
  unfold tb
  rw [Int64.toBitVec_xor, BitVec.getLsbD_xor, neg1_bv, BitVec.getLsbD_allOnes]
  simp [h]
theorem bit_bv : ∀ j : Nat, j < 64 → ((1 : Int64) <<< ((I j).toInt64 &&& 63)).toBitVec = BitVec.twoPow 64 j := by decide +kernel
theorem tb_bit {j : Nat} (hj : j < 64) (k : Nat) : tb ((1 : Int64) <<< ((I j).toInt64 &&& 63)) k = decide (k = j) := by
  unfold tb
  rw [bit_bv j hj, BitVec.getLsbD_twoPow]
  by_cases h : k = j
  · subst h; simp [hj]
  · have h2 : ¬ j = k := fun z => h z.symm
    simp [h, h2]
theorem tb_ext {a b : Int64} (h : ∀ k : Nat, k < 64 → tb a k = tb b k) : a = b := by
  apply Int64.toBitVec_inj.mp
  exact BitVec.eq_of_getLsbD_eq (fun k hk => h k hk)
theorem tb_eq0 {a : Int64} : a = 0 ↔ ∀ k : Nat, k < 64 → tb a k = false := ⟨fun h k _ => by rw [h, tb_zero], fun h => tb_ext (fun k hk => by rw [h k hk, tb_zero])⟩
/-- the test of one place -/
theorem bit_test (a : Int64) {j : Nat} (hj : j < 64) : (a &&& ((1 : Int64) <<< ((I j).toInt64 &&& 63))) = 0 ↔ tb a j = false := by
  rw [tb_eq0]
  constructor
  · intro h
    have h2 := h j hj
    rw [tb_and, tb_bit hj] at h2
    simpa using h2
  · intro h k hk
    rw [tb_and, tb_bit hj]
    by_cases hkj : k = j
    · subst hkj; rw [h]; rfl
    · simp [hkj]
theorem sh_bv : ∀ j : Nat, j < 64 → ((I j).toInt64 &&& 63).toBitVec.smod 64 = BitVec.ofNat 64 j := by decide +kernel
theorem tb_one (k : Nat) : tb 1 k = decide (k = 0) := by
  show (1#64).getLsbD k = decide (k = 0)
  rw [BitVec.getLsbD_one]
  by_cases h : k = 0 <;> simp [h]
theorem tb_shr (a : Int64) {j : Nat} (hj : j < 64) {k : Nat} (hk : j + k < 64) : tb (a >>> ((I j).toInt64 &&& 63)) k = tb a (j + k) := by
  unfold tb
  rw [Int64.toBitVec_shiftRight, sh_bv j hj, BitVec.sshiftRight_eq', BitVec.getLsbD_sshiftRight]
  have e : (BitVec.ofNat 64 j).toNat = j := by
    rw [BitVec.toNat_ofNat]
    exact Nat.mod_eq_of_lt (by omega)
  rw [e]
  have h1 : ¬ 64 ≤ k := by omega
  simp [h1, hk]
theorem tb_shl (a : Int64) {j : Nat} (hj : j < 64) (k : Nat) : tb (a <<< ((I j).toInt64 &&& 63)) k = (decide (k < 64) && !decide (k < j) && tb a (k - j)) := by
  unfold tb
  rw [Int64.toBitVec_shiftLeft, sh_bv j hj, BitVec.shiftLeft_eq', BitVec.getLsbD_shiftLeft]
  have e : (BitVec.ofNat 64 j).toNat = j := by
    rw [BitVec.toNat_ofNat]
    exact Nat.mod_eq_of_lt (by omega)
  rw [e]
/-- one bit, asked for as the reference asks -/
theorem bit_of (a : Int64) {j : Nat} (hj : j < 64) : ((a >>> ((I j).toInt64 &&& 63)) &&& 1) = if tb a j then 1 else 0 := by
  apply tb_ext
  intro k hk
  rw [tb_and, tb_one]
  by_cases h0 : k = 0
  · subst h0
    rw [tb_shr a hj (by omega)]
    cases h : tb a (j + 0) <;> simp at h <;> simp [h, tb_one, tb_zero]
  · have : decide (k = 0) = false := decide_eq_false h0
    rw [this, Bool.and_false]
    cases tb a j <;> simp [tb_one, tb_zero, h0]
