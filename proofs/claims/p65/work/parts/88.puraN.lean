/-! PURE: bytes that are appended -/
theorem by_c (y : Int64) : (y.toInt32).toInt8 = Int8.ofNat (nN y % 256) := by
  apply Int8.toBitVec_inj.mp
  apply BitVec.eq_of_toNat_eq
  rw [Int32.toBitVec_toInt8, Int64.toBitVec_toInt32, BitVec.signExtend_eq_setWidth_of_le _ (by decide), BitVec.signExtend_eq_setWidth_of_le _ (by decide), BitVec.toNat_setWidth, BitVec.toNat_setWidth]
  show nN y % 2 ^ 32 % 2 ^ 8 = (BitVec.ofNat 8 (nN y % 256)).toNat
  rw [BitVec.toNat_ofNat]
  omega
theorem nN_255 (y : Int64) : nN (y &&& (255 : Int64)) = nN y % 256 := by
  rw [nN_and, show nN (255 : Int64) = 2 ^ 8 - 1 by decide, Nat.and_two_pow_sub_one_eq_mod]
theorem by_x (y : Int64) : (y &&& (255 : Int64)).toInt32 = I (nN y % 256) := by
  apply Int32.toBitVec_inj.mp
  apply BitVec.eq_of_toNat_eq
  rw [Int64.toBitVec_toInt32, BitVec.signExtend_eq_setWidth_of_le _ (by decide), BitVec.toNat_setWidth]
  show nN (y &&& (255 : Int64)) % 2 ^ 32 = (BitVec.ofNat 32 (nN y % 256)).toNat
  rw [nN_255, BitVec.toNat_ofNat]
theorem by_0 (y : Int64) : (y &&& (255 : Int64)) = 0 ↔ nN y % 256 = 0 := by
  constructor
  · intro z
    rw [← nN_255, z]
    rfl
  · intro z
    rw [← nN_255] at z
    exact Int64.toBitVec_inj.mp (BitVec.eq_of_toNat_eq z)
theorem by_z : ∀ c : Nat, c < 256 → ((Int8.ofNat c).toInt32 = (0 : Int32) ↔ c = 0) := by decide +kernel
theorem by_n : ∀ c : Nat, c < 256 → ((Int8.ofNat c).toInt32).toInt8.toInt32 = (Int8.ofNat c).toInt32 := by decide +kernel
def cB (x : Int64) (j : Nat) : Nat := nN x / 2 ^ (8 * j) % 256
theorem sh8 : ∀ j : Nat, j < 8 → ((I (8 * j)).toInt64.toUInt64 &&& Int64.toUInt64 63).toNat % 64 = 8 * j := by decide +kernel
theorem sB_c (x : Int64) {j : Nat} (hj : j < 8) : (((x.toUInt64 >>> ((I (8 * j)).toInt64.toUInt64 &&& Int64.toUInt64 63)).toInt64).toInt32).toInt8.toInt32 = (Int8.ofNat (cB x j)).toInt32 := by
  rw [by_c, nN_shr x _ (8 * j) (sh8 j hj)]
  rfl
theorem sB_x (x : Int64) {j : Nat} (hj : j < 8) : (((x.toUInt64 >>> ((I (8 * j)).toInt64.toUInt64 &&& Int64.toUInt64 63)).toInt64) &&& (255 : Int64)).toInt32 = I (cB x j) := by
  rw [by_x, nN_shr x _ (8 * j) (sh8 j hj)]
  rfl
theorem sB_0 (x : Int64) {j : Nat} (hj : j < 8) : ((((x.toUInt64 >>> ((I (8 * j)).toInt64.toUInt64 &&& Int64.toUInt64 63)).toInt64) &&& (255 : Int64)) = 0) ↔ cB x j = 0 := by
  rw [by_0, nN_shr x _ (8 * j) (sh8 j hj)]
  exact Iff.rfl
theorem cB_lt (x : Int64) (j : Nat) : cB x j < 256 := Nat.mod_lt _ (by decide)
def nz8 (x : Int64) : Nat → Nat
  | 0 => 0
  | k + 1 => nz8 x k + (if cB x k = 0 then 0 else 1)
theorem nz8_0 {x : Int64} {k : Nat} (c : cB x k = 0) : nz8 x (k + 1) = nz8 x k := by
  show nz8 x k + (if cB x k = 0 then 0 else 1) = nz8 x k
  rw [if_pos c, Nat.add_zero]
theorem nz8_1 {x : Int64} {k : Nat} (c : ¬ cB x k = 0) : nz8 x (k + 1) = nz8 x k + 1 := by
  show nz8 x k + (if cB x k = 0 then 0 else 1) = nz8 x k + 1
  rw [if_neg c]
theorem nz8_le (x : Int64) : ∀ k : Nat, nz8 x k ≤ k := by
  intro k
  induction k with
  | zero => exact Nat.le_refl _
  | succ k ih =>
    unfold nz8
    split <;> omega
/-- the place of the next byte, from the top -/
def X8 (k : Nat) : Int32 := I (8 * k) + (-8 : Int32)
theorem X8_s : ∀ k : Nat, k < 8 → X8 (k + 1) = I (8 * k) := by decide +kernel
theorem X8_0 : X8 0 < 0 := by decide
theorem cn_m (m h : MM) (x : Int64) : ∀ (k a n : Nat), k ≤ 8 → k < n → D_X9_append_6 m n x (I a) (X8 k) h = if gi h 0 1 + I (a + nz8 x k) ≤ (900 : Int32) then D_X9_append_48 m FU x (56 : Int32) h else some ((-2 : Int32), h) := by
  intro k
  induction k with
  | zero =>
    intro a n hk hn
    obtain ⟨n, rfl⟩ : ∃ n0 : Nat, n = n0 + 1 := ⟨n - 1, by omega⟩
    unfold D_X9_append_6
    rw [if_pos X8_0]
    rfl
  | succ k ih =>
    intro a n hk hn
    obtain ⟨n, rfl⟩ : ∃ n0 : Nat, n = n0 + 1 := ⟨n - 1, by omega⟩
    unfold D_X9_append_6
    rw [X8_s k (by omega), if_neg (I_nneg (by omega)), sB_c x (by omega), bnd_s, bnd_s, bnd_s]
    by_cases c : cB x k = 0
    · rw [if_pos ((by_z _ (cB_lt x k)).mpr c), nz8_0 c]
      exact ih a n (by omega) (by omega)
    · rw [if_neg (fun z => c ((by_z _ (cB_lt x k)).mp z)), nz8_1 c, ixs1, show a + (nz8 x k + 1) = a + 1 + nz8 x k by omega]
      exact ih (a + 1) n (by omega) (by omega)
theorem cn_x (x0 : MM) (x : Int64) : ∀ (k a n : Nat), k ≤ 8 → k < n → D_X10_append_11 n x (I a) (X8 k) x0 = if gi x0 0 8 + I (a + nz8 x k) ≤ (900 : Int32) then D_X10_append_62 FU x (56 : Int32) x0 else some ((-2 : Int32), x0) := by
  intro k
  induction k with
  | zero =>
    intro a n hk hn
    obtain ⟨n, rfl⟩ : ∃ n0 : Nat, n = n0 + 1 := ⟨n - 1, by omega⟩
    unfold D_X10_append_11
    rw [if_pos X8_0]
    rfl
  | succ k ih =>
    intro a n hk hn
    obtain ⟨n, rfl⟩ : ∃ n0 : Nat, n = n0 + 1 := ⟨n - 1, by omega⟩
    unfold D_X10_append_11
    rw [X8_s k (by omega), if_neg (I_nneg (by omega))]
    simp only [bnd_s]
    by_cases c : cB x k = 0
    · rw [if_pos ((sB_0 x (by omega)).mpr c), nz8_0 c, Int32.add_zero]
      exact ih a n (by omega) (by omega)
    · rw [if_neg (fun z => c ((sB_0 x (by omega)).mp z)), nz8_1 c, ixs1, show a + (nz8 x k + 1) = a + 1 + nz8 x k by omega]
      exact ih (a + 1) n (by omega) (by omega)
