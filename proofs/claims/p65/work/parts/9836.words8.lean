/-! PROPERTY: a text is appended word by word -/
theorem ap_st (m : MM) (v : Int64) : ∀ (k t n : Nat) (h : MM), k ≤ 8 → k < n → t + k ≤ 900 → gi h 0 1 = I t → (∀ j : Nat, j < k → cB v j ≠ 0) → ∃ (r : Int32) (h' : MM), D_X9_append_48 m n v (X8 k) h = some (r, h') ∧ gi h' 0 1 = I (t + k) ∧ (∀ i : Nat, i < k → gi h' 5 (t + i) = b8 (cB v (k - 1 - i))) ∧ ∀ q j : Nat, ¬ (q = 0 ∧ j = 1) → ¬ (q = 5 ∧ t ≤ j) → gi h' q j = gi h q j := by
  intro k
  induction k with
  | zero =>
    intro t n h hk hn ht e1 hz
    obtain ⟨n, rfl⟩ : ∃ n0 : Nat, n = n0 + 1 := ⟨n - 1, by omega⟩
    unfold D_X9_append_48
    rw [if_pos X8_0, e1]
    exact ⟨_, h, rfl, e1, fun i hi => by omega, fun _ _ _ _ => rfl⟩
  | succ k ih =>
    intro t n h hk hn ht e1 hz
    obtain ⟨n, rfl⟩ : ∃ n0 : Nat, n = n0 + 1 := ⟨n - 1, by omega⟩
    have hc := cB_lt v k
    have c := hz k (by omega)
    unfold D_X9_append_48
    rw [X8_s k (by omega), if_neg (I_nneg (by omega)), sB_c v (by omega), bnd_s, if_neg (fun z => c ((by_z _ hc).mp z)), e1, if_neg (show ¬ (900 : Int32) ≤ I t from leF (a := 900) (by omega) (by decide)), gdI (by omega) (by omega), I_tnc (by omega), vp_nar_byte, by_n _ hc]
    repeat rw [bnd_s]
    rw [gi_si_ne (m := h) (by omega), e1, ixs1]
    obtain ⟨r, h', r1, r2, r3, r4⟩ := ih (t + 1) n (si (si h 5 t (Int8.ofNat (cB v k)).toInt32) 0 1 (I (t + 1))) (by omega) (by omega) (by omega) (gi_si_eq _ _ _ _) (fun j hj => hz j (by omega))
    refine ⟨r, h', r1, by rw [r2]; congr 1; omega, fun i hi => ?_, fun q j a b => by rw [r4 q j a (by omega), gi_si_ne (by omega), gi_si_ne (by omega)]⟩
    by_cases e : i = 0
    · subst e
      rw [r4 5 (t + 0) (by omega) (by omega), gi_si_ne (by omega), show t + 0 = t by omega, gi_si_eq, show k + 1 - 1 - 0 = k by omega]
      rfl
    · have := r3 (i - 1) (by omega)
      rw [show t + 1 + (i - 1) = t + i by omega, show k - 1 - (i - 1) = k + 1 - 1 - i by omega] at this
      exact this
theorem ap_sk (m : MM) (v : Int64) (k : Nat) : ∀ (d n : Nat) (h : MM), k + d ≤ 8 → (∀ j : Nat, k ≤ j → j < k + d → cB v j = 0) → D_X9_append_48 m (n + d) v (X8 (k + d)) h = D_X9_append_48 m n v (X8 k) h := by
  intro d
  induction d with
  | zero => intro n h _ _; rfl
  | succ d ih =>
    intro n h hk hz
    have c := hz (k + d) (by omega) (by omega)
    rw [show n + (d + 1) = n + d + 1 by omega, show k + (d + 1) = k + d + 1 by omega]
    conv => lhs; unfold D_X9_append_48
    rw [X8_s (k + d) (by omega), if_neg (I_nneg (by omega)), sB_c v (by omega), bnd_s, if_pos ((by_z _ (cB_lt v _)).mpr c)]
    repeat rw [bnd_s]
    exact ih n h (by omega) (fun j h1 h2 => hz j h1 (by omega))
theorem nz8_all {v : Int64} : ∀ k : Nat, (∀ j : Nat, j < k → cB v j ≠ 0) → nz8 v k = k := by
  intro k
  induction k with
  | zero => intro _; rfl
  | succ k ih =>
    intro hz
    rw [nz8_1 (hz k (by omega)), ih (fun j hj => hz j (by omega))]
theorem nz8_some {v : Int64} {k : Nat} (hk : nz8 v k = k) : ∀ d : Nat, (∀ j : Nat, k ≤ j → j < k + d → cB v j = 0) → nz8 v (k + d) = k := by
  intro d
  induction d with
  | zero => intro _; exact hk
  | succ d ih =>
    intro hz
    rw [show k + (d + 1) = k + d + 1 by omega, nz8_0 (hz (k + d) (by omega) (by omega))]
    exact ih (fun j h1 h2 => hz j h1 (by omega))
/-- the number of a word: c letters from a on -/
def WN (T : Nat → Nat) (a : Nat) : Nat → Nat
  | 0 => 0
  | c + 1 => WN T a c * 256 + T (a + c)
theorem WN_lt {T : Nat → Nat} {a : Nat} : ∀ c : Nat, (∀ i : Nat, i < c → T (a + i) < 256) → WN T a c < 256 ^ c := by
  intro c
  induction c with
  | zero =>
    intro _
    show 0 < 256 ^ 0
    decide
  | succ c ih =>
    intro h
    have h1 := ih (fun i hi => h i (by omega))
    have h2 := h c (by omega)
    show WN T a c * 256 + T (a + c) < 256 ^ (c + 1)
    rw [Nat.pow_succ]
    omega
theorem WN_by {T : Nat → Nat} {a : Nat} : ∀ c : Nat, (∀ i : Nat, i < c → T (a + i) < 256) → ∀ j : Nat, j < c → WN T a c / 256 ^ j % 256 = T (a + (c - 1 - j)) := by
  intro c
  induction c with
  | zero => intro _ j hj; omega
  | succ c ih =>
    intro h j hj
    have h2 := h c (by omega)
    show (WN T a c * 256 + T (a + c)) / 256 ^ j % 256 = _
    cases j with
    | zero =>
      rw [Nat.pow_zero, Nat.div_one, show c + 1 - 1 - 0 = c by omega]
      omega
    | succ j =>
      rw [Nat.pow_succ, Nat.mul_comm (256 ^ j) 256, ← Nat.div_div_eq_div_mul, show (WN T a c * 256 + T (a + c)) / 256 = WN T a c by omega, ih (fun i hi => h i (by omega)) j (by omega)]
      congr 2
      omega
theorem p256 (j : Nat) : 2 ^ (8 * j) = 256 ^ j := by
  rw [Nat.pow_mul]
/-- a word is appended -/
theorem app_w (m h : MM) {T : Nat → Nat} {a c t : Nat} (h0 : 0 < c) (h8 : c ≤ 8) (hT : ∀ i : Nat, i < c → 1 ≤ T (a + i) ∧ T (a + i) ≤ 255) {v : Int64} (hv : nN v = WN T a c) (e1 : gi h 0 1 = I t) (ht : t + c ≤ 900) : ∃ (r : Int32) (h' : MM), D_X9_append v h m = some (r, h') ∧ gi h' 0 1 = I (t + c) ∧ (∀ i : Nat, i < c → gi h' 5 (t + i) = b8 (T (a + i))) ∧ ∀ q j : Nat, ¬ (q = 0 ∧ j = 1) → ¬ (q = 5 ∧ t ≤ j) → gi h' q j = gi h q j := by
  have hlt : ∀ i : Nat, i < c → T (a + i) < 256 := fun i hi => by have := hT i hi; omega
  have hb : ∀ j : Nat, j < c → cB v j = T (a + (c - 1 - j)) := fun j hj => by
    unfold cB
    rw [hv, p256, WN_by c hlt j hj]
  have hz : ∀ j : Nat, c ≤ j → cB v j = 0 := fun j hj => by
    unfold cB
    rw [hv, p256, Nat.div_eq_of_lt (Nat.lt_of_lt_of_le (WN_lt c hlt) (Nat.pow_le_pow_right (by decide) hj))]
  have hn : ∀ j : Nat, j < c → cB v j ≠ 0 := fun j hj => by
    have := hT (c - 1 - j) (by omega)
    rw [hb j hj]
    omega
  have n8 : nz8 v 8 = c := by
    have := nz8_some (v := v) (nz8_all c hn) (8 - c) (fun j h1 _ => hz j h1)
    rw [show c + (8 - c) = 8 by omega] at this
    exact this
  have c1 := cn_m m h v 8 0 FU (Nat.le_refl _) (by decide)
  have c1 : D_X9_append_6 m FU v (0 : Int32) (56 : Int32) h = _ := c1
  unfold D_X9_append
  rw [c1, e1, Nat.zero_add, I_add, n8, if_pos (show I (t + c) ≤ (900 : Int32) from leT (b := 900) ht (by decide))]
  obtain ⟨r, h', r1, r2, r3, r4⟩ := ap_st m v c t (FU - (8 - c)) h h8 (show c < 5000 - (8 - c) by omega) ht e1 hn
  have sk := ap_sk m v c (8 - c) (FU - (8 - c)) h (by omega) (fun j h1 _ => hz j h1)
  rw [show c + (8 - c) = 8 by omega, show FU - (8 - c) + (8 - c) = FU from (show 5000 - (8 - c) + (8 - c) = 5000 by omega)] at sk
  have sk : D_X9_append_48 m FU v (56 : Int32) h = _ := sk
  rw [sk]
  exact ⟨r, h', r1, r2, fun i hi => by rw [r3 i hi, hb _ (by omega)]; congr 2; omega, r4⟩
/-- a letter more -/
theorem word_up {x : Int64} {c : Nat} (hx : nN x < 72057594037927936) (hc : c < 256) : nN ((x <<< ((8 : Int32).toInt64 &&& 63)) ||| (I c).toInt64) = nN x * 256 + c := by
  have e1 : nN (x <<< ((8 : Int32).toInt64 &&& 63)) = nN x * 256 := by
    have : ((8 : Int32).toInt64 &&& 63) = (8 : Int64) := by decide
    rw [this]
    show (x <<< (8 : Int64)).toBitVec.toNat = _
    rw [Int64.toBitVec_shiftLeft]
    have : (Int64.toBitVec 8).smod 64 = (8 : BitVec 64) := by decide
    rw [this]
    show (x.toBitVec <<< (8 : Nat)).toNat = _
    rw [BitVec.toNat_shiftLeft, Nat.shiftLeft_eq]
    show nN x * 2 ^ 8 % 2 ^ 64 = nN x * 256
    omega
  have e2 : nN ((I c).toInt64) = c := by
    show ((I c).toInt64).toBitVec.toNat = c
    rw [Int32.toBitVec_toInt64]
    have h1 : (I c).toBitVec.toNat = c := by
      show (BitVec.ofNat 32 c).toNat = c
      rw [BitVec.toNat_ofNat]
      omega
    have h2 : (I c).toBitVec.msb = false := by
      rw [BitVec.msb_eq_false_iff_two_mul_lt, h1]
      omega
    rw [BitVec.signExtend_eq_setWidth_of_msb_false h2, BitVec.toNat_setWidth, h1]
    omega
  show ((x <<< ((8 : Int32).toInt64 &&& 63)) ||| (I c).toInt64).toBitVec.toNat = _
  rw [Int64.toBitVec_or, BitVec.toNat_or]
  show nN (x <<< ((8 : Int32).toInt64 &&& 63)) ||| nN ((I c).toInt64) = _
  rw [e1, e2, show nN x * 256 = 2 ^ 8 * nN x by omega, Nat.two_pow_add_eq_or_of_lt (b := c) (by omega) (nN x) |>.symm]
