/-! PROPERTY: what adds up and what the spots tell, from what stays true -/
theorem time_sum {N : Nat → Nat} {w : Nat → Int32} (hI : Inv N 0 w) : 0 + w 38 + w 39 + w 40 + w 41 + w 42 + w 43 = w 23 := by
  rw [Int32.zero_add]
  exact hI.1
theorem done_sum {N : Nat → Nat} {w : Nat → Int32} (hI : Inv N 0 w) : ∃ S : Nat, S ≤ N 6 ∧ 0 + w 31 + w 32 + w 33 + w 34 + w 35 + w 36 = I S ∧ nL w = min 40 S := by
  obtain ⟨i1, ⟨D, i2, i3, i3'⟩, -⟩ := hI
  refine ⟨_, i3', ?_, i3⟩
  rw [Int32.zero_add, show w 31 = I (D 1) from i2 1 (by omega) (by omega), show w 32 = I (D 2) from i2 2 (by omega) (by omega), show w 33 = I (D 3) from i2 3 (by omega) (by omega), show w 34 = I (D 4) from i2 4 (by omega) (by omega), show w 35 = I (D 5) from i2 5 (by omega) (by omega), show w 36 = I (D 6) from i2 6 (by omega) (by omega)]
  simp only [I_add]
theorem free_sum {N : Nat → Nat} {w : Nat → Int32} (hI : Inv N 0 w) {t : Nat} (ht : t < nT w) : w (44 + t) = I (N t - nzC w t (nS w)) ∧ nzC w t (nS w) ≤ N t := by
  obtain ⟨i1, i2, i4, -⟩ := hI
  obtain ⟨f, f1, f2, f3⟩ := i4 t ht
  exact ⟨by rw [f2]; congr 1; omega, by omega⟩
theorem change_sum {N : Nat → Nat} {w : Nat → Int32} (hI : Inv N 0 w) : chS w (nS w) = w 31 := by
  obtain ⟨i1, i2, i4, i5, -⟩ := hI
  rw [i5, Int32.add_zero]
theorem spfits {N : Nat → Nat} {m : MM} {w : Nat → Int32} (hR : R m w) (hI : Inv N 0 w) {s : Nat} (hs : s < nS w) : (w (58 + 8 * s + 1) = -1 ∧ w (58 + 8 * s + 2) = 0) ∨ ∃ K : Nat, K < nK w ∧ w (58 + 8 * s + 1) = I K ∧ w (50 + K) = w (58 + 8 * s) := by
  obtain ⟨i1, i2, i4, i5, i6, -⟩ := hI
  obtain ⟨p1, p2, p3, p4⟩ := hR.v.sp s hs
  rcases p2 with q | ⟨K, hK, q⟩
  · exact Or.inl ⟨q, (p4 q).1⟩
  · exact Or.inr ⟨K, hK, q, (i6 s hs K hK q).symm⟩
/-- a spot's time is at most now -/
theorem spot_4 {N : Nat → Nat} (hN6 : N 6 < 2147483648) {m : MM} {w : Nat → Int32} (hR : R m w) (hI : Inv N 0 w) {k : Nat} (hk : k < nP w) : w (240 + 6 * k + 4) ≤ w 23 := by
  have h5 := (spot_5 hR hI hk).2
  obtain ⟨i1, i2, i4, i5, i6, i7, U, ⟨i8, i8'⟩, i9⟩ := hI
  by_cases c : w (240 + 6 * k + 3) = 1
  · obtain ⟨-, T, u1, u2⟩ := i9 k hk c
    rw [u1, i8]
    exact (I_le (by omega) (by omega)).mpr u2
  · rw [h5 c, i8]
    refine Int32.le_iff_toInt_le.mpr ?_
    rw [I_toInt (by omega), show (-1 : Int32).toInt = -1 by decide]
    omega
/-- what is open and not blocked is what can be filled, and none of it is filled -/
theorem spot_fil {m : MM} {w : Nat → Int32} (hR : R m w) (h : MM) : ∃ F L : Int64, D_X9_fillableSet h m = some F ∧ D_X9_filledSet h m = some L ∧ F &&& L = 0 ∧ (∀ k : Nat, k < 64 → (tb F k = true ↔ k < nP w ∧ fil w k)) ∧ ∀ k : Nat, k < 64 → (tb L k = true ↔ k < nP w ∧ w (240 + 6 * k + 3) = 1) := by
  obtain ⟨F, f1, f2⟩ := a_fillable hR h
  obtain ⟨L, l1, l2⟩ := a_filled hR h
  refine ⟨F, L, f1, l1, tb_xt (fun k hk => ?_), f2, l2⟩
  rw [tb_and, Bool.and_eq_true, f2 k hk, l2 k hk, tb_zero]
  constructor
  · rintro ⟨⟨_, z1, _⟩, _, z2⟩
    rw [z1] at z2
    exact absurd z2 (by decide)
  · intro z
    exact absurd z (by decide)
