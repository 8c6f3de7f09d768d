/-! PURE: the machine as it begins -/
theorem arf_l (q N : Nat) (v : Int32) (hN : N ≤ 100) : ∀ (d i n : Nat) (m : MM), i + d = N → d < n → ∃ m' : MM, D_J7_fill_53178_5 q N n v (I i) (I N) m = some m' ∧ (∀ q' k : Nat, gi m' q' k = if q' = q ∧ i ≤ k ∧ k < N then v else gi m q' k) ∧ ∀ q' k : Nat, gl m' q' k = gl m q' k := by
  intro d
  induction d with
  | zero =>
    intro i n m hi hn
    obtain ⟨n, rfl⟩ : ∃ n0 : Nat, n = n0 + 1 := ⟨n - 1, by omega⟩
    refine ⟨m, ?_, fun q' k => (if_neg (fun z => absurd z.2 (by omega))).symm, fun _ _ => rfl⟩
    unfold D_J7_fill_53178_5
    rw [if_pos (leT (by omega) (by omega))]
  | succ d ih =>
    intro i n m hi hn
    obtain ⟨n, rfl⟩ : ∃ n0 : Nat, n = n0 + 1 := ⟨n - 1, by omega⟩
    obtain ⟨m', h1, h2, h3⟩ := ih (i + 1) n (si m q i v) (by omega) (by omega)
    refine ⟨m', ?_, fun q' k => ?_, fun q' k => h3 q' k⟩
    · unfold D_J7_fill_53178_5
      rw [if_neg (leF (by omega) (by omega)), gdI (by omega) (by omega), I_tnc (by omega), bnd_s, bnd_s, ixs1]
      exact h1
    · rw [h2 q' k]
      by_cases a : q' = q ∧ i + 1 ≤ k ∧ k < N
      · rw [if_pos a, if_pos ⟨a.1, by omega, a.2.2⟩]
      · rw [if_neg a]
        by_cases b : q' = q ∧ k = i
        · rw [gi_si_is b, if_pos ⟨b.1, by omega, by omega⟩]
        · rw [gi_si_ne (by omega), if_neg (fun z => by
            by_cases c : k = i
            · exact b ⟨z.1, c⟩
            · exact a ⟨z.1, by omega, z.2.2⟩)]
theorem arf_s (q N : Nat) (v : Int32) (hN : N ≤ 100) (m : MM) : ∃ m' : MM, D_J7_fill_53178 q N v m = some m' ∧ (∀ q' k : Nat, gi m' q' k = if q' = q ∧ k < N then v else gi m q' k) ∧ ∀ q' k : Nat, gl m' q' k = gl m q' k := by
  obtain ⟨m', h1, h2, h3⟩ := arf_l q N v hN N 0 FU m (by omega) (by show N < 5000; omega)
  have h1 : D_J7_fill_53178_5 q N FU v (0 : Int32) (Int32.ofNat N) m = some m' := h1
  refine ⟨m', by unfold D_J7_fill_53178; rw [bnd_s]; exact h1, fun q' k => ?_, h3⟩
  rw [h2 q' k]
  by_cases a : q' = q ∧ k < N
  · rw [if_pos a, if_pos ⟨a.1, Nat.zero_le _, a.2⟩]
  · rw [if_neg a, if_neg (fun z => a ⟨z.1, z.2.2⟩)]
theorem arl_l (q N : Nat) (v : Int64) (hN : N ≤ 100) : ∀ (d i n : Nat) (m : MM), i + d = N → d < n → ∃ m' : MM, D_J7_fill_d0a16_6 q N n v (I i) (I N) m = some m' ∧ (∀ q' k : Nat, gl m' q' k = if q' = q ∧ i ≤ k ∧ k < N then v else gl m q' k) ∧ ∀ q' k : Nat, gi m' q' k = gi m q' k := by
  intro d
  induction d with
  | zero =>
    intro i n m hi hn
    obtain ⟨n, rfl⟩ : ∃ n0 : Nat, n = n0 + 1 := ⟨n - 1, by omega⟩
    refine ⟨m, ?_, fun q' k => (if_neg (fun z => absurd z.2 (by omega))).symm, fun _ _ => rfl⟩
    unfold D_J7_fill_d0a16_6
    rw [if_pos (leT (by omega) (by omega))]
  | succ d ih =>
    intro i n m hi hn
    obtain ⟨n, rfl⟩ : ∃ n0 : Nat, n = n0 + 1 := ⟨n - 1, by omega⟩
    obtain ⟨m', h1, h2, h3⟩ := ih (i + 1) n (sl m q i v) (by omega) (by omega)
    refine ⟨m', ?_, fun q' k => ?_, fun q' k => h3 q' k⟩
    · unfold D_J7_fill_d0a16_6
      rw [if_neg (leF (by omega) (by omega)), gdI (by omega) (by omega), I_tnc (by omega), bnd_s, bnd_s, ixs1]
      exact h1
    · rw [h2 q' k]
      by_cases a : q' = q ∧ i + 1 ≤ k ∧ k < N
      · rw [if_pos a, if_pos ⟨a.1, by omega, a.2.2⟩]
      · rw [if_neg a]
        by_cases b : q' = q ∧ k = i
        · rw [gl_sl, if_pos b, if_pos ⟨b.1, by omega, by omega⟩]
        · rw [gl_sl, if_neg b, if_neg (fun z => by
            by_cases c : k = i
            · exact b ⟨z.1, c⟩
            · exact a ⟨z.1, by omega, z.2.2⟩)]
theorem arl_s (q N : Nat) (v : Int64) (hN : N ≤ 100) (m : MM) : ∃ m' : MM, D_J7_fill_d0a16 q N v m = some m' ∧ (∀ q' k : Nat, gl m' q' k = if q' = q ∧ k < N then v else gl m q' k) ∧ ∀ q' k : Nat, gi m' q' k = gi m q' k := by
  obtain ⟨m', h1, h2, h3⟩ := arl_l q N v hN N 0 FU m (by omega) (by show N < 5000; omega)
  have h1 : D_J7_fill_d0a16_6 q N FU v (0 : Int32) (Int32.ofNat N) m = some m' := h1
  refine ⟨m', by unfold D_J7_fill_d0a16; rw [bnd_s]; exact h1, fun q' k => ?_, h3⟩
  rw [h2 q' k]
  by_cases a : q' = q ∧ k < N
  · rw [if_pos a, if_pos ⟨a.1, Nat.zero_le _, a.2⟩]
  · rw [if_neg a, if_neg (fun z => a ⟨z.1, z.2.2⟩)]
