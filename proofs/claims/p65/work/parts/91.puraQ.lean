/-! PURE: the machine as it begins, spindles -/
def Cl0 (m : MM) (s : Nat) : Prop := gi m s 0 = -1 ∧ gi m s 1 = -1 ∧ gi m s 2 = 0 ∧ gi m s 3 = 0 ∧ gi m s 4 = 0 ∧ gi m s 5 = 0 ∧ gi m s 6 = 0 ∧ gi m s 7 = 0
theorem clr1 (s : Nat) (m : MM) : ∃ m' : MM, D_X8_clear s m = some m' ∧ Cl0 m' s ∧ (∀ q k : Nat, q ≠ s → gi m' q k = gi m q k) ∧ ∀ q k : Nat, gl m' q k = gl m q k := by
  unfold D_X8_clear D_X8_dropPart
  simp only [bnd_s, b1_s]
  refine ⟨_, rfl, ⟨?_, ?_, ?_, ?_, ?_, ?_, ?_, ?_⟩, fun q k hq => ?_, fun q k => rfl⟩
  all_goals simp [gi_si, *]
theorem clr_l : ∀ (d i n : Nat) (m : MM), i + d = 4 → d < n → ∃ m' : MM, D_X6_clear_21 n (I i) m = D_X6_clear_21 1 (I 4) m' ∧ (∀ s : Nat, i ≤ s → s < 4 → Cl0 m' s) ∧ (∀ q k : Nat, (q < i ∨ 4 ≤ q) → gi m' q k = gi m q k) ∧ ∀ q k : Nat, gl m' q k = gl m q k := by
  intro d
  induction d with
  | zero =>
    intro i n m hi hn
    obtain ⟨n, rfl⟩ : ∃ n0 : Nat, n = n0 + 1 := ⟨n - 1, by omega⟩
    have hi : i = 4 := by omega
    subst hi
    refine ⟨m, ?_, fun s h1 h2 => by omega, fun _ _ _ => rfl, fun _ _ => rfl⟩
    rw [D_X6_clear_21, D_X6_clear_21, if_pos (show (4 : Int32) ≤ I 4 by decide), if_pos (show (4 : Int32) ≤ I 4 by decide)]
  | succ d ih =>
    intro i n m hi hn
    obtain ⟨n, rfl⟩ : ∃ n0 : Nat, n = n0 + 1 := ⟨n - 1, by omega⟩
    obtain ⟨m1, c1, c2, c3, c4⟩ := clr1 i m
    obtain ⟨m', h1, h2, h3, h4⟩ := ih (i + 1) n m1 (by omega) (by omega)
    refine ⟨m', ?_, fun s a b => ?_, fun q k hq => by rw [h3 q k (by omega), c3 q k (by omega)], fun q k => by rw [h4, c4]⟩
    · rw [← h1, D_X6_clear_21, if_neg (show ¬ (4 : Int32) ≤ I i from leF (a := 4) (by omega) (by decide)), gdI (by omega) (by omega), I_tnc (by omega), c1, b1_s, bnd_s, ixs1]
    · by_cases e : s = i
      · subst e
        obtain ⟨z0, z1, z2, z3, z4, z5, z6, z7⟩ := c2
        exact ⟨by rw [h3 s 0 (by omega)]; exact z0, by rw [h3 s 1 (by omega)]; exact z1, by rw [h3 s 2 (by omega)]; exact z2, by rw [h3 s 3 (by omega)]; exact z3, by rw [h3 s 4 (by omega)]; exact z4, by rw [h3 s 5 (by omega)]; exact z5, by rw [h3 s 6 (by omega)]; exact z6, by rw [h3 s 7 (by omega)]; exact z7⟩
      · exact h2 s (by omega) b
