/-! PROPERTY: the spots -/
theorem sp_47 {N : Nat → Nat} (hN6 : N 6 < 2147483648) {m : MM} {w : Nat → Int32} (hR : R m w) (hI : Inv N 0 w) (h : MM) {k : Nat} (hk : k < nP w) (kk : Int64 → Int32 → Option Int32) (x1 : Int64) (b : Int32) (hb : b = if w (240 + 6 * k + 3) = 1 then 1 else 0) : ∃ G : Int64, (G = 0 ↔ ¬ blk_ w k) ∧ D_L_areSpots_47 h m kk x1 (I k) (w (240 + 6 * k + 3)) b b = if w (240 + 6 * k + 3) = 0 ∧ G = 0 then kk (x1 ||| ((1 : Int64) <<< ((I k).toInt64 &&& 63))) (I (k + 1)) else kk x1 (I (k + 1)) := by
  have h40 : nP w ≤ 40 := hR.r0.bd.2.2.2.2.1
  have q5 : D_X9_spotValue (I k) (5 : Int32) h m = some (.inr (w (240 + 6 * k + 5))) := a_spot hR h (j := 5) hk (by decide)
  have q4 : D_X9_spotValue (I k) (4 : Int32) h m = some (.inr (w (240 + 6 * k + 4))) := a_spot hR h (j := 4) hk (by decide)
  obtain ⟨s5, -⟩ := spot_5 hR hI hk
  have s4 := spot_4 hN6 hR hI hk
  obtain ⟨G, g1, g2⟩ := a_blocked hR h hk
  refine ⟨G, g2, ?_⟩
  have e75 : ∀ d : Int32, D_L_areSpots_75 h m kk x1 (I k) (w (240 + 6 * k + 3)) d d = if w (240 + 6 * k + 3) = 0 ∧ G = 0 then kk (x1 ||| ((1 : Int64) <<< ((I k).toInt64 &&& 63))) (I (k + 1)) else kk x1 (I (k + 1)) := fun d => by
    unfold D_L_areSpots_75
    rw [if_pos rfl, q4, lr_s, b1_s, a_now hR, b1_s, if_pos s4]
    by_cases c : w (240 + 6 * k + 3) = 0
    · rw [if_pos c, g1, lr_s, b1_s]
      by_cases c2 : G = 0
      · rw [if_pos c2, bnd_s, bnd_s, if_pos ⟨c, c2⟩, show I k + (1 : Int32) = I (k + 1) from I_add k 1]
      · rw [if_neg c2, bnd_s, if_neg (fun z => c2 z.2), show I k + (1 : Int32) = I (k + 1) from I_add k 1]
    · rw [if_neg c, bnd_s, if_neg (fun z => c z.1), show I k + (1 : Int32) = I (k + 1) from I_add k 1]
  unfold D_L_areSpots_47
  rw [if_pos rfl, q5, lr_s, b1_s]
  by_cases c : w (240 + 6 * k + 3) = 1
  · rw [if_neg (show ¬ w (240 + 6 * k + 5) < 0 from Int32.not_lt.mpr (s5.mpr c)), if_pos c]
    exact e75 1
  · rw [if_pos (show w (240 + 6 * k + 5) < 0 from Int32.not_le.mp (fun z => c (s5.mp z))), if_neg c]
    exact e75 0
theorem sp_4 {N : Nat → Nat} (hN6 : N 6 < 2147483648) {m : MM} {w : Nat → Int32} (hR : R m w) (hI : Inv N 0 w) (hP : nP w = 6) (h : MM) : ∀ (d k n : Nat) (x1 : Int64), k + d = 6 → d < n → (∀ j : Nat, j < 64 → (tb x1 j = true ↔ j < k ∧ w (240 + 6 * j + 3) = 0 ∧ ¬ blk_ w j)) → D_L_areSpots_4 h m n x1 (I k) = some 1 := by
  intro d
  induction d with
  | zero =>
    intro k n x1 hk hn hx
    obtain ⟨n, rfl⟩ : ∃ n0 : Nat, n = n0 + 1 := ⟨n - 1, by omega⟩
    have : k = 6 := by omega
    subst this
    obtain ⟨F, L, f1, l1, fl, f2, -⟩ := spot_fil hR h
    have e : x1 = F := tb_xt (fun j hj => by
      rw [hx j hj, f2 j hj, hP])
    rw [D_L_areSpots_4, if_pos (by decide), f1, b1_s, if_pos e, b1_s, l1, b1_s, if_pos fl]
  | succ d ih =>
    intro k n x1 hk hn hx
    obtain ⟨n, rfl⟩ : ∃ n0 : Nat, n = n0 + 1 := ⟨n - 1, by omega⟩
    have q3 : D_X9_spotValue (I k) (3 : Int32) h m = some (.inr (w (240 + 6 * k + 3))) := a_spot hR h (j := 3) (by omega) (by decide)
    obtain ⟨L, l1, l2⟩ := a_filled hR h
    have hb := l2 k (by omega)
    rw [D_L_areSpots_4, if_neg (show ¬ (6 : Int32) ≤ I k from leF (a := 6) (by omega) (by decide)), q3, lr_s, b1_s, l1, b1_s, bit_of L (by omega)]
    have key : ∀ b : Int32, (b = if w (240 + 6 * k + 3) = 1 then 1 else 0) → D_L_areSpots_47 h m (D_L_areSpots_4 h m n) x1 (I k) (w (240 + 6 * k + 3)) b b = some 1 := fun b e => by
      obtain ⟨G, g1, g2⟩ := sp_47 hN6 hR hI h (by omega) (D_L_areSpots_4 h m n) x1 b e
      rw [g2]
      by_cases c : w (240 + 6 * k + 3) = 0 ∧ G = 0
      · rw [if_pos c]
        refine ih (k + 1) n _ (by omega) (by omega) (fun j hj => ?_)
        rw [tb_or, Bool.or_eq_true, hx j hj, tb_bit (by omega), decide_eq_true_iff]
        constructor
        · rintro (⟨z1, z2⟩ | z)
          · exact ⟨by omega, z2⟩
          · subst z
            exact ⟨by omega, c.1, g1.mp c.2⟩
        · rintro ⟨z1, z2, z3⟩
          by_cases e : j = k
          · exact Or.inr e
          · exact Or.inl ⟨by omega, z2, z3⟩
      · rw [if_neg c]
        refine ih (k + 1) n _ (by omega) (by omega) (fun j hj => ?_)
        rw [hx j hj]
        constructor
        · rintro ⟨z1, z2⟩
          exact ⟨by omega, z2⟩
        · rintro ⟨z1, z2, z3⟩
          by_cases e : j = k
          · subst e
            exact absurd ⟨z2, g1.mpr z3⟩ c
          · exact ⟨by omega, z2, z3⟩
    by_cases c : w (240 + 6 * k + 3) = 1
    · rw [if_pos (show tb L k = true from hb.mpr ⟨by omega, c⟩), if_pos rfl, if_pos c]
      exact key 1 (if_pos c).symm
    · rw [if_neg (show ¬ tb L k = true from fun z => c (hb.mp z).2), if_neg (by decide), if_neg c]
      exact key 0 (if_neg c).symm
theorem areSpots_v {S : Nat} {N : Nat → Nat} {m : MM} {w : Nat → Int32} (h : Sta S N m w) (hS : S < 1000) (hN6 : N 6 < 2147483648) (hh : MM) : D_L_areSpots hh m = some 1 := by
  obtain ⟨e1, e2, e3, e4, e5⟩ := h.cnt hS
  unfold D_L_areSpots
  exact sp_4 hN6 h.1 h.2.1 e5 hh 6 0 FU 0 rfl (by decide) (fun j hj => by
    rw [tb_zero]
    constructor
    · intro z
      exact absurd z (by decide)
    · rintro ⟨z, -⟩
      omega)
