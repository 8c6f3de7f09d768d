/-! PURE: what a copy keeps -/
set_option maxHeartbeats 4000000 in
theorem R0.fCopy {m m' : MM} {w w' : Nat → Int32} (h : R0 m w) (a25 : ∀ k : Nat, k < 15 → gi m' 25 k = gi m 25 k) (a24 : ∀ k : Nat, k = 1 ∨ k = 3 ∨ k = 6 ∨ k = 9 ∨ 11 ≤ k ∧ k < 16 → gi m' 24 k = gi m 24 k) (a27 : ∀ k : Nat, k < 6 → gi m' 27 k = gi m 27 k) (a28 : gi m' 28 0 = gi m 28 0) (a29 : ∀ k : Nat, k < 8 → gi m' 29 k = gi m 29 k) (aB : ∀ c k : Nat, c < 5 → k < 8 → gi m' (30 + c) k = gi m (30 + c) k) (a36 : ∀ k : Nat, k = 0 ∨ k = 9 → gi m' 36 k = gi m 36 k) (aS : ∀ s k : Nat, s < nS w → k < 8 → gi m' s k = gi m s k) (aF : ∀ f k : Nat, f < nF w → k < 9 ∧ k ≠ 5 → gi m' (4 + f) k = gi m (4 + f) k) (aR : ∀ f k : Nat, f < nF w → k < 3 → gi m' (14 + f) k = gi m (14 + f) k) (a37 : ∀ c k : Nat, c < 5 → k < nP w → gi m' (37 + c) k = gi m (37 + c) k) (a45 : ∀ k : Nat, k = 0 ∨ k = 1 ∨ k = 7 ∨ k = 8 → gi m' 45 k = gi m 45 k) (a46 : ∀ c k : Nat, c < 3 → k < 40 → gi m' (46 + c) k = gi m (46 + c) k) (a49 : ∀ k : Nat, k < 7 → gi m' 49 k = gi m 49 k) (hl : ∀ q k : Nat, (q = 36 ∧ (k = 7 ∨ k = 8) ∨ q = 42 ∧ k < 8) → gl m' q k = gl m q k) (hw : ∀ i : Nat, i < 640 → w' i = w i) (t_pr : ((∀ a b : Int32, (∃ i : Nat, i < nQ w' ∧ gi m' 43 i = a ∧ gi m' 44 i = b) ↔ ∃ i : Nat, i < nQ w' ∧ w' (600 + 2 * i) = a ∧ w' (601 + 2 * i) = b) ∧ ∀ i j : Nat, i < nQ w' → j < nQ w' → gi m' 43 i = gi m' 43 j → gi m' 44 i = gi m' 44 j → i = j)) : R0 m' w' := by
  obtain ⟨v1, v2, v3, v4, v5, v6, v7, v8⟩ := h.vc
  have enS : nS w' = nS w := by unfold nS; rw [hw 15 (by omega)]
  have enT : nT w' = nT w := by unfold nT; rw [hw 16 (by omega)]
  have enK : nK w' = nK w := by unfold nK; rw [hw 17 (by omega)]
  have enF : nF w' = nF w := by unfold nF; rw [hw 18 (by omega)]
  have enP : nP w' = nP w := by unfold nP; rw [hw 19 (by omega)]
  have enQ : nQ w' = nQ w := by unfold nQ; rw [hw 20 (by omega)]
  have enL : nL w' = nL w := by unfold nL; rw [hw 28 (by omega)]
  refine ⟨?_, ?_, ?_, ?_, ?_, ?_, ?_, ?_, ?_, ?_, ?_, ?_, ?_, ?_, ?_, ?_, ?_, ?_, ?_, ?_, ?_, ?_, ?_, ?_, ?_, ?_, ?_, ?_, ?_, ?_, ?_⟩
  · rw [enS, enT, enK, enF, enP, enQ, enL]
    exact ⟨v1, v2, v3, v4, v5, v6, v7, fun f hf => by unfold wt; rw [hw _ (by omega)]; exact v8 f hf⟩
  · intro j hj
    rw [a25 j hj, hw _ (by omega)]
    exact h.set j hj
  · rw [a24 1 (by omega), hw _ (by omega)]
    exact h.c15
  · rw [a24 3 (by omega), hw _ (by omega)]
    exact h.c16
  · rw [a28, hw _ (by omega)]
    exact h.c17
  · rw [a24 6 (by omega), hw _ (by omega)]
    exact h.c18
  · rw [a36 0 (by omega), hw _ (by omega)]
    exact h.c19
  · rw [a36 9 (by omega), hw _ (by omega)]
    exact h.c20
  · rw [a24 11 (by omega), hw _ (by omega)]
    exact h.s21
  · rw [a24 12 (by omega), hw _ (by omega)]
    exact h.s22
  · rw [a24 13 (by omega), hw _ (by omega)]
    exact h.s23
  · rw [a24 9 (by omega), hw _ (by omega)]
    exact h.s24
  · rw [a24 14 (by omega), hw _ (by omega)]
    exact h.s25
  · rw [a45 7 (by omega), hw _ (by omega)]
    exact h.s26
  · rw [a45 8 (by omega), hw _ (by omega)]
    exact h.s27
  · rw [a45 0 (by omega), hw _ (by omega)]
    exact h.s28
  · rw [a24 15 (by omega), hw _ (by omega)]
    exact h.s29
  · intro a ha
    rw [a49 a ha, hw _ (by omega)]
    exact h.dn a ha
  · intro t ht
    rw [enT] at ht
    rw [a27 t (by omega), hw _ (by omega)]
    exact h.fr t ht
  · intro k hk
    rw [enK] at hk
    rw [a29 k (by omega), hw _ (by omega)]
    exact h.nz k hk
  · intro s j hs hj
    rw [enS] at hs
    rw [aS s j hs hj, hw _ (by omega)]
    exact h.sp s j hs hj
  · intro k c hk hc
    rw [aB c k hc hk, hw _ (by omega)]
    exact h.bk k c hk hc
  · intro f j hf hj
    rw [enF] at hf
    rw [aF f (fj j) hf (by unfold fj; split <;> omega), hw _ (by omega)]
    exact h.fd f j hf hj
  · intro f k hf hk
    rw [enF] at hf
    have ewt : wt w' f = wt w f := by unfold wt; rw [hw _ (by omega)]
    rw [ewt] at hk
    have v9 := v8 f hf
    rw [aR f k hf (by omega), hw _ (by omega)]
    exact h.re f k hf hk
  · intro k hk
    rw [enP] at hk
    rw [a37 0 k (by decide) hk, a37 1 k (by decide) hk, a37 2 k (by decide) hk, hw _ (by omega), hw _ (by omega), hw _ (by omega)]
    exact h.st k hk
  · intro k hk
    rw [enP, hl _ _ (by omega)]
    have q0 := h.op k hk
    by_cases hk2 : k < nP w
    · rw [hw _ (by omega)]; exact q0
    · simp only [hk2, false_and] at q0 ⊢; exact q0
  · intro k hk
    rw [enP, hl _ _ (by omega)]
    have q0 := h.fl k hk
    by_cases hk2 : k < nP w
    · rw [hw _ (by omega)]; exact q0
    · simp only [hk2, false_and] at q0 ⊢; exact q0
  · intro k hk
    rw [enP] at hk
    rw [a37 3 k (by decide) hk, a37 4 k (by decide) hk, hw _ (by omega), hw _ (by omega), hw _ (by omega)]
    exact h.ta k hk
  · intro K k hK hk
    rw [enP, hl _ _ (by omega)]
    have q0 := h.kd K k hK hk
    by_cases hk2 : k < nP w
    · rw [hw _ (by omega)]; exact q0
    · simp only [hk2, false_and] at q0 ⊢; exact q0
  · rw [enL]
    obtain ⟨o, ho, h1, h2⟩ := h.lg
    refine ⟨o, ho, by rw [a45 1 (by omega)]; exact h1, fun i hi => ?_⟩
    rw [a46 0 _ (by decide) (by omega), a46 1 _ (by decide) (by omega), a46 2 _ (by decide) (by omega), hw _ (by omega), hw _ (by omega), hw _ (by omega)]
    exact h2 i hi
  · exact t_pr
