/-! PURE: what stays when only a part of the machine changes -/
theorem R0.fLog {m m' : MM} {w w' : Nat → Int32} (h : R0 m w) (hm : ∀ q k : Nat, (q ≠ 46 ∧ q ≠ 47 ∧ q ≠ 48 ∧ (q ≠ 45 ∨ 2 ≤ k)) → gi m' q k = gi m q k) (hl : ∀ q k : Nat, (q = q ∧ k = k) → gl m' q k = gl m q k) (hw : ∀ i : Nat, ((i < 480 ∨ 600 ≤ i) ∧ i ≠ 28) → w' i = w i) (t_vc : (nS w' ≤ 4 ∧ nT w' ≤ 6 ∧ nK w' ≤ 8 ∧ nF w' ≤ 10 ∧ nP w' ≤ 40 ∧ nQ w' ≤ 20 ∧ nL w' ≤ 40 ∧ ∀ f : Nat, f < nF w' → wt w' f ≤ 3)) (t_s28 : (gi m' 45 0 = w' 28)) (t_lg : (∃ o : Nat, o < 40 ∧ gi m' 45 1 = I o ∧ ∀ i : Nat, i < nL w' → gi m' 46 ((o + i) % 40) = w' (480 + 3 * i) ∧ gi m' 47 ((o + i) % 40) = w' (481 + 3 * i) ∧ gi m' 48 ((o + i) % 40) = w' (482 + 3 * i))) : R0 m' w' := by
  obtain ⟨v1, v2, v3, v4, v5, v6, v7, v8⟩ := h.vc
  have enS : nS w' = nS w := by unfold nS; rw [hw 15 (by omega)]
  have enT : nT w' = nT w := by unfold nT; rw [hw 16 (by omega)]
  have enK : nK w' = nK w := by unfold nK; rw [hw 17 (by omega)]
  have enF : nF w' = nF w := by unfold nF; rw [hw 18 (by omega)]
  have enP : nP w' = nP w := by unfold nP; rw [hw 19 (by omega)]
  have enQ : nQ w' = nQ w := by unfold nQ; rw [hw 20 (by omega)]
  refine ⟨?_, ?_, ?_, ?_, ?_, ?_, ?_, ?_, ?_, ?_, ?_, ?_, ?_, ?_, ?_, ?_, ?_, ?_, ?_, ?_, ?_, ?_, ?_, ?_, ?_, ?_, ?_, ?_, ?_, ?_, ?_⟩
  · exact t_vc
  · intro j hj
    rw [hm _ _ (by omega), hw _ (by omega)]
    exact h.set j hj
  · rw [hm _ _ (by omega), hw _ (by omega)]
    exact h.c15
  · rw [hm _ _ (by omega), hw _ (by omega)]
    exact h.c16
  · rw [hm _ _ (by omega), hw _ (by omega)]
    exact h.c17
  · rw [hm _ _ (by omega), hw _ (by omega)]
    exact h.c18
  · rw [hm _ _ (by omega), hw _ (by omega)]
    exact h.c19
  · rw [hm _ _ (by omega), hw _ (by omega)]
    exact h.c20
  · rw [hm _ _ (by omega), hw _ (by omega)]
    exact h.s21
  · rw [hm _ _ (by omega), hw _ (by omega)]
    exact h.s22
  · rw [hm _ _ (by omega), hw _ (by omega)]
    exact h.s23
  · rw [hm _ _ (by omega), hw _ (by omega)]
    exact h.s24
  · rw [hm _ _ (by omega), hw _ (by omega)]
    exact h.s25
  · rw [hm _ _ (by omega), hw _ (by omega)]
    exact h.s26
  · rw [hm _ _ (by omega), hw _ (by omega)]
    exact h.s27
  · exact t_s28
  · rw [hm _ _ (by omega), hw _ (by omega)]
    exact h.s29
  · intro a ha
    rw [hm _ _ (by omega), hw _ (by omega)]
    exact h.dn a ha
  · intro t ht
    rw [enT] at ht
    rw [hm _ _ (by omega), hw _ (by omega)]
    exact h.fr t ht
  · intro k hk
    rw [enK] at hk
    rw [hm _ _ (by omega), hw _ (by omega)]
    exact h.nz k hk
  · intro s j hs hj
    rw [enS] at hs
    rw [hm _ _ (by omega), hw _ (by omega)]
    exact h.sp s j hs hj
  · intro k c hk hc
    rw [hm _ _ (by omega), hw _ (by omega)]
    exact h.bk k c hk hc
  · intro f j hf hj
    rw [enF] at hf
    rw [hm _ _ (by omega), hw _ (by omega)]
    exact h.fd f j hf hj
  · intro f k hf hk
    rw [enF] at hf
    have ewt : wt w' f = wt w f := by unfold wt; rw [hw _ (by omega)]
    rw [ewt] at hk
    have v9 := v8 f hf
    rw [hm _ _ (by omega), hw _ (by omega)]
    exact h.re f k hf hk
  · intro k hk
    rw [enP] at hk
    rw [hm _ _ (by omega), hm _ _ (by omega), hm _ _ (by omega), hw _ (by omega), hw _ (by omega), hw _ (by omega)]
    exact h.st k hk
  · intro k hk
    rw [enP, hl _ _ (by omega)]
    have q0 := h.op k hk
    by_cases hk2 : k < nP w
    · rw [hw _ (by omega)]; exact q0
    · simp only [hk2, false_and] at q0 ⊢; exact q0
  · intro k hk
    rw [enP, hl _ _ (by omega)]
    have q0 := h.fl k hk
    by_cases hk2 : k < nP w
    · rw [hw _ (by omega)]; exact q0
    · simp only [hk2, false_and] at q0 ⊢; exact q0
  · intro k hk
    rw [enP] at hk
    rw [hm _ _ (by omega), hm _ _ (by omega), hw _ (by omega), hw _ (by omega), hw _ (by omega)]
    exact h.ta k hk
  · intro K k hK hk
    rw [enP, hl _ _ (by omega)]
    have q0 := h.kd K k hK hk
    by_cases hk2 : k < nP w
    · rw [hw _ (by omega)]; exact q0
    · simp only [hk2, false_and] at q0 ⊢; exact q0
  · exact t_lg
  · rw [enQ]
    obtain ⟨p1, p2⟩ := h.pr
    have g3 : ∀ i : Nat, gi m' 43 i = gi m 43 i := fun i => hm _ _ (by omega)
    have g4 : ∀ i : Nat, gi m' 44 i = gi m 44 i := fun i => hm _ _ (by omega)
    refine ⟨fun a b => ?_, fun i j hi hj => by rw [g3, g3, g4, g4]; exact p2 i j hi hj⟩
    have k := p1 a b
    constructor
    · rintro ⟨i, hi, u1, u2⟩
      obtain ⟨j, hj, z1, z2⟩ := k.mp ⟨i, hi, by rw [← g3]; exact u1, by rw [← g4]; exact u2⟩
      exact ⟨j, hj, by rw [hw _ (by omega)]; exact z1, by rw [hw _ (by omega)]; exact z2⟩
    · rintro ⟨i, hi, u1, u2⟩
      rw [hw _ (by omega)] at u1 u2
      obtain ⟨j, hj, z1, z2⟩ := k.mpr ⟨i, hi, u1, u2⟩
      exact ⟨j, hj, by rw [g3]; exact z1, by rw [g4]; exact z2⟩
theorem R0.fBoard {m m' : MM} {w w' : Nat → Int32} (h : R0 m w) (hm : ∀ q k : Nat, (q ≠ 40 ∧ q ≠ 41) → gi m' q k = gi m q k) (hl : ∀ q k : Nat, (q ≠ 36 ∨ (k ≠ 7 ∧ k ≠ 8)) → gl m' q k = gl m q k) (hw : ∀ i : Nat, (i < 243 ∨ 480 ≤ i ∨ (i - 240) % 6 < 3) → w' i = w i) (t_op : (∀ k : Nat, k < 64 → tb (gl m' 36 7) k = decide (k < nP w' ∧ w' (243 + 6 * k) = 0))) (t_fl : (∀ k : Nat, k < 64 → tb (gl m' 36 8) k = decide (k < nP w' ∧ w' (243 + 6 * k) = 1))) (t_ta : (∀ k : Nat, k < nP w' → w' (244 + 6 * k) = (if w' (243 + 6 * k) = 1 then gi m' 40 k else -1) ∧ w' (245 + 6 * k) = (if w' (243 + 6 * k) = 1 then gi m' 41 k else -1))) : R0 m' w' := by
  obtain ⟨v1, v2, v3, v4, v5, v6, v7, v8⟩ := h.vc
  have enS : nS w' = nS w := by unfold nS; rw [hw 15 (by omega)]
  have enT : nT w' = nT w := by unfold nT; rw [hw 16 (by omega)]
  have enK : nK w' = nK w := by unfold nK; rw [hw 17 (by omega)]
  have enF : nF w' = nF w := by unfold nF; rw [hw 18 (by omega)]
  have enP : nP w' = nP w := by unfold nP; rw [hw 19 (by omega)]
  have enQ : nQ w' = nQ w := by unfold nQ; rw [hw 20 (by omega)]
  have enL : nL w' = nL w := by unfold nL; rw [hw 28 (by omega)]
  refine ⟨?_, ?_, ?_, ?_, ?_, ?_, ?_, ?_, ?_, ?_, ?_, ?_, ?_, ?_, ?_, ?_, ?_, ?_, ?_, ?_, ?_, ?_, ?_, ?_, ?_, ?_, ?_, ?_, ?_, ?_, ?_⟩
  · rw [enS, enT, enK, enF, enP, enQ, enL]
    exact ⟨v1, v2, v3, v4, v5, v6, v7, fun f hf => by unfold wt; rw [hw _ (by omega)]; exact v8 f hf⟩
  · intro j hj
    rw [hm _ _ (by omega), hw _ (by omega)]
    exact h.set j hj
  · rw [hm _ _ (by omega), hw _ (by omega)]
    exact h.c15
  · rw [hm _ _ (by omega), hw _ (by omega)]
    exact h.c16
  · rw [hm _ _ (by omega), hw _ (by omega)]
    exact h.c17
  · rw [hm _ _ (by omega), hw _ (by omega)]
    exact h.c18
  · rw [hm _ _ (by omega), hw _ (by omega)]
    exact h.c19
  · rw [hm _ _ (by omega), hw _ (by omega)]
    exact h.c20
  · rw [hm _ _ (by omega), hw _ (by omega)]
    exact h.s21
  · rw [hm _ _ (by omega), hw _ (by omega)]
    exact h.s22
  · rw [hm _ _ (by omega), hw _ (by omega)]
    exact h.s23
  · rw [hm _ _ (by omega), hw _ (by omega)]
    exact h.s24
  · rw [hm _ _ (by omega), hw _ (by omega)]
    exact h.s25
  · rw [hm _ _ (by omega), hw _ (by omega)]
    exact h.s26
  · rw [hm _ _ (by omega), hw _ (by omega)]
    exact h.s27
  · rw [hm _ _ (by omega), hw _ (by omega)]
    exact h.s28
  · rw [hm _ _ (by omega), hw _ (by omega)]
    exact h.s29
  · intro a ha
    rw [hm _ _ (by omega), hw _ (by omega)]
    exact h.dn a ha
  · intro t ht
    rw [enT] at ht
    rw [hm _ _ (by omega), hw _ (by omega)]
    exact h.fr t ht
  · intro k hk
    rw [enK] at hk
    rw [hm _ _ (by omega), hw _ (by omega)]
    exact h.nz k hk
  · intro s j hs hj
    rw [enS] at hs
    rw [hm _ _ (by omega), hw _ (by omega)]
    exact h.sp s j hs hj
  · intro k c hk hc
    rw [hm _ _ (by omega), hw _ (by omega)]
    exact h.bk k c hk hc
  · intro f j hf hj
    rw [enF] at hf
    rw [hm _ _ (by omega), hw _ (by omega)]
    exact h.fd f j hf hj
  · intro f k hf hk
    rw [enF] at hf
    have ewt : wt w' f = wt w f := by unfold wt; rw [hw _ (by omega)]
    rw [ewt] at hk
    have v9 := v8 f hf
    rw [hm _ _ (by omega), hw _ (by omega)]
    exact h.re f k hf hk
  · intro k hk
    rw [enP] at hk
    rw [hm _ _ (by omega), hm _ _ (by omega), hm _ _ (by omega), hw _ (by omega), hw _ (by omega), hw _ (by omega)]
    exact h.st k hk
  · exact t_op
  · exact t_fl
  · exact t_ta
  · intro K k hK hk
    rw [enP, hl _ _ (by omega)]
    have q0 := h.kd K k hK hk
    by_cases hk2 : k < nP w
    · rw [hw _ (by omega)]; exact q0
    · simp only [hk2, false_and] at q0 ⊢; exact q0
  · rw [enL]
    obtain ⟨o, ho, h1, h2⟩ := h.lg
    refine ⟨o, ho, by rw [hm _ _ (by omega)]; exact h1, fun i hi => ?_⟩
    rw [hm _ _ (by omega), hm _ _ (by omega), hm _ _ (by omega), hw _ (by omega), hw _ (by omega), hw _ (by omega)]
    exact h2 i hi
  · rw [enQ]
    obtain ⟨p1, p2⟩ := h.pr
    have g3 : ∀ i : Nat, gi m' 43 i = gi m 43 i := fun i => hm _ _ (by omega)
    have g4 : ∀ i : Nat, gi m' 44 i = gi m 44 i := fun i => hm _ _ (by omega)
    refine ⟨fun a b => ?_, fun i j hi hj => by rw [g3, g3, g4, g4]; exact p2 i j hi hj⟩
    have k := p1 a b
    constructor
    · rintro ⟨i, hi, u1, u2⟩
      obtain ⟨j, hj, z1, z2⟩ := k.mp ⟨i, hi, by rw [← g3]; exact u1, by rw [← g4]; exact u2⟩
      exact ⟨j, hj, by rw [hw _ (by omega)]; exact z1, by rw [hw _ (by omega)]; exact z2⟩
    · rintro ⟨i, hi, u1, u2⟩
      rw [hw _ (by omega)] at u1 u2
      obtain ⟨j, hj, z1, z2⟩ := k.mpr ⟨i, hi, u1, u2⟩
      exact ⟨j, hj, by rw [g3]; exact z1, by rw [g4]; exact z2⟩
theorem R0.fPairs {m m' : MM} {w w' : Nat → Int32} (h : R0 m w) (hm : ∀ q k : Nat, (q ≠ 43 ∧ q ≠ 44 ∧ (q ≠ 36 ∨ k ≠ 9)) → gi m' q k = gi m q k) (hl : ∀ q k : Nat, (q = q ∧ k = k) → gl m' q k = gl m q k) (hw : ∀ i : Nat, (i < 600 ∧ i ≠ 20) → w' i = w i) (t_vc : (nS w' ≤ 4 ∧ nT w' ≤ 6 ∧ nK w' ≤ 8 ∧ nF w' ≤ 10 ∧ nP w' ≤ 40 ∧ nQ w' ≤ 20 ∧ nL w' ≤ 40 ∧ ∀ f : Nat, f < nF w' → wt w' f ≤ 3)) (t_c20 : (gi m' 36 9 = w' 20)) (t_pr : ((∀ a b : Int32, (∃ i : Nat, i < nQ w' ∧ gi m' 43 i = a ∧ gi m' 44 i = b) ↔ ∃ i : Nat, i < nQ w' ∧ w' (600 + 2 * i) = a ∧ w' (601 + 2 * i) = b) ∧ ∀ i j : Nat, i < nQ w' → j < nQ w' → gi m' 43 i = gi m' 43 j → gi m' 44 i = gi m' 44 j → i = j)) : R0 m' w' := by
  obtain ⟨v1, v2, v3, v4, v5, v6, v7, v8⟩ := h.vc
  have enS : nS w' = nS w := by unfold nS; rw [hw 15 (by omega)]
  have enT : nT w' = nT w := by unfold nT; rw [hw 16 (by omega)]
  have enK : nK w' = nK w := by unfold nK; rw [hw 17 (by omega)]
  have enF : nF w' = nF w := by unfold nF; rw [hw 18 (by omega)]
  have enP : nP w' = nP w := by unfold nP; rw [hw 19 (by omega)]
  have enL : nL w' = nL w := by unfold nL; rw [hw 28 (by omega)]
  refine ⟨?_, ?_, ?_, ?_, ?_, ?_, ?_, ?_, ?_, ?_, ?_, ?_, ?_, ?_, ?_, ?_, ?_, ?_, ?_, ?_, ?_, ?_, ?_, ?_, ?_, ?_, ?_, ?_, ?_, ?_, ?_⟩
  · exact t_vc
  · intro j hj
    rw [hm _ _ (by omega), hw _ (by omega)]
    exact h.set j hj
  · rw [hm _ _ (by omega), hw _ (by omega)]
    exact h.c15
  · rw [hm _ _ (by omega), hw _ (by omega)]
    exact h.c16
  · rw [hm _ _ (by omega), hw _ (by omega)]
    exact h.c17
  · rw [hm _ _ (by omega), hw _ (by omega)]
    exact h.c18
  · rw [hm _ _ (by omega), hw _ (by omega)]
    exact h.c19
  · exact t_c20
  · rw [hm _ _ (by omega), hw _ (by omega)]
    exact h.s21
  · rw [hm _ _ (by omega), hw _ (by omega)]
    exact h.s22
  · rw [hm _ _ (by omega), hw _ (by omega)]
    exact h.s23
  · rw [hm _ _ (by omega), hw _ (by omega)]
    exact h.s24
  · rw [hm _ _ (by omega), hw _ (by omega)]
    exact h.s25
  · rw [hm _ _ (by omega), hw _ (by omega)]
    exact h.s26
  · rw [hm _ _ (by omega), hw _ (by omega)]
    exact h.s27
  · rw [hm _ _ (by omega), hw _ (by omega)]
    exact h.s28
  · rw [hm _ _ (by omega), hw _ (by omega)]
    exact h.s29
  · intro a ha
    rw [hm _ _ (by omega), hw _ (by omega)]
    exact h.dn a ha
  · intro t ht
    rw [enT] at ht
    rw [hm _ _ (by omega), hw _ (by omega)]
    exact h.fr t ht
  · intro k hk
    rw [enK] at hk
    rw [hm _ _ (by omega), hw _ (by omega)]
    exact h.nz k hk
  · intro s j hs hj
    rw [enS] at hs
    rw [hm _ _ (by omega), hw _ (by omega)]
    exact h.sp s j hs hj
  · intro k c hk hc
    rw [hm _ _ (by omega), hw _ (by omega)]
    exact h.bk k c hk hc
  · intro f j hf hj
    rw [enF] at hf
    rw [hm _ _ (by omega), hw _ (by omega)]
    exact h.fd f j hf hj
  · intro f k hf hk
    rw [enF] at hf
    have ewt : wt w' f = wt w f := by unfold wt; rw [hw _ (by omega)]
    rw [ewt] at hk
    have v9 := v8 f hf
    rw [hm _ _ (by omega), hw _ (by omega)]
    exact h.re f k hf hk
  · intro k hk
    rw [enP] at hk
    rw [hm _ _ (by omega), hm _ _ (by omega), hm _ _ (by omega), hw _ (by omega), hw _ (by omega), hw _ (by omega)]
    exact h.st k hk
  · intro k hk
    rw [enP, hl _ _ (by omega)]
    have q0 := h.op k hk
    by_cases hk2 : k < nP w
    · rw [hw _ (by omega)]; exact q0
    · simp only [hk2, false_and] at q0 ⊢; exact q0
  · intro k hk
    rw [enP, hl _ _ (by omega)]
    have q0 := h.fl k hk
    by_cases hk2 : k < nP w
    · rw [hw _ (by omega)]; exact q0
    · simp only [hk2, false_and] at q0 ⊢; exact q0
  · intro k hk
    rw [enP] at hk
    rw [hm _ _ (by omega), hm _ _ (by omega), hw _ (by omega), hw _ (by omega), hw _ (by omega)]
    exact h.ta k hk
  · intro K k hK hk
    rw [enP, hl _ _ (by omega)]
    have q0 := h.kd K k hK hk
    by_cases hk2 : k < nP w
    · rw [hw _ (by omega)]; exact q0
    · simp only [hk2, false_and] at q0 ⊢; exact q0
  · rw [enL]
    obtain ⟨o, ho, h1, h2⟩ := h.lg
    refine ⟨o, ho, by rw [hm _ _ (by omega)]; exact h1, fun i hi => ?_⟩
    rw [hm _ _ (by omega), hm _ _ (by omega), hm _ _ (by omega), hw _ (by omega), hw _ (by omega), hw _ (by omega)]
    exact h2 i hi
  · exact t_pr
theorem R0.fReel {m m' : MM} {w w' : Nat → Int32} (h : R0 m w) {f0 : Nat} (h0 : f0 < 10) (hm : ∀ q k : Nat, ((q ≠ 4 + f0 ∨ (k ≠ 2 ∧ k ≠ 4 ∧ k ≠ 8)) ∧ q ≠ 14 + f0) → gi m' q k = gi m q k) (hl : ∀ q k : Nat, (q = q ∧ k = k) → gl m' q k = gl m q k) (hw : ∀ i : Nat, (i ≠ 132 + 11 * f0 ∧ i ≠ 134 + 11 * f0 ∧ i ≠ 137 + 11 * f0 ∧ (i < 138 + 11 * f0 ∨ 141 + 11 * f0 ≤ i)) → w' i = w i) (t_vc : (nS w' ≤ 4 ∧ nT w' ≤ 6 ∧ nK w' ≤ 8 ∧ nF w' ≤ 10 ∧ nP w' ≤ 40 ∧ nQ w' ≤ 20 ∧ nL w' ≤ 40 ∧ ∀ f : Nat, f < nF w' → wt w' f ≤ 3)) (t_fd : (∀ f j : Nat, f < nF w' → j < 8 → gi m' (4 + f) (fj j) = w' (130 + 11 * f + j))) (t_re : (∀ f k : Nat, f < nF w' → k < wt w' f → gi m' (14 + f) k = w' (138 + 11 * f + k))) : R0 m' w' := by
  obtain ⟨v1, v2, v3, v4, v5, v6, v7, v8⟩ := h.vc
  have enS : nS w' = nS w := by unfold nS; rw [hw 15 (by omega)]
  have enT : nT w' = nT w := by unfold nT; rw [hw 16 (by omega)]
  have enK : nK w' = nK w := by unfold nK; rw [hw 17 (by omega)]
  have enF : nF w' = nF w := by unfold nF; rw [hw 18 (by omega)]
  have enP : nP w' = nP w := by unfold nP; rw [hw 19 (by omega)]
  have enQ : nQ w' = nQ w := by unfold nQ; rw [hw 20 (by omega)]
  have enL : nL w' = nL w := by unfold nL; rw [hw 28 (by omega)]
  refine ⟨?_, ?_, ?_, ?_, ?_, ?_, ?_, ?_, ?_, ?_, ?_, ?_, ?_, ?_, ?_, ?_, ?_, ?_, ?_, ?_, ?_, ?_, ?_, ?_, ?_, ?_, ?_, ?_, ?_, ?_, ?_⟩
  · exact t_vc
  · intro j hj
    rw [hm _ _ (by omega), hw _ (by omega)]
    exact h.set j hj
  · rw [hm _ _ (by omega), hw _ (by omega)]
    exact h.c15
  · rw [hm _ _ (by omega), hw _ (by omega)]
    exact h.c16
  · rw [hm _ _ (by omega), hw _ (by omega)]
    exact h.c17
  · rw [hm _ _ (by omega), hw _ (by omega)]
    exact h.c18
  · rw [hm _ _ (by omega), hw _ (by omega)]
    exact h.c19
  · rw [hm _ _ (by omega), hw _ (by omega)]
    exact h.c20
  · rw [hm _ _ (by omega), hw _ (by omega)]
    exact h.s21
  · rw [hm _ _ (by omega), hw _ (by omega)]
    exact h.s22
  · rw [hm _ _ (by omega), hw _ (by omega)]
    exact h.s23
  · rw [hm _ _ (by omega), hw _ (by omega)]
    exact h.s24
  · rw [hm _ _ (by omega), hw _ (by omega)]
    exact h.s25
  · rw [hm _ _ (by omega), hw _ (by omega)]
    exact h.s26
  · rw [hm _ _ (by omega), hw _ (by omega)]
    exact h.s27
  · rw [hm _ _ (by omega), hw _ (by omega)]
    exact h.s28
  · rw [hm _ _ (by omega), hw _ (by omega)]
    exact h.s29
  · intro a ha
    rw [hm _ _ (by omega), hw _ (by omega)]
    exact h.dn a ha
  · intro t ht
    rw [enT] at ht
    rw [hm _ _ (by omega), hw _ (by omega)]
    exact h.fr t ht
  · intro k hk
    rw [enK] at hk
    rw [hm _ _ (by omega), hw _ (by omega)]
    exact h.nz k hk
  · intro s j hs hj
    rw [enS] at hs
    rw [hm _ _ (by omega), hw _ (by omega)]
    exact h.sp s j hs hj
  · intro k c hk hc
    rw [hm _ _ (by omega), hw _ (by omega)]
    exact h.bk k c hk hc
  · exact t_fd
  · exact t_re
  · intro k hk
    rw [enP] at hk
    rw [hm _ _ (by omega), hm _ _ (by omega), hm _ _ (by omega), hw _ (by omega), hw _ (by omega), hw _ (by omega)]
    exact h.st k hk
  · intro k hk
    rw [enP, hl _ _ (by omega)]
    have q0 := h.op k hk
    by_cases hk2 : k < nP w
    · rw [hw _ (by omega)]; exact q0
    · simp only [hk2, false_and] at q0 ⊢; exact q0
  · intro k hk
    rw [enP, hl _ _ (by omega)]
    have q0 := h.fl k hk
    by_cases hk2 : k < nP w
    · rw [hw _ (by omega)]; exact q0
    · simp only [hk2, false_and] at q0 ⊢; exact q0
  · intro k hk
    rw [enP] at hk
    rw [hm _ _ (by omega), hm _ _ (by omega), hw _ (by omega), hw _ (by omega), hw _ (by omega)]
    exact h.ta k hk
  · intro K k hK hk
    rw [enP, hl _ _ (by omega)]
    have q0 := h.kd K k hK hk
    by_cases hk2 : k < nP w
    · rw [hw _ (by omega)]; exact q0
    · simp only [hk2, false_and] at q0 ⊢; exact q0
  · rw [enL]
    obtain ⟨o, ho, h1, h2⟩ := h.lg
    refine ⟨o, ho, by rw [hm _ _ (by omega)]; exact h1, fun i hi => ?_⟩
    rw [hm _ _ (by omega), hm _ _ (by omega), hm _ _ (by omega), hw _ (by omega), hw _ (by omega), hw _ (by omega)]
    exact h2 i hi
  · rw [enQ]
    obtain ⟨p1, p2⟩ := h.pr
    have g3 : ∀ i : Nat, gi m' 43 i = gi m 43 i := fun i => hm _ _ (by omega)
    have g4 : ∀ i : Nat, gi m' 44 i = gi m 44 i := fun i => hm _ _ (by omega)
    refine ⟨fun a b => ?_, fun i j hi hj => by rw [g3, g3, g4, g4]; exact p2 i j hi hj⟩
    have k := p1 a b
    constructor
    · rintro ⟨i, hi, u1, u2⟩
      obtain ⟨j, hj, z1, z2⟩ := k.mp ⟨i, hi, by rw [← g3]; exact u1, by rw [← g4]; exact u2⟩
      exact ⟨j, hj, by rw [hw _ (by omega)]; exact z1, by rw [hw _ (by omega)]; exact z2⟩
    · rintro ⟨i, hi, u1, u2⟩
      rw [hw _ (by omega)] at u1 u2
      obtain ⟨j, hj, z1, z2⟩ := k.mpr ⟨i, hi, u1, u2⟩
      exact ⟨j, hj, by rw [g3]; exact z1, by rw [g4]; exact z2⟩
theorem upd_comm (f : Nat → Int32) {i j : Nat} (h : i ≠ j) (a b : Int32) : upd (upd f i a) j b = upd (upd f j b) i a := by
  funext k
  by_cases h1 : k = i
  · subst h1; rw [upd_eq, upd_ne h, upd_eq]
  · by_cases h2 : k = j
    · subst h2; rw [upd_eq, upd_ne h1, upd_eq]
    · rw [upd_ne h2, upd_ne h1, upd_ne h1, upd_ne h2]
