/-! PURE: what stays when a machine that is being read grows -/
theorem R0.fType {m m' : MM} {w w' : Nat → Int32} (h : R0 m w) (hm : ∀ q k : Nat, (q ≠ 27 ∧ (q ≠ 24 ∨ k ≠ 3)) → gi m' q k = gi m q k) (hl : ∀ q k : Nat, (q = q ∧ k = k) → gl m' q k = gl m q k) (hw : ∀ i : Nat, (i ≠ 16 ∧ (i < 44 ∨ 50 ≤ i)) → w' i = w i) (t_vc : (nS w' ≤ 4 ∧ nT w' ≤ 6 ∧ nK w' ≤ 8 ∧ nF w' ≤ 10 ∧ nP w' ≤ 40 ∧ nQ w' ≤ 20 ∧ nL w' ≤ 40 ∧ ∀ f : Nat, f < nF w' → wt w' f ≤ 3)) (t_c16 : (gi m' 24 3 = w' 16)) (t_fr : (∀ t : Nat, t < nT w' → gi m' 27 t = w' (44 + t))) : R0 m' w' := by
  obtain ⟨v1, v2, v3, v4, v5, v6, v7, v8⟩ := h.vc
  have enS : nS w' = nS w := by unfold nS; rw [hw 15 (by omega)]
  have enK : nK w' = nK w := by unfold nK; rw [hw 17 (by omega)]
  have enF : nF w' = nF w := by unfold nF; rw [hw 18 (by omega)]
  have enP : nP w' = nP w := by unfold nP; rw [hw 19 (by omega)]
  have enQ : nQ w' = nQ w := by unfold nQ; rw [hw 20 (by omega)]
  have enL : nL w' = nL w := by unfold nL; rw [hw 28 (by omega)]
  refine ⟨?_, ?_, ?_, ?_, ?_, ?_, ?_, ?_, ?_, ?_, ?_, ?_, ?_, ?_, ?_, ?_, ?_, ?_, ?_, ?_, ?_, ?_, ?_, ?_, ?_, ?_, ?_, ?_, ?_, ?_, ?_⟩
  · exact t_vc
  · intro j hj
    rw [hm _ _ (by omega), hw _ (by omega)]
    exact h.set j hj
  · rw [hm _ _ (by omega), hw _ (by omega)]
    exact h.c15
  · exact t_c16
  · rw [hm _ _ (by omega), hw _ (by omega)]
    exact h.c17
  · rw [hm _ _ (by omega), hw _ (by omega)]
    exact h.c18
  · rw [hm _ _ (by omega), hw _ (by omega)]
    exact h.c19
  · rw [hm _ _ (by omega), hw _ (by omega)]
    exact h.c20
  · rw [hm _ _ (by omega), hw _ (by omega)]
    exact h.s21
  · rw [hm _ _ (by omega), hw _ (by omega)]
    exact h.s22
  · rw [hm _ _ (by omega), hw _ (by omega)]
    exact h.s23
  · rw [hm _ _ (by omega), hw _ (by omega)]
    exact h.s24
  · rw [hm _ _ (by omega), hw _ (by omega)]
    exact h.s25
  · rw [hm _ _ (by omega), hw _ (by omega)]
    exact h.s26
  · rw [hm _ _ (by omega), hw _ (by omega)]
    exact h.s27
  · rw [hm _ _ (by omega), hw _ (by omega)]
    exact h.s28
  · rw [hm _ _ (by omega), hw _ (by omega)]
    exact h.s29
  · intro a ha
    rw [hm _ _ (by omega), hw _ (by omega)]
    exact h.dn a ha
  · exact t_fr
  · intro k hk
    rw [enK] at hk
    rw [hm _ _ (by omega), hw _ (by omega)]
    exact h.nz k hk
  · intro s j hs hj
    rw [enS] at hs
    rw [hm _ _ (by omega), hw _ (by omega)]
    exact h.sp s j hs hj
  · intro k c hk hc
    rw [hm _ _ (by omega), hw _ (by omega)]
    exact h.bk k c hk hc
  · intro f j hf hj
    rw [enF] at hf
    rw [hm _ _ (by omega), hw _ (by omega)]
    exact h.fd f j hf hj
  · intro f k hf hk
    rw [enF] at hf
    have ewt : wt w' f = wt w f := by unfold wt; rw [hw _ (by omega)]
    rw [ewt] at hk
    have v9 := v8 f hf
    rw [hm _ _ (by omega), hw _ (by omega)]
    exact h.re f k hf hk
  · intro k hk
    rw [enP] at hk
    rw [hm _ _ (by omega), hm _ _ (by omega), hm _ _ (by omega), hw _ (by omega), hw _ (by omega), hw _ (by omega)]
    exact h.st k hk
  · intro k hk
    rw [enP, hl _ _ (by omega)]
    have q0 := h.op k hk
    by_cases hk2 : k < nP w
    · rw [hw _ (by omega)]; exact q0
    · simp only [hk2, false_and] at q0 ⊢; exact q0
  · intro k hk
    rw [enP, hl _ _ (by omega)]
    have q0 := h.fl k hk
    by_cases hk2 : k < nP w
    · rw [hw _ (by omega)]; exact q0
    · simp only [hk2, false_and] at q0 ⊢; exact q0
  · intro k hk
    rw [enP] at hk
    rw [hm _ _ (by omega), hm _ _ (by omega), hw _ (by omega), hw _ (by omega), hw _ (by omega)]
    exact h.ta k hk
  · intro K k hK hk
    rw [enP, hl _ _ (by omega)]
    have q0 := h.kd K k hK hk
    by_cases hk2 : k < nP w
    · rw [hw _ (by omega)]; exact q0
    · simp only [hk2, false_and] at q0 ⊢; exact q0
  · rw [enL]
    obtain ⟨o, ho, h1, h2⟩ := h.lg
    refine ⟨o, ho, by rw [hm _ _ (by omega)]; exact h1, fun i hi => ?_⟩
    rw [hm _ _ (by omega), hm _ _ (by omega), hm _ _ (by omega), hw _ (by omega), hw _ (by omega), hw _ (by omega)]
    exact h2 i hi
  · rw [enQ]
    obtain ⟨p1, p2⟩ := h.pr
    have g3 : ∀ i : Nat, gi m' 43 i = gi m 43 i := fun i => hm _ _ (by omega)
    have g4 : ∀ i : Nat, gi m' 44 i = gi m 44 i := fun i => hm _ _ (by omega)
    refine ⟨fun a b => ?_, fun i j hi hj => by rw [g3, g3, g4, g4]; exact p2 i j hi hj⟩
    have k := p1 a b
    constructor
    · rintro ⟨i, hi, u1, u2⟩
      obtain ⟨j, hj, z1, z2⟩ := k.mp ⟨i, hi, by rw [← g3]; exact u1, by rw [← g4]; exact u2⟩
      exact ⟨j, hj, by rw [hw _ (by omega)]; exact z1, by rw [hw _ (by omega)]; exact z2⟩
    · rintro ⟨i, hi, u1, u2⟩
      rw [hw _ (by omega)] at u1 u2
      obtain ⟨j, hj, z1, z2⟩ := k.mpr ⟨i, hi, u1, u2⟩
      exact ⟨j, hj, by rw [g3]; exact z1, by rw [g4]; exact z2⟩
theorem R0.fKind {m m' : MM} {w w' : Nat → Int32} (h : R0 m w) (hm : ∀ q k : Nat, (q ≠ 29 ∧ (q ≠ 28 ∨ k ≠ 0)) → gi m' q k = gi m q k) (hl : ∀ q k : Nat, (q = q ∧ k = k) → gl m' q k = gl m q k) (hw : ∀ i : Nat, (i ≠ 17 ∧ (i < 50 ∨ 58 ≤ i)) → w' i = w i) (t_vc : (nS w' ≤ 4 ∧ nT w' ≤ 6 ∧ nK w' ≤ 8 ∧ nF w' ≤ 10 ∧ nP w' ≤ 40 ∧ nQ w' ≤ 20 ∧ nL w' ≤ 40 ∧ ∀ f : Nat, f < nF w' → wt w' f ≤ 3)) (t_c17 : (gi m' 28 0 = w' 17)) (t_nz : (∀ k : Nat, k < nK w' → gi m' 29 k = w' (50 + k))) : R0 m' w' := by
  obtain ⟨v1, v2, v3, v4, v5, v6, v7, v8⟩ := h.vc
  have enS : nS w' = nS w := by unfold nS; rw [hw 15 (by omega)]
  have enT : nT w' = nT w := by unfold nT; rw [hw 16 (by omega)]
  have enF : nF w' = nF w := by unfold nF; rw [hw 18 (by omega)]
  have enP : nP w' = nP w := by unfold nP; rw [hw 19 (by omega)]
  have enQ : nQ w' = nQ w := by unfold nQ; rw [hw 20 (by omega)]
  have enL : nL w' = nL w := by unfold nL; rw [hw 28 (by omega)]
  refine ⟨?_, ?_, ?_, ?_, ?_, ?_, ?_, ?_, ?_, ?_, ?_, ?_, ?_, ?_, ?_, ?_, ?_, ?_, ?_, ?_, ?_, ?_, ?_, ?_, ?_, ?_, ?_, ?_, ?_, ?_, ?_⟩
  · exact t_vc
  · intro j hj
    rw [hm _ _ (by omega), hw _ (by omega)]
    exact h.set j hj
  · rw [hm _ _ (by omega), hw _ (by omega)]
    exact h.c15
  · rw [hm _ _ (by omega), hw _ (by omega)]
    exact h.c16
  · exact t_c17
  · rw [hm _ _ (by omega), hw _ (by omega)]
    exact h.c18
  · rw [hm _ _ (by omega), hw _ (by omega)]
    exact h.c19
  · rw [hm _ _ (by omega), hw _ (by omega)]
    exact h.c20
  · rw [hm _ _ (by omega), hw _ (by omega)]
    exact h.s21
  · rw [hm _ _ (by omega), hw _ (by omega)]
    exact h.s22
  · rw [hm _ _ (by omega), hw _ (by omega)]
    exact h.s23
  · rw [hm _ _ (by omega), hw _ (by omega)]
    exact h.s24
  · rw [hm _ _ (by omega), hw _ (by omega)]
    exact h.s25
  · rw [hm _ _ (by omega), hw _ (by omega)]
    exact h.s26
  · rw [hm _ _ (by omega), hw _ (by omega)]
    exact h.s27
  · rw [hm _ _ (by omega), hw _ (by omega)]
    exact h.s28
  · rw [hm _ _ (by omega), hw _ (by omega)]
    exact h.s29
  · intro a ha
    rw [hm _ _ (by omega), hw _ (by omega)]
    exact h.dn a ha
  · intro t ht
    rw [enT] at ht
    rw [hm _ _ (by omega), hw _ (by omega)]
    exact h.fr t ht
  · exact t_nz
  · intro s j hs hj
    rw [enS] at hs
    rw [hm _ _ (by omega), hw _ (by omega)]
    exact h.sp s j hs hj
  · intro k c hk hc
    rw [hm _ _ (by omega), hw _ (by omega)]
    exact h.bk k c hk hc
  · intro f j hf hj
    rw [enF] at hf
    rw [hm _ _ (by omega), hw _ (by omega)]
    exact h.fd f j hf hj
  · intro f k hf hk
    rw [enF] at hf
    have ewt : wt w' f = wt w f := by unfold wt; rw [hw _ (by omega)]
    rw [ewt] at hk
    have v9 := v8 f hf
    rw [hm _ _ (by omega), hw _ (by omega)]
    exact h.re f k hf hk
  · intro k hk
    rw [enP] at hk
    rw [hm _ _ (by omega), hm _ _ (by omega), hm _ _ (by omega), hw _ (by omega), hw _ (by omega), hw _ (by omega)]
    exact h.st k hk
  · intro k hk
    rw [enP, hl _ _ (by omega)]
    have q0 := h.op k hk
    by_cases hk2 : k < nP w
    · rw [hw _ (by omega)]; exact q0
    · simp only [hk2, false_and] at q0 ⊢; exact q0
  · intro k hk
    rw [enP, hl _ _ (by omega)]
    have q0 := h.fl k hk
    by_cases hk2 : k < nP w
    · rw [hw _ (by omega)]; exact q0
    · simp only [hk2, false_and] at q0 ⊢; exact q0
  · intro k hk
    rw [enP] at hk
    rw [hm _ _ (by omega), hm _ _ (by omega), hw _ (by omega), hw _ (by omega), hw _ (by omega)]
    exact h.ta k hk
  · intro K k hK hk
    rw [enP, hl _ _ (by omega)]
    have q0 := h.kd K k hK hk
    by_cases hk2 : k < nP w
    · rw [hw _ (by omega)]; exact q0
    · simp only [hk2, false_and] at q0 ⊢; exact q0
  · rw [enL]
    obtain ⟨o, ho, h1, h2⟩ := h.lg
    refine ⟨o, ho, by rw [hm _ _ (by omega)]; exact h1, fun i hi => ?_⟩
    rw [hm _ _ (by omega), hm _ _ (by omega), hm _ _ (by omega), hw _ (by omega), hw _ (by omega), hw _ (by omega)]
    exact h2 i hi
  · rw [enQ]
    obtain ⟨p1, p2⟩ := h.pr
    have g3 : ∀ i : Nat, gi m' 43 i = gi m 43 i := fun i => hm _ _ (by omega)
    have g4 : ∀ i : Nat, gi m' 44 i = gi m 44 i := fun i => hm _ _ (by omega)
    refine ⟨fun a b => ?_, fun i j hi hj => by rw [g3, g3, g4, g4]; exact p2 i j hi hj⟩
    have k := p1 a b
    constructor
    · rintro ⟨i, hi, u1, u2⟩
      obtain ⟨j, hj, z1, z2⟩ := k.mp ⟨i, hi, by rw [← g3]; exact u1, by rw [← g4]; exact u2⟩
      exact ⟨j, hj, by rw [hw _ (by omega)]; exact z1, by rw [hw _ (by omega)]; exact z2⟩
    · rintro ⟨i, hi, u1, u2⟩
      rw [hw _ (by omega)] at u1 u2
      obtain ⟨j, hj, z1, z2⟩ := k.mpr ⟨i, hi, u1, u2⟩
      exact ⟨j, hj, by rw [g3]; exact z1, by rw [g4]; exact z2⟩
theorem R0.fFeed {m m' : MM} {w w' : Nat → Int32} (h : R0 m w) (hm : ∀ q k : Nat, ((q < 4 ∨ 24 ≤ q) ∧ (q ≠ 24 ∨ k ≠ 6) ∧ q ≠ 30) → gi m' q k = gi m q k) (hl : ∀ q k : Nat, (q = q ∧ k = k) → gl m' q k = gl m q k) (hw : ∀ i : Nat, (i ≠ 18 ∧ (i < 90 ∨ 240 ≤ i)) → w' i = w i) (t_vc : (nS w' ≤ 4 ∧ nT w' ≤ 6 ∧ nK w' ≤ 8 ∧ nF w' ≤ 10 ∧ nP w' ≤ 40 ∧ nQ w' ≤ 20 ∧ nL w' ≤ 40 ∧ ∀ f : Nat, f < nF w' → wt w' f ≤ 3)) (t_c18 : (gi m' 24 6 = w' 18)) (t_bk : (∀ k c : Nat, k < 8 → c < 5 → gi m' (30 + c) k = w' (90 + 5 * k + c))) (t_fd : (∀ f j : Nat, f < nF w' → j < 8 → gi m' (4 + f) (fj j) = w' (130 + 11 * f + j))) (t_re : (∀ f k : Nat, f < nF w' → k < wt w' f → gi m' (14 + f) k = w' (138 + 11 * f + k))) : R0 m' w' := by
  obtain ⟨v1, v2, v3, v4, v5, v6, v7, v8⟩ := h.vc
  have enS : nS w' = nS w := by unfold nS; rw [hw 15 (by omega)]
  have enT : nT w' = nT w := by unfold nT; rw [hw 16 (by omega)]
  have enK : nK w' = nK w := by unfold nK; rw [hw 17 (by omega)]
  have enP : nP w' = nP w := by unfold nP; rw [hw 19 (by omega)]
  have enQ : nQ w' = nQ w := by unfold nQ; rw [hw 20 (by omega)]
  have enL : nL w' = nL w := by unfold nL; rw [hw 28 (by omega)]
  refine ⟨?_, ?_, ?_, ?_, ?_, ?_, ?_, ?_, ?_, ?_, ?_, ?_, ?_, ?_, ?_, ?_, ?_, ?_, ?_, ?_, ?_, ?_, ?_, ?_, ?_, ?_, ?_, ?_, ?_, ?_, ?_⟩
  · exact t_vc
  · intro j hj
    rw [hm _ _ (by omega), hw _ (by omega)]
    exact h.set j hj
  · rw [hm _ _ (by omega), hw _ (by omega)]
    exact h.c15
  · rw [hm _ _ (by omega), hw _ (by omega)]
    exact h.c16
  · rw [hm _ _ (by omega), hw _ (by omega)]
    exact h.c17
  · exact t_c18
  · rw [hm _ _ (by omega), hw _ (by omega)]
    exact h.c19
  · rw [hm _ _ (by omega), hw _ (by omega)]
    exact h.c20
  · rw [hm _ _ (by omega), hw _ (by omega)]
    exact h.s21
  · rw [hm _ _ (by omega), hw _ (by omega)]
    exact h.s22
  · rw [hm _ _ (by omega), hw _ (by omega)]
    exact h.s23
  · rw [hm _ _ (by omega), hw _ (by omega)]
    exact h.s24
  · rw [hm _ _ (by omega), hw _ (by omega)]
    exact h.s25
  · rw [hm _ _ (by omega), hw _ (by omega)]
    exact h.s26
  · rw [hm _ _ (by omega), hw _ (by omega)]
    exact h.s27
  · rw [hm _ _ (by omega), hw _ (by omega)]
    exact h.s28
  · rw [hm _ _ (by omega), hw _ (by omega)]
    exact h.s29
  · intro a ha
    rw [hm _ _ (by omega), hw _ (by omega)]
    exact h.dn a ha
  · intro t ht
    rw [enT] at ht
    rw [hm _ _ (by omega), hw _ (by omega)]
    exact h.fr t ht
  · intro k hk
    rw [enK] at hk
    rw [hm _ _ (by omega), hw _ (by omega)]
    exact h.nz k hk
  · intro s j hs hj
    rw [enS] at hs
    rw [hm _ _ (by omega), hw _ (by omega)]
    exact h.sp s j hs hj
  · exact t_bk
  · exact t_fd
  · exact t_re
  · intro k hk
    rw [enP] at hk
    rw [hm _ _ (by omega), hm _ _ (by omega), hm _ _ (by omega), hw _ (by omega), hw _ (by omega), hw _ (by omega)]
    exact h.st k hk
  · intro k hk
    rw [enP, hl _ _ (by omega)]
    have q0 := h.op k hk
    by_cases hk2 : k < nP w
    · rw [hw _ (by omega)]; exact q0
    · simp only [hk2, false_and] at q0 ⊢; exact q0
  · intro k hk
    rw [enP, hl _ _ (by omega)]
    have q0 := h.fl k hk
    by_cases hk2 : k < nP w
    · rw [hw _ (by omega)]; exact q0
    · simp only [hk2, false_and] at q0 ⊢; exact q0
  · intro k hk
    rw [enP] at hk
    rw [hm _ _ (by omega), hm _ _ (by omega), hw _ (by omega), hw _ (by omega), hw _ (by omega)]
    exact h.ta k hk
  · intro K k hK hk
    rw [enP, hl _ _ (by omega)]
    have q0 := h.kd K k hK hk
    by_cases hk2 : k < nP w
    · rw [hw _ (by omega)]; exact q0
    · simp only [hk2, false_and] at q0 ⊢; exact q0
  · rw [enL]
    obtain ⟨o, ho, h1, h2⟩ := h.lg
    refine ⟨o, ho, by rw [hm _ _ (by omega)]; exact h1, fun i hi => ?_⟩
    rw [hm _ _ (by omega), hm _ _ (by omega), hm _ _ (by omega), hw _ (by omega), hw _ (by omega), hw _ (by omega)]
    exact h2 i hi
  · rw [enQ]
    obtain ⟨p1, p2⟩ := h.pr
    have g3 : ∀ i : Nat, gi m' 43 i = gi m 43 i := fun i => hm _ _ (by omega)
    have g4 : ∀ i : Nat, gi m' 44 i = gi m 44 i := fun i => hm _ _ (by omega)
    refine ⟨fun a b => ?_, fun i j hi hj => by rw [g3, g3, g4, g4]; exact p2 i j hi hj⟩
    have k := p1 a b
    constructor
    · rintro ⟨i, hi, u1, u2⟩
      obtain ⟨j, hj, z1, z2⟩ := k.mp ⟨i, hi, by rw [← g3]; exact u1, by rw [← g4]; exact u2⟩
      exact ⟨j, hj, by rw [hw _ (by omega)]; exact z1, by rw [hw _ (by omega)]; exact z2⟩
    · rintro ⟨i, hi, u1, u2⟩
      rw [hw _ (by omega)] at u1 u2
      obtain ⟨j, hj, z1, z2⟩ := k.mpr ⟨i, hi, u1, u2⟩
      exact ⟨j, hj, by rw [g3]; exact z1, by rw [g4]; exact z2⟩
theorem R0.fSpot {m m' : MM} {w w' : Nat → Int32} (h : R0 m w) (hm : ∀ q k : Nat, (q ≠ 37 ∧ q ≠ 38 ∧ q ≠ 39 ∧ (q ≠ 36 ∨ k ≠ 0)) → gi m' q k = gi m q k) (hl : ∀ q k : Nat, (q ≠ 42 ∧ q ≠ 36) → gl m' q k = gl m q k) (hw : ∀ i : Nat, (i ≠ 19 ∧ (i < 240 ∨ 480 ≤ i)) → w' i = w i) (t_vc : (nS w' ≤ 4 ∧ nT w' ≤ 6 ∧ nK w' ≤ 8 ∧ nF w' ≤ 10 ∧ nP w' ≤ 40 ∧ nQ w' ≤ 20 ∧ nL w' ≤ 40 ∧ ∀ f : Nat, f < nF w' → wt w' f ≤ 3)) (t_c19 : (gi m' 36 0 = w' 19)) (t_st : (∀ k : Nat, k < nP w' → gi m' 37 k = w' (240 + 6 * k) ∧ gi m' 38 k = w' (241 + 6 * k) ∧ gi m' 39 k = w' (242 + 6 * k))) (t_op : (∀ k : Nat, k < 64 → tb (gl m' 36 7) k = decide (k < nP w' ∧ w' (243 + 6 * k) = 0))) (t_fl : (∀ k : Nat, k < 64 → tb (gl m' 36 8) k = decide (k < nP w' ∧ w' (243 + 6 * k) = 1))) (t_ta : (∀ k : Nat, k < nP w' → w' (244 + 6 * k) = (if w' (243 + 6 * k) = 1 then gi m' 40 k else -1) ∧ w' (245 + 6 * k) = (if w' (243 + 6 * k) = 1 then gi m' 41 k else -1))) (t_kd : (∀ K k : Nat, K < 8 → k < 64 → tb (gl m' 42 K) k = decide (k < nP w' ∧ w' (240 + 6 * k) = I K))) : R0 m' w' := by
  obtain ⟨v1, v2, v3, v4, v5, v6, v7, v8⟩ := h.vc
  have enS : nS w' = nS w := by unfold nS; rw [hw 15 (by omega)]
  have enT : nT w' = nT w := by unfold nT; rw [hw 16 (by omega)]
  have enK : nK w' = nK w := by unfold nK; rw [hw 17 (by omega)]
  have enF : nF w' = nF w := by unfold nF; rw [hw 18 (by omega)]
  have enQ : nQ w' = nQ w := by unfold nQ; rw [hw 20 (by omega)]
  have enL : nL w' = nL w := by unfold nL; rw [hw 28 (by omega)]
  refine ⟨?_, ?_, ?_, ?_, ?_, ?_, ?_, ?_, ?_, ?_, ?_, ?_, ?_, ?_, ?_, ?_, ?_, ?_, ?_, ?_, ?_, ?_, ?_, ?_, ?_, ?_, ?_, ?_, ?_, ?_, ?_⟩
  · exact t_vc
  · intro j hj
    rw [hm _ _ (by omega), hw _ (by omega)]
    exact h.set j hj
  · rw [hm _ _ (by omega), hw _ (by omega)]
    exact h.c15
  · rw [hm _ _ (by omega), hw _ (by omega)]
    exact h.c16
  · rw [hm _ _ (by omega), hw _ (by omega)]
    exact h.c17
  · rw [hm _ _ (by omega), hw _ (by omega)]
    exact h.c18
  · exact t_c19
  · rw [hm _ _ (by omega), hw _ (by omega)]
    exact h.c20
  · rw [hm _ _ (by omega), hw _ (by omega)]
    exact h.s21
  · rw [hm _ _ (by omega), hw _ (by omega)]
    exact h.s22
  · rw [hm _ _ (by omega), hw _ (by omega)]
    exact h.s23
  · rw [hm _ _ (by omega), hw _ (by omega)]
    exact h.s24
  · rw [hm _ _ (by omega), hw _ (by omega)]
    exact h.s25
  · rw [hm _ _ (by omega), hw _ (by omega)]
    exact h.s26
  · rw [hm _ _ (by omega), hw _ (by omega)]
    exact h.s27
  · rw [hm _ _ (by omega), hw _ (by omega)]
    exact h.s28
  · rw [hm _ _ (by omega), hw _ (by omega)]
    exact h.s29
  · intro a ha
    rw [hm _ _ (by omega), hw _ (by omega)]
    exact h.dn a ha
  · intro t ht
    rw [enT] at ht
    rw [hm _ _ (by omega), hw _ (by omega)]
    exact h.fr t ht
  · intro k hk
    rw [enK] at hk
    rw [hm _ _ (by omega), hw _ (by omega)]
    exact h.nz k hk
  · intro s j hs hj
    rw [enS] at hs
    rw [hm _ _ (by omega), hw _ (by omega)]
    exact h.sp s j hs hj
  · intro k c hk hc
    rw [hm _ _ (by omega), hw _ (by omega)]
    exact h.bk k c hk hc
  · intro f j hf hj
    rw [enF] at hf
    rw [hm _ _ (by omega), hw _ (by omega)]
    exact h.fd f j hf hj
  · intro f k hf hk
    rw [enF] at hf
    have ewt : wt w' f = wt w f := by unfold wt; rw [hw _ (by omega)]
    rw [ewt] at hk
    have v9 := v8 f hf
    rw [hm _ _ (by omega), hw _ (by omega)]
    exact h.re f k hf hk
  · exact t_st
  · exact t_op
  · exact t_fl
  · exact t_ta
  · exact t_kd
  · rw [enL]
    obtain ⟨o, ho, h1, h2⟩ := h.lg
    refine ⟨o, ho, by rw [hm _ _ (by omega)]; exact h1, fun i hi => ?_⟩
    rw [hm _ _ (by omega), hm _ _ (by omega), hm _ _ (by omega), hw _ (by omega), hw _ (by omega), hw _ (by omega)]
    exact h2 i hi
  · rw [enQ]
    obtain ⟨p1, p2⟩ := h.pr
    have g3 : ∀ i : Nat, gi m' 43 i = gi m 43 i := fun i => hm _ _ (by omega)
    have g4 : ∀ i : Nat, gi m' 44 i = gi m 44 i := fun i => hm _ _ (by omega)
    refine ⟨fun a b => ?_, fun i j hi hj => by rw [g3, g3, g4, g4]; exact p2 i j hi hj⟩
    have k := p1 a b
    constructor
    · rintro ⟨i, hi, u1, u2⟩
      obtain ⟨j, hj, z1, z2⟩ := k.mp ⟨i, hi, by rw [← g3]; exact u1, by rw [← g4]; exact u2⟩
      exact ⟨j, hj, by rw [hw _ (by omega)]; exact z1, by rw [hw _ (by omega)]; exact z2⟩
    · rintro ⟨i, hi, u1, u2⟩
      rw [hw _ (by omega)] at u1 u2
      obtain ⟨j, hj, z1, z2⟩ := k.mpr ⟨i, hi, u1, u2⟩
      exact ⟨j, hj, by rw [g3]; exact z1, by rw [g4]; exact z2⟩
