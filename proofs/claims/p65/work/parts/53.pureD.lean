/-! PURE: the machine of the class and the row of the reference -/
def nS (w : Nat → Int32) : Nat := (w 15).toNatClampNeg
def nT (w : Nat → Int32) : Nat := (w 16).toNatClampNeg
def nK (w : Nat → Int32) : Nat := (w 17).toNatClampNeg
def nF (w : Nat → Int32) : Nat := (w 18).toNatClampNeg
def nP (w : Nat → Int32) : Nat := (w 19).toNatClampNeg
def nQ (w : Nat → Int32) : Nat := (w 20).toNatClampNeg
def nL (w : Nat → Int32) : Nat := (w 28).toNatClampNeg
def wt (w : Nat → Int32) (f : Nat) : Nat := (w (134 + 11 * f)).toNatClampNeg
/-- the field of a feeder in which the reference's number j stands -/
def fj (j : Nat) : Nat := if j < 5 then j else j + 1
theorem fj_inj {a b : Nat} (h : fj a = fj b) : a = b := by
  unfold fj at h
  split at h <;> split at h <;> omega
/-- m and w tell the same, but for the times that actions took -/
def R0 (m : MM) (w : Nat → Int32) : Prop :=
  (nS w ≤ 4 ∧ nT w ≤ 6 ∧ nK w ≤ 8 ∧ nF w ≤ 10 ∧ nP w ≤ 40 ∧ nQ w ≤ 20 ∧ nL w ≤ 40 ∧ ∀ f : Nat, f < nF w → wt w f ≤ 3) ∧
  (∀ j : Nat, j < 15 → gi m 25 j = w j) ∧
  (gi m 24 1 = w 15) ∧
  (gi m 24 3 = w 16) ∧
  (gi m 28 0 = w 17) ∧
  (gi m 24 6 = w 18) ∧
  (gi m 36 0 = w 19) ∧
  (gi m 36 9 = w 20) ∧
  (gi m 24 11 = w 21) ∧
  (gi m 24 12 = w 22) ∧
  (gi m 24 13 = w 23) ∧
  (gi m 24 9 = w 24) ∧
  (gi m 24 14 = w 25) ∧
  (gi m 45 7 = w 26) ∧
  (gi m 45 8 = w 27) ∧
  (gi m 45 0 = w 28) ∧
  (gi m 24 15 = w 29) ∧
  (∀ a : Nat, a < 7 → gi m 49 a = w (30 + a)) ∧
  (∀ t : Nat, t < nT w → gi m 27 t = w (44 + t)) ∧
  (∀ k : Nat, k < nK w → gi m 29 k = w (50 + k)) ∧
  (∀ s j : Nat, s < nS w → j < 8 → gi m s j = w (58 + 8 * s + j)) ∧
  (∀ k c : Nat, k < 8 → c < 5 → gi m (30 + c) k = w (90 + 5 * k + c)) ∧
  (∀ f j : Nat, f < nF w → j < 8 → gi m (4 + f) (fj j) = w (130 + 11 * f + j)) ∧
  (∀ f k : Nat, f < nF w → k < wt w f → gi m (14 + f) k = w (138 + 11 * f + k)) ∧
  (∀ k : Nat, k < nP w → gi m 37 k = w (240 + 6 * k) ∧ gi m 38 k = w (241 + 6 * k) ∧ gi m 39 k = w (242 + 6 * k)) ∧
  (∀ k : Nat, k < 64 → tb (gl m 36 7) k = decide (k < nP w ∧ w (243 + 6 * k) = 0)) ∧
  (∀ k : Nat, k < 64 → tb (gl m 36 8) k = decide (k < nP w ∧ w (243 + 6 * k) = 1)) ∧
  (∀ k : Nat, k < nP w → w (244 + 6 * k) = (if w (243 + 6 * k) = 1 then gi m 40 k else -1) ∧ w (245 + 6 * k) = (if w (243 + 6 * k) = 1 then gi m 41 k else -1)) ∧
  (∀ K k : Nat, K < 8 → k < 64 → tb (gl m 42 K) k = decide (k < nP w ∧ w (240 + 6 * k) = I K)) ∧
  (∃ o : Nat, o < 40 ∧ gi m 45 1 = I o ∧ ∀ i : Nat, i < nL w → gi m 46 ((o + i) % 40) = w (480 + 3 * i) ∧ gi m 47 ((o + i) % 40) = w (481 + 3 * i) ∧ gi m 48 ((o + i) % 40) = w (482 + 3 * i)) ∧
  ((∀ a b : Int32, (∃ i : Nat, i < nQ w ∧ gi m 43 i = a ∧ gi m 44 i = b) ↔ ∃ i : Nat, i < nQ w ∧ w (600 + 2 * i) = a ∧ w (601 + 2 * i) = b) ∧ ∀ i j : Nat, i < nQ w → j < nQ w → gi m 43 i = gi m 43 j → gi m 44 i = gi m 44 j → i = j)
theorem R0.vc {m : MM} {w : Nat → Int32} (h : R0 m w) : (nS w ≤ 4 ∧ nT w ≤ 6 ∧ nK w ≤ 8 ∧ nF w ≤ 10 ∧ nP w ≤ 40 ∧ nQ w ≤ 20 ∧ nL w ≤ 40 ∧ ∀ f : Nat, f < nF w → wt w f ≤ 3) := h.1
theorem R0.set {m : MM} {w : Nat → Int32} (h : R0 m w) : (∀ j : Nat, j < 15 → gi m 25 j = w j) := h.2.1
theorem R0.c15 {m : MM} {w : Nat → Int32} (h : R0 m w) : (gi m 24 1 = w 15) := h.2.2.1
theorem R0.c16 {m : MM} {w : Nat → Int32} (h : R0 m w) : (gi m 24 3 = w 16) := h.2.2.2.1
theorem R0.c17 {m : MM} {w : Nat → Int32} (h : R0 m w) : (gi m 28 0 = w 17) := h.2.2.2.2.1
theorem R0.c18 {m : MM} {w : Nat → Int32} (h : R0 m w) : (gi m 24 6 = w 18) := h.2.2.2.2.2.1
theorem R0.c19 {m : MM} {w : Nat → Int32} (h : R0 m w) : (gi m 36 0 = w 19) := h.2.2.2.2.2.2.1
theorem R0.c20 {m : MM} {w : Nat → Int32} (h : R0 m w) : (gi m 36 9 = w 20) := h.2.2.2.2.2.2.2.1
theorem R0.s21 {m : MM} {w : Nat → Int32} (h : R0 m w) : (gi m 24 11 = w 21) := h.2.2.2.2.2.2.2.2.1
theorem R0.s22 {m : MM} {w : Nat → Int32} (h : R0 m w) : (gi m 24 12 = w 22) := h.2.2.2.2.2.2.2.2.2.1
theorem R0.s23 {m : MM} {w : Nat → Int32} (h : R0 m w) : (gi m 24 13 = w 23) := h.2.2.2.2.2.2.2.2.2.2.1
theorem R0.s24 {m : MM} {w : Nat → Int32} (h : R0 m w) : (gi m 24 9 = w 24) := h.2.2.2.2.2.2.2.2.2.2.2.1
theorem R0.s25 {m : MM} {w : Nat → Int32} (h : R0 m w) : (gi m 24 14 = w 25) := h.2.2.2.2.2.2.2.2.2.2.2.2.1
theorem R0.s26 {m : MM} {w : Nat → Int32} (h : R0 m w) : (gi m 45 7 = w 26) := h.2.2.2.2.2.2.2.2.2.2.2.2.2.1
theorem R0.s27 {m : MM} {w : Nat → Int32} (h : R0 m w) : (gi m 45 8 = w 27) := h.2.2.2.2.2.2.2.2.2.2.2.2.2.2.1
theorem R0.s28 {m : MM} {w : Nat → Int32} (h : R0 m w) : (gi m 45 0 = w 28) := h.2.2.2.2.2.2.2.2.2.2.2.2.2.2.2.1
theorem R0.s29 {m : MM} {w : Nat → Int32} (h : R0 m w) : (gi m 24 15 = w 29) := h.2.2.2.2.2.2.2.2.2.2.2.2.2.2.2.2.1
theorem R0.dn {m : MM} {w : Nat → Int32} (h : R0 m w) : (∀ a : Nat, a < 7 → gi m 49 a = w (30 + a)) := h.2.2.2.2.2.2.2.2.2.2.2.2.2.2.2.2.2.1
theorem R0.fr {m : MM} {w : Nat → Int32} (h : R0 m w) : (∀ t : Nat, t < nT w → gi m 27 t = w (44 + t)) := h.2.2.2.2.2.2.2.2.2.2.2.2.2.2.2.2.2.2.1
theorem R0.nz {m : MM} {w : Nat → Int32} (h : R0 m w) : (∀ k : Nat, k < nK w → gi m 29 k = w (50 + k)) := h.2.2.2.2.2.2.2.2.2.2.2.2.2.2.2.2.2.2.2.1
theorem R0.sp {m : MM} {w : Nat → Int32} (h : R0 m w) : (∀ s j : Nat, s < nS w → j < 8 → gi m s j = w (58 + 8 * s + j)) := h.2.2.2.2.2.2.2.2.2.2.2.2.2.2.2.2.2.2.2.2.1
theorem R0.bk {m : MM} {w : Nat → Int32} (h : R0 m w) : (∀ k c : Nat, k < 8 → c < 5 → gi m (30 + c) k = w (90 + 5 * k + c)) := h.2.2.2.2.2.2.2.2.2.2.2.2.2.2.2.2.2.2.2.2.2.1
theorem R0.fd {m : MM} {w : Nat → Int32} (h : R0 m w) : (∀ f j : Nat, f < nF w → j < 8 → gi m (4 + f) (fj j) = w (130 + 11 * f + j)) := h.2.2.2.2.2.2.2.2.2.2.2.2.2.2.2.2.2.2.2.2.2.2.1
theorem R0.re {m : MM} {w : Nat → Int32} (h : R0 m w) : (∀ f k : Nat, f < nF w → k < wt w f → gi m (14 + f) k = w (138 + 11 * f + k)) := h.2.2.2.2.2.2.2.2.2.2.2.2.2.2.2.2.2.2.2.2.2.2.2.1
theorem R0.st {m : MM} {w : Nat → Int32} (h : R0 m w) : (∀ k : Nat, k < nP w → gi m 37 k = w (240 + 6 * k) ∧ gi m 38 k = w (241 + 6 * k) ∧ gi m 39 k = w (242 + 6 * k)) := h.2.2.2.2.2.2.2.2.2.2.2.2.2.2.2.2.2.2.2.2.2.2.2.2.1
theorem R0.op {m : MM} {w : Nat → Int32} (h : R0 m w) : (∀ k : Nat, k < 64 → tb (gl m 36 7) k = decide (k < nP w ∧ w (243 + 6 * k) = 0)) := h.2.2.2.2.2.2.2.2.2.2.2.2.2.2.2.2.2.2.2.2.2.2.2.2.2.1
theorem R0.fl {m : MM} {w : Nat → Int32} (h : R0 m w) : (∀ k : Nat, k < 64 → tb (gl m 36 8) k = decide (k < nP w ∧ w (243 + 6 * k) = 1)) := h.2.2.2.2.2.2.2.2.2.2.2.2.2.2.2.2.2.2.2.2.2.2.2.2.2.2.1
theorem R0.ta {m : MM} {w : Nat → Int32} (h : R0 m w) : (∀ k : Nat, k < nP w → w (244 + 6 * k) = (if w (243 + 6 * k) = 1 then gi m 40 k else -1) ∧ w (245 + 6 * k) = (if w (243 + 6 * k) = 1 then gi m 41 k else -1)) := h.2.2.2.2.2.2.2.2.2.2.2.2.2.2.2.2.2.2.2.2.2.2.2.2.2.2.2.1
theorem R0.kd {m : MM} {w : Nat → Int32} (h : R0 m w) : (∀ K k : Nat, K < 8 → k < 64 → tb (gl m 42 K) k = decide (k < nP w ∧ w (240 + 6 * k) = I K)) := h.2.2.2.2.2.2.2.2.2.2.2.2.2.2.2.2.2.2.2.2.2.2.2.2.2.2.2.2.1
theorem R0.lg {m : MM} {w : Nat → Int32} (h : R0 m w) : (∃ o : Nat, o < 40 ∧ gi m 45 1 = I o ∧ ∀ i : Nat, i < nL w → gi m 46 ((o + i) % 40) = w (480 + 3 * i) ∧ gi m 47 ((o + i) % 40) = w (481 + 3 * i) ∧ gi m 48 ((o + i) % 40) = w (482 + 3 * i)) := h.2.2.2.2.2.2.2.2.2.2.2.2.2.2.2.2.2.2.2.2.2.2.2.2.2.2.2.2.2.1
theorem R0.pr {m : MM} {w : Nat → Int32} (h : R0 m w) : ((∀ a b : Int32, (∃ i : Nat, i < nQ w ∧ gi m 43 i = a ∧ gi m 44 i = b) ↔ ∃ i : Nat, i < nQ w ∧ w (600 + 2 * i) = a ∧ w (601 + 2 * i) = b) ∧ ∀ i j : Nat, i < nQ w → j < nQ w → gi m 43 i = gi m 43 j → gi m 44 i = gi m 44 j → i = j) := h.2.2.2.2.2.2.2.2.2.2.2.2.2.2.2.2.2.2.2.2.2.2.2.2.2.2.2.2.2.2
theorem nS_u {w : Nat → Int32} {i : Nat} {v : Int32} (h : i ≠ 15) : nS (upd w i v) = nS w := by unfold nS; rw [upd_ne (Ne.symm h)]
theorem nT_u {w : Nat → Int32} {i : Nat} {v : Int32} (h : i ≠ 16) : nT (upd w i v) = nT w := by unfold nT; rw [upd_ne (Ne.symm h)]
theorem nK_u {w : Nat → Int32} {i : Nat} {v : Int32} (h : i ≠ 17) : nK (upd w i v) = nK w := by unfold nK; rw [upd_ne (Ne.symm h)]
theorem nF_u {w : Nat → Int32} {i : Nat} {v : Int32} (h : i ≠ 18) : nF (upd w i v) = nF w := by unfold nF; rw [upd_ne (Ne.symm h)]
theorem nP_u {w : Nat → Int32} {i : Nat} {v : Int32} (h : i ≠ 19) : nP (upd w i v) = nP w := by unfold nP; rw [upd_ne (Ne.symm h)]
theorem nQ_u {w : Nat → Int32} {i : Nat} {v : Int32} (h : i ≠ 20) : nQ (upd w i v) = nQ w := by unfold nQ; rw [upd_ne (Ne.symm h)]
theorem nL_u {w : Nat → Int32} {i : Nat} {v : Int32} (h : i ≠ 28) : nL (upd w i v) = nL w := by unfold nL; rw [upd_ne (Ne.symm h)]
theorem wt_u {w : Nat → Int32} {i f : Nat} {v : Int32} (h : i ≠ 134 + 11 * f) : wt (upd w i v) f = wt w f := by unfold wt; rw [upd_ne (Ne.symm h)]
theorem R0.ws21 {m : MM} {w : Nat → Int32} (h : R0 m w) (v : Int32) : R0 (si m 24 11 v) (upd w 21 v) := by
  obtain ⟨v1, v2, v3, v4, v5, v6, v7, v8⟩ := h.vc
  have enS : nS (upd w 21 v) = nS w := nS_u (by omega)
  have enT : nT (upd w 21 v) = nT w := nT_u (by omega)
  have enK : nK (upd w 21 v) = nK w := nK_u (by omega)
  have enF : nF (upd w 21 v) = nF w := nF_u (by omega)
  have enP : nP (upd w 21 v) = nP w := nP_u (by omega)
  have enQ : nQ (upd w 21 v) = nQ w := nQ_u (by omega)
  have enL : nL (upd w 21 v) = nL w := nL_u (by omega)
  refine ⟨?_, ?_, ?_, ?_, ?_, ?_, ?_, ?_, ?_, ?_, ?_, ?_, ?_, ?_, ?_, ?_, ?_, ?_, ?_, ?_, ?_, ?_, ?_, ?_, ?_, ?_, ?_, ?_, ?_, ?_, ?_⟩
  · rw [enS, enT, enK, enF, enP, enQ, enL]
    exact ⟨v1, v2, v3, v4, v5, v6, v7, fun f hf => by rw [wt_u (by omega)]; exact v8 f hf⟩
  · intro j hj
    rw [gi_si_ne (by omega), upd_ne (by omega)]
    exact h.set j hj
  · rw [gi_si_ne (by omega), upd_ne (by omega)]
    exact h.c15
  · rw [gi_si_ne (by omega), upd_ne (by omega)]
    exact h.c16
  · rw [gi_si_ne (by omega), upd_ne (by omega)]
    exact h.c17
  · rw [gi_si_ne (by omega), upd_ne (by omega)]
    exact h.c18
  · rw [gi_si_ne (by omega), upd_ne (by omega)]
    exact h.c19
  · rw [gi_si_ne (by omega), upd_ne (by omega)]
    exact h.c20
  · rw [gi_si_eq, upd_eq]
  · rw [gi_si_ne (by omega), upd_ne (by omega)]
    exact h.s22
  · rw [gi_si_ne (by omega), upd_ne (by omega)]
    exact h.s23
  · rw [gi_si_ne (by omega), upd_ne (by omega)]
    exact h.s24
  · rw [gi_si_ne (by omega), upd_ne (by omega)]
    exact h.s25
  · rw [gi_si_ne (by omega), upd_ne (by omega)]
    exact h.s26
  · rw [gi_si_ne (by omega), upd_ne (by omega)]
    exact h.s27
  · rw [gi_si_ne (by omega), upd_ne (by omega)]
    exact h.s28
  · rw [gi_si_ne (by omega), upd_ne (by omega)]
    exact h.s29
  · intro a ha
    rw [gi_si_ne (by omega), upd_ne (by omega)]
    exact h.dn a ha
  · intro t ht
    rw [enT] at ht
    rw [gi_si_ne (by omega), upd_ne (by omega)]
    exact h.fr t ht
  · intro k hk
    rw [enK] at hk
    rw [gi_si_ne (by omega), upd_ne (by omega)]
    exact h.nz k hk
  · intro s j hs hj
    rw [enS] at hs
    rw [gi_si_ne (by omega), upd_ne (by omega)]
    exact h.sp s j hs hj
  · intro k c hk hc
    rw [gi_si_ne (by omega), upd_ne (by omega)]
    exact h.bk k c hk hc
  · intro f j hf hj
    rw [enF] at hf
    rw [gi_si_ne (by omega), upd_ne (by omega)]
    exact h.fd f j hf hj
  · intro f k hf hk
    rw [enF] at hf
    rw [wt_u (by omega)] at hk
    have v9 := v8 f hf
    rw [gi_si_ne (by omega), upd_ne (by omega)]
    exact h.re f k hf hk
  · intro k hk
    rw [enP] at hk
    rw [gi_si_ne (by omega), gi_si_ne (by omega), gi_si_ne (by omega), upd_ne (by omega), upd_ne (by omega), upd_ne (by omega)]
    exact h.st k hk
  · intro k hk
    have h9 := h.op k hk
    rw [enP]
    rw [gl_si]
    rw [upd_ne (by omega)]
    exact h9
  · intro k hk
    have h9 := h.fl k hk
    rw [enP]
    rw [gl_si]
    rw [upd_ne (by omega)]
    exact h9
  · intro k hk
    rw [enP] at hk
    rw [gi_si_ne (by omega), gi_si_ne (by omega), upd_ne (by omega), upd_ne (by omega), upd_ne (by omega)]
    exact h.ta k hk
  · intro K k hK hk
    have h9 := h.kd K k hK hk
    rw [enP]
    rw [gl_si]
    rw [upd_ne (by omega)]
    exact h9
  · rw [enL]
    obtain ⟨o, ho, h1, h2⟩ := h.lg
    refine ⟨o, ho, by rw [gi_si_ne (by omega)]; exact h1, fun i hi => ?_⟩
    rw [gi_si_ne (by omega), gi_si_ne (by omega), gi_si_ne (by omega)]
    have u1 := enL ▸ hi
    rw [upd_ne (by omega), upd_ne (by omega), upd_ne (by omega)]
    exact h2 i hi
  · rw [enQ]
    obtain ⟨p1, p2⟩ := h.pr
    have g3 : ∀ i : Nat, gi (si m 24 11 v) 43 i = gi m 43 i := fun i => gi_si_ne (by omega)
    have g4 : ∀ i : Nat, gi (si m 24 11 v) 44 i = gi m 44 i := fun i => gi_si_ne (by omega)
    have g5 : ∀ i : Nat, (upd w 21 v) (600 + 2 * i) = w (600 + 2 * i) := fun i => upd_ne (by omega)
    have g6 : ∀ i : Nat, (upd w 21 v) (601 + 2 * i) = w (601 + 2 * i) := fun i => upd_ne (by omega)
    simp only [g3, g4, g5, g6]
    exact ⟨p1, p2⟩
theorem R0.ws22 {m : MM} {w : Nat → Int32} (h : R0 m w) (v : Int32) : R0 (si m 24 12 v) (upd w 22 v) := by
  obtain ⟨v1, v2, v3, v4, v5, v6, v7, v8⟩ := h.vc
  have enS : nS (upd w 22 v) = nS w := nS_u (by omega)
  have enT : nT (upd w 22 v) = nT w := nT_u (by omega)
  have enK : nK (upd w 22 v) = nK w := nK_u (by omega)
  have enF : nF (upd w 22 v) = nF w := nF_u (by omega)
  have enP : nP (upd w 22 v) = nP w := nP_u (by omega)
  have enQ : nQ (upd w 22 v) = nQ w := nQ_u (by omega)
  have enL : nL (upd w 22 v) = nL w := nL_u (by omega)
  refine ⟨?_, ?_, ?_, ?_, ?_, ?_, ?_, ?_, ?_, ?_, ?_, ?_, ?_, ?_, ?_, ?_, ?_, ?_, ?_, ?_, ?_, ?_, ?_, ?_, ?_, ?_, ?_, ?_, ?_, ?_, ?_⟩
  · rw [enS, enT, enK, enF, enP, enQ, enL]
    exact ⟨v1, v2, v3, v4, v5, v6, v7, fun f hf => by rw [wt_u (by omega)]; exact v8 f hf⟩
  · intro j hj
    rw [gi_si_ne (by omega), upd_ne (by omega)]
    exact h.set j hj
  · rw [gi_si_ne (by omega), upd_ne (by omega)]
    exact h.c15
  · rw [gi_si_ne (by omega), upd_ne (by omega)]
    exact h.c16
  · rw [gi_si_ne (by omega), upd_ne (by omega)]
    exact h.c17
  · rw [gi_si_ne (by omega), upd_ne (by omega)]
    exact h.c18
  · rw [gi_si_ne (by omega), upd_ne (by omega)]
    exact h.c19
  · rw [gi_si_ne (by omega), upd_ne (by omega)]
    exact h.c20
  · rw [gi_si_ne (by omega), upd_ne (by omega)]
    exact h.s21
  · rw [gi_si_eq, upd_eq]
  · rw [gi_si_ne (by omega), upd_ne (by omega)]
    exact h.s23
  · rw [gi_si_ne (by omega), upd_ne (by omega)]
    exact h.s24
  · rw [gi_si_ne (by omega), upd_ne (by omega)]
    exact h.s25
  · rw [gi_si_ne (by omega), upd_ne (by omega)]
    exact h.s26
  · rw [gi_si_ne (by omega), upd_ne (by omega)]
    exact h.s27
  · rw [gi_si_ne (by omega), upd_ne (by omega)]
    exact h.s28
  · rw [gi_si_ne (by omega), upd_ne (by omega)]
    exact h.s29
  · intro a ha
    rw [gi_si_ne (by omega), upd_ne (by omega)]
    exact h.dn a ha
  · intro t ht
    rw [enT] at ht
    rw [gi_si_ne (by omega), upd_ne (by omega)]
    exact h.fr t ht
  · intro k hk
    rw [enK] at hk
    rw [gi_si_ne (by omega), upd_ne (by omega)]
    exact h.nz k hk
  · intro s j hs hj
    rw [enS] at hs
    rw [gi_si_ne (by omega), upd_ne (by omega)]
    exact h.sp s j hs hj
  · intro k c hk hc
    rw [gi_si_ne (by omega), upd_ne (by omega)]
    exact h.bk k c hk hc
  · intro f j hf hj
    rw [enF] at hf
    rw [gi_si_ne (by omega), upd_ne (by omega)]
    exact h.fd f j hf hj
  · intro f k hf hk
    rw [enF] at hf
    rw [wt_u (by omega)] at hk
    have v9 := v8 f hf
    rw [gi_si_ne (by omega), upd_ne (by omega)]
    exact h.re f k hf hk
  · intro k hk
    rw [enP] at hk
    rw [gi_si_ne (by omega), gi_si_ne (by omega), gi_si_ne (by omega), upd_ne (by omega), upd_ne (by omega), upd_ne (by omega)]
    exact h.st k hk
  · intro k hk
    have h9 := h.op k hk
    rw [enP]
    rw [gl_si]
    rw [upd_ne (by omega)]
    exact h9
  · intro k hk
    have h9 := h.fl k hk
    rw [enP]
    rw [gl_si]
    rw [upd_ne (by omega)]
    exact h9
  · intro k hk
    rw [enP] at hk
    rw [gi_si_ne (by omega), gi_si_ne (by omega), upd_ne (by omega), upd_ne (by omega), upd_ne (by omega)]
    exact h.ta k hk
  · intro K k hK hk
    have h9 := h.kd K k hK hk
    rw [enP]
    rw [gl_si]
    rw [upd_ne (by omega)]
    exact h9
  · rw [enL]
    obtain ⟨o, ho, h1, h2⟩ := h.lg
    refine ⟨o, ho, by rw [gi_si_ne (by omega)]; exact h1, fun i hi => ?_⟩
    rw [gi_si_ne (by omega), gi_si_ne (by omega), gi_si_ne (by omega)]
    have u1 := enL ▸ hi
    rw [upd_ne (by omega), upd_ne (by omega), upd_ne (by omega)]
    exact h2 i hi
  · rw [enQ]
    obtain ⟨p1, p2⟩ := h.pr
    have g3 : ∀ i : Nat, gi (si m 24 12 v) 43 i = gi m 43 i := fun i => gi_si_ne (by omega)
    have g4 : ∀ i : Nat, gi (si m 24 12 v) 44 i = gi m 44 i := fun i => gi_si_ne (by omega)
    have g5 : ∀ i : Nat, (upd w 22 v) (600 + 2 * i) = w (600 + 2 * i) := fun i => upd_ne (by omega)
    have g6 : ∀ i : Nat, (upd w 22 v) (601 + 2 * i) = w (601 + 2 * i) := fun i => upd_ne (by omega)
    simp only [g3, g4, g5, g6]
    exact ⟨p1, p2⟩
theorem R0.ws23 {m : MM} {w : Nat → Int32} (h : R0 m w) (v : Int32) : R0 (si m 24 13 v) (upd w 23 v) := by
  obtain ⟨v1, v2, v3, v4, v5, v6, v7, v8⟩ := h.vc
  have enS : nS (upd w 23 v) = nS w := nS_u (by omega)
  have enT : nT (upd w 23 v) = nT w := nT_u (by omega)
  have enK : nK (upd w 23 v) = nK w := nK_u (by omega)
  have enF : nF (upd w 23 v) = nF w := nF_u (by omega)
  have enP : nP (upd w 23 v) = nP w := nP_u (by omega)
  have enQ : nQ (upd w 23 v) = nQ w := nQ_u (by omega)
  have enL : nL (upd w 23 v) = nL w := nL_u (by omega)
  refine ⟨?_, ?_, ?_, ?_, ?_, ?_, ?_, ?_, ?_, ?_, ?_, ?_, ?_, ?_, ?_, ?_, ?_, ?_, ?_, ?_, ?_, ?_, ?_, ?_, ?_, ?_, ?_, ?_, ?_, ?_, ?_⟩
  · rw [enS, enT, enK, enF, enP, enQ, enL]
    exact ⟨v1, v2, v3, v4, v5, v6, v7, fun f hf => by rw [wt_u (by omega)]; exact v8 f hf⟩
  · intro j hj
    rw [gi_si_ne (by omega), upd_ne (by omega)]
    exact h.set j hj
  · rw [gi_si_ne (by omega), upd_ne (by omega)]
    exact h.c15
  · rw [gi_si_ne (by omega), upd_ne (by omega)]
    exact h.c16
  · rw [gi_si_ne (by omega), upd_ne (by omega)]
    exact h.c17
  · rw [gi_si_ne (by omega), upd_ne (by omega)]
    exact h.c18
  · rw [gi_si_ne (by omega), upd_ne (by omega)]
    exact h.c19
  · rw [gi_si_ne (by omega), upd_ne (by omega)]
    exact h.c20
  · rw [gi_si_ne (by omega), upd_ne (by omega)]
    exact h.s21
  · rw [gi_si_ne (by omega), upd_ne (by omega)]
    exact h.s22
  · rw [gi_si_eq, upd_eq]
  · rw [gi_si_ne (by omega), upd_ne (by omega)]
    exact h.s24
  · rw [gi_si_ne (by omega), upd_ne (by omega)]
    exact h.s25
  · rw [gi_si_ne (by omega), upd_ne (by omega)]
    exact h.s26
  · rw [gi_si_ne (by omega), upd_ne (by omega)]
    exact h.s27
  · rw [gi_si_ne (by omega), upd_ne (by omega)]
    exact h.s28
  · rw [gi_si_ne (by omega), upd_ne (by omega)]
    exact h.s29
  · intro a ha
    rw [gi_si_ne (by omega), upd_ne (by omega)]
    exact h.dn a ha
  · intro t ht
    rw [enT] at ht
    rw [gi_si_ne (by omega), upd_ne (by omega)]
    exact h.fr t ht
  · intro k hk
    rw [enK] at hk
    rw [gi_si_ne (by omega), upd_ne (by omega)]
    exact h.nz k hk
  · intro s j hs hj
    rw [enS] at hs
    rw [gi_si_ne (by omega), upd_ne (by omega)]
    exact h.sp s j hs hj
  · intro k c hk hc
    rw [gi_si_ne (by omega), upd_ne (by omega)]
    exact h.bk k c hk hc
  · intro f j hf hj
    rw [enF] at hf
    rw [gi_si_ne (by omega), upd_ne (by omega)]
    exact h.fd f j hf hj
  · intro f k hf hk
    rw [enF] at hf
    rw [wt_u (by omega)] at hk
    have v9 := v8 f hf
    rw [gi_si_ne (by omega), upd_ne (by omega)]
    exact h.re f k hf hk
  · intro k hk
    rw [enP] at hk
    rw [gi_si_ne (by omega), gi_si_ne (by omega), gi_si_ne (by omega), upd_ne (by omega), upd_ne (by omega), upd_ne (by omega)]
    exact h.st k hk
  · intro k hk
    have h9 := h.op k hk
    rw [enP]
    rw [gl_si]
    rw [upd_ne (by omega)]
    exact h9
  · intro k hk
    have h9 := h.fl k hk
    rw [enP]
    rw [gl_si]
    rw [upd_ne (by omega)]
    exact h9
  · intro k hk
    rw [enP] at hk
    rw [gi_si_ne (by omega), gi_si_ne (by omega), upd_ne (by omega), upd_ne (by omega), upd_ne (by omega)]
    exact h.ta k hk
  · intro K k hK hk
    have h9 := h.kd K k hK hk
    rw [enP]
    rw [gl_si]
    rw [upd_ne (by omega)]
    exact h9
  · rw [enL]
    obtain ⟨o, ho, h1, h2⟩ := h.lg
    refine ⟨o, ho, by rw [gi_si_ne (by omega)]; exact h1, fun i hi => ?_⟩
    rw [gi_si_ne (by omega), gi_si_ne (by omega), gi_si_ne (by omega)]
    have u1 := enL ▸ hi
    rw [upd_ne (by omega), upd_ne (by omega), upd_ne (by omega)]
    exact h2 i hi
  · rw [enQ]
    obtain ⟨p1, p2⟩ := h.pr
    have g3 : ∀ i : Nat, gi (si m 24 13 v) 43 i = gi m 43 i := fun i => gi_si_ne (by omega)
    have g4 : ∀ i : Nat, gi (si m 24 13 v) 44 i = gi m 44 i := fun i => gi_si_ne (by omega)
    have g5 : ∀ i : Nat, (upd w 23 v) (600 + 2 * i) = w (600 + 2 * i) := fun i => upd_ne (by omega)
    have g6 : ∀ i : Nat, (upd w 23 v) (601 + 2 * i) = w (601 + 2 * i) := fun i => upd_ne (by omega)
    simp only [g3, g4, g5, g6]
    exact ⟨p1, p2⟩
theorem R0.ws24 {m : MM} {w : Nat → Int32} (h : R0 m w) (v : Int32) : R0 (si m 24 9 v) (upd w 24 v) := by
  obtain ⟨v1, v2, v3, v4, v5, v6, v7, v8⟩ := h.vc
  have enS : nS (upd w 24 v) = nS w := nS_u (by omega)
  have enT : nT (upd w 24 v) = nT w := nT_u (by omega)
  have enK : nK (upd w 24 v) = nK w := nK_u (by omega)
  have enF : nF (upd w 24 v) = nF w := nF_u (by omega)
  have enP : nP (upd w 24 v) = nP w := nP_u (by omega)
  have enQ : nQ (upd w 24 v) = nQ w := nQ_u (by omega)
  have enL : nL (upd w 24 v) = nL w := nL_u (by omega)
  refine ⟨?_, ?_, ?_, ?_, ?_, ?_, ?_, ?_, ?_, ?_, ?_, ?_, ?_, ?_, ?_, ?_, ?_, ?_, ?_, ?_, ?_, ?_, ?_, ?_, ?_, ?_, ?_, ?_, ?_, ?_, ?_⟩
  · rw [enS, enT, enK, enF, enP, enQ, enL]
    exact ⟨v1, v2, v3, v4, v5, v6, v7, fun f hf => by rw [wt_u (by omega)]; exact v8 f hf⟩
  · intro j hj
    rw [gi_si_ne (by omega), upd_ne (by omega)]
    exact h.set j hj
  · rw [gi_si_ne (by omega), upd_ne (by omega)]
    exact h.c15
  · rw [gi_si_ne (by omega), upd_ne (by omega)]
    exact h.c16
  · rw [gi_si_ne (by omega), upd_ne (by omega)]
    exact h.c17
  · rw [gi_si_ne (by omega), upd_ne (by omega)]
    exact h.c18
  · rw [gi_si_ne (by omega), upd_ne (by omega)]
    exact h.c19
  · rw [gi_si_ne (by omega), upd_ne (by omega)]
    exact h.c20
  · rw [gi_si_ne (by omega), upd_ne (by omega)]
    exact h.s21
  · rw [gi_si_ne (by omega), upd_ne (by omega)]
    exact h.s22
  · rw [gi_si_ne (by omega), upd_ne (by omega)]
    exact h.s23
  · rw [gi_si_eq, upd_eq]
  · rw [gi_si_ne (by omega), upd_ne (by omega)]
    exact h.s25
  · rw [gi_si_ne (by omega), upd_ne (by omega)]
    exact h.s26
  · rw [gi_si_ne (by omega), upd_ne (by omega)]
    exact h.s27
  · rw [gi_si_ne (by omega), upd_ne (by omega)]
    exact h.s28
  · rw [gi_si_ne (by omega), upd_ne (by omega)]
    exact h.s29
  · intro a ha
    rw [gi_si_ne (by omega), upd_ne (by omega)]
    exact h.dn a ha
  · intro t ht
    rw [enT] at ht
    rw [gi_si_ne (by omega), upd_ne (by omega)]
    exact h.fr t ht
  · intro k hk
    rw [enK] at hk
    rw [gi_si_ne (by omega), upd_ne (by omega)]
    exact h.nz k hk
  · intro s j hs hj
    rw [enS] at hs
    rw [gi_si_ne (by omega), upd_ne (by omega)]
    exact h.sp s j hs hj
  · intro k c hk hc
    rw [gi_si_ne (by omega), upd_ne (by omega)]
    exact h.bk k c hk hc
  · intro f j hf hj
    rw [enF] at hf
    rw [gi_si_ne (by omega), upd_ne (by omega)]
    exact h.fd f j hf hj
  · intro f k hf hk
    rw [enF] at hf
    rw [wt_u (by omega)] at hk
    have v9 := v8 f hf
    rw [gi_si_ne (by omega), upd_ne (by omega)]
    exact h.re f k hf hk
  · intro k hk
    rw [enP] at hk
    rw [gi_si_ne (by omega), gi_si_ne (by omega), gi_si_ne (by omega), upd_ne (by omega), upd_ne (by omega), upd_ne (by omega)]
    exact h.st k hk
  · intro k hk
    have h9 := h.op k hk
    rw [enP]
    rw [gl_si]
    rw [upd_ne (by omega)]
    exact h9
  · intro k hk
    have h9 := h.fl k hk
    rw [enP]
    rw [gl_si]
    rw [upd_ne (by omega)]
    exact h9
  · intro k hk
    rw [enP] at hk
    rw [gi_si_ne (by omega), gi_si_ne (by omega), upd_ne (by omega), upd_ne (by omega), upd_ne (by omega)]
    exact h.ta k hk
  · intro K k hK hk
    have h9 := h.kd K k hK hk
    rw [enP]
    rw [gl_si]
    rw [upd_ne (by omega)]
    exact h9
  · rw [enL]
    obtain ⟨o, ho, h1, h2⟩ := h.lg
    refine ⟨o, ho, by rw [gi_si_ne (by omega)]; exact h1, fun i hi => ?_⟩
    rw [gi_si_ne (by omega), gi_si_ne (by omega), gi_si_ne (by omega)]
    have u1 := enL ▸ hi
    rw [upd_ne (by omega), upd_ne (by omega), upd_ne (by omega)]
    exact h2 i hi
  · rw [enQ]
    obtain ⟨p1, p2⟩ := h.pr
    have g3 : ∀ i : Nat, gi (si m 24 9 v) 43 i = gi m 43 i := fun i => gi_si_ne (by omega)
    have g4 : ∀ i : Nat, gi (si m 24 9 v) 44 i = gi m 44 i := fun i => gi_si_ne (by omega)
    have g5 : ∀ i : Nat, (upd w 24 v) (600 + 2 * i) = w (600 + 2 * i) := fun i => upd_ne (by omega)
    have g6 : ∀ i : Nat, (upd w 24 v) (601 + 2 * i) = w (601 + 2 * i) := fun i => upd_ne (by omega)
    simp only [g3, g4, g5, g6]
    exact ⟨p1, p2⟩
theorem R0.ws25 {m : MM} {w : Nat → Int32} (h : R0 m w) (v : Int32) : R0 (si m 24 14 v) (upd w 25 v) := by
  obtain ⟨v1, v2, v3, v4, v5, v6, v7, v8⟩ := h.vc
  have enS : nS (upd w 25 v) = nS w := nS_u (by omega)
  have enT : nT (upd w 25 v) = nT w := nT_u (by omega)
  have enK : nK (upd w 25 v) = nK w := nK_u (by omega)
  have enF : nF (upd w 25 v) = nF w := nF_u (by omega)
  have enP : nP (upd w 25 v) = nP w := nP_u (by omega)
  have enQ : nQ (upd w 25 v) = nQ w := nQ_u (by omega)
  have enL : nL (upd w 25 v) = nL w := nL_u (by omega)
  refine ⟨?_, ?_, ?_, ?_, ?_, ?_, ?_, ?_, ?_, ?_, ?_, ?_, ?_, ?_, ?_, ?_, ?_, ?_, ?_, ?_, ?_, ?_, ?_, ?_, ?_, ?_, ?_, ?_, ?_, ?_, ?_⟩
  · rw [enS, enT, enK, enF, enP, enQ, enL]
    exact ⟨v1, v2, v3, v4, v5, v6, v7, fun f hf => by rw [wt_u (by omega)]; exact v8 f hf⟩
  · intro j hj
    rw [gi_si_ne (by omega), upd_ne (by omega)]
    exact h.set j hj
  · rw [gi_si_ne (by omega), upd_ne (by omega)]
    exact h.c15
  · rw [gi_si_ne (by omega), upd_ne (by omega)]
    exact h.c16
  · rw [gi_si_ne (by omega), upd_ne (by omega)]
    exact h.c17
  · rw [gi_si_ne (by omega), upd_ne (by omega)]
    exact h.c18
  · rw [gi_si_ne (by omega), upd_ne (by omega)]
    exact h.c19
  · rw [gi_si_ne (by omega), upd_ne (by omega)]
    exact h.c20
  · rw [gi_si_ne (by omega), upd_ne (by omega)]
    exact h.s21
  · rw [gi_si_ne (by omega), upd_ne (by omega)]
    exact h.s22
  · rw [gi_si_ne (by omega), upd_ne (by omega)]
    exact h.s23
  · rw [gi_si_ne (by omega), upd_ne (by omega)]
    exact h.s24
  · rw [gi_si_eq, upd_eq]
  · rw [gi_si_ne (by omega), upd_ne (by omega)]
    exact h.s26
  · rw [gi_si_ne (by omega), upd_ne (by omega)]
    exact h.s27
  · rw [gi_si_ne (by omega), upd_ne (by omega)]
    exact h.s28
  · rw [gi_si_ne (by omega), upd_ne (by omega)]
    exact h.s29
  · intro a ha
    rw [gi_si_ne (by omega), upd_ne (by omega)]
    exact h.dn a ha
  · intro t ht
    rw [enT] at ht
    rw [gi_si_ne (by omega), upd_ne (by omega)]
    exact h.fr t ht
  · intro k hk
    rw [enK] at hk
    rw [gi_si_ne (by omega), upd_ne (by omega)]
    exact h.nz k hk
  · intro s j hs hj
    rw [enS] at hs
    rw [gi_si_ne (by omega), upd_ne (by omega)]
    exact h.sp s j hs hj
  · intro k c hk hc
    rw [gi_si_ne (by omega), upd_ne (by omega)]
    exact h.bk k c hk hc
  · intro f j hf hj
    rw [enF] at hf
    rw [gi_si_ne (by omega), upd_ne (by omega)]
    exact h.fd f j hf hj
  · intro f k hf hk
    rw [enF] at hf
    rw [wt_u (by omega)] at hk
    have v9 := v8 f hf
    rw [gi_si_ne (by omega), upd_ne (by omega)]
    exact h.re f k hf hk
  · intro k hk
    rw [enP] at hk
    rw [gi_si_ne (by omega), gi_si_ne (by omega), gi_si_ne (by omega), upd_ne (by omega), upd_ne (by omega), upd_ne (by omega)]
    exact h.st k hk
  · intro k hk
    have h9 := h.op k hk
    rw [enP]
    rw [gl_si]
    rw [upd_ne (by omega)]
    exact h9
  · intro k hk
    have h9 := h.fl k hk
    rw [enP]
    rw [gl_si]
    rw [upd_ne (by omega)]
    exact h9
  · intro k hk
    rw [enP] at hk
    rw [gi_si_ne (by omega), gi_si_ne (by omega), upd_ne (by omega), upd_ne (by omega), upd_ne (by omega)]
    exact h.ta k hk
  · intro K k hK hk
    have h9 := h.kd K k hK hk
    rw [enP]
    rw [gl_si]
    rw [upd_ne (by omega)]
    exact h9
  · rw [enL]
    obtain ⟨o, ho, h1, h2⟩ := h.lg
    refine ⟨o, ho, by rw [gi_si_ne (by omega)]; exact h1, fun i hi => ?_⟩
    rw [gi_si_ne (by omega), gi_si_ne (by omega), gi_si_ne (by omega)]
    have u1 := enL ▸ hi
    rw [upd_ne (by omega), upd_ne (by omega), upd_ne (by omega)]
    exact h2 i hi
  · rw [enQ]
    obtain ⟨p1, p2⟩ := h.pr
    have g3 : ∀ i : Nat, gi (si m 24 14 v) 43 i = gi m 43 i := fun i => gi_si_ne (by omega)
    have g4 : ∀ i : Nat, gi (si m 24 14 v) 44 i = gi m 44 i := fun i => gi_si_ne (by omega)
    have g5 : ∀ i : Nat, (upd w 25 v) (600 + 2 * i) = w (600 + 2 * i) := fun i => upd_ne (by omega)
    have g6 : ∀ i : Nat, (upd w 25 v) (601 + 2 * i) = w (601 + 2 * i) := fun i => upd_ne (by omega)
    simp only [g3, g4, g5, g6]
    exact ⟨p1, p2⟩
theorem R0.ws26 {m : MM} {w : Nat → Int32} (h : R0 m w) (v : Int32) : R0 (si m 45 7 v) (upd w 26 v) := by
  obtain ⟨v1, v2, v3, v4, v5, v6, v7, v8⟩ := h.vc
  have enS : nS (upd w 26 v) = nS w := nS_u (by omega)
  have enT : nT (upd w 26 v) = nT w := nT_u (by omega)
  have enK : nK (upd w 26 v) = nK w := nK_u (by omega)
  have enF : nF (upd w 26 v) = nF w := nF_u (by omega)
  have enP : nP (upd w 26 v) = nP w := nP_u (by omega)
  have enQ : nQ (upd w 26 v) = nQ w := nQ_u (by omega)
  have enL : nL (upd w 26 v) = nL w := nL_u (by omega)
  refine ⟨?_, ?_, ?_, ?_, ?_, ?_, ?_, ?_, ?_, ?_, ?_, ?_, ?_, ?_, ?_, ?_, ?_, ?_, ?_, ?_, ?_, ?_, ?_, ?_, ?_, ?_, ?_, ?_, ?_, ?_, ?_⟩
  · rw [enS, enT, enK, enF, enP, enQ, enL]
    exact ⟨v1, v2, v3, v4, v5, v6, v7, fun f hf => by rw [wt_u (by omega)]; exact v8 f hf⟩
  · intro j hj
    rw [gi_si_ne (by omega), upd_ne (by omega)]
    exact h.set j hj
  · rw [gi_si_ne (by omega), upd_ne (by omega)]
    exact h.c15
  · rw [gi_si_ne (by omega), upd_ne (by omega)]
    exact h.c16
  · rw [gi_si_ne (by omega), upd_ne (by omega)]
    exact h.c17
  · rw [gi_si_ne (by omega), upd_ne (by omega)]
    exact h.c18
  · rw [gi_si_ne (by omega), upd_ne (by omega)]
    exact h.c19
  · rw [gi_si_ne (by omega), upd_ne (by omega)]
    exact h.c20
  · rw [gi_si_ne (by omega), upd_ne (by omega)]
    exact h.s21
  · rw [gi_si_ne (by omega), upd_ne (by omega)]
    exact h.s22
  · rw [gi_si_ne (by omega), upd_ne (by omega)]
    exact h.s23
  · rw [gi_si_ne (by omega), upd_ne (by omega)]
    exact h.s24
  · rw [gi_si_ne (by omega), upd_ne (by omega)]
    exact h.s25
  · rw [gi_si_eq, upd_eq]
  · rw [gi_si_ne (by omega), upd_ne (by omega)]
    exact h.s27
  · rw [gi_si_ne (by omega), upd_ne (by omega)]
    exact h.s28
  · rw [gi_si_ne (by omega), upd_ne (by omega)]
    exact h.s29
  · intro a ha
    rw [gi_si_ne (by omega), upd_ne (by omega)]
    exact h.dn a ha
  · intro t ht
    rw [enT] at ht
    rw [gi_si_ne (by omega), upd_ne (by omega)]
    exact h.fr t ht
  · intro k hk
    rw [enK] at hk
    rw [gi_si_ne (by omega), upd_ne (by omega)]
    exact h.nz k hk
  · intro s j hs hj
    rw [enS] at hs
    rw [gi_si_ne (by omega), upd_ne (by omega)]
    exact h.sp s j hs hj
  · intro k c hk hc
    rw [gi_si_ne (by omega), upd_ne (by omega)]
    exact h.bk k c hk hc
  · intro f j hf hj
    rw [enF] at hf
    rw [gi_si_ne (by omega), upd_ne (by omega)]
    exact h.fd f j hf hj
  · intro f k hf hk
    rw [enF] at hf
    rw [wt_u (by omega)] at hk
    have v9 := v8 f hf
    rw [gi_si_ne (by omega), upd_ne (by omega)]
    exact h.re f k hf hk
  · intro k hk
    rw [enP] at hk
    rw [gi_si_ne (by omega), gi_si_ne (by omega), gi_si_ne (by omega), upd_ne (by omega), upd_ne (by omega), upd_ne (by omega)]
    exact h.st k hk
  · intro k hk
    have h9 := h.op k hk
    rw [enP]
    rw [gl_si]
    rw [upd_ne (by omega)]
    exact h9
  · intro k hk
    have h9 := h.fl k hk
    rw [enP]
    rw [gl_si]
    rw [upd_ne (by omega)]
    exact h9
  · intro k hk
    rw [enP] at hk
    rw [gi_si_ne (by omega), gi_si_ne (by omega), upd_ne (by omega), upd_ne (by omega), upd_ne (by omega)]
    exact h.ta k hk
  · intro K k hK hk
    have h9 := h.kd K k hK hk
    rw [enP]
    rw [gl_si]
    rw [upd_ne (by omega)]
    exact h9
  · rw [enL]
    obtain ⟨o, ho, h1, h2⟩ := h.lg
    refine ⟨o, ho, by rw [gi_si_ne (by omega)]; exact h1, fun i hi => ?_⟩
    rw [gi_si_ne (by omega), gi_si_ne (by omega), gi_si_ne (by omega)]
    have u1 := enL ▸ hi
    rw [upd_ne (by omega), upd_ne (by omega), upd_ne (by omega)]
    exact h2 i hi
  · rw [enQ]
    obtain ⟨p1, p2⟩ := h.pr
    have g3 : ∀ i : Nat, gi (si m 45 7 v) 43 i = gi m 43 i := fun i => gi_si_ne (by omega)
    have g4 : ∀ i : Nat, gi (si m 45 7 v) 44 i = gi m 44 i := fun i => gi_si_ne (by omega)
    have g5 : ∀ i : Nat, (upd w 26 v) (600 + 2 * i) = w (600 + 2 * i) := fun i => upd_ne (by omega)
    have g6 : ∀ i : Nat, (upd w 26 v) (601 + 2 * i) = w (601 + 2 * i) := fun i => upd_ne (by omega)
    simp only [g3, g4, g5, g6]
    exact ⟨p1, p2⟩
theorem R0.ws27 {m : MM} {w : Nat → Int32} (h : R0 m w) (v : Int32) : R0 (si m 45 8 v) (upd w 27 v) := by
  obtain ⟨v1, v2, v3, v4, v5, v6, v7, v8⟩ := h.vc
  have enS : nS (upd w 27 v) = nS w := nS_u (by omega)
  have enT : nT (upd w 27 v) = nT w := nT_u (by omega)
  have enK : nK (upd w 27 v) = nK w := nK_u (by omega)
  have enF : nF (upd w 27 v) = nF w := nF_u (by omega)
  have enP : nP (upd w 27 v) = nP w := nP_u (by omega)
  have enQ : nQ (upd w 27 v) = nQ w := nQ_u (by omega)
  have enL : nL (upd w 27 v) = nL w := nL_u (by omega)
  refine ⟨?_, ?_, ?_, ?_, ?_, ?_, ?_, ?_, ?_, ?_, ?_, ?_, ?_, ?_, ?_, ?_, ?_, ?_, ?_, ?_, ?_, ?_, ?_, ?_, ?_, ?_, ?_, ?_, ?_, ?_, ?_⟩
  · rw [enS, enT, enK, enF, enP, enQ, enL]
    exact ⟨v1, v2, v3, v4, v5, v6, v7, fun f hf => by rw [wt_u (by omega)]; exact v8 f hf⟩
  · intro j hj
    rw [gi_si_ne (by omega), upd_ne (by omega)]
    exact h.set j hj
  · rw [gi_si_ne (by omega), upd_ne (by omega)]
    exact h.c15
  · rw [gi_si_ne (by omega), upd_ne (by omega)]
    exact h.c16
  · rw [gi_si_ne (by omega), upd_ne (by omega)]
    exact h.c17
  · rw [gi_si_ne (by omega), upd_ne (by omega)]
    exact h.c18
  · rw [gi_si_ne (by omega), upd_ne (by omega)]
    exact h.c19
  · rw [gi_si_ne (by omega), upd_ne (by omega)]
    exact h.c20
  · rw [gi_si_ne (by omega), upd_ne (by omega)]
    exact h.s21
  · rw [gi_si_ne (by omega), upd_ne (by omega)]
    exact h.s22
  · rw [gi_si_ne (by omega), upd_ne (by omega)]
    exact h.s23
  · rw [gi_si_ne (by omega), upd_ne (by omega)]
    exact h.s24
  · rw [gi_si_ne (by omega), upd_ne (by omega)]
    exact h.s25
  · rw [gi_si_ne (by omega), upd_ne (by omega)]
    exact h.s26
  · rw [gi_si_eq, upd_eq]
  · rw [gi_si_ne (by omega), upd_ne (by omega)]
    exact h.s28
  · rw [gi_si_ne (by omega), upd_ne (by omega)]
    exact h.s29
  · intro a ha
    rw [gi_si_ne (by omega), upd_ne (by omega)]
    exact h.dn a ha
  · intro t ht
    rw [enT] at ht
    rw [gi_si_ne (by omega), upd_ne (by omega)]
    exact h.fr t ht
  · intro k hk
    rw [enK] at hk
    rw [gi_si_ne (by omega), upd_ne (by omega)]
    exact h.nz k hk
  · intro s j hs hj
    rw [enS] at hs
    rw [gi_si_ne (by omega), upd_ne (by omega)]
    exact h.sp s j hs hj
  · intro k c hk hc
    rw [gi_si_ne (by omega), upd_ne (by omega)]
    exact h.bk k c hk hc
  · intro f j hf hj
    rw [enF] at hf
    rw [gi_si_ne (by omega), upd_ne (by omega)]
    exact h.fd f j hf hj
  · intro f k hf hk
    rw [enF] at hf
    rw [wt_u (by omega)] at hk
    have v9 := v8 f hf
    rw [gi_si_ne (by omega), upd_ne (by omega)]
    exact h.re f k hf hk
  · intro k hk
    rw [enP] at hk
    rw [gi_si_ne (by omega), gi_si_ne (by omega), gi_si_ne (by omega), upd_ne (by omega), upd_ne (by omega), upd_ne (by omega)]
    exact h.st k hk
  · intro k hk
    have h9 := h.op k hk
    rw [enP]
    rw [gl_si]
    rw [upd_ne (by omega)]
    exact h9
  · intro k hk
    have h9 := h.fl k hk
    rw [enP]
    rw [gl_si]
    rw [upd_ne (by omega)]
    exact h9
  · intro k hk
    rw [enP] at hk
    rw [gi_si_ne (by omega), gi_si_ne (by omega), upd_ne (by omega), upd_ne (by omega), upd_ne (by omega)]
    exact h.ta k hk
  · intro K k hK hk
    have h9 := h.kd K k hK hk
    rw [enP]
    rw [gl_si]
    rw [upd_ne (by omega)]
    exact h9
  · rw [enL]
    obtain ⟨o, ho, h1, h2⟩ := h.lg
    refine ⟨o, ho, by rw [gi_si_ne (by omega)]; exact h1, fun i hi => ?_⟩
    rw [gi_si_ne (by omega), gi_si_ne (by omega), gi_si_ne (by omega)]
    have u1 := enL ▸ hi
    rw [upd_ne (by omega), upd_ne (by omega), upd_ne (by omega)]
    exact h2 i hi
  · rw [enQ]
    obtain ⟨p1, p2⟩ := h.pr
    have g3 : ∀ i : Nat, gi (si m 45 8 v) 43 i = gi m 43 i := fun i => gi_si_ne (by omega)
    have g4 : ∀ i : Nat, gi (si m 45 8 v) 44 i = gi m 44 i := fun i => gi_si_ne (by omega)
    have g5 : ∀ i : Nat, (upd w 27 v) (600 + 2 * i) = w (600 + 2 * i) := fun i => upd_ne (by omega)
    have g6 : ∀ i : Nat, (upd w 27 v) (601 + 2 * i) = w (601 + 2 * i) := fun i => upd_ne (by omega)
    simp only [g3, g4, g5, g6]
    exact ⟨p1, p2⟩
theorem R0.ws29 {m : MM} {w : Nat → Int32} (h : R0 m w) (v : Int32) : R0 (si m 24 15 v) (upd w 29 v) := by
  obtain ⟨v1, v2, v3, v4, v5, v6, v7, v8⟩ := h.vc
  have enS : nS (upd w 29 v) = nS w := nS_u (by omega)
  have enT : nT (upd w 29 v) = nT w := nT_u (by omega)
  have enK : nK (upd w 29 v) = nK w := nK_u (by omega)
  have enF : nF (upd w 29 v) = nF w := nF_u (by omega)
  have enP : nP (upd w 29 v) = nP w := nP_u (by omega)
  have enQ : nQ (upd w 29 v) = nQ w := nQ_u (by omega)
  have enL : nL (upd w 29 v) = nL w := nL_u (by omega)
  refine ⟨?_, ?_, ?_, ?_, ?_, ?_, ?_, ?_, ?_, ?_, ?_, ?_, ?_, ?_, ?_, ?_, ?_, ?_, ?_, ?_, ?_, ?_, ?_, ?_, ?_, ?_, ?_, ?_, ?_, ?_, ?_⟩
  · rw [enS, enT, enK, enF, enP, enQ, enL]
    exact ⟨v1, v2, v3, v4, v5, v6, v7, fun f hf => by rw [wt_u (by omega)]; exact v8 f hf⟩
  · intro j hj
    rw [gi_si_ne (by omega), upd_ne (by omega)]
    exact h.set j hj
  · rw [gi_si_ne (by omega), upd_ne (by omega)]
    exact h.c15
  · rw [gi_si_ne (by omega), upd_ne (by omega)]
    exact h.c16
  · rw [gi_si_ne (by omega), upd_ne (by omega)]
    exact h.c17
  · rw [gi_si_ne (by omega), upd_ne (by omega)]
    exact h.c18
  · rw [gi_si_ne (by omega), upd_ne (by omega)]
    exact h.c19
  · rw [gi_si_ne (by omega), upd_ne (by omega)]
    exact h.c20
  · rw [gi_si_ne (by omega), upd_ne (by omega)]
    exact h.s21
  · rw [gi_si_ne (by omega), upd_ne (by omega)]
    exact h.s22
  · rw [gi_si_ne (by omega), upd_ne (by omega)]
    exact h.s23
  · rw [gi_si_ne (by omega), upd_ne (by omega)]
    exact h.s24
  · rw [gi_si_ne (by omega), upd_ne (by omega)]
    exact h.s25
  · rw [gi_si_ne (by omega), upd_ne (by omega)]
    exact h.s26
  · rw [gi_si_ne (by omega), upd_ne (by omega)]
    exact h.s27
  · rw [gi_si_ne (by omega), upd_ne (by omega)]
    exact h.s28
  · rw [gi_si_eq, upd_eq]
  · intro a ha
    rw [gi_si_ne (by omega), upd_ne (by omega)]
    exact h.dn a ha
  · intro t ht
    rw [enT] at ht
    rw [gi_si_ne (by omega), upd_ne (by omega)]
    exact h.fr t ht
  · intro k hk
    rw [enK] at hk
    rw [gi_si_ne (by omega), upd_ne (by omega)]
    exact h.nz k hk
  · intro s j hs hj
    rw [enS] at hs
    rw [gi_si_ne (by omega), upd_ne (by omega)]
    exact h.sp s j hs hj
  · intro k c hk hc
    rw [gi_si_ne (by omega), upd_ne (by omega)]
    exact h.bk k c hk hc
  · intro f j hf hj
    rw [enF] at hf
    rw [gi_si_ne (by omega), upd_ne (by omega)]
    exact h.fd f j hf hj
  · intro f k hf hk
    rw [enF] at hf
    rw [wt_u (by omega)] at hk
    have v9 := v8 f hf
    rw [gi_si_ne (by omega), upd_ne (by omega)]
    exact h.re f k hf hk
  · intro k hk
    rw [enP] at hk
    rw [gi_si_ne (by omega), gi_si_ne (by omega), gi_si_ne (by omega), upd_ne (by omega), upd_ne (by omega), upd_ne (by omega)]
    exact h.st k hk
  · intro k hk
    have h9 := h.op k hk
    rw [enP]
    rw [gl_si]
    rw [upd_ne (by omega)]
    exact h9
  · intro k hk
    have h9 := h.fl k hk
    rw [enP]
    rw [gl_si]
    rw [upd_ne (by omega)]
    exact h9
  · intro k hk
    rw [enP] at hk
    rw [gi_si_ne (by omega), gi_si_ne (by omega), upd_ne (by omega), upd_ne (by omega), upd_ne (by omega)]
    exact h.ta k hk
  · intro K k hK hk
    have h9 := h.kd K k hK hk
    rw [enP]
    rw [gl_si]
    rw [upd_ne (by omega)]
    exact h9
  · rw [enL]
    obtain ⟨o, ho, h1, h2⟩ := h.lg
    refine ⟨o, ho, by rw [gi_si_ne (by omega)]; exact h1, fun i hi => ?_⟩
    rw [gi_si_ne (by omega), gi_si_ne (by omega), gi_si_ne (by omega)]
    have u1 := enL ▸ hi
    rw [upd_ne (by omega), upd_ne (by omega), upd_ne (by omega)]
    exact h2 i hi
  · rw [enQ]
    obtain ⟨p1, p2⟩ := h.pr
    have g3 : ∀ i : Nat, gi (si m 24 15 v) 43 i = gi m 43 i := fun i => gi_si_ne (by omega)
    have g4 : ∀ i : Nat, gi (si m 24 15 v) 44 i = gi m 44 i := fun i => gi_si_ne (by omega)
    have g5 : ∀ i : Nat, (upd w 29 v) (600 + 2 * i) = w (600 + 2 * i) := fun i => upd_ne (by omega)
    have g6 : ∀ i : Nat, (upd w 29 v) (601 + 2 * i) = w (601 + 2 * i) := fun i => upd_ne (by omega)
    simp only [g3, g4, g5, g6]
    exact ⟨p1, p2⟩
theorem R0.wSet {m : MM} {w : Nat → Int32} (h : R0 m w) {j0 : Nat} (h0 : j0 < 15) (v : Int32) : R0 (si m 25 j0 v) (upd w j0 v) := by
  obtain ⟨v1, v2, v3, v4, v5, v6, v7, v8⟩ := h.vc
  have enS : nS (upd w j0 v) = nS w := nS_u (by omega)
  have enT : nT (upd w j0 v) = nT w := nT_u (by omega)
  have enK : nK (upd w j0 v) = nK w := nK_u (by omega)
  have enF : nF (upd w j0 v) = nF w := nF_u (by omega)
  have enP : nP (upd w j0 v) = nP w := nP_u (by omega)
  have enQ : nQ (upd w j0 v) = nQ w := nQ_u (by omega)
  have enL : nL (upd w j0 v) = nL w := nL_u (by omega)
  refine ⟨?_, ?_, ?_, ?_, ?_, ?_, ?_, ?_, ?_, ?_, ?_, ?_, ?_, ?_, ?_, ?_, ?_, ?_, ?_, ?_, ?_, ?_, ?_, ?_, ?_, ?_, ?_, ?_, ?_, ?_, ?_⟩
  · rw [enS, enT, enK, enF, enP, enQ, enL]
    exact ⟨v1, v2, v3, v4, v5, v6, v7, fun f hf => by rw [wt_u (by omega)]; exact v8 f hf⟩
  · intro j hj
    by_cases e : j = j0
    · subst e; rw [gi_si_eq, upd_eq]
    · rw [gi_si_ne (by omega), upd_ne (by omega)]
      exact h.set j hj
  · rw [gi_si_ne (by omega), upd_ne (by omega)]
    exact h.c15
  · rw [gi_si_ne (by omega), upd_ne (by omega)]
    exact h.c16
  · rw [gi_si_ne (by omega), upd_ne (by omega)]
    exact h.c17
  · rw [gi_si_ne (by omega), upd_ne (by omega)]
    exact h.c18
  · rw [gi_si_ne (by omega), upd_ne (by omega)]
    exact h.c19
  · rw [gi_si_ne (by omega), upd_ne (by omega)]
    exact h.c20
  · rw [gi_si_ne (by omega), upd_ne (by omega)]
    exact h.s21
  · rw [gi_si_ne (by omega), upd_ne (by omega)]
    exact h.s22
  · rw [gi_si_ne (by omega), upd_ne (by omega)]
    exact h.s23
  · rw [gi_si_ne (by omega), upd_ne (by omega)]
    exact h.s24
  · rw [gi_si_ne (by omega), upd_ne (by omega)]
    exact h.s25
  · rw [gi_si_ne (by omega), upd_ne (by omega)]
    exact h.s26
  · rw [gi_si_ne (by omega), upd_ne (by omega)]
    exact h.s27
  · rw [gi_si_ne (by omega), upd_ne (by omega)]
    exact h.s28
  · rw [gi_si_ne (by omega), upd_ne (by omega)]
    exact h.s29
  · intro a ha
    rw [gi_si_ne (by omega), upd_ne (by omega)]
    exact h.dn a ha
  · intro t ht
    rw [enT] at ht
    rw [gi_si_ne (by omega), upd_ne (by omega)]
    exact h.fr t ht
  · intro k hk
    rw [enK] at hk
    rw [gi_si_ne (by omega), upd_ne (by omega)]
    exact h.nz k hk
  · intro s j hs hj
    rw [enS] at hs
    rw [gi_si_ne (by omega), upd_ne (by omega)]
    exact h.sp s j hs hj
  · intro k c hk hc
    rw [gi_si_ne (by omega), upd_ne (by omega)]
    exact h.bk k c hk hc
  · intro f j hf hj
    rw [enF] at hf
    rw [gi_si_ne (by omega), upd_ne (by omega)]
    exact h.fd f j hf hj
  · intro f k hf hk
    rw [enF] at hf
    rw [wt_u (by omega)] at hk
    have v9 := v8 f hf
    rw [gi_si_ne (by omega), upd_ne (by omega)]
    exact h.re f k hf hk
  · intro k hk
    rw [enP] at hk
    rw [gi_si_ne (by omega), gi_si_ne (by omega), gi_si_ne (by omega), upd_ne (by omega), upd_ne (by omega), upd_ne (by omega)]
    exact h.st k hk
  · intro k hk
    have h9 := h.op k hk
    rw [enP]
    rw [gl_si]
    rw [upd_ne (by omega)]
    exact h9
  · intro k hk
    have h9 := h.fl k hk
    rw [enP]
    rw [gl_si]
    rw [upd_ne (by omega)]
    exact h9
  · intro k hk
    rw [enP] at hk
    rw [gi_si_ne (by omega), gi_si_ne (by omega), upd_ne (by omega), upd_ne (by omega), upd_ne (by omega)]
    exact h.ta k hk
  · intro K k hK hk
    have h9 := h.kd K k hK hk
    rw [enP]
    rw [gl_si]
    rw [upd_ne (by omega)]
    exact h9
  · rw [enL]
    obtain ⟨o, ho, h1, h2⟩ := h.lg
    refine ⟨o, ho, by rw [gi_si_ne (by omega)]; exact h1, fun i hi => ?_⟩
    rw [gi_si_ne (by omega), gi_si_ne (by omega), gi_si_ne (by omega)]
    have u1 := enL ▸ hi
    rw [upd_ne (by omega), upd_ne (by omega), upd_ne (by omega)]
    exact h2 i hi
  · rw [enQ]
    obtain ⟨p1, p2⟩ := h.pr
    have g3 : ∀ i : Nat, gi (si m 25 j0 v) 43 i = gi m 43 i := fun i => gi_si_ne (by omega)
    have g4 : ∀ i : Nat, gi (si m 25 j0 v) 44 i = gi m 44 i := fun i => gi_si_ne (by omega)
    have g5 : ∀ i : Nat, (upd w j0 v) (600 + 2 * i) = w (600 + 2 * i) := fun i => upd_ne (by omega)
    have g6 : ∀ i : Nat, (upd w j0 v) (601 + 2 * i) = w (601 + 2 * i) := fun i => upd_ne (by omega)
    simp only [g3, g4, g5, g6]
    exact ⟨p1, p2⟩
theorem R0.wDn {m : MM} {w : Nat → Int32} (h : R0 m w) {a0 : Nat} (h0 : a0 < 7) (v : Int32) : R0 (si m 49 a0 v) (upd w (30 + a0) v) := by
  obtain ⟨v1, v2, v3, v4, v5, v6, v7, v8⟩ := h.vc
  have enS : nS (upd w (30 + a0) v) = nS w := nS_u (by omega)
  have enT : nT (upd w (30 + a0) v) = nT w := nT_u (by omega)
  have enK : nK (upd w (30 + a0) v) = nK w := nK_u (by omega)
  have enF : nF (upd w (30 + a0) v) = nF w := nF_u (by omega)
  have enP : nP (upd w (30 + a0) v) = nP w := nP_u (by omega)
  have enQ : nQ (upd w (30 + a0) v) = nQ w := nQ_u (by omega)
  have enL : nL (upd w (30 + a0) v) = nL w := nL_u (by omega)
  refine ⟨?_, ?_, ?_, ?_, ?_, ?_, ?_, ?_, ?_, ?_, ?_, ?_, ?_, ?_, ?_, ?_, ?_, ?_, ?_, ?_, ?_, ?_, ?_, ?_, ?_, ?_, ?_, ?_, ?_, ?_, ?_⟩
  · rw [enS, enT, enK, enF, enP, enQ, enL]
    exact ⟨v1, v2, v3, v4, v5, v6, v7, fun f hf => by rw [wt_u (by omega)]; exact v8 f hf⟩
  · intro j hj
    rw [gi_si_ne (by omega), upd_ne (by omega)]
    exact h.set j hj
  · rw [gi_si_ne (by omega), upd_ne (by omega)]
    exact h.c15
  · rw [gi_si_ne (by omega), upd_ne (by omega)]
    exact h.c16
  · rw [gi_si_ne (by omega), upd_ne (by omega)]
    exact h.c17
  · rw [gi_si_ne (by omega), upd_ne (by omega)]
    exact h.c18
  · rw [gi_si_ne (by omega), upd_ne (by omega)]
    exact h.c19
  · rw [gi_si_ne (by omega), upd_ne (by omega)]
    exact h.c20
  · rw [gi_si_ne (by omega), upd_ne (by omega)]
    exact h.s21
  · rw [gi_si_ne (by omega), upd_ne (by omega)]
    exact h.s22
  · rw [gi_si_ne (by omega), upd_ne (by omega)]
    exact h.s23
  · rw [gi_si_ne (by omega), upd_ne (by omega)]
    exact h.s24
  · rw [gi_si_ne (by omega), upd_ne (by omega)]
    exact h.s25
  · rw [gi_si_ne (by omega), upd_ne (by omega)]
    exact h.s26
  · rw [gi_si_ne (by omega), upd_ne (by omega)]
    exact h.s27
  · rw [gi_si_ne (by omega), upd_ne (by omega)]
    exact h.s28
  · rw [gi_si_ne (by omega), upd_ne (by omega)]
    exact h.s29
  · intro a ha
    by_cases e : a = a0
    · subst e; rw [gi_si_eq, upd_eq]
    · rw [gi_si_ne (by omega), upd_ne (by omega)]
      exact h.dn a ha
  · intro t ht
    rw [enT] at ht
    rw [gi_si_ne (by omega), upd_ne (by omega)]
    exact h.fr t ht
  · intro k hk
    rw [enK] at hk
    rw [gi_si_ne (by omega), upd_ne (by omega)]
    exact h.nz k hk
  · intro s j hs hj
    rw [enS] at hs
    rw [gi_si_ne (by omega), upd_ne (by omega)]
    exact h.sp s j hs hj
  · intro k c hk hc
    rw [gi_si_ne (by omega), upd_ne (by omega)]
    exact h.bk k c hk hc
  · intro f j hf hj
    rw [enF] at hf
    rw [gi_si_ne (by omega), upd_ne (by omega)]
    exact h.fd f j hf hj
  · intro f k hf hk
    rw [enF] at hf
    rw [wt_u (by omega)] at hk
    have v9 := v8 f hf
    rw [gi_si_ne (by omega), upd_ne (by omega)]
    exact h.re f k hf hk
  · intro k hk
    rw [enP] at hk
    rw [gi_si_ne (by omega), gi_si_ne (by omega), gi_si_ne (by omega), upd_ne (by omega), upd_ne (by omega), upd_ne (by omega)]
    exact h.st k hk
  · intro k hk
    have h9 := h.op k hk
    rw [enP]
    rw [gl_si]
    rw [upd_ne (by omega)]
    exact h9
  · intro k hk
    have h9 := h.fl k hk
    rw [enP]
    rw [gl_si]
    rw [upd_ne (by omega)]
    exact h9
  · intro k hk
    rw [enP] at hk
    rw [gi_si_ne (by omega), gi_si_ne (by omega), upd_ne (by omega), upd_ne (by omega), upd_ne (by omega)]
    exact h.ta k hk
  · intro K k hK hk
    have h9 := h.kd K k hK hk
    rw [enP]
    rw [gl_si]
    rw [upd_ne (by omega)]
    exact h9
  · rw [enL]
    obtain ⟨o, ho, h1, h2⟩ := h.lg
    refine ⟨o, ho, by rw [gi_si_ne (by omega)]; exact h1, fun i hi => ?_⟩
    rw [gi_si_ne (by omega), gi_si_ne (by omega), gi_si_ne (by omega)]
    have u1 := enL ▸ hi
    rw [upd_ne (by omega), upd_ne (by omega), upd_ne (by omega)]
    exact h2 i hi
  · rw [enQ]
    obtain ⟨p1, p2⟩ := h.pr
    have g3 : ∀ i : Nat, gi (si m 49 a0 v) 43 i = gi m 43 i := fun i => gi_si_ne (by omega)
    have g4 : ∀ i : Nat, gi (si m 49 a0 v) 44 i = gi m 44 i := fun i => gi_si_ne (by omega)
    have g5 : ∀ i : Nat, (upd w (30 + a0) v) (600 + 2 * i) = w (600 + 2 * i) := fun i => upd_ne (by omega)
    have g6 : ∀ i : Nat, (upd w (30 + a0) v) (601 + 2 * i) = w (601 + 2 * i) := fun i => upd_ne (by omega)
    simp only [g3, g4, g5, g6]
    exact ⟨p1, p2⟩
theorem R0.wTm {m : MM} {w : Nat → Int32} (h : R0 m w) {a0 : Nat} (h0 : a0 < 7) (v : Int32) : R0 (m) (upd w (37 + a0) v) := by
  obtain ⟨v1, v2, v3, v4, v5, v6, v7, v8⟩ := h.vc
  have enS : nS (upd w (37 + a0) v) = nS w := nS_u (by omega)
  have enT : nT (upd w (37 + a0) v) = nT w := nT_u (by omega)
  have enK : nK (upd w (37 + a0) v) = nK w := nK_u (by omega)
  have enF : nF (upd w (37 + a0) v) = nF w := nF_u (by omega)
  have enP : nP (upd w (37 + a0) v) = nP w := nP_u (by omega)
  have enQ : nQ (upd w (37 + a0) v) = nQ w := nQ_u (by omega)
  have enL : nL (upd w (37 + a0) v) = nL w := nL_u (by omega)
  refine ⟨?_, ?_, ?_, ?_, ?_, ?_, ?_, ?_, ?_, ?_, ?_, ?_, ?_, ?_, ?_, ?_, ?_, ?_, ?_, ?_, ?_, ?_, ?_, ?_, ?_, ?_, ?_, ?_, ?_, ?_, ?_⟩
  · rw [enS, enT, enK, enF, enP, enQ, enL]
    exact ⟨v1, v2, v3, v4, v5, v6, v7, fun f hf => by rw [wt_u (by omega)]; exact v8 f hf⟩
  · intro j hj
    rw [upd_ne (by omega)]
    exact h.set j hj
  · rw [upd_ne (by omega)]
    exact h.c15
  · rw [upd_ne (by omega)]
    exact h.c16
  · rw [upd_ne (by omega)]
    exact h.c17
  · rw [upd_ne (by omega)]
    exact h.c18
  · rw [upd_ne (by omega)]
    exact h.c19
  · rw [upd_ne (by omega)]
    exact h.c20
  · rw [upd_ne (by omega)]
    exact h.s21
  · rw [upd_ne (by omega)]
    exact h.s22
  · rw [upd_ne (by omega)]
    exact h.s23
  · rw [upd_ne (by omega)]
    exact h.s24
  · rw [upd_ne (by omega)]
    exact h.s25
  · rw [upd_ne (by omega)]
    exact h.s26
  · rw [upd_ne (by omega)]
    exact h.s27
  · rw [upd_ne (by omega)]
    exact h.s28
  · rw [upd_ne (by omega)]
    exact h.s29
  · intro a ha
    rw [upd_ne (by omega)]
    exact h.dn a ha
  · intro t ht
    rw [enT] at ht
    rw [upd_ne (by omega)]
    exact h.fr t ht
  · intro k hk
    rw [enK] at hk
    rw [upd_ne (by omega)]
    exact h.nz k hk
  · intro s j hs hj
    rw [enS] at hs
    rw [upd_ne (by omega)]
    exact h.sp s j hs hj
  · intro k c hk hc
    rw [upd_ne (by omega)]
    exact h.bk k c hk hc
  · intro f j hf hj
    rw [enF] at hf
    rw [upd_ne (by omega)]
    exact h.fd f j hf hj
  · intro f k hf hk
    rw [enF] at hf
    rw [wt_u (by omega)] at hk
    have v9 := v8 f hf
    rw [upd_ne (by omega)]
    exact h.re f k hf hk
  · intro k hk
    rw [enP] at hk
    rw [upd_ne (by omega), upd_ne (by omega), upd_ne (by omega)]
    exact h.st k hk
  · intro k hk
    have h9 := h.op k hk
    rw [enP]
    rw [upd_ne (by omega)]
    exact h9
  · intro k hk
    have h9 := h.fl k hk
    rw [enP]
    rw [upd_ne (by omega)]
    exact h9
  · intro k hk
    rw [enP] at hk
    rw [upd_ne (by omega), upd_ne (by omega), upd_ne (by omega)]
    exact h.ta k hk
  · intro K k hK hk
    have h9 := h.kd K k hK hk
    rw [enP]
    rw [upd_ne (by omega)]
    exact h9
  · rw [enL]
    obtain ⟨o, ho, h1, h2⟩ := h.lg
    refine ⟨o, ho, by exact h1, fun i hi => ?_⟩
    have u1 := enL ▸ hi
    rw [upd_ne (by omega), upd_ne (by omega), upd_ne (by omega)]
    exact h2 i hi
  · rw [enQ]
    obtain ⟨p1, p2⟩ := h.pr
    have g5 : ∀ i : Nat, (upd w (37 + a0) v) (600 + 2 * i) = w (600 + 2 * i) := fun i => upd_ne (by omega)
    have g6 : ∀ i : Nat, (upd w (37 + a0) v) (601 + 2 * i) = w (601 + 2 * i) := fun i => upd_ne (by omega)
    simp only [g5, g6]
    exact ⟨p1, p2⟩
theorem R0.mTm {m : MM} {w : Nat → Int32} (h : R0 m w) {a0 : Nat} (h0 : a0 < 7) (v : Int32) : R0 (si m 50 a0 v) (w) := by
  obtain ⟨v1, v2, v3, v4, v5, v6, v7, v8⟩ := h.vc
  refine ⟨?_, ?_, ?_, ?_, ?_, ?_, ?_, ?_, ?_, ?_, ?_, ?_, ?_, ?_, ?_, ?_, ?_, ?_, ?_, ?_, ?_, ?_, ?_, ?_, ?_, ?_, ?_, ?_, ?_, ?_, ?_⟩
  · exact h.vc
  · intro j hj
    rw [gi_si_ne (by omega)]
    exact h.set j hj
  · rw [gi_si_ne (by omega)]
    exact h.c15
  · rw [gi_si_ne (by omega)]
    exact h.c16
  · rw [gi_si_ne (by omega)]
    exact h.c17
  · rw [gi_si_ne (by omega)]
    exact h.c18
  · rw [gi_si_ne (by omega)]
    exact h.c19
  · rw [gi_si_ne (by omega)]
    exact h.c20
  · rw [gi_si_ne (by omega)]
    exact h.s21
  · rw [gi_si_ne (by omega)]
    exact h.s22
  · rw [gi_si_ne (by omega)]
    exact h.s23
  · rw [gi_si_ne (by omega)]
    exact h.s24
  · rw [gi_si_ne (by omega)]
    exact h.s25
  · rw [gi_si_ne (by omega)]
    exact h.s26
  · rw [gi_si_ne (by omega)]
    exact h.s27
  · rw [gi_si_ne (by omega)]
    exact h.s28
  · rw [gi_si_ne (by omega)]
    exact h.s29
  · intro a ha
    rw [gi_si_ne (by omega)]
    exact h.dn a ha
  · intro t ht
    rw [gi_si_ne (by omega)]
    exact h.fr t ht
  · intro k hk
    rw [gi_si_ne (by omega)]
    exact h.nz k hk
  · intro s j hs hj
    rw [gi_si_ne (by omega)]
    exact h.sp s j hs hj
  · intro k c hk hc
    rw [gi_si_ne (by omega)]
    exact h.bk k c hk hc
  · intro f j hf hj
    rw [gi_si_ne (by omega)]
    exact h.fd f j hf hj
  · intro f k hf hk
    have v9 := v8 f hf
    rw [gi_si_ne (by omega)]
    exact h.re f k hf hk
  · intro k hk
    rw [gi_si_ne (by omega), gi_si_ne (by omega), gi_si_ne (by omega)]
    exact h.st k hk
  · intro k hk
    have h9 := h.op k hk
    rw [gl_si]
    exact h9
  · intro k hk
    have h9 := h.fl k hk
    rw [gl_si]
    exact h9
  · intro k hk
    rw [gi_si_ne (by omega), gi_si_ne (by omega)]
    exact h.ta k hk
  · intro K k hK hk
    have h9 := h.kd K k hK hk
    rw [gl_si]
    exact h9
  · obtain ⟨o, ho, h1, h2⟩ := h.lg
    refine ⟨o, ho, by rw [gi_si_ne (by omega)]; exact h1, fun i hi => ?_⟩
    rw [gi_si_ne (by omega), gi_si_ne (by omega), gi_si_ne (by omega)]
    exact h2 i hi
  · obtain ⟨p1, p2⟩ := h.pr
    have g3 : ∀ i : Nat, gi (si m 50 a0 v) 43 i = gi m 43 i := fun i => gi_si_ne (by omega)
    have g4 : ∀ i : Nat, gi (si m 50 a0 v) 44 i = gi m 44 i := fun i => gi_si_ne (by omega)
    simp only [g3, g4]
    exact ⟨p1, p2⟩
theorem R0.wFr {m : MM} {w : Nat → Int32} (h : R0 m w) {t0 : Nat} (h0 : t0 < 6) (v : Int32) : R0 (si m 27 t0 v) (upd w (44 + t0) v) := by
  obtain ⟨v1, v2, v3, v4, v5, v6, v7, v8⟩ := h.vc
  have enS : nS (upd w (44 + t0) v) = nS w := nS_u (by omega)
  have enT : nT (upd w (44 + t0) v) = nT w := nT_u (by omega)
  have enK : nK (upd w (44 + t0) v) = nK w := nK_u (by omega)
  have enF : nF (upd w (44 + t0) v) = nF w := nF_u (by omega)
  have enP : nP (upd w (44 + t0) v) = nP w := nP_u (by omega)
  have enQ : nQ (upd w (44 + t0) v) = nQ w := nQ_u (by omega)
  have enL : nL (upd w (44 + t0) v) = nL w := nL_u (by omega)
  refine ⟨?_, ?_, ?_, ?_, ?_, ?_, ?_, ?_, ?_, ?_, ?_, ?_, ?_, ?_, ?_, ?_, ?_, ?_, ?_, ?_, ?_, ?_, ?_, ?_, ?_, ?_, ?_, ?_, ?_, ?_, ?_⟩
  · rw [enS, enT, enK, enF, enP, enQ, enL]
    exact ⟨v1, v2, v3, v4, v5, v6, v7, fun f hf => by rw [wt_u (by omega)]; exact v8 f hf⟩
  · intro j hj
    rw [gi_si_ne (by omega), upd_ne (by omega)]
    exact h.set j hj
  · rw [gi_si_ne (by omega), upd_ne (by omega)]
    exact h.c15
  · rw [gi_si_ne (by omega), upd_ne (by omega)]
    exact h.c16
  · rw [gi_si_ne (by omega), upd_ne (by omega)]
    exact h.c17
  · rw [gi_si_ne (by omega), upd_ne (by omega)]
    exact h.c18
  · rw [gi_si_ne (by omega), upd_ne (by omega)]
    exact h.c19
  · rw [gi_si_ne (by omega), upd_ne (by omega)]
    exact h.c20
  · rw [gi_si_ne (by omega), upd_ne (by omega)]
    exact h.s21
  · rw [gi_si_ne (by omega), upd_ne (by omega)]
    exact h.s22
  · rw [gi_si_ne (by omega), upd_ne (by omega)]
    exact h.s23
  · rw [gi_si_ne (by omega), upd_ne (by omega)]
    exact h.s24
  · rw [gi_si_ne (by omega), upd_ne (by omega)]
    exact h.s25
  · rw [gi_si_ne (by omega), upd_ne (by omega)]
    exact h.s26
  · rw [gi_si_ne (by omega), upd_ne (by omega)]
    exact h.s27
  · rw [gi_si_ne (by omega), upd_ne (by omega)]
    exact h.s28
  · rw [gi_si_ne (by omega), upd_ne (by omega)]
    exact h.s29
  · intro a ha
    rw [gi_si_ne (by omega), upd_ne (by omega)]
    exact h.dn a ha
  · intro t ht
    rw [enT] at ht
    by_cases e : t = t0
    · subst e; rw [gi_si_eq, upd_eq]
    · rw [gi_si_ne (by omega), upd_ne (by omega)]
      exact h.fr t ht
  · intro k hk
    rw [enK] at hk
    rw [gi_si_ne (by omega), upd_ne (by omega)]
    exact h.nz k hk
  · intro s j hs hj
    rw [enS] at hs
    rw [gi_si_ne (by omega), upd_ne (by omega)]
    exact h.sp s j hs hj
  · intro k c hk hc
    rw [gi_si_ne (by omega), upd_ne (by omega)]
    exact h.bk k c hk hc
  · intro f j hf hj
    rw [enF] at hf
    rw [gi_si_ne (by omega), upd_ne (by omega)]
    exact h.fd f j hf hj
  · intro f k hf hk
    rw [enF] at hf
    rw [wt_u (by omega)] at hk
    have v9 := v8 f hf
    rw [gi_si_ne (by omega), upd_ne (by omega)]
    exact h.re f k hf hk
  · intro k hk
    rw [enP] at hk
    rw [gi_si_ne (by omega), gi_si_ne (by omega), gi_si_ne (by omega), upd_ne (by omega), upd_ne (by omega), upd_ne (by omega)]
    exact h.st k hk
  · intro k hk
    have h9 := h.op k hk
    rw [enP]
    rw [gl_si]
    rw [upd_ne (by omega)]
    exact h9
  · intro k hk
    have h9 := h.fl k hk
    rw [enP]
    rw [gl_si]
    rw [upd_ne (by omega)]
    exact h9
  · intro k hk
    rw [enP] at hk
    rw [gi_si_ne (by omega), gi_si_ne (by omega), upd_ne (by omega), upd_ne (by omega), upd_ne (by omega)]
    exact h.ta k hk
  · intro K k hK hk
    have h9 := h.kd K k hK hk
    rw [enP]
    rw [gl_si]
    rw [upd_ne (by omega)]
    exact h9
  · rw [enL]
    obtain ⟨o, ho, h1, h2⟩ := h.lg
    refine ⟨o, ho, by rw [gi_si_ne (by omega)]; exact h1, fun i hi => ?_⟩
    rw [gi_si_ne (by omega), gi_si_ne (by omega), gi_si_ne (by omega)]
    have u1 := enL ▸ hi
    rw [upd_ne (by omega), upd_ne (by omega), upd_ne (by omega)]
    exact h2 i hi
  · rw [enQ]
    obtain ⟨p1, p2⟩ := h.pr
    have g3 : ∀ i : Nat, gi (si m 27 t0 v) 43 i = gi m 43 i := fun i => gi_si_ne (by omega)
    have g4 : ∀ i : Nat, gi (si m 27 t0 v) 44 i = gi m 44 i := fun i => gi_si_ne (by omega)
    have g5 : ∀ i : Nat, (upd w (44 + t0) v) (600 + 2 * i) = w (600 + 2 * i) := fun i => upd_ne (by omega)
    have g6 : ∀ i : Nat, (upd w (44 + t0) v) (601 + 2 * i) = w (601 + 2 * i) := fun i => upd_ne (by omega)
    simp only [g3, g4, g5, g6]
    exact ⟨p1, p2⟩
theorem R0.wSp {m : MM} {w : Nat → Int32} (h : R0 m w) {s0 j0 : Nat} (h0 : s0 < 4) (h1 : j0 < 8) (v : Int32) : R0 (si m s0 j0 v) (upd w (58 + 8 * s0 + j0) v) := by
  obtain ⟨v1, v2, v3, v4, v5, v6, v7, v8⟩ := h.vc
  have enS : nS (upd w (58 + 8 * s0 + j0) v) = nS w := nS_u (by omega)
  have enT : nT (upd w (58 + 8 * s0 + j0) v) = nT w := nT_u (by omega)
  have enK : nK (upd w (58 + 8 * s0 + j0) v) = nK w := nK_u (by omega)
  have enF : nF (upd w (58 + 8 * s0 + j0) v) = nF w := nF_u (by omega)
  have enP : nP (upd w (58 + 8 * s0 + j0) v) = nP w := nP_u (by omega)
  have enQ : nQ (upd w (58 + 8 * s0 + j0) v) = nQ w := nQ_u (by omega)
  have enL : nL (upd w (58 + 8 * s0 + j0) v) = nL w := nL_u (by omega)
  refine ⟨?_, ?_, ?_, ?_, ?_, ?_, ?_, ?_, ?_, ?_, ?_, ?_, ?_, ?_, ?_, ?_, ?_, ?_, ?_, ?_, ?_, ?_, ?_, ?_, ?_, ?_, ?_, ?_, ?_, ?_, ?_⟩
  · rw [enS, enT, enK, enF, enP, enQ, enL]
    exact ⟨v1, v2, v3, v4, v5, v6, v7, fun f hf => by rw [wt_u (by omega)]; exact v8 f hf⟩
  · intro j hj
    rw [gi_si_ne (by omega), upd_ne (by omega)]
    exact h.set j hj
  · rw [gi_si_ne (by omega), upd_ne (by omega)]
    exact h.c15
  · rw [gi_si_ne (by omega), upd_ne (by omega)]
    exact h.c16
  · rw [gi_si_ne (by omega), upd_ne (by omega)]
    exact h.c17
  · rw [gi_si_ne (by omega), upd_ne (by omega)]
    exact h.c18
  · rw [gi_si_ne (by omega), upd_ne (by omega)]
    exact h.c19
  · rw [gi_si_ne (by omega), upd_ne (by omega)]
    exact h.c20
  · rw [gi_si_ne (by omega), upd_ne (by omega)]
    exact h.s21
  · rw [gi_si_ne (by omega), upd_ne (by omega)]
    exact h.s22
  · rw [gi_si_ne (by omega), upd_ne (by omega)]
    exact h.s23
  · rw [gi_si_ne (by omega), upd_ne (by omega)]
    exact h.s24
  · rw [gi_si_ne (by omega), upd_ne (by omega)]
    exact h.s25
  · rw [gi_si_ne (by omega), upd_ne (by omega)]
    exact h.s26
  · rw [gi_si_ne (by omega), upd_ne (by omega)]
    exact h.s27
  · rw [gi_si_ne (by omega), upd_ne (by omega)]
    exact h.s28
  · rw [gi_si_ne (by omega), upd_ne (by omega)]
    exact h.s29
  · intro a ha
    rw [gi_si_ne (by omega), upd_ne (by omega)]
    exact h.dn a ha
  · intro t ht
    rw [enT] at ht
    rw [gi_si_ne (by omega), upd_ne (by omega)]
    exact h.fr t ht
  · intro k hk
    rw [enK] at hk
    rw [gi_si_ne (by omega), upd_ne (by omega)]
    exact h.nz k hk
  · intro s j hs hj
    rw [enS] at hs
    by_cases e : s = s0 ∧ j = j0
    · obtain ⟨e1, e2⟩ := e; subst e1; subst e2; rw [gi_si_eq, upd_eq]
    · rw [gi_si_ne (by omega), upd_ne (by omega)]
      exact h.sp s j hs hj
  · intro k c hk hc
    rw [gi_si_ne (by omega), upd_ne (by omega)]
    exact h.bk k c hk hc
  · intro f j hf hj
    rw [enF] at hf
    rw [gi_si_ne (by omega), upd_ne (by omega)]
    exact h.fd f j hf hj
  · intro f k hf hk
    rw [enF] at hf
    rw [wt_u (by omega)] at hk
    have v9 := v8 f hf
    rw [gi_si_ne (by omega), upd_ne (by omega)]
    exact h.re f k hf hk
  · intro k hk
    rw [enP] at hk
    rw [gi_si_ne (by omega), gi_si_ne (by omega), gi_si_ne (by omega), upd_ne (by omega), upd_ne (by omega), upd_ne (by omega)]
    exact h.st k hk
  · intro k hk
    have h9 := h.op k hk
    rw [enP]
    rw [gl_si]
    rw [upd_ne (by omega)]
    exact h9
  · intro k hk
    have h9 := h.fl k hk
    rw [enP]
    rw [gl_si]
    rw [upd_ne (by omega)]
    exact h9
  · intro k hk
    rw [enP] at hk
    rw [gi_si_ne (by omega), gi_si_ne (by omega), upd_ne (by omega), upd_ne (by omega), upd_ne (by omega)]
    exact h.ta k hk
  · intro K k hK hk
    have h9 := h.kd K k hK hk
    rw [enP]
    rw [gl_si]
    rw [upd_ne (by omega)]
    exact h9
  · rw [enL]
    obtain ⟨o, ho, h1, h2⟩ := h.lg
    refine ⟨o, ho, by rw [gi_si_ne (by omega)]; exact h1, fun i hi => ?_⟩
    rw [gi_si_ne (by omega), gi_si_ne (by omega), gi_si_ne (by omega)]
    have u1 := enL ▸ hi
    rw [upd_ne (by omega), upd_ne (by omega), upd_ne (by omega)]
    exact h2 i hi
  · rw [enQ]
    obtain ⟨p1, p2⟩ := h.pr
    have g3 : ∀ i : Nat, gi (si m s0 j0 v) 43 i = gi m 43 i := fun i => gi_si_ne (by omega)
    have g4 : ∀ i : Nat, gi (si m s0 j0 v) 44 i = gi m 44 i := fun i => gi_si_ne (by omega)
    have g5 : ∀ i : Nat, (upd w (58 + 8 * s0 + j0) v) (600 + 2 * i) = w (600 + 2 * i) := fun i => upd_ne (by omega)
    have g6 : ∀ i : Nat, (upd w (58 + 8 * s0 + j0) v) (601 + 2 * i) = w (601 + 2 * i) := fun i => upd_ne (by omega)
    simp only [g3, g4, g5, g6]
    exact ⟨p1, p2⟩
theorem R0.wBk {m : MM} {w : Nat → Int32} (h : R0 m w) {k0 c0 : Nat} (h0 : k0 < 8) (h1 : c0 < 5) (v : Int32) : R0 (si m (30 + c0) k0 v) (upd w (90 + 5 * k0 + c0) v) := by
  obtain ⟨v1, v2, v3, v4, v5, v6, v7, v8⟩ := h.vc
  have enS : nS (upd w (90 + 5 * k0 + c0) v) = nS w := nS_u (by omega)
  have enT : nT (upd w (90 + 5 * k0 + c0) v) = nT w := nT_u (by omega)
  have enK : nK (upd w (90 + 5 * k0 + c0) v) = nK w := nK_u (by omega)
  have enF : nF (upd w (90 + 5 * k0 + c0) v) = nF w := nF_u (by omega)
  have enP : nP (upd w (90 + 5 * k0 + c0) v) = nP w := nP_u (by omega)
  have enQ : nQ (upd w (90 + 5 * k0 + c0) v) = nQ w := nQ_u (by omega)
  have enL : nL (upd w (90 + 5 * k0 + c0) v) = nL w := nL_u (by omega)
  refine ⟨?_, ?_, ?_, ?_, ?_, ?_, ?_, ?_, ?_, ?_, ?_, ?_, ?_, ?_, ?_, ?_, ?_, ?_, ?_, ?_, ?_, ?_, ?_, ?_, ?_, ?_, ?_, ?_, ?_, ?_, ?_⟩
  · rw [enS, enT, enK, enF, enP, enQ, enL]
    exact ⟨v1, v2, v3, v4, v5, v6, v7, fun f hf => by rw [wt_u (by omega)]; exact v8 f hf⟩
  · intro j hj
    rw [gi_si_ne (by omega), upd_ne (by omega)]
    exact h.set j hj
  · rw [gi_si_ne (by omega), upd_ne (by omega)]
    exact h.c15
  · rw [gi_si_ne (by omega), upd_ne (by omega)]
    exact h.c16
  · rw [gi_si_ne (by omega), upd_ne (by omega)]
    exact h.c17
  · rw [gi_si_ne (by omega), upd_ne (by omega)]
    exact h.c18
  · rw [gi_si_ne (by omega), upd_ne (by omega)]
    exact h.c19
  · rw [gi_si_ne (by omega), upd_ne (by omega)]
    exact h.c20
  · rw [gi_si_ne (by omega), upd_ne (by omega)]
    exact h.s21
  · rw [gi_si_ne (by omega), upd_ne (by omega)]
    exact h.s22
  · rw [gi_si_ne (by omega), upd_ne (by omega)]
    exact h.s23
  · rw [gi_si_ne (by omega), upd_ne (by omega)]
    exact h.s24
  · rw [gi_si_ne (by omega), upd_ne (by omega)]
    exact h.s25
  · rw [gi_si_ne (by omega), upd_ne (by omega)]
    exact h.s26
  · rw [gi_si_ne (by omega), upd_ne (by omega)]
    exact h.s27
  · rw [gi_si_ne (by omega), upd_ne (by omega)]
    exact h.s28
  · rw [gi_si_ne (by omega), upd_ne (by omega)]
    exact h.s29
  · intro a ha
    rw [gi_si_ne (by omega), upd_ne (by omega)]
    exact h.dn a ha
  · intro t ht
    rw [enT] at ht
    rw [gi_si_ne (by omega), upd_ne (by omega)]
    exact h.fr t ht
  · intro k hk
    rw [enK] at hk
    rw [gi_si_ne (by omega), upd_ne (by omega)]
    exact h.nz k hk
  · intro s j hs hj
    rw [enS] at hs
    rw [gi_si_ne (by omega), upd_ne (by omega)]
    exact h.sp s j hs hj
  · intro k c hk hc
    by_cases e : k = k0 ∧ c = c0
    · obtain ⟨e1, e2⟩ := e; subst e1; subst e2; rw [gi_si_eq, upd_eq]
    · rw [gi_si_ne (by omega), upd_ne (by omega)]
      exact h.bk k c hk hc
  · intro f j hf hj
    rw [enF] at hf
    rw [gi_si_ne (by omega), upd_ne (by omega)]
    exact h.fd f j hf hj
  · intro f k hf hk
    rw [enF] at hf
    rw [wt_u (by omega)] at hk
    have v9 := v8 f hf
    rw [gi_si_ne (by omega), upd_ne (by omega)]
    exact h.re f k hf hk
  · intro k hk
    rw [enP] at hk
    rw [gi_si_ne (by omega), gi_si_ne (by omega), gi_si_ne (by omega), upd_ne (by omega), upd_ne (by omega), upd_ne (by omega)]
    exact h.st k hk
  · intro k hk
    have h9 := h.op k hk
    rw [enP]
    rw [gl_si]
    rw [upd_ne (by omega)]
    exact h9
  · intro k hk
    have h9 := h.fl k hk
    rw [enP]
    rw [gl_si]
    rw [upd_ne (by omega)]
    exact h9
  · intro k hk
    rw [enP] at hk
    rw [gi_si_ne (by omega), gi_si_ne (by omega), upd_ne (by omega), upd_ne (by omega), upd_ne (by omega)]
    exact h.ta k hk
  · intro K k hK hk
    have h9 := h.kd K k hK hk
    rw [enP]
    rw [gl_si]
    rw [upd_ne (by omega)]
    exact h9
  · rw [enL]
    obtain ⟨o, ho, h1, h2⟩ := h.lg
    refine ⟨o, ho, by rw [gi_si_ne (by omega)]; exact h1, fun i hi => ?_⟩
    rw [gi_si_ne (by omega), gi_si_ne (by omega), gi_si_ne (by omega)]
    have u1 := enL ▸ hi
    rw [upd_ne (by omega), upd_ne (by omega), upd_ne (by omega)]
    exact h2 i hi
  · rw [enQ]
    obtain ⟨p1, p2⟩ := h.pr
    have g3 : ∀ i : Nat, gi (si m (30 + c0) k0 v) 43 i = gi m 43 i := fun i => gi_si_ne (by omega)
    have g4 : ∀ i : Nat, gi (si m (30 + c0) k0 v) 44 i = gi m 44 i := fun i => gi_si_ne (by omega)
    have g5 : ∀ i : Nat, (upd w (90 + 5 * k0 + c0) v) (600 + 2 * i) = w (600 + 2 * i) := fun i => upd_ne (by omega)
    have g6 : ∀ i : Nat, (upd w (90 + 5 * k0 + c0) v) (601 + 2 * i) = w (601 + 2 * i) := fun i => upd_ne (by omega)
    simp only [g3, g4, g5, g6]
    exact ⟨p1, p2⟩
theorem R0.wFd {m : MM} {w : Nat → Int32} (h : R0 m w) {f0 j0 : Nat} (h0 : f0 < 10) (h1 : j0 < 8) (h4 : j0 ≠ 4) (v : Int32) : R0 (si m (4 + f0) (fj j0) v) (upd w (130 + 11 * f0 + j0) v) := by
  obtain ⟨v1, v2, v3, v4, v5, v6, v7, v8⟩ := h.vc
  have enS : nS (upd w (130 + 11 * f0 + j0) v) = nS w := nS_u (by omega)
  have enT : nT (upd w (130 + 11 * f0 + j0) v) = nT w := nT_u (by omega)
  have enK : nK (upd w (130 + 11 * f0 + j0) v) = nK w := nK_u (by omega)
  have enF : nF (upd w (130 + 11 * f0 + j0) v) = nF w := nF_u (by omega)
  have enP : nP (upd w (130 + 11 * f0 + j0) v) = nP w := nP_u (by omega)
  have enQ : nQ (upd w (130 + 11 * f0 + j0) v) = nQ w := nQ_u (by omega)
  have enL : nL (upd w (130 + 11 * f0 + j0) v) = nL w := nL_u (by omega)
  refine ⟨?_, ?_, ?_, ?_, ?_, ?_, ?_, ?_, ?_, ?_, ?_, ?_, ?_, ?_, ?_, ?_, ?_, ?_, ?_, ?_, ?_, ?_, ?_, ?_, ?_, ?_, ?_, ?_, ?_, ?_, ?_⟩
  · rw [enS, enT, enK, enF, enP, enQ, enL]
    exact ⟨v1, v2, v3, v4, v5, v6, v7, fun f hf => by rw [wt_u (by omega)]; exact v8 f hf⟩
  · intro j hj
    rw [gi_si_ne (by omega), upd_ne (by omega)]
    exact h.set j hj
  · rw [gi_si_ne (by omega), upd_ne (by omega)]
    exact h.c15
  · rw [gi_si_ne (by omega), upd_ne (by omega)]
    exact h.c16
  · rw [gi_si_ne (by omega), upd_ne (by omega)]
    exact h.c17
  · rw [gi_si_ne (by omega), upd_ne (by omega)]
    exact h.c18
  · rw [gi_si_ne (by omega), upd_ne (by omega)]
    exact h.c19
  · rw [gi_si_ne (by omega), upd_ne (by omega)]
    exact h.c20
  · rw [gi_si_ne (by omega), upd_ne (by omega)]
    exact h.s21
  · rw [gi_si_ne (by omega), upd_ne (by omega)]
    exact h.s22
  · rw [gi_si_ne (by omega), upd_ne (by omega)]
    exact h.s23
  · rw [gi_si_ne (by omega), upd_ne (by omega)]
    exact h.s24
  · rw [gi_si_ne (by omega), upd_ne (by omega)]
    exact h.s25
  · rw [gi_si_ne (by omega), upd_ne (by omega)]
    exact h.s26
  · rw [gi_si_ne (by omega), upd_ne (by omega)]
    exact h.s27
  · rw [gi_si_ne (by omega), upd_ne (by omega)]
    exact h.s28
  · rw [gi_si_ne (by omega), upd_ne (by omega)]
    exact h.s29
  · intro a ha
    rw [gi_si_ne (by omega), upd_ne (by omega)]
    exact h.dn a ha
  · intro t ht
    rw [enT] at ht
    rw [gi_si_ne (by omega), upd_ne (by omega)]
    exact h.fr t ht
  · intro k hk
    rw [enK] at hk
    rw [gi_si_ne (by omega), upd_ne (by omega)]
    exact h.nz k hk
  · intro s j hs hj
    rw [enS] at hs
    rw [gi_si_ne (by omega), upd_ne (by omega)]
    exact h.sp s j hs hj
  · intro k c hk hc
    rw [gi_si_ne (by omega), upd_ne (by omega)]
    exact h.bk k c hk hc
  · intro f j hf hj
    rw [enF] at hf
    by_cases e : f = f0 ∧ j = j0
    · obtain ⟨e1, e2⟩ := e; subst e1; subst e2; rw [gi_si_eq, upd_eq]
    · have e3 : fj j ≠ fj j0 ∨ f ≠ f0 := by
        by_cases e4 : f = f0
        · exact Or.inl (fun z => e ⟨e4, fj_inj z⟩)
        · exact Or.inr e4
      rw [gi_si_ne (by omega), upd_ne (by omega)]
      exact h.fd f j hf hj
  · intro f k hf hk
    rw [enF] at hf
    rw [wt_u (by omega)] at hk
    have v9 := v8 f hf
    rw [gi_si_ne (by omega), upd_ne (by omega)]
    exact h.re f k hf hk
  · intro k hk
    rw [enP] at hk
    rw [gi_si_ne (by omega), gi_si_ne (by omega), gi_si_ne (by omega), upd_ne (by omega), upd_ne (by omega), upd_ne (by omega)]
    exact h.st k hk
  · intro k hk
    have h9 := h.op k hk
    rw [enP]
    rw [gl_si]
    rw [upd_ne (by omega)]
    exact h9
  · intro k hk
    have h9 := h.fl k hk
    rw [enP]
    rw [gl_si]
    rw [upd_ne (by omega)]
    exact h9
  · intro k hk
    rw [enP] at hk
    rw [gi_si_ne (by omega), gi_si_ne (by omega), upd_ne (by omega), upd_ne (by omega), upd_ne (by omega)]
    exact h.ta k hk
  · intro K k hK hk
    have h9 := h.kd K k hK hk
    rw [enP]
    rw [gl_si]
    rw [upd_ne (by omega)]
    exact h9
  · rw [enL]
    obtain ⟨o, ho, h1, h2⟩ := h.lg
    refine ⟨o, ho, by rw [gi_si_ne (by omega)]; exact h1, fun i hi => ?_⟩
    rw [gi_si_ne (by omega), gi_si_ne (by omega), gi_si_ne (by omega)]
    have u1 := enL ▸ hi
    rw [upd_ne (by omega), upd_ne (by omega), upd_ne (by omega)]
    exact h2 i hi
  · rw [enQ]
    obtain ⟨p1, p2⟩ := h.pr
    have g3 : ∀ i : Nat, gi (si m (4 + f0) (fj j0) v) 43 i = gi m 43 i := fun i => gi_si_ne (by omega)
    have g4 : ∀ i : Nat, gi (si m (4 + f0) (fj j0) v) 44 i = gi m 44 i := fun i => gi_si_ne (by omega)
    have g5 : ∀ i : Nat, (upd w (130 + 11 * f0 + j0) v) (600 + 2 * i) = w (600 + 2 * i) := fun i => upd_ne (by omega)
    have g6 : ∀ i : Nat, (upd w (130 + 11 * f0 + j0) v) (601 + 2 * i) = w (601 + 2 * i) := fun i => upd_ne (by omega)
    simp only [g3, g4, g5, g6]
    exact ⟨p1, p2⟩
