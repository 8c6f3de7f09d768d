/-! PURE: the log and the draws -/
theorem upd_is {f : Nat → Int32} {k j : Nat} {v : Int32} (h : j = k) : upd f k v j = v := by subst h; exact upd_eq _ _ _
theorem gi_si_is {m : MM} {q k : Nat} {v : Int32} {q' k' : Nat} (h : q' = q ∧ k' = k) : gi (si m q k v) q' k' = v := by
  obtain ⟨rfl, rfl⟩ := h
  exact gi_si_eq _ _ _ _
theorem b2_id {α β : Type} (o : Option (α × β)) : b2 o (fun v m => some (v, m)) = o := by cases o <;> rfl
theorem b1_id {α : Type} (o : Option α) : b1 o (fun v => some v) = o := by cases o <;> rfl
def noteW (w : Nat → Int32) (c r : Int32) : Nat → Int32 := fun i =>
  if nL w = 40 then (if 480 ≤ i ∧ i < 597 then w (i + 3) else if i = 597 then c else if i = 598 then r else if i = 599 then w 23 else w i)
  else (if i = 480 + 3 * nL w then c else if i = 480 + 3 * nL w + 1 then r else if i = 480 + 3 * nL w + 2 then w 23 else if i = 28 then I (nL w + 1) else w i)
theorem noteW_lo {w : Nat → Int32} {c r : Int32} {i : Nat} (h : i ≠ 28) (h2 : i < 480 ∨ 600 ≤ i) (hL : nL w ≤ 40) : noteW w c r i = w i := by
  unfold noteW
  by_cases h40 : nL w = 40
  · rw [if_pos h40, if_neg (by omega), if_neg (by omega), if_neg (by omega), if_neg (by omega)]
  · rw [if_neg h40, if_neg (by omega), if_neg (by omega), if_neg (by omega), if_neg (by omega)]
theorem noteW_28 {w : Nat → Int32} {c r : Int32} (h : w 28 = I (nL w)) : noteW w c r 28 = I (if nL w = 40 then 40 else nL w + 1) := by
  unfold noteW
  by_cases h40 : nL w = 40
  · rw [if_pos h40, if_neg (by omega), if_neg (by omega), if_neg (by omega), if_neg (by omega), if_pos h40, h, h40]
  · rw [if_neg h40, if_neg (by omega), if_neg (by omega), if_neg (by omega), if_pos rfl, if_neg h40]
theorem nL_noteW {w : Nat → Int32} {c r : Int32} (h : w 28 = I (nL w)) (hL : nL w ≤ 40) : nL (noteW w c r) = (if nL w = 40 then 40 else nL w + 1) := by
  show (noteW w c r 28).toNatClampNeg = _
  rw [noteW_28 h, I_tnc (by split <;> omega)]
theorem noteW_upd (w : Nat → Int32) (c r : Int32) {j : Nat} (v : Int32) (h1 : j < 480) (h2 : j ≠ 28) (h3 : j ≠ 23) (hL : nL w ≤ 40) : upd (noteW w c r) j v = noteW (upd w j v) c r := by
  have en : nL (upd w j v) = nL w := nL_u (Ne.symm (Ne.symm h2))
  funext i
  by_cases hi : i = j
  · subst hi
    rw [upd_eq, noteW_lo h2 (Or.inl h1) (by rw [en]; exact hL), upd_eq]
  · rw [upd_ne hi]
    unfold noteW
    rw [en, upd_ne (f := w) (v := v) (Ne.symm h3), upd_ne (f := w) (v := v) hi]
    by_cases h40 : nL w = 40
    · rw [if_pos h40, if_pos h40]
      by_cases h4 : 480 ≤ i ∧ i < 597
      · rw [if_pos h4, if_pos h4, upd_ne (by omega)]
      · rw [if_neg h4, if_neg h4]
    · rw [if_neg h40, if_neg h40]
-- the reference's log
def shiftW (w : Nat → Int32) (k : Nat) : Nat → Int32 := fun i => if k ≤ i ∧ i < 597 then w (i + 3) else w i
theorem notes71_x {w : Nat → Int32} (x : MM) {L : Nat} (h : w 28 = I L) (hL : L < 40) (A S T r : Int32) : D_X10_notes_71 A S T r (pw x w) = some (r, pw x (upd (upd (upd (upd w (480 + 3 * L) ((((10000 : Int32) * A) + ((100 : Int32) * S)) + T)) (480 + 3 * L + 1) r) (480 + 3 * L + 2) (w 23)) 28 (I (L + 1)))) := by
  unfold D_X10_notes_71
  simp (disch := omega) only [bnd_s, giP, siP, h, ix480, ixs1, ixs2, gdJ, I_tnc, upd_ne]
theorem notes30_x (A S T r : Int32) (x : MM) : ∀ d k : Nat, ∀ w : Nat → Int32, ∀ n : Nat, k + d = 597 → 480 ≤ k → d < n → D_X10_notes_30 n A S T r (I k) (pw x w) = D_X10_notes_71 A S T r (pw x (upd (shiftW w k) 28 (w 28 - 1))) := by
  intro d
  induction d with
  | zero =>
    intro k w n hk h480 hn
    obtain ⟨n, rfl⟩ : ∃ n' : Nat, n = n' + 1 := ⟨n - 1, by omega⟩
    have hk2 : k = 597 := by omega
    subst hk2
    have e : shiftW w 597 = w := funext fun i => if_neg (by omega)
    unfold D_X10_notes_30
    rw [if_pos (by decide), e, bnd_s, siP, giP]
  | succ d ih =>
    intro k w n hk h480 hn
    obtain ⟨n, rfl⟩ : ∃ n' : Nat, n = n' + 1 := ⟨n - 1, by omega⟩
    have e : shiftW (upd w k (w (k + 3))) (k + 1) = shiftW w k := by
      funext i
      unfold shiftW
      by_cases hi : i = k
      · subst hi
        rw [if_neg (by omega), upd_eq, if_pos (by omega)]
      · by_cases h2 : k ≤ i ∧ i < 597
        · rw [if_pos (by omega), if_pos h2, upd_ne (by omega)]
        · rw [if_neg (by omega), if_neg h2, upd_ne hi]
    have e28 : upd w k (w (k + 3)) 28 = w 28 := upd_ne (by omega)
    have hle : ¬ (597 : Int32) ≤ I k := fun z => by
      have z2 : I 597 ≤ I k := z
      rw [I_le (by omega) (by omega)] at z2
      omega
    unfold D_X10_notes_30
    rw [if_neg hle]
    simp (disch := omega) only [bnd_s, giP, siP, ixs1, ixs3, gdJ, I_tnc]
    rw [ih (k + 1) _ n (by omega) (by omega) (by omega), e, e28]
theorem notes_x {w : Nat → Int32} (x : MM) (hc : w 28 = I (nL w)) (hL : nL w ≤ 40) {a : Nat} (ha : a < 7) (S T r : Int32) : D_X10_notes (I a) S T r (pw x w) = some (r, pw x (noteW (upd w (30 + a) (w (30 + a) + 1)) ((((10000 : Int32) * I a) + ((100 : Int32) * S)) + T) r)) := by
  unfold D_X10_notes
  simp (disch := omega) only [bnd_s, ix30, gdJ, I_tnc, giP, siP]
  have e1 : upd w (30 + a) (w (30 + a) + 1) 28 = w 28 := upd_ne (by omega)
  have e2 : nL (upd w (30 + a) (w (30 + a) + 1)) = nL w := nL_u (by omega)
  generalize upd w (30 + a) (w (30 + a) + 1) = w1 at e1 e2
  rw [← e1, ← e2] at hc
  rw [← e2] at hL
  have h40i : w1 28 = (40 : Int32) ↔ nL w1 = 40 := by
    rw [hc]
    exact I_inj (b := 40) (by omega) (by decide)
  by_cases h40 : nL w1 = 40
  · rw [if_pos (h40i.mpr h40)]
    have k := notes30_x (I a) S T r x 117 480 w1 FU (by decide) (by decide) (by decide)
    have k2 : D_X10_notes_30 FU (I a) S T r (480 : Int32) (pw x w1) = _ := k
    rw [k2]
    have e28 : upd (shiftW w1 480) 28 (w1 28 - 1) 28 = I 39 := by
      rw [upd_eq, hc, h40]
      decide
    rw [notes71_x x e28 (by decide)]
    refine congrArg (fun f => some (r, pw x f)) (funext fun i => ?_)
    unfold noteW
    rw [if_pos h40]
    by_cases h28 : i = 28
    · subst h28
      rw [upd_eq, if_neg (by omega), if_neg (by omega), if_neg (by omega), if_neg (by omega), hc, h40]
    · rw [upd_ne h28]
      by_cases g3 : i = 599
      · subst g3
        rw [upd_is (by omega), if_neg (by omega), if_neg (by omega), if_neg (by omega), if_pos rfl, upd_ne (by omega)]
        exact if_neg (by omega)
      · rw [upd_ne (by omega)]
        by_cases g2 : i = 598
        · subst g2
          rw [upd_is (by omega), if_neg (by omega), if_neg (by omega), if_pos rfl]
        · rw [upd_ne (by omega)]
          by_cases g1 : i = 597
          · subst g1
            rw [upd_is (by omega), if_neg (by omega), if_pos rfl]
          · rw [upd_ne (by omega), upd_ne h28, if_neg g1, if_neg g2, if_neg g3]
            rfl
  · rw [if_neg (fun z => h40 (h40i.mp z)), notes71_x x hc (by omega)]
    refine congrArg (fun f => some (r, pw x f)) (funext fun i => ?_)
    unfold noteW
    rw [if_neg h40]
    by_cases h28 : i = 28
    · subst h28
      rw [upd_eq, if_neg (by omega), if_neg (by omega), if_neg (by omega), if_pos rfl]
    · rw [upd_ne h28]
      by_cases g3 : i = 480 + 3 * nL w1 + 2
      · rw [upd_is g3, if_neg (by omega), if_neg (by omega), if_pos g3]
      · rw [upd_ne g3]
        by_cases g2 : i = 480 + 3 * nL w1 + 1
        · rw [upd_is g2, if_neg (by omega), if_pos g2]
        · rw [upd_ne g2]
          by_cases g1 : i = 480 + 3 * nL w1
          · rw [upd_is g1, if_pos g1]
          · rw [upd_ne g1, if_neg g1, if_neg g2, if_neg g3, if_neg h28]
-- the class's log
theorem mod40 : ∀ n : Nat, n < 80 → (I n - I n / (40 : Int32) * (40 : Int32)) = I (n % 40) := by decide +kernel
theorem noteW_vc {m : MM} {w : Nat → Int32} (h : R0 m w) (hc : w 28 = I (nL w)) (c r : Int32) : (nS (noteW w c r) ≤ 4 ∧ nT (noteW w c r) ≤ 6 ∧ nK (noteW w c r) ≤ 8 ∧ nF (noteW w c r) ≤ 10 ∧ nP (noteW w c r) ≤ 40 ∧ nQ (noteW w c r) ≤ 20 ∧ nL (noteW w c r) ≤ 40 ∧ ∀ f : Nat, f < nF (noteW w c r) → wt (noteW w c r) f ≤ 3) := by
  obtain ⟨v1, v2, v3, v4, v5, v6, v7, v8⟩ := h.vc
  have lo : ∀ i : Nat, i ≠ 28 → i < 480 → noteW w c r i = w i := fun i h1 h2 => noteW_lo h1 (Or.inl h2) v7
  have eF : nF (noteW w c r) = nF w := by unfold nF; rw [lo 18 (by decide) (by decide)]
  refine ⟨by unfold nS; rw [lo 15 (by decide) (by decide)]; exact v1, by unfold nT; rw [lo 16 (by decide) (by decide)]; exact v2, by unfold nK; rw [lo 17 (by decide) (by decide)]; exact v3, by rw [eF]; exact v4, by unfold nP; rw [lo 19 (by decide) (by decide)]; exact v5, by unfold nQ; rw [lo 20 (by decide) (by decide)]; exact v6, by rw [nL_noteW hc v7]; split <;> omega, fun f hf => ?_⟩
  rw [eF] at hf
  unfold wt
  rw [lo (134 + 11 * f) (by omega) (by omega)]
  exact v8 f hf
theorem note_s {τ : Nat → Int32} {m : MM} {w : Nat → Int32} (h : R1 τ m w) (hc : w 28 = I (nL w)) (c r : Int32) : ∃ m' : MM, D_X4_note c r (w 23) m = some m' ∧ R1 τ m' (noteW w c r) := by
  obtain ⟨v1, v2, v3, v4, v5, v6, v7, v8⟩ := h.1.vc
  obtain ⟨o, ho, h1, h2⟩ := h.1.lg
  have e0 : gi m 45 0 = I (nL w) := h.1.s28.trans hc
  have ea : ((gi m 45 1 + gi m 45 0) - (gi m 45 1 + gi m 45 0) / (40 : Int32) * (40 : Int32)) = I ((o + nL w) % 40) := by
    rw [h1, e0, I_add, mod40 _ (by omega)]
  unfold D_X4_note
  rw [ea]
  have hlt : (o + nL w) % 40 < 40 := Nat.mod_lt _ (by decide)
  simp (disch := omega) only [bnd_s, gdJ, I_tnc, gi_si_ne, e0]
  have h40i : (40 : Int32) ≤ I (nL w) ↔ nL w = 40 := by
    rw [show (40 : Int32) = I 40 from rfl, I_le (by omega) (by omega)]
    omega
  by_cases h40 : nL w = 40
  · rw [if_pos (h40i.mpr h40)]
    refine ⟨_, rfl, ?_, fun a ha => ?_⟩
    · refine h.1.fLog (fun q k hq => ?_) (fun q k _ => rfl) (fun i hi => noteW_lo hi.2 hi.1 v7) (noteW_vc h.1 hc c r) ?_ ?_
      · simp (disch := omega) only [gi_si_ne]
      · simp (disch := omega) only [gi_si_ne]
        rw [e0, noteW_28 hc, if_pos h40, h40]
      · refine ⟨(o + 1) % 40, by omega, ?_, fun i hi => ?_⟩
        · rw [gi_si_eq, h1, show (1 : Int32) = I 1 from rfl, I_add, mod40 _ (by omega)]
        · rw [nL_noteW hc v7, if_pos h40] at hi
          by_cases hi2 : i = 39
          · subst hi2
            simp (disch := omega) only [gi_si_ne, gi_si_is]
            unfold noteW
            rw [if_pos h40, if_pos h40, if_pos h40]
            exact ⟨rfl, rfl, rfl⟩
          · have k := h2 (i + 1) (by omega)
            rw [show ((o + 1) % 40 + i) % 40 = (o + (i + 1)) % 40 by omega]
            simp (disch := omega) only [gi_si_ne]
            unfold noteW
            rw [if_pos h40, if_pos h40, if_pos h40, if_pos (by omega), if_pos (by omega), if_pos (by omega)]
            exact k
    · simp (disch := omega) only [gi_si_ne]
      exact h.2 a ha
  · rw [if_neg (fun z => h40 (h40i.mp z))]
    refine ⟨_, rfl, ?_, fun a ha => ?_⟩
    · refine h.1.fLog (fun q k hq => ?_) (fun q k _ => rfl) (fun i hi => noteW_lo hi.2 hi.1 v7) (noteW_vc h.1 hc c r) ?_ ?_
      · simp (disch := omega) only [gi_si_ne]
      · rw [gi_si_eq, noteW_28 hc, if_neg h40, ixs1]
      · refine ⟨o, ho, ?_, fun i hi => ?_⟩
        · simp (disch := omega) only [gi_si_ne]
          exact h1
        · rw [nL_noteW hc v7, if_neg h40] at hi
          by_cases hi2 : i = nL w
          · subst hi2
            simp (disch := omega) only [gi_si_ne, gi_si_is]
            unfold noteW
            rw [if_neg h40, if_neg h40, if_neg h40, if_pos rfl, if_neg (by omega), if_pos (by omega), if_neg (by omega), if_neg (by omega), if_pos (by omega)]
            exact ⟨rfl, rfl, rfl⟩
          · have k := h2 i (by omega)
            simp (disch := omega) only [gi_si_ne]
            unfold noteW
            rw [if_neg h40, if_neg h40, if_neg h40, if_neg (by omega), if_neg (by omega), if_neg (by omega), if_neg (by omega), if_neg (by omega), if_neg (by omega), if_neg (by omega), if_neg (by omega), if_neg (by omega), if_neg (by omega), if_neg (by omega), if_neg (by omega)]
            exact k
    · simp (disch := omega) only [gi_si_ne]
      exact h.2 a ha
-- draws
def drawW (w : Nat → Int32) : Nat → Int32 := upd w 10 (((((w 10).toInt64 * (1103515245 : Int64)) + (12345 : Int64)) - (((w 10).toInt64 * (1103515245 : Int64)) + (12345 : Int64)) / (2147483648 : Int64) * (2147483648 : Int64)).toInt32)
def drv (w : Nat → Int32) : Int32 := ((w 10 / (65536 : Int32)) - (w 10 / (65536 : Int32)) / (100 : Int32) * (100 : Int32))
theorem draw_x (x : MM) (w : Nat → Int32) : D_X10_draw (pw x w) = some (drv (drawW w), pw x (drawW w)) := by
  unfold D_X10_draw
  simp only [bnd_s, giP, siP]
  rfl
theorem draw_s {τ : Nat → Int32} {m : MM} {w : Nat → Int32} (h : R1 τ m w) : ∃ m' : MM, D_X6_draw m = some (drv (drawW w), m') ∧ R1 τ m' (drawW w) := by
  have e : gi m 25 10 = w 10 := h.1.set 10 (by decide)
  unfold D_X6_draw
  simp only [bnd_s, gi_si_eq, e]
  refine ⟨_, ?_, h.wSet (j := 10) (by decide) _⟩
  unfold drv drawW
  rw [upd_eq]
