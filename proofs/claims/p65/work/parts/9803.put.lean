/-! PROPERTY: placing and changing keep it -/
theorem inv_fill {N : Nat → Nat} {e : Int32} {w : Nat → Int32} (h : Inv N e w) (hb : Bd w) {s k : Nat} (hs : s < 4) (hk : k < nP w) : Inv N e (fillW w s k) := by
  obtain ⟨v1, v2, v3, v4, v5, v6, v7⟩ := hb
  obtain ⟨i1, ⟨D, i2, i3⟩, i4, i5, i6, i7, U, i8, i9⟩ := h
  have o : ∀ i : Nat, i < 243 ∨ 480 ≤ i → fillW w s k i = w i := fun i hi => fillW_lo (by omega)
  have eS := nS_e (o 15 (by omega))
  have eT := nT_e (o 16 (by omega))
  have eK := nK_e (o 17 (by omega))
  have eF := nF_e (o 18 (by omega))
  have eP := nP_e (o 19 (by omega))
  have eL := nL_e (o 28 (by omega))
  refine ⟨?_, ⟨D, fun b h1 h2 => by rw [o _ (by omega)]; exact i2 b h1 h2, by rw [eL]; exact i3⟩, fun t ht => ?_, ?_, fun i hi L hL h1 => ?_, fun L hL => ?_, U, by rw [o 23 (by omega)]; exact i8, fun q hq h1 => ?_⟩
  · rw [o 38 (by omega), o 39 (by omega), o 40 (by omega), o 41 (by omega), o 42 (by omega), o 43 (by omega), o 23 (by omega)]
    exact i1
  · rw [eT] at ht
    obtain ⟨f, f1, f2, f3⟩ := i4 t ht
    refine ⟨f, f1, by rw [o _ (by omega)]; exact f2, ?_⟩
    rw [eS]
    have : nzC (fillW w s k) t (nS w) = nzC w t (nS w) := cntP_congr (fun i hi => by
      show decide (fillW w s k (58 + 8 * i) = I t) = decide (w (58 + 8 * i) = I t)
      rw [o _ (by omega)])
    rw [this]
    exact f3
  · rw [eS, chS_cg (nS w) (fun i hi => o _ (by omega)), o 31 (by omega)]
    exact i5
  · rw [eS] at hi
    rw [eK] at hL
    rw [o _ (by omega)] at h1
    rw [o _ (by omega), o _ (by omega)]
    exact i6 i hi L hL h1
  · rw [eK] at hL
    refine tol_cg (fun j hj => o _ (by omega)) ?_ ?_ (i7 L hL)
    · rw [eF]
      exact inR_cg (nF w) (fun f j hf hj => o _ (by omega)) v7
    · unfold heldC
      rw [eS]
      exact cntP_congr (fun i hi => by
        show decide (fillW w s k (58 + 8 * i + 1) = I L) = decide (w (58 + 8 * i + 1) = I L)
        rw [o _ (by omega)])
  · rw [eP] at hq
    by_cases c : q = k
    · subst c
      refine ⟨⟨s, hs, ?_⟩, U, ?_, Nat.le_refl _⟩
      · unfold fillW
        rw [upd_eq]
      · unfold fillW
        rw [upd_ne (by omega), upd_eq, i8.1]
    · rw [fillW_lo (by omega)] at h1
      rw [fillW_lo (by omega), fillW_lo (by omega)]
      exact i9 q hq h1
theorem inv_place {N : Nat → Nat} {m : MM} {w : Nat → Int32} (h : R m w) (hI : Inv N 0 w) (x : MM) {s k K : Nat} (hs : s < nS w) (hk : k < nP w) (hK : K < nK w) (h1 : w (58 + 8 * s + 1) = I K) (h2 : w (58 + 8 * s + 2) ≠ 0) (h3 : w (240 + 6 * k + 3) = 0) (h4 : w (240 + 6 * k) = I K) (h5 : D_X10_openBefore (I k) (pw x w) = some 0) : ∃ w' : Nat → Int32, D_X10_places (I s) (I k) (pw x w) = some (1, pw x w') ∧ Inv (upk 1 N) 0 w' ∧ w' 27 = w 27 := by
  have hb := h.r0.bd
  have hv := h.v
  have b4 := hb.1
  have b8 := hb.2.2.1
  have b40 := hb.2.2.2.2.1
  obtain ⟨-, -, rX, rY⟩ := hv.st k hk
  have rX : Rn 999 (w (240 + 6 * k + 1)) := rX
  have rY : Rn 999 (w (240 + 6 * k + 2)) := rY
  have gx : D_X10_goes (4 : Int32) (w (240 + 6 * k + 1)) (w (240 + 6 * k + 2)) (w 4) (pw x w) = some (pw x (goesW w 4 (w (240 + 6 * k + 1)) (w (240 + 6 * k + 2)) (w 4))) := goes_x x hv.spd (a := 4) (by decide) _ _ _
  have g1 : Inv (up1 N) 0 (goesW w 4 (w (240 + 6 * k + 1)) (w (240 + 6 * k + 2)) (w 4)) := inv_goes (by omega) hI hb (way_d hv.vg rX rY (hv.vg.2.1 4 (by omega)))
  have g2 : Bd (goesW w 4 (w (240 + 6 * k + 1)) (w (240 + 6 * k + 2)) (w 4)) := bd_goes (by omega) hb
  have lo : ∀ i : Nat, i ≠ 21 → i ≠ 22 → i ≠ 23 → i ≠ 41 → goesW w 4 (w (240 + 6 * k + 1)) (w (240 + 6 * k + 2)) (w 4) i = w i := fun i z1 z2 z3 z4 => goesW_lo ⟨z1, z2, z3, z4⟩
  generalize goesW w 4 (w (240 + 6 * k + 1)) (w (240 + 6 * k + 2)) (w 4) = wg at gx g1 g2 lo
  have g3 : Inv (up1 N) 0 (fillW wg s k) := inv_fill g1 g2 (by omega) (by rw [nP_e (lo 19 (by omega) (by omega) (by omega) (by omega))]; exact hk)
  have g4 : Bd (fillW wg s k) := g2.fr (fun i hi => fillW_lo (by omega)) (fun f hf => fillW_lo (by omega))
  have lo2 : ∀ i : Nat, i < 240 → i ≠ 21 → i ≠ 22 → i ≠ 23 → i ≠ 41 → fillW wg s k i = w i := fun i z0 z1 z2 z3 z4 => (fillW_lo (by omega)).trans (lo i z1 z2 z3 z4)
  have c28 : fillW wg s k 28 = w 28 := lo2 28 (by omega) (by omega) (by omega) (by omega) (by omega)
  have g5 : Inv (up1 N) 0 (putW (fillW wg s k) s K) := inv_drop g3 g4 (s := s) (K := K) (c := 1) (by rw [nS_e (lo2 15 (by omega) (by omega) (by omega) (by omega) (by omega))]; exact hs) (by rw [nK_e (lo2 17 (by omega) (by omega) (by omega) (by omega) (by omega))]; exact hK) (Or.inl rfl) (by rw [lo2 _ (by omega) (by omega) (by omega) (by omega) (by omega)]; exact h1) (by
      unfold putW
      rw [upd_ne (by omega), upd_ne (by omega), upd_eq]) (by
      unfold putW
      rw [upd_ne (by omega), upd_ne (by omega), upd_ne (by omega), upd_ne (by omega), upd_eq]) (fun i z1 z2 z3 z4 z5 z6 => putW_lo ⟨z1, z5, z2, z3, z4⟩)
  have g6 : Bd (putW (fillW wg s k) s K) := g4.fr (fun i hi => putW_lo (by omega)) (fun f hf => putW_lo (by omega))
  obtain ⟨w', e1, e2, e3⟩ := inv_fin (a := 4) (by omega) g5 g6 (nL28 hv.cnt.2.2.2.2.2.2 ((putW_lo (by omega)).trans c28)) x (I s) (I k) 1
  refine ⟨w', ?_, e2, e3.trans ((putW_lo (by omega)).trans (lo2 27 (by omega) (by omega) (by omega) (by omega) (by omega)))⟩
  unfold D_X10_places D_X10_frees
  rw [oSp1P (by omega), b1_s, h1, if_neg (I_ne_neg (by omega)), oSp2P (by omega), b1_s, if_neg h2, oSt3P (by omega), b1_s, if_pos h3, oSt0P (by omega), b1_s, if_pos h4, h5, b1_s, if_pos rfl, oSt1P (by omega), b1_s, oSt2P (by omega), b1_s, giP, gx, b1_s, poSt3P (by omega), b1_s, giP, upd_ne (show 23 ≠ 240 + 6 * k + 3 by omega), poSt4P (by omega), b1_s, poSt5P (by omega), b1_s, bks1P (by omega), b1_s, oSp4P (by omega), b1_s, poSp4P (by omega), b1_s, poSp1P (by omega), b1_s, poSp2P (by omega), b1_s, poSp3P (by omega), b1_s, b1_s, b2_id, upd_ne (show 58 + 8 * s + 4 ≠ 90 + 5 * K + 1 by omega)]
  exact e1
/-- a nozzle goes from the spindle (t0, or none) into the magazine, and one of type t comes -/
theorem inv_change {N : Nat → Nat} {m : MM} {w : Nat → Int32} (h : R m w) (hI : Inv N 0 w) (x : MM) {s t : Nat} (hs : s < nS w) (ht : t < nT w) (h1 : w (58 + 8 * s + 1) = -1) (h2 : w (58 + 8 * s) ≠ I t) (h3 : w (44 + t) ≠ 0) (hN : ∀ t : Nat, t < 6 → N t < 1000) : ∃ w' : Nat → Int32, D_X10_changes (I s) (I t) (pw x w) = some (1, pw x w') ∧ Inv (upk 1 N) 0 w' ∧ w' 27 = w 27 := by
  have hb := h.r0.bd
  have hv := h.v
  have b4 := hb.1
  have b6 := hb.2.1
  have b8 := hb.2.2.1
  have gx : D_X10_goes (1 : Int32) 0 0 (w 1) (pw x w) = some (pw x (goesW w 1 0 0 (w 1))) := goes_x x hv.spd (a := 1) (by decide) _ _ _
  have g1 : Inv (up1 N) 0 (goesW w 1 0 0 (w 1)) := inv_goes (by omega) hI hb (way_d hv.vg Rn.z Rn.z (hv.vg.2.1 1 (by omega)))
  have g2 : Bd (goesW w 1 0 0 (w 1)) := bd_goes (by omega) hb
  have lo : ∀ i : Nat, i ≠ 21 → i ≠ 22 → i ≠ 23 → i ≠ 38 → goesW w 1 0 0 (w 1) i = w i := fun i z1 z2 z3 z4 => goesW_lo ⟨z1, z2, z3, z4⟩
  generalize goesW w 1 0 0 (w 1) = w1 at gx g1 g2 lo
  -- the row behind both moves of nozzles
  have fin : ∀ w2 : Nat → Int32, (∀ i : Nat, i < 44 ∨ 50 ≤ i → w2 i = w1 i) → (∀ t' : Nat, t' < nT w → w2 (44 + t') = w1 (44 + t') + (if w (58 + 8 * s) = I t' then 1 else 0)) → ∃ w' : Nat → Int32, D_X10_changes_74 (I s) (I t) (pw x w2) = some (1, pw x w') ∧ Inv (upk 1 N) 0 w' ∧ w' 27 = w 27 := fun w2 hlo h44 => by
    have l2 : ∀ i : Nat, (i < 44 ∨ 50 ≤ i) → i ≠ 21 → i ≠ 22 → i ≠ 23 → i ≠ 38 → w2 i = w i := fun i z0 z1 z2 z3 z4 => (hlo i z0).trans (lo i z1 z2 z3 z4)
    have l3 : ∀ i : Nat, i ≠ 44 + t → i ≠ 58 + 8 * s → i ≠ 58 + 8 * s + 7 → i ≠ 58 + 8 * s + 5 → W33 w2 s t i = w2 i := fun i z1 z2 z3 z4 => by
      unfold W33
      rw [upd_ne z4, upd_ne z3, upd_ne z2, upd_ne z1]
    have a44 : W33 w2 s t (44 + t) = w2 (44 + t) - 1 := by
      unfold W33
      rw [upd_ne (by omega), upd_ne (by omega), upd_ne (by omega), upd_eq]
    have a0 : W33 w2 s t (58 + 8 * s) = I t := by
      unfold W33
      rw [upd_ne (by omega), upd_ne (by omega), upd_eq]
    have a5 : W33 w2 s t (58 + 8 * s + 5) = w2 (58 + 8 * s + 5) + 1 := by
      unfold W33
      rw [upd_eq]
    rw [ch74_x x (by omega) (by omega)]
    generalize W33 w2 s t = w3 at l3 a44 a0 a5 ⊢
    have o : ∀ i : Nat, (i < 44 ∨ 50 ≤ i) → i ≠ 58 + 8 * s → i ≠ 58 + 8 * s + 7 → i ≠ 58 + 8 * s + 5 → w3 i = w1 i := fun i z0 z1 z2 z3 => (l3 i (by omega) z1 z2 z3).trans (hlo i z0)
    have ow : ∀ i : Nat, (i < 44 ∨ 50 ≤ i) → i ≠ 58 + 8 * s → i ≠ 58 + 8 * s + 7 → i ≠ 58 + 8 * s + 5 → i ≠ 21 → i ≠ 22 → i ≠ 23 → i ≠ 38 → w3 i = w i := fun i z0 z1 z2 z3 y1 y2 y3 y4 => (o i z0 z1 z2 z3).trans (lo i y1 y2 y3 y4)
    have w1w : ∀ i : Nat, 44 ≤ i → w1 i = w i := fun i hi => lo i (by omega) (by omega) (by omega) (by omega)
    obtain ⟨v1, v2, v3, v4, v5, v6, v7⟩ := g2
    obtain ⟨i1, ⟨D, i2, i3⟩, i4, i5, i6, i7, U, i8, i9⟩ := g1
    have eS1 := nS_e (lo 15 (by omega) (by omega) (by omega) (by omega))
    have eT1 := nT_e (lo 16 (by omega) (by omega) (by omega) (by omega))
    have eS := nS_e (o 15 (by omega) (by omega) (by omega) (by omega))
    have eT := nT_e (o 16 (by omega) (by omega) (by omega) (by omega))
    have eK := nK_e (o 17 (by omega) (by omega) (by omega) (by omega))
    have eF := nF_e (o 18 (by omega) (by omega) (by omega) (by omega))
    have eP := nP_e (o 19 (by omega) (by omega) (by omega) (by omega))
    have eL := nL_e (o 28 (by omega) (by omega) (by omega) (by omega))
    have hB : Bd w3 := Bd.fr ⟨v1, v2, v3, v4, v5, v6, v7⟩ (fun i hi => o i (by omega) (by omega) (by omega) (by omega)) (fun f hf => o _ (by omega) (by omega) (by omega) (by omega))
    have hI3 : Inv (up1 N) 1 w3 := by
      refine ⟨?_, ⟨D, fun b h1 h2 => by rw [o _ (by omega) (by omega) (by omega) (by omega)]; exact i2 b h1 h2, by rw [eL]; exact i3⟩, fun t' ht' => ?_, ?_, fun i hi L hL hx => ?_, fun L hL => ?_, U, by rw [o 23 (by omega) (by omega) (by omega) (by omega)]; exact i8, fun q hq h1 => ?_⟩
      · rw [o 38 (by omega) (by omega) (by omega) (by omega), o 39 (by omega) (by omega) (by omega) (by omega), o 40 (by omega) (by omega) (by omega) (by omega), o 41 (by omega) (by omega) (by omega) (by omega), o 42 (by omega) (by omega) (by omega) (by omega), o 43 (by omega) (by omega) (by omega) (by omega), o 23 (by omega) (by omega) (by omega) (by omega)]
        exact i1
      · rw [eT, eT1] at ht'
        obtain ⟨f, f1, f2, f3⟩ := i4 t' (by rw [eT1]; exact ht')
        rw [eS1] at f3
        rw [eS, eS1]
        have hh := cntP_one (p := fun i => decide (w1 (58 + 8 * i) = I t')) (q := fun i => decide (w3 (58 + 8 * i) = I t')) (s := s) (nS w) (fun i hi hn => by
          show decide (w3 (58 + 8 * i) = I t') = decide (w1 (58 + 8 * i) = I t')
          rw [o _ (by omega) (by omega) (by omega) (by omega)]) hs
        have e1 : cntP (fun i => decide (w1 (58 + 8 * i) = I t')) (nS w) = nzC w1 t' (nS w) := rfl
        have e3 : cntP (fun i => decide (w3 (58 + 8 * i) = I t')) (nS w) = nzC w3 t' (nS w) := rfl
        have hNt := hN t' (by omega)
        rw [up1_lo (N := N) (t := t') (by omega)] at f1 f3 ⊢
        have q4 := h44 t' ht'
        rw [f2] at q4
        have d3 : decide (w3 (58 + 8 * s) = I t') = decide (t = t') := by
          rw [a0]
          exact decide_eq_decide.mpr (I_inj (by omega) (by omega))
        have d1 : decide (w1 (58 + 8 * s) = I t') = decide (w (58 + 8 * s) = I t') := by rw [w1w _ (by omega)]
        have hh : nzC w3 t' (nS w) + (if decide (w (58 + 8 * s) = I t') = true then 1 else 0) = nzC w1 t' (nS w) + (if decide (t = t') = true then 1 else 0) := by
          rw [← d1, ← d3]
          exact hh
        by_cases ct : t' = t
        · subst ct
          have n0 : ¬ w (58 + 8 * s) = I t' := h2
          rw [if_neg n0, Int32.add_zero] at q4
          have hf0 : f ≠ 0 := fun z => h3 (by rw [← w1w _ (by omega), f2, z]; rfl)
          rw [decide_eq_false n0, decide_eq_true (show t' = t' from rfl)] at hh
          refine ⟨f - 1, by omega, by rw [a44, q4, show (1 : Int32) = I 1 from rfl, I_sub (by omega)], ?_⟩
          simp at hh
          omega
        · rw [decide_eq_false (show ¬ t = t' from fun z => ct z.symm)] at hh
          rw [l3 _ (by omega) (by omega) (by omega) (by omega), q4]
          by_cases c0 : w (58 + 8 * s) = I t'
          · rw [decide_eq_true c0] at hh
            simp at hh
            rw [if_pos c0, show (1 : Int32) = I 1 from rfl, I_add]
            exact ⟨f + 1, by omega, rfl, by omega⟩
          · rw [decide_eq_false c0] at hh
            simp at hh
            rw [if_neg c0, Int32.add_zero]
            exact ⟨f, by omega, rfl, by omega⟩
      · rw [eS, chS_up (d := 1) (s := s) (by rw [a5, hlo _ (by omega)]) (nS w1) (fun i hi hn => o _ (by omega) (by omega) (by omega) (by omega)) (by rw [eS1]; exact hs), i5, o 31 (by omega) (by omega) (by omega) (by omega), Int32.add_zero]
      · rw [eS] at hi
        rw [eK] at hL
        by_cases c1 : i = s
        · subst c1
          rw [ow _ (by omega) (by omega) (by omega) (by omega) (by omega) (by omega) (by omega) (by omega)] at hx
          exact absurd (hx.symm.trans h1) (I_ne_neg (by omega))
        · rw [o _ (by omega) (by omega) (by omega) (by omega)] at hx
          rw [o _ (by omega) (by omega) (by omega) (by omega), o _ (by omega) (by omega) (by omega) (by omega)]
          exact i6 i hi L hL hx
      · rw [eK] at hL
        refine tol_cg (fun j hj => o _ (by omega) (by omega) (by omega) (by omega)) ?_ ?_ (i7 L hL)
        · rw [eF]
          exact inR_cg (nF w1) (fun f j hf hj => o _ (by omega) (by omega) (by omega) (by omega)) v7
        · unfold heldC
          rw [eS]
          exact cntP_congr (fun i hi => by
            show decide (w3 (58 + 8 * i + 1) = I L) = decide (w1 (58 + 8 * i + 1) = I L)
            rw [o _ (by omega) (by omega) (by omega) (by omega)])
      · rw [eP] at hq
        rw [o _ (by omega) (by omega) (by omega) (by omega)] at h1
        rw [o _ (by omega) (by omega) (by omega) (by omega), o _ (by omega) (by omega) (by omega) (by omega)]
        exact i9 q hq h1
    obtain ⟨wz, z1, z2, z3⟩ := inv_fin (a := 1) (by omega) hI3 hB (nL28 hv.cnt.2.2.2.2.2.2 (ow 28 (by omega) (by omega) (by omega) (by omega) (by omega) (by omega) (by omega) (by omega))) x (I s) (I t) 1
    exact ⟨wz, z1, z2, z3.trans (ow 27 (by omega) (by omega) (by omega) (by omega) (by omega) (by omega) (by omega) (by omega))⟩
  unfold D_X10_changes
  simp (disch := omega) only [oSp1, oSp0, rw1_pw, b1_s, ix44, gdJ, I_tnc, giP]
  rw [if_pos h1, if_neg h2, if_neg h3, gx, b1_s]
  rcases (hv.sp s hs).1 with q | ⟨t0, ht0, q⟩
  · have q : w (58 + 8 * s) = -1 := q
    rw [if_pos q]
    refine fin w1 (fun i _ => rfl) (fun t' ht' => ?_)
    rw [if_neg (by rw [q]; exact fun z => I_ne_neg (by omega) z.symm), Int32.add_zero]
  · have q : w (58 + 8 * s) = I t0 := q
    rw [q, if_neg (I_ne_neg (by omega))]
    simp (disch := omega) only [bnd_s, ix44, gdJ, I_tnc, giP, siP]
    refine fin _ (fun i hi => upd_ne (by omega)) (fun t' ht' => ?_)
    by_cases c : t' = t0
    · subst c
      rw [upd_eq, if_pos q]
    · rw [upd_ne (by omega), if_neg (by rw [q]; exact fun z => c ((I_inj (by omega) (by omega)).mp z).symm), Int32.add_zero]
