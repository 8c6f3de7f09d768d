/-! PROPERTY: reels, boards and settings -/
theorem inv_reel {N : Nat → Nat} {e : Int32} {w w' : Nat → Int32} (h : Inv N e w) (hb : Bd w) {f K p : Nat} (hf : f < nF w) (hK : K < nK w) (hk : w (130 + 11 * f) = I K) (hk' : w' (130 + 11 * f) = I K) (hc : (fsum w' f = fsum w f + p ∧ w' (90 + 5 * K) = w (90 + 5 * K) + I p ∧ w' (90 + 5 * K + 4) = w (90 + 5 * K + 4)) ∨ (fsum w' f + p = fsum w f ∧ w' (90 + 5 * K) = w (90 + 5 * K) ∧ w' (90 + 5 * K + 4) = w (90 + 5 * K + 4) + I p)) (o : ∀ i : Nat, i ≠ 27 → i ≠ 90 + 5 * K → i ≠ 90 + 5 * K + 4 → (i < 130 + 11 * f ∨ 141 + 11 * f ≤ i) → w' i = w i) : Inv N e w' := by
  obtain ⟨v1, v2, v3, v4, v5, v6, v7⟩ := hb
  obtain ⟨i1, ⟨D, i2, i3⟩, i4, i5, i6, i7, U, i8, i9⟩ := h
  have o' : ∀ i : Nat, (i < 90 ∧ i ≠ 27 ∨ 240 ≤ i) → w' i = w i := fun i hi => o i (by omega) (by omega) (by omega) (by omega)
  have eS := nS_e (o' 15 (by omega))
  have eT := nT_e (o' 16 (by omega))
  have eK := nK_e (o' 17 (by omega))
  have eF := nF_e (o' 18 (by omega))
  have eP := nP_e (o' 19 (by omega))
  have eL := nL_e (o' 28 (by omega))
  have hh : ∀ L : Nat, heldC w' (I L) = heldC w (I L) := fun L => by
    unfold heldC
    rw [eS]
    exact cntP_congr (fun i hi => by
      show decide (w' (58 + 8 * i + 1) = I L) = decide (w (58 + 8 * i + 1) = I L)
      rw [o' _ (by omega)])
  refine ⟨?_, ⟨D, fun b h1 h2 => by rw [o' _ (by omega)]; exact i2 b h1 h2, by rw [eL]; exact i3⟩, fun t ht => ?_, ?_, fun i hi L hL hx => ?_, fun L hL => ?_, U, by rw [o' 23 (by omega)]; exact i8, fun k hk hx => ?_⟩
  · rw [o' 38 (by omega), o' 39 (by omega), o' 40 (by omega), o' 41 (by omega), o' 42 (by omega), o' 43 (by omega), o' 23 (by omega)]
    exact i1
  · rw [eT] at ht
    obtain ⟨g, f1, f2, f3⟩ := i4 t ht
    refine ⟨g, f1, by rw [o' _ (by omega)]; exact f2, ?_⟩
    rw [eS]
    have : nzC w' t (nS w) = nzC w t (nS w) := cntP_congr (fun i hi => by
      show decide (w' (58 + 8 * i) = I t) = decide (w (58 + 8 * i) = I t)
      rw [o' _ (by omega)])
    rw [this]
    exact f3
  · rw [eS, chS_cg (nS w) (fun i hi => o' _ (by omega)), o' 31 (by omega)]
    exact i5
  · rw [eS] at hi
    rw [eK] at hL
    rw [o' _ (by omega)] at hx
    rw [o' (58 + 8 * i) (by omega), o' _ (by omega)]
    exact i6 i hi L hL hx
  · rw [eK] at hL
    have hin := inR_one (K := I L) (w := w) (w' := w') (f := f) (hk'.trans hk.symm) (nF w) (fun g j hg hn hj => o _ (by omega) (by omega) (by omega) (by omega)) v7 hf
    have b0 := i7 L hL
    have ob : ∀ c : Nat, c ≠ 0 → c ≠ 4 → c < 5 → w' (90 + 5 * L + c) = w (90 + 5 * L + c) := fun c h0 h1 h2 => o _ (by omega) (by omega) (by omega) (by omega)
    by_cases c1 : L = K
    · subst c1
      rw [if_pos hk, if_pos hk] at hin
      have b0 : (0 : Int32) + I (inR w (I L) (nF w)) + I (heldC w (I L)) + w (90 + 5 * L + 1) + w (90 + 5 * L + 2) + w (90 + 5 * L + 3) + w (90 + 5 * L + 4) = w (90 + 5 * L) := b0
      show (0 : Int32) + I (inR w' (I L) (nF w')) + I (heldC w' (I L)) + w' (90 + 5 * L + 1) + w' (90 + 5 * L + 2) + w' (90 + 5 * L + 3) + w' (90 + 5 * L + 4) = w' (90 + 5 * L)
      rw [hh, ob 1 (by omega) (by omega) (by omega), ob 2 (by omega) (by omega) (by omega), ob 3 (by omega) (by omega) (by omega)]
      rcases hc with ⟨q1, q2, q3⟩ | ⟨q1, q2, q3⟩
      · have hin : inR w' (I L) (nF w') = inR w (I L) (nF w) + p := by rw [eF]; omega
        rw [q2, q3, hin, ← I_add, ← b0]
        ac_rfl
      · have hin : inR w (I L) (nF w) = inR w' (I L) (nF w') + p := by rw [eF]; omega
        rw [q2, q3, ← b0, hin, ← I_add]
        ac_rfl
    · have nk : ¬ w (130 + 11 * f) = I L := by rw [hk]; exact fun z => c1 ((I_inj (by omega) (by omega)).mp z).symm
      rw [if_neg nk, if_neg nk] at hin
      exact tol_cg (fun c hc => o _ (by omega) (by omega) (by omega) (by omega)) (by rw [eF]; omega) (hh L) b0
  · rw [eP] at hk
    rw [o' _ (by omega)] at hx
    rw [o' _ (by omega), o' _ (by omega)]
    exact i9 k hk hx
/-- spots that are no longer filled -/
theorem inv_board {N : Nat → Nat} {e : Int32} {w w' : Nat → Int32} (h : Inv N e w) (hb : Bd w) (o : ∀ i : Nat, i ≠ 24 → (i < 240 ∨ 480 ≤ i) → w' i = w i) (st : ∀ k : Nat, k < nP w → w' (240 + 6 * k + 3) = 1 → w (240 + 6 * k + 3) = 1 ∧ w' (240 + 6 * k + 4) = w (240 + 6 * k + 4) ∧ w' (240 + 6 * k + 5) = w (240 + 6 * k + 5)) : Inv N e w' := by
  obtain ⟨v1, v2, v3, v4, v5, v6, v7⟩ := hb
  obtain ⟨i1, ⟨D, i2, i3⟩, i4, i5, i6, i7, U, i8, i9⟩ := h
  have eS := nS_e (o 15 (by omega) (by omega))
  have eT := nT_e (o 16 (by omega) (by omega))
  have eK := nK_e (o 17 (by omega) (by omega))
  have eF := nF_e (o 18 (by omega) (by omega))
  have eP := nP_e (o 19 (by omega) (by omega))
  have eL := nL_e (o 28 (by omega) (by omega))
  refine ⟨?_, ⟨D, fun b h1 h2 => by rw [o _ (by omega) (by omega)]; exact i2 b h1 h2, by rw [eL]; exact i3⟩, fun t ht => ?_, ?_, fun i hi L hL hx => ?_, fun L hL => ?_, U, by rw [o 23 (by omega) (by omega)]; exact i8, fun k hk hx => ?_⟩
  · rw [o 38 (by omega) (by omega), o 39 (by omega) (by omega), o 40 (by omega) (by omega), o 41 (by omega) (by omega), o 42 (by omega) (by omega), o 43 (by omega) (by omega), o 23 (by omega) (by omega)]
    exact i1
  · rw [eT] at ht
    obtain ⟨g, f1, f2, f3⟩ := i4 t ht
    refine ⟨g, f1, by rw [o _ (by omega) (by omega)]; exact f2, ?_⟩
    rw [eS]
    have : nzC w' t (nS w) = nzC w t (nS w) := cntP_congr (fun i hi => by
      show decide (w' (58 + 8 * i) = I t) = decide (w (58 + 8 * i) = I t)
      rw [o _ (by omega) (by omega)])
    rw [this]
    exact f3
  · rw [eS, chS_cg (nS w) (fun i hi => o _ (by omega) (by omega)), o 31 (by omega) (by omega)]
    exact i5
  · rw [eS] at hi
    rw [eK] at hL
    rw [o _ (by omega) (by omega)] at hx
    rw [o (58 + 8 * i) (by omega) (by omega), o _ (by omega) (by omega)]
    exact i6 i hi L hL hx
  · rw [eK] at hL
    refine tol_cg (fun c hc => o _ (by omega) (by omega)) ?_ ?_ (i7 L hL)
    · rw [eF]
      exact inR_cg (nF w) (fun f j hf hj => o _ (by omega) (by omega)) v7
    · unfold heldC
      rw [eS]
      exact cntP_congr (fun i hi => by
        show decide (w' (58 + 8 * i + 1) = I L) = decide (w (58 + 8 * i + 1) = I L)
        rw [o _ (by omega) (by omega)])
  · rw [eP] at hk
    obtain ⟨s1, s2, s3⟩ := st k hk hx
    rw [s2, s3]
    exact i9 k hk s1
theorem p_resume {N : Nat → Nat} {m : MM} {w : Nat → Int32} (hR : R m w) (hI : Inv N 0 w) (x : MM) : ∃ (v : Int32) (y : MM), D_X10_resume (pw x w) = some (v, y) ∧ Inv N 0 (rw1 y) := by
  have hv := hR.v
  have hb := hR.r0.bd
  have lo : ∀ i : Nat, i ≠ 25 → i ≠ 29 → upd (upd w 25 0) 29 0 i = w i := fun i h1 h2 => wr_lo h2 (upd_ne h1)
  unfold D_X10_resume D_X10_halts
  rw [zeroP]
  simp only [bnd_s]
  rw [giP]
  refine ⟨w 29, pw (th x 0) (upd (upd w 25 0) 29 0), ?_, by rw [rw1_pw]; exact hI.fr' hb (fun i hi => lo i (by omega) (by omega)) (fun i j h1 h2 => lo _ (by omega) (by omega)) (fun i j h1 h2 => lo _ (by omega) (by omega)) (fun i j h1 h2 => lo _ (by omega) (by omega))⟩
  rcases hv.hlt with c | c
  · rw [c, if_neg (by decide), b1_s, siP, siP, if_pos (Or.inl rfl)]
  · rw [c, if_pos rfl, b1_s, siP, siP, if_pos (Or.inr rfl)]
theorem p_newBoard {N : Nat → Nat} {m : MM} {w : Nat → Int32} (hR : R m w) (hI : Inv N 0 w) (x : MM) : ∃ (v : Int32) (y : MM), D_X10_newBoard (pw x w) = some (v, y) ∧ Inv N 0 (rw1 y) := by
  obtain ⟨v1, v2, v3, v4, v5, v6, v7, v8⟩ := hR.r0.vc
  have hv := hR.v
  have hb := hR.r0.bd
  have o : ∀ i : Nat, (i < 243 ∨ 480 ≤ i ∨ (i - 240) % 6 < 3) → i ≠ 24 → upd (nbW w (nP w)) 24 (w 24 + 1) i = w i := fun i hi hn => (upd_ne hn).trans (nb_o w _ v5 i hi)
  have q := nb_xl (th x 0) hv v5 (nP w) 0 FU (by omega) (by show nP w < 5000; omega)
  have q : D_X10_newBoard_9 FU (0 : Int32) (0 : Int32) (pw (th x 0) w) = _ := q
  unfold D_X10_newBoard
  rw [bnd_s, zeroP, q]
  refine ⟨_, _, rfl, ?_⟩
  rw [rw1_pw]
  refine inv_board hI hb (fun i h1 h2 => o i (by omega) h1) (fun k hk hx => ?_)
  rw [upd_ne (by omega), (nb_k w (nP w) v5 k (by omega)).1] at hx
  by_cases c : w (240 + 6 * k + 3) = 1
  · rw [if_pos ⟨hk, c⟩] at hx
    exact absurd hx (by decide)
  · rw [if_neg (fun z => c z.2)] at hx
    exact absurd hx c
theorem p_leave {N : Nat → Nat} {m : MM} {w : Nat → Int32} (hR : R m w) (hI : Inv N 0 w) (x : MM) {k : Nat} (hk : k < nP w) {b : Int32} (hb : b = 0 ∨ b = 1) : ∃ (v : Int32) (y : MM), D_X10_leaveOut (I k) b (pw x w) = some (v, y) ∧ Inv N 0 (rw1 y) := by
  obtain ⟨v1, v2, v3, v4, v5, v6, v7, v8⟩ := hR.r0.vc
  have hv := hR.v
  have hbd := hR.r0.bd
  have mv : ∀ v : Int32, v ≠ 1 → Inv N 0 (upd w (240 + 6 * k + 3) v) := fun v nv => inv_board hI hbd (fun i h1 h2 => upd_ne (by omega)) (fun j hj hx => by
    by_cases c : j = k
    · subst c
      rw [upd_eq] at hx
      exact absurd hx nv
    · rw [upd_ne (by omega)] at hx
      exact ⟨hx, upd_ne (by omega), upd_ne (by omega)⟩)
  unfold D_X10_leaveOut D_X10_leaveOut_23
  rw [nstP_y hv v5 (ok_I (by omega) hk), b2_s, if00, oSt3P (by omega), b1_s]
  rcases hb with rfl | rfl
  · rw [if_pos rfl]
    by_cases c : w (240 + 6 * k + 3) = 2
    · rw [if_pos c, if_pos rfl, poSt3P (by omega), b1_s]
      exact ⟨_, _, rfl, by rw [rw1_pw]; exact mv 0 (by decide)⟩
    · rw [if_neg c]
      exact ⟨_, _, rfl, by rw [rw1_pw]; exact hI⟩
  · rw [if_neg (by decide)]
    by_cases c : w (240 + 6 * k + 3) = 0
    · rw [if_pos c, if_neg (by decide), poSt3P (by omega), b1_s]
      exact ⟨_, _, rfl, by rw [rw1_pw]; exact mv 2 (by decide)⟩
    · rw [if_neg c]
      exact ⟨_, _, rfl, by rw [rw1_pw]; exact hI⟩
theorem p_set7 {N : Nat → Nat} {m : MM} {w : Nat → Int32} (hR : R m w) (hI : Inv N 0 w) (x : MM) {n : Nat} (hn : n < 6) : ∃ (v : Int32) (y : MM), D_X10_set (I 7) (I n) (pw x w) = some (v, y) ∧ Inv N 0 (rw1 y) := by
  have hb := hR.r0.bd
  have in7 : D_X10_in (I 7).toInt64 (0 : Int64) (7 : Int64) = some (if ok (I 7) 8 then 1 else 0) := in_ok (by decide)
  unfold D_X10_set
  rw [bnd_s, zeroP, in7, b1_s, if_pos (ok_I (by omega) (by omega)), if10]
  unfold D_X10_set_37
  rw [tif0P, b2_s, if00, hi_x _ _ (k := 7) (by omega), b1_s, if_neg (show ¬ I 7 = (0 : Int32) by decide)]
  have e : D_X10_in (I n).toInt64 (0 : Int64) (mxS w 7).toInt64 = some 1 := by
    rw [in_eq, Int32.toInt_toInt64, I_toInt (by omega), show (mxS w 7).toInt64.toInt = 5 from rfl, show (0 : Int64).toInt = 0 by decide, if_pos (by omega)]
  rw [b1_s, e, b1_s, if10]
  unfold D_X10_set_73
  rw [tif0P, b2_s, if00, gdI (by omega) (by omega), bnd_s, gdI (by omega) (by omega), bnd_s, I_tnc (by omega), giP, siP]
  exact ⟨_, _, rfl, by rw [rw1_pw]; exact hI.fr' hb (fun i hi => upd_ne (by omega)) (fun i j h1 h2 => upd_ne (by omega)) (fun i j h1 h2 => upd_ne (by omega)) (fun i j h1 h2 => upd_ne (by omega))⟩
