/-! PROPERTY: a pick, and any action of the plan -/
theorem fsum_less {nk : Nat} {w w' : Nat → Int32} {f : Nat} (hd : FdOk nk (Fb w f)) (hp : Fb w f 2 ≠ 0) (e2 : Fb w' f 2 = Fb w f 2 - 1) (o : ∀ j : Nat, (j = 4 ∨ 8 ≤ j ∧ j < 11) → Fb w' f j = Fb w f j) : fsum w' f + 1 = fsum w f := by
  obtain ⟨-, ⟨p, hp1, hp2⟩, ⟨n, hn, h4, -⟩, -⟩ := hd
  have hp0 : p ≠ 0 := fun z => hp (by rw [hp2, z]; rfl)
  rw [fsum0 h4 hn, fsum0 ((o 4 (by omega)).trans h4) hn]
  have : ∀ k : Nat, k ≤ 3 → rS w' f k + 1 = rS w f k := by
    intro k
    induction k with
    | zero =>
      intro _
      show (Fb w' f 2).toNatClampNeg + 1 = (Fb w f 2).toNatClampNeg
      rw [e2, hp2, show (1 : Int32) = I 1 from rfl, I_sub (by omega), I_tnc (by omega), I_tnc (by omega)]
      omega
    | succ k ih =>
      intro hk
      show rS w' f k + (Fb w' f (8 + k)).toNatClampNeg + 1 = rS w f k + (Fb w f (8 + k)).toNatClampNeg
      rw [o (8 + k) (by omega), ← ih (by omega)]
      omega
  exact this n hn
theorem inv_59 {N : Nat → Nat} {w : Nat → Int32} (hI : Inv N 0 w) (hb : Bd w) (x : MM) {nk s f K : Nat} (hs : s < nS w) (hf : f < nF w) (hK : K < nK w) (hk : w (130 + 11 * f) = I K) (hd : FdOk nk (Fb w f)) (hp : w (130 + 11 * f + 2) ≠ 0) (h1 : w (58 + 8 * s + 1) = -1) (h2 : w (58 + 8 * s + 2) = 0) (h3 : w (58 + 8 * s + 3) = 0) (hfit : w (58 + 8 * s) = w (50 + K)) (xt : Int32) (hxt : xt = 0 ∨ xt = 1) : ∃ (r : Int32) (w' : Nat → Int32), (r = 0 ∨ r = 1) ∧ D_X10_takesPart_59 (I s) (I f) (I K) xt (pw x w) = some (r, pw x w') ∧ Inv N 0 w' ∧ Bd w' ∧ w' 28 = w 28 ∧ ∃ c : Nat, c ≤ 3 ∧ w' 27 = w 27 + I c := by
  have b4 := hb.1
  have b8 := hb.2.2.1
  have b10 := hb.2.2.2.1
  rcases hxt with rfl | rfl
  · have a2 : pk0W w s f K (130 + 11 * f + 2) = w (130 + 11 * f + 2) - 1 := by
      unfold pk0W pkW
      rw [upd_ne (by omega), upd_ne (by omega), upd_eq]
    have a1 : pk0W w s f K (58 + 8 * s + 1) = I K := upd_eq _ _ _
    have hd4 : FdOk nk (Fb (pk0W w s f K) f) := fdok_less hd hp a2 (fun j hj j2 j5 j6 => pk0W_lo (by omega))
    have hl := fsum_less (w' := pk0W w s f K) hd hp a2 (fun j hj => pk0W_lo (by omega))
    obtain ⟨w', g1, g2, g3, g4, g5, c7, gc1, gc2⟩ := spx_s x (by omega) hd4
    have lo : ∀ i : Nat, i ≠ 27 → i ≠ 58 + 8 * s + 7 → i ≠ 58 + 8 * s + 1 → (i < 130 + 11 * f ∨ 141 + 11 * f ≤ i) → w' i = w i := fun i z1 z2 z3 z4 => (g5 i z1 z4).trans (pk0W_lo (by omega))
    have k0 : w' (130 + 11 * f) = I K := by
      rw [show w' (130 + 11 * f) = pk0W w s f K (130 + 11 * f) from g4, pk0W_lo (by omega)]
      exact hk
    have iv : Inv N 0 w' := inv_take hI hb hs hf hK hk k0 h1 hfit (by rw [g3]; exact hl) (Or.inl ⟨rfl, (g5 _ (by omega) (by omega)).trans a1, lo _ (by omega) (by omega) (by omega) (by omega)⟩) (b := 0) (fun i y1 y2 y3 y4 y5 y6 y7 y8 => lo i y2 y7 y4 y8)
    have bd : Bd w' := by
      have eF := nF_e (lo 18 (by omega) (by omega) (by omega) (by omega))
      refine ⟨by rw [nS_e (lo 15 (by omega) (by omega) (by omega) (by omega))]; exact hb.1, by rw [nT_e (lo 16 (by omega) (by omega) (by omega) (by omega))]; exact hb.2.1, by rw [nK_e (lo 17 (by omega) (by omega) (by omega) (by omega))]; exact hb.2.2.1, by rw [eF]; exact hb.2.2.2.1, by rw [nP_e (lo 19 (by omega) (by omega) (by omega) (by omega))]; exact hb.2.2.2.2.1, by rw [nL_e (lo 28 (by omega) (by omega) (by omega) (by omega))]; exact hb.2.2.2.2.2.1, fun g hg => ?_⟩
      rw [eF] at hg
      by_cases c : g = f
      · subst c
        obtain ⟨n, hn, h4, -⟩ := g2.2.2.1
        rw [wtb, h4, I_tnc (by omega)]
        exact hn
      · unfold wt
        rw [lo _ (by omega) (by omega) (by omega) (by omega)]
        exact hb.2.2.2.2.2.2 g hg
    refine ⟨1, w', Or.inr rfl, ?_, iv, bd, lo 28 (by omega) (by omega) (by omega) (by omega), c7, gc1, by rw [gc2, pk0W_lo (by omega)]⟩
    unfold D_X10_takesPart_59
    rw [oSp7P (by omega), b1_s, poSp7P (by omega), b1_s, oFd2P (by omega), b1_s, upd_ne (show 130 + 11 * f + 2 ≠ 58 + 8 * s + 7 by omega), poFd2P (by omega), b1_s, if_pos rfl, oFd5P (by omega), b1_s, upd_ne (show 130 + 11 * f + 5 ≠ 130 + 11 * f + 2 by omega), upd_ne (show 130 + 11 * f + 5 ≠ 58 + 8 * s + 7 by omega), poFd5P (by omega), b1_s, poSp1P (by omega), b1_s, poSp2P (by omega), b1_s, poSp3P (by omega), b1_s]
    have z2 : pk0W w s f K (58 + 8 * s + 2) = 0 := (pk0W_lo (by omega)).trans h2
    have z3 : pk0W w s f K (58 + 8 * s + 3) = 0 := (pk0W_lo (by omega)).trans h3
    have ee : upd (upd (pk0W w s f K) (58 + 8 * s + 2) 0) (58 + 8 * s + 3) 0 = pk0W w s f K := by rw [upd_same z2, upd_same z3]
    have ee' : upd (upd (upd (upd (upd (upd w (58 + 8 * s + 7) (w (58 + 8 * s + 7) + 1)) (130 + 11 * f + 2) (w (130 + 11 * f + 2) - 1)) (130 + 11 * f + 5) (w (130 + 11 * f + 5) + 1)) (58 + 8 * s + 1) (I K)) (58 + 8 * s + 2) 0) (58 + 8 * s + 3) 0 = pk0W w s f K := ee
    rw [ee', g1, b1_s, if_pos rfl]
  · have a2 : pk1W w s f K (130 + 11 * f + 2) = w (130 + 11 * f + 2) - 1 := by
      unfold pk1W pkW
      rw [upd_ne (by omega), upd_ne (by omega), upd_eq]
    have a3 : pk1W w s f K (90 + 5 * K + 3) = w (90 + 5 * K + 3) + 1 := upd_eq _ _ _
    have hd4 : FdOk nk (Fb (pk1W w s f K) f) := fdok_less hd hp a2 (fun j hj j2 j5 j6 => pk1W_lo (by omega))
    have hl := fsum_less (w' := pk1W w s f K) hd hp a2 (fun j hj => pk1W_lo (by omega))
    obtain ⟨w', g1, g2, g3, g4, g5, c7, gc1, gc2⟩ := spx_s x (by omega) hd4
    have lo : ∀ i : Nat, i ≠ 27 → i ≠ 58 + 8 * s + 7 → i ≠ 90 + 5 * K + 3 → (i < 130 + 11 * f ∨ 141 + 11 * f ≤ i) → w' i = w i := fun i z1 z2 z3 z4 => (g5 i z1 z4).trans (pk1W_lo (by omega))
    have k0 : w' (130 + 11 * f) = I K := by
      rw [show w' (130 + 11 * f) = pk1W w s f K (130 + 11 * f) from g4, pk1W_lo (by omega)]
      exact hk
    have iv : Inv N 0 w' := inv_take hI hb hs hf hK hk k0 h1 hfit (by rw [g3]; exact hl) (Or.inr ⟨rfl, (lo _ (by omega) (by omega) (by omega) (by omega)).trans h1, (g5 _ (by omega) (by omega)).trans a3⟩) (b := 1) (fun i y1 y2 y3 y4 y5 y6 y7 y8 => lo i y2 y7 y3 y8)
    have bd : Bd w' := by
      have eF := nF_e (lo 18 (by omega) (by omega) (by omega) (by omega))
      refine ⟨by rw [nS_e (lo 15 (by omega) (by omega) (by omega) (by omega))]; exact hb.1, by rw [nT_e (lo 16 (by omega) (by omega) (by omega) (by omega))]; exact hb.2.1, by rw [nK_e (lo 17 (by omega) (by omega) (by omega) (by omega))]; exact hb.2.2.1, by rw [eF]; exact hb.2.2.2.1, by rw [nP_e (lo 19 (by omega) (by omega) (by omega) (by omega))]; exact hb.2.2.2.2.1, by rw [nL_e (lo 28 (by omega) (by omega) (by omega) (by omega))]; exact hb.2.2.2.2.2.1, fun g hg => ?_⟩
      rw [eF] at hg
      by_cases c : g = f
      · subst c
        obtain ⟨n, hn, h4, -⟩ := g2.2.2.1
        rw [wtb, h4, I_tnc (by omega)]
        exact hn
      · unfold wt
        rw [lo _ (by omega) (by omega) (by omega) (by omega)]
        exact hb.2.2.2.2.2.2 g hg
    refine ⟨0, w', Or.inl rfl, ?_, iv, bd, lo 28 (by omega) (by omega) (by omega) (by omega), c7, gc1, by rw [gc2, pk1W_lo (by omega)]⟩
    unfold D_X10_takesPart_59
    rw [oSp7P (by omega), b1_s, poSp7P (by omega), b1_s, oFd2P (by omega), b1_s, upd_ne (show 130 + 11 * f + 2 ≠ 58 + 8 * s + 7 by omega), poFd2P (by omega), b1_s, if_neg (by decide), oFd6P (by omega), b1_s, upd_ne (show 130 + 11 * f + 6 ≠ 130 + 11 * f + 2 by omega), upd_ne (show 130 + 11 * f + 6 ≠ 58 + 8 * s + 7 by omega), poFd6P (by omega), b1_s, bks3P (by omega), b1_s, upd_ne (show 90 + 5 * K + 3 ≠ 130 + 11 * f + 6 by omega), upd_ne (show 90 + 5 * K + 3 ≠ 130 + 11 * f + 2 by omega), upd_ne (show 90 + 5 * K + 3 ≠ 58 + 8 * s + 7 by omega)]
    have ee' : upd (upd (upd (upd w (58 + 8 * s + 7) (w (58 + 8 * s + 7) + 1)) (130 + 11 * f + 2) (w (130 + 11 * f + 2) - 1)) (130 + 11 * f + 6) (w (130 + 11 * f + 6) + 1)) (90 + 5 * K + 3) (w (90 + 5 * K + 3) + 1) = pk1W w s f K := rfl
    rw [ee', g1, b1_s, if_neg (by decide)]
theorem inv_pick {N : Nat → Nat} {m : MM} {w : Nat → Int32} (h : R m w) (hI : Inv N 0 w) (x : MM) {s f : Nat} (hs : s < nS w) (hf : f < nF w) (h1 : w (58 + 8 * s + 1) = -1) (h2 : ∀ K : Nat, K < nK w → w (130 + 11 * f) = I K → w (58 + 8 * s) = w (50 + K)) (h3 : w (130 + 11 * f + 2) ≠ 0) : ∃ (r : Int32) (w' : Nat → Int32), D_X10_picks (I s) (I f) (pw x w) = some (r, pw x w') ∧ Inv (upk 1 N) 0 w' ∧ ∃ c : Nat, c ≤ 3 ∧ w' 27 = w 27 + I c := by
  have hb := h.r0.bd
  have hv := h.v
  have b4 := hb.1
  have b8 := hb.2.2.1
  have b10 := hb.2.2.2.1
  have hd := hv.fd f hf
  obtain ⟨K, hK, hk⟩ := hd.1
  have hk : w (130 + 11 * f) = I K := hk
  obtain ⟨p1, p2, p3, p4⟩ := hv.sp s hs
  obtain ⟨q2, q3⟩ := p4 h1
  have q2 : w (58 + 8 * s + 2) = 0 := q2
  have q3 : w (58 + 8 * s + 3) = 0 := q3
  have rX : Rn 999 (w (130 + 11 * f + 1)) := hd.2.2.2.2
  have gx : D_X10_goes (2 : Int32) (w (130 + 11 * f + 1)) 0 (w 2) (pw x w) = some (pw x (goesW w 2 (w (130 + 11 * f + 1)) 0 (w 2))) := goes_x x hv.spd (a := 2) (by decide) _ _ _
  have g1 : Inv (up1 N) 0 (goesW w 2 (w (130 + 11 * f + 1)) 0 (w 2)) := inv_goes (by omega) hI hb (way_d hv.vg rX Rn.z (hv.vg.2.1 2 (by omega)))
  have g2 : Bd (goesW w 2 (w (130 + 11 * f + 1)) 0 (w 2)) := bd_goes (by omega) hb
  have lo1 : ∀ i : Nat, i ≠ 21 ∧ i ≠ 22 ∧ i ≠ 23 ∧ i ≠ 39 → goesW w 2 (w (130 + 11 * f + 1)) 0 (w 2) i = w i := fun i hi => goesW_lo (by omega)
  generalize goesW w 2 (w (130 + 11 * f + 1)) 0 (w 2) = wg at gx g1 g2 lo1
  have T : ∃ (r : Int32) (w' : Nat → Int32), (r = 0 ∨ r = 1) ∧ D_X10_takesPart (I s) (I f) (I K) (pw x wg) = some (r, pw x w') ∧ Inv (up1 N) 0 w' ∧ Bd w' ∧ w' 28 = wg 28 ∧ ∃ c : Nat, c ≤ 3 ∧ w' 27 = wg 27 + I c := by
    unfold D_X10_takesPart
    rw [oFd7P (by omega), b1_s, lo1 (130 + 11 * f + 7) (by omega)]
    rcases hd.2.2.2.1 with q | q
    · have q : w (130 + 11 * f + 7) = 0 := q
      rw [q, if_neg (by decide), draw_x, b2_s, oFd3P (by omega), b1_s, worn_x _ _ (by omega), b1_s, giP]
      have ed : ∀ i : Nat, i ≠ 10 → drawW wg i = wg i := fun i hi => drawW_lo hi
      have hz : ∀ i : Nat, i ≠ 10 ∧ i ≠ 21 ∧ i ≠ 22 ∧ i ≠ 23 ∧ i ≠ 39 → drawW wg i = w i := fun i hi => (ed i (by omega)).trans (lo1 i (by omega))
      have k1 : Inv (up1 N) 0 (drawW wg) := g1.fr' g2 (fun i hi => ed i (by omega)) (fun i j h1 h2 => ed _ (by omega)) (fun i j h1 h2 => ed _ (by omega)) (fun i j h1 h2 => ed _ (by omega))
      have k2 : Bd (drawW wg) := g2.fr (fun i hi => ed i (by omega)) (fun f hf => ed _ (by omega))
      have T := fun (xt : Int32) (hxt : xt = 0 ∨ xt = 1) => inv_59 k1 k2 x (nk := nK w) (s := s) (f := f) (K := K) (by rw [nS_e (hz 15 (by omega))]; exact hs) (by rw [nF_e (hz 18 (by omega))]; exact hf) (by rw [nK_e (hz 17 (by omega))]; exact hK) (by rw [hz _ (by omega)]; exact hk) (hd.cg (fun j hj => hz _ (by omega))) (by rw [hz _ (by omega)]; exact h3) (by rw [hz _ (by omega)]; exact h1) (by rw [hz _ (by omega)]; exact q2) (by rw [hz _ (by omega)]; exact q3) (by rw [hz _ (by omega), hz _ (by omega)]; exact h2 K hK hk) xt hxt
      have T' : ∀ xt : Int32, (xt = 0 ∨ xt = 1) → ∃ (r : Int32) (w' : Nat → Int32), (r = 0 ∨ r = 1) ∧ D_X10_takesPart_59 (I s) (I f) (I K) xt (pw x (drawW wg)) = some (r, pw x w') ∧ Inv (up1 N) 0 w' ∧ Bd w' ∧ w' 28 = wg 28 ∧ ∃ c : Nat, c ≤ 3 ∧ w' 27 = wg 27 + I c := fun xt hxt => by
        obtain ⟨r, w', t1, t2, t3, t4, t5, c, t6, t7⟩ := T xt hxt
        exact ⟨r, w', t1, t2, t3, t4, t5.trans (ed 28 (by omega)), c, t6, by rw [t7, ed 27 (by omega)]⟩
      by_cases c1 : worn (drawW wg) s = 0
      · rw [if_pos c1]
        by_cases c2 : (drawW wg (130 + 11 * f + 3) + (0 : Int32)) ≤ drv (drawW wg)
        · rw [if_pos c2]
          exact T' 0 (Or.inl rfl)
        · rw [if_neg c2]
          exact T' 1 (Or.inr rfl)
      · rw [if_neg c1]
        by_cases c2 : (drawW wg (130 + 11 * f + 3) + drawW wg 13) ≤ drv (drawW wg)
        · rw [if_pos c2]
          exact T' 0 (Or.inl rfl)
        · rw [if_neg c2]
          exact T' 1 (Or.inr rfl)
    · have q : w (130 + 11 * f + 7) = 1 := q
      rw [q, if_pos rfl, poFd7P (by omega), b1_s]
      exact ⟨0, _, Or.inl rfl, rfl, g1.fr' g2 (fun i hi => upd_ne (by omega)) (fun i j h1 h2 => upd_ne (by omega)) (fun i j h1 h2 => upd_ne (by omega)) (fun i j h1 h2 => upd_ne (by omega)), g2.fr (fun i hi => upd_ne (by omega)) (fun g hg => upd_ne (by omega)), upd_ne (by omega), 0, by omega, by rw [upd_ne (by omega), show I 0 = (0 : Int32) from rfl, Int32.add_zero]⟩
  obtain ⟨r, w', hr, t1, t2, t3, t4, c, t5, t6⟩ := T
  obtain ⟨w2, e1, e2, e3⟩ := inv_fin (a := 2) (by omega) t2 t3 (nL28 hv.cnt.2.2.2.2.2.2 (t4.trans (lo1 28 (by omega)))) x (I s) (I f) r
  refine ⟨r, w2, ?_, e2, c, t5, by rw [e3, t6, lo1 27 (by omega)]⟩
  unfold D_X10_picks
  rw [oFd0P (by omega), b1_s, oSp1P (by omega), b1_s, if_pos h1, oSp0P (by omega), b1_s, hk, ix50, gdI (by omega) (by omega), I_tnc (by omega), giP, if_pos (h2 K hK hk), oFd2P (by omega), b1_s, if_neg h3, oFd1P (by omega), b1_s, giP, gx, b1_s, t1, b2_s]
  rcases hr with rfl | rfl
  · rw [if_pos rfl, b2_id]
    exact e1
  · rw [if_neg (by decide), b2_id]
    exact e1
