/-! PURE: a pick -/
def worn (w : Nat → Int32) (s : Nat) : Int32 := if w 12 ≤ 0 then 0 else if w (58 + 8 * s + 7) < w 12 then 0 else 1
theorem worn_m {m : MM} {w : Nat → Int32} (h : R0 m w) {s : Nat} (hs : s < nS w) : D_X6_isWorn s m = some (worn w s) := by
  have e1 : gi m 25 12 = w 12 := h.set 12 (by decide)
  have e2 : gi m s 7 = w (58 + 8 * s + 7) := h.sp s 7 hs (by decide)
  unfold D_X6_isWorn worn
  rw [e1, e2]
  split
  · rfl
  · split <;> rfl
theorem worn_x (x : MM) (w : Nat → Int32) {s : Nat} (hs : s < 4) : D_X10_isWorn (I s) (pw x w) = some (worn w s) := by
  unfold D_X10_isWorn worn
  rw [giP, oSp7P hs, b1_s]
  split
  · rfl
  · split <;> rfl
theorem upd_same {f : Nat → Int32} {k : Nat} {v : Int32} (h : f k = v) : upd f k v = f := funext fun i => by
  by_cases hi : i = k
  · subst hi; rw [upd_eq, h]
  · rw [upd_ne hi]
def pkW (w : Nat → Int32) (s f : Nat) : Nat → Int32 := upd (upd w (58 + 8 * s + 7) (w (58 + 8 * s + 7) + 1)) (130 + 11 * f + 2) (w (130 + 11 * f + 2) - 1)
def pk0W (w : Nat → Int32) (s f K : Nat) : Nat → Int32 := upd (upd (pkW w s f) (130 + 11 * f + 5) (w (130 + 11 * f + 5) + 1)) (58 + 8 * s + 1) (I K)
def pk1W (w : Nat → Int32) (s f K : Nat) : Nat → Int32 := upd (upd (pkW w s f) (130 + 11 * f + 6) (w (130 + 11 * f + 6) + 1)) (90 + 5 * K + 3) (w (90 + 5 * K + 3) + 1)
theorem pk0W_lo {w : Nat → Int32} {s f K i : Nat} (h : i ≠ 58 + 8 * s + 7 ∧ i ≠ 58 + 8 * s + 1 ∧ i ≠ 130 + 11 * f + 2 ∧ i ≠ 130 + 11 * f + 5) : pk0W w s f K i = w i := wr_lo (by omega) (wr_lo (by omega) (wr_lo (by omega) (upd_ne (by omega))))
theorem pk1W_lo {w : Nat → Int32} {s f K i : Nat} (h : i ≠ 58 + 8 * s + 7 ∧ i ≠ 90 + 5 * K + 3 ∧ i ≠ 130 + 11 * f + 2 ∧ i ≠ 130 + 11 * f + 6) : pk1W w s f K i = w i := wr_lo (by omega) (wr_lo (by omega) (wr_lo (by omega) (upd_ne (by omega))))
theorem fdok_less {nk : Nat} {r r' : Nat → Int32} (h : FdOk nk r) (hp : r 2 ≠ 0) (e2 : r' 2 = r 2 - 1) (e : ∀ j : Nat, j < 11 → j ≠ 2 → j ≠ 5 → j ≠ 6 → r' j = r j) : FdOk nk r' := by
  obtain ⟨h1, ⟨p, hp1, hp2⟩, ⟨n, hn, h3, h4⟩, h5⟩ := h
  have hp0 : p ≠ 0 := fun z => hp (by rw [hp2, z]; rfl)
  refine ⟨by rw [e 0 (by omega) (by omega) (by omega) (by omega)]; exact h1, ⟨p - 1, by omega, ?_⟩, ⟨n, hn, by rw [e 4 (by omega) (by omega) (by omega) (by omega)]; exact h3, fun j hj => by rw [e (8 + j) (by omega) (by omega) (by omega) (by omega)]; exact h4 j hj⟩, by rw [e 7 (by omega) (by omega) (by omega) (by omega), e 1 (by omega) (by omega) (by omega) (by omega)]; exact h5⟩
  rw [e2, hp2, show (1 : Int32) = I 1 from rfl, I_sub (by omega)]
/-- both sides of a part that is taken, or lost -/
def Take (τ : Nat → Int32) (nt nk s f K : Nat) (w : Nat → Int32) (x : MM) (c d : Option (Int32 × MM)) : Prop := ∃ (r : Int32) (m' : MM) (w' : Nat → Int32), c = some (r, m') ∧ d = some (r, pw x w') ∧ (r = 0 ∨ r = 1) ∧ R1 τ m' w' ∧ FdOk nk (Fb w' f) ∧ SpOk nt nk (Sb w' s) ∧ ∀ i : Nat, i ≠ 27 ∧ i ≠ 90 + 5 * K + 3 ∧ (i < 58 + 8 * s ∨ 66 + 8 * s ≤ i) ∧ (i < 130 + 11 * f ∨ 141 + 11 * f ≤ i) → w' i = w i
theorem take_s {τ : Nat → Int32} {m : MM} {w : Nat → Int32} (h : R1 τ m w) (x : MM) {nt nk s f K : Nat} (hs : s < nS w) (hf : f < nF w) (hK : K < 8) (hKn : K < nk) (hk : w (130 + 11 * f) = I K) (hd : FdOk nk (Fb w f)) (hp : w (130 + 11 * f + 2) ≠ 0) (hsp : SpOk nt nk (Sb w s)) (h1 : w (58 + 8 * s + 1) = -1) (xt : Int32) (hxt : xt = 0 ∨ xt = 1) : Take τ nt nk s f K w x (D_X6_pickFrom_70 s (4 + f) xt m) (D_X10_takesPart_59 (I s) (I f) (I K) xt (pw x w)) := by
  obtain ⟨v1, v2, v3, v4, v5, v6, v7, v8⟩ := h.1.vc
  obtain ⟨p1, p2, p3, p4⟩ := hsp
  obtain ⟨q2, q3⟩ := p4 h1
  have q2 : w (58 + 8 * s + 2) = 0 := q2
  have q3 : w (58 + 8 * s + 3) = 0 := q3
  have e7 : gi m s 7 = w (58 + 8 * s + 7) := h.1.sp s 7 hs (by decide)
  have e2 : gi m (4 + f) 2 = w (130 + 11 * f + 2) := h.1.fd2 hf
  have e0 : gi m (4 + f) 0 = I K := (h.1.fd0 hf).trans hk
  have e6 : gi m (4 + f) 6 = w (130 + 11 * f + 5) := h.1.fd6 hf
  have e7f : gi m (4 + f) 7 = w (130 + 11 * f + 6) := h.1.fd7 hf
  have eb : gi m 33 K = w (90 + 5 * K + 3) := h.1.bk K 3 hK (by decide)
  have k2 : R1 τ (si (si m s 7 (w (58 + 8 * s + 7) + 1)) (4 + f) 2 (w (130 + 11 * f + 2) - 1)) (pkW w s f) := (h.wSp (s := s) (j := 7) (by omega) (by decide) _).wFd (f := f) (j := 2) (by omega) (by decide) (by decide) _
  rcases hxt with rfl | rfl
  · have k4 : R1 τ (si (si (si (si m s 7 (w (58 + 8 * s + 7) + 1)) (4 + f) 2 (w (130 + 11 * f + 2) - 1)) (4 + f) 6 (w (130 + 11 * f + 5) + 1)) s 1 (I K)) (pk0W w s f K) := (k2.wFd (f := f) (j := 5) (by omega) (by decide) (by decide) _).wSp (s := s) (j := 1) (by omega) (by decide) _
    have hd4 : FdOk nk (Fb (pk0W w s f K) f) := fdok_less hd hp (by
      show pk0W w s f K (130 + 11 * f + 2) = w (130 + 11 * f + 2) - 1
      unfold pk0W pkW
      rw [upd_ne (by omega), upd_ne (by omega), upd_eq]) (fun j hj j2 j5 j6 => pk0W_lo (by omega))
    obtain ⟨c, m', w', g1, g2, g3, g4, g5, g6⟩ := splice_s k4 x (f := f) (nk := nk) (by rw [nF_e (pk0W_lo (by omega))]; exact hf) hd4
    refine ⟨1, _, w', ?_, ?_, Or.inr rfl, g3, g5, ?_, fun i hi => (g6 i (by omega)).trans (pk0W_lo (by omega))⟩
    · unfold D_X6_pickFrom_70 D_X6_pickFrom_144
      rw [bnd_s, e7, gi_si_ne (by omega), e2, bnd_s, if_pos rfl, gi_si_ne (by omega), gi_si_ne (by omega), e6, bnd_s, gi_si_ne (by omega), gi_si_ne (by omega), gi_si_ne (by omega), e0, bnd_s, g1, b2_s, bnd_s, if_pos rfl]
    · unfold D_X10_takesPart_59
      rw [oSp7P (by omega), b1_s, poSp7P (by omega), b1_s, oFd2P (by omega), b1_s, upd_ne (show 130 + 11 * f + 2 ≠ 58 + 8 * s + 7 by omega), poFd2P (by omega), b1_s, if_pos rfl, oFd5P (by omega), b1_s, upd_ne (show 130 + 11 * f + 5 ≠ 130 + 11 * f + 2 by omega), upd_ne (show 130 + 11 * f + 5 ≠ 58 + 8 * s + 7 by omega), poFd5P (by omega), b1_s, poSp1P (by omega), b1_s, poSp2P (by omega), b1_s, poSp3P (by omega), b1_s]
      have z2 : pk0W w s f K (58 + 8 * s + 2) = 0 := (pk0W_lo (by omega)).trans q2
      have z3 : pk0W w s f K (58 + 8 * s + 3) = 0 := (pk0W_lo (by omega)).trans q3
      have ee : upd (upd (pk0W w s f K) (58 + 8 * s + 2) 0) (58 + 8 * s + 3) 0 = pk0W w s f K := by rw [upd_same z2, upd_same z3]
      have ee' : upd (upd (upd (upd (upd (upd w (58 + 8 * s + 7) (w (58 + 8 * s + 7) + 1)) (130 + 11 * f + 2) (w (130 + 11 * f + 2) - 1)) (130 + 11 * f + 5) (w (130 + 11 * f + 5) + 1)) (58 + 8 * s + 1) (I K)) (58 + 8 * s + 2) 0) (58 + 8 * s + 3) 0 = pk0W w s f K := ee
      rw [ee', g2, b1_s, if_pos rfl]
    · have y : ∀ j : Nat, j < 4 → Sb w' s j = Sb (pk0W w s f K) s j := fun j hj => g6 _ (by omega)
      have y1 : Sb (pk0W w s f K) s 1 = I K := upd_eq _ _ _
      refine ⟨by rw [y 0 (by omega), show Sb (pk0W w s f K) s 0 = Sb w s 0 from pk0W_lo (by omega)]; exact p1, Or.inr ⟨K, hKn, by rw [y 1 (by omega), y1]⟩, by rw [y 2 (by omega), show Sb (pk0W w s f K) s 2 = Sb w s 2 from pk0W_lo (by omega)]; exact p3, fun z => ?_⟩
      rw [y 1 (by omega), y1] at z
      exact absurd z (I_ne_neg (by omega))
  · have k4 : R1 τ (si (si (si (si m s 7 (w (58 + 8 * s + 7) + 1)) (4 + f) 2 (w (130 + 11 * f + 2) - 1)) (4 + f) 7 (w (130 + 11 * f + 6) + 1)) 33 K (w (90 + 5 * K + 3) + 1)) (pk1W w s f K) := (k2.wFd (f := f) (j := 6) (by omega) (by decide) (by decide) _).wBk (k := K) (c := 3) (by omega) (by decide) _
    have hd4 : FdOk nk (Fb (pk1W w s f K) f) := fdok_less hd hp (by
      show pk1W w s f K (130 + 11 * f + 2) = w (130 + 11 * f + 2) - 1
      unfold pk1W pkW
      rw [upd_ne (by omega), upd_ne (by omega), upd_eq]) (fun j hj j2 j5 j6 => pk1W_lo (by omega))
    obtain ⟨c, m', w', g1, g2, g3, g4, g5, g6⟩ := splice_s k4 x (f := f) (nk := nk) (by rw [nF_e (pk1W_lo (by omega))]; exact hf) hd4
    refine ⟨0, _, w', ?_, ?_, Or.inl rfl, g3, g5, ?_, fun i hi => (g6 i (by omega)).trans (pk1W_lo (by omega))⟩
    · unfold D_X6_pickFrom_70 D_X6_pickFrom_144
      rw [bnd_s, e7, gi_si_ne (by omega), e2, bnd_s, if_neg (by decide), gi_si_ne (by omega), gi_si_ne (by omega), e7f, bnd_s, gi_si_ne (by omega), gi_si_ne (by omega), gi_si_ne (by omega), e0, bnd_s, gdI (by omega) (by omega), gdI (by omega) (by omega), I_tnc (by omega), gi_si_ne (by omega), gi_si_ne (by omega), gi_si_ne (by omega), eb, bnd_s, g1, b2_s, bnd_s, if_neg (by decide)]
    · unfold D_X10_takesPart_59
      rw [oSp7P (by omega), b1_s, poSp7P (by omega), b1_s, oFd2P (by omega), b1_s, upd_ne (show 130 + 11 * f + 2 ≠ 58 + 8 * s + 7 by omega), poFd2P (by omega), b1_s, if_neg (by decide), oFd6P (by omega), b1_s, upd_ne (show 130 + 11 * f + 6 ≠ 130 + 11 * f + 2 by omega), upd_ne (show 130 + 11 * f + 6 ≠ 58 + 8 * s + 7 by omega), poFd6P (by omega), b1_s, bks3P hK, b1_s, upd_ne (show 90 + 5 * K + 3 ≠ 130 + 11 * f + 6 by omega), upd_ne (show 90 + 5 * K + 3 ≠ 130 + 11 * f + 2 by omega), upd_ne (show 90 + 5 * K + 3 ≠ 58 + 8 * s + 7 by omega)]
      have ee' : upd (upd (upd (upd w (58 + 8 * s + 7) (w (58 + 8 * s + 7) + 1)) (130 + 11 * f + 2) (w (130 + 11 * f + 2) - 1)) (130 + 11 * f + 6) (w (130 + 11 * f + 6) + 1)) (90 + 5 * K + 3) (w (90 + 5 * K + 3) + 1) = pk1W w s f K := rfl
      rw [ee', g2, b1_s, if_neg (by decide)]
    · refine SpOk.cg ⟨p1, p2, p3, p4⟩ (fun j hj => (g6 _ (by omega)).trans (pk1W_lo (by omega)))
theorem pick_s {m : MM} {w : Nat → Int32} (h : R m w) (x : MM) {s f : Nat} (hs : s < nS w) (hf : f < nF w) (h1 : w (58 + 8 * s + 1) = -1) (h2 : ∀ K : Nat, K < nK w → w (130 + 11 * f) = I K → w (58 + 8 * s) = w (50 + K)) (h3 : w (130 + 11 * f + 2) ≠ 0) : Act 2 (I s) (I f) m x w (D_X10_picks (I s) (I f) (pw x w)) := by
  obtain ⟨v1, v2, v3, v4, v5, v6, v7, v8⟩ := h.r0.vc
  have hv := h.v
  have hd := hv.fd f hf
  obtain ⟨K, hK, hk⟩ := hd.1
  have hk : w (130 + 11 * f) = I K := hk
  have hX : gi m (4 + f) 1 = w (130 + 11 * f + 1) := h.r0.fd1 hf
  obtain ⟨m1, g1, k1⟩ := goTo_s h.1 hv.spd (a := 2) (by decide) (w (130 + 11 * f + 1)) 0 (w 2)
  have gx : D_X10_goes (2 : Int32) (w (130 + 11 * f + 1)) 0 (w 2) (pw x w) = some (pw x (goesW w 2 (w (130 + 11 * f + 1)) 0 (w 2))) := goes_x x hv.spd (a := 2) (by decide) _ _ _
  have lo1 : ∀ i : Nat, i ≠ 21 ∧ i ≠ 22 ∧ i ≠ 23 ∧ i ≠ 39 → goesW w 2 (w (130 + 11 * f + 1)) 0 (w 2) i = w i := fun i hi => goesW_lo (by omega)
  have l23 : goesW w 2 (w (130 + 11 * f + 1)) 0 (w 2) 23 = w 23 + (way w (w (130 + 11 * f + 1)) 0 + w 2) := goesW_23
  have l39 : goesW w 2 (w (130 + 11 * f + 1)) 0 (w 2) 39 = w 39 + (way w (w (130 + 11 * f + 1)) 0 + w 2) := goesW_37
  have m21 : goesW w 2 (w (130 + 11 * f + 1)) 0 (w 2) 21 = w (130 + 11 * f + 1) := goesW_21
  have m22 : goesW w 2 (w (130 + 11 * f + 1)) 0 (w 2) 22 = 0 := goesW_22
  have rX : Rn 999 (w (130 + 11 * f + 1)) := hd.2.2.2.2
  generalize goesW w 2 (w (130 + 11 * f + 1)) 0 (w 2) = wg at g1 k1 gx lo1 l23 l39 m21 m22
  have hsg : s < nS wg := by rw [nS_e (lo1 15 (by omega))]; exact hs
  have hfg : f < nF wg := by rw [nF_e (lo1 18 (by omega))]; exact hf
  have c8 : gi m1 (4 + f) 8 = w (130 + 11 * f + 7) := (k1.1.fd8 hfg).trans (lo1 _ (by omega))
  -- both sides, from behind the way on
  have hT : (∃ (m' : MM) (w' : Nat → Int32), D_X6_pickFrom s (4 + f) m = some (0, m') ∧ D_X10_takesPart (I s) (I f) (I K) (pw x wg) = some (0, pw x w') ∧ R1 (fun a => w (37 + a)) m' w' ∧ FdOk (nK w) (Fb w' f) ∧ SpOk (nT w) (nK w) (Sb w' s) ∧ (∀ i : Nat, i ≠ 10 ∧ i ≠ 27 ∧ i ≠ 90 + 5 * K + 3 ∧ (i < 58 + 8 * s ∨ 66 + 8 * s ≤ i) ∧ (i < 130 + 11 * f ∨ 141 + 11 * f ≤ i) → w' i = wg i)) ∨ (∃ wd : Nat → Int32, (∀ i : Nat, i ≠ 10 → wd i = wg i) ∧ Take (fun a => w (37 + a)) (nT w) (nK w) s f K wd x (D_X6_pickFrom s (4 + f) m) (D_X10_takesPart (I s) (I f) (I K) (pw x wg))) := by
    have e2 : gi m 25 2 = w 2 := h.r0.set 2 (by decide)
    unfold D_X6_pickFrom D_X10_takesPart
    rw [hX, e2, g1, b1_s, c8, oFd7P (by omega), b1_s, lo1 (130 + 11 * f + 7) (by omega)]
    rcases hd.2.2.2.1 with q | q
    · have q : w (130 + 11 * f + 7) = 0 := q
      right
      rw [q, if_pos rfl, if_neg (by decide), worn_m k1.1 hsg, b1_s, draw_x, b2_s, oFd3P (by omega), b1_s, worn_x _ _ (by omega), b1_s, giP]
      obtain ⟨m7, g7, k7⟩ := draw_s k1
      have ed : ∀ i : Nat, i ≠ 10 → drawW wg i = wg i := fun i hi => drawW_lo hi
      have ew : worn (drawW wg) s = worn wg s := by
        unfold worn
        rw [ed 12 (by omega), ed (58 + 8 * s + 7) (by omega)]
      have e3 : gi m1 (4 + f) 3 = wg (130 + 11 * f + 3) := k1.1.fd3 hfg
      have e13 : gi m1 25 13 = wg 13 := k1.1.set 13 (by decide)
      rw [ew, ed (130 + 11 * f + 3) (by omega), ed 13 (by omega), e3, e13, g7]
      have hz : ∀ i : Nat, i ≠ 10 ∧ i ≠ 21 ∧ i ≠ 22 ∧ i ≠ 23 ∧ i ≠ 39 → drawW wg i = w i := fun i hi => (ed i (by omega)).trans (lo1 i (by omega))
      have T := fun (xt : Int32) (hxt : xt = 0 ∨ xt = 1) => take_s k7 x (nt := nT w) (nk := nK w) (s := s) (f := f) (K := K) (by rw [nS_e (hz 15 (by omega))]; exact hs) (by rw [nF_e (hz 18 (by omega))]; exact hf) (by omega) hK (by rw [hz _ (by omega)]; exact hk) (hd.cg (fun j hj => hz _ (by omega))) (by rw [hz _ (by omega)]; exact h3) ((hv.sp s hs).cg (fun j hj => hz _ (by omega))) (by rw [hz _ (by omega)]; exact h1) xt hxt
      refine ⟨drawW wg, fun i hi => ed i hi, ?_⟩
      by_cases c1 : worn wg s = 0
      · rw [if_pos c1, if_pos c1, bnd_s, b2_s, Int32.add_zero]
        by_cases c2 : wg (130 + 11 * f + 3) ≤ drv (drawW wg)
        · rw [if_pos c2, if_pos c2]
          exact T 0 (Or.inl rfl)
        · rw [if_neg c2, if_neg c2]
          exact T 1 (Or.inr rfl)
      · rw [if_neg c1, if_neg c1, bnd_s, b2_s]
        by_cases c2 : wg (130 + 11 * f + 3) + wg 13 ≤ drv (drawW wg)
        · rw [if_pos c2, if_pos c2]
          exact T 0 (Or.inl rfl)
        · rw [if_neg c2, if_neg c2]
          exact T 1 (Or.inr rfl)
    · have q : w (130 + 11 * f + 7) = 1 := q
      left
      rw [q, if_neg (by decide), if_pos rfl, poFd7P (by omega), b1_s, bnd_s]
      have lo2 : ∀ i : Nat, i ≠ 21 ∧ i ≠ 22 ∧ i ≠ 23 ∧ i ≠ 39 ∧ i ≠ 130 + 11 * f + 7 → upd wg (130 + 11 * f + 7) 0 i = w i := fun i hi => wr_lo (by omega) (lo1 i (by omega))
      refine ⟨_, _, rfl, rfl, k1.wFd (f := f) (j := 7) (by omega) (by decide) (by decide) 0, ?_, (hv.sp s hs).cg (fun j hj => lo2 _ (by omega)), fun i hi => upd_ne (by omega)⟩
      obtain ⟨d1, d2, ⟨n, hn, d3, d4⟩, d5, d6⟩ := hd
      exact ⟨by rw [show Fb (upd wg (130 + 11 * f + 7) 0) f 0 = Fb w f 0 from lo2 _ (by omega)]; exact d1, by rw [show Fb (upd wg (130 + 11 * f + 7) 0) f 2 = Fb w f 2 from lo2 _ (by omega)]; exact d2, ⟨n, hn, by rw [show Fb (upd wg (130 + 11 * f + 7) 0) f 4 = Fb w f 4 from lo2 _ (by omega)]; exact d3, fun j hj => by rw [show Fb (upd wg (130 + 11 * f + 7) 0) f (8 + j) = Fb w f (8 + j) from lo2 _ (by omega)]; exact d4 j hj⟩, Or.inl (upd_eq _ _ _), by rw [show Fb (upd wg (130 + 11 * f + 7) 0) f 1 = Fb w f 1 from lo2 _ (by omega)]; exact d6⟩
  obtain ⟨r, m', w', c1, c2, hr, k3, hd3, hs3, lo3⟩ : ∃ (r : Int32) (m' : MM) (w' : Nat → Int32), D_X6_pickFrom s (4 + f) m = some (r, m') ∧ D_X10_takesPart (I s) (I f) (I K) (pw x wg) = some (r, pw x w') ∧ (r = 0 ∨ r = 1) ∧ R1 (fun a => w (37 + a)) m' w' ∧ FdOk (nK w) (Fb w' f) ∧ SpOk (nT w) (nK w) (Sb w' s) ∧ (∀ i : Nat, i ≠ 10 ∧ i ≠ 27 ∧ i ≠ 90 + 5 * K + 3 ∧ (i < 58 + 8 * s ∨ 66 + 8 * s ≤ i) ∧ (i < 130 + 11 * f ∨ 141 + 11 * f ≤ i) → w' i = wg i) := by
    rcases hT with ⟨m', w', c1, c2, k3, hd3, hs3, lo3⟩ | ⟨wd, hwd, r, m', w', c1, c2, hr, k3, hd3, hs3, lo3⟩
    · exact ⟨0, m', w', c1, c2, Or.inl rfl, k3, hd3, hs3, lo3⟩
    · exact ⟨r, m', w', c1, c2, hr, k3, hd3, hs3, fun i hi => (lo3 i (by omega)).trans (hwd i (by omega))⟩
  have lo4 : ∀ i : Nat, i ≠ 21 ∧ i ≠ 22 ∧ i ≠ 23 ∧ i ≠ 39 ∧ i ≠ 10 ∧ i ≠ 27 ∧ i ≠ 90 + 5 * K + 3 ∧ (i < 58 + 8 * s ∨ 66 + 8 * s ≤ i) ∧ (i < 130 + 11 * f ∨ 141 + 11 * f ≤ i) → w' i = w i := fun i hi => (lo3 i (by omega)).trans (lo1 i (by omega))
  have hv3 : V w' := by
    refine hv.ac h.r0 s f 100 (fun i hi => lo4 i (by omega)) (by rw [lo3 21 (by omega), m21]; exact rX) (by rw [lo3 22 (by omega), m22]; exact Rn.z) ?_ (fun _ => hs3) (fun _ => hd3) (fun z => by omega)
    rw [lo4 29 (by omega)]
    exact hv.hlt
  have hp : D_X6_perform (I 2) (I s) (I f) m = D_X6_perform_116 (I 2) (I s) (I f) (w 23) r m' := by
    unfold D_X6_perform
    rw [gdI (by omega) (by omega), bnd_s, if_neg (by decide), if_pos (by decide), gdI (by omega) (by omega), I_tnc (by omega), I_tnc (by omega), c1, b2_s, h.r0.s23]
  have hx : D_X10_picks (I s) (I f) (pw x w) = D_X10_notes (2 : Int32) (I s) (I f) r (pw x w') := by
    unfold D_X10_picks
    rw [oFd0P (by omega), b1_s, oSp1P (by omega), b1_s, if_pos h1, oSp0P (by omega), b1_s, hk, ix50, gdI (by omega) (by omega), I_tnc (by omega), giP, if_pos (h2 K hK hk), oFd2P (by omega), b1_s, if_neg h3, oFd1P (by omega), b1_s, giP, gx, b1_s, c2, b2_s]
    rcases hr with rfl | rfl
    · rw [if_pos rfl, b2_id]
    · rw [if_neg (by decide), b2_id]
  exact act_fin (a := 2) (by decide) (I s) (I f) r _ (way_d hv.vg rX Rn.z (hv.vg.2.1 2 (by omega))) (hr.elim (fun z => ⟨0, by decide, z⟩) (fun z => ⟨1, by decide, z⟩)) k3 hv3 ((lo3 23 (by omega)).trans l23) ((lo3 39 (by omega)).trans l39) (fun a' h7 => lo4 _ (by omega)) hp hx
