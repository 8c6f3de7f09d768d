/-! PURE: place, pick -/
theorem gl_sl_is {m : MM} {q k : Nat} {v : Int64} {q' k' : Nat} (h : q' = q ∧ k' = k) : gl (sl m q k v) q' k' = v := by
  obtain ⟨rfl, rfl⟩ := h
  exact gl_sl_eq _ _ _ _
def fillW (w : Nat → Int32) (s k : Nat) : Nat → Int32 := upd (upd (upd w (240 + 6 * k + 3) 1) (240 + 6 * k + 4) (w 23)) (240 + 6 * k + 5) (I s)
theorem fillW_lo {w : Nat → Int32} {s k i : Nat} (h : i < 240 + 6 * k + 3 ∨ 240 + 6 * k + 5 < i) : fillW w s k i = w i := wr_lo (by omega) (wr_lo (by omega) (upd_ne (by omega)))
theorem fill_s {τ : Nat → Int32} {m : MM} {w : Nat → Int32} (h : R1 τ m w) {s k : Nat} (hk : k < nP w) : ∃ m' : MM, D_X0_fill (I k) (I s) (w 23) m = some m' ∧ R1 τ m' (fillW w s k) := by
  obtain ⟨v1, v2, v3, v4, v5, v6, v7, v8⟩ := h.1.vc
  unfold D_X0_fill
  rw [bnd_s, bnd_s, gdI (by omega) (by omega), bnd_s, gdI (by omega) (by omega), bnd_s, I_tnc (by omega)]
  refine ⟨_, rfl, ?_, fun a ha => by rw [gi_si_ne (by omega), gi_si_ne (by omega)]; exact h.2 a ha⟩
  have enP : nP (fillW w s k) = nP w := nP_e (fillW_lo (by omega))
  have w3 : fillW w s k (243 + 6 * k) = 1 := by
    unfold fillW
    rw [upd_ne (by omega), upd_ne (by omega), upd_is (by omega)]
  have w4 : fillW w s k (244 + 6 * k) = w 23 := by
    unfold fillW
    rw [upd_ne (by omega), upd_is (by omega)]
  have w5 : fillW w s k (245 + 6 * k) = I s := by
    unfold fillW
    rw [upd_is (by omega)]
  refine h.1.fBoard (fun q j hq => ?_) (fun q j hq => ?_) (fun i hi => fillW_lo (by omega)) (fun k' hk' => ?_) (fun k' hk' => ?_) (fun k' hk' => ?_)
  · rw [gi_si_ne (by omega), gi_si_ne (by omega)]; rfl
  · rw [gl_si, gl_si, gl_sl_ne (by omega), gl_sl_ne (by omega)]
  · rw [gl_si, gl_si, gl_sl_ne (by omega), gl_sl_eq, tb_and, tb_not _ hk', tb_bit (by omega), h.1.op k' hk', enP]
    by_cases e : k' = k
    · subst e
      rw [w3]
      simp
    · rw [fillW_lo (w := w) (i := 243 + 6 * k') (by omega)]
      simp [e]
  · rw [gl_si, gl_si, gl_sl_eq, gl_sl_ne (by omega), tb_or, tb_bit (by omega), h.1.fl k' hk', enP]
    by_cases e : k' = k
    · subst e
      rw [w3]
      simp [hk]
    · rw [fillW_lo (w := w) (i := 243 + 6 * k') (by omega)]
      simp [e]
  · rw [enP] at hk'
    by_cases e : k' = k
    · subst e
      rw [w3, w4, w5, if_pos rfl, if_pos rfl, gi_si_ne (by omega), gi_si_eq, gi_si_eq]
      exact ⟨rfl, rfl⟩
    · rw [fillW_lo (w := w) (i := 243 + 6 * k') (by omega), fillW_lo (w := w) (i := 244 + 6 * k') (by omega), fillW_lo (w := w) (i := 245 + 6 * k') (by omega), gi_si_ne (by omega), gi_si_ne (by omega), gi_si_ne (by omega), gi_si_ne (by omega)]
      exact h.1.ta k' hk'
def putW (w : Nat → Int32) (s K : Nat) : Nat → Int32 := upd (upd (upd (upd (upd w (90 + 5 * K + 1) (w (90 + 5 * K + 1) + 1)) (58 + 8 * s + 4) (w (58 + 8 * s + 4) + 1)) (58 + 8 * s + 1) (-1)) (58 + 8 * s + 2) 0) (58 + 8 * s + 3) 0
theorem putW_lo {w : Nat → Int32} {s K i : Nat} (h : i ≠ 90 + 5 * K + 1 ∧ i ≠ 58 + 8 * s + 4 ∧ i ≠ 58 + 8 * s + 1 ∧ i ≠ 58 + 8 * s + 2 ∧ i ≠ 58 + 8 * s + 3) : putW w s K i = w i := wr_lo (by omega) (wr_lo (by omega) (wr_lo (by omega) (wr_lo (by omega) (upd_ne (by omega)))))
theorem place_s {m : MM} {w : Nat → Int32} (h : R m w) (x : MM) {s k K : Nat} (hs : s < nS w) (hk : k < nP w) (hK : K < nK w) (h1 : w (58 + 8 * s + 1) = I K) (h2 : w (58 + 8 * s + 2) ≠ 0) (h3 : w (240 + 6 * k + 3) = 0) (h4 : w (240 + 6 * k) = I K) (h5 : D_X10_openBefore (I k) (pw x w) = some 0) : Act 4 (I s) (I k) m x w (D_X10_places (I s) (I k) (pw x w)) := by
  obtain ⟨v1, v2, v3, v4, v5, v6, v7, v8⟩ := h.r0.vc
  have hv := h.v
  have hX : gi m 38 k = w (240 + 6 * k + 1) := by rw [(h.r0.st k hk).2.1, show 241 + 6 * k = 240 + 6 * k + 1 by omega]
  have hY : gi m 39 k = w (240 + 6 * k + 2) := by rw [(h.r0.st k hk).2.2, show 242 + 6 * k = 240 + 6 * k + 2 by omega]
  obtain ⟨m1, g1, k1⟩ := goTo_s h.1 hv.spd (a := 4) (by decide) (w (240 + 6 * k + 1)) (w (240 + 6 * k + 2)) (w 4)
  have gx : D_X10_goes (4 : Int32) (w (240 + 6 * k + 1)) (w (240 + 6 * k + 2)) (w 4) (pw x w) = some (pw x (goesW w 4 (w (240 + 6 * k + 1)) (w (240 + 6 * k + 2)) (w 4))) := goes_x x hv.spd (a := 4) (by decide) _ _ _
  have lo1 : ∀ i : Nat, i ≠ 21 ∧ i ≠ 22 ∧ i ≠ 23 ∧ i ≠ 41 → goesW w 4 (w (240 + 6 * k + 1)) (w (240 + 6 * k + 2)) (w 4) i = w i := fun i hi => goesW_lo (by omega)
  have l23 : goesW w 4 (w (240 + 6 * k + 1)) (w (240 + 6 * k + 2)) (w 4) 23 = w 23 + (way w (w (240 + 6 * k + 1)) (w (240 + 6 * k + 2)) + w 4) := goesW_23
  have l41 : goesW w 4 (w (240 + 6 * k + 1)) (w (240 + 6 * k + 2)) (w 4) 41 = w 41 + (way w (w (240 + 6 * k + 1)) (w (240 + 6 * k + 2)) + w 4) := goesW_37
  have m21 : goesW w 4 (w (240 + 6 * k + 1)) (w (240 + 6 * k + 2)) (w 4) 21 = w (240 + 6 * k + 1) := goesW_21
  have m22 : goesW w 4 (w (240 + 6 * k + 1)) (w (240 + 6 * k + 2)) (w 4) 22 = w (240 + 6 * k + 2) := goesW_22
  generalize goesW w 4 (w (240 + 6 * k + 1)) (w (240 + 6 * k + 2)) (w 4) = wg at g1 k1 gx lo1 l23 l41 m21 m22
  obtain ⟨-, -, rX, rY⟩ := hv.st k hk
  have rX : Rn 999 (w (240 + 6 * k + 1)) := rX
  have rY : Rn 999 (w (240 + 6 * k + 2)) := rY
  obtain ⟨m2, g2, k2⟩ := fill_s k1 (s := s) (k := k) (by rw [nP_e (lo1 19 (by omega))]; exact hk)
  have lo2 : ∀ i : Nat, i ≠ 21 ∧ i ≠ 22 ∧ i ≠ 23 ∧ i ≠ 41 ∧ (i < 240 + 6 * k + 3 ∨ 240 + 6 * k + 5 < i) → fillW wg s k i = w i := fun i hi => (fillW_lo (by omega)).trans (lo1 i (by omega))
  have f1 : gi m2 s 1 = I K := by
    rw [k2.1.sp s 1 (by rw [nS_e (lo2 15 (by omega))]; exact hs) (by decide), lo2 _ (by omega), h1]
  have f4 : gi m2 s 4 = fillW wg s k (58 + 8 * s + 4) := k2.1.sp s 4 (by rw [nS_e (lo2 15 (by omega))]; exact hs) (by decide)
  have fb : gi m2 31 K = fillW wg s k (90 + 5 * K + 1) := k2.1.bk K 1 (by omega) (by decide)
  have k3 := ((((k2.wBk (k := K) (c := 1) (by omega) (by decide) (fillW wg s k (90 + 5 * K + 1) + 1)).wSp (s := s) (j := 4) (by omega) (by decide) (fillW wg s k (58 + 8 * s + 4) + 1)).wSp (s := s) (j := 1) (by omega) (by decide) (-1)).wSp (s := s) (j := 2) (by omega) (by decide) 0).wSp (s := s) (j := 3) (by omega) (by decide) 0
  have lo3 : ∀ i : Nat, i ≠ 21 ∧ i ≠ 22 ∧ i ≠ 23 ∧ i ≠ 41 ∧ (i < 240 + 6 * k + 3 ∨ 240 + 6 * k + 5 < i) ∧ i ≠ 90 + 5 * K + 1 ∧ i ≠ 58 + 8 * s + 4 ∧ i ≠ 58 + 8 * s + 1 ∧ i ≠ 58 + 8 * s + 2 ∧ i ≠ 58 + 8 * s + 3 → putW (fillW wg s k) s K i = w i := fun i hi => (putW_lo (by omega)).trans (lo2 i (by omega))
  have hv3 : V (putW (fillW wg s k) s K) := by
    refine hv.ac h.r0 s 100 k (fun i hi => lo3 i (by omega)) (by rw [putW_lo (by omega), fillW_lo (by omega), m21]; exact rX) (by rw [putW_lo (by omega), fillW_lo (by omega), m22]; exact rY) ?_ (fun _ => ?_) (fun z => by omega) (fun _ => ?_)
    · rw [lo3 29 (by omega)]
      exact hv.hlt
    · obtain ⟨p1, p2, p3, p4⟩ := hv.sp s hs
      have z0 : Sb (putW (fillW wg s k) s K) s 0 = Sb w s 0 := lo3 _ (by omega)
      have z1 : Sb (putW (fillW wg s k) s K) s 1 = -1 := by
        show putW _ s K (58 + 8 * s + 1) = -1
        unfold putW
        rw [upd_ne (by omega), upd_ne (by omega), upd_eq]
      have z2 : Sb (putW (fillW wg s k) s K) s 2 = 0 := by
        show putW _ s K (58 + 8 * s + 2) = 0
        unfold putW
        rw [upd_ne (by omega), upd_eq]
      have z3 : Sb (putW (fillW wg s k) s K) s 3 = 0 := by
        show putW _ s K (58 + 8 * s + 3) = 0
        unfold putW
        rw [upd_eq]
      exact ⟨by rw [z0]; exact p1, Or.inl z1, Or.inl z2, fun _ => ⟨z2, z3⟩⟩
    · obtain ⟨p1, p2⟩ := hv.st k hk
      have z0 : Kb (putW (fillW wg s k) s K) k 0 = Kb w k 0 := lo3 _ (by omega)
      have z3 : Kb (putW (fillW wg s k) s K) k 3 = 1 := by
        show putW _ s K (240 + 6 * k + 3) = 1
        rw [putW_lo (by omega)]
        unfold fillW
        rw [upd_ne (by omega), upd_ne (by omega), upd_eq]
      have z1 : Kb (putW (fillW wg s k) s K) k 1 = Kb w k 1 := lo3 _ (by omega)
      have z2 : Kb (putW (fillW wg s k) s K) k 2 = Kb w k 2 := lo3 _ (by omega)
      exact ⟨by rw [z0]; exact p1, Or.inr (Or.inl z3), by rw [z1]; exact rX, by rw [z2]; exact rY⟩
  refine act_fin (a := 4) (by decide) (I s) (I k) 1 (way w (w (240 + 6 * k + 1)) (w (240 + 6 * k + 2)) + w 4) (way_d hv.vg rX rY (hv.vg.2.1 4 (by omega))) ⟨1, by decide, rfl⟩ k3 hv3 ?_ ?_ (fun a' h7 => lo3 _ (by omega)) ?_ ?_
  · exact ((putW_lo (by omega)).trans (fillW_lo (by omega))).trans l23
  · exact ((putW_lo (by omega)).trans (fillW_lo (by omega))).trans l41
  · have e4 : gi m 25 4 = w 4 := h.r0.set 4 (by decide)
    unfold D_X6_perform
    rw [gdI (by omega) (by omega), bnd_s, if_neg (by decide), if_neg (by decide), if_neg (by decide), if_pos (by decide), I_tnc (by omega)]
    unfold D_X6_putOn D_X8_dropPart
    rw [gdI (by omega) (by omega), gdI (by omega) (by omega), I_tnc (by omega), hX, hY, e4, g1, b1_s, k1.1.s23, g2, b1_s, bnd_s, f1, gdI (by omega) (by omega), gdI (by omega) (by omega), bnd_s, I_tnc (by omega), bnd_s, gi_si_ne (by omega), f4, fb, bnd_s, bnd_s, bnd_s, b1_s, b1_s, h.r0.s23]
  · unfold D_X10_places D_X10_frees
    rw [oSp1P (by omega), b1_s, h1, if_neg (I_ne_neg (by omega)), oSp2P (by omega), b1_s, if_neg h2, oSt3P (by omega), b1_s, if_pos h3, oSt0P (by omega), b1_s, if_pos h4, h5, b1_s, if_pos rfl, oSt1P (by omega), b1_s, oSt2P (by omega), b1_s, giP, gx, b1_s, poSt3P (by omega), b1_s, giP, upd_ne (show 23 ≠ 240 + 6 * k + 3 by omega), poSt4P (by omega), b1_s, poSt5P (by omega), b1_s, bks1P (by omega), b1_s, oSp4P (by omega), b1_s, poSp4P (by omega), b1_s, poSp1P (by omega), b1_s, poSp2P (by omega), b1_s, poSp3P (by omega), b1_s, b1_s, b2_id, upd_ne (show 58 + 8 * s + 4 ≠ 90 + 5 * K + 1 by omega)]
    rfl
