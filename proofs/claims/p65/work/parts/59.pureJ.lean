/-! PURE: clean, discard, place, look -/
theorem goesW_lo {w : Nat → Int32} {a : Nat} {X Y T : Int32} {i : Nat} (h : i ≠ 21 ∧ i ≠ 22 ∧ i ≠ 23 ∧ i ≠ 37 + a) : goesW w a X Y T i = w i := by
  unfold goesW
  rw [upd_ne (by omega), upd_ne (by omega), upd_ne (by omega), upd_ne (by omega)]
theorem goesW_23 {w : Nat → Int32} {a : Nat} {X Y T : Int32} : goesW w a X Y T 23 = w 23 + (way w X Y + T) := by
  unfold goesW
  rw [upd_ne (by omega), upd_eq]
theorem goesW_37 {w : Nat → Int32} {a : Nat} {X Y T : Int32} : goesW w a X Y T (37 + a) = w (37 + a) + (way w X Y + T) := by
  unfold goesW
  rw [upd_eq]
theorem goesW_21 {w : Nat → Int32} {a : Nat} {X Y T : Int32} : goesW w a X Y T 21 = X := by
  unfold goesW
  rw [upd_ne (by omega), upd_ne (by omega), upd_ne (by omega), upd_eq]
theorem goesW_22 {w : Nat → Int32} {a : Nat} {X Y T : Int32} : goesW w a X Y T 22 = Y := by
  unfold goesW
  rw [upd_ne (by omega), upd_ne (by omega), upd_eq]
theorem wr_lo {w w' : Nat → Int32} {i : Nat} {v : Int32} {k : Nat} (h : i ≠ k) (e : w i = w' i) : upd w k v i = w' i := by rw [upd_ne h, e]
-- clean
theorem clean_s {m : MM} {w : Nat → Int32} (h : R m w) (x : MM) {s : Nat} (hs : s < nS w) (h1 : w (58 + 8 * s + 1) = -1) (h2 : w (58 + 8 * s) ≠ -1) : Act 6 (I s) 0 m x w (D_X10_cleans (I s) (pw x w)) := by
  obtain ⟨v1, v2, v3, v4, v5, v6, v7, v8⟩ := h.r0.vc
  have hv := h.v
  obtain ⟨m1, g1, k1⟩ := goTo_s h.1 hv.spd (a := 6) (by decide) 0 0 (w 14)
  have k2 := k1.wSp (s := s) (j := 7) (by omega) (by decide) 0
  have lo : ∀ i : Nat, i ≠ 21 ∧ i ≠ 22 ∧ i ≠ 23 ∧ i ≠ 43 ∧ i ≠ 58 + 8 * s + 7 → upd (goesW w 6 0 0 (w 14)) (58 + 8 * s + 7) 0 i = w i := fun i hi => wr_lo (by omega) (goesW_lo (by omega))
  refine act_fin (a := 6) (by decide) (I s) 0 1 (way w 0 0 + w 14) (way_d hv.vg Rn.z Rn.z (hv.vg.2.1 14 (by omega))) ⟨1, by decide, rfl⟩ k2 ?_ ?_ ?_ (fun a' h7 => lo _ (by omega)) ?_ ?_
  · refine hv.ac h.r0 s 100 100 (fun i hi => lo i (by omega)) (by rw [upd_ne (by omega), goesW_21]; exact Rn.z) (by rw [upd_ne (by omega), goesW_22]; exact Rn.z) ?_ (fun hs' => (hv.sp s hs').cg (fun j hj => lo _ (by omega))) (fun z => by omega) (fun z => by omega)
    rw [lo 29 (by omega)]
    exact hv.hlt
  · rw [upd_ne (by omega), goesW_23]
  · rw [upd_ne (by omega), goesW_37]
  · have e1 : gi m 25 14 = w 14 := h.r0.set 14 (by decide)
    unfold D_X6_perform
    rw [gdI (by omega) (by omega), bnd_s, if_neg (by decide), if_neg (by decide), if_neg (by decide), if_neg (by decide), if_neg (by decide), I_tnc (by omega)]
    unfold D_X6_cleanOf
    rw [e1, g1, b1_s, bnd_s, b1_s, h.r0.s23]
  · have gx : D_X10_goes (6 : Int32) 0 0 (w 14) (pw x w) = some (pw x (goesW w 6 0 0 (w 14))) := goes_x x hv.spd (a := 6) (by decide) _ _ _
    unfold D_X10_cleans
    rw [oSp1P (by omega), b1_s, if_pos h1, oSp0P (by omega), b1_s, if_neg h2, giP, gx, b1_s, poSp7P (by omega), b1_s, b2_id]
    rfl
-- a part that goes into the bin
def rejW (w : Nat → Int32) (s K : Nat) : Nat → Int32 := upd (upd (upd (upd (upd w (90 + 5 * K + 2) (w (90 + 5 * K + 2) + 1)) (58 + 8 * s + 6) (w (58 + 8 * s + 6) + 1)) (58 + 8 * s + 1) (-1)) (58 + 8 * s + 2) 0) (58 + 8 * s + 3) 0
theorem rejW_lo {w : Nat → Int32} {s K i : Nat} (h : i ≠ 90 + 5 * K + 2 ∧ i ≠ 58 + 8 * s + 6 ∧ i ≠ 58 + 8 * s + 1 ∧ i ≠ 58 + 8 * s + 2 ∧ i ≠ 58 + 8 * s + 3) : rejW w s K i = w i := by
  unfold rejW
  rw [upd_ne (by omega), upd_ne (by omega), upd_ne (by omega), upd_ne (by omega), upd_ne (by omega)]
theorem rejW_sp {nt nk : Nat} {w : Nat → Int32} {s K : Nat} (hK : K < 8) (hs : s < 4) (h : SpOk nt nk (Sb w s)) : SpOk nt nk (Sb (rejW w s K) s) := by
  obtain ⟨p1, p2, p3, p4⟩ := h
  have z0 : Sb (rejW w s K) s 0 = Sb w s 0 := rejW_lo (by omega)
  have z1 : Sb (rejW w s K) s 1 = -1 := by
    show rejW w s K (58 + 8 * s + 1) = -1
    unfold rejW
    rw [upd_ne (by omega), upd_ne (by omega), upd_eq]
  have z2 : Sb (rejW w s K) s 2 = 0 := by
    show rejW w s K (58 + 8 * s + 2) = 0
    unfold rejW
    rw [upd_ne (by omega), upd_eq]
  have z3 : Sb (rejW w s K) s 3 = 0 := by
    show rejW w s K (58 + 8 * s + 3) = 0
    unfold rejW
    rw [upd_eq]
  exact ⟨by rw [z0]; exact p1, Or.inl z1, Or.inl z2, fun _ => ⟨z2, z3⟩⟩
theorem rej_x (x : MM) {w : Nat → Int32} {s K : Nat} (hs : s < 4) (hK : K < 8) (h1 : w (58 + 8 * s + 1) = I K) : D_X10_rejects (I s) (pw x w) = some (pw x (rejW w s K)) := by
  unfold D_X10_rejects D_X10_frees
  rw [oSp1P hs, b1_s, h1, bks2P hK, b1_s, oSp6P hs, b1_s, poSp6P hs, b1_s, poSp1P hs, b1_s, poSp2P hs, b1_s, poSp3P hs, b1_s, b1_s, upd_ne (show 58 + 8 * s + 6 ≠ 90 + 5 * K + 2 by omega)]
  rfl
theorem rej_s {τ : Nat → Int32} {m : MM} {w : Nat → Int32} (k : R1 τ m w) {s K : Nat} (hs : s < nS w) (hK : K < 8) (h1 : w (58 + 8 * s + 1) = I K) : ∃ m' : MM, D_X6_reject s m = some m' ∧ R1 τ m' (rejW w s K) := by
  obtain ⟨v1, -⟩ := k.1.vc
  have e1 : gi m s 1 = I K := (k.1.sp s 1 hs (by decide)).trans h1
  have e2 : gi m s 6 = w (58 + 8 * s + 6) := k.1.sp s 6 hs (by decide)
  have e3 : gi m 32 K = w (90 + 5 * K + 2) := k.1.bk K 2 hK (by decide)
  unfold D_X6_reject D_X8_dropPart
  rw [bnd_s, e1, gdI (by omega) (by omega), gdI (by omega) (by omega), bnd_s, I_tnc (by omega), bnd_s, gi_si_ne (by omega), e2, e3, bnd_s, bnd_s, bnd_s, b1_s]
  exact ⟨_, rfl, ((((k.wBk (k := K) (c := 2) hK (by decide) _).wSp (s := s) (j := 6) (by omega) (by decide) _).wSp (s := s) (j := 1) (by omega) (by decide) _).wSp (s := s) (j := 2) (by omega) (by decide) _).wSp (s := s) (j := 3) (by omega) (by decide) _⟩
theorem discard_s {m : MM} {w : Nat → Int32} (h : R m w) (x : MM) {s : Nat} (hs : s < nS w) (h1 : w (58 + 8 * s + 1) ≠ -1) : Act 5 (I s) 0 m x w (D_X10_discards (I s) (pw x w)) := by
  obtain ⟨v1, v2, v3, v4, v5, v6, v7, v8⟩ := h.r0.vc
  have hv := h.v
  obtain ⟨K, hK, q⟩ : ∃ K : Nat, K < nK w ∧ w (58 + 8 * s + 1) = I K := (hv.sp s hs).2.1.resolve_left h1
  obtain ⟨m1, g1, k1⟩ := rej_s h.1 hs (by omega) q
  refine act_fin (a := 5) (by decide) (I s) 0 1 0 Rn.z ⟨1, by decide, rfl⟩ k1 ?_ ?_ ?_ (fun a' h7 => rejW_lo (by omega)) ?_ ?_
  · refine hv.ac h.r0 s 100 100 (fun i hi => rejW_lo (by omega)) (by rw [rejW_lo (by omega)]; exact hv.vg.2.2.2.2.1) (by rw [rejW_lo (by omega)]; exact hv.vg.2.2.2.2.2) ?_ (fun hs' => rejW_sp (by omega) (by omega) (hv.sp s hs')) (fun z => by omega) (fun z => by omega)
    rw [rejW_lo (by omega)]
    exact hv.hlt
  · rw [rejW_lo (by omega), Int32.add_zero]
  · rw [rejW_lo (by omega), Int32.add_zero]
  · unfold D_X6_perform
    rw [gdI (by omega) (by omega), bnd_s, if_neg (by decide), if_neg (by decide), if_neg (by decide), if_neg (by decide), if_pos (by decide), I_tnc (by omega), g1, b1_s, h.r0.s23]
  · unfold D_X10_discards
    rw [oSp1P (by omega), b1_s, if_neg h1, rej_x x (by omega) (by omega) q, b1_s, b2_id]
    rfl
-- a look
theorem drawW_upd (w : Nat → Int32) {j : Nat} (v : Int32) (hj : j ≠ 10) : drawW (upd w j v) = upd (drawW w) j v := by
  unfold drawW
  rw [upd_ne (Ne.symm hj), upd_comm w hj]
theorem drawW_lo {w : Nat → Int32} {i : Nat} (h : i ≠ 10) : drawW w i = w i := upd_ne h
def lookW (w : Nat → Int32) (s : Nat) : Nat → Int32 := upd (drawW (goesW w 3 (w 8) (w 9) (w 3))) (58 + 8 * s + 3) (w (58 + 8 * s + 3) + 1)
theorem lookW_lo {w : Nat → Int32} {s i : Nat} (h : i ≠ 10 ∧ i ≠ 21 ∧ i ≠ 22 ∧ i ≠ 23 ∧ i ≠ 40 ∧ i ≠ 58 + 8 * s + 3) : lookW w s i = w i := wr_lo (by omega) ((drawW_lo (by omega)).trans (goesW_lo (by omega)))
theorem lookW_23 {w : Nat → Int32} {s : Nat} : lookW w s 23 = w 23 + (way w (w 8) (w 9) + w 3) := by
  unfold lookW
  rw [upd_ne (by omega), drawW_lo (by omega), goesW_23]
theorem lookW_40 {w : Nat → Int32} {s : Nat} : lookW w s 40 = w 40 + (way w (w 8) (w 9) + w 3) := by
  unfold lookW
  rw [upd_ne (by omega), drawW_lo (by omega)]
  exact goesW_37
theorem lookW_21 {w : Nat → Int32} {s : Nat} : lookW w s 21 = w 8 := by
  unfold lookW
  rw [upd_ne (by omega), drawW_lo (by omega), goesW_21]
theorem lookW_22 {w : Nat → Int32} {s : Nat} : lookW w s 22 = w 9 := by
  unfold lookW
  rw [upd_ne (by omega), drawW_lo (by omega), goesW_22]
theorem lookAt_s {m : MM} {w : Nat → Int32} (h : R m w) {s : Nat} (hs : s < nS w) : ∃ m5 : MM, R1 (fun a => w (37 + a)) m5 (lookW w s) ∧ D_X6_lookAt s m = (if lookW w s 5 ≤ drv (lookW w s) then (if (lookW w s 5 + lookW w s 6) ≤ drv (lookW w s) then (D_X6_lookAt_108 s m5) else (if lookW w s 7 < lookW w s (58 + 8 * s + 3) then (D_X6_lookAt_108 s m5) else (some ((0 : Int32), m5)))) else (bnd (si m5 s 2 (1 : Int32)) (fun m11 => bnd (si m11 45 7 ((gi m11 45 7) + (1 : Int32))) (fun m12 => bnd (si m12 24 14 (0 : Int32)) (fun m13 => some ((1 : Int32), m13)))))) := by
  obtain ⟨v1, v2, v3, v4, v5, v6, v7, v8⟩ := h.r0.vc
  obtain ⟨m1, g1, k1⟩ := goTo_s h.1 h.v.spd (a := 3) (by decide) (w 8) (w 9) (w 3)
  have lo1 : ∀ i : Nat, i ≠ 21 ∧ i ≠ 22 ∧ i ≠ 23 ∧ i ≠ 40 → goesW w 3 (w 8) (w 9) (w 3) i = w i := fun i hi => goesW_lo hi
  have e0 : gi m1 s 3 = w (58 + 8 * s + 3) := by
    rw [k1.1.sp s 3 (by rw [nS_e (lo1 15 (by omega))]; exact hs) (by decide), lo1 _ (by omega)]
  have k2 := k1.wSp (s := s) (j := 3) (by omega) (by decide) (w (58 + 8 * s + 3) + 1)
  obtain ⟨m5, g5, k5⟩ := draw_s k2
  rw [drawW_upd _ _ (by omega)] at k5 g5
  have k5 : R1 (fun a => w (37 + a)) m5 (lookW w s) := k5
  have g5 : D_X6_draw (si m1 s 3 (w (58 + 8 * s + 3) + 1)) = some (drv (lookW w s), m5) := g5
  refine ⟨m5, k5, ?_⟩
  have f8 : gi m 25 8 = w 8 := h.r0.set 8 (by decide)
  have f9 : gi m 25 9 = w 9 := h.r0.set 9 (by decide)
  have f3 : gi m 25 3 = w 3 := h.r0.set 3 (by decide)
  have f5 : gi m5 25 5 = lookW w s 5 := k5.1.set 5 (by decide)
  have f6 : gi m5 25 6 = lookW w s 6 := k5.1.set 6 (by decide)
  have f7 : gi m5 25 7 = lookW w s 7 := k5.1.set 7 (by decide)
  have fs : gi m5 s 3 = lookW w s (58 + 8 * s + 3) := k5.1.sp s 3 (by rw [nS_e (lookW_lo (by omega))]; exact hs) (by decide)
  unfold D_X6_lookAt
  rw [f8, f9, f3, g1, b1_s, bnd_s, e0, g5, b2_s, f5, f6, f7, fs]
theorem looks_x {w : Nat → Int32} (hv : V w) (x : MM) {s : Nat} (hs : s < 4) (h1 : w (58 + 8 * s + 1) ≠ -1) (h2 : w (58 + 8 * s + 2) ≠ 1) : D_X10_looks (I s) (pw x w) = (if lookW w s 5 ≤ drv (lookW w s) then (if (lookW w s 5 + lookW w s 6) ≤ drv (lookW w s) then (D_X10_looks_152 (I s) (pw x (lookW w s))) else (if lookW w s 7 < lookW w s (58 + 8 * s + 3) then (D_X10_looks_152 (I s) (pw x (lookW w s))) else (D_X10_notes (3 : Int32) (I s) (0 : Int32) (0 : Int32) (pw x (lookW w s))))) else (D_X10_notes (3 : Int32) (I s) (0 : Int32) (1 : Int32) (pw x (upd (upd (upd (lookW w s) (58 + 8 * s + 2) 1) 25 0) 26 (lookW w s 26 + 1))))) := by
  have gx : D_X10_goes (3 : Int32) (w 8) (w 9) (w 3) (pw x w) = some (pw x (goesW w 3 (w 8) (w 9) (w 3))) := goes_x x hv.spd (a := 3) (by decide) _ _ _
  have e0 : drawW (goesW w 3 (w 8) (w 9) (w 3)) (58 + 8 * s + 3) = w (58 + 8 * s + 3) := (drawW_lo (by omega)).trans (goesW_lo (by omega))
  have ed : drv (drawW (goesW w 3 (w 8) (w 9) (w 3))) = drv (lookW w s) := by
    unfold drv lookW
    rw [upd_ne (show 10 ≠ 58 + 8 * s + 3 by omega)]
  have es : lookW w s (58 + 8 * s + 3) = w (58 + 8 * s + 3) + 1 := by
    unfold lookW
    rw [upd_eq]
  unfold D_X10_looks
  rw [oSp1P hs, b1_s, if_neg h1, oSp2P hs, b1_s, if_neg h2, giP, giP, giP, gx, b1_s, draw_x, b2_s, oSp3P hs, b1_s, bnd_s, e0, poSp3P hs, b1_s, ed, es]
  show (if gi (pw x (lookW w s)) 1 5 ≤ drv (lookW w s) then _ else _) = _
  have e26 : upd (upd (lookW w s) (58 + 8 * s + 2) 1) 25 0 26 = lookW w s 26 := by
    rw [upd_ne (by omega), upd_ne (by omega)]
  have ew : (upd (drawW (goesW w 3 (w 8) (w 9) (w 3))) (58 + 8 * s + 3) (w (58 + 8 * s + 3) + 1)) = lookW w s := rfl
  rw [ew, giP, giP, giP, poSp2P hs, b1_s, bnd_s, siP, bnd_s, giP, siP, e26, b2_id, b2_id]
theorem look_s {m : MM} {w : Nat → Int32} (h : R m w) (x : MM) {s : Nat} (hs : s < nS w) (h1 : w (58 + 8 * s + 1) ≠ -1) (h2 : w (58 + 8 * s + 2) ≠ 1) : Act 3 (I s) 0 m x w (D_X10_looks (I s) (pw x w)) := by
  obtain ⟨v1, v2, v3, v4, v5, v6, v7, v8⟩ := h.r0.vc
  have hv := h.v
  obtain ⟨K, hK, q⟩ : ∃ K : Nat, K < nK w ∧ w (58 + 8 * s + 1) = I K := (hv.sp s hs).2.1.resolve_left h1
  obtain ⟨m5, k5, g5⟩ := lookAt_s h hs
  have hp : D_X6_perform (I 3) (I s) 0 m = b2 (D_X6_lookAt s m) (fun v21 m22 => D_X6_perform_116 (I 3) (I s) 0 (w 23) v21 m22) := by
    unfold D_X6_perform
    rw [gdI (by omega) (by omega), bnd_s, if_neg (by decide), if_neg (by decide), if_pos (by decide), I_tnc (by omega), h.r0.s23]
  rw [looks_x hv x (by omega) h1 h2]
  rw [g5] at hp
  have z0 : Sb (lookW w s) s 0 = Sb w s 0 := lookW_lo (by omega)
  have z1 : Sb (lookW w s) s 1 = Sb w s 1 := lookW_lo (by omega)
  have z2 : Sb (lookW w s) s 2 = Sb w s 2 := lookW_lo (by omega)
  obtain ⟨p1, p2, p3, p4⟩ := hv.sp s hs
  have sp5 : SpOk (nT w) (nK w) (Sb (lookW w s) s) := ⟨by rw [z0]; exact p1, by rw [z1]; exact p2, by rw [z2]; exact p3, fun z => absurd (z1.symm.trans z) h1⟩
  have enS : nS (lookW w s) = nS w := nS_e (lookW_lo (by omega))
  have hdw : Rn 1199 (way w (w 8) (w 9) + w 3) := way_d hv.vg hv.vg.2.2.1 hv.vg.2.2.2.1 (hv.vg.2.1 3 (by omega))
  have h8 : Rn 999 (w 8) := hv.vg.2.2.1
  have h9 : Rn 999 (w 9) := hv.vg.2.2.2.1
  -- rejected
  have rej : D_X6_perform (I 3) (I s) 0 m = b2 (D_X6_lookAt_108 s m5) (fun v21 m22 => D_X6_perform_116 (I 3) (I s) 0 (w 23) v21 m22) → Act 3 (I s) 0 m x w (D_X10_looks_152 (I s) (pw x (lookW w s))) := fun hp => by
    obtain ⟨m7, g7, k7⟩ := rej_s k5 (s := s) (K := K) (by rw [enS]; exact hs) (by omega) ((lookW_lo (by omega)).trans q)
    have k9 := k7.ws25 (rejW (lookW w s) s K 25 + 1)
    have lo : ∀ i : Nat, i ≠ 10 ∧ i ≠ 21 ∧ i ≠ 22 ∧ i ≠ 23 ∧ i ≠ 40 ∧ i ≠ 58 + 8 * s + 3 ∧ i ≠ 90 + 5 * K + 2 ∧ i ≠ 58 + 8 * s + 6 ∧ i ≠ 58 + 8 * s + 1 ∧ i ≠ 58 + 8 * s + 2 ∧ i ≠ 25 → upd (rejW (lookW w s) s K) 25 (rejW (lookW w s) s K 25 + 1) i = w i := fun i hi => wr_lo (by omega) ((rejW_lo (by omega)).trans (lookW_lo (by omega)))
    have e11 : gi (si m7 24 14 (rejW (lookW w s) s K 25 + 1)) 25 11 = w 11 := (k9.1.set 11 (by decide)).trans (lo 11 (by omega))
    have e14 : gi (si m7 24 14 (rejW (lookW w s) s K 25 + 1)) 24 14 = upd (rejW (lookW w s) s K) 25 (rejW (lookW w s) s K 25 + 1) 25 := k9.1.s25
    have ea : D_X6_lookAt_108 s m5 = (if w 11 ≤ 0 then (some ((2 : Int32), (si m7 24 14 (rejW (lookW w s) s K 25 + 1)))) else (if (upd (rejW (lookW w s) s K) 25 (rejW (lookW w s) s K 25 + 1) 25) < w 11 then (some ((2 : Int32), (si m7 24 14 (rejW (lookW w s) s K 25 + 1)))) else (some ((2 : Int32), (si (si m7 24 14 (rejW (lookW w s) s K 25 + 1)) 24 15 1))))) := by
      unfold D_X6_lookAt_108
      rw [g7, b1_s, bnd_s, k7.1.s25, e11, e14, bnd_s]
    have eb : D_X10_looks_152 (I s) (pw x (lookW w s)) = (if w 11 ≤ 0 then D_X10_notes (3 : Int32) (I s) (0 : Int32) (2 : Int32) (pw x (upd (rejW (lookW w s) s K) 25 (rejW (lookW w s) s K 25 + 1))) else (if (upd (rejW (lookW w s) s K) 25 (rejW (lookW w s) s K 25 + 1) 25) < w 11 then D_X10_notes (3 : Int32) (I s) (0 : Int32) (2 : Int32) (pw x (upd (rejW (lookW w s) s K) 25 (rejW (lookW w s) s K 25 + 1))) else D_X10_notes (3 : Int32) (I s) (0 : Int32) (2 : Int32) (pw x (upd (upd (rejW (lookW w s) s K) 25 (rejW (lookW w s) s K 25 + 1)) 29 1)))) := by
      unfold D_X10_looks_152
      rw [rej_x x (by omega) (by omega) ((lookW_lo (by omega)).trans q), b1_s, bnd_s, giP, siP, giP, giP, lo 11 (by omega), bnd_s, siP, b2_id, b2_id]
    rw [ea] at hp
    rw [eb]
    have l23 : upd (rejW (lookW w s) s K) 25 (rejW (lookW w s) s K 25 + 1) 23 = w 23 + (way w (w 8) (w 9) + w 3) := by
      rw [upd_ne (by omega), rejW_lo (by omega), lookW_23]
    have l40 : upd (rejW (lookW w s) s K) 25 (rejW (lookW w s) s K 25 + 1) 40 = w 40 + (way w (w 8) (w 9) + w 3) := by
      rw [upd_ne (by omega), rejW_lo (by omega), lookW_40]
    have l21 : upd (rejW (lookW w s) s K) 25 (rejW (lookW w s) s K 25 + 1) 21 = w 8 := by
      rw [upd_ne (by omega), rejW_lo (by omega), lookW_21]
    have l22 : upd (rejW (lookW w s) s K) 25 (rejW (lookW w s) s K 25 + 1) 22 = w 9 := by
      rw [upd_ne (by omega), rejW_lo (by omega), lookW_22]
    have lsp : SpOk (nT w) (nK w) (Sb (upd (rejW (lookW w s) s K) 25 (rejW (lookW w s) s K 25 + 1)) s) := (rejW_sp (by omega) (by omega) sp5).cg (fun j hj => upd_ne (by omega))
    have hv9 : V (upd (rejW (lookW w s) s K) 25 (rejW (lookW w s) s K 25 + 1)) := by
      refine hv.ac h.r0 s 100 100 (fun i hi => lo i (by omega)) (by rw [l21]; exact h8) (by rw [l22]; exact h9) ?_ (fun _ => lsp) (fun z => by omega) (fun z => by omega)
      rw [lo 29 (by omega)]
      exact hv.hlt
    have base : D_X6_perform (I 3) (I s) 0 m = D_X6_perform_116 (I 3) (I s) 0 (w 23) 2 (si m7 24 14 (rejW (lookW w s) s K 25 + 1)) → Act 3 (I s) 0 m x w (D_X10_notes (3 : Int32) (I s) (0 : Int32) (2 : Int32) (pw x (upd (rejW (lookW w s) s K) 25 (rejW (lookW w s) s K 25 + 1)))) := fun hq => act_fin (a := 3) (by decide) (I s) 0 2 _ hdw ⟨2, by decide, rfl⟩ k9 hv9 l23 l40 (fun a' h7 => lo _ (by omega)) hq rfl
    by_cases c1 : w 11 ≤ 0
    · rw [if_pos c1]
      rw [if_pos c1, b2_s] at hp
      exact base hp
    · rw [if_neg c1]
      rw [if_neg c1] at hp
      by_cases c2 : (upd (rejW (lookW w s) s K) 25 (rejW (lookW w s) s K 25 + 1) 25) < w 11
      · rw [if_pos c2]
        rw [if_pos c2, b2_s] at hp
        exact base hp
      · rw [if_neg c2]
        rw [if_neg c2, b2_s] at hp
        have k10 := k9.ws29 1
        refine act_fin (a := 3) (by decide) (I s) 0 2 (way w (w 8) (w 9) + w 3) hdw ⟨2, by decide, rfl⟩ k10 ?_ ((upd_ne (by omega)).trans l23) ((upd_ne (by omega)).trans l40) (fun a' h7 => (upd_ne (by omega)).trans (lo _ (by omega))) hp rfl
        refine hv.ac h.r0 s 100 100 (fun i hi => ?_) (by rw [upd_ne (by omega), l21]; exact h8) (by rw [upd_ne (by omega), l22]; exact h9) (Or.inr (upd_eq _ _ _)) (fun _ => lsp.cg (fun j hj => upd_ne (by omega))) (fun z => by omega) (fun z => by omega)
        rw [upd_ne (by omega)]
        exact lo i (by omega)
  have hv5 : V (lookW w s) := by
    refine hv.ac h.r0 s 100 100 (fun i hi => lookW_lo (by omega)) (by rw [lookW_21]; exact h8) (by rw [lookW_22]; exact h9) ?_ (fun _ => sp5) (fun z => by omega) (fun z => by omega)
    rw [lookW_lo (by omega)]
    exact hv.hlt
  by_cases c1 : lookW w s 5 ≤ drv (lookW w s)
  · rw [if_pos c1]
    rw [if_pos c1] at hp
    by_cases c2 : (lookW w s 5 + lookW w s 6) ≤ drv (lookW w s)
    · rw [if_pos c2]
      rw [if_pos c2] at hp
      exact rej hp
    · rw [if_neg c2]
      rw [if_neg c2] at hp
      by_cases c3 : lookW w s 7 < lookW w s (58 + 8 * s + 3)
      · rw [if_pos c3]
        rw [if_pos c3] at hp
        exact rej hp
      · rw [if_neg c3]
        rw [if_neg c3, b2_s] at hp
        exact act_fin (a := 3) (by decide) (I s) 0 0 _ hdw ⟨0, by decide, rfl⟩ k5 hv5 lookW_23 lookW_40 (fun a' h7 => lookW_lo (by omega)) hp rfl
  · rw [if_neg c1]
    rw [if_neg c1, bnd_s, bnd_s, bnd_s, b2_s] at hp
    have k11 := k5.wSp (s := s) (j := 2) (by omega) (by decide) 1
    have e26 : gi (si m5 s 2 1) 45 7 = lookW w s 26 := (k11.1.s26).trans (upd_ne (by omega))
    rw [e26] at hp
    have k13 := (k11.ws26 (lookW w s 26 + 1)).ws25 0
    rw [upd_comm _ (show (26 : Nat) ≠ 25 by decide)] at k13
    have lo : ∀ i : Nat, i ≠ 10 ∧ i ≠ 21 ∧ i ≠ 22 ∧ i ≠ 23 ∧ i ≠ 40 ∧ i ≠ 58 + 8 * s + 3 ∧ i ≠ 58 + 8 * s + 2 ∧ i ≠ 25 ∧ i ≠ 26 → upd (upd (upd (lookW w s) (58 + 8 * s + 2) 1) 25 0) 26 (lookW w s 26 + 1) i = w i := fun i hi => wr_lo (by omega) (wr_lo (by omega) (wr_lo (by omega) (lookW_lo (by omega))))
    refine act_fin (a := 3) (by decide) (I s) 0 1 (way w (w 8) (w 9) + w 3) hdw ⟨1, by decide, rfl⟩ k13 ?_ ?_ ?_ (fun a' h7 => lo _ (by omega)) hp rfl
    · refine hv.ac h.r0 s 100 100 (fun i hi => lo i (by omega)) (by rw [upd_ne (by omega), upd_ne (by omega), upd_ne (by omega), lookW_21]; exact h8) (by rw [upd_ne (by omega), upd_ne (by omega), upd_ne (by omega), lookW_22]; exact h9) ?_ (fun _ => ?_) (fun z => by omega) (fun z => by omega)
      · rw [lo 29 (by omega)]
        exact hv.hlt
      · have y0 : Sb (upd (upd (upd (lookW w s) (58 + 8 * s + 2) 1) 25 0) 26 (lookW w s 26 + 1)) s 0 = Sb w s 0 := lo _ (by omega)
        have y1 : Sb (upd (upd (upd (lookW w s) (58 + 8 * s + 2) 1) 25 0) 26 (lookW w s 26 + 1)) s 1 = Sb w s 1 := lo _ (by omega)
        refine ⟨by rw [y0]; exact p1, by rw [y1]; exact p2, Or.inr ?_, fun z => absurd (y1.symm.trans z) h1⟩
        show upd _ _ _ (58 + 8 * s + 2) = 1
        rw [upd_ne (by omega), upd_ne (by omega), upd_eq]
    · rw [upd_ne (by omega), upd_ne (by omega), upd_ne (by omega), lookW_23]
    · show upd _ _ _ 40 = w 40 + _
      rw [upd_ne (by omega), upd_ne (by omega), upd_ne (by omega), lookW_40]
