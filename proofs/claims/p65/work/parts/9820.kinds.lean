/-! PROPERTY: a text that is in order, read by the reference: nozzles, kinds, feeders, spots -/
/-- a number without a space before it -/
theorem num_d {L : Nat} {T : Nat → Nat} (ht : Tok L T) {x : MM} {w : Nat → Int32} {p v : Nat} (hx : Xs L T p w x) (hv : v < 1000000) (n1 : ∀ i : Nat, i < sb_dg v → T (p + i) = sb_dec v i) (hs : Stop T L (p + sb_dg v)) {lo hi : Int32} (h1 : lo.toInt ≤ (v : Int)) (h2 : (v : Int) ≤ hi.toInt) : ∃ x' : MM, D_X10_reads lo hi x = some (1, x') ∧ Xs L T (p + sb_dg v) w x' ∧ gi x' 0 14 = I v := by
  obtain ⟨hd, e12, e3⟩ := hx
  have hg := sb_dg_in v
  have hL := ht.1
  have hs1 := hs.1
  have d0 : T p = sb_dec v 0 := n1 0 (by omega)
  have dd : 48 ≤ T p ∧ T p ≤ 57 := by
    rw [d0]
    unfold sb_dec
    have := Nat.mod_lt (v / 10 ^ (sb_dg v - 1 - 0)) (show 0 < 10 by decide)
    omega
  have es : nx sP T L p = p := sp_none (fun _ => by omega)
  obtain ⟨x1, a1, a2, a3, a4⟩ := see_s ht hd
  rw [es] at a1 a3 a4
  obtain ⟨r1, r2⟩ := num_run (cap := 100000000) hv (by decide) n1 hs1 (fun hq => by
    have := hs.2 hq
    show ¬ decide (48 ≤ T (p + sb_dg v) ∧ T (p + sb_dg v) ≤ 57) = true
    rw [decide_eq_true_eq]
    omega)
  obtain ⟨x2, c1, c2, c3⟩ := rd_l ht lo hi (L - p) p FU 0 x1 (by omega) (by show L - p < 5000; omega) (by omega) a3
  have c1 : D_X10_reads_24 FU lo hi (0 : Int64) x1 = _ := c1
  have r1' : Sc dP T L (L - p) p = p + sb_dg v := r1
  rw [r1'] at c3
  rw [r2, if_pos ⟨h1, h2⟩] at c1
  refine ⟨si x2 0 14 (I v), ?_, ⟨c3.fr (by rw [gi_si_ne (by omega)]; exact c3.2.2.1) hs1 (gi_si_ne (by omega)) (fun k => gi_si_ne (by omega)), ?_, fun i => ?_⟩, gi_si_eq _ _ _ _⟩
  · unfold D_X10_reads
    rw [a1, b2_s, a3.2.2.1, isd_x ht a3.2.1 a3.2.2.2 (by omega), if_pos ⟨by omega, decide_eq_true dd⟩, b1_s, if10]
    exact c1
  · rw [gi_si_ne (by omega), c2 0 12 (by omega), a2 0 12 (by omega)]
    exact e12
  · rw [gi_si_ne (by omega), c2 3 i (by omega), a2 3 i (by omega)]
    exact e3 i
theorem into_d {L : Nat} {T : Nat → Nat} (ht : Tok L T) {x : MM} {w : Nat → Int32} {p v : Nat} (hx : Xs L T p w x) (hv : v < 1000000) (hn : ∀ i : Nat, i < sb_dg v → T (p + i) = sb_dec v i) (hs : Stop T L (p + sb_dg v)) {lo hi : Int32} (h1 : lo.toInt ≤ (v : Int)) (h2 : (v : Int) ≤ hi.toInt) {c : Nat} (hc : c < 640) : ∃ x' : MM, D_X10_readsInto (I c) lo hi x = some (1, x') ∧ Xs L T (p + sb_dg v) (upd w c (I v)) x' := by
  obtain ⟨x1, a1, a2, a5⟩ := num_d ht hx hv hn hs h1 h2
  refine ⟨si x1 3 c (I v), ?_, a2.s3 c _⟩
  unfold D_X10_readsInto
  rw [a1, b2_s, if10, gdI (by omega) (by omega), I_tnc (by omega), a5, bnd_s]
/-- looking at what comes behind one space -/
theorem see_sp {L : Nat} {T : Nat → Nat} (ht : Tok L T) {x : MM} {w : Nat → Int32} {p : Nat} (hx : Xs L T p w x) (h : T p = 32) (hp : p + 1 < L) (h1 : T (p + 1) ≠ 32) : ∃ x' : MM, D_X10_see x = some (I (T (p + 1)), x') ∧ Xs L T (p + 1) w x' := by
  have es : nx sP T L p = p + 1 := sp_one h hp h1
  obtain ⟨x1, a1, a2, a3, a4⟩ := see_s ht hx.1
  rw [es] at a1 a3 a4
  rw [if_pos hp] at a1
  exact ⟨x1, a1, a3, by rw [a2 0 12 (by omega)]; exact hx.2.1, fun i => by rw [a2 3 i (by omega)]; exact hx.2.2 i⟩
theorem dig_at {L : Nat} {T : Nat → Nat} {p v : Nat} (h : NumAt T p v) (hs : Stop T L (p + 1 + sb_dg v)) : p + 1 < L ∧ 48 ≤ T (p + 1) ∧ T (p + 1) ≤ 57 := by
  have hg := sb_dg_in v
  have hs1 := hs.1
  have d0 : T (p + 1) = sb_dec v 0 := h.2 0 (by omega)
  refine ⟨by omega, ?_⟩
  rw [d0]
  unfold sb_dec
  have := Nat.mod_lt (v / 10 ^ (sb_dg v - 1 - 0)) (show 0 < 10 by decide)
  omega
theorem st_kind {L : Nat} {T : Nat → Nat} (ht : Tok L T) {x : MM} {w : Nat → Int32} {p q : Nat} (hx : Xs L T p w x) (hw : WordAt T p 8) (hs : Stop T L (p + strL 8)) {k n v : Nat} (hn : Nums T L [v] (p + strL 8) q) (e17 : w 17 = I k) (hk : k < 8) (e16 : w 16 = I n) (hv : v < n) (hn6 : n ≤ 6) : ∃ x' : MM, D_X10_readStatement x = some (1, x') ∧ Xs L T q (upd (upd w (50 + k) (I v)) 17 (I (k + 1))) x' := by
  obtain ⟨x0, a0, b0, c0⟩ := see_x ht hx (word_ne (by omega) hw)
  obtain ⟨x1_, a1, b1⟩ := take_n ht b0 (q := 8) (q' := 1) (by omega) (by omega) (by omega) hw hs
  obtain ⟨x2_, a2, b2⟩ := take_n ht b1 (q := 8) (q' := 2) (by omega) (by omega) (by omega) hw hs
  obtain ⟨x3_, a3, b3⟩ := take_n ht b2 (q := 8) (q' := 3) (by omega) (by omega) (by omega) hw hs
  obtain ⟨x4_, a4, b4⟩ := take_n ht b3 (q := 8) (q' := 4) (by omega) (by omega) (by omega) hw hs
  obtain ⟨x5_, a5, b5⟩ := take_n ht b4 (q := 8) (q' := 5) (by omega) (by omega) (by omega) hw hs
  obtain ⟨x6_, a6, b6⟩ := take_n ht b5 (q := 8) (q' := 6) (by omega) (by omega) (by omega) hw hs
  obtain ⟨x11_, a11, b11⟩ := take_n ht b6 (q := 8) (q' := 11) (by omega) (by omega) (by omega) hw hs
  obtain ⟨x7_, a7, b7⟩ := take_n ht b11 (q := 8) (q' := 7) (by omega) (by omega) (by omega) hw hs
  obtain ⟨xq, aq, bq⟩ := take_y ht b7 (q := 8) (by omega) hw hs
  have hgi : ∀ {y : MM} {p' : Nat}, Xs L T p' w y → gi y 3 17 = I k ∧ gi y 3 16 = I n := fun h => ⟨(h.2.2 17).trans e17, (h.2.2 16).trans e16⟩
  obtain ⟨r0, f0, g0⟩ := room_x bq (b := p) (c := 17) (M := 8) (by omega) e17 hk (by omega)
  have f0 : D_X10_isRoom (I p) (17 : Int32) (8 : Int32) xq = some (1, r0) := f0
  obtain ⟨g17, g16⟩ := hgi g0
  have eh : ((I n - (1 : Int32)).toInt) = (n : Int) - 1 := by
    rw [show (1 : Int32) = I 1 from rfl, I_sub (by omega), I_toInt (by omega)]
    omega
  obtain ⟨y0, p0, d0, e0, n0⟩ := into_n ht g0 hn (lo := (0 : Int32)) (hi := I n - 1) (show (0 : Int32).toInt ≤ _ by rw [show (0 : Int32).toInt = 0 by decide]; omega) (by rw [eh]; omega) (c := 50 + k) (by omega)
  have e17' : gi y0 3 17 = I k := (e0.2.2 17).trans ((upd_ne (by omega)).trans e17)
  refine ⟨si y0 3 17 (I (k + 1)), ?_, nums_0 n0 (e0.s3 17 _)⟩
  have ek : D_X10_readKind (I p) xq = some (1, si y0 3 17 (I (k + 1))) := by
    unfold D_X10_readKind
    rw [f0, b2_s, if10, g17, g16, show (50 : Int32) + I k = I (50 + k) from I_add 50 k, d0, b2_s, if10, e17', show I k + (1 : Int32) = I (k + 1) from ixs1 k, bnd_s]
  unfold D_X10_readStatement
  rw [a0, b2_s, bnd_s, c0, a1, b2_s, if00, a2, b2_s, if00, a3, b2_s, if00, a4, b2_s, if00, a5, b2_s, if00, a6, b2_s, if00, a11, b2_s, if00, a7, b2_s, if00, aq, b2_s, if10, ek, b2_s, if_pos (Or.inr rfl)]
theorem st_spot {L : Nat} {T : Nat → Nat} (ht : Tok L T) {x : MM} {w : Nat → Int32} {p q : Nat} (hx : Xs L T p w x) (hw : WordAt T p 10) (hs : Stop T L (p + strL 10)) {P n K X Y : Nat} (hn : Nums T L [K, X, Y] (p + strL 10) q) (e19 : w 19 = I P) (hP : P < 40) (e17 : w 17 = I n) (hK : K < n) (hn8 : n ≤ 8) (hX : X ≤ 999) (hY : Y ≤ 999) : ∃ x' : MM, D_X10_readStatement x = some (1, x') ∧ Xs L T q (stW w P K (I X) (I Y)) x' := by
  obtain ⟨x0, a0, b0, c0⟩ := see_x ht hx (word_ne (by omega) hw)
  obtain ⟨x1_, a1, b1⟩ := take_n ht b0 (q := 10) (q' := 1) (by omega) (by omega) (by omega) hw hs
  obtain ⟨x2_, a2, b2⟩ := take_n ht b1 (q := 10) (q' := 2) (by omega) (by omega) (by omega) hw hs
  obtain ⟨x3_, a3, b3⟩ := take_n ht b2 (q := 10) (q' := 3) (by omega) (by omega) (by omega) hw hs
  obtain ⟨x4_, a4, b4⟩ := take_n ht b3 (q := 10) (q' := 4) (by omega) (by omega) (by omega) hw hs
  obtain ⟨x5_, a5, b5⟩ := take_n ht b4 (q := 10) (q' := 5) (by omega) (by omega) (by omega) hw hs
  obtain ⟨x6_, a6, b6⟩ := take_n ht b5 (q := 10) (q' := 6) (by omega) (by omega) (by omega) hw hs
  obtain ⟨x11_, a11, b11⟩ := take_n ht b6 (q := 10) (q' := 11) (by omega) (by omega) (by omega) hw hs
  obtain ⟨x7_, a7, b7⟩ := take_n ht b11 (q := 10) (q' := 7) (by omega) (by omega) (by omega) hw hs
  obtain ⟨x8_, a8, b8⟩ := take_n ht b7 (q := 10) (q' := 8) (by omega) (by omega) (by omega) hw hs
  obtain ⟨x9_, a9, b9⟩ := take_n ht b8 (q := 10) (q' := 9) (by omega) (by omega) (by omega) hw hs
  obtain ⟨xq, aq, bq⟩ := take_y ht b9 (q := 10) (by omega) hw hs
  obtain ⟨r0, f0, g0⟩ := room_x bq (b := p) (c := 19) (M := 40) (by omega) e19 hP (by omega)
  have f0 : D_X10_isRoom (I p) (19 : Int32) (40 : Int32) xq = some (1, r0) := f0
  have g17 : gi r0 3 17 = I n := (g0.2.2 17).trans e17
  have g19 : gi xq 3 19 = I P := (bq.2.2 19).trans e19
  have ev : (240 : Int32) + (6 : Int32) * I P = I (240 + 6 * P) := by rw [show (6 : Int32) = I 6 from rfl, I_mul, show (240 : Int32) = I 240 from rfl, I_add]
  have eh : ((I n - (1 : Int32)).toInt) = (n : Int) - 1 := by
    rw [show (1 : Int32) = I 1 from rfl, I_sub (by omega), I_toInt (by omega)]
    omega
  obtain ⟨y0, p0, d0, e0, n0⟩ := into_n ht g0 hn (lo := (0 : Int32)) (hi := I n - 1) (show (0 : Int32).toInt ≤ _ by rw [show (0 : Int32).toInt = 0 by decide]; omega) (by rw [eh]; omega) (c := 240 + 6 * P) (by omega)
  obtain ⟨y1, p1, d1, e1, n1⟩ := into_n ht e0 n0 (lo := (0 : Int32)) (hi := (999 : Int32)) (show (0 : Int32).toInt ≤ _ by rw [show (0 : Int32).toInt = 0 by decide]; omega) (show (X : Int) ≤ (999 : Int32).toInt by rw [show (999 : Int32).toInt = 999 by decide]; omega) (c := 241 + 6 * P) (by omega)
  obtain ⟨y2, p2, d2, e2, n2⟩ := into_n ht e1 n1 (lo := (0 : Int32)) (hi := (999 : Int32)) (show (0 : Int32).toInt ≤ _ by rw [show (0 : Int32).toInt = 0 by decide]; omega) (show (Y : Int) ≤ (999 : Int32).toInt by rw [show (999 : Int32).toInt = 999 by decide]; omega) (c := 242 + 6 * P) (by omega)
  have e19' : gi y2 3 19 = I P := (e2.2.2 19).trans ((upd_ne (by omega)).trans ((upd_ne (by omega)).trans ((upd_ne (by omega)).trans e19)))
  refine ⟨si y2 3 19 (I (P + 1)), ?_, nums_0 n2 (e2.s3 19 _)⟩
  have ek : D_X10_readSpot (I p) xq = some (1, si y2 3 19 (I (P + 1))) := by
    unfold D_X10_readSpot
    rw [g19, ev, bnd_s, f0, b2_s, if10, g17, d0, b2_s, if10, show I (240 + 6 * P) + (1 : Int32) = I (241 + 6 * P) by rw [ixs1]; congr 1; omega, d1, b2_s, if10, show I (240 + 6 * P) + (2 : Int32) = I (242 + 6 * P) by rw [ixs2]; congr 1; omega, d2, b2_s, if10, e19', show I P + (1 : Int32) = I (P + 1) from ixs1 P, bnd_s]
  unfold D_X10_readStatement
  rw [a0, b2_s, bnd_s, c0, a1, b2_s, if00, a2, b2_s, if00, a3, b2_s, if00, a4, b2_s, if00, a5, b2_s, if00, a6, b2_s, if00, a11, b2_s, if00, a7, b2_s, if00, a8, b2_s, if00, a9, b2_s, if00, aq, b2_s, if10, ek, b2_s, if_pos (Or.inr rfl)]
