/-! PROPERTY: a text that is in order, read by the reference: feeders, nozzles, the machine, all statements -/
theorem st_feeder {L : Nat} {T : Nat → Nat} (ht : Tok L T) {x : MM} {w : Nat → Int32} {p q : Nat} (hx : Xs L T p w x) (hw : WordAt T p 9) (hs : Stop T L (p + strL 9)) {F n K X P M : Nat} (hn : Nums T L [K, X, P, M] (p + strL 9) q) (e18 : w 18 = I F) (hF : F < 10) (e17 : w 17 = I n) (hK : K < n) (hn8 : n ≤ 8) (hX : X ≤ 999) (hP : P ≤ 500) (hM : M ≤ 100) : ∃ x' : MM, D_X10_readStatement x = some (1, x') ∧ Xs L T q (fdW w F K (I X) (I P) (I M)) x' := by
  obtain ⟨x0, a0, b0, c0⟩ := see_x ht hx (word_ne (by omega) hw)
  obtain ⟨x1_, a1, b1⟩ := take_n ht b0 (q := 9) (q' := 1) (by omega) (by omega) (by omega) hw hs
  obtain ⟨x2_, a2, b2⟩ := take_n ht b1 (q := 9) (q' := 2) (by omega) (by omega) (by omega) hw hs
  obtain ⟨x3_, a3, b3⟩ := take_n ht b2 (q := 9) (q' := 3) (by omega) (by omega) (by omega) hw hs
  obtain ⟨x4_, a4, b4⟩ := take_n ht b3 (q := 9) (q' := 4) (by omega) (by omega) (by omega) hw hs
  obtain ⟨x5_, a5, b5⟩ := take_n ht b4 (q := 9) (q' := 5) (by omega) (by omega) (by omega) hw hs
  obtain ⟨x6_, a6, b6⟩ := take_n ht b5 (q := 9) (q' := 6) (by omega) (by omega) (by omega) hw hs
  obtain ⟨x11_, a11, b11⟩ := take_n ht b6 (q := 9) (q' := 11) (by omega) (by omega) (by omega) hw hs
  obtain ⟨x7_, a7, b7⟩ := take_n ht b11 (q := 9) (q' := 7) (by omega) (by omega) (by omega) hw hs
  obtain ⟨x8_, a8, b8⟩ := take_n ht b7 (q := 9) (q' := 8) (by omega) (by omega) (by omega) hw hs
  obtain ⟨xq, aq, bq⟩ := take_y ht b8 (q := 9) (by omega) hw hs
  obtain ⟨r0, f0, g0⟩ := room_x bq (b := p) (c := 18) (M := 10) (by omega) e18 hF (by omega)
  have f0 : D_X10_isRoom (I p) (18 : Int32) (10 : Int32) xq = some (1, r0) := f0
  have g17 : gi r0 3 17 = I n := (g0.2.2 17).trans e17
  have g18 : gi xq 3 18 = I F := (bq.2.2 18).trans e18
  have ev : (130 : Int32) + (11 : Int32) * I F = I (130 + 11 * F) := by rw [show (11 : Int32) = I 11 from rfl, I_mul, show (130 : Int32) = I 130 from rfl, I_add]
  have eh : ((I n - (1 : Int32)).toInt) = (n : Int) - 1 := by
    rw [show (1 : Int32) = I 1 from rfl, I_sub (by omega), I_toInt (by omega)]
    omega
  obtain ⟨y0, p0, d0, e0, n0⟩ := into_n ht g0 hn (lo := (0 : Int32)) (hi := I n - 1) (show (0 : Int32).toInt ≤ _ by rw [show (0 : Int32).toInt = 0 by decide]; omega) (by rw [eh]; omega) (c := 130 + 11 * F) (by omega)
  obtain ⟨y1, p1, d1, e1, n1⟩ := into_n ht e0 n0 (lo := (0 : Int32)) (hi := (999 : Int32)) (show (0 : Int32).toInt ≤ _ by rw [show (0 : Int32).toInt = 0 by decide]; omega) (show (X : Int) ≤ (999 : Int32).toInt by rw [show (999 : Int32).toInt = 999 by decide]; omega) (c := 131 + 11 * F) (by omega)
  obtain ⟨y2, p2, d2, e2, n2⟩ := into_n ht e1 n1 (lo := (0 : Int32)) (hi := (500 : Int32)) (show (0 : Int32).toInt ≤ _ by rw [show (0 : Int32).toInt = 0 by decide]; omega) (show (P : Int) ≤ (500 : Int32).toInt by rw [show (500 : Int32).toInt = 500 by decide]; omega) (c := 132 + 11 * F) (by omega)
  obtain ⟨y3, p3, d3, e3, n3⟩ := into_n ht e2 n2 (lo := (0 : Int32)) (hi := (100 : Int32)) (show (0 : Int32).toInt ≤ _ by rw [show (0 : Int32).toInt = 0 by decide]; omega) (show (M : Int) ≤ (100 : Int32).toInt by rw [show (100 : Int32).toInt = 100 by decide]; omega) (c := 133 + 11 * F) (by omega)
  have k0 : gi y3 3 (130 + 11 * F) = I K := (e3.2.2 _).trans (by rw [upd_ne (by omega), upd_ne (by omega), upd_ne (by omega), upd_eq])
  have k2 : gi y3 3 (132 + 11 * F) = I P := (e3.2.2 _).trans (by rw [upd_ne (by omega), upd_eq])
  have kb : gi y3 3 (90 + 5 * K) = w (90 + 5 * K) := (e3.2.2 _).trans (by rw [upd_ne (by omega), upd_ne (by omega), upd_ne (by omega), upd_ne (by omega)])
  have k18 : gi (si y3 3 (90 + 5 * K) (w (90 + 5 * K) + I P)) 3 18 = I F := by
    rw [gi_si_ne (by omega)]
    exact (e3.2.2 _).trans (by rw [upd_ne (by omega), upd_ne (by omega), upd_ne (by omega), upd_ne (by omega)]; exact e18)
  have e90 : ((90 : Int32) + (5 : Int32) * I K) + (0 : Int32) = I (90 + 5 * K) := by rw [Int32.add_zero, show (5 : Int32) = I 5 from rfl, I_mul, show (90 : Int32) = I 90 from rfl, I_add]
  refine ⟨si (si y3 3 (90 + 5 * K) (w (90 + 5 * K) + I P)) 3 18 (I (F + 1)), ?_, nums_0 n3 ((e3.s3 (90 + 5 * K) _).s3 18 _)⟩
  have ek : D_X10_readFeeder (I p) xq = some (1, si (si y3 3 (90 + 5 * K) (w (90 + 5 * K) + I P)) 3 18 (I (F + 1))) := by
    unfold D_X10_readFeeder
    rw [g18, ev, bnd_s, f0, b2_s, if10, g17, Int32.add_zero, d0, b2_s, if10, show I (130 + 11 * F) + (1 : Int32) = I (131 + 11 * F) by rw [ixs1]; congr 1; omega, d1, b2_s, if10, show I (130 + 11 * F) + (2 : Int32) = I (132 + 11 * F) by rw [ixs2]; congr 1; omega, d2, b2_s, if10, show I (130 + 11 * F) + (3 : Int32) = I (133 + 11 * F) by rw [show (3 : Int32) = I 3 from rfl, I_add]; congr 1; omega, d3, b2_s, if10, gdI (by omega) (by omega), I_tnc (by omega), k0, e90, bnd_s, gdI (by omega) (by omega), gdI (by omega) (by omega), gdI (by omega) (by omega), I_tnc (by omega), I_tnc (by omega), kb, k2, bnd_s, k18, show I F + (1 : Int32) = I (F + 1) from ixs1 F, bnd_s]
  unfold D_X10_readStatement
  rw [a0, b2_s, bnd_s, c0, a1, b2_s, if00, a2, b2_s, if00, a3, b2_s, if00, a4, b2_s, if00, a5, b2_s, if00, a6, b2_s, if00, a11, b2_s, if00, a7, b2_s, if00, a8, b2_s, if00, aq, b2_s, if10, ek, b2_s, if_pos (Or.inr rfl)]
theorem nz_two {L : Nat} {T : Nat → Nat} (ht : Tok L T) {x : MM} {w : Nat → Int32} {p q a b : Nat} (n : Nat) (hx : Xs L T p w x) (hn : Nums T L [a, b] p q) (e16 : w 16 = I 0) (ha : 1 ≤ a ∧ a ≤ 4) (hb : 1 ≤ b ∧ b ≤ 4) (hq : q < L → T q = 59) : ∃ x' : MM, D_X10_readNozzles_2 (n + 3) (1 : Int32) x = some (1, x') ∧ Xs L T q (upd (upd (upd (upd w 44 (I a)) 16 (I 1)) 45 (I b)) 16 (I 2)) x' := by
  obtain ⟨⟨m1, m2, m3⟩, ⟨l1, l2, l3⟩, hq'⟩ := hn
  have hq' : q = p + 1 + sb_dg a + 1 + sb_dg b := hq'
  subst hq'
  have hL := ht.1
  obtain ⟨z1, z2, z3⟩ := dig_at m1 m3
  obtain ⟨z4, z5, z6⟩ := dig_at l1 l3
  obtain ⟨x1, s1, t1⟩ := see_sp ht hx m1.1 z1 (by omega)
  obtain ⟨y1, d1, u1⟩ := into_d ht t1 m2 m1.2 m3 (lo := (1 : Int32)) (hi := (4 : Int32)) (show (1 : Int32).toInt ≤ _ by rw [show (1 : Int32).toInt = 1 by decide]; omega) (show (a : Int) ≤ (4 : Int32).toInt by rw [show (4 : Int32).toInt = 4 by decide]; omega) (c := 44) (by omega)
  have d1 : D_X10_readsInto (44 : Int32) (1 : Int32) (4 : Int32) x1 = some (1, y1) := d1
  have v1 := u1.s3 16 (I 1)
  obtain ⟨x2, s2, t2⟩ := see_sp ht v1 l1.1 z4 (by omega)
  obtain ⟨x3, s3, t3, -⟩ := see_x ht t2 (fun _ => by omega)
  obtain ⟨y2, d2, u2⟩ := into_d ht t3 l2 l1.2 l3 (lo := (1 : Int32)) (hi := (4 : Int32)) (show (1 : Int32).toInt ≤ _ by rw [show (1 : Int32).toInt = 1 by decide]; omega) (show (b : Int) ≤ (4 : Int32).toInt by rw [show (4 : Int32).toInt = 4 by decide]; omega) (c := 45) (by omega)
  have d2 : D_X10_readsInto (45 : Int32) (1 : Int32) (4 : Int32) x3 = some (1, y2) := d2
  have v2 := u2.s3 16 (I 2)
  obtain ⟨x4, s4, t4, -⟩ := see_x ht v2 (fun h => by rw [hq h]; decide)
  refine ⟨x4, ?_, t4⟩
  have g1 : gi x1 3 16 = (0 : Int32) := (t1.2.2 16).trans e16
  have g1' : gi y1 3 16 = (0 : Int32) := (u1.2.2 16).trans ((upd_ne (by omega)).trans e16)
  have g3 : gi x3 3 16 = (1 : Int32) := (t3.2.2 16).trans (upd_eq _ _ _)
  have g3' : gi y2 3 16 = (1 : Int32) := (u2.2.2 16).trans ((upd_ne (by omega)).trans (upd_eq _ _ _))
  have i2 : D_X10_isDigit (gi x2 0 9) x2 = some 1 := by
    rw [t2.1.2.2.1, isd_x ht t2.1.2.1 t2.1.2.2.2 (by omega), if_pos ⟨by omega, decide_eq_true ⟨z5, z6⟩⟩]
  have i4 : D_X10_isDigit (gi x4 0 9) x4 = some 0 := by
    rw [t4.1.2.2.1, isd_x ht t4.1.2.1 t4.1.2.2.2 (by have := l3.1; omega), if_neg (fun z => by
      have h59 := hq z.1
      have : 48 ≤ T (p + 1 + sb_dg a + 1 + sb_dg b) ∧ T (p + 1 + sb_dg a + 1 + sb_dg b) ≤ 57 := of_decide_eq_true z.2
      omega)]
  have w0 : D_X10_readNozzles_2 (n + 1) (0 : Int32) x4 = some (1, x4) := by
    unfold D_X10_readNozzles_2
    rw [if_pos rfl]
  have w1 : D_X10_readNozzles_2 (n + 2) (1 : Int32) x2 = some (1, x4) := by
    unfold D_X10_readNozzles_2
    rw [if10, s3, b2_s, g3, if_neg (show ¬ (1 : Int32) = 6 by decide)]
    unfold D_X10_readNozzles_40
    rw [g3, show (44 : Int32) + 1 = 45 by decide, d2, b2_s, if10, g3', show (1 : Int32) + 1 = I 2 by decide, bnd_s, s4, b2_s, i4, b1_s]
    exact w0
  unfold D_X10_readNozzles_2
  rw [if10, s1, b2_s, g1, if_neg (show ¬ (0 : Int32) = 6 by decide)]
  unfold D_X10_readNozzles_40
  rw [g1, show (44 : Int32) + 0 = 44 by decide, d1, b2_s, if10, g1', show (0 : Int32) + 1 = I 1 by decide, bnd_s, s2, b2_s, i2, b1_s]
  exact w1
theorem st_nozzles {L : Nat} {T : Nat → Nat} (ht : Tok L T) {x : MM} {w : Nat → Int32} {p q : Nat} (hx : Xs L T p w x) (hw : WordAt T p 7) (hs : Stop T L (p + strL 7)) {a b : Nat} (hn : Nums T L [a, b] (p + strL 7) q) (e16 : w 16 = I 0) (ha : 1 ≤ a ∧ a ≤ 4) (hb : 1 ≤ b ∧ b ≤ 4) (hq : q < L → T q = 59) : ∃ x' : MM, D_X10_readStatement x = some (1, x') ∧ Xs L T q (upd (upd (upd (upd w 44 (I a)) 16 (I 1)) 45 (I b)) 16 (I 2)) x' := by
  obtain ⟨x0, a0, b0, c0⟩ := see_x ht hx (word_ne (by omega) hw)
  obtain ⟨x1_, a1, b1⟩ := take_n ht b0 (q := 7) (q' := 1) (by omega) (by omega) (by omega) hw hs
  obtain ⟨x2_, a2, b2⟩ := take_n ht b1 (q := 7) (q' := 2) (by omega) (by omega) (by omega) hw hs
  obtain ⟨x3_, a3, b3⟩ := take_n ht b2 (q := 7) (q' := 3) (by omega) (by omega) (by omega) hw hs
  obtain ⟨x4_, a4, b4⟩ := take_n ht b3 (q := 7) (q' := 4) (by omega) (by omega) (by omega) hw hs
  obtain ⟨x5_, a5, b5⟩ := take_n ht b4 (q := 7) (q' := 5) (by omega) (by omega) (by omega) hw hs
  obtain ⟨x6_, a6, b6⟩ := take_n ht b5 (q := 7) (q' := 6) (by omega) (by omega) (by omega) hw hs
  obtain ⟨x11_, a11, b11⟩ := take_n ht b6 (q := 7) (q' := 11) (by omega) (by omega) (by omega) hw hs
  obtain ⟨xq, aq, bq⟩ := take_y ht b11 (q := 7) (by omega) hw hs
  obtain ⟨x', ek, ex⟩ := nz_two ht 4997 bq hn e16 ha hb hq
  have ek : D_X10_readNozzles xq = some (1, x') := ek
  refine ⟨x', ?_, ex⟩
  unfold D_X10_readStatement
  rw [a0, b2_s, bnd_s, c0, a1, b2_s, if00, a2, b2_s, if00, a3, b2_s, if00, a4, b2_s, if00, a5, b2_s, if00, a6, b2_s, if00, a11, b2_s, if00, aq, b2_s, if10, ek, b2_s, if_pos (Or.inr rfl)]
/-- a statement behind a semicolon, and what comes behind it -/
theorem all_step {L : Nat} {T : Nat → Nat} (ht : Tok L T) {x : MM} {w w' : Nat → Int32} {p q n : Nat} (hx : Xs L T p w x) (hp : p < L) (h59 : T p = 59) (hst : ∀ y : MM, Xs L T (p + 1) w y → ∃ y' : MM, D_X10_readStatement y = some (1, y') ∧ Xs L T q w' y') : ∃ x' : MM, D_X10_readsAll_39 (n + 1) x = D_X10_readsAll_39 n x' ∧ Xs L T q w' x' := by
  obtain ⟨x0, a0, b0, -⟩ := see_x ht hx (fun _ => by rw [h59]; decide)
  rw [if_pos hp, h59] at a0
  have c0 : Xs L T (p + 1) w (si x0 0 9 (I p + 1)) := ⟨b0.1.fr (by rw [gi_si_eq, ixs1]) (by omega) (gi_si_ne (by omega)) (fun k => gi_si_ne (by omega)), by rw [gi_si_ne (by omega)]; exact b0.2.1, fun i => by rw [gi_si_ne (by omega)]; exact b0.2.2 i⟩
  obtain ⟨y', d0, e0⟩ := hst _ c0
  refine ⟨y', ?_, e0⟩
  rw [D_X10_readsAll_39, a0, b2_s, if_pos (show I 59 = (59 : Int32) by decide), b0.1.2.2.1, bnd_s, d0, b2_s, if10]
theorem all_end {L : Nat} {T : Nat → Nat} (ht : Tok L T) {x : MM} {w : Nat → Int32} {n : Nat} (hx : Xs L T L w x) : ∃ x' : MM, D_X10_readsAll_39 (n + 1) x = some (1, x') ∧ Xs L T L w x' := by
  obtain ⟨x0, a0, b0, -⟩ := see_x ht hx (fun h => absurd h (by omega))
  obtain ⟨x1, a1, b1', -⟩ := see_x ht b0 (fun h => absurd h (by omega))
  rw [if_neg (by omega)] at a0 a1
  refine ⟨x1, ?_, b1'⟩
  rw [D_X10_readsAll_39, a0, b2_s, if_neg (show ¬ (-1 : Int32) = 59 by decide), a1, b2_s, if_pos rfl]
/-- the machine's own statement, and what comes behind it -/
theorem all_begin {L : Nat} {T : Nat → Nat} (ht : Tok L T) {x : MM} {w : Nat → Int32} {q s v : Nat} (hx : Xs L T 0 w x) (hw : WordAt T 0 0) (hs : Stop T L (0 + strL 0)) (hn : Nums T L [s, v] (0 + strL 0) q) (h1 : 1 ≤ s ∧ s ≤ 4) (h2 : 1 ≤ v ∧ v ≤ 50) : ∃ x' : MM, D_X10_readsAll x = D_X10_readsAll_39 FU x' ∧ Xs L T q (upd (upd w 15 (I s)) 0 (I v)) x' := by
  obtain ⟨x0, a0, b0⟩ := take_y ht hx (q := 0) (by omega) hw hs
  obtain ⟨y0, p0, d0, e0, n0⟩ := into_n ht b0 hn (lo := (1 : Int32)) (hi := (4 : Int32)) (show (1 : Int32).toInt ≤ _ by rw [show (1 : Int32).toInt = 1 by decide]; omega) (show (s : Int) ≤ (4 : Int32).toInt by rw [show (4 : Int32).toInt = 4 by decide]; omega) (c := 15) (by omega)
  obtain ⟨y1, p1, d1, e1, n1⟩ := into_n ht e0 n0 (lo := (1 : Int32)) (hi := (50 : Int32)) (show (1 : Int32).toInt ≤ _ by rw [show (1 : Int32).toInt = 1 by decide]; omega) (show (v : Int) ≤ (50 : Int32).toInt by rw [show (50 : Int32).toInt = 50 by decide]; omega) (c := 0) (by omega)
  have d0 : D_X10_readsInto (15 : Int32) (1 : Int32) (4 : Int32) x0 = some (1, y0) := d0
  have d1 : D_X10_readsInto (0 : Int32) (1 : Int32) (50 : Int32) y0 = some (1, y1) := d1
  refine ⟨y1, ?_, nums_0 n1 e1⟩
  unfold D_X10_readsAll
  rw [a0, b2_s, if10, d0, b2_s, if10, d1, b2_s, if10]
