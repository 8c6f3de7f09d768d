/-! PROPERTY: a text that is in order, read by the reference: what is filled before what -/
theorem leads_0 {y : MM} (h20 : gi y 3 20 = 0) : D_X10_leads 3 (4 : Int32) (0 : Int32) y = some 0 := by
  have e : D_X10_leads_7 y (4999 + 1) 3 (0 : Int32) ((1 : Int64) <<< ((4 : Int32).toInt64 &&& 63)) (0 : Int32) = some 0 := by
    rw [D_X10_leads_7, h20, if_pos (by decide), if_neg (by decide)]
  unfold D_X10_leads
  rw [bnd_s]
  exact e
theorem pair_0 {y : MM} (h20 : gi y 3 20 = 0) : D_X10_pairIn 3 (0 : Int32) (4 : Int32) y = some (-1) := by
  have e : D_X10_pairIn_2 y (4999 + 1) 3 (0 : Int32) (4 : Int32) (0 : Int32) = some (-1) := by
    rw [D_X10_pairIn_2, h20, if_pos (by decide)]
  unfold D_X10_pairIn
  exact e
theorem leads_1 {y : MM} (h20 : gi y 3 20 = 1) (h0 : gi y 3 600 = 0) (h1 : gi y 3 601 = 4) : D_X10_leads 3 (2 : Int32) (4 : Int32) y = some 0 := by
  have e2 : D_X10_leads_7 y (4998 + 1) 3 (4 : Int32) ((1 : Int64) <<< ((2 : Int32).toInt64 &&& 63)) (1 : Int32) = some 0 := by
    rw [D_X10_leads_7, h20, if_pos (by decide), if_neg (by decide)]
  have e1 : D_X10_leads_19 y (D_X10_leads_7 y (4998 + 1)) (4999 + 1) 3 (4 : Int32) ((1 : Int64) <<< ((2 : Int32).toInt64 &&& 63)) (0 : Int32) (0 : Int32) = some 0 := by
    rw [D_X10_leads_19, h20, if_neg (by decide), if_neg (by decide), if_neg (by decide), show ((600 : Int32) + ((2 : Int32) * (0 : Int32))).toNatClampNeg = 600 by decide, show (((600 : Int32) + ((2 : Int32) * (0 : Int32))) + (1 : Int32)).toNatClampNeg = 601 by decide, h0, h1, bnd_s, bnd_s]
    rw [show ((((1 : Int64) <<< ((2 : Int32).toInt64 &&& 63)) ||| (((((1 : Int64) <<< ((2 : Int32).toInt64 &&& 63)) >>> ((0 : Int32).toInt64 &&& 63)) &&& (1 : Int64)) <<< ((4 : Int32).toInt64 &&& 63)))) = ((1 : Int64) <<< ((2 : Int32).toInt64 &&& 63)) by decide]
    show D_X10_leads_19 y (D_X10_leads_7 y (4998 + 1)) (4998 + 1) 3 (4 : Int32) ((1 : Int64) <<< ((2 : Int32).toInt64 &&& 63)) (0 : Int32) ((0 : Int32) + 1) = some 0
    rw [D_X10_leads_19, h20, if_pos (by decide), bnd_s]
    exact e2
  have e : D_X10_leads_7 y (4999 + 1) 3 (4 : Int32) ((1 : Int64) <<< ((2 : Int32).toInt64 &&& 63)) (0 : Int32) = some 0 := by
    rw [D_X10_leads_7, h20, if_neg (by decide)]
    exact e1
  unfold D_X10_leads
  rw [bnd_s]
  exact e
theorem pair_1 {y : MM} (h20 : gi y 3 20 = 1) (h0 : gi y 3 600 = 0) : D_X10_pairIn 3 (4 : Int32) (2 : Int32) y = some (-1) := by
  have e : D_X10_pairIn_2 y (4998 + 1 + 1) 3 (4 : Int32) (2 : Int32) (0 : Int32) = some (-1) := by
    rw [D_X10_pairIn_2, h20, if_neg (by decide), if_neg (by decide), show ((600 : Int32) + ((2 : Int32) * (0 : Int32))).toNatClampNeg = 600 by decide, h0, if_neg (by decide), bnd_s, D_X10_pairIn_2, h20, if_pos (by decide)]
  unfold D_X10_pairIn
  exact e
theorem st_before {L : Nat} {T : Nat → Nat} (ht : Tok L T) {x : MM} {w : Nat → Int32} {p q : Nat} (hx : Xs L T p w x) (hw : WordAt T p 11) (hs : Stop T L (p + strL 11)) {m n A B : Nat} (hn : Nums T L [A, B] (p + strL 11) q) (e20 : w 20 = I m) (hm : m < 20) (e19 : w 19 = I n) (hA : A < n) (hB : B < n) (h40 : n ≤ 40) (hl : ∀ y : MM, (∀ k : Nat, gi y 3 k = w k) → D_X10_leads 3 (I B) (I A) y = some 0 ∧ D_X10_pairIn 3 (I A) (I B) y = some (-1)) : ∃ x' : MM, D_X10_readStatement x = some (1, x') ∧ Xs L T q (upd (upd (upd w (600 + 2 * m) (I A)) (600 + 2 * m + 1) (I B)) 20 (I (m + 1))) x' := by
  obtain ⟨x0, a0, b0, c0⟩ := see_x ht hx (word_ne (by omega) hw)
  obtain ⟨x1_, a1, b1⟩ := take_n ht b0 (q := 11) (q' := 1) (by omega) (by omega) (by omega) hw hs
  obtain ⟨x2_, a2, b2⟩ := take_n ht b1 (q := 11) (q' := 2) (by omega) (by omega) (by omega) hw hs
  obtain ⟨x3_, a3, b3⟩ := take_n ht b2 (q := 11) (q' := 3) (by omega) (by omega) (by omega) hw hs
  obtain ⟨x4_, a4, b4⟩ := take_n ht b3 (q := 11) (q' := 4) (by omega) (by omega) (by omega) hw hs
  obtain ⟨x5_, a5, b5⟩ := take_n ht b4 (q := 11) (q' := 5) (by omega) (by omega) (by omega) hw hs
  obtain ⟨x6_, a6, b6⟩ := take_n ht b5 (q := 11) (q' := 6) (by omega) (by omega) (by omega) hw hs
  obtain ⟨xq, aq, bq⟩ := take_y ht b6 (q := 11) (by omega) hw hs
  obtain ⟨r0, f0, g0⟩ := room_x bq (b := p) (c := 20) (M := 20) (by omega) e20 hm (by omega)
  have f0 : D_X10_isRoom (I p) (20 : Int32) (20 : Int32) xq = some (1, r0) := f0
  have eh : ((I n - (1 : Int32)).toInt) = (n : Int) - 1 := by
    rw [show (1 : Int32) = I 1 from rfl, I_sub (by omega), I_toInt (by omega)]
    omega
  obtain ⟨y0, p0, d0, e0, k0, n0⟩ := num_n ht g0 hn (lo := (0 : Int32)) (hi := I n - 1) (show (0 : Int32).toInt ≤ _ by rw [show (0 : Int32).toInt = 0 by decide]; omega) (by rw [eh]; omega)
  obtain ⟨y1, p1, d1, e1, k1, n1⟩ := num_n ht e0 n0 (lo := (0 : Int32)) (hi := I n - 1) (show (0 : Int32).toInt ≤ _ by rw [show (0 : Int32).toInt = 0 by decide]; omega) (by rw [eh]; omega)
  obtain ⟨hl1, hl2⟩ := hl y1 e1.2.2
  have g20 : gi y1 3 20 = I m := (e1.2.2 20).trans e20
  refine ⟨_, ?_, nums_0 n1 (((e1.s3 (600 + 2 * m) (I A)).s3 (600 + 2 * m + 1) (I B)).s3 20 (I (m + 1)))⟩
  have ek : D_X10_readBefore (I p) xq = some (1, si (si (si y1 3 (600 + 2 * m) (I A)) 3 (600 + 2 * m + 1) (I B)) 3 20 (I (m + 1))) := by
    unfold D_X10_readBefore
    rw [f0, b2_s, if10, (g0.2.2 19).trans e19, d0, b2_s, if10, k0, bnd_s, (e0.2.2 19).trans e19, d1, b2_s, if10, k1, hl1, b1_s, if00, hl2, b1_s, if_pos rfl, add_x3 (I A) (I B) g20 hm, b1_s]
  unfold D_X10_readStatement
  rw [a0, b2_s, bnd_s, c0, a1, b2_s, if00, a2, b2_s, if00, a3, b2_s, if00, a4, b2_s, if00, a5, b2_s, if00, a6, b2_s, if00, aq, b2_s, if10, ek, b2_s, if_pos (Or.inr rfl)]
