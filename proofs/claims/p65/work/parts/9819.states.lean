/-! PROPERTY: a text that is in order, read by the reference: statements -/
theorem word_ne {T : Nat → Nat} {p q : Nat} (hq : q < 12) (h : WordAt T p q) {L : Nat} : p < L → T p ≠ 32 := fun _ => by
  have hl := w_len q hq
  obtain ⟨-, a, b⟩ := w_chr q hq 0 (by omega) (by omega)
  have h0 : T p = wn q 0 := h 0 (by omega)
  omega
/-- numbers stand behind each other, from p to q -/
def Nums (T : Nat → Nat) (L : Nat) : List Nat → Nat → Nat → Prop
  | [], p, q => q = p
  | v :: l, p, q => (NumAt T p v ∧ v < 1000000 ∧ Stop T L (p + 1 + sb_dg v)) ∧ Nums T L l (p + 1 + sb_dg v) q
theorem num_n {L : Nat} {T : Nat → Nat} (ht : Tok L T) {x : MM} {w : Nat → Int32} {p q v : Nat} {l : List Nat} (hx : Xs L T p w x) (hn : Nums T L (v :: l) p q) {lo hi : Int32} (h1 : lo.toInt ≤ (v : Int)) (h2 : (v : Int) ≤ hi.toInt) : ∃ (x' : MM) (p' : Nat), D_X10_reads lo hi x = some (1, x') ∧ Xs L T p' w x' ∧ gi x' 0 14 = I v ∧ Nums T L l p' q := by
  obtain ⟨⟨n1, n2, n3⟩, n4⟩ := hn
  obtain ⟨x', e1, e2, e3⟩ := num_x ht hx n2 n1 n3 h1 h2
  exact ⟨x', _, e1, e2, e3, n4⟩
theorem into_n {L : Nat} {T : Nat → Nat} (ht : Tok L T) {x : MM} {w : Nat → Int32} {p q v : Nat} {l : List Nat} (hx : Xs L T p w x) (hn : Nums T L (v :: l) p q) {lo hi : Int32} (h1 : lo.toInt ≤ (v : Int)) (h2 : (v : Int) ≤ hi.toInt) {c : Nat} (hc : c < 640) : ∃ (x' : MM) (p' : Nat), D_X10_readsInto (I c) lo hi x = some (1, x') ∧ Xs L T p' (upd w c (I v)) x' ∧ Nums T L l p' q := by
  obtain ⟨⟨n1, n2, n3⟩, n4⟩ := hn
  obtain ⟨x', e1, e2⟩ := into_x ht hx n2 n1 n3 h1 h2 hc
  exact ⟨x', _, e1, e2, n4⟩
theorem nums_0 {L : Nat} {T : Nat → Nat} {p q : Nat} {w : Nat → Int32} {x : MM} (h : Nums T L [] p q) (hx : Xs L T p w x) : Xs L T q w x := by
  have h : q = p := h
  rw [h]
  exact hx
theorem st_seed {L : Nat} {T : Nat → Nat} (ht : Tok L T) {x : MM} {w : Nat → Int32} {p q : Nat} (hx : Xs L T p w x) (hw : WordAt T p 4) (hs : Stop T L (p + strL 4)) (v : Nat) (hn : Nums T L [v] (p + strL 4) q) (hv : v ≤ 999999) : ∃ x' : MM, D_X10_readStatement x = some (1, x') ∧ Xs L T q (upd w 10 (I v)) x' := by
  obtain ⟨x0, a0, b0, c0⟩ := see_x ht hx (word_ne (by omega) hw)
  obtain ⟨x1_, a1, b1⟩ := take_n ht b0 (q := 4) (q' := 1) (by omega) (by omega) (by omega) hw hs
  obtain ⟨x2_, a2, b2⟩ := take_n ht b1 (q := 4) (q' := 2) (by omega) (by omega) (by omega) hw hs
  obtain ⟨x3_, a3, b3⟩ := take_n ht b2 (q := 4) (q' := 3) (by omega) (by omega) (by omega) hw hs
  obtain ⟨xq, aq, bq⟩ := take_y ht b3 (q := 4) (by omega) hw hs
  obtain ⟨y0, p0, d0, e0, n0⟩ := into_n ht bq hn (lo := (0 : Int32)) (hi := (999999 : Int32)) (show (0 : Int32).toInt ≤ _ by rw [show (0 : Int32).toInt = 0 by decide]; omega) (show (v : Int) ≤ (999999 : Int32).toInt by rw [show (999999 : Int32).toInt = 999999 by decide]; omega) (c := 10) (by omega)
  have d0 : D_X10_readsInto (10 : Int32) (0 : Int32) ((999999 : Int32)) xq = some (1, y0) := d0
  refine ⟨y0, ?_, nums_0 n0 e0⟩
  unfold D_X10_readStatement
  rw [a0, b2_s, bnd_s, c0, a1, b2_s, if00, a2, b2_s, if00, a3, b2_s, if00, aq, b2_s, if10, d0, b2_s, if_pos (Or.inr rfl)]
theorem st_alarm {L : Nat} {T : Nat → Nat} (ht : Tok L T) {x : MM} {w : Nat → Int32} {p q : Nat} (hx : Xs L T p w x) (hw : WordAt T p 5) (hs : Stop T L (p + strL 5)) (v : Nat) (hn : Nums T L [v] (p + strL 5) q) (hv : v ≤ 20) : ∃ x' : MM, D_X10_readStatement x = some (1, x') ∧ Xs L T q (upd w 11 (I v)) x' := by
  obtain ⟨x0, a0, b0, c0⟩ := see_x ht hx (word_ne (by omega) hw)
  obtain ⟨x1_, a1, b1⟩ := take_n ht b0 (q := 5) (q' := 1) (by omega) (by omega) (by omega) hw hs
  obtain ⟨x2_, a2, b2⟩ := take_n ht b1 (q := 5) (q' := 2) (by omega) (by omega) (by omega) hw hs
  obtain ⟨x3_, a3, b3⟩ := take_n ht b2 (q := 5) (q' := 3) (by omega) (by omega) (by omega) hw hs
  obtain ⟨x4_, a4, b4⟩ := take_n ht b3 (q := 5) (q' := 4) (by omega) (by omega) (by omega) hw hs
  obtain ⟨xq, aq, bq⟩ := take_y ht b4 (q := 5) (by omega) hw hs
  obtain ⟨y0, p0, d0, e0, n0⟩ := into_n ht bq hn (lo := (0 : Int32)) (hi := (20 : Int32)) (show (0 : Int32).toInt ≤ _ by rw [show (0 : Int32).toInt = 0 by decide]; omega) (show (v : Int) ≤ (20 : Int32).toInt by rw [show (20 : Int32).toInt = 20 by decide]; omega) (c := 11) (by omega)
  have d0 : D_X10_readsInto (11 : Int32) (0 : Int32) ((20 : Int32)) xq = some (1, y0) := d0
  refine ⟨y0, ?_, nums_0 n0 e0⟩
  unfold D_X10_readStatement
  rw [a0, b2_s, bnd_s, c0, a1, b2_s, if00, a2, b2_s, if00, a3, b2_s, if00, a4, b2_s, if00, aq, b2_s, if10, d0, b2_s, if_pos (Or.inr rfl)]
theorem st_wear {L : Nat} {T : Nat → Nat} (ht : Tok L T) {x : MM} {w : Nat → Int32} {p q : Nat} (hx : Xs L T p w x) (hw : WordAt T p 6) (hs : Stop T L (p + strL 6)) (a : Nat) (b : Nat) (c : Nat) (hn : Nums T L [a, b, c] (p + strL 6) q) (ha : a ≤ 200) (hb : b ≤ 100) (hc : c ≤ 200) : ∃ x' : MM, D_X10_readStatement x = some (1, x') ∧ Xs L T q (upd (upd (upd w 12 (I a)) 13 (I b)) 14 (I c)) x' := by
  obtain ⟨x0, a0, b0, c0⟩ := see_x ht hx (word_ne (by omega) hw)
  obtain ⟨x1_, a1, b1⟩ := take_n ht b0 (q := 6) (q' := 1) (by omega) (by omega) (by omega) hw hs
  obtain ⟨x2_, a2, b2⟩ := take_n ht b1 (q := 6) (q' := 2) (by omega) (by omega) (by omega) hw hs
  obtain ⟨x3_, a3, b3⟩ := take_n ht b2 (q := 6) (q' := 3) (by omega) (by omega) (by omega) hw hs
  obtain ⟨x4_, a4, b4⟩ := take_n ht b3 (q := 6) (q' := 4) (by omega) (by omega) (by omega) hw hs
  obtain ⟨x5_, a5, b5⟩ := take_n ht b4 (q := 6) (q' := 5) (by omega) (by omega) (by omega) hw hs
  obtain ⟨xq, aq, bq⟩ := take_y ht b5 (q := 6) (by omega) hw hs
  obtain ⟨y0, p0, d0, e0, n0⟩ := into_n ht bq hn (lo := (0 : Int32)) (hi := (200 : Int32)) (show (0 : Int32).toInt ≤ _ by rw [show (0 : Int32).toInt = 0 by decide]; omega) (show (a : Int) ≤ (200 : Int32).toInt by rw [show (200 : Int32).toInt = 200 by decide]; omega) (c := 12) (by omega)
  have d0 : D_X10_readsInto (12 : Int32) (0 : Int32) ((200 : Int32)) xq = some (1, y0) := d0
  obtain ⟨y1, p1, d1, e1, n1⟩ := into_n ht e0 n0 (lo := (0 : Int32)) (hi := (100 : Int32)) (show (0 : Int32).toInt ≤ _ by rw [show (0 : Int32).toInt = 0 by decide]; omega) (show (b : Int) ≤ (100 : Int32).toInt by rw [show (100 : Int32).toInt = 100 by decide]; omega) (c := 13) (by omega)
  have d1 : D_X10_readsInto (13 : Int32) (0 : Int32) ((100 : Int32)) y0 = some (1, y1) := d1
  obtain ⟨y2, p2, d2, e2, n2⟩ := into_n ht e1 n1 (lo := (0 : Int32)) (hi := (200 : Int32)) (show (0 : Int32).toInt ≤ _ by rw [show (0 : Int32).toInt = 0 by decide]; omega) (show (c : Int) ≤ (200 : Int32).toInt by rw [show (200 : Int32).toInt = 200 by decide]; omega) (c := 14) (by omega)
  have d2 : D_X10_readsInto (14 : Int32) (0 : Int32) ((200 : Int32)) y1 = some (1, y2) := d2
  refine ⟨y2, ?_, nums_0 n2 e2⟩
  unfold D_X10_readStatement
  rw [a0, b2_s, bnd_s, c0, a1, b2_s, if00, a2, b2_s, if00, a3, b2_s, if00, a4, b2_s, if00, a5, b2_s, if00, aq, b2_s, if10, d0, b2_s, if10, d1, b2_s, if10, d2, b2_s, if10]
theorem st_vision {L : Nat} {T : Nat → Nat} (ht : Tok L T) {x : MM} {w : Nat → Int32} {p q : Nat} (hx : Xs L T p w x) (hw : WordAt T p 2) (hs : Stop T L (p + strL 2)) (a : Nat) (b : Nat) (c : Nat) (hn : Nums T L [a, b, c] (p + strL 2) q) (ha : a ≤ 100) (hb : b ≤ 100 - a) (hc : c ≤ 5) : ∃ x' : MM, D_X10_readStatement x = some (1, x') ∧ Xs L T q (upd (upd (upd w 5 (I a)) 6 (I b)) 7 (I c)) x' := by
  obtain ⟨x0, a0, b0, c0⟩ := see_x ht hx (word_ne (by omega) hw)
  obtain ⟨x1_, a1, b1⟩ := take_n ht b0 (q := 2) (q' := 1) (by omega) (by omega) (by omega) hw hs
  obtain ⟨xq, aq, bq⟩ := take_y ht b1 (q := 2) (by omega) hw hs
  obtain ⟨y0, p0, d0, e0, n0⟩ := into_n ht bq hn (lo := (0 : Int32)) (hi := (100 : Int32)) (show (0 : Int32).toInt ≤ _ by rw [show (0 : Int32).toInt = 0 by decide]; omega) (show (a : Int) ≤ (100 : Int32).toInt by rw [show (100 : Int32).toInt = 100 by decide]; omega) (c := 5) (by omega)
  have d0 : D_X10_readsInto (5 : Int32) (0 : Int32) ((100 : Int32)) xq = some (1, y0) := d0
  obtain ⟨y1, p1, d1, e1, n1⟩ := into_n ht e0 n0 (lo := (0 : Int32)) (hi := ((100 : Int32) - I a)) (show (0 : Int32).toInt ≤ _ by rw [show (0 : Int32).toInt = 0 by decide]; omega) (show (b : Int) ≤ ((100 : Int32) - I a).toInt by rw [show (100 : Int32) = I 100 from rfl, I_sub (by omega), I_toInt (by omega)]; omega) (c := 6) (by omega)
  have d1 : D_X10_readsInto (6 : Int32) (0 : Int32) (((100 : Int32) - I a)) y0 = some (1, y1) := d1
  obtain ⟨y2, p2, d2, e2, n2⟩ := into_n ht e1 n1 (lo := (0 : Int32)) (hi := (5 : Int32)) (show (0 : Int32).toInt ≤ _ by rw [show (0 : Int32).toInt = 0 by decide]; omega) (show (c : Int) ≤ (5 : Int32).toInt by rw [show (5 : Int32).toInt = 5 by decide]; omega) (c := 7) (by omega)
  have d2 : D_X10_readsInto (7 : Int32) (0 : Int32) ((5 : Int32)) y1 = some (1, y2) := d2
  refine ⟨y2, ?_, nums_0 n2 e2⟩
  unfold D_X10_readStatement
  rw [a0, b2_s, bnd_s, c0, a1, b2_s, if00, aq, b2_s, if10, d0, b2_s, if10, show gi y0 3 5 = I a from (e0.2.2 5).trans (upd_eq _ _ _), d1, b2_s, if10, d2, b2_s, if10]
