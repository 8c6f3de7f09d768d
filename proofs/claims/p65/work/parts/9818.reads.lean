/-! PROPERTY: a text that is in order, read by the reference: numbers and words -/
/-- reading at p, no error, the row so far is w -/
def Xs (L : Nat) (T : Nat → Nat) (p : Nat) (w : Nat → Int32) (x : MM) : Prop := Xd L T x p ∧ gi x 0 12 = 0 ∧ ∀ i : Nat, gi x 3 i = w i
def NumAt (T : Nat → Nat) (p v : Nat) : Prop := T p = 32 ∧ ∀ i : Nat, i < sb_dg v → T (p + 1 + i) = sb_dec v i
def Stop (T : Nat → Nat) (L q : Nat) : Prop := q ≤ L ∧ (q < L → T q = 32 ∨ T q = 59)
theorem num_x {L : Nat} {T : Nat → Nat} (ht : Tok L T) {x : MM} {w : Nat → Int32} {p v : Nat} (hx : Xs L T p w x) (hv : v < 1000000) (hn : NumAt T p v) (hs : Stop T L (p + 1 + sb_dg v)) {lo hi : Int32} (h1 : lo.toInt ≤ (v : Int)) (h2 : (v : Int) ≤ hi.toInt) : ∃ x' : MM, D_X10_reads lo hi x = some (1, x') ∧ Xs L T (p + 1 + sb_dg v) w x' ∧ gi x' 0 14 = I v := by
  obtain ⟨hd, e12, e3⟩ := hx
  obtain ⟨n0, n1⟩ := hn
  have hg := sb_dg_in v
  have hL := ht.1
  have hs1 := hs.1
  have d0 : T (p + 1) = sb_dec v 0 := n1 0 (by omega)
  have dd : 48 ≤ T (p + 1) ∧ T (p + 1) ≤ 57 := by
    rw [d0]
    unfold sb_dec
    have := Nat.mod_lt (v / 10 ^ (sb_dg v - 1 - 0)) (show 0 < 10 by decide)
    omega
  have es : nx sP T L p = p + 1 := sp_one n0 (by omega) (by omega)
  obtain ⟨x1, a1, a2, a3, a4⟩ := see_s ht hd
  rw [es] at a1 a3 a4
  obtain ⟨r1, r2⟩ := num_run (cap := 100000000) hv (by decide) n1 hs1 (fun hq => by
    have := hs.2 hq
    show ¬ decide (48 ≤ T (p + 1 + sb_dg v) ∧ T (p + 1 + sb_dg v) ≤ 57) = true
    rw [decide_eq_true_eq]
    omega)
  obtain ⟨x2, c1, c2, c3⟩ := rd_l ht lo hi (L - (p + 1)) (p + 1) FU 0 x1 (by omega) (by show L - (p + 1) < 5000; omega) (by omega) a3
  have c1 : D_X10_reads_24 FU lo hi (0 : Int64) x1 = _ := c1
  have r1' : Sc dP T L (L - (p + 1)) (p + 1) = p + 1 + sb_dg v := r1
  rw [r1'] at c3
  rw [r2, if_pos ⟨h1, h2⟩] at c1
  refine ⟨si x2 0 14 (I v), ?_, ⟨c3.fr (by rw [gi_si_ne (by omega)]; exact c3.2.2.1) hs1 (gi_si_ne (by omega)) (fun k => gi_si_ne (by omega)), ?_, fun i => ?_⟩, gi_si_eq _ _ _ _⟩
  · unfold D_X10_reads
    rw [a1, b2_s, a3.2.2.1, isd_x ht a3.2.1 a3.2.2.2 (by omega), if_pos ⟨by omega, decide_eq_true dd⟩, b1_s, if10]
    exact c1
  · rw [gi_si_ne (by omega), c2 0 12 (by omega), a2 0 12 (by omega)]
    exact e12
  · rw [gi_si_ne (by omega), c2 3 i (by omega), a2 3 i (by omega)]
    exact e3 i
theorem into_x {L : Nat} {T : Nat → Nat} (ht : Tok L T) {x : MM} {w : Nat → Int32} {p v : Nat} (hx : Xs L T p w x) (hv : v < 1000000) (hn : NumAt T p v) (hs : Stop T L (p + 1 + sb_dg v)) {lo hi : Int32} (h1 : lo.toInt ≤ (v : Int)) (h2 : (v : Int) ≤ hi.toInt) {c : Nat} (hc : c < 640) : ∃ x' : MM, D_X10_readsInto (I c) lo hi x = some (1, x') ∧ Xs L T (p + 1 + sb_dg v) (upd w c (I v)) x' := by
  obtain ⟨x1, a1, ⟨a2, a3, a4⟩, a5⟩ := num_x ht hx hv hn hs h1 h2
  refine ⟨si x1 3 c (I v), ?_, a2.fr (by rw [gi_si_ne (by omega)]; exact a2.2.2.1) hs.1 (gi_si_ne (by omega)) (fun k => gi_si_ne (by omega)), by rw [gi_si_ne (by omega)]; exact a3, fun i => ?_⟩
  · unfold D_X10_readsInto
    rw [a1, b2_s, if10, gdI (by omega) (by omega), I_tnc (by omega), a5, bnd_s]
  · by_cases z : i = c
    · subst z
      rw [gi_si_eq, upd_eq]
    · rw [gi_si_ne (by omega), upd_ne z]
      exact a4 i
/-- a word stands at p -/
def WordAt (T : Nat → Nat) (p q : Nat) : Prop := ∀ i : Nat, i < strL q → T (p + i) = wn q i
theorem wordat_ {L : Nat} {T : Nat → Nat} {p q : Nat} (hq : q < 12) (h : WordAt T p q) (hs : Stop T L (p + strL q)) : nx sP T L p = p ∧ nx lP T L p = p + strL q ∧ mt T q p (nx lP T L p) := by
  have hl := w_len q hq
  obtain ⟨-, a, b⟩ := w_chr q hq 0 (by omega) (by omega)
  have h0 : T p = wn q 0 := h 0 (by omega)
  refine ⟨sp_none (fun _ => by omega), word_run hq h hs.1 (fun hp => ?_)⟩
  have := hs.2 hp
  show ¬ decide (97 ≤ T (p + strL q) ∧ T (p + strL q) ≤ 122) = true
  rw [decide_eq_true_eq]
  omega
theorem take_y {L : Nat} {T : Nat → Nat} (ht : Tok L T) {x : MM} {w : Nat → Int32} {p q : Nat} (hx : Xs L T p w x) (hq : q < 12) (h : WordAt T p q) (hs : Stop T L (p + strL q)) : ∃ x' : MM, D_X10_takes q x = some (1, x') ∧ Xs L T (p + strL q) w x' := by
  obtain ⟨s1, s2, s3⟩ := wordat_ hq h hs
  obtain ⟨x', a1, a2, a3 | a3⟩ := tk_s ht hx.1 hq
  · rw [s1, s2] at a3
    exact ⟨x', a3.2.1, a3.2.2, by rw [a1 0 12 (by omega)]; exact hx.2.1, fun i => by rw [a1 3 i (by omega)]; exact hx.2.2 i⟩
  · rw [s1] at a3
    exact absurd s3 a3.1
theorem take_n {L : Nat} {T : Nat → Nat} (ht : Tok L T) {x : MM} {w : Nat → Int32} {p q q' : Nat} (hx : Xs L T p w x) (hq : q < 12) (hq' : q' < 12) (ne : q' ≠ q) (h : WordAt T p q) (hs : Stop T L (p + strL q)) : ∃ x' : MM, D_X10_takes q' x = some (0, x') ∧ Xs L T p w x' := by
  obtain ⟨s1, s2, s3⟩ := wordat_ hq h hs
  obtain ⟨x', a1, a2, a3 | a3⟩ := tk_s ht hx.1 hq'
  · rw [s1] at a3
    exact absurd (mt_un hq' hq a3.1 s3) ne
  · rw [s1] at a3
    exact ⟨x', a3.2.1, a3.2.2, by rw [a1 0 12 (by omega)]; exact hx.2.1, fun i => by rw [a1 3 i (by omega)]; exact hx.2.2 i⟩
/-- looking at what comes, where no space stands -/
theorem see_x {L : Nat} {T : Nat → Nat} (ht : Tok L T) {x : MM} {w : Nat → Int32} {p : Nat} (hx : Xs L T p w x) (h : p < L → T p ≠ 32) : ∃ x' : MM, D_X10_see x = some (if p < L then I (T p) else -1, x') ∧ Xs L T p w x' ∧ gi x' 0 10 = I p := by
  have es : nx sP T L p = p := sp_none h
  obtain ⟨x1, a1, a2, a3, a4⟩ := see_s ht hx.1
  rw [es] at a1 a3 a4
  exact ⟨x1, a1, ⟨a3, by rw [a2 0 12 (by omega)]; exact hx.2.1, fun i => by rw [a2 3 i (by omega)]; exact hx.2.2 i⟩, a4⟩
theorem room_x {L : Nat} {T : Nat → Nat} {x : MM} {w : Nat → Int32} {p : Nat} (hx : Xs L T p w x) {b c M n : Nat} (hc : c < 640) (en : w c = I n) (hn : n < M) (hM : M < 1000) : ∃ x' : MM, D_X10_isRoom (I b) (I c) (I M) x = some (1, x') ∧ Xs L T p w x' := by
  refine ⟨_, room_y hc ((hx.2.2 c).trans en) hn hM, hx.1.fr (by rw [gi_si_ne (by omega)]; exact hx.1.2.2.1) hx.1.1 (gi_si_ne (by omega)) (fun k => gi_si_ne (by omega)), by rw [gi_si_ne (by omega)]; exact hx.2.1, fun i => by rw [gi_si_ne (by omega)]; exact hx.2.2 i⟩
theorem Xs.s3 {L : Nat} {T : Nat → Nat} {x : MM} {w : Nat → Int32} {p : Nat} (hx : Xs L T p w x) (c : Nat) (v : Int32) : Xs L T p (upd w c v) (si x 3 c v) := by
  refine ⟨hx.1.fr (by rw [gi_si_ne (by omega)]; exact hx.1.2.2.1) hx.1.1 (gi_si_ne (by omega)) (fun k => gi_si_ne (by omega)), by rw [gi_si_ne (by omega)]; exact hx.2.1, fun i => ?_⟩
  by_cases z : i = c
  · subst z
    rw [gi_si_eq, upd_eq]
  · rw [gi_si_ne (by omega), upd_ne z]
    exact hx.2.2 i
