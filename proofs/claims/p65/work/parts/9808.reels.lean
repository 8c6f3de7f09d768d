/-! PROPERTY: reels that come and go -/
/-- the parts of a feeder, with a reel more or less -/
theorem fsum_reel {nk : Nat} {w w' : Nat → Int32} {f n : Nat} (hn : n < 3) (h4 : Fb w f 4 = I n) (h4' : Fb w' f 4 = I (n + 1)) (e2 : Fb w' f 2 = Fb w f 2) (o : ∀ j : Nat, j < n → Fb w' f (8 + j) = Fb w f (8 + j)) : fsum w' f = fsum w f + (Fb w' f (8 + n)).toNatClampNeg := by
  rw [fsum0 h4 (by omega), fsum0 h4' (by omega)]
  have : ∀ k : Nat, k ≤ n → rS w' f k = rS w f k := by
    intro k
    induction k with
    | zero =>
      intro _
      show (Fb w' f 2).toNatClampNeg = (Fb w f 2).toNatClampNeg
      rw [e2]
    | succ k ih =>
      intro hk
      show rS w' f k + (Fb w' f (8 + k)).toNatClampNeg = rS w f k + (Fb w f (8 + k)).toNatClampNeg
      rw [ih (by omega), o k (by omega)]
  show rS w' f n + (Fb w' f (8 + n)).toNatClampNeg = _
  rw [this n (Nat.le_refl n)]
theorem p_takeReel {N : Nat → Nat} {m : MM} {w : Nat → Int32} (hR : R m w) (hI : Inv N 0 w) (x : MM) {f : Nat} (hf : f < nF w) : ∃ (v : Int32) (y : MM), D_X10_takeReel (I f) (pw x w) = some (v, y) ∧ Inv N 0 (rw1 y) := by
  obtain ⟨v1, v2, v3, v4, v5, v6, v7, v8⟩ := hR.r0.vc
  have hv := hR.v
  have hb := hR.r0.bd
  have hd := hv.fd f hf
  obtain ⟨⟨K, hK, eK⟩, ⟨p, hp, ep⟩, ⟨n, hn, e4, hr⟩, d5, d6⟩ := hd
  have eK : w (130 + 11 * f) = I K := eK
  have e4 : w (130 + 11 * f + 4) = I n := e4
  unfold D_X10_takeReel
  rw [nfdP_y hv v4 (ok_I (by omega) hf), b2_s, if00, oFd4P (by omega), b1_s, e4]
  by_cases c3 : n = 0
  · subst c3
    rw [if_pos (show I 0 = (0 : Int32) by decide)]
    exact ⟨_, _, rfl, by rw [rw1_pw]; exact hI⟩
  · obtain ⟨n, rfl⟩ : ∃ n' : Nat, n = n' + 1 := ⟨n - 1, by omega⟩
    have ne0 : ¬ I (n + 1) = (0 : Int32) := fun z => c3 ((I_ne0 (by omega)).mp z)
    have esub : I (n + 1) - (1 : Int32) = I n := by
      rw [show (1 : Int32) = I 1 from rfl, I_sub (by omega)]
      rfl
    have e8 : ((8 : Int32) + I (n + 1)) - (1 : Int32) = (8 : Int32) + I n := by
      rw [show (8 : Int32) = I 8 from rfl, show (1 : Int32) = I 1 from rfl, I_add, I_add, I_sub (by omega)]
      rfl
    obtain ⟨q, hq, eq⟩ := hr n (by omega)
    have eq : w (130 + 11 * f + (8 + n)) = I q := eq
    have lo3 : ∀ i : Nat, i ≠ 130 + 11 * f + 4 → i ≠ 138 + 11 * f + n → i ≠ 90 + 5 * K + 4 → upd (upd (upd w (138 + 11 * f + n) 0) (130 + 11 * f + 4) (I n)) (90 + 5 * K + 4) (w (90 + 5 * K + 4) + w (138 + 11 * f + n)) i = w i := fun i h1 h2 h3 => wr_lo h3 (wr_lo h1 (upd_ne h2))
    refine ⟨w (138 + 11 * f + n), pw (th x 0) (upd (upd (upd w (138 + 11 * f + n) 0) (130 + 11 * f + 4) (I n)) (90 + 5 * K + 4) (w (90 + 5 * K + 4) + w (138 + 11 * f + n))), ?_, ?_⟩
    · rw [if_neg ne0, e8, oReP (by omega) (by omega), b1_s, poReP (by omega) (by omega), b1_s, esub, poFd4P (by omega), b1_s, oFd0P (by omega), b1_s, upd_ne (show 130 + 11 * f ≠ 130 + 11 * f + 4 by omega), upd_ne (show 130 + 11 * f ≠ 138 + 11 * f + n by omega), eK, bks4P (by omega), b1_s, upd_ne (show 90 + 5 * K + 4 ≠ 130 + 11 * f + 4 by omega), upd_ne (show 90 + 5 * K + 4 ≠ 138 + 11 * f + n by omega)]
    · rw [rw1_pw]
      have w4 : upd (upd (upd w (138 + 11 * f + n) 0) (130 + 11 * f + 4) (I n)) (90 + 5 * K + 4) (w (90 + 5 * K + 4) + w (138 + 11 * f + n)) (130 + 11 * f + 4) = I n := by rw [upd_ne (by omega), upd_eq]
      have wb : upd (upd (upd w (138 + 11 * f + n) 0) (130 + 11 * f + 4) (I n)) (90 + 5 * K + 4) (w (90 + 5 * K + 4) + w (138 + 11 * f + n)) (90 + 5 * K + 4) = w (90 + 5 * K + 4) + I q := by rw [upd_eq, show 138 + 11 * f + n = 130 + 11 * f + (8 + n) by omega, eq]
      generalize upd (upd (upd w (138 + 11 * f + n) 0) (130 + 11 * f + 4) (I n)) (90 + 5 * K + 4) (w (90 + 5 * K + 4) + w (138 + 11 * f + n)) = w' at lo3 w4 wb ⊢
      have fs := fsum_reel (nk := nK w) (w := w') (w' := w) (f := f) (n := n) (by omega) w4 e4 (lo3 _ (by omega) (by omega) (by omega)).symm (fun j hj => (lo3 _ (by omega) (by omega) (by omega)).symm)
      rw [show (Fb w f (8 + n)).toNatClampNeg = q from tncI eq (by omega)] at fs
      exact inv_reel hI hb hf hK eK ((lo3 _ (by omega) (by omega) (by omega)).trans eK) (p := q) (Or.inr ⟨fs.symm, lo3 _ (by omega) (by omega) (by omega), wb⟩) (fun i h1 h2 h3 h4 => lo3 i (by omega) (by omega) h3)
theorem p_splice {N : Nat → Nat} {m : MM} {w : Nat → Int32} (hR : R m w) (hI : Inv N 0 w) (x : MM) {f q : Nat} (hf : f < nF w) (hq : q ≤ 500) : ∃ (v : Int32) (y : MM), D_X10_splice (I f) (I q) (pw x w) = some (v, y) ∧ Inv N 0 (rw1 y) := by
  obtain ⟨v1, v2, v3, v4, v5, v6, v7, v8⟩ := hR.r0.vc
  have hv := hR.v
  have hb := hR.r0.bd
  have hd := hv.fd f hf
  obtain ⟨⟨K, hK, eK⟩, ⟨p, hp, ep⟩, ⟨n, hn, e4, hr⟩, d5, d6⟩ := hd
  have eK : w (130 + 11 * f) = I K := eK
  have e4 : w (130 + 11 * f + 4) = I n := e4
  unfold D_X10_splice D_X10_splice_26
  rw [nfdP_y hv v4 (ok_I (by omega) hf), b2_s, if00, in_ok (n := 501) (by decide), b1_s, if_pos (ok_I (by omega) (by omega)), if10, tif0P, b2_s, if00, oFd4P (by omega), b1_s, e4]
  by_cases c3 : n = 3
  · subst c3
    rw [if_pos (show I 3 = (3 : Int32) by decide)]
    exact ⟨_, _, rfl, by rw [rw1_pw]; exact hI⟩
  · have n3 : ¬ I n = (3 : Int32) := fun z => c3 ((I_inj (b := 3) (by omega) (by decide)).mp z)
    have lo3 : ∀ i : Nat, i ≠ 130 + 11 * f + 4 → i ≠ 138 + 11 * f + n → i ≠ 90 + 5 * K → upd (upd (upd w (138 + 11 * f + n) (I q)) (130 + 11 * f + 4) (I (n + 1))) (90 + 5 * K) (w (90 + 5 * K) + I q) i = w i := fun i h1 h2 h3 => wr_lo h3 (wr_lo h1 (upd_ne h2))
    have w4 : upd (upd (upd w (138 + 11 * f + n) (I q)) (130 + 11 * f + 4) (I (n + 1))) (90 + 5 * K) (w (90 + 5 * K) + I q) (130 + 11 * f + 4) = I (n + 1) := by rw [upd_ne (by omega), upd_eq]
    have w8 : upd (upd (upd w (138 + 11 * f + n) (I q)) (130 + 11 * f + 4) (I (n + 1))) (90 + 5 * K) (w (90 + 5 * K) + I q) (130 + 11 * f + (8 + n)) = I q := by rw [upd_ne (by omega), upd_ne (by omega), upd_is (by omega)]
    have wb : upd (upd (upd w (138 + 11 * f + n) (I q)) (130 + 11 * f + 4) (I (n + 1))) (90 + 5 * K) (w (90 + 5 * K) + I q) (90 + 5 * K) = w (90 + 5 * K) + I q := upd_eq _ _ _
    have hd3 : FdOk (nK w) (Fb (upd (upd (upd w (138 + 11 * f + n) (I q)) (130 + 11 * f + 4) (I (n + 1))) (90 + 5 * K) (w (90 + 5 * K) + I q)) f) := by
      refine ⟨⟨K, hK, ?_⟩, ⟨p, hp, ?_⟩, ⟨n + 1, by omega, w4, fun j hj => ?_⟩, ?_, ?_⟩
      · exact (lo3 _ (by omega) (by omega) (by omega)).trans eK
      · exact (lo3 _ (by omega) (by omega) (by omega)).trans ep
      · by_cases e : j = n
        · subst e
          exact ⟨q, hq, w8⟩
        · obtain ⟨q, hq, eq⟩ := hr j (by omega)
          exact ⟨q, hq, (lo3 _ (by omega) (by omega) (by omega)).trans eq⟩
      · rw [show Fb (upd (upd (upd w (138 + 11 * f + n) (I q)) (130 + 11 * f + 4) (I (n + 1))) (90 + 5 * K) (w (90 + 5 * K) + I q)) f 7 = Fb w f 7 from lo3 _ (by omega) (by omega) (by omega)]
        exact d5
      · rw [show Fb (upd (upd (upd w (138 + 11 * f + n) (I q)) (130 + 11 * f + 4) (I (n + 1))) (90 + 5 * K) (w (90 + 5 * K) + I q)) f 1 = Fb w f 1 from lo3 _ (by omega) (by omega) (by omega)]
        exact d6
    obtain ⟨w', s1, s2, s3, s4, s5, -⟩ := spx_s (th x 0) (by omega) hd3
    have fs := fsum_reel (nk := nK w) (w := w) (w' := upd (upd (upd w (138 + 11 * f + n) (I q)) (130 + 11 * f + 4) (I (n + 1))) (90 + 5 * K) (w (90 + 5 * K) + I q)) (f := f) (n := n) (by omega) e4 w4 (lo3 _ (by omega) (by omega) (by omega)) (fun j hj => lo3 _ (by omega) (by omega) (by omega))
    rw [show (Fb (upd (upd (upd w (138 + 11 * f + n) (I q)) (130 + 11 * f + 4) (I (n + 1))) (90 + 5 * K) (w (90 + 5 * K) + I q)) f (8 + n)).toNatClampNeg = q from tncI w8 (by omega)] at fs
    refine ⟨w' (130 + 11 * f + 4), pw (th x 0) w', ?_, ?_⟩
    · rw [if_neg n3, b1_s, poReP (by omega) (by omega), b1_s, oFd4P (by omega), b1_s, upd_ne (show 130 + 11 * f + 4 ≠ 138 + 11 * f + n by omega), e4, ixs1, poFd4P (by omega), b1_s, oFd0P (by omega), b1_s, upd_ne (show 130 + 11 * f ≠ 130 + 11 * f + 4 by omega), upd_ne (show 130 + 11 * f ≠ 138 + 11 * f + n by omega), eK, bks0P (by omega), b1_s, upd_ne (show 90 + 5 * K ≠ 130 + 11 * f + 4 by omega), upd_ne (show 90 + 5 * K ≠ 138 + 11 * f + n by omega), s1, b1_s, oFd4P (by omega), b1_s]
    · rw [rw1_pw]
      exact inv_reel hI hb hf hK eK (Eq.trans s4 ((lo3 _ (by omega) (by omega) (by omega)).trans eK)) (p := q) (Or.inl ⟨by rw [s3]; exact fs, (s5 _ (by omega) (by omega)).trans wb, (s5 _ (by omega) (by omega)).trans (lo3 _ (by omega) (by omega) (by omega))⟩) (fun i h1 h2 h3 h4 => (s5 i h1 h4).trans (lo3 i (by omega) (by omega) h2))
