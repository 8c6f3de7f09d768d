/-! PURE: reels that come, and a pick -/
def s33W (w : Nat → Int32) (f : Nat) : Nat → Int32 := upd (upd (upd (upd (upd w (130 + 11 * f + 8) (w (130 + 11 * f + 9))) (130 + 11 * f + 9) (w (130 + 11 * f + 10))) (130 + 11 * f + 10) 0) (130 + 11 * f + 4) (w (130 + 11 * f + 4) - 1)) (130 + 11 * f + 7) 1
theorem sp33_x (k0 : Int32 → MM → Option MM) (x : MM) {w : Nat → Int32} {f : Nat} (hf : f < 10) (n : Nat) : D_X10_splices_33 k0 (n + 3) (I f) (0 : Int32) (pw x w) = k0 (I f) (pw x (upd (s33W w f) 27 (w 27 + 1))) := by
  have e9 : ((8 : Int32) + (0 : Int32)) + (1 : Int32) = 9 := by decide
  have e8 : (8 : Int32) + (0 : Int32) = 8 := by decide
  have e10 : ((8 : Int32) + ((0 : Int32) + (1 : Int32))) + (1 : Int32) = 10 := by decide
  have e99 : (8 : Int32) + ((0 : Int32) + (1 : Int32)) = 9 := by decide
  show D_X10_splices_33 k0 (n + 2 + 1) (I f) (0 : Int32) (pw x w) = _
  unfold D_X10_splices_33
  rw [if_neg (by decide), e9, oFd9P hf, b1_s, e8, poFd8P hf, b1_s, bnd_s]
  unfold D_X10_splices_33
  rw [if_neg (by decide), e10, oFd10P hf, b1_s, e99, poFd9P hf, b1_s, bnd_s]
  unfold D_X10_splices_33
  rw [if_pos (by decide), poFd10P hf, b1_s, oFd4P hf, b1_s, poFd4P hf, b1_s, poFd7P hf, b1_s, bnd_s, giP, siP]
  have e : ∀ (a b c d : Int32) (i : Nat), (i ≠ 130 + 11 * f + 8 ∧ i ≠ 130 + 11 * f + 9 ∧ i ≠ 130 + 11 * f + 10) → upd (upd (upd w (130 + 11 * f + 8) a) (130 + 11 * f + 9) b) (130 + 11 * f + 10) c i = w i := fun a b c d i hi => by
    rw [upd_ne (by omega), upd_ne (by omega), upd_ne (by omega)]
  have e10w : upd w (130 + 11 * f + 8) (w (130 + 11 * f + 9)) (130 + 11 * f + 10) = w (130 + 11 * f + 10) := upd_ne (by omega)
  rw [e10w, e _ _ _ 0 _ (by omega), upd_ne (show 27 ≠ 130 + 11 * f + 7 by omega), upd_ne (show 27 ≠ 130 + 11 * f + 4 by omega), e _ _ _ 0 _ (by omega)]
  rfl
/-- one reel that comes -/
def spW (w : Nat → Int32) (f : Nat) : Nat → Int32 := s33W (upd w (130 + 11 * f + 2) (w (130 + 11 * f + 8))) f
theorem spW_lo {w : Nat → Int32} {f i : Nat} (h : i < 130 + 11 * f ∨ 141 + 11 * f ≤ i) : spW w f i = w i := wr_lo (by omega) (wr_lo (by omega) (wr_lo (by omega) (wr_lo (by omega) (wr_lo (by omega) (upd_ne (by omega))))))
theorem spW_b {w : Nat → Int32} {f : Nat} : Fb (spW w f) f 0 = Fb w f 0 ∧ Fb (spW w f) f 1 = Fb w f 1 ∧ Fb (spW w f) f 2 = Fb w f 8 ∧ Fb (spW w f) f 3 = Fb w f 3 ∧ Fb (spW w f) f 4 = Fb w f 4 - 1 ∧ Fb (spW w f) f 5 = Fb w f 5 ∧ Fb (spW w f) f 6 = Fb w f 6 ∧ Fb (spW w f) f 7 = 1 ∧ Fb (spW w f) f 8 = Fb w f 9 ∧ Fb (spW w f) f 9 = Fb w f 10 := by
  unfold Fb spW s33W
  refine ⟨?_, ?_, ?_, ?_, ?_, ?_, ?_, ?_, ?_, ?_⟩ <;> simp (disch := omega) only [upd_ne, upd_is]
theorem wtb (w : Nat → Int32) (f : Nat) : wt w f = (Fb w f 4).toNatClampNeg := by
  unfold wt Fb
  rw [show 130 + 11 * f + 4 = 134 + 11 * f by omega]
theorem spstep_s {τ : Nat → Int32} {m : MM} {w : Nat → Int32} (h : R1 τ m w) {f n : Nat} (hf : f < nF w) (hn : n < 3) (h4 : Fb w f 4 = I (n + 1)) {r : Nat → Int32} (hr : r = va_cpy (m.1 (14 + f)) (m.1 (14 + f)) 1 0 n) : R1 τ (si (sr (si (si m (4 + f) 2 (gi m (14 + f) 0)) (4 + f) 4 (I n)) (14 + f) r) (4 + f) 8 1) (spW w f) := by
  obtain ⟨v1, v2, v3, v4, v5, v6, v7, v8⟩ := h.1.vc
  obtain ⟨b0, b1, b2, b3, b4, b5, b6, b7, b8, b9⟩ := spW_b (w := w) (f := f)
  have ewt : wt w f = n + 1 := by rw [wtb, h4, I_tnc (by omega)]
  have e4 : Fb (spW w f) f 4 = I n := by
    rw [b4, h4, show (1 : Int32) = I 1 from rfl, I_sub (by omega)]
    rfl
  have ewt' : wt (spW w f) f = n := by rw [wtb, e4, I_tnc (by omega)]
  have g : ∀ q k : Nat, ((q ≠ 4 + f ∨ (k ≠ 2 ∧ k ≠ 4 ∧ k ≠ 8)) ∧ q ≠ 14 + f) → gi (si (sr (si (si m (4 + f) 2 (gi m (14 + f) 0)) (4 + f) 4 (I n)) (14 + f) r) (4 + f) 8 1) q k = gi m q k := fun q k hq => by
    rw [gi_si_ne (by omega), gi_sr, if_neg (by omega), gi_si_ne (by omega), gi_si_ne (by omega)]
  have eF : nF (spW w f) = nF w := nF_e (spW_lo (by omega))
  have r0 : gi m (14 + f) 0 = Fb w f 8 := by
    rw [h.1.re f 0 hf (by omega)]
    unfold Fb
    rw [show 138 + 11 * f + 0 = 130 + 11 * f + 8 by omega]
  refine ⟨?_, fun a ha => by rw [g _ _ (by omega)]; exact h.2 a ha⟩
  refine h.1.fReel (f0 := f) (by omega) g (fun q k _ => rfl) (fun i hi => ?_) ?_ (fun f' j hf' hj => ?_) (fun f' k hf' hk => ?_)
  · exact wr_lo (by omega) (wr_lo (by omega) (wr_lo (by omega) (wr_lo (by omega) (wr_lo (by omega) (upd_ne (by omega))))))
  · refine ⟨by rw [nS_e (spW_lo (by omega))]; exact v1, by rw [nT_e (spW_lo (by omega))]; exact v2, by rw [nK_e (spW_lo (by omega))]; exact v3, by rw [eF]; exact v4, by rw [nP_e (spW_lo (by omega))]; exact v5, by rw [nQ_e (spW_lo (by omega))]; exact v6, by rw [nL_e (spW_lo (by omega))]; exact v7, fun f' hf' => ?_⟩
    by_cases e : f' = f
    · subst e; omega
    · rw [eF] at hf'
      unfold wt
      rw [spW_lo (by omega)]
      exact v8 f' hf'
  · rw [eF] at hf'
    by_cases e : f' = f
    · subst e
      have hb := h.1.fd f'
      rcases (show j = 0 ∨ j = 1 ∨ j = 2 ∨ j = 3 ∨ j = 4 ∨ j = 5 ∨ j = 6 ∨ j = 7 by omega) with e | e | e | e | e | e | e | e <;> subst e
      · show gi _ (4 + f') 0 = Fb (spW w f') f' 0
        rw [b0, g _ _ (by omega)]
        exact hb 0 hf' hj
      · show gi _ (4 + f') 1 = Fb (spW w f') f' 1
        rw [b1, g _ _ (by omega)]
        exact hb 1 hf' hj
      · show gi _ (4 + f') 2 = Fb (spW w f') f' 2
        rw [b2, gi_si_ne (by omega), gi_sr, if_neg (by omega), gi_si_ne (by omega), gi_si_eq]
        exact r0
      · show gi _ (4 + f') 3 = Fb (spW w f') f' 3
        rw [b3, g _ _ (by omega)]
        exact hb 3 hf' hj
      · show gi _ (4 + f') 4 = Fb (spW w f') f' 4
        rw [e4, gi_si_ne (by omega), gi_sr, if_neg (by omega), gi_si_eq]
      · show gi _ (4 + f') 6 = Fb (spW w f') f' 5
        rw [b5, g _ _ (by omega)]
        exact hb 5 hf' hj
      · show gi _ (4 + f') 7 = Fb (spW w f') f' 6
        rw [b6, g _ _ (by omega)]
        exact hb 6 hf' hj
      · show gi _ (4 + f') 8 = Fb (spW w f') f' 7
        rw [b7, gi_si_eq]
    · rw [g _ _ (by omega), spW_lo (by omega)]
      exact h.1.fd f' j hf' hj
  · rw [eF] at hf'
    by_cases e : f' = f
    · subst e
      rw [ewt'] at hk
      rw [gi_si_ne (by omega), gi_sr, if_pos rfl, hr]
      unfold va_cpy
      rw [if_pos (by omega)]
      show gi m (14 + f') (1 + (k - 0)) = _
      rw [show 1 + (k - 0) = k + 1 by omega, h.1.re f' (k + 1) hf' (by omega)]
      rcases (show k = 0 ∨ k = 1 by omega) with e | e <;> subst e
      · have := b8
        unfold Fb at this
        rw [show 138 + 11 * f' + (0 + 1) = 130 + 11 * f' + 9 by omega, show 138 + 11 * f' + 0 = 130 + 11 * f' + 8 by omega]
        exact this.symm
      · have := b9
        unfold Fb at this
        rw [show 138 + 11 * f' + (1 + 1) = 130 + 11 * f' + 10 by omega, show 138 + 11 * f' + 1 = 130 + 11 * f' + 9 by omega]
        exact this.symm
    · have ew : wt (spW w f) f' = wt w f' := by
        unfold wt
        rw [spW_lo (by omega)]
      rw [ew] at hk
      have := v8 f' hf'
      rw [g _ _ (by omega), spW_lo (by omega)]
      exact h.1.re f' k hf' hk
theorem R1.cg {τ : Nat → Int32} {m : MM} {w w' : Nat → Int32} (h : R1 τ m w) (e : w = w') : R1 τ m w' := by rw [← e]; exact h
theorem spl_s (τ : Nat → Int32) (x : MM) (f nk : Nat) (z : Int32) : ∀ n : Nat, ∀ (w : Nat → Int32) (m : MM) (cnt : Int32) (fc fx : Nat), Fb w f 4 = I n → n ≤ 3 → f < nF w → FdOk nk (Fb w f) → R1 τ m (upd w 27 z) → n < fc → n < fx → ∃ (c : Int32) (m' : MM) (w' : Nat → Int32), D_X2_spliceIfEmpty_2 fc (4 + f) cnt m = some (cnt + c, m') ∧ D_X10_splices_0 fx (I f) (pw x w) = some (pw x w') ∧ R1 τ m' (upd w' 27 z) ∧ w' 27 = w 27 + c ∧ FdOk nk (Fb w' f) ∧ ∀ i : Nat, i ≠ 27 ∧ (i < 130 + 11 * f ∨ 141 + 11 * f ≤ i) → w' i = w i := by
  intro n
  induction n with
  | zero =>
    intro w m cnt fc fx h4 hn hf hd h hc hx
    obtain ⟨fc, rfl⟩ : ∃ n' : Nat, fc = n' + 1 := ⟨fc - 1, by omega⟩
    obtain ⟨fx, rfl⟩ : ∃ n' : Nat, fx = n' + 1 := ⟨fx - 1, by omega⟩
    obtain ⟨v1, v2, v3, v4, v5, v6, v7, v8⟩ := h.1.vc
    have eF : nF (upd w 27 z) = nF w := nF_u (by omega)
    have e4 : gi m (4 + f) 4 = I 0 := by
      rw [h.1.fd4 (by rw [eF]; exact hf), upd_ne (by omega)]
      exact h4
    rw [eF] at v4
    refine ⟨0, m, w, ?_, ?_, h, by rw [Int32.add_zero], hd, fun i _ => rfl⟩
    · unfold D_X2_spliceIfEmpty_2
      rw [e4, if_pos (show I 0 ≤ (0 : Int32) by decide), Int32.add_zero]
      split <;> rfl
    · have h4 : w (130 + 11 * f + 4) = I 0 := h4
      unfold D_X10_splices_0
      rw [oFd2P (by omega), b1_s, oFd4P (by omega), b1_s, h4, if_pos (show I 0 ≤ (0 : Int32) by decide)]
      split <;> rfl
  | succ n ih =>
    intro w m cnt fc fx h4 hn hf hd h hc hx
    obtain ⟨fc, rfl⟩ : ∃ n' : Nat, fc = n' + 1 := ⟨fc - 1, by omega⟩
    obtain ⟨fx, rfl⟩ : ∃ n' : Nat, fx = n' + 1 := ⟨fx - 1, by omega⟩
    obtain ⟨v1, v2, v3, v4, v5, v6, v7, v8⟩ := h.1.vc
    have eF : nF (upd w 27 z) = nF w := nF_u (by omega)
    have e2 : gi m (4 + f) 2 = w (130 + 11 * f + 2) := by
      rw [h.1.fd2 (by rw [eF]; exact hf), upd_ne (by omega)]
    have e4 : gi m (4 + f) 4 = I (n + 1) := by
      rw [h.1.fd4 (by rw [eF]; exact hf), upd_ne (by omega)]
      exact h4
    rw [eF] at v4
    by_cases hp : w (130 + 11 * f + 2) = 0
    · have hle : ¬ I (n + 1) ≤ (0 : Int32) := fun q => by
        have q2 : I (n + 1) ≤ I 0 := q
        rw [I_le (by omega) (by omega)] at q2
        omega
      have esub : I (n + 1) - (1 : Int32) = I n := by
        rw [show (1 : Int32) = I 1 from rfl, I_sub (by omega)]
        rfl
      have hfb : ∀ j : Nat, Fb (upd w 27 z) f j = Fb w f j := fun j => upd_ne (by omega)
      have k := spstep_s h (f := f) (n := n) (by rw [eF]; exact hf) (by omega) (by rw [hfb]; exact h4) rfl
      have hcom : spW (upd w 27 z) f = upd (upd (spW w f) 27 (w 27 + 1)) 27 z := by
        rw [upd_upd]
        funext i
        by_cases hi : i = 27
        · subst hi
          rw [spW_lo (by omega), upd_eq, upd_eq]
        · rw [upd_ne hi]
          have g : ∀ j : Nat, j ≠ 27 → upd w 27 z j = w j := fun j hj => upd_ne hj
          unfold spW s33W upd
          by_cases i7 : i = 130 + 11 * f + 7
          · rw [if_pos i7, if_pos i7]
          · rw [if_neg i7, if_neg i7]
            by_cases i4 : i = 130 + 11 * f + 4
            · rw [if_pos i4, if_pos i4, if_neg (by omega), if_neg (by omega), if_neg (by omega)]
            · rw [if_neg i4, if_neg i4]
              by_cases i10 : i = 130 + 11 * f + 10
              · rw [if_pos i10, if_pos i10]
              · rw [if_neg i10, if_neg i10]
                by_cases i9 : i = 130 + 11 * f + 9
                · rw [if_pos i9, if_pos i9, if_neg (by omega), if_neg (by omega), if_neg (by omega)]
                · rw [if_neg i9, if_neg i9]
                  by_cases i8 : i = 130 + 11 * f + 8
                  · rw [if_pos i8, if_pos i8, if_neg (by omega), if_neg (by omega), if_neg (by omega)]
                  · rw [if_neg i8, if_neg i8]
                    by_cases i2 : i = 130 + 11 * f + 2
                    · rw [if_pos i2, if_pos i2, if_neg (by omega)]
                    · rw [if_neg i2, if_neg i2, if_neg hi]
      rw [hcom] at k
      obtain ⟨b0, b1, b2, b3, b4, b5, b6, b7, b8, b9⟩ := spW_b (w := w) (f := f)
      have hu : ∀ j : Nat, Fb (upd (spW w f) 27 (w 27 + 1)) f j = Fb (spW w f) f j := fun j => upd_ne (by omega)
      have hd2 : FdOk nk (Fb (upd (spW w f) 27 (w 27 + 1)) f) := by
        obtain ⟨d1, d2, ⟨n', hn', d3, d4⟩, d5, d6⟩ := hd
        have en : n' = n + 1 := (I_inj (by omega) (by omega)).mp (d3.symm.trans h4)
        subst en
        refine ⟨by rw [hu, b0]; exact d1, by rw [hu, b2]; exact d4 0 (by omega), ⟨n, by omega, by rw [hu, b4, h4, esub], fun j hj => ?_⟩, Or.inr (by rw [hu, b7]), by rw [hu, b1]; exact d6⟩
        rw [hu]
        rcases (show j = 0 ∨ j = 1 by omega) with e | e <;> subst e
        · show ∃ p : Nat, p ≤ 500 ∧ Fb (spW w f) f 8 = I p
          rw [b8]; exact d4 1 (by omega)
        · show ∃ p : Nat, p ≤ 500 ∧ Fb (spW w f) f 9 = I p
          rw [b9]; exact d4 2 (by omega)
      obtain ⟨c, m', w', g1, g2, g3, g4, g5, g6⟩ := ih (upd (spW w f) 27 (w 27 + 1)) _ (cnt + 1) fc fx (by rw [hu, b4, h4, esub]) (by omega) (by rw [nF_u (by omega), nF_e (spW_lo (by omega))]; exact hf) hd2 k (by omega) (by omega)
      refine ⟨1 + c, m', w', ?_, ?_, g3, by rw [g4, upd_eq, Int32.add_assoc], g5, fun i hi => ?_⟩
      · rw [← Int32.add_assoc]
        generalize some (cnt + 1 + c, m') = RR at g1 ⊢
        unfold D_X2_spliceIfEmpty_2
        have x1 : gi (si (si m (4 + f) 2 (gi m (4 + f + 10) 0)) (4 + f) 4 (I n)) (4 + f) 4 = I n := gi_si_eq _ _ _ _
        have x2 : gi (si m (4 + f) 2 (gi m (4 + f + 10) 0)) (4 + f) 4 = I (n + 1) := (gi_si_ne (by omega)).trans e4
        rw [e2, if_pos hp, e4, if_neg hle, bnd_s, bnd_s, x2, esub, x1, if_neg (by
          rw [I_tnc (by omega)]
          rintro (q | q | q | q | q)
          · exact absurd q (by decide)
          · exact absurd q (by decide)
          · exact I_nneg (by omega) q
          · omega
          · omega), bnd_s, bnd_s, bnd_s, I_tnc (by omega)]
        have x3 : (si (si m (4 + f) 2 (gi m (4 + f + 10) 0)) (4 + f) 4 (I n)).1 (4 + f + 10) = m.1 (14 + f) := by
          rw [show 4 + f + 10 = 14 + f by omega]
          funext j
          show gi (si (si m (4 + f) 2 _) (4 + f) 4 (I n)) (14 + f) j = gi m (14 + f) j
          rw [gi_si_ne (by omega), gi_si_ne (by omega)]
        rw [x3, show 4 + f + 10 = 14 + f by omega]
        exact g1
      · generalize some (pw x w') = RR at g2 ⊢
        obtain ⟨fy, hy⟩ : ∃ fy : Nat, FU = fy + 3 := ⟨4997, rfl⟩
        have h4' : w (130 + 11 * f + 4) = I (n + 1) := h4
        unfold D_X10_splices_0
        rw [oFd2P (by omega), b1_s, if_pos hp, oFd4P (by omega), b1_s, h4', if_neg hle, oFd8P (by omega), b1_s, poFd2P (by omega), b1_s, hy, sp33_x _ x (by omega)]
        rw [upd_ne (show 27 ≠ 130 + 11 * f + 2 by omega)]
        exact g2
      · rw [g6 i hi, upd_ne (by omega), spW_lo (by omega)]
    · refine ⟨0, m, w, ?_, ?_, h, by rw [Int32.add_zero], hd, fun i _ => rfl⟩
      · unfold D_X2_spliceIfEmpty_2
        rw [e2, if_neg hp, Int32.add_zero]
      · unfold D_X10_splices_0
        rw [oFd2P (by omega), b1_s, if_neg hp]
/-- reels that come, with the count of them in its place -/
theorem splice_s {τ : Nat → Int32} {m : MM} {w : Nat → Int32} (h : R1 τ m w) (x : MM) {f nk : Nat} (hf : f < nF w) (hd : FdOk nk (Fb w f)) : ∃ (c : Int32) (m' : MM) (w' : Nat → Int32), D_X2_spliceIfEmpty (4 + f) m = some (c, m') ∧ D_X10_splices (I f) (pw x w) = some (pw x w') ∧ R1 τ (si m' 45 8 (gi m 45 8 + c)) w' ∧ gi m' 45 8 = gi m 45 8 ∧ FdOk nk (Fb w' f) ∧ ∀ i : Nat, i ≠ 27 ∧ (i < 130 + 11 * f ∨ 141 + 11 * f ≤ i) → w' i = w i := by
  obtain ⟨n, hn, h4, -⟩ := hd.2.2.1
  have es : upd w 27 (w 27) = w := funext fun i => by
    by_cases hi : i = 27
    · subst hi; rw [upd_eq]
    · rw [upd_ne hi]
  obtain ⟨c, m', w', g1, g2, g3, g4, g5, g6⟩ := spl_s τ x f nk (w 27) n w m 0 FU FU h4 hn hf hd (by rw [es]; exact h) (by show n < 5000; omega) (by show n < 5000; omega)
  refine ⟨c, m', w', by rw [← Int32.zero_add c]; exact g1, g2, ?_, ?_, g5, g6⟩
  · have k := g3.ws27 (gi m 45 8 + c)
    rw [upd_upd, h.1.s27, ← g4] at k
    have es' : upd w' 27 (w' 27) = w' := funext fun i => by
      by_cases hi : i = 27
      · subst hi; rw [upd_eq]
      · rw [upd_ne hi]
    rw [es'] at k
    rw [h.1.s27, ← g4]
    exact k
  · rw [h.1.s27, g3.1.s27, upd_eq]
