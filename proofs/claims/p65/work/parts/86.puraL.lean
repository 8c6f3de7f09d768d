/-! PURE: the best swap -/
theorem mvR {m : MM} {w : Nat → Int32} (hR : R m w) {f : Nat} (hf : f < nF w) {x2 : Int32} (hX : Rn 999 x2) : R (si m (4 + f) 1 x2) (upd w (130 + 11 * f + 1) x2) := by
  obtain ⟨v1, v2, v3, v4, v5, v6, -⟩ := hR.r0.vc
  have hv := hR.v
  have c2 : ok x2 1000 := by
    obtain ⟨p, hp, rfl⟩ := hX
    exact ok_I (by omega) (by omega)
  have k : R1 (fun a => w (37 + a)) (si m (4 + f) 1 x2) (upd w (130 + 11 * f + 1) x2) := hR.1.wFd (f := f) (j := 1) (by omega) (by decide) (by decide) x2
  have lo : ∀ i : Nat, i ≠ 130 + 11 * f + 1 → upd w (130 + 11 * f + 1) x2 i = w i := fun i hi => upd_ne hi
  have hv2 : V (upd w (130 + 11 * f + 1) x2) := V.fdc hR.r0 hv (f := f) hf (fun i hi => lo i (by omega)) (fun _ => by
    obtain ⟨d1, d2, ⟨n, hn, d3, d4⟩, d5, d6⟩ := hv.fd f hf
    exact ⟨by rw [show Fb (upd w (130 + 11 * f + 1) x2) f 0 = Fb w f 0 from lo _ (by omega)]; exact d1, by rw [show Fb (upd w (130 + 11 * f + 1) x2) f 2 = Fb w f 2 from lo _ (by omega)]; exact d2, ⟨n, hn, by rw [show Fb (upd w (130 + 11 * f + 1) x2) f 4 = Fb w f 4 from lo _ (by omega)]; exact d3, fun j hj => by rw [show Fb (upd w (130 + 11 * f + 1) x2) f (8 + j) = Fb w f (8 + j) from lo _ (by omega)]; exact d4 j hj⟩, by rw [show Fb (upd w (130 + 11 * f + 1) x2) f 7 = Fb w f 7 from lo _ (by omega)]; exact d5, by rw [show Fb (upd w (130 + 11 * f + 1) x2) f 1 = x2 from upd_eq _ _ _]; exact ok501 (n := 999) c2 (by decide)⟩)
  exact R.w1 k (fun a ha => lo _ (by omega)) hv2
theorem swap_s {m : MM} {w : Nat → Int32} (hR : R m w) {T : Nat} (hT : Rn T (w 23)) {F G : Nat} (hF : F < nF w) (hG : G < nF w) (f h x : MM) {w1 : Nat → Int32} (e1 : ∀ k : Nat, k < 640 → w1 k = w k) (h2 : ∀ k : Nat, k < 640 → gi x 2 k = w k) : ∃ (f1 f' h' x2 : MM) (w2 : Nat → Int32) (e : Int32), D_X6_copyFrom f m = some f1 ∧ D_X3_goOn h m (si (si f1 (4 + F) 1 (gi m (4 + G) 1)) (4 + G) 1 (gi m (4 + F) 1)) = some (h', f') ∧ D_X10_endTimeWith (I F) (I G) (pw x w1) = some (e, pw x2 w2) ∧ gi h' 3 4 = e ∧ HF h h' ∧ (∀ k : Nat, k < 640 → w2 k = w k) ∧ XF x x2 := by
  have v4 := hR.r0.vc.2.2.2.1
  have hv := hR.v
  obtain ⟨f1, c1, c2⟩ := copy_s hR f
  have c3 : R f1 w1 := c2.cg e1
  have eF : nF w1 = nF w := nF_e (e1 18 (by omega))
  have pF : Rn 999 (w (130 + 11 * F + 1)) := (hv.fd F hF).2.2.2.2
  have pG : Rn 999 (w (130 + 11 * G + 1)) := (hv.fd G hG).2.2.2.2
  have k1 := mvR c3 (f := F) (by omega) pG
  have eF2 : nF (upd w1 (130 + 11 * F + 1) (w (130 + 11 * G + 1))) = nF w := nF_e ((upd_ne (by omega)).trans (e1 18 (by omega)))
  have k2 := mvR k1 (f := G) (by omega) pF
  obtain ⟨f', w', x', h', e, x2, w2, q1, -, q3, q4, q5, q6, q7, q8, q9, q10⟩ := fore_q m k2 x h (T := T) (by rw [upd_ne (by omega), upd_ne (by omega), e1 23 (by omega)]; exact hT) h2
  refine ⟨f1, f', h', x2, w2, e, c1, ?_, ?_, q5, q4, q9, q10⟩
  · rw [hR.r0.fd1 hF, hR.r0.fd1 hG]
    exact q1
  · unfold D_X10_endTimeWith D_X10_changesFeeder
    rw [oFd1P (by omega), b1_s, oFd1P (by omega), b1_s, poFd1P (by omega), b1_s, b2_s, oFd1P (by omega), b1_s, poFd1P (by omega), b1_s, b2_s, e1 (130 + 11 * G + 1) (by omega), e1 (130 + 11 * F + 1) (by omega), q6, b2_s, q8, b1_s]
theorem sw_i {m : MM} {w : Nat → Int32} (hR : R m w) {T : Nat} (hT : Rn T (w 23)) {F : Nat} (hF : F < nF w) (k33 : Int32 → Int32 → Int32 → MM → MM → Option (Int32 × MM × MM)) (k29 : Int32 → Int32 → Int32 → MM → Option (Int32 × MM)) : ∀ (d G n n' : Nat) (t c : Int32) (f h x : MM) (w1 : Nat → Int32), G + d = nF w → d < n → d < n' → (∀ k : Nat, k < 640 → w1 k = w k) → (∀ k : Nat, k < 640 → gi x 2 k = w k) → ∃ (t' c' : Int32) (h' f' x2 : MM) (w2 : Nat → Int32), D_X9_bestSwap_49 m k33 n t c (I F) (I G) h f = k33 t' c' (I (F + 1)) h' f' ∧ D_X10_bestSwap_45 k29 n' t c (I F) (I G) (pw x w1) = k29 t' c' (I (F + 1)) (pw x2 w2) ∧ (∀ k : Nat, k < 640 → w2 k = w k) ∧ HF h h' ∧ XF x x2 := by
  have v4 := hR.r0.vc.2.2.2.1
  have hv := hR.v
  intro d
  induction d with
  | zero =>
    intro G n n' t c f h x w1 hi hn hn' e1 h2
    obtain ⟨n, rfl⟩ : ∃ n0 : Nat, n = n0 + 1 := ⟨n - 1, by omega⟩
    obtain ⟨n', rfl⟩ : ∃ n0 : Nat, n' = n0 + 1 := ⟨n' - 1, by omega⟩
    unfold D_X9_bestSwap_49 D_X10_bestSwap_45
    rw [giP, e1 18 (by omega), hv.cnt.2.2.2.1, hR.r0.n18 hv, if_pos (leT (by omega) (by omega)), if_pos (leT (by omega) (by omega)), bnd_s, bnd_s, ixs1]
    exact ⟨t, c, h, f, x, w1, rfl, rfl, e1, HF.rf h, XF.rf x⟩
  | succ d ih =>
    intro G n n' t c f h x w1 hi hn hn' e1 h2
    obtain ⟨n, rfl⟩ : ∃ n0 : Nat, n = n0 + 1 := ⟨n - 1, by omega⟩
    obtain ⟨n', rfl⟩ : ∃ n0 : Nat, n' = n0 + 1 := ⟨n' - 1, by omega⟩
    obtain ⟨f1, f', h', x2, w2, e, q1, q2, q3, q4, q5, q6, q7⟩ := swap_s hR hT hF (G := G) (by omega) f h x e1 h2
    have nx : ∀ (t c : Int32), ∃ (t' c' : Int32) (h3 f3 x3 : MM) (w3 : Nat → Int32), D_X9_bestSwap_49 m k33 n t c (I F) (I (G + 1)) h' f' = k33 t' c' (I (F + 1)) h3 f3 ∧ D_X10_bestSwap_45 k29 n' t c (I F) (I (G + 1)) (pw x2 w2) = k29 t' c' (I (F + 1)) (pw x3 w3) ∧ (∀ k : Nat, k < 640 → w3 k = w k) ∧ HF h h3 ∧ XF x x3 := fun t c => by
      obtain ⟨t', c', h3, f3, x3, w3, r1, r2, r3, r4, r5⟩ := ih (G + 1) n n' t c f' h' x2 w2 (by omega) (by omega) (by omega) q6 (fun k hk => by rw [q7 2 k (by omega) (by omega)]; exact h2 k hk)
      exact ⟨t', c', h3, f3, x3, w3, r1, r2, r3, q5.tr r4, q7.tr r5⟩
    unfold D_X9_bestSwap_49 D_X10_bestSwap_45 D_X3_begin
    simp only [bnd_s, gdI (show F < 2147483648 by omega) (show F < 10 by omega), gdI (show G < 2147483648 by omega) (show G < 10 by omega), gdJ (show F < 2147483648 by omega) (show F < 10 by omega), gdJ (show G < 2147483648 by omega) (show G < 10 by omega), I_tnc (show F < 2147483648 by omega), I_tnc (show G < 2147483648 by omega)]
    rw [giP, e1 18 (by omega), hv.cnt.2.2.2.1, hR.r0.n18 hv, if_neg (leF (by omega) (by omega)), if_neg (leF (by omega) (by omega)), q1, b1_s, b1_s, q2, b2_s, q4, q3, b2_s, ixs1]
    by_cases ce : e = -1
    · rw [if_pos ce, if_pos ce]
      exact nx t c
    · rw [if_neg ce, if_neg ce]
      by_cases c3 : t ≤ e
      · rw [if_pos c3, if_neg (i32_le_nlt.mp c3)]
        exact nx t c
      · have c4 : e < t := by
          by_cases z : e < t
          · exact z
          · exact absurd (i32_le_nlt.mpr z) c3
        rw [if_neg c3, if_pos c4]
        exact nx e _
theorem sw_o {m : MM} {w : Nat → Int32} (hR : R m w) {T : Nat} (hT : Rn T (w 23)) : ∀ (d F n n' : Nat) (t c : Int32) (f h x : MM) (w1 : Nat → Int32), F + d = nF w → d < n → d < n' → (∀ k : Nat, k < 640 → w1 k = w k) → (∀ k : Nat, k < 640 → gi x 2 k = w k) → ∃ (v : Int32) (h' f' x2 : MM) (w2 : Nat → Int32), D_X9_bestSwap_33 m n t c (I F) h f = some (v, h', f') ∧ D_X10_bestSwap_29 n' t c (I F) (pw x w1) = some (v, pw x2 w2) ∧ (∀ k : Nat, k < 640 → w2 k = w k) ∧ HF h h' ∧ XF x x2 := by
  have v4 := hR.r0.vc.2.2.2.1
  have hv := hR.v
  intro d
  induction d with
  | zero =>
    intro F n n' t c f h x w1 hi hn hn' e1 h2
    obtain ⟨n, rfl⟩ : ∃ n0 : Nat, n = n0 + 1 := ⟨n - 1, by omega⟩
    obtain ⟨n', rfl⟩ : ∃ n0 : Nat, n' = n0 + 1 := ⟨n' - 1, by omega⟩
    unfold D_X9_bestSwap_33 D_X10_bestSwap_29
    rw [giP, e1 18 (by omega), hv.cnt.2.2.2.1, hR.r0.n18 hv, if_pos (leT (by omega) (by omega)), if_pos (leT (by omega) (by omega))]
    exact ⟨c, h, f, x, w1, rfl, rfl, e1, HF.rf h, XF.rf x⟩
  | succ d ih =>
    intro F n n' t c f h x w1 hi hn hn' e1 h2
    obtain ⟨n, rfl⟩ : ∃ n0 : Nat, n = n0 + 1 := ⟨n - 1, by omega⟩
    obtain ⟨n', rfl⟩ : ∃ n0 : Nat, n' = n0 + 1 := ⟨n' - 1, by omega⟩
    obtain ⟨t', c', h', f', x2, w2, q1, q2, q3, q4, q5⟩ := sw_i hR hT (F := F) (by omega) (D_X9_bestSwap_33 m n) (D_X10_bestSwap_29 n') d (F + 1) FU FU t c f h x w1 (by omega) (by show d < 5000; omega) (by show d < 5000; omega) e1 h2
    obtain ⟨v, h3, f3, x3, w3, r1, r2, r3, r4, r5⟩ := ih (F + 1) n n' t' c' f' h' x2 w2 (by omega) (by omega) (by omega) q3 (fun k hk => by rw [q5 2 k (by omega) (by omega)]; exact h2 k hk)
    unfold D_X9_bestSwap_33 D_X10_bestSwap_29
    rw [giP, e1 18 (by omega), hv.cnt.2.2.2.1, hR.r0.n18 hv, if_neg (leF (by omega) (by omega)), if_neg (leF (by omega) (by omega)), bnd_s, bnd_s, ixs1, q1, q2, r1, r2]
    exact ⟨v, h3, f3, x3, w3, rfl, rfl, r3, q4.tr r4, q5.tr r5⟩
theorem T_bestSwap {m : MM} {w : Nat → Int32} (hR : R m w) (x h f : MM) {T : Nat} (hT : Rn T (w 23)) : AnsP x h w (D_X9_bestSwap h m f) (D_X10_bestSwap (pw x w)) := by
  have v4 := hR.r0.vc.2.2.2.1
  refine AnsP.th 0 ?_
  obtain ⟨x1, a1, a2, a3⟩ := aside_s (th x 0) w
  obtain ⟨f1, c1, c2⟩ := copy_s hR f
  obtain ⟨f', w', x', h', e, x2, w2, q1, -, q3, q4, q5, q6, q7, q8, q9, q10⟩ := fore_q m c2 x1 h hT a2
  unfold D_X9_bestSwap D_X10_bestSwap D_X3_begin
  rw [bnd_s, zeroP, a1, b1_s, q6, b2_s, q8, b1_s, c1, b1_s, b1_s, q1, b2_s, bnd_s, q5]
  by_cases ce : e = -1
  · rw [if_pos ce, if_pos ce]
    exact ⟨_, _, _, _, _, rfl, rfl, q9, q4, fun q k hq => by rw [q10 q k (by omega) (by omega), a3 q k (by omega) (by omega)]⟩
  · rw [if_neg ce, if_neg ce]
    obtain ⟨v, h3, f3, x3, w3, r1, r2, r3, r4, r5⟩ := sw_o hR hT (nF w) 0 FU FU e (-1) f' h' x2 w2 (by omega) (by show nF w < 5000; omega) (by show nF w < 5000; omega) q9 (fun k hk => by rw [q10 2 k (by omega) (by omega)]; exact a2 k hk)
    have r1 : D_X9_bestSwap_33 m FU e (-1 : Int32) (0 : Int32) h' f' = _ := r1
    have r2 : D_X10_bestSwap_29 FU e (-1 : Int32) (0 : Int32) (pw x2 w2) = _ := r2
    rw [r1, r2]
    exact ⟨v, h3, f3, x3, w3, rfl, rfl, r3, q4.tr r4, fun q k hq => by rw [r5 q k (by omega) (by omega), q10 q k (by omega) (by omega), a3 q k (by omega) (by omega)]⟩
