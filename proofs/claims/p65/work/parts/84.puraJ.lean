/-! PURE: predictions with something changed -/
theorem fore_q (mm : MM) {g : MM} {w1 : Nat → Int32} (hR : R g w1) (x h : MM) {T : Nat} (hT : Rn T (w1 23)) {w0 : Nat → Int32} (h2 : ∀ k : Nat, k < 640 → gi x 2 k = w0 k) : ∃ (f' : MM) (w' : Nat → Int32) (x' h' : MM) (e : Int32) (x2 : MM) (w2 : Nat → Int32), D_X3_goOn h mm g = some (h', f') ∧ (∃ J : Int32, D_X10_runs (1000 : Int32) (pw x w1) = some (J, pw x' w')) ∧ R f' w' ∧ HF h h' ∧ gi h' 3 4 = e ∧ D_X10_endTime (pw x w1) = some (e, pw x' w') ∧ (e = -1 ∨ Rn (T + 1199000) e) ∧ D_X10_comesBack (pw x' w') = some (pw x2 w2) ∧ (∀ k : Nat, k < 640 → w2 k = w0 k) ∧ XF x x2 := by
  obtain ⟨J, f', w', x', h', o', r1, r2, r3, r4, r5, r6, r7, r8, r9, r10, r11, r12⟩ := fore_s mm hR x h hT
  have e2 : ∀ k : Nat, k < 640 → gi x' 2 k = w0 k := fun k hk => by rw [r5 2 k (by omega) (by omega), h2 k hk]
  obtain ⟨x2, w2, b1, b2, b3⟩ := back_s x' w' e2
  refine ⟨f', w', x', h', endOf w' o', x2, w2, r1, ⟨I J, r2⟩, r3, r6, r12, endT r3 r2 r7 r8 r9 r10, ?_, b1, b2, fun q k a b => by rw [b3 q k a, r5 q k a b]⟩
  rcases rOf_e r3.r0 r8 with ⟨_, e, _⟩ | ⟨_, e, _⟩
  · rw [e]; exact Or.inr r4
  · exact Or.inl e
theorem setR {m : MM} {w : Nat → Int32} (hR : R m w) {k : Nat} (hk : k < 8 ∨ 11 ≤ k ∧ k < 15) {x2 : Int32} (h0 : (lea k).toInt ≤ x2.toInt) (h1 : x2.toInt ≤ (mxS w k).toInt) : R (si m 25 k x2) (upd w k x2) := by
  refine ⟨⟨hR.r0.wSet (by omega) x2, fun a ha => ?_⟩, set_v hR.r0 hR.v hk h0 h1⟩
  show gi (si m 25 k x2) 50 a = upd w k x2 (37 + a)
  rw [gi_si_ne (by omega), upd_ne (by omega)]
  exact hR.1.2 a ha
theorem filC_e {f : MM} {w : Nat → Int32} (h : R f w) : D_J13_bitCount_95d88 (gl f 36 8) = some (I (saC w 1)) := by
  have v5 := h.r0.vc.2.2.2.2.1
  have ec : cntP (tb (gl f 36 8)) 64 = saC w 1 := cnt_bits (by omega) (fun k hk => by
    rw [h.r0.fl' hk]
    exact and_congr_right (fun _ => ⟨fun z => decide_eq_true z, fun z => of_decide_eq_true z⟩))
  rw [bitCount_eq, ec]
theorem br_s {m : MM} {w : Nat → Int32} (hR : R m w) {T : Nat} (hT : Rn T (w 23)) {i : Nat} (hi : i ≤ 5) (f h x : MM) {w1 : Nat → Int32} (e1 : ∀ k : Nat, k < 640 → w1 k = w k) (h2 : ∀ k : Nat, k < 640 → gi x 2 k = w k) : ∃ (f1 f' : MM) (w' : Nat → Int32) (x' h' x2 : MM) (w2 : Nat → Int32) (J : Int32), D_X6_copyFrom f m = some f1 ∧ D_X3_goOn h m (si f1 25 7 (I i)) = some (h', f') ∧ D_X10_runs (1000 : Int32) (pw x (upd w1 7 (I i))) = some (J, pw x' w') ∧ R f' w' ∧ HF h h' ∧ D_X10_comesBack (pw x' w') = some (pw x2 w2) ∧ (∀ k : Nat, k < 640 → w2 k = w k) ∧ XF x x2 := by
  obtain ⟨f1, c1, c2⟩ := copy_s hR f
  have c3 : R f1 w1 := c2.cg e1
  have c4 : R (si f1 25 7 (I i)) (upd w1 7 (I i)) := setR c3 (k := 7) (by omega) (by
    rw [I_toInt (by omega)]
    show (0 : Int) ≤ _
    omega) (by
    rw [I_toInt (by omega)]
    show _ ≤ (5 : Int)
    omega)
  obtain ⟨f', w', x', h', e, x2, w2, q1, ⟨J, q2⟩, q3, q4, q5, q6, q7, q8, q9, q10⟩ := fore_q m c4 x h (T := T) (by rw [upd_ne (by omega), e1 23 (by omega)]; exact hT) h2
  exact ⟨f1, f', w', x', h', x2, w2, J, c1, q1, q2, q3, q4, q8, q9, q10⟩
theorem br_l {m : MM} {w : Nat → Int32} (hR : R m w) {T : Nat} (hT : Rn T (w 23)) : ∀ (d i n n' b c : Nat) (t : Int32) (f h x : MM) (w1 : Nat → Int32), i + d = 6 → d < n → d < n' → b ≤ 5 → c ≤ 40 → (∀ k : Nat, k < 640 → w1 k = w k) → (∀ k : Nat, k < 640 → gi x 2 k = w k) → ∃ (v : Int32) (h' f' x2 : MM) (w2 : Nat → Int32), D_X9_bestRetries_14 m n (I b) (I c) t (I i) h f = some (v, h', f') ∧ D_X10_bestRetries_18 n' (I b) (I c) t (I i) (pw x w1) = some (v, pw x2 w2) ∧ (∀ k : Nat, k < 640 → w2 k = w k) ∧ HF h h' ∧ XF x x2 := by
  intro d
  induction d with
  | zero =>
    intro i n n' b c t f h x w1 hi hn hn' hb hc e1 h2
    obtain ⟨n, rfl⟩ : ∃ n0 : Nat, n = n0 + 1 := ⟨n - 1, by omega⟩
    obtain ⟨n', rfl⟩ : ∃ n0 : Nat, n' = n0 + 1 := ⟨n' - 1, by omega⟩
    have hi : i = 6 := by omega
    subst hi
    unfold D_X9_bestRetries_14 D_X10_bestRetries_18
    rw [if_pos (show mst 7 < I 6 by decide), if_pos (show (5 : Int32) < I 6 by decide)]
    exact ⟨_, _, _, _, _, rfl, rfl, e1, HF.rf h, XF.rf x⟩
  | succ d ih =>
    intro i n n' b c t f h x w1 hi hn hn' hb hc e1 h2
    obtain ⟨n, rfl⟩ : ∃ n0 : Nat, n = n0 + 1 := ⟨n - 1, by omega⟩
    obtain ⟨n', rfl⟩ : ∃ n0 : Nat, n' = n0 + 1 := ⟨n' - 1, by omega⟩
    obtain ⟨f1, f', w', x', h', x2, w2, J, q1, q2, q3, q4, q5, q6, q7, q8⟩ := br_s hR hT (i := i) (by omega) f h x e1 h2
    have v5 := q4.r0.vc.2.2.2.2.1
    have hs : saC w' 1 ≤ 40 := Nat.le_trans (cntP_le _ _) v5
    have h2' : ∀ k : Nat, k < 640 → gi x2 2 k = w k := fun k hk => by rw [q8 2 k (by omega) (by omega)]; exact h2 k hk
    have nx : ∀ (b c : Nat) (t : Int32), b ≤ 5 → c ≤ 40 → ∃ (v : Int32) (h3 f3 x3 : MM) (w3 : Nat → Int32), D_X9_bestRetries_14 m n (I b) (I c) t (I (i + 1)) h' f' = some (v, h3, f3) ∧ D_X10_bestRetries_18 n' (I b) (I c) t (I (i + 1)) (pw x2 w2) = some (v, pw x3 w3) ∧ (∀ k : Nat, k < 640 → w3 k = w k) ∧ HF h h3 ∧ XF x x3 := fun b c t hb hc => by
      obtain ⟨v, h3, f3, x3, w3, r1, r2, r3, r4, r5⟩ := ih (i + 1) n n' b c t f' h' x2 w2 (by omega) (by omega) (by omega) hb hc q7 h2'
      exact ⟨v, h3, f3, x3, w3, r1, r2, r3, q5.tr r4, q8.tr r5⟩
    unfold D_X9_bestRetries_14 D_X10_bestRetries_18
    rw [if_neg (show ¬ mst 7 < I i from fun z => absurd ((I_lt (a := 5) (by decide) (by omega)).mp z) (by omega)), if_neg (show ¬ (5 : Int32) < I i from fun z => absurd ((I_lt (a := 5) (by decide) (by omega)).mp z) (by omega))]
    unfold D_X3_begin
    simp only [bnd_s]
    rw [q1, b1_s, b1_s, q2, b2_s, siP, q3, b2_s, saC_x x' q4.v v5, b1_s, filC_e q4, b1_s, giP, q4.r0.s23, q6, b1_s, ixs1, if_neg (show ¬ I b = (-1 : Int32) from I_ne_neg (by omega))]
    by_cases c1 : c < saC w' 1
    · rw [if_pos ((I_lt (by omega) (by omega)).mpr c1), if_neg (fun z => absurd ((I_lt (by omega) (by omega)).mp z) (by omega)), if_neg (fun z => absurd ((I_inj (by omega) (by omega)).mp z) (by omega))]
      exact nx i (saC w' 1) (w' 23) (by omega) hs
    · by_cases c2 : saC w' 1 = c
      · rw [if_neg (fun z => c1 ((I_lt (by omega) (by omega)).mp z)), if_pos (show I (saC w' 1) = I c by rw [c2]), if_neg (fun z => absurd ((I_lt (by omega) (by omega)).mp z) (by omega)), if_pos (show I (saC w' 1) = I c by rw [c2])]
        by_cases c3 : t ≤ w' 23
        · rw [if_pos c3, if_neg (i32_le_nlt.mp c3)]
          exact nx b c t hb hc
        · have c4 : w' 23 < t := by
            by_cases z : w' 23 < t
            · exact z
            · exact absurd (i32_le_nlt.mpr z) c3
          rw [if_neg c3, if_pos c4]
          exact nx i (saC w' 1) (w' 23) (by omega) hs
      · rw [if_neg (fun z => c1 ((I_lt (by omega) (by omega)).mp z)), if_neg (fun z => c2 ((I_inj (by omega) (by omega)).mp z)), if_pos ((I_lt (by omega) (by omega)).mpr (by omega))]
        exact nx b c t hb hc
theorem T_bestRetries {m : MM} {w : Nat → Int32} (hR : R m w) (x h f : MM) {T : Nat} (hT : Rn T (w 23)) : AnsP x h w (D_X9_bestRetries h m f) (D_X10_bestRetries (pw x w)) := by
  refine AnsP.th 0 ?_
  obtain ⟨x1, a1, a2, a3⟩ := aside_s (th x 0) w
  obtain ⟨f1, f', w', x', h', x2, w2, J, q1, q2, q3, q4, q5, q6, q7, q8⟩ := br_s hR hT (i := 0) (by omega) f h x1 (fun _ _ => rfl) a2
  have v5 := q4.r0.vc.2.2.2.2.1
  have hs : saC w' 1 ≤ 40 := Nat.le_trans (cntP_le _ _) v5
  obtain ⟨v, h3, f3, x3, w3, r1, r2, r3, r4, r5⟩ := br_l hR hT 5 1 4999 4999 0 (saC w' 1) (w' 23) f' h' x2 w2 (by omega) (by decide) (by decide) (by omega) hs q7 (fun k hk => by rw [q8 2 k (by omega) (by omega)]; exact a2 k hk)
  have q2 : D_X3_goOn h m (si f1 25 7 (0 : Int32)) = _ := q2
  have q3 : D_X10_runs (1000 : Int32) (pw x1 (upd w 7 (0 : Int32))) = _ := q3
  have c : D_X9_bestRetries h m f = some (v, h3, f3) := by
    rw [← r1]
    unfold D_X9_bestRetries
    rw [bnd_s]
    show D_X9_bestRetries_14 m (4999 + 1) (0 : Int32) (-1 : Int32) (0 : Int32) (0 : Int32) h f = _
    generalize hB : D_X9_bestRetries_14 m 4999 = BB
    unfold D_X9_bestRetries_14
    unfold D_X3_begin
    simp only [bnd_s]
    rw [if_neg (show ¬ mst 7 < (0 : Int32) by decide), q1, b1_s, b1_s, q2, b2_s, filC_e q4, b1_s, if_pos (show (-1 : Int32) < I (saC w' 1) by
      rw [Int32.lt_iff_toInt_lt, I_toInt (by omega), show (-1 : Int32).toInt = -1 by decide]
      omega), q4.r0.s23, hB]
    rfl
  have d : D_X10_bestRetries (pw x w) = some (v, pw x3 w3) := by
    rw [← r2]
    unfold D_X10_bestRetries
    rw [bnd_s, zeroP, a1, b1_s]
    show D_X10_bestRetries_18 (4999 + 1) (-1 : Int32) (0 : Int32) (0 : Int32) (0 : Int32) (pw x1 w) = _
    generalize hB : D_X10_bestRetries_18 4999 = BB
    unfold D_X10_bestRetries_18
    simp only [bnd_s]
    rw [if_neg (show ¬ (5 : Int32) < (0 : Int32) by decide), siP, q3, b2_s, saC_x x' q4.v v5, b1_s, giP, q6, b1_s, if_pos trivial, hB]
    rfl
  exact ⟨v, h3, f3, x3, w3, c, d, r3, q5.tr r4, fun q k hq => by rw [r5 q k (by omega) (by omega), q8 q k (by omega) (by omega), a3 q k (by omega) (by omega)]⟩
