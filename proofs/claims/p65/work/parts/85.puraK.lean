/-! PURE: the dearest spot -/
theorem close_s {m : MM} {w : Nat → Int32} (hR : R m w) {k : Nat} (hk : k < nP w) (c : w (240 + 6 * k + 3) = 0) : ∃ m' : MM, D_X0_close (I k) m = some (1, m') ∧ R m' (upd w (240 + 6 * k + 3) 2) := by
  have v5 := hR.r0.vc.2.2.2.2.1
  unfold D_X0_close
  rw [isOpen_m hR.r0 hk, b1_s, if_pos c, if10, bnd_s]
  refine ⟨_, rfl, stv_s hR hk (by rw [c]; decide) (Or.inr rfl) (fun q j => rfl) (fun q j hq => gl_sl_ne (by omega)) (fun j hj => ?_)⟩
  rw [gl_sl_eq, tb_and, tb_not _ hj, tb_bit (by omega)]
  by_cases e : j = k
  · subst e; simp
  · simp [e]
/-- what the search has so far: the class's pair, the reference's pair -/
def DS (b t b' t' : Int32) : Prop := b = b' ∧ (b = -1 ∧ t = -1 ∨ (∃ k : Nat, k < 40 ∧ b = I k) ∧ t = t' ∧ t ≠ -1)
theorem ds_l {m : MM} {w : Nat → Int32} (hR : R m w) {T : Nat} (hT : Rn T (w 23)) (hT2 : T ≤ 400000000) : ∀ (d i n n' : Nat) (b t b' t' : Int32) (f h x : MM) (w1 : Nat → Int32), i + d = nP w → d < n → d < n' → DS b t b' t' → (∀ k : Nat, k < 640 → w1 k = w k) → (∀ k : Nat, k < 640 → gi x 2 k = w k) → ∃ (v : Int32) (h' f' x2 : MM) (w2 : Nat → Int32), D_X9_dearestSpot_6 m n b t (I i) h f = some (v, h', f') ∧ D_X10_dearestSpot_15 n' b' t' (I i) (pw x w1) = some (v, pw x2 w2) ∧ (∀ k : Nat, k < 640 → w2 k = w k) ∧ HF h h' ∧ XF x x2 := by
  have v5 := hR.r0.vc.2.2.2.2.1
  have hv := hR.v
  intro d
  induction d with
  | zero =>
    intro i n n' b t b' t' f h x w1 hi hn hn' hd e1 h2
    obtain ⟨n, rfl⟩ : ∃ n0 : Nat, n = n0 + 1 := ⟨n - 1, by omega⟩
    obtain ⟨n', rfl⟩ : ∃ n0 : Nat, n' = n0 + 1 := ⟨n' - 1, by omega⟩
    unfold D_X9_dearestSpot_6 D_X10_dearestSpot_15
    rw [giP, e1 19 (by omega), hv.cnt.2.2.2.2.1, hR.r0.n19 hv, if_pos (leT (by omega) (by omega)), if_pos (leT (by omega) (by omega)), ← hd.1]
    exact ⟨_, _, _, _, _, rfl, rfl, e1, HF.rf h, XF.rf x⟩
  | succ d ih =>
    intro i n n' b t b' t' f h x w1 hi hn hn' hd e1 h2
    obtain ⟨n, rfl⟩ : ∃ n0 : Nat, n = n0 + 1 := ⟨n - 1, by omega⟩
    obtain ⟨n', rfl⟩ : ∃ n0 : Nat, n' = n0 + 1 := ⟨n' - 1, by omega⟩
    unfold D_X9_dearestSpot_6 D_X10_dearestSpot_15
    rw [giP, e1 19 (by omega), hv.cnt.2.2.2.2.1, hR.r0.n19 hv, if_neg (leF (by omega) (by omega)), if_neg (leF (by omega) (by omega)), isOpen_m hR.r0 (show i < nP w by omega), b1_s, oSt3P (by omega), b1_s, e1 (240 + 6 * i + 3) (by omega)]
    by_cases c : w (240 + 6 * i + 3) = 0
    · obtain ⟨f1, y1, y2⟩ := copy_s hR f
      obtain ⟨f2, y3, y4⟩ := close_s (y2.cg e1) (k := i) (by rw [nP_e (e1 19 (by omega))]; omega) (by rw [e1 _ (by omega)]; exact c)
      obtain ⟨f', w', x', h', e, x2, w2, q1, q2, q3, q4, q5, q6, q7, q8, q9, q10⟩ := fore_q m y4 x h (T := T) (by rw [upd_ne (by omega), e1 23 (by omega)]; exact hT) h2
      have h2' : ∀ k : Nat, k < 640 → gi x2 2 k = w k := fun k hk => by rw [q10 2 k (by omega) (by omega)]; exact h2 k hk
      have nx : ∀ (b t b' t' : Int32), DS b t b' t' → ∃ (v : Int32) (h3 f3 x3 : MM) (w3 : Nat → Int32), D_X9_dearestSpot_6 m n b t (I (i + 1)) h' f' = some (v, h3, f3) ∧ D_X10_dearestSpot_15 n' b' t' (I (i + 1)) (pw x2 w2) = some (v, pw x3 w3) ∧ (∀ k : Nat, k < 640 → w3 k = w k) ∧ HF h h3 ∧ XF x x3 := fun b t b' t' hd => by
        obtain ⟨v, h3, f3, x3, w3, r1, r2, r3, r4, r5⟩ := ih (i + 1) n n' b t b' t' f' h' x2 w2 (by omega) (by omega) (by omega) hd q9 h2'
        exact ⟨v, h3, f3, x3, w3, r1, r2, r3, q4.tr r4, q10.tr r5⟩
      unfold D_X3_begin
      simp only [bnd_s]
      rw [if_pos c, if10, y1, b1_s, b1_s, y3, b2_s, q1, b2_s, q5, ixs1, if_pos c, poSt3P (by omega), b1_s, q6, b2_s, q8, b1_s]
      by_cases ce : e = -1
      · rw [if_pos ce, if_pos ce]
        exact nx b t b' t' hd
      · rw [if_neg ce, if_neg ce]
        obtain ⟨hb, hd2⟩ := hd
        rcases hd2 with ⟨z1, z2⟩ | ⟨⟨k, hk, z1⟩, z2, z3⟩
        · rw [if_pos z2, if_pos (hb.symm.trans z1)]
          exact nx (I i) e (I i) e ⟨rfl, Or.inr ⟨⟨i, by omega, rfl⟩, rfl, ce⟩⟩
        · rw [if_neg z3, if_neg (show ¬ b' = -1 by rw [← hb, z1]; exact I_ne_neg (by omega))]
          by_cases c3 : t ≤ e
          · rw [if_pos c3, if_neg (show ¬ e < t' by rw [← z2]; exact i32_le_nlt.mp c3)]
            exact nx b t b' t' ⟨hb, Or.inr ⟨⟨k, hk, z1⟩, z2, z3⟩⟩
          · have c4 : e < t' := by
              rw [← z2]
              by_cases z : e < t
              · exact z
              · exact absurd (i32_le_nlt.mpr z) c3
            rw [if_neg c3, if_pos c4]
            exact nx (I i) e (I i) e ⟨rfl, Or.inr ⟨⟨i, by omega, rfl⟩, rfl, ce⟩⟩
    · rw [if_neg c, if00, if_neg c, bnd_s, bnd_s, ixs1]
      exact ih (i + 1) n n' b t b' t' f h x w1 (by omega) (by omega) (by omega) hd e1 h2
theorem T_dearestSpot {m : MM} {w : Nat → Int32} (hR : R m w) (x h f : MM) {T : Nat} (hT : Rn T (w 23)) (hT2 : T ≤ 400000000) : AnsP x h w (D_X9_dearestSpot h m f) (D_X10_dearestSpot (pw x w)) := by
  have v5 := hR.r0.vc.2.2.2.2.1
  refine AnsP.th 0 ?_
  obtain ⟨x1, a1, a2, a3⟩ := aside_s (th x 0) w
  obtain ⟨v, h', f', x2, w2, r1, r2, r3, r4, r5⟩ := ds_l hR hT hT2 (nP w) 0 FU FU (-1) (-1) (-1) 0 f h x1 w (by omega) (by show nP w < 5000; omega) (by show nP w < 5000; omega) ⟨rfl, Or.inl ⟨rfl, rfl⟩⟩ (fun _ _ => rfl) a2
  have r1 : D_X9_dearestSpot_6 m FU (-1 : Int32) (-1 : Int32) (0 : Int32) h f = _ := r1
  have r2 : D_X10_dearestSpot_15 FU (-1 : Int32) (0 : Int32) (0 : Int32) (pw x1 w) = _ := r2
  unfold D_X9_dearestSpot D_X10_dearestSpot
  rw [bnd_s, zeroP, a1, b1_s, r1, r2]
  exact ⟨v, h', f', x2, w2, rfl, rfl, r3, r4, fun q k hq => by rw [r5 q k (by omega) (by omega), a3 q k (by omega) (by omega)]⟩
