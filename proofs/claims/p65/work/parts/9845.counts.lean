/-! PROPERTY: how many spindles, types, kinds, feeders and spots there are stays -/
def CN (m m' : MM) : Prop := gi m' 24 1 = gi m 24 1 ∧ gi m' 24 3 = gi m 24 3 ∧ gi m' 28 0 = gi m 28 0 ∧ gi m' 24 6 = gi m 24 6 ∧ gi m' 36 0 = gi m 36 0
theorem CN.rf (m : MM) : CN m m := ⟨rfl, rfl, rfl, rfl, rfl⟩
theorem CN.tr {a b c : MM} (h : CN a b) (h' : CN b c) : CN a c := ⟨h'.1.trans h.1, h'.2.1.trans h.2.1, h'.2.2.1.trans h.2.2.1, h'.2.2.2.1.trans h.2.2.2.1, h'.2.2.2.2.trans h.2.2.2.2⟩
theorem CN.i_ {m m' : MM} {q k : Nat} {v : Int32} (e : m' = si m q k v) (h1 : q ≠ 24 ∨ (k ≠ 1 ∧ k ≠ 3 ∧ k ≠ 6)) (h2 : q ≠ 28 ∨ k ≠ 0) (h3 : q ≠ 36 ∨ k ≠ 0) : CN m m' := by
  subst e
  exact ⟨gi_si_ne (by omega), gi_si_ne (by omega), gi_si_ne (by omega), gi_si_ne (by omega), gi_si_ne (by omega)⟩
theorem CN.l_ {m m' : MM} {q k : Nat} {v : Int64} (e : m' = sl m q k v) : CN m m' := by
  subst e
  exact ⟨rfl, rfl, rfl, rfl, rfl⟩
theorem CN.R_ {m m' : MM} {q : Nat} {r : Nat → Int64} (e : m' = sR m q r) : CN m m' := by
  subst e
  exact ⟨rfl, rfl, rfl, rfl, rfl⟩
theorem CN.r_ {m m' : MM} {q : Nat} {r : Nat → Int32} (e : m' = sr m q r) (h1 : q ≠ 24) (h2 : q ≠ 28) (h3 : q ≠ 36) : CN m m' := by
  subst e
  have e : ∀ a k : Nat, a ≠ q → gi (sr m q r) a k = gi m a k := fun a k z => by
    show va_up m.1 q r a k = m.1 a k
    unfold va_up
    rw [if_neg z]
  exact ⟨e _ _ (by omega), e _ _ (by omega), e _ _ (by omega), e _ _ (by omega), e _ _ (by omega)⟩

set_option maxHeartbeats 4000000 in
theorem cn_X8_dropPart {q0 : Nat} {m : MM} {m' : MM} (hD : D_X8_dropPart q0 m = some (m')) (haq0 : q0 < 4) : CN m m' := by
  unfold D_X8_dropPart at hD
  obtain ⟨m1, em1, hD⟩ := bnd_el hD
  obtain ⟨m2, em2, hD⟩ := bnd_el hD
  obtain ⟨m3, em3, hD⟩ := bnd_el hD
  cases hD
  exact (CN.tr (CN.tr (CN.tr (CN.rf _) (CN.i_ em1 (by omega) (by omega) (by omega))) (CN.i_ em2 (by omega) (by omega) (by omega))) (CN.i_ em3 (by omega) (by omega) (by omega)))

set_option maxHeartbeats 4000000 in
theorem cn_X2_spliceIfEmpty {q0 : Nat} {m : MM} {rr : Int32} {m' : MM} (hD : D_X2_spliceIfEmpty q0 m = some (rr, m')) (haq0 : 4 ≤ q0) (hbq0 : q0 < 14) : CN m m' := by
  unfold D_X2_spliceIfEmpty at hD
  have c_2 : ∀ (n : Nat), ∀ (q0 : Nat) (x1 : Int32) (m : MM), D_X2_spliceIfEmpty_2 n q0 x1 m = some (rr, m') → 4 ≤ q0 → q0 < 14 → CN m m' := by
    intro n
    induction n with
    | zero =>
      intro q0 x1 m hD haq0 hbq0
      exact nn_el hD
    | succ n ih =>
      intro q0 x1 m hD haq0 hbq0
      rw [D_X2_spliceIfEmpty_2] at hD
      rcases (Classical.em ((gi m q0 2) = 0)).symm with c | c
      · have hD := ifn hD c
        cases hD
        exact (CN.rf _)
      · have hD := ifp hD c
        rcases (Classical.em ((gi m q0 4) ≤ 0)) with c | c
        · have hD := ifp hD c
          cases hD
          exact (CN.rf _)
        · have hD := ifn hD c
          obtain ⟨m1, em1, hD⟩ := bnd_el hD
          obtain ⟨m2, em2, hD⟩ := bnd_el hD
          obtain ⟨h3, hD⟩ := gd_el hD
          obtain ⟨m4, em4, hD⟩ := bnd_el hD
          obtain ⟨m5, em5, hD⟩ := bnd_el hD
          obtain ⟨v6, ev6, hD⟩ := bnd_el hD
          exact CN.tr (CN.tr (CN.tr (CN.tr (CN.tr (CN.rf _) (CN.i_ em1 (by omega) (by omega) (by omega))) (CN.i_ em2 (by omega) (by omega) (by omega))) (CN.r_ em4 (by omega) (by omega) (by omega))) (CN.i_ em5 (by omega) (by omega) (by omega))) (ih _ _ _ hD haq0 hbq0)
  exact CN.tr (CN.rf _) (c_2 FU _ _ _ hD haq0 hbq0)

set_option maxHeartbeats 4000000 in
theorem cn_X2_addReel {q0 : Nat} {x1 : Int32} {m : MM} {m' : MM} (hD : D_X2_addReel q0 x1 m = some (m')) (haq0 : 4 ≤ q0) (hbq0 : q0 < 14) : CN m m' := by
  unfold D_X2_addReel at hD
  rcases (Classical.em ((3 : Int32) ≤ (gi m q0 4))) with c | c
  · have hD := ifp hD c
    cases hD
    exact (CN.rf _)
  · have hD := ifn hD c
    obtain ⟨h1, hD⟩ := gd_el hD
    obtain ⟨m2, em2, hD⟩ := bnd_el hD
    obtain ⟨m3, em3, hD⟩ := bnd_el hD
    cases hD
    exact (CN.tr (CN.tr (CN.rf _) (CN.i_ em2 (by omega) (by omega) (by omega))) (CN.i_ em3 (by omega) (by omega) (by omega)))

set_option maxHeartbeats 4000000 in
theorem cn_X2_removeLastReel {q0 : Nat} {m : MM} {rr : Int32} {m' : MM} (hD : D_X2_removeLastReel q0 m = some (rr, m')) (haq0 : 4 ≤ q0) (hbq0 : q0 < 14) : CN m m' := by
  unfold D_X2_removeLastReel at hD
  rcases (Classical.em (0 < (gi m q0 4))) with c | c
  · have hD := ifp hD c
    obtain ⟨m1, em1, hD⟩ := bnd_el hD
    obtain ⟨h2, hD⟩ := gd_el hD
    cases hD
    exact (CN.tr (CN.rf _) (CN.i_ em1 (by omega) (by omega) (by omega)))
  · have hD := ifn hD c
    cases hD
    exact (CN.rf _)

set_option maxHeartbeats 4000000 in
theorem cn_X0_close {x1 : Int32} {m : MM} {rr : Int32} {m' : MM} (hD : D_X0_close x1 m = some (rr, m'))  : CN m m' := by
  unfold D_X0_close at hD
  obtain ⟨v1, z2, hD⟩ := b1_el hD
  rcases (Classical.em (v1 = 0)).symm with c | c
  · have hD := ifn hD c
    obtain ⟨m3, em3, hD⟩ := bnd_el hD
    cases hD
    exact (CN.tr (CN.rf _) (CN.l_ em3))
  · have hD := ifp hD c
    cases hD
    exact (CN.rf _)

set_option maxHeartbeats 4000000 in
theorem cn_X0_reopen {x1 : Int32} {m : MM} {rr : Int32} {m' : MM} (hD : D_X0_reopen x1 m = some (rr, m'))  : CN m m' := by
  unfold D_X0_reopen at hD
  obtain ⟨v1, z2, hD⟩ := b1_el hD
  rcases (Classical.em (v1 = 0)).symm with c | c
  · have hD := ifn hD c
    cases hD
    exact (CN.rf _)
  · have hD := ifp hD c
    obtain ⟨v3, z4, hD⟩ := b1_el hD
    rcases (Classical.em (v3 = 0)) with c | c
    · have hD := ifp hD c
      obtain ⟨m5, em5, hD⟩ := bnd_el hD
      cases hD
      exact (CN.tr (CN.rf _) (CN.l_ em5))
    · have hD := ifn hD c
      cases hD
      exact (CN.rf _)

set_option maxHeartbeats 4000000 in
theorem cn_X0_fill {x1 : Int32} {x2 : Int32} {x3 : Int32} {m : MM} {m' : MM} (hD : D_X0_fill x1 x2 x3 m = some (m'))  : CN m m' := by
  unfold D_X0_fill at hD
  obtain ⟨m1, em1, hD⟩ := bnd_el hD
  obtain ⟨m2, em2, hD⟩ := bnd_el hD
  obtain ⟨h3, hD⟩ := gd_el hD
  obtain ⟨m4, em4, hD⟩ := bnd_el hD
  obtain ⟨h5, hD⟩ := gd_el hD
  obtain ⟨m6, em6, hD⟩ := bnd_el hD
  cases hD
  exact (CN.tr (CN.tr (CN.tr (CN.tr (CN.rf _) (CN.l_ em1)) (CN.l_ em2)) (CN.i_ em4 (by omega) (by omega) (by omega))) (CN.i_ em6 (by omega) (by omega) (by omega)))

set_option maxHeartbeats 4000000 in
theorem cn_X0_reopenFilled {m : MM} {rr : Int32} {m' : MM} (hD : D_X0_reopenFilled m = some (rr, m'))  : CN m m' := by
  unfold D_X0_reopenFilled at hD
  obtain ⟨v1, z2, hD⟩ := b1_el hD
  obtain ⟨m3, em3, hD⟩ := bnd_el hD
  obtain ⟨m4, em4, hD⟩ := bnd_el hD
  cases hD
  exact (CN.tr (CN.tr (CN.rf _) (CN.l_ em3)) (CN.l_ em4))

set_option maxHeartbeats 4000000 in
theorem cn_X4_note {x1 : Int32} {x2 : Int32} {x3 : Int32} {m : MM} {m' : MM} (hD : D_X4_note x1 x2 x3 m = some (m'))  : CN m m' := by
  unfold D_X4_note at hD
  obtain ⟨v1, ev1, hD⟩ := bnd_el hD
  obtain ⟨h2, hD⟩ := gd_el hD
  obtain ⟨m3, em3, hD⟩ := bnd_el hD
  obtain ⟨h4, hD⟩ := gd_el hD
  obtain ⟨m5, em5, hD⟩ := bnd_el hD
  obtain ⟨h6, hD⟩ := gd_el hD
  obtain ⟨m7, em7, hD⟩ := bnd_el hD
  rcases (Classical.em ((40 : Int32) ≤ (gi m7 45 0))) with c | c
  · have hD := ifp hD c
    obtain ⟨m8, em8, hD⟩ := bnd_el hD
    cases hD
    exact (CN.tr (CN.tr (CN.tr (CN.tr (CN.rf _) (CN.i_ em3 (by omega) (by omega) (by omega))) (CN.i_ em5 (by omega) (by omega) (by omega))) (CN.i_ em7 (by omega) (by omega) (by omega))) (CN.i_ em8 (by omega) (by omega) (by omega)))
  · have hD := ifn hD c
    obtain ⟨m9, em9, hD⟩ := bnd_el hD
    cases hD
    exact (CN.tr (CN.tr (CN.tr (CN.tr (CN.rf _) (CN.i_ em3 (by omega) (by omega) (by omega))) (CN.i_ em5 (by omega) (by omega) (by omega))) (CN.i_ em7 (by omega) (by omega) (by omega))) (CN.i_ em9 (by omega) (by omega) (by omega)))

set_option maxHeartbeats 4000000 in
theorem cn_X6_draw {m : MM} {rr : Int32} {m' : MM} (hD : D_X6_draw m = some (rr, m'))  : CN m m' := by
  unfold D_X6_draw at hD
  obtain ⟨m1, em1, hD⟩ := bnd_el hD
  cases hD
  exact (CN.tr (CN.rf _) (CN.i_ em1 (by omega) (by omega) (by omega)))

set_option maxHeartbeats 4000000 in
theorem cn_X6_goTo {x1 : Int32} {x2 : Int32} {x3 : Int32} {m : MM} {m' : MM} (hD : D_X6_goTo x1 x2 x3 m = some (m'))  : CN m m' := by
  unfold D_X6_goTo at hD
  obtain ⟨v1, z2, hD⟩ := b1_el hD
  obtain ⟨m3, em3, hD⟩ := bnd_el hD
  obtain ⟨m4, em4, hD⟩ := bnd_el hD
  obtain ⟨m5, em5, hD⟩ := bnd_el hD
  cases hD
  exact (CN.tr (CN.tr (CN.tr (CN.rf _) (CN.i_ em3 (by omega) (by omega) (by omega))) (CN.i_ em4 (by omega) (by omega) (by omega))) (CN.i_ em5 (by omega) (by omega) (by omega)))

set_option maxHeartbeats 4000000 in
theorem cn_X6_changeTo {q1 : Nat} {x2 : Int32} {m : MM} {m' : MM} (hD : D_X6_changeTo q1 x2 m = some (m')) (haq1 : q1 < 4) : CN m m' := by
  unfold D_X6_changeTo at hD
  have c_33 : ∀ (q1 : Nat) (x2 : Int32) (m : MM), D_X6_changeTo_33 q1 x2 m = some (m') → q1 < 4 → CN m m' := by
    intro q1 x2 m hD haq1
    unfold D_X6_changeTo_33 at hD
    obtain ⟨h3, hD⟩ := gd_el hD
    obtain ⟨h4, hD⟩ := gd_el hD
    obtain ⟨m5, em5, hD⟩ := bnd_el hD
    obtain ⟨m6, em6, hD⟩ := bnd_el hD
    obtain ⟨m7, em7, hD⟩ := bnd_el hD
    obtain ⟨m8, em8, hD⟩ := bnd_el hD
    cases hD
    exact (CN.tr (CN.tr (CN.tr (CN.tr (CN.rf _) (CN.i_ em5 (by omega) (by omega) (by omega))) (CN.i_ em6 (by omega) (by omega) (by omega))) (CN.i_ em7 (by omega) (by omega) (by omega))) (CN.i_ em8 (by omega) (by omega) (by omega)))
  obtain ⟨m1, z2, hD⟩ := b1_el hD
  rcases (Classical.em ((gi m1 q1 0) = (-1 : Int32))) with c | c
  · have hD := ifp hD c
    exact CN.tr (CN.tr (CN.rf _) (cn_X6_goTo z2)) (c_33 _ _ _ hD haq1)
  · have hD := ifn hD c
    obtain ⟨v9, ev9, hD⟩ := bnd_el hD
    obtain ⟨h10, hD⟩ := gd_el hD
    obtain ⟨h11, hD⟩ := gd_el hD
    obtain ⟨m12, em12, hD⟩ := bnd_el hD
    exact CN.tr (CN.tr (CN.tr (CN.rf _) (cn_X6_goTo z2)) (CN.i_ em12 (by omega) (by omega) (by omega))) (c_33 _ _ _ hD haq1)

set_option maxHeartbeats 4000000 in
theorem cn_X6_reject {q1 : Nat} {m : MM} {m' : MM} (hD : D_X6_reject q1 m = some (m')) (haq1 : q1 < 4) : CN m m' := by
  unfold D_X6_reject at hD
  obtain ⟨v1, ev1, hD⟩ := bnd_el hD
  obtain ⟨h2, hD⟩ := gd_el hD
  obtain ⟨h3, hD⟩ := gd_el hD
  obtain ⟨m4, em4, hD⟩ := bnd_el hD
  obtain ⟨m5, em5, hD⟩ := bnd_el hD
  obtain ⟨m6, z7, hD⟩ := b1_el hD
  cases hD
  exact (CN.tr (CN.tr (CN.tr (CN.rf _) (CN.i_ em4 (by omega) (by omega) (by omega))) (CN.i_ em5 (by omega) (by omega) (by omega))) (cn_X8_dropPart z7 (by omega)))

set_option maxHeartbeats 4000000 in
theorem cn_X6_pickFrom {q1 : Nat} {q2 : Nat} {m : MM} {rr : Int32} {m' : MM} (hD : D_X6_pickFrom q1 q2 m = some (rr, m')) (haq1 : q1 < 4) (haq2 : 4 ≤ q2) (hbq2 : q2 < 14) : CN m m' := by
  unfold D_X6_pickFrom at hD
  have c_144 : ∀ (q2 : Nat) (x4 : Int32) (m : MM), D_X6_pickFrom_144 q2 x4 m = some (rr, m') → 4 ≤ q2 → q2 < 14 → CN m m' := by
    intro q2 x4 m hD haq2 hbq2
    unfold D_X6_pickFrom_144 at hD
    obtain ⟨v13, m14, z15, hD⟩ := b2_el hD
    obtain ⟨m16, em16, hD⟩ := bnd_el hD
    rcases (Classical.em (x4 = 0)) with c | c
    · have hD := ifp hD c
      cases hD
      exact (CN.tr (CN.tr (CN.rf _) (cn_X2_spliceIfEmpty z15 (by omega) (by omega))) (CN.i_ em16 (by omega) (by omega) (by omega)))
    · have hD := ifn hD c
      cases hD
      exact (CN.tr (CN.tr (CN.rf _) (cn_X2_spliceIfEmpty z15 (by omega) (by omega))) (CN.i_ em16 (by omega) (by omega) (by omega)))
  have c_70 : ∀ (q1 : Nat) (q2 : Nat) (xt0 : Int32) (m : MM), D_X6_pickFrom_70 q1 q2 xt0 m = some (rr, m') → q1 < 4 → 4 ≤ q2 → q2 < 14 → CN m m' := by
    intro q1 q2 xt0 m hD haq1 haq2 hbq2
    unfold D_X6_pickFrom_70 at hD
    obtain ⟨m9, em9, hD⟩ := bnd_el hD
    obtain ⟨m10, em10, hD⟩ := bnd_el hD
    rcases (Classical.em (xt0 = 0)) with c | c
    · have hD := ifp hD c
      obtain ⟨m11, em11, hD⟩ := bnd_el hD
      obtain ⟨m12, em12, hD⟩ := bnd_el hD
      exact CN.tr (CN.tr (CN.tr (CN.tr (CN.tr (CN.rf _) (CN.i_ em9 (by omega) (by omega) (by omega))) (CN.i_ em10 (by omega) (by omega) (by omega))) (CN.i_ em11 (by omega) (by omega) (by omega))) (CN.i_ em12 (by omega) (by omega) (by omega))) (c_144 _ _ _ hD haq2 hbq2)
    · have hD := ifn hD c
      obtain ⟨m17, em17, hD⟩ := bnd_el hD
      obtain ⟨v18, ev18, hD⟩ := bnd_el hD
      obtain ⟨h19, hD⟩ := gd_el hD
      obtain ⟨h20, hD⟩ := gd_el hD
      obtain ⟨m21, em21, hD⟩ := bnd_el hD
      exact CN.tr (CN.tr (CN.tr (CN.tr (CN.tr (CN.rf _) (CN.i_ em9 (by omega) (by omega) (by omega))) (CN.i_ em10 (by omega) (by omega) (by omega))) (CN.i_ em17 (by omega) (by omega) (by omega))) (CN.i_ em21 (by omega) (by omega) (by omega))) (c_144 _ _ _ hD haq2 hbq2)
  obtain ⟨m1, z2, hD⟩ := b1_el hD
  rcases (Classical.em ((gi m1 q2 8) = 0)) with c | c
  · have hD := ifp hD c
    obtain ⟨v3, z4, hD⟩ := b1_el hD
    rcases (Classical.em (v3 = 0)) with c | c
    · have hD := ifp hD c
      obtain ⟨v5, ev5, hD⟩ := bnd_el hD
      obtain ⟨v6, m7, z8, hD⟩ := b2_el hD
      rcases (Classical.em (v5 ≤ v6)) with c | c
      · have hD := ifp hD c
        exact CN.tr (CN.tr (CN.tr (CN.rf _) (cn_X6_goTo z2)) (cn_X6_draw z8)) (c_70 _ _ _ _ hD haq1 haq2 hbq2)
      · have hD := ifn hD c
        exact CN.tr (CN.tr (CN.tr (CN.rf _) (cn_X6_goTo z2)) (cn_X6_draw z8)) (c_70 _ _ _ _ hD haq1 haq2 hbq2)
    · have hD := ifn hD c
      obtain ⟨v22, ev22, hD⟩ := bnd_el hD
      obtain ⟨v23, m24, z25, hD⟩ := b2_el hD
      rcases (Classical.em (v22 ≤ v23)) with c | c
      · have hD := ifp hD c
        exact CN.tr (CN.tr (CN.tr (CN.rf _) (cn_X6_goTo z2)) (cn_X6_draw z25)) (c_70 _ _ _ _ hD haq1 haq2 hbq2)
      · have hD := ifn hD c
        exact CN.tr (CN.tr (CN.tr (CN.rf _) (cn_X6_goTo z2)) (cn_X6_draw z25)) (c_70 _ _ _ _ hD haq1 haq2 hbq2)
  · have hD := ifn hD c
    obtain ⟨m26, em26, hD⟩ := bnd_el hD
    cases hD
    exact (CN.tr (CN.tr (CN.rf _) (cn_X6_goTo z2)) (CN.i_ em26 (by omega) (by omega) (by omega)))

set_option maxHeartbeats 4000000 in
theorem cn_X6_lookAt {q1 : Nat} {m : MM} {rr : Int32} {m' : MM} (hD : D_X6_lookAt q1 m = some (rr, m')) (haq1 : q1 < 4) : CN m m' := by
  unfold D_X6_lookAt at hD
  have c_108 : ∀ (q1 : Nat) (m : MM), D_X6_lookAt_108 q1 m = some (rr, m') → q1 < 4 → CN m m' := by
    intro q1 m hD haq1
    unfold D_X6_lookAt_108 at hD
    obtain ⟨m7, z8, hD⟩ := b1_el hD
    obtain ⟨m9, em9, hD⟩ := bnd_el hD
    rcases (Classical.em ((gi m9 25 11) ≤ 0)) with c | c
    · have hD := ifp hD c
      cases hD
      exact (CN.tr (CN.tr (CN.rf _) (cn_X6_reject z8 (by omega))) (CN.i_ em9 (by omega) (by omega) (by omega)))
    · have hD := ifn hD c
      rcases (Classical.em ((gi m9 24 14) < (gi m9 25 11))) with c | c
      · have hD := ifp hD c
        cases hD
        exact (CN.tr (CN.tr (CN.rf _) (cn_X6_reject z8 (by omega))) (CN.i_ em9 (by omega) (by omega) (by omega)))
      · have hD := ifn hD c
        obtain ⟨m10, em10, hD⟩ := bnd_el hD
        cases hD
        exact (CN.tr (CN.tr (CN.tr (CN.rf _) (cn_X6_reject z8 (by omega))) (CN.i_ em9 (by omega) (by omega) (by omega))) (CN.i_ em10 (by omega) (by omega) (by omega)))
  obtain ⟨m1, z2, hD⟩ := b1_el hD
  obtain ⟨m3, em3, hD⟩ := bnd_el hD
  obtain ⟨v4, m5, z6, hD⟩ := b2_el hD
  rcases (Classical.em ((gi m5 25 5) ≤ v4)) with c | c
  · have hD := ifp hD c
    rcases (Classical.em (((gi m5 25 5) + (gi m5 25 6)) ≤ v4)) with c | c
    · have hD := ifp hD c
      exact CN.tr (CN.tr (CN.tr (CN.tr (CN.rf _) (cn_X6_goTo z2)) (CN.i_ em3 (by omega) (by omega) (by omega))) (cn_X6_draw z6)) (c_108 _ _ hD haq1)
    · have hD := ifn hD c
      rcases (Classical.em ((gi m5 25 7) < (gi m5 q1 3))) with c | c
      · have hD := ifp hD c
        exact CN.tr (CN.tr (CN.tr (CN.tr (CN.rf _) (cn_X6_goTo z2)) (CN.i_ em3 (by omega) (by omega) (by omega))) (cn_X6_draw z6)) (c_108 _ _ hD haq1)
      · have hD := ifn hD c
        cases hD
        exact (CN.tr (CN.tr (CN.tr (CN.rf _) (cn_X6_goTo z2)) (CN.i_ em3 (by omega) (by omega) (by omega))) (cn_X6_draw z6))
  · have hD := ifn hD c
    obtain ⟨m11, em11, hD⟩ := bnd_el hD
    obtain ⟨m12, em12, hD⟩ := bnd_el hD
    obtain ⟨m13, em13, hD⟩ := bnd_el hD
    cases hD
    exact (CN.tr (CN.tr (CN.tr (CN.tr (CN.tr (CN.tr (CN.rf _) (cn_X6_goTo z2)) (CN.i_ em3 (by omega) (by omega) (by omega))) (cn_X6_draw z6)) (CN.i_ em11 (by omega) (by omega) (by omega))) (CN.i_ em12 (by omega) (by omega) (by omega))) (CN.i_ em13 (by omega) (by omega) (by omega)))

set_option maxHeartbeats 4000000 in
theorem cn_X6_putOn {q1 : Nat} {x2 : Int32} {x3 : Int32} {m : MM} {m' : MM} (hD : D_X6_putOn q1 x2 x3 m = some (m')) (haq1 : q1 < 4) : CN m m' := by
  unfold D_X6_putOn at hD
  obtain ⟨h1, hD⟩ := gd_el hD
  obtain ⟨h2, hD⟩ := gd_el hD
  obtain ⟨m3, z4, hD⟩ := b1_el hD
  obtain ⟨m5, z6, hD⟩ := b1_el hD
  obtain ⟨v7, ev7, hD⟩ := bnd_el hD
  obtain ⟨h8, hD⟩ := gd_el hD
  obtain ⟨h9, hD⟩ := gd_el hD
  obtain ⟨m10, em10, hD⟩ := bnd_el hD
  obtain ⟨m11, em11, hD⟩ := bnd_el hD
  obtain ⟨m12, z13, hD⟩ := b1_el hD
  cases hD
  exact (CN.tr (CN.tr (CN.tr (CN.tr (CN.tr (CN.rf _) (cn_X6_goTo z4)) (cn_X0_fill z6)) (CN.i_ em10 (by omega) (by omega) (by omega))) (CN.i_ em11 (by omega) (by omega) (by omega))) (cn_X8_dropPart z13 (by omega)))

set_option maxHeartbeats 4000000 in
theorem cn_X6_cleanOf {q1 : Nat} {m : MM} {m' : MM} (hD : D_X6_cleanOf q1 m = some (m')) (haq1 : q1 < 4) : CN m m' := by
  unfold D_X6_cleanOf at hD
  obtain ⟨m1, z2, hD⟩ := b1_el hD
  obtain ⟨m3, em3, hD⟩ := bnd_el hD
  cases hD
  exact (CN.tr (CN.tr (CN.rf _) (cn_X6_goTo z2)) (CN.i_ em3 (by omega) (by omega) (by omega)))

set_option maxHeartbeats 4000000 in
theorem cn_X6_perform {x1 : Int32} {x2 : Int32} {x3 : Int32} {m : MM} {rr : Int32} {m' : MM} (hD : D_X6_perform x1 x2 x3 m = some (rr, m'))  : CN m m' := by
  unfold D_X6_perform at hD
  have c_116 : ∀ (x1 : Int32) (x2 : Int32) (x3 : Int32) (x5 : Int32) (x6 : Int32) (m : MM), D_X6_perform_116 x1 x2 x3 x5 x6 m = some (rr, m') → CN m m' := by
    intro x1 x2 x3 x5 x6 m hD
    unfold D_X6_perform_116 at hD
    obtain ⟨v6, z7, hD⟩ := b1_el hD
    obtain ⟨m8, z9, hD⟩ := b1_el hD
    obtain ⟨h10, hD⟩ := gd_el hD
    obtain ⟨h11, hD⟩ := gd_el hD
    obtain ⟨m12, em12, hD⟩ := bnd_el hD
    obtain ⟨h13, hD⟩ := gd_el hD
    obtain ⟨h14, hD⟩ := gd_el hD
    obtain ⟨m15, em15, hD⟩ := bnd_el hD
    cases hD
    exact (CN.tr (CN.tr (CN.tr (CN.rf _) (cn_X4_note z9)) (CN.i_ em12 (by omega) (by omega) (by omega))) (CN.i_ em15 (by omega) (by omega) (by omega)))
  obtain ⟨h1, hD⟩ := gd_el hD
  have hq2 : x2.toNatClampNeg < 4 := Nat.lt_of_not_le (fun z => h1 (Or.inr z))
  obtain ⟨v3, ev3, hD⟩ := bnd_el hD
  by_cases sw18_1 : x1 = (1 : Int32)
  · have hD := ifp hD sw18_1
    obtain ⟨m4, z5, hD⟩ := b1_el hD
    exact CN.tr (CN.tr (CN.rf _) (cn_X6_changeTo z5 (by omega))) (c_116 _ _ _ _ _ _ hD)
  · have hD := ifn hD sw18_1
    by_cases sw18_2 : x1 = (2 : Int32)
    · have hD := ifp hD sw18_2
      obtain ⟨h16, hD⟩ := gd_el hD
      have hq17a : 4 ≤ 4 + x3.toNatClampNeg := Nat.le_add_right _ _
      have hq17b : 4 + x3.toNatClampNeg < 14 := Nat.add_lt_add_left (Nat.lt_of_not_le (fun z => h16 (Or.inr z))) 4
      obtain ⟨v18, m19, z20, hD⟩ := b2_el hD
      exact CN.tr (CN.tr (CN.rf _) (cn_X6_pickFrom z20 (by omega) (by omega) (by omega))) (c_116 _ _ _ _ _ _ hD)
    · have hD := ifn hD sw18_2
      by_cases sw18_3 : x1 = (3 : Int32)
      · have hD := ifp hD sw18_3
        obtain ⟨v21, m22, z23, hD⟩ := b2_el hD
        exact CN.tr (CN.tr (CN.rf _) (cn_X6_lookAt z23 (by omega))) (c_116 _ _ _ _ _ _ hD)
      · have hD := ifn hD sw18_3
        by_cases sw18_4 : x1 = (4 : Int32)
        · have hD := ifp hD sw18_4
          obtain ⟨m24, z25, hD⟩ := b1_el hD
          exact CN.tr (CN.tr (CN.rf _) (cn_X6_putOn z25 (by omega))) (c_116 _ _ _ _ _ _ hD)
        · have hD := ifn hD sw18_4
          by_cases sw18_5 : x1 = (5 : Int32)
          · have hD := ifp hD sw18_5
            obtain ⟨m26, z27, hD⟩ := b1_el hD
            exact CN.tr (CN.tr (CN.rf _) (cn_X6_reject z27 (by omega))) (c_116 _ _ _ _ _ _ hD)
          · have hD := ifn hD sw18_5
            obtain ⟨m28, z29, hD⟩ := b1_el hD
            exact CN.tr (CN.tr (CN.rf _) (cn_X6_cleanOf z29 (by omega))) (c_116 _ _ _ _ _ _ hD)

set_option maxHeartbeats 4000000 in
theorem cn_X7_follow {q0 : Nat} {h : MM} {m : MM} {rr : Int32} {h' : MM} {m' : MM} (hD : D_X7_follow q0 h m = some (rr, h', m')) (haq0 : 1 ≤ q0) (hbq0 : q0 < 3) : CN m m' := by
  unfold D_X7_follow at hD
  obtain ⟨v1, m2, z3, hD⟩ := b2_el hD
  rcases (Classical.em (v1 = 0)) with c | c
  · have hD := ifp hD c
    cases hD
    exact (CN.rf _)
  · have hD := ifn hD c
    obtain ⟨v4, m5, z6, hD⟩ := b2_el hD
    cases hD
    exact (CN.tr (CN.rf _) (cn_X6_perform z6))

set_option maxHeartbeats 4000000 in
theorem cn_X9_changeNozzle {x1 : Int32} {x2 : Int32} {h : MM} {m : MM} {rr : Int32} {m' : MM} (hD : D_X9_changeNozzle x1 x2 h m = some (.inr (rr, m')))  : CN m m' := by
  unfold D_X9_changeNozzle at hD
  obtain ⟨u_, z1, hD⟩ := bX_el hD
  obtain ⟨u_, z2, hD⟩ := bX_el hD
  have hD := lif_el hD
  obtain ⟨h3, hD⟩ := gd_el hD
  have hq4 : x1.toNatClampNeg < 4 := Nat.lt_of_not_le (fun z => h3 (Or.inr z))
  rcases (Classical.em ((gi m x1.toNatClampNeg 1) = (-1 : Int32))) with c | c
  · have hD := ifp hD c
    rcases (Classical.em ((gi m x1.toNatClampNeg 0) = x2)).symm with c | c
    · have hD := ifn hD c
      obtain ⟨h5, hD⟩ := gd_el hD
      rcases (Classical.em ((gi m 27 x2.toNatClampNeg) = 0)).symm with c | c
      · have hD := ifn hD c
        obtain ⟨v6, m7, z8, hD⟩ := b2_el hD
        obtain ⟨rfl, rfl⟩ := es2 hD
        exact (CN.tr (CN.rf _) (cn_X6_perform z8))
      · have hD := ifp hD c
        obtain ⟨rfl, rfl⟩ := es2 hD
        exact (CN.rf _)
    · have hD := ifp hD c
      obtain ⟨rfl, rfl⟩ := es2 hD
      exact (CN.rf _)
  · have hD := ifn hD c
    obtain ⟨rfl, rfl⟩ := es2 hD
    exact (CN.rf _)

set_option maxHeartbeats 4000000 in
theorem cn_X9_pick {x1 : Int32} {x2 : Int32} {h : MM} {m : MM} {rr : Int32} {m' : MM} (hD : D_X9_pick x1 x2 h m = some (.inr (rr, m')))  : CN m m' := by
  unfold D_X9_pick at hD
  obtain ⟨u_, z1, hD⟩ := bX_el hD
  obtain ⟨u_, z2, hD⟩ := bX_el hD
  have hD := lif_el hD
  obtain ⟨h3, hD⟩ := gd_el hD
  have hq4 : x1.toNatClampNeg < 4 := Nat.lt_of_not_le (fun z => h3 (Or.inr z))
  obtain ⟨h5, hD⟩ := gd_el hD
  have hq6a : 4 ≤ 4 + x2.toNatClampNeg := Nat.le_add_right _ _
  have hq6b : 4 + x2.toNatClampNeg < 14 := Nat.add_lt_add_left (Nat.lt_of_not_le (fun z => h5 (Or.inr z))) 4
  rcases (Classical.em ((gi m x1.toNatClampNeg 1) = (-1 : Int32))) with c | c
  · have hD := ifp hD c
    obtain ⟨h7, hD⟩ := gd_el hD
    rcases (Classical.em ((gi m x1.toNatClampNeg 0) = (gi m 29 ((gi m (4 + x2.toNatClampNeg) 0).toNatClampNeg)))) with c | c
    · have hD := ifp hD c
      rcases (Classical.em ((gi m (4 + x2.toNatClampNeg) 2) = 0)).symm with c | c
      · have hD := ifn hD c
        obtain ⟨v8, m9, z10, hD⟩ := b2_el hD
        obtain ⟨rfl, rfl⟩ := es2 hD
        exact (CN.tr (CN.rf _) (cn_X6_perform z10))
      · have hD := ifp hD c
        obtain ⟨rfl, rfl⟩ := es2 hD
        exact (CN.rf _)
    · have hD := ifn hD c
      obtain ⟨rfl, rfl⟩ := es2 hD
      exact (CN.rf _)
  · have hD := ifn hD c
    obtain ⟨rfl, rfl⟩ := es2 hD
    exact (CN.rf _)

set_option maxHeartbeats 4000000 in
theorem cn_X9_look {x1 : Int32} {h : MM} {m : MM} {rr : Int32} {m' : MM} (hD : D_X9_look x1 h m = some (.inr (rr, m')))  : CN m m' := by
  unfold D_X9_look at hD
  obtain ⟨u_, z1, hD⟩ := bX_el hD
  have hD := lif_el hD
  obtain ⟨h2, hD⟩ := gd_el hD
  have hq3 : x1.toNatClampNeg < 4 := Nat.lt_of_not_le (fun z => h2 (Or.inr z))
  rcases (Classical.em ((gi m x1.toNatClampNeg 1) = (-1 : Int32))) with c | c
  · have hD := ifp hD c
    obtain ⟨rfl, rfl⟩ := es2 hD
    exact (CN.rf _)
  · have hD := ifn hD c
    rcases (Classical.em ((gi m x1.toNatClampNeg 2) = 0)) with c | c
    · have hD := ifp hD c
      obtain ⟨v4, m5, z6, hD⟩ := b2_el hD
      obtain ⟨rfl, rfl⟩ := es2 hD
      exact (CN.tr (CN.rf _) (cn_X6_perform z6))
    · have hD := ifn hD c
      obtain ⟨rfl, rfl⟩ := es2 hD
      exact (CN.rf _)

set_option maxHeartbeats 4000000 in
theorem cn_X9_place {x1 : Int32} {x2 : Int32} {h : MM} {m : MM} {rr : Int32} {m' : MM} (hD : D_X9_place x1 x2 h m = some (.inr (rr, m')))  : CN m m' := by
  unfold D_X9_place at hD
  obtain ⟨u_, z1, hD⟩ := bX_el hD
  obtain ⟨u_, z2, hD⟩ := bX_el hD
  have hD := lif_el hD
  obtain ⟨h3, hD⟩ := gd_el hD
  have hq4 : x1.toNatClampNeg < 4 := Nat.lt_of_not_le (fun z => h3 (Or.inr z))
  rcases (Classical.em ((gi m x1.toNatClampNeg 1) = (-1 : Int32))) with c | c
  · have hD := ifp hD c
    obtain ⟨rfl, rfl⟩ := es2 hD
    exact (CN.rf _)
  · have hD := ifn hD c
    rcases (Classical.em ((gi m x1.toNatClampNeg 2) = 0)) with c | c
    · have hD := ifp hD c
      obtain ⟨rfl, rfl⟩ := es2 hD
      exact (CN.rf _)
    · have hD := ifn hD c
      obtain ⟨v5, z6, hD⟩ := b1_el hD
      rcases (Classical.em (v5 = 0)).symm with c | c
      · have hD := ifn hD c
        obtain ⟨h7, hD⟩ := gd_el hD
        rcases (Classical.em ((gi m x1.toNatClampNeg 1) = (gi m 37 x2.toNatClampNeg))) with c | c
        · have hD := ifp hD c
          obtain ⟨v8, z9, hD⟩ := b1_el hD
          rcases (Classical.em ((v8 &&& (gl m 36 7)) = (0 : Int64))) with c | c
          · have hD := ifp hD c
            obtain ⟨v10, m11, z12, hD⟩ := b2_el hD
            obtain ⟨rfl, rfl⟩ := es2 hD
            exact (CN.tr (CN.rf _) (cn_X6_perform z12))
          · have hD := ifn hD c
            obtain ⟨rfl, rfl⟩ := es2 hD
            exact (CN.rf _)
        · have hD := ifn hD c
          obtain ⟨rfl, rfl⟩ := es2 hD
          exact (CN.rf _)
      · have hD := ifp hD c
        obtain ⟨rfl, rfl⟩ := es2 hD
        exact (CN.rf _)

set_option maxHeartbeats 4000000 in
theorem cn_X9_discard {x1 : Int32} {h : MM} {m : MM} {rr : Int32} {m' : MM} (hD : D_X9_discard x1 h m = some (.inr (rr, m')))  : CN m m' := by
  unfold D_X9_discard at hD
  obtain ⟨u_, z1, hD⟩ := bX_el hD
  have hD := lif_el hD
  obtain ⟨h2, hD⟩ := gd_el hD
  have hq3 : x1.toNatClampNeg < 4 := Nat.lt_of_not_le (fun z => h2 (Or.inr z))
  rcases (Classical.em ((gi m x1.toNatClampNeg 1) = (-1 : Int32))).symm with c | c
  · have hD := ifn hD c
    obtain ⟨v4, m5, z6, hD⟩ := b2_el hD
    obtain ⟨rfl, rfl⟩ := es2 hD
    exact (CN.tr (CN.rf _) (cn_X6_perform z6))
  · have hD := ifp hD c
    obtain ⟨rfl, rfl⟩ := es2 hD
    exact (CN.rf _)

set_option maxHeartbeats 4000000 in
theorem cn_X9_clean {x1 : Int32} {h : MM} {m : MM} {rr : Int32} {m' : MM} (hD : D_X9_clean x1 h m = some (.inr (rr, m')))  : CN m m' := by
  unfold D_X9_clean at hD
  obtain ⟨u_, z1, hD⟩ := bX_el hD
  have hD := lif_el hD
  obtain ⟨h2, hD⟩ := gd_el hD
  have hq3 : x1.toNatClampNeg < 4 := Nat.lt_of_not_le (fun z => h2 (Or.inr z))
  rcases (Classical.em ((gi m x1.toNatClampNeg 1) = (-1 : Int32))) with c | c
  · have hD := ifp hD c
    rcases (Classical.em ((gi m x1.toNatClampNeg 0) = (-1 : Int32))).symm with c | c
    · have hD := ifn hD c
      obtain ⟨v4, m5, z6, hD⟩ := b2_el hD
      obtain ⟨rfl, rfl⟩ := es2 hD
      exact (CN.tr (CN.rf _) (cn_X6_perform z6))
    · have hD := ifp hD c
      obtain ⟨rfl, rfl⟩ := es2 hD
      exact (CN.rf _)
  · have hD := ifn hD c
    obtain ⟨rfl, rfl⟩ := es2 hD
    exact (CN.rf _)

set_option maxHeartbeats 4000000 in
theorem cn_X9_splice {x1 : Int32} {x2 : Int32} {h : MM} {m : MM} {rr : Int32} {m' : MM} (hD : D_X9_splice x1 x2 h m = some (.inr (rr, m')))  : CN m m' := by
  unfold D_X9_splice at hD
  obtain ⟨u_, z1, hD⟩ := bX_el hD
  obtain ⟨u_, z2, hD⟩ := bX_el hD
  have hD := lif_el hD
  obtain ⟨h3, hD⟩ := gd_el hD
  have hq4a : 4 ≤ 4 + x1.toNatClampNeg := Nat.le_add_right _ _
  have hq4b : 4 + x1.toNatClampNeg < 14 := Nat.add_lt_add_left (Nat.lt_of_not_le (fun z => h3 (Or.inr z))) 4
  rcases (Classical.em ((gi m (4 + x1.toNatClampNeg) 4) < (3 : Int32))) with c | c
  · have hD := ifp hD c
    obtain ⟨m5, z6, hD⟩ := b1_el hD
    obtain ⟨v7, ev7, hD⟩ := bnd_el hD
    obtain ⟨h8, hD⟩ := gd_el hD
    obtain ⟨h9, hD⟩ := gd_el hD
    obtain ⟨m10, em10, hD⟩ := bnd_el hD
    obtain ⟨v11, m12, z13, hD⟩ := b2_el hD
    obtain ⟨m14, em14, hD⟩ := bnd_el hD
    obtain ⟨rfl, rfl⟩ := es2 hD
    exact (CN.tr (CN.tr (CN.tr (CN.tr (CN.rf _) (cn_X2_addReel z6 (by omega) (by omega))) (CN.i_ em10 (by omega) (by omega) (by omega))) (cn_X2_spliceIfEmpty z13 (by omega) (by omega))) (CN.i_ em14 (by omega) (by omega) (by omega)))
  · have hD := ifn hD c
    obtain ⟨rfl, rfl⟩ := es2 hD
    exact (CN.rf _)

set_option maxHeartbeats 4000000 in
theorem cn_X9_takeReel {x1 : Int32} {h : MM} {m : MM} {rr : Int32} {m' : MM} (hD : D_X9_takeReel x1 h m = some (.inr (rr, m')))  : CN m m' := by
  unfold D_X9_takeReel at hD
  obtain ⟨u_, z1, hD⟩ := bX_el hD
  have hD := lif_el hD
  obtain ⟨h2, hD⟩ := gd_el hD
  have hq3a : 4 ≤ 4 + x1.toNatClampNeg := Nat.le_add_right _ _
  have hq3b : 4 + x1.toNatClampNeg < 14 := Nat.add_lt_add_left (Nat.lt_of_not_le (fun z => h2 (Or.inr z))) 4
  rcases (Classical.em ((gi m (4 + x1.toNatClampNeg) 4) = 0)).symm with c | c
  · have hD := ifn hD c
    obtain ⟨v4, m5, z6, hD⟩ := b2_el hD
    obtain ⟨v7, ev7, hD⟩ := bnd_el hD
    obtain ⟨h8, hD⟩ := gd_el hD
    obtain ⟨h9, hD⟩ := gd_el hD
    obtain ⟨m10, em10, hD⟩ := bnd_el hD
    obtain ⟨rfl, rfl⟩ := es2 hD
    exact (CN.tr (CN.tr (CN.rf _) (cn_X2_removeLastReel z6 (by omega) (by omega))) (CN.i_ em10 (by omega) (by omega) (by omega)))
  · have hD := ifp hD c
    obtain ⟨rfl, rfl⟩ := es2 hD
    exact (CN.rf _)

set_option maxHeartbeats 4000000 in
theorem cn_X9_leaveOut {x1 : Int32} {x2 : Int32} {h : MM} {m : MM} {rr : Int32} {m' : MM} (hD : D_X9_leaveOut x1 x2 h m = some (.inr (rr, m')))  : CN m m' := by
  unfold D_X9_leaveOut at hD
  obtain ⟨u_, z1, hD⟩ := bX_el hD
  have hD := lif_el hD
  rcases (Classical.em (x2 = 0)) with c | c
  · have hD := ifp hD c
    obtain ⟨v2, m3, z4, hD⟩ := b2_el hD
    obtain ⟨h5, hD⟩ := gb_el hD
    obtain ⟨rfl, rfl⟩ := es2 hD
    exact (CN.tr (CN.rf _) (cn_X0_reopen z4))
  · have hD := ifn hD c
    obtain ⟨v6, m7, z8, hD⟩ := b2_el hD
    obtain ⟨h9, hD⟩ := gb_el hD
    obtain ⟨rfl, rfl⟩ := es2 hD
    exact (CN.tr (CN.rf _) (cn_X0_close z8))

set_option maxHeartbeats 4000000 in
theorem cn_X9_newBoard {h : MM} {m : MM} {rr : Int32} {m' : MM} (hD : D_X9_newBoard h m = some (rr, m'))  : CN m m' := by
  unfold D_X9_newBoard at hD
  obtain ⟨m1, em1, hD⟩ := bnd_el hD
  obtain ⟨v2, m3, z4, hD⟩ := b2_el hD
  obtain ⟨rfl, rfl⟩ := es2 hD
  exact (CN.tr (CN.tr (CN.rf _) (CN.i_ em1 (by omega) (by omega) (by omega))) (cn_X0_reopenFilled z4))

set_option maxHeartbeats 4000000 in
theorem cn_X9_resume {h : MM} {m : MM} {rr : Int32} {m' : MM} (hD : D_X9_resume h m = some (rr, m'))  : CN m m' := by
  unfold D_X9_resume at hD
  obtain ⟨v1, ev1, hD⟩ := bnd_el hD
  obtain ⟨m2, em2, hD⟩ := bnd_el hD
  obtain ⟨m3, em3, hD⟩ := bnd_el hD
  obtain ⟨h4, hD⟩ := gb_el hD
  obtain ⟨rfl, rfl⟩ := es2 hD
  exact (CN.tr (CN.tr (CN.rf _) (CN.i_ em2 (by omega) (by omega) (by omega))) (CN.i_ em3 (by omega) (by omega) (by omega)))

set_option maxHeartbeats 4000000 in
theorem cn_X9_set {x1 : Int32} {x2 : Int32} {h : MM} {m : MM} {rr : Int32} {m' : MM} (hD : D_X9_set x1 x2 h m = some (.inr (rr, m')))  : CN m m' := by
  unfold D_X9_set at hD
  obtain ⟨u_, z1, hD⟩ := bX_el hD
  rcases (Classical.em (x1 = (8 : Int32))) with c | c
  · have hD := ifp hD c
    cases hD
  · have hD := ifn hD c
    rcases (Classical.em (x1 = (9 : Int32))) with c | c
    · have hD := ifp hD c
      cases hD
    · have hD := ifn hD c
      rcases (Classical.em (x1 = (10 : Int32))).symm with c | c
      · have hD := ifn hD c
        obtain ⟨h3, hD⟩ := gd_el hD
        obtain ⟨v4, ev4, hD⟩ := bnd_el hD
        rcases (Classical.em (x1 = (5 : Int32))).symm with c | c
        · have hD := ifn hD c
          rcases (Classical.em (x1 = (6 : Int32))).symm with c | c
          · have hD := ifn hD c
            obtain ⟨h6, hD⟩ := gd_el hD
            obtain ⟨u_, z7, hD⟩ := bX_el hD
            have hD := lif_el hD
            obtain ⟨h8, hD⟩ := gd_el hD
            obtain ⟨v9, ev9, hD⟩ := bnd_el hD
            obtain ⟨h10, hD⟩ := gd_el hD
            obtain ⟨m11, em11, hD⟩ := bnd_el hD
            obtain ⟨rfl, rfl⟩ := es2 hD
            exact (CN.tr (CN.rf _) (CN.i_ em11 (by omega) (by omega) (by omega)))
          · have hD := ifp hD c
            obtain ⟨v12, ev12, hD⟩ := bnd_el hD
            obtain ⟨h14, hD⟩ := gd_el hD
            obtain ⟨u_, z15, hD⟩ := bX_el hD
            have hD := lif_el hD
            obtain ⟨h16, hD⟩ := gd_el hD
            obtain ⟨v17, ev17, hD⟩ := bnd_el hD
            obtain ⟨h18, hD⟩ := gd_el hD
            obtain ⟨m19, em19, hD⟩ := bnd_el hD
            obtain ⟨rfl, rfl⟩ := es2 hD
            exact (CN.tr (CN.rf _) (CN.i_ em19 (by omega) (by omega) (by omega)))
        · have hD := ifp hD c
          obtain ⟨v20, ev20, hD⟩ := bnd_el hD
          obtain ⟨h22, hD⟩ := gd_el hD
          obtain ⟨u_, z23, hD⟩ := bX_el hD
          have hD := lif_el hD
          obtain ⟨h24, hD⟩ := gd_el hD
          obtain ⟨v25, ev25, hD⟩ := bnd_el hD
          obtain ⟨h26, hD⟩ := gd_el hD
          obtain ⟨m27, em27, hD⟩ := bnd_el hD
          obtain ⟨rfl, rfl⟩ := es2 hD
          exact (CN.tr (CN.rf _) (CN.i_ em27 (by omega) (by omega) (by omega)))
      · have hD := ifp hD c
        cases hD

set_option maxHeartbeats 4000000 in
theorem cn_X9_step {h : MM} {m : MM} {rr : Int32} {h' : MM} {m' : MM} (hD : D_X9_step h m = some (rr, h', m'))  : CN m m' := by
  unfold D_X9_step at hD
  obtain ⟨v1, m2, m3, z4, hD⟩ := b3_el hD
  obtain ⟨rfl, rfl, rfl⟩ := es3 hD
  exact (CN.tr (CN.rf _) (cn_X7_follow z4 (by omega) (by omega)))

set_option maxHeartbeats 4000000 in
theorem cn_X9_run {x1 : Int32} {h : MM} {m : MM} {rr : Int32} {h' : MM} {m' : MM} (hD : D_X9_run x1 h m = some (.inr (rr, h', m')))  : CN m m' := by
  unfold D_X9_run at hD
  have c_10 : ∀ (n : Nat), ∀ (x1 : Int32) (x2 : Int32) (h : MM) (m : MM), D_X9_run_10 n x1 x2 h m = some (rr, h', m') → CN m m' := by
    intro n
    induction n with
    | zero =>
      intro x1 x2 h m hD
      exact nn_el hD
    | succ n ih =>
      intro x1 x2 h m hD
      rw [D_X9_run_10] at hD
      rcases (Classical.em (x1 ≤ x2)) with c | c
      · have hD := ifp hD c
        obtain ⟨rfl, rfl, rfl⟩ := es3 hD
        exact (CN.rf _)
      · have hD := ifn hD c
        obtain ⟨v2, m3, m4, z5, hD⟩ := b3_el hD
        rcases (Classical.em (v2 = (-1 : Int32))).symm with c | c
        · have hD := ifn hD c
          obtain ⟨v6, ev6, hD⟩ := bnd_el hD
          exact CN.tr (CN.tr (CN.rf _) (cn_X7_follow z5 (by omega) (by omega))) (ih _ _ _ _ hD)
        · have hD := ifp hD c
          obtain ⟨rfl, rfl, rfl⟩ := es3 hD
          exact (CN.tr (CN.rf _) (cn_X7_follow z5 (by omega) (by omega)))
  obtain ⟨u_, z1, hD⟩ := bX_el hD
  have hD := lif_el hD
  exact CN.tr (CN.rf _) (c_10 FU _ _ _ _ hD)
