/-! PROPERTY: the journal: an action notes itself, and is told as the last -/
def JN (m m' : MM) : Prop := gi m' 45 0 = gi m 45 0 ∧ gi m' 45 1 = gi m 45 1
theorem JN.rf (m : MM) : JN m m := ⟨rfl, rfl⟩
theorem JN.tr {a b c : MM} (h : JN a b) (h' : JN b c) : JN a c := ⟨h'.1.trans h.1, h'.2.trans h.2⟩
theorem JN.i_ {m m' : MM} {q k : Nat} {v : Int32} (e : m' = si m q k v) (h1 : q ≠ 45 ∨ (k ≠ 0 ∧ k ≠ 1)) (_h2 : True) (_h3 : True) : JN m m' := by
  subst e
  exact ⟨gi_si_ne (by omega), gi_si_ne (by omega)⟩
theorem JN.l_ {m m' : MM} {q k : Nat} {v : Int64} (e : m' = sl m q k v) : JN m m' := by
  subst e
  exact ⟨rfl, rfl⟩
theorem JN.R_ {m m' : MM} {q : Nat} {r : Nat → Int64} (e : m' = sR m q r) : JN m m' := by
  subst e
  exact ⟨rfl, rfl⟩
theorem JN.r_ {m m' : MM} {q : Nat} {r : Nat → Int32} (e : m' = sr m q r) (h1 : q ≠ 45) (_h2 : True) (_h3 : True) : JN m m' := by
  subst e
  have e : ∀ a k : Nat, a ≠ q → gi (sr m q r) a k = gi m a k := fun a k z => by
    show va_up m.1 q r a k = m.1 a k
    unfold va_up
    rw [if_neg z]
  exact ⟨e _ _ (by omega), e _ _ (by omega)⟩

set_option maxHeartbeats 4000000 in
theorem jn_X8_dropPart {q0 : Nat} {m : MM} {m' : MM} (hD : D_X8_dropPart q0 m = some (m')) (haq0 : q0 < 4) : JN m m' := by
  unfold D_X8_dropPart at hD
  obtain ⟨m1, em1, hD⟩ := bnd_el hD
  obtain ⟨m2, em2, hD⟩ := bnd_el hD
  obtain ⟨m3, em3, hD⟩ := bnd_el hD
  cases hD
  exact (JN.tr (JN.tr (JN.tr (JN.rf _) (JN.i_ em1 (by omega) trivial trivial)) (JN.i_ em2 (by omega) trivial trivial)) (JN.i_ em3 (by omega) trivial trivial))

set_option maxHeartbeats 4000000 in
theorem jn_X2_spliceIfEmpty {q0 : Nat} {m : MM} {rr : Int32} {m' : MM} (hD : D_X2_spliceIfEmpty q0 m = some (rr, m')) (haq0 : 4 ≤ q0) (hbq0 : q0 < 14) : JN m m' := by
  unfold D_X2_spliceIfEmpty at hD
  have c_2 : ∀ (n : Nat), ∀ (q0 : Nat) (x1 : Int32) (m : MM), D_X2_spliceIfEmpty_2 n q0 x1 m = some (rr, m') → 4 ≤ q0 → q0 < 14 → JN m m' := by
    intro n
    induction n with
    | zero =>
      intro q0 x1 m hD haq0 hbq0
      exact nn_el hD
    | succ n ih =>
      intro q0 x1 m hD haq0 hbq0
      rw [D_X2_spliceIfEmpty_2] at hD
      rcases (Classical.em ((gi m q0 2) = 0)).symm with c | c
      · have hD := ifn hD c
        cases hD
        exact (JN.rf _)
      · have hD := ifp hD c
        rcases (Classical.em ((gi m q0 4) ≤ 0)) with c | c
        · have hD := ifp hD c
          cases hD
          exact (JN.rf _)
        · have hD := ifn hD c
          obtain ⟨m1, em1, hD⟩ := bnd_el hD
          obtain ⟨m2, em2, hD⟩ := bnd_el hD
          obtain ⟨h3, hD⟩ := gd_el hD
          obtain ⟨m4, em4, hD⟩ := bnd_el hD
          obtain ⟨m5, em5, hD⟩ := bnd_el hD
          obtain ⟨v6, ev6, hD⟩ := bnd_el hD
          exact JN.tr (JN.tr (JN.tr (JN.tr (JN.tr (JN.rf _) (JN.i_ em1 (by omega) trivial trivial)) (JN.i_ em2 (by omega) trivial trivial)) (JN.r_ em4 (by omega) trivial trivial)) (JN.i_ em5 (by omega) trivial trivial)) (ih _ _ _ hD haq0 hbq0)
  exact JN.tr (JN.rf _) (c_2 FU _ _ _ hD haq0 hbq0)

set_option maxHeartbeats 4000000 in
theorem jn_X0_fill {x1 : Int32} {x2 : Int32} {x3 : Int32} {m : MM} {m' : MM} (hD : D_X0_fill x1 x2 x3 m = some (m'))  : JN m m' := by
  unfold D_X0_fill at hD
  obtain ⟨m1, em1, hD⟩ := bnd_el hD
  obtain ⟨m2, em2, hD⟩ := bnd_el hD
  obtain ⟨h3, hD⟩ := gd_el hD
  obtain ⟨m4, em4, hD⟩ := bnd_el hD
  obtain ⟨h5, hD⟩ := gd_el hD
  obtain ⟨m6, em6, hD⟩ := bnd_el hD
  cases hD
  exact (JN.tr (JN.tr (JN.tr (JN.tr (JN.rf _) (JN.l_ em1)) (JN.l_ em2)) (JN.i_ em4 (by omega) trivial trivial)) (JN.i_ em6 (by omega) trivial trivial))

set_option maxHeartbeats 4000000 in
theorem jn_X6_draw {m : MM} {rr : Int32} {m' : MM} (hD : D_X6_draw m = some (rr, m'))  : JN m m' := by
  unfold D_X6_draw at hD
  obtain ⟨m1, em1, hD⟩ := bnd_el hD
  cases hD
  exact (JN.tr (JN.rf _) (JN.i_ em1 (by omega) trivial trivial))

set_option maxHeartbeats 4000000 in
theorem jn_X6_goTo {x1 : Int32} {x2 : Int32} {x3 : Int32} {m : MM} {m' : MM} (hD : D_X6_goTo x1 x2 x3 m = some (m'))  : JN m m' := by
  unfold D_X6_goTo at hD
  obtain ⟨v1, z2, hD⟩ := b1_el hD
  obtain ⟨m3, em3, hD⟩ := bnd_el hD
  obtain ⟨m4, em4, hD⟩ := bnd_el hD
  obtain ⟨m5, em5, hD⟩ := bnd_el hD
  cases hD
  exact (JN.tr (JN.tr (JN.tr (JN.rf _) (JN.i_ em3 (by omega) trivial trivial)) (JN.i_ em4 (by omega) trivial trivial)) (JN.i_ em5 (by omega) trivial trivial))

set_option maxHeartbeats 4000000 in
theorem jn_X6_changeTo {q1 : Nat} {x2 : Int32} {m : MM} {m' : MM} (hD : D_X6_changeTo q1 x2 m = some (m')) (haq1 : q1 < 4) : JN m m' := by
  unfold D_X6_changeTo at hD
  have c_33 : ∀ (q1 : Nat) (x2 : Int32) (m : MM), D_X6_changeTo_33 q1 x2 m = some (m') → q1 < 4 → JN m m' := by
    intro q1 x2 m hD haq1
    unfold D_X6_changeTo_33 at hD
    obtain ⟨h3, hD⟩ := gd_el hD
    obtain ⟨h4, hD⟩ := gd_el hD
    obtain ⟨m5, em5, hD⟩ := bnd_el hD
    obtain ⟨m6, em6, hD⟩ := bnd_el hD
    obtain ⟨m7, em7, hD⟩ := bnd_el hD
    obtain ⟨m8, em8, hD⟩ := bnd_el hD
    cases hD
    exact (JN.tr (JN.tr (JN.tr (JN.tr (JN.rf _) (JN.i_ em5 (by omega) trivial trivial)) (JN.i_ em6 (by omega) trivial trivial)) (JN.i_ em7 (by omega) trivial trivial)) (JN.i_ em8 (by omega) trivial trivial))
  obtain ⟨m1, z2, hD⟩ := b1_el hD
  rcases (Classical.em ((gi m1 q1 0) = (-1 : Int32))) with c | c
  · have hD := ifp hD c
    exact JN.tr (JN.tr (JN.rf _) (jn_X6_goTo z2)) (c_33 _ _ _ hD haq1)
  · have hD := ifn hD c
    obtain ⟨v9, ev9, hD⟩ := bnd_el hD
    obtain ⟨h10, hD⟩ := gd_el hD
    obtain ⟨h11, hD⟩ := gd_el hD
    obtain ⟨m12, em12, hD⟩ := bnd_el hD
    exact JN.tr (JN.tr (JN.tr (JN.rf _) (jn_X6_goTo z2)) (JN.i_ em12 (by omega) trivial trivial)) (c_33 _ _ _ hD haq1)

set_option maxHeartbeats 4000000 in
theorem jn_X6_reject {q1 : Nat} {m : MM} {m' : MM} (hD : D_X6_reject q1 m = some (m')) (haq1 : q1 < 4) : JN m m' := by
  unfold D_X6_reject at hD
  obtain ⟨v1, ev1, hD⟩ := bnd_el hD
  obtain ⟨h2, hD⟩ := gd_el hD
  obtain ⟨h3, hD⟩ := gd_el hD
  obtain ⟨m4, em4, hD⟩ := bnd_el hD
  obtain ⟨m5, em5, hD⟩ := bnd_el hD
  obtain ⟨m6, z7, hD⟩ := b1_el hD
  cases hD
  exact (JN.tr (JN.tr (JN.tr (JN.rf _) (JN.i_ em4 (by omega) trivial trivial)) (JN.i_ em5 (by omega) trivial trivial)) (jn_X8_dropPart z7 (by omega)))

set_option maxHeartbeats 4000000 in
theorem jn_X6_pickFrom {q1 : Nat} {q2 : Nat} {m : MM} {rr : Int32} {m' : MM} (hD : D_X6_pickFrom q1 q2 m = some (rr, m')) (haq1 : q1 < 4) (haq2 : 4 ≤ q2) (hbq2 : q2 < 14) : JN m m' := by
  unfold D_X6_pickFrom at hD
  have c_144 : ∀ (q2 : Nat) (x4 : Int32) (m : MM), D_X6_pickFrom_144 q2 x4 m = some (rr, m') → 4 ≤ q2 → q2 < 14 → JN m m' := by
    intro q2 x4 m hD haq2 hbq2
    unfold D_X6_pickFrom_144 at hD
    obtain ⟨v13, m14, z15, hD⟩ := b2_el hD
    obtain ⟨m16, em16, hD⟩ := bnd_el hD
    rcases (Classical.em (x4 = 0)) with c | c
    · have hD := ifp hD c
      cases hD
      exact (JN.tr (JN.tr (JN.rf _) (jn_X2_spliceIfEmpty z15 (by omega) (by omega))) (JN.i_ em16 (by omega) trivial trivial))
    · have hD := ifn hD c
      cases hD
      exact (JN.tr (JN.tr (JN.rf _) (jn_X2_spliceIfEmpty z15 (by omega) (by omega))) (JN.i_ em16 (by omega) trivial trivial))
  have c_70 : ∀ (q1 : Nat) (q2 : Nat) (xt0 : Int32) (m : MM), D_X6_pickFrom_70 q1 q2 xt0 m = some (rr, m') → q1 < 4 → 4 ≤ q2 → q2 < 14 → JN m m' := by
    intro q1 q2 xt0 m hD haq1 haq2 hbq2
    unfold D_X6_pickFrom_70 at hD
    obtain ⟨m9, em9, hD⟩ := bnd_el hD
    obtain ⟨m10, em10, hD⟩ := bnd_el hD
    rcases (Classical.em (xt0 = 0)) with c | c
    · have hD := ifp hD c
      obtain ⟨m11, em11, hD⟩ := bnd_el hD
      obtain ⟨m12, em12, hD⟩ := bnd_el hD
      exact JN.tr (JN.tr (JN.tr (JN.tr (JN.tr (JN.rf _) (JN.i_ em9 (by omega) trivial trivial)) (JN.i_ em10 (by omega) trivial trivial)) (JN.i_ em11 (by omega) trivial trivial)) (JN.i_ em12 (by omega) trivial trivial)) (c_144 _ _ _ hD haq2 hbq2)
    · have hD := ifn hD c
      obtain ⟨m17, em17, hD⟩ := bnd_el hD
      obtain ⟨v18, ev18, hD⟩ := bnd_el hD
      obtain ⟨h19, hD⟩ := gd_el hD
      obtain ⟨h20, hD⟩ := gd_el hD
      obtain ⟨m21, em21, hD⟩ := bnd_el hD
      exact JN.tr (JN.tr (JN.tr (JN.tr (JN.tr (JN.rf _) (JN.i_ em9 (by omega) trivial trivial)) (JN.i_ em10 (by omega) trivial trivial)) (JN.i_ em17 (by omega) trivial trivial)) (JN.i_ em21 (by omega) trivial trivial)) (c_144 _ _ _ hD haq2 hbq2)
  obtain ⟨m1, z2, hD⟩ := b1_el hD
  rcases (Classical.em ((gi m1 q2 8) = 0)) with c | c
  · have hD := ifp hD c
    obtain ⟨v3, z4, hD⟩ := b1_el hD
    rcases (Classical.em (v3 = 0)) with c | c
    · have hD := ifp hD c
      obtain ⟨v5, ev5, hD⟩ := bnd_el hD
      obtain ⟨v6, m7, z8, hD⟩ := b2_el hD
      rcases (Classical.em (v5 ≤ v6)) with c | c
      · have hD := ifp hD c
        exact JN.tr (JN.tr (JN.tr (JN.rf _) (jn_X6_goTo z2)) (jn_X6_draw z8)) (c_70 _ _ _ _ hD haq1 haq2 hbq2)
      · have hD := ifn hD c
        exact JN.tr (JN.tr (JN.tr (JN.rf _) (jn_X6_goTo z2)) (jn_X6_draw z8)) (c_70 _ _ _ _ hD haq1 haq2 hbq2)
    · have hD := ifn hD c
      obtain ⟨v22, ev22, hD⟩ := bnd_el hD
      obtain ⟨v23, m24, z25, hD⟩ := b2_el hD
      rcases (Classical.em (v22 ≤ v23)) with c | c
      · have hD := ifp hD c
        exact JN.tr (JN.tr (JN.tr (JN.rf _) (jn_X6_goTo z2)) (jn_X6_draw z25)) (c_70 _ _ _ _ hD haq1 haq2 hbq2)
      · have hD := ifn hD c
        exact JN.tr (JN.tr (JN.tr (JN.rf _) (jn_X6_goTo z2)) (jn_X6_draw z25)) (c_70 _ _ _ _ hD haq1 haq2 hbq2)
  · have hD := ifn hD c
    obtain ⟨m26, em26, hD⟩ := bnd_el hD
    cases hD
    exact (JN.tr (JN.tr (JN.rf _) (jn_X6_goTo z2)) (JN.i_ em26 (by omega) trivial trivial))

set_option maxHeartbeats 4000000 in
theorem jn_X6_lookAt {q1 : Nat} {m : MM} {rr : Int32} {m' : MM} (hD : D_X6_lookAt q1 m = some (rr, m')) (haq1 : q1 < 4) : JN m m' := by
  unfold D_X6_lookAt at hD
  have c_108 : ∀ (q1 : Nat) (m : MM), D_X6_lookAt_108 q1 m = some (rr, m') → q1 < 4 → JN m m' := by
    intro q1 m hD haq1
    unfold D_X6_lookAt_108 at hD
    obtain ⟨m7, z8, hD⟩ := b1_el hD
    obtain ⟨m9, em9, hD⟩ := bnd_el hD
    rcases (Classical.em ((gi m9 25 11) ≤ 0)) with c | c
    · have hD := ifp hD c
      cases hD
      exact (JN.tr (JN.tr (JN.rf _) (jn_X6_reject z8 (by omega))) (JN.i_ em9 (by omega) trivial trivial))
    · have hD := ifn hD c
      rcases (Classical.em ((gi m9 24 14) < (gi m9 25 11))) with c | c
      · have hD := ifp hD c
        cases hD
        exact (JN.tr (JN.tr (JN.rf _) (jn_X6_reject z8 (by omega))) (JN.i_ em9 (by omega) trivial trivial))
      · have hD := ifn hD c
        obtain ⟨m10, em10, hD⟩ := bnd_el hD
        cases hD
        exact (JN.tr (JN.tr (JN.tr (JN.rf _) (jn_X6_reject z8 (by omega))) (JN.i_ em9 (by omega) trivial trivial)) (JN.i_ em10 (by omega) trivial trivial))
  obtain ⟨m1, z2, hD⟩ := b1_el hD
  obtain ⟨m3, em3, hD⟩ := bnd_el hD
  obtain ⟨v4, m5, z6, hD⟩ := b2_el hD
  rcases (Classical.em ((gi m5 25 5) ≤ v4)) with c | c
  · have hD := ifp hD c
    rcases (Classical.em (((gi m5 25 5) + (gi m5 25 6)) ≤ v4)) with c | c
    · have hD := ifp hD c
      exact JN.tr (JN.tr (JN.tr (JN.tr (JN.rf _) (jn_X6_goTo z2)) (JN.i_ em3 (by omega) trivial trivial)) (jn_X6_draw z6)) (c_108 _ _ hD haq1)
    · have hD := ifn hD c
      rcases (Classical.em ((gi m5 25 7) < (gi m5 q1 3))) with c | c
      · have hD := ifp hD c
        exact JN.tr (JN.tr (JN.tr (JN.tr (JN.rf _) (jn_X6_goTo z2)) (JN.i_ em3 (by omega) trivial trivial)) (jn_X6_draw z6)) (c_108 _ _ hD haq1)
      · have hD := ifn hD c
        cases hD
        exact (JN.tr (JN.tr (JN.tr (JN.rf _) (jn_X6_goTo z2)) (JN.i_ em3 (by omega) trivial trivial)) (jn_X6_draw z6))
  · have hD := ifn hD c
    obtain ⟨m11, em11, hD⟩ := bnd_el hD
    obtain ⟨m12, em12, hD⟩ := bnd_el hD
    obtain ⟨m13, em13, hD⟩ := bnd_el hD
    cases hD
    exact (JN.tr (JN.tr (JN.tr (JN.tr (JN.tr (JN.tr (JN.rf _) (jn_X6_goTo z2)) (JN.i_ em3 (by omega) trivial trivial)) (jn_X6_draw z6)) (JN.i_ em11 (by omega) trivial trivial)) (JN.i_ em12 (by omega) trivial trivial)) (JN.i_ em13 (by omega) trivial trivial))

set_option maxHeartbeats 4000000 in
theorem jn_X6_putOn {q1 : Nat} {x2 : Int32} {x3 : Int32} {m : MM} {m' : MM} (hD : D_X6_putOn q1 x2 x3 m = some (m')) (haq1 : q1 < 4) : JN m m' := by
  unfold D_X6_putOn at hD
  obtain ⟨h1, hD⟩ := gd_el hD
  obtain ⟨h2, hD⟩ := gd_el hD
  obtain ⟨m3, z4, hD⟩ := b1_el hD
  obtain ⟨m5, z6, hD⟩ := b1_el hD
  obtain ⟨v7, ev7, hD⟩ := bnd_el hD
  obtain ⟨h8, hD⟩ := gd_el hD
  obtain ⟨h9, hD⟩ := gd_el hD
  obtain ⟨m10, em10, hD⟩ := bnd_el hD
  obtain ⟨m11, em11, hD⟩ := bnd_el hD
  obtain ⟨m12, z13, hD⟩ := b1_el hD
  cases hD
  exact (JN.tr (JN.tr (JN.tr (JN.tr (JN.tr (JN.rf _) (jn_X6_goTo z4)) (jn_X0_fill z6)) (JN.i_ em10 (by omega) trivial trivial)) (JN.i_ em11 (by omega) trivial trivial)) (jn_X8_dropPart z13 (by omega)))

set_option maxHeartbeats 4000000 in
theorem jn_X6_cleanOf {q1 : Nat} {m : MM} {m' : MM} (hD : D_X6_cleanOf q1 m = some (m')) (haq1 : q1 < 4) : JN m m' := by
  unfold D_X6_cleanOf at hD
  obtain ⟨m1, z2, hD⟩ := b1_el hD
  obtain ⟨m3, em3, hD⟩ := bnd_el hD
  cases hD
  exact (JN.tr (JN.tr (JN.rf _) (jn_X6_goTo z2)) (JN.i_ em3 (by omega) trivial trivial))

/-- the last entry of the journal -/
def Last (n : Nat) (c r t : Int32) (m : MM) : Prop := 1 ≤ n ∧ n ≤ 40 ∧ gi m 45 0 = I n ∧ ∃ o : Nat, o < 40 ∧ gi m 45 1 = I o ∧ gi m 46 ((o + n - 1) % 40) = c ∧ gi m 47 ((o + n - 1) % 40) = r ∧ gi m 48 ((o + n - 1) % 40) = t
theorem note_l {c r t : Int32} {m m' : MM} {n o : Nat} (hn : n ≤ 40) (ho : o < 40) (e0 : gi m 45 0 = I n) (e1 : gi m 45 1 = I o) (hD : D_X4_note c r t m = some m') : ∃ n' : Nat, Last n' c r t m' ∧ gi m' 24 13 = gi m 24 13 := by
  unfold D_X4_note at hD
  have er : (I o + I n) - (I o + I n) / (40 : Int32) * (40 : Int32) = I ((o + n) % 40) := by
    rw [I_add]
    exact irem (b := 40) (by omega) (by decide)
  have hv : (o + n) % 40 < 40 := Nat.mod_lt _ (by decide)
  rw [e0, e1, er, bnd_s, gdI (by omega) hv, I_tnc (by omega), bnd_s, gd2 (by omega) hv, bnd_s, gd2 (by omega) hv, bnd_s, show gi (si (si (si m 46 ((o + n) % 40) c) 47 ((o + n) % 40) r) 48 ((o + n) % 40) t) 45 0 = I n by rw [gi_si_ne (by omega), gi_si_ne (by omega), gi_si_ne (by omega), e0], show gi (si (si (si m 46 ((o + n) % 40) c) 47 ((o + n) % 40) r) 48 ((o + n) % 40) t) 45 1 = I o by rw [gi_si_ne (by omega), gi_si_ne (by omega), gi_si_ne (by omega), e1]] at hD
  by_cases c40 : n = 40
  · rw [if_pos (show (40 : Int32) ≤ I n by rw [c40]; decide), bnd_s, show I o + (1 : Int32) = I (o + 1) from I_add o 1, show I (o + 1) - I (o + 1) / (40 : Int32) * (40 : Int32) = I ((o + 1) % 40) from irem (b := 40) (by omega) (by decide)] at hD
    cases hD
    have ei : ((o + 1) % 40 + 40 - 1) % 40 = (o + n) % 40 := by omega
    refine ⟨40, ⟨by omega, by omega, ?_, (o + 1) % 40, Nat.mod_lt _ (by decide), gi_si_eq _ _ _ _, ?_, ?_, ?_⟩, ?_⟩
    · rw [gi_si_ne (by omega), gi_si_ne (by omega), gi_si_ne (by omega), gi_si_ne (by omega), e0, c40]
    · rw [ei, gi_si_ne (by omega), gi_si_ne (by omega), gi_si_ne (by omega), gi_si_eq]
    · rw [ei, gi_si_ne (by omega), gi_si_ne (by omega), gi_si_eq]
    · rw [ei, gi_si_ne (by omega), gi_si_eq]
    · rw [gi_si_ne (by omega), gi_si_ne (by omega), gi_si_ne (by omega), gi_si_ne (by omega)]
  · rw [if_neg (show ¬ (40 : Int32) ≤ I n from leF (a := 40) (by omega) (by decide)), bnd_s, show I n + (1 : Int32) = I (n + 1) from I_add n 1] at hD
    cases hD
    refine ⟨n + 1, ⟨by omega, by omega, gi_si_eq _ _ _ _, o, ho, ?_, ?_, ?_, ?_⟩, ?_⟩
    · rw [gi_si_ne (by omega), gi_si_ne (by omega), gi_si_ne (by omega), gi_si_ne (by omega), e1]
    · rw [show o + (n + 1) - 1 = o + n by omega, gi_si_ne (by omega), gi_si_ne (by omega), gi_si_ne (by omega), gi_si_eq]
    · rw [show o + (n + 1) - 1 = o + n by omega, gi_si_ne (by omega), gi_si_ne (by omega), gi_si_eq]
    · rw [show o + (n + 1) - 1 = o + n by omega, gi_si_ne (by omega), gi_si_eq]
    · rw [gi_si_ne (by omega), gi_si_ne (by omega), gi_si_ne (by omega), gi_si_ne (by omega)]
theorem p116 {a s t : Nat} {v r r' : Int32} {m m' : MM} {n o : Nat} (hn : n ≤ 40) (ho : o < 40) (e0 : gi m 45 0 = I n) (e1 : gi m 45 1 = I o) (hD : D_X6_perform_116 (I a) (I s) (I t) v r m = some (r', m')) : ∃ n' : Nat, Last n' (I (10000 * a + 100 * s + t)) r' (gi m' 24 13) m' := by
  unfold D_X6_perform_116 at hD
  obtain ⟨c, z1, hD⟩ := b1_el hD
  have hc : c = I (10000 * a + 100 * s + t) := by
    unfold D_X9_codeOf at z1
    rw [← code_x]
    exact (Option.some.inj z1).symm
  subst hc
  obtain ⟨m8, z2, hD⟩ := b1_el hD
  obtain ⟨n', hl, ht⟩ := note_l hn ho e0 e1 z2
  obtain ⟨-, hD⟩ := gd_el hD
  obtain ⟨-, hD⟩ := gd_el hD
  obtain ⟨m12, e12, hD⟩ := bnd_el hD
  obtain ⟨-, hD⟩ := gd_el hD
  obtain ⟨-, hD⟩ := gd_el hD
  obtain ⟨m15, e15, hD⟩ := bnd_el hD
  obtain ⟨rfl, rfl⟩ := es2 hD
  have k : ∀ q j : Nat, q ≠ 49 → q ≠ 50 → gi m15 q j = gi m8 q j := fun q j z9 z8 => by
    rw [e15, gi_si_ne (by omega), e12, gi_si_ne (by omega)]
  obtain ⟨l1, l2, l3, o', l4, l5, l6, l7, l8⟩ := hl
  refine ⟨n', l1, l2, by rw [k 45 0 (by omega) (by omega)]; exact l3, o', l4, by rw [k 45 1 (by omega) (by omega)]; exact l5, by rw [k 46 _ (by omega) (by omega)]; exact l6, by rw [k 47 _ (by omega) (by omega)]; exact l7, ?_⟩
  rw [k 48 _ (by omega) (by omega), k 24 13 (by omega) (by omega), l8, ht]
theorem perf_last {a s t : Nat} {r : Int32} {m m' : MM} {w : Nat → Int32} (hR : R m w) (hs : s < 1000) (ht : t < 1000) (hD : D_X6_perform (I a) (I s) (I t) m = some (r, m')) : ∃ n' : Nat, Last n' (I (10000 * a + 100 * s + t)) r (gi m' 24 13) m' := by
  obtain ⟨o, ho, e1, -⟩ := hR.r0.lg
  have hn : nL w ≤ 40 := hR.r0.bd.2.2.2.2.2.1
  have e0 : gi m 45 0 = I (nL w) := hR.r0.s28.trans hR.v.cnt.2.2.2.2.2.2
  unfold D_X6_perform at hD
  obtain ⟨h1, hD⟩ := gd_el hD
  have hs4 : (I s).toNatClampNeg < 4 := Nat.lt_of_not_le (fun z => h1 (Or.inr z))
  obtain ⟨v3, -, hD⟩ := bnd_el hD
  have go : ∀ {m5 : MM} {v r' : Int32}, JN m m5 → D_X6_perform_116 (I a) (I s) (I t) v r' m5 = some (r, m') → ∃ n' : Nat, Last n' (I (10000 * a + 100 * s + t)) r (gi m' 24 13) m' := fun hj hD => p116 hn ho (hj.1.trans e0) (hj.2.trans e1) hD
  rcases Classical.em (I a = (1 : Int32)) with c | c
  · have hD := ifp hD c
    obtain ⟨m5, z, hD⟩ := b1_el hD
    exact go (jn_X6_changeTo z hs4) hD
  · have hD := ifn hD c
    rcases Classical.em (I a = (2 : Int32)) with c | c
    · have hD := ifp hD c
      obtain ⟨h2, hD⟩ := gd_el hD
      have ht10 : (I t).toNatClampNeg < 10 := Nat.lt_of_not_le (fun z => h2 (Or.inr z))
      obtain ⟨v, m5, z, hD⟩ := b2_el hD
      exact go (jn_X6_pickFrom z hs4 (by omega) (by omega)) hD
    · have hD := ifn hD c
      rcases Classical.em (I a = (3 : Int32)) with c | c
      · have hD := ifp hD c
        obtain ⟨v, m5, z, hD⟩ := b2_el hD
        exact go (jn_X6_lookAt z hs4) hD
      · have hD := ifn hD c
        rcases Classical.em (I a = (4 : Int32)) with c | c
        · have hD := ifp hD c
          obtain ⟨m5, z, hD⟩ := b1_el hD
          exact go (jn_X6_putOn z hs4) hD
        · have hD := ifn hD c
          rcases Classical.em (I a = (5 : Int32)) with c | c
          · have hD := ifp hD c
            obtain ⟨m5, z, hD⟩ := b1_el hD
            exact go (jn_X6_reject z hs4) hD
          · have hD := ifn hD c
            obtain ⟨m5, z, hD⟩ := b1_el hD
            exact go (jn_X6_cleanOf z hs4) hD
/-- the last entry as it is told -/
theorem log_last {n : Nat} {c r t : Int32} {m : MM} (hl : Last n c r t m) (h : MM) : D_X9_logSize h m = some (I n) ∧ I n - (1 : Int32) = I (n - 1) ∧ D_X9_logEntry (I (n - 1)) 0 h m = some (.inr c) ∧ D_X9_logEntry (I (n - 1)) 1 h m = some (.inr r) ∧ D_X9_logEntry (I (n - 1)) 2 h m = some (.inr t) := by
  obtain ⟨l1, l2, l3, o, l4, l5, l6, l7, l8⟩ := hl
  have er : (I o + I (n - 1)) - (I o + I (n - 1)) / (40 : Int32) * (40 : Int32) = I ((o + n - 1) % 40) := by
    rw [I_add, show o + (n - 1) = o + n - 1 by omega]
    exact irem (b := 40) (by omega) (by decide)
  have hv : (o + n - 1) % 40 < 40 := Nat.mod_lt _ (by decide)
  have hlt : I (n - 1) < I n := (I_lt (by omega) (by omega)).mpr (by omega)
  refine ⟨by unfold D_X9_logSize; rw [l3], I_sub (b := 1) l1, ?_, ?_, ?_⟩
  · unfold D_X9_logEntry
    rw [rqr_ok (n := 3) (by decide), if_pos (show ok (0 : Int32) 3 from ok_I (k := 0) (by decide) (by decide)), bX_s, if_neg (I_nneg (by omega)), l3, if_pos hlt]
    unfold D_X4_entry
    rw [l5, er, bnd_s, if_pos rfl, gdI (by omega) hv, I_tnc (by omega), l6, b1_s]
    rfl
  · unfold D_X9_logEntry
    rw [rqr_ok (n := 3) (by decide), if_pos (show ok (1 : Int32) 3 from ok_I (k := 1) (by decide) (by decide)), bX_s, if_neg (I_nneg (by omega)), l3, if_pos hlt]
    unfold D_X4_entry
    rw [l5, er, bnd_s, if_neg (by decide), if_pos rfl, gdI (by omega) hv, I_tnc (by omega), l7, b1_s]
    rfl
  · unfold D_X9_logEntry
    rw [rqr_ok (n := 3) (by decide), if_pos (show ok (2 : Int32) 3 from ok_I (k := 2) (by decide) (by decide)), bX_s, if_neg (I_nneg (by omega)), l3, if_pos hlt]
    unfold D_X4_entry
    rw [l5, er, bnd_s, if_neg (by decide), if_neg (by decide), gdI (by omega) hv, I_tnc (by omega), l8, b1_s]
    rfl
