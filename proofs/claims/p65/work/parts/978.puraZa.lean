/-! PURE: load -/
theorem rm_s {L : Nat} {T : Nat → Nat} (ht : Tok L T) {h f x : MM} (hd : Hd L T h 0) (hx : Xd L T x 0) (h6 : gi h 4 6 = 0) (h12 : gi x 0 12 = 0) (hf : Cq f 1 10) (hw : ∀ i : Nat, i < 640 → gi x 3 i = wB i) : Out L T 0 h x (b2 (D_X1_readMachine h f) (fun m8 m9 => D_X1_readText_41 FU (0 : Int32) m8 m9)) (D_X10_readsAll x) := by
  have hL := ht.1
  obtain ⟨h1, a1, a2, a3, a4⟩ := rw_s ht f hd
  obtain ⟨x1, t1, t2, t3⟩ := tk_s ht hx (q := 0) (by omega)
  have hbe : nx sP T L 0 ≤ nx lP T L (nx sP T L 0) := nx_ge
  generalize hb : nx sP T L 0 = b at a3 a4 t2 t3 hbe
  generalize he : nx lP T L b = e at a4 t3 hbe
  have g6 : gi h1 4 6 = 0 := by rw [a2 4 6 (by omega)]; exact h6
  have g12 : gi x1 0 12 = 0 := by rw [t1.e12]; exact h12
  have fh : FH h h1 := fun q k z => a2 q k (by omega)
  obtain ⟨w1, w2⟩ := isw_s ht f a4 a3 hbe (q := 0) (by omega)
  unfold D_X1_readMachine D_X10_readsAll
  rw [a1, b1_s]
  rcases t3 with ⟨m0, e0, X0⟩ | ⟨m0, e0, X0⟩
  · rw [w1 m0, b1_s, if10, e0, b2_s, if10, show (15 : Int32) = I 15 from rfl]
    rcases into_s ht f ⟨a4, X0, g6, g12⟩ (a := 1) (B := 5) (by omega) (by omega) (lo := 1) (hi := 4) rfl (by decide) (pl := 15) (by omega) with ⟨v, h', x', c1, c2, c3, c4, c5⟩ | ⟨s, p1, h2, x2, -, b1, b2, b3, c1, c2, c3, ar, c4, c5⟩
    · rw [c1, b2_s, if_neg c3.2.1, b2_s, c2, b2_s, if00]
      refine Or.inl ⟨h', f, x', tx_end (n := 4999) c3.2.1, rfl, c3, fh.tr c4, t1.z.x.tr c5⟩
    · rw [c1, b2_s, if_pos c3.2.2.1, bnd_s, c2, b2_s, if10]
      have es : D_X1_readSettings (0 : Int32) (0 : Int32) h2 (si f 24 1 (I s)) = D_X1_readSettings_2 (4998 + 2) (I 0) (I 0) h2 (si f 24 1 (I s)) := rfl
      have ex : D_X10_readsInto (0 : Int32) (1 : Int32) (50 : Int32) x2 = D_X10_readsInto (I 0) (1 : Int32) (50 : Int32) x2 := rfl
      rw [es, ex, rs_step (Nat.le_refl 0) (by omega) c3.2.2.1, if_neg (show ¬ 0 = 6 by omega), show lea 0 = (1 : Int32) from rfl, show mst 0 = (50 : Int32) from rfl]
      rcases into_s ht (si f 24 1 (I s)) c3 (a := 1) (B := 51) (by omega) (by omega) (lo := 1) (hi := 50) rfl (by decide) (pl := 0) (by omega) with ⟨v, h', x', d1, d2, d3, d4, d5⟩ | ⟨v, p2, h3, x3, -, g1, g2, g3, d1, d2, d3, ar2, d4, d5⟩
      · rw [d1, b2_s, rs_end d3.2.1, b2_s, b2_s, d2, b2_s, if00]
        refine Or.inl ⟨h', si (si f 24 1 (I s)) 25 0 v, x', tx_end (n := 4999) d3.2.1, rfl, d3, (fh.tr c4).tr d4, (t1.z.x.tr c5).tr d5⟩
      · rw [d1, b2_s, rs_fin (by omega), b2_s, b2_s, d2, b2_s, if10]
        have hrow : ∀ i : Nat, i < 640 → x3.1 3 i = if i = 15 then I s else if i = 0 then I v else wB i := fun i hi => by
          rw [ar2, ar, t1.z.row]
          by_cases e0 : i = 0
          · subst e0
            rw [upd_eq]
            rfl
          · rw [upd_ne e0]
            by_cases e15 : i = 15
            · subst e15
              rw [upd_eq, if_pos rfl]
            · rw [upd_ne e15, if_neg e15, if_neg e0]
              exact hw i hi
        obtain ⟨r1, r2⟩ := init_R (hf.put (I s) (I v)) b1 (by omega) g1 (by omega) hrow
        exact (tx_l ht L 0 FU FU h3 _ x3 p2 (by omega) (by omega) (by show L < 5000; omega) (by show L < 5000; omega) ⟨d3, r1, r2⟩).pre (by omega) ((fh.tr c4).tr d4) ((t1.z.x.tr c5).tr d5)
  · rw [w2 m0, b1_s, if00, a3, e0, b2_s, if00]
    obtain ⟨h5, x5, y1, y2, y3, y4, y5⟩ := fail_s f (h := h1) (x := x1) (e := 1) (p := b) (by omega) g6 g12 t2
    have y1 : D_X1_fail (1 : Int32) (I b) h1 f = some h5 := y1
    have y2 : D_X10_fails (1 : Int32) x1 = some (0, x5) := y2
    rw [y1, b1_s, b2_s, f_bool _ _ _ y2 (Or.inl rfl)]
    refine Or.inl ⟨h5, f, x5, tx_end (n := 4999) y3.2.1, rfl, y3, fh.tr y4, t1.z.x.tr y5.x⟩
theorem T_load {m x h : MM} (hR : R m (rw1 x)) (f : MM) (hx : Tx h x) {U : Nat} (hU : Rn U (rw1 x 23)) : ∃ (v : Int32) (h' m' f' x' : MM), D_X9_load h m f = some (v, h', m', f') ∧ D_X10_load x = some (v, x') ∧ R m' (rw1 x') ∧ Rn U (rw1 x' 23) ∧ Tx h' x' ∧ gi h' 0 2 = gi x' 0 13 ∧ (∀ q k : Nat, q ≠ 0 → q ≠ 4 → gi h' q k = gi h q k) ∧ (∀ q k : Nat, 4 ≤ q → gi x' q k = gi x q k) := by
  obtain ⟨L, hL, e1, e8, hT⟩ := hx
  have ht : Tok L (fun k => (gi x 7 k).toNatClampNeg) := ⟨hL, fun k hk => by
    obtain ⟨c, c1, c2, c3, c4⟩ := hT k hk
    show 1 ≤ (gi x 7 k).toNatClampNeg ∧ (gi x 7 k).toNatClampNeg ≤ 255
    rw [tncI c3 (by omega)]
    exact ⟨c1, c2⟩⟩
  have t7 : ∀ k : Nat, k < L → gi x 7 k = I ((fun k => (gi x 7 k).toNatClampNeg) k) ∧ gi h 5 k = b8 ((fun k => (gi x 7 k).toNatClampNeg) k) := fun k hk => by
    obtain ⟨c, c1, c2, c3, c4⟩ := hT k hk
    show gi x 7 k = I (gi x 7 k).toNatClampNeg ∧ gi h 5 k = b8 (gi x 7 k).toNatClampNeg
    rw [tncI c3 (by omega)]
    exact ⟨c3, c4⟩
  generalize (fun k => (gi x 7 k).toNatClampNeg) = T at ht t7
  obtain ⟨f0, k1, k2⟩ := clear_s f
  obtain ⟨x0, n1, n2, n3⟩ := begins_x 3 (si x 0 6 0)
  -- the class's start
  have hd : Hd L T (si (si (si (si (si h 0 1 0) 4 2 (I L)) 4 3 0) 4 6 0) 4 7 0) 0 := ⟨by omega, by rw [gi_si_ne (by omega), gi_si_ne (by omega), gi_si_ne (by omega), gi_si_eq], by rw [gi_si_ne (by omega), gi_si_ne (by omega), gi_si_eq]; rfl, fun k hk => by rw [gi_si_ne (by omega), gi_si_ne (by omega), gi_si_ne (by omega), gi_si_ne (by omega), gi_si_ne (by omega)]; exact (t7 k hk).2⟩
  have xd : Xd L T (si (si x0 0 9 0) 0 12 0) 0 := ⟨by omega, by rw [gi_si_ne (by omega), gi_si_ne (by omega), n3 0 8 (by omega), gi_si_ne (by omega)]; exact e8, by rw [gi_si_ne (by omega), gi_si_eq]; rfl, fun k hk => by rw [gi_si_ne (by omega), gi_si_ne (by omega), n3 7 k (by omega), gi_si_ne (by omega)]; exact (t7 k hk).1⟩
  have h6 : gi (si (si (si (si (si h 0 1 0) 4 2 (I L)) 4 3 0) 4 6 0) 4 7 0) 4 6 = 0 := by rw [gi_si_ne (by omega), gi_si_eq]
  have h12 : gi (si (si x0 0 9 0) 0 12 0) 0 12 = 0 := gi_si_eq _ _ _ _
  have hw : ∀ i : Nat, i < 640 → gi (si (si x0 0 9 0) 0 12 0) 3 i = wB i := fun i hi => by rw [gi_si_ne (by omega), gi_si_ne (by omega)]; exact n2 i hi
  have o := rm_s ht hd xd h6 h12 k2 hw
  have ec : D_X1_readText (I L) (si h 0 1 0) f = b2 (D_X1_readMachine (si (si (si (si (si h 0 1 0) 4 2 (I L)) 4 3 0) 4 6 0) 4 7 0) f0) (fun m8 m9 => D_X1_readText_41 FU (0 : Int32) m8 m9) := by
    unfold D_X1_readText
    rw [if_neg (show ¬ (900 : Int32) < I L from fun z => absurd ((I_lt (a := 900) (by omega) (by omega)).mp z) (by omega))]
    simp only [bnd_s]
    rw [k1, b1_s]
  have fh0 : ∀ q k : Nat, q ≠ 0 → q ≠ 4 → gi (si (si (si (si (si h 0 1 0) 4 2 (I L)) 4 3 0) 4 6 0) 4 7 0) q k = gi h q k := fun q k z1 z2 => by rw [gi_si_ne (by omega), gi_si_ne (by omega), gi_si_ne (by omega), gi_si_ne (by omega), gi_si_ne (by omega)]
  have fh1 : gi (si (si (si (si (si h 0 1 0) 4 2 (I L)) 4 3 0) 4 6 0) 4 7 0) 0 1 = 0 := by rw [gi_si_ne (by omega), gi_si_ne (by omega), gi_si_ne (by omega), gi_si_ne (by omega), gi_si_eq]
  have fx0 : ∀ q k : Nat, q ≠ 0 → q ≠ 3 → gi (si (si x0 0 9 0) 0 12 0) q k = gi x q k := fun q k z1 z2 => by rw [gi_si_ne (by omega), gi_si_ne (by omega), n3 q k z2, gi_si_ne (by omega)]
  have fx6 : gi (si (si x0 0 9 0) 0 12 0) 0 6 = 0 := by rw [gi_si_ne (by omega), gi_si_ne (by omega), n3 0 6 (by omega), gi_si_eq]
  unfold D_X9_load D_X10_load
  rw [bnd_s, bnd_s, e1, ec, bnd_s, n1, b1_s, bnd_s, bnd_s]
  generalize si (si (si (si (si h 0 1 0) 4 2 (I L)) 4 3 0) 4 6 0) 4 7 0 = h0 at o fh0 fh1
  generalize si (si x0 0 9 0) 0 12 0 = xx at o fx0 fx6
  rcases o with ⟨h', f', x', c1, c2, c3, c4, c5⟩ | ⟨h', f', x', p, -, c1, c2, c3, c4, c5⟩
  · obtain ⟨z1, z2, z3⟩ := c3
    rw [c1, b2_s, bnd_s, gi_si_eq, if_neg z2, c2, b2_s, bnd_s, bnd_s, if00]
    refine ⟨_, _, m, f', si (si x' 0 8 0) 0 13 (gi (si x' 0 8 0) 0 12), rfl, ?_, ?_, ?_, ⟨0, by omega, ?_, ?_, fun k hk => by omega⟩, ?_, fun q k y1 y2 => ?_, fun q k y1 => ?_⟩
    · rw [show gi (si h' 0 2 (gi h' 4 6)) 4 7 = gi x' 0 11 by rw [gi_si_ne (by omega), z3], show gi (si (si x' 0 8 0) 0 13 (gi (si x' 0 8 0) 0 12)) 0 11 = gi x' 0 11 by rw [gi_si_ne (by omega), gi_si_ne (by omega)]]
    · refine hR.cg (fun i _ => ?_)
      show gi (si (si x' 0 8 0) 0 13 _) 1 i = gi x 1 i
      rw [gi_si_ne (by omega), gi_si_ne (by omega), c5 1 i (by omega), fx0 1 i (by omega) (by omega)]
    · show Rn U (gi (si (si x' 0 8 0) 0 13 _) 1 23)
      rw [gi_si_ne (by omega), gi_si_ne (by omega), c5 1 23 (by omega), fx0 1 23 (by omega) (by omega)]
      exact hU
    · rw [gi_si_ne (by omega), c4 0 1 (by omega), fh1]
      rfl
    · rw [gi_si_ne (by omega), gi_si_eq]
      rfl
    · rw [gi_si_eq, gi_si_eq, gi_si_ne (by omega)]
      exact z1
    · rw [gi_si_ne (by omega), c4 q k y2, fh0 q k y1 y2]
    · rw [gi_si_ne (by omega), gi_si_ne (by omega), c5 q k (by omega), fx0 q k (by omega) (by omega)]
  · obtain ⟨⟨j1, j2, j3, j4⟩, r1, r2⟩ := c3
    rw [c1, b2_s, bnd_s, gi_si_eq, if_pos j3, c2, b2_s, bnd_s, bnd_s, if10]
    obtain ⟨m', u1, u2⟩ := copy_s r1 m
    have er : (si (si x' 0 8 0) 0 13 (gi (si x' 0 8 0) 0 12)).1 3 = x'.1 3 := by rw [row_s0, row_s0]
    obtain ⟨x2, g1, g2, g3⟩ := copies_x 3 1 (by decide) (si (si x' 0 8 0) 0 13 (gi (si x' 0 8 0) 0 12))
    have ew : ∀ i : Nat, i < 640 → rw1 x2 i = x'.1 3 i := fun i hi => by
      show gi x2 1 i = _
      rw [g3 i hi, ← er]
      rfl
    rw [u1, b1_s, g1, b1_s]
    refine ⟨_, _, m', f', x2, rfl, ?_, u2.cg ew, ?_, ⟨0, by omega, ?_, ?_, fun k hk => by omega⟩, ?_, fun q k y1 y2 => ?_, fun q k y1 => ?_⟩
    · show some (rw1 x2 19, x2) = _
      rw [ew 19 (by omega), u2.r0.c19]
    · rw [ew 23 (by omega), r2.1]
      exact ⟨0, by omega, rfl⟩
    · rw [gi_si_ne (by omega), c4 0 1 (by omega), fh1]
      rfl
    · rw [g2 0 8 (by omega), gi_si_ne (by omega), gi_si_eq]
      rfl
    · rw [gi_si_eq, g2 0 13 (by omega), gi_si_eq, gi_si_ne (by omega), j3, j4]
    · rw [gi_si_ne (by omega), c4 q k y2, fh0 q k y1 y2]
    · rw [g2 q k (by omega), gi_si_ne (by omega), gi_si_ne (by omega), c5 q k (by omega), fx0 q k (by omega) (by omega)]
