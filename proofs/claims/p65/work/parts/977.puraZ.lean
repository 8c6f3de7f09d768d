/-! PURE: reading a text: a statement, the whole text -/
theorem F09.e12 {x y : MM} (f : F09 x y) : gi y 0 12 = gi x 0 12 := f 0 12 (by omega)
set_option maxHeartbeats 4000000 in
theorem s_state {L : Nat} {T : Nat → Nat} (ht : Tok L T) {h f x : MM} {p : Nat} (hJ : JS L T h f x p) : Out L T p h x (D_X1_readStatement h f) (D_X10_readStatement x) := by
  obtain ⟨h1, a1, a2, a3, a4⟩ := rw_s ht f hJ.1.1
  obtain ⟨x1, s1, s2, s3, s4⟩ := see_s ht hJ.1.2.1
  have hpb : p ≤ nx sP T L p := nx_ge
  have hnb : nx sP T L p < L → ¬ sP (T (nx sP T L p)) = true := nx_no hJ.1.1.1
  have hbe : nx sP T L p ≤ nx lP T L (nx sP T L p) := nx_ge
  generalize hb : nx sP T L p = b at a3 a4 s1 s3 s4 hpb hnb hbe
  generalize he : nx lP T L b = e at a4 hbe
  have hbb : nx sP T L b = b := nx_at hnb
  have g6 : gi h1 4 6 = 0 := by rw [a2 4 6 (by omega)]; exact hJ.1.2.2.1
  have fh : FH h h1 := fun q k z => a2 q k (by omega)
  have Y : ∀ q : Nat, q < 12 → mt T q b e → D_X1_isWord q h1 f = some 1 := fun q hq => (isw_s ht f a4 a3 hbe hq).1
  have N : ∀ q : Nat, q < 12 → ¬ mt T q b e → D_X1_isWord q h1 f = some 0 := fun q hq => (isw_s ht f a4 a3 hbe hq).2
  have O : ∀ q : Nat, q < 12 → mt T q b e → ∀ q' : Nat, q' < 12 → q' ≠ q → D_X1_isWord q' h1 f = some 0 := fun q hq hm q' hq' hn => N q' hq' (fun z => hn (mt_un hq' hq z hm))
  have K : ∀ (y : MM) (q : Nat), Xd L T y b → q < 12 → ∃ y' : MM, F09 y y' ∧ gi y' 0 10 = I b ∧ ((mt T q b e ∧ D_X10_takes q y = some (1, y') ∧ Xd L T y' e) ∨ (¬ mt T q b e ∧ D_X10_takes q y = some (0, y') ∧ Xd L T y' b)) := fun y q hy hq => by
    have := tk_s ht hy hq
    rw [hbb, he] at this
    exact this
  have J : ∀ y : MM, F09 x y → Xd L T y e → JS L T h1 f y e := fun y fy hy => ⟨⟨a4, hy, g6, by rw [fy.e12]; exact hJ.1.2.2.2⟩, by rw [fy.z.row]; exact hJ.2.1, by rw [fy.z.row]; exact hJ.2.2⟩
  have P : ∀ {y : MM} {c : Option (MM × MM)} {d : Option (Int32 × MM)}, F09 x y → Out L T e h1 y c d → Out L T p h x c d := fun fy o => o.pre (by omega) fh fy.z.x
  unfold D_X1_readStatement D_X10_readStatement
  rw [if_pos hJ.1.2.2.1, a1, b1_s, s1, b2_s, bnd_s, s4]
  have f0 : F09 x x1 := s2
  obtain ⟨y1, t1, u1, o1⟩ := K x1 1 s3 (by omega)
  have f1 : F09 x y1 := f0.tr t1
  rcases o1 with ⟨m1, e1, X1⟩ | ⟨m1, e1, X1⟩
  · rw [Y 1 (by omega) m1, b1_s, if10, e1, b2_s, if10]
    exact P f1 ((s_times ht (J _ f1 X1)).wr)
  · rw [e1, b2_s, if00]
    obtain ⟨y2, t2, u2, o2⟩ := K y1 2 X1 (by omega)
    have f2 : F09 x y2 := f1.tr t2
    rcases o2 with ⟨m2, e2, X2⟩ | ⟨m2, e2, X2⟩
    · rw [O 2 (by omega) m2 1 (by omega) (by omega), b1_s, if00, Y 2 (by omega) m2, b1_s, if10, e2, b2_s, if10]
      rw [b2_id]
      exact P f2 (s_vis ht (J _ f2 X2))
    · rw [e2, b2_s, if00]
      obtain ⟨y3, t3, u3, o3⟩ := K y2 3 X2 (by omega)
      have f3 : F09 x y3 := f2.tr t3
      rcases o3 with ⟨m3, e3, X3⟩ | ⟨m3, e3, X3⟩
      · rw [O 3 (by omega) m3 1 (by omega) (by omega), b1_s, if00, O 3 (by omega) m3 2 (by omega) (by omega), b1_s, if00, Y 3 (by omega) m3, b1_s, if10, e3, b2_s, if10]
        rw [b2_id]
        exact P f3 (s_cam ht (J _ f3 X3))
      · rw [e3, b2_s, if00]
        obtain ⟨y4, t4, u4, o4⟩ := K y3 4 X3 (by omega)
        have f4 : F09 x y4 := f3.tr t4
        rcases o4 with ⟨m4, e4, X4⟩ | ⟨m4, e4, X4⟩
        · rw [O 4 (by omega) m4 1 (by omega) (by omega), b1_s, if00, O 4 (by omega) m4 2 (by omega) (by omega), b1_s, if00, O 4 (by omega) m4 3 (by omega) (by omega), b1_s, if00, Y 4 (by omega) m4, b1_s, if10, e4, b2_s, if10]
          exact P f4 ((s_one ht (J _ f4 X4) (j := 10) (by omega) (B := 1000000) (by omega) (hi := 999999) (by decide) rfl rfl (fun n z1 z2 => ⟨fun z => by omega, fun z => by omega, fun z => by omega⟩)).wr)
        · rw [e4, b2_s, if00]
          obtain ⟨y5, t5, u5, o5⟩ := K y4 5 X4 (by omega)
          have f5 : F09 x y5 := f4.tr t5
          rcases o5 with ⟨m5, e5, X5⟩ | ⟨m5, e5, X5⟩
          · rw [O 5 (by omega) m5 1 (by omega) (by omega), b1_s, if00, O 5 (by omega) m5 2 (by omega) (by omega), b1_s, if00, O 5 (by omega) m5 3 (by omega) (by omega), b1_s, if00, O 5 (by omega) m5 4 (by omega) (by omega), b1_s, if00, Y 5 (by omega) m5, b1_s, if10, e5, b2_s, if10]
            exact P f5 ((s_one ht (J _ f5 X5) (j := 11) (by omega) (B := 21) (by omega) (hi := 20) (by decide) rfl rfl (fun n z1 z2 => ⟨fun z => by omega, fun z => by omega, fun z => by omega⟩)).wr)
          · rw [e5, b2_s, if00]
            obtain ⟨y6, t6, u6, o6⟩ := K y5 6 X5 (by omega)
            have f6 : F09 x y6 := f5.tr t6
            rcases o6 with ⟨m6, e6, X6⟩ | ⟨m6, e6, X6⟩
            · rw [O 6 (by omega) m6 1 (by omega) (by omega), b1_s, if00, O 6 (by omega) m6 2 (by omega) (by omega), b1_s, if00, O 6 (by omega) m6 3 (by omega) (by omega), b1_s, if00, O 6 (by omega) m6 4 (by omega) (by omega), b1_s, if00, O 6 (by omega) m6 5 (by omega) (by omega), b1_s, if00, Y 6 (by omega) m6, b1_s, if10, e6, b2_s, if10]
              rw [b2_id]
              exact P f6 (s_wear ht (J _ f6 X6))
            · rw [e6, b2_s, if00]
              obtain ⟨y11, t11, u11, o11⟩ := K y6 11 X6 (by omega)
              have f11 : F09 x y11 := f6.tr t11
              rcases o11 with ⟨m11, e11, X11⟩ | ⟨m11, e11, X11⟩
              · rw [O 11 (by omega) m11 1 (by omega) (by omega), b1_s, if00, O 11 (by omega) m11 2 (by omega) (by omega), b1_s, if00, O 11 (by omega) m11 3 (by omega) (by omega), b1_s, if00, O 11 (by omega) m11 4 (by omega) (by omega), b1_s, if00, O 11 (by omega) m11 5 (by omega) (by omega), b1_s, if00, O 11 (by omega) m11 6 (by omega) (by omega), b1_s, if00, O 11 (by omega) m11 7 (by omega) (by omega), b1_s, if00, O 11 (by omega) m11 8 (by omega) (by omega), b1_s, if00, O 11 (by omega) m11 9 (by omega) (by omega), b1_s, if00, O 11 (by omega) m11 10 (by omega) (by omega), b1_s, if00, Y 11 (by omega) m11, b1_s, if10, e11, b2_s, if10]
                exact P f11 ((s_bef ht (J _ f11 X11) a3).wr)
              · rw [e11, b2_s, if00]
                obtain ⟨y7, t7, u7, o7⟩ := K y11 7 X11 (by omega)
                have f7 : F09 x y7 := f11.tr t7
                rcases o7 with ⟨m7, e7, X7⟩ | ⟨m7, e7, X7⟩
                · rw [O 7 (by omega) m7 1 (by omega) (by omega), b1_s, if00, O 7 (by omega) m7 2 (by omega) (by omega), b1_s, if00, O 7 (by omega) m7 3 (by omega) (by omega), b1_s, if00, O 7 (by omega) m7 4 (by omega) (by omega), b1_s, if00, O 7 (by omega) m7 5 (by omega) (by omega), b1_s, if00, O 7 (by omega) m7 6 (by omega) (by omega), b1_s, if00, Y 7 (by omega) m7, b1_s, if10, e7, b2_s, if10]
                  exact P f7 ((s_noz ht (J _ f7 X7)).wr)
                · rw [e7, b2_s, if00]
                  obtain ⟨y8, t8, u8, o8⟩ := K y7 8 X7 (by omega)
                  have f8 : F09 x y8 := f7.tr t8
                  rcases o8 with ⟨m8, e8, X8⟩ | ⟨m8, e8, X8⟩
                  · rw [O 8 (by omega) m8 1 (by omega) (by omega), b1_s, if00, O 8 (by omega) m8 2 (by omega) (by omega), b1_s, if00, O 8 (by omega) m8 3 (by omega) (by omega), b1_s, if00, O 8 (by omega) m8 4 (by omega) (by omega), b1_s, if00, O 8 (by omega) m8 5 (by omega) (by omega), b1_s, if00, O 8 (by omega) m8 6 (by omega) (by omega), b1_s, if00, O 8 (by omega) m8 7 (by omega) (by omega), b1_s, if00, Y 8 (by omega) m8, b1_s, if10, e8, b2_s, if10]
                    exact P f8 ((s_kind ht (J _ f8 X8) a3).wr)
                  · rw [e8, b2_s, if00]
                    obtain ⟨y9, t9, u9, o9⟩ := K y8 9 X8 (by omega)
                    have f9 : F09 x y9 := f8.tr t9
                    rcases o9 with ⟨m9, e9, X9⟩ | ⟨m9, e9, X9⟩
                    · rw [O 9 (by omega) m9 1 (by omega) (by omega), b1_s, if00, O 9 (by omega) m9 2 (by omega) (by omega), b1_s, if00, O 9 (by omega) m9 3 (by omega) (by omega), b1_s, if00, O 9 (by omega) m9 4 (by omega) (by omega), b1_s, if00, O 9 (by omega) m9 5 (by omega) (by omega), b1_s, if00, O 9 (by omega) m9 6 (by omega) (by omega), b1_s, if00, O 9 (by omega) m9 7 (by omega) (by omega), b1_s, if00, O 9 (by omega) m9 8 (by omega) (by omega), b1_s, if00, Y 9 (by omega) m9, b1_s, if10, e9, b2_s, if10]
                      exact P f9 ((s_feed ht (J _ f9 X9) a3).wr)
                    · rw [e9, b2_s, if00]
                      obtain ⟨y10, t10, u10, o10⟩ := K y9 10 X9 (by omega)
                      have f10 : F09 x y10 := f9.tr t10
                      rcases o10 with ⟨m10, e10, X10⟩ | ⟨m10, e10, X10⟩
                      · rw [O 10 (by omega) m10 1 (by omega) (by omega), b1_s, if00, O 10 (by omega) m10 2 (by omega) (by omega), b1_s, if00, O 10 (by omega) m10 3 (by omega) (by omega), b1_s, if00, O 10 (by omega) m10 4 (by omega) (by omega), b1_s, if00, O 10 (by omega) m10 5 (by omega) (by omega), b1_s, if00, O 10 (by omega) m10 6 (by omega) (by omega), b1_s, if00, O 10 (by omega) m10 7 (by omega) (by omega), b1_s, if00, O 10 (by omega) m10 8 (by omega) (by omega), b1_s, if00, O 10 (by omega) m10 9 (by omega) (by omega), b1_s, if00, Y 10 (by omega) m10, b1_s, if10, e10, b2_s, if10]
                        exact P f10 ((s_spot ht (J _ f10 X10) a3).wr)
                      · rw [e10, b2_s, if00]
                        rw [N 1 (by omega) m1, b1_s, if00, N 2 (by omega) m2, b1_s, if00, N 3 (by omega) m3, b1_s, if00, N 4 (by omega) m4, b1_s, if00, N 5 (by omega) m5, b1_s, if00, N 6 (by omega) m6, b1_s, if00, N 7 (by omega) m7, b1_s, if00, N 8 (by omega) m8, b1_s, if00, N 9 (by omega) m9, b1_s, if00, N 10 (by omega) m10, b1_s, if00, N 11 (by omega) m11, b1_s, if00, a3]
                        obtain ⟨h5, x5, w1, w2, w3, w4, w5⟩ := fail_s f (e := 1) (by omega) g6 (by rw [f10.e12]; exact hJ.1.2.2.2) u10
                        have w1 : D_X1_fail (1 : Int32) (I b) h1 f = some h5 := w1
                        have w2 : D_X10_fails (1 : Int32) y10 = some (0, x5) := w2
                        rw [w1, b1_s, f_bool _ _ _ w2 (Or.inl rfl)]
                        exact Or.inl ⟨h5, f, x5, rfl, rfl, w3, fh.tr w4, f10.z.x.tr w5.x⟩
theorem semi_s {L : Nat} {T : Nat → Nat} (ht : Tok L T) (m : MM) {h : MM} {b : Nat} (hd : Hd L T h b) (hbL : b < L) (hs : ¬ T b = 32) : ∃ h1 : MM, F43 h h1 ∧ Hd L T h1 b ∧ D_X1_readSemicolon h m = (if T b = 59 then some (si h1 4 3 (I (b + 1))) else b1 (D_X1_fail (1 : Int32) (I b) h1 m) (fun m8 => some m8)) := by
  obtain ⟨h1, e1, f1, d1⟩ := at_s ht m hd
  have hbb : nx sP T L b = b := nx_at (fun _ z => hs (of_decide_eq_true z))
  rw [hbb] at e1 d1
  have hL := ht.1
  have hT := ht.2 b hbL
  refine ⟨h1, f1, d1, ?_⟩
  unfold D_X1_readSemicolon
  rw [e1, b2_s, if_pos hbL, if00, d1.2.2.1, gdI (by omega) (by omega), I_tnc (by omega), d1.2.2.2 b hbL]
  by_cases c : T b = 59
  · rw [if_pos (show b8 (T b) = (59 : Int32) from (b8_eq (d := 59) (by omega) (by omega)).mpr c), if_pos c, bnd_s, ixs1]
  · rw [if_neg (show ¬ b8 (T b) = (59 : Int32) from fun z => c ((b8_eq (d := 59) (by omega) (by omega)).mp z)), if_neg c]
theorem tx_end {n : Nat} {x2 : Int32} {h f : MM} (e : gi h 4 6 ≠ 0) : D_X1_readText_41 (n + 1) x2 h f = some (h, f) := by
  rw [D_X1_readText_41, if_neg e, ite_self]
theorem st_end {h f : MM} (e : gi h 4 6 ≠ 0) : D_X1_readStatement h f = some (h, f) := by
  unfold D_X1_readStatement
  rw [if_neg e]
theorem tx_l {L : Nat} {T : Nat → Nat} (ht : Tok L T) : ∀ (d st n n' : Nat) (h f x : MM) (p : Nat), L - p ≤ d → st ≤ p → d < n → d < n' → JS L T h f x p → Out L T p h x (D_X1_readText_41 n (I st) h f) (D_X10_readsAll_39 n' x) := by
  have hL := ht.1
  -- the text has ended, as the reference sees it
  have fin : ∀ (n' : Nat) (h f x : MM) (p : Nat), JS L T h f x p → nx sP T L p = L → ∃ x2 : MM, D_X10_readsAll_39 (n' + 1) x = some (1, x2) ∧ F09 x x2 ∧ Xd L T x2 L := fun n' h f x p hJ hb => by
    obtain ⟨x1, s1, s2, s3, s4⟩ := see_s ht hJ.1.2.1
    rw [hb] at s1 s3 s4
    obtain ⟨x2, r1, r2, r3, r4⟩ := see_s ht s3
    have hbb : nx sP T L L = L := nx_at (fun z => absurd z (Nat.lt_irrefl L))
    rw [hbb] at r1 r3 r4
    rw [if_neg (Nat.lt_irrefl L)] at s1 r1
    refine ⟨x2, ?_, s2.tr r2, r3⟩
    rw [D_X10_readsAll_39, s1, b2_s, if_neg (show ¬ (-1 : Int32) = 59 by decide), r1, b2_s, if_pos rfl]
  intro d
  induction d with
  | zero =>
    intro st n n' h f x p hd hst hn hn' hJ
    obtain ⟨n, rfl⟩ : ∃ n0 : Nat, n = n0 + 1 := ⟨n - 1, by omega⟩
    obtain ⟨n', rfl⟩ : ∃ n0 : Nat, n' = n0 + 1 := ⟨n' - 1, by omega⟩
    have hpL := hJ.1.1.1
    have hp : p = L := by omega
    subst hp
    have hbb : nx sP T p p = p := nx_at (fun z => absurd z (Nat.lt_irrefl p))
    obtain ⟨x2, q1, q2, q3⟩ := fin n' h f x p hJ hbb
    rw [q1]
    by_cases c : st = p
    · subst c
      refine Or.inr ⟨h, f, x2, st, Nat.le_refl _, ?_, rfl, ⟨⟨hJ.1.1, q3, hJ.1.2.2.1, by rw [q2.e12]; exact hJ.1.2.2.2⟩, by rw [q2.z.row]; exact hJ.2.1, by rw [q2.z.row]; exact hJ.2.2⟩, FH.rf h, q2.z.x⟩
      rw [D_X1_readText_41, hJ.1.1.2.1, if_pos (leT (Nat.le_refl _) (by omega))]
    · obtain ⟨h1, e1, f1, d1⟩ := at_s ht f hJ.1.1
      rw [hbb] at e1 d1
      rw [D_X1_readText_41, hJ.1.1.2.1, if_neg (leF (by omega) (by omega)), if_pos hJ.1.2.2.1, e1, b2_s, if_neg (Nat.lt_irrefl p), if10]
      exact Or.inr ⟨h1, f, x2, p, Nat.le_refl _, rfl, rfl, ⟨⟨d1, q3, by rw [f1 4 6 (by omega)]; exact hJ.1.2.2.1, by rw [q2.e12]; exact hJ.1.2.2.2⟩, by rw [q2.z.row]; exact hJ.2.1, by rw [q2.z.row]; exact hJ.2.2⟩, f1.h, q2.z.x⟩
  | succ d ih =>
    intro st n n' h f x p hd hst hn hn' hJ
    obtain ⟨n, rfl⟩ : ∃ n0 : Nat, n = n0 + 2 := ⟨n - 2, by omega⟩
    obtain ⟨n', rfl⟩ : ∃ n0 : Nat, n' = n0 + 2 := ⟨n' - 2, by omega⟩
    have hpL := hJ.1.1.1
    by_cases c0 : p = L
    · exact ih st (n + 2) (n' + 2) h f x p (by omega) hst (by omega) (by omega) hJ
    obtain ⟨h1, e1, f1, d1⟩ := at_s ht f hJ.1.1
    have hpb : p ≤ nx sP T L p := nx_ge
    have hnb : nx sP T L p < L → ¬ sP (T (nx sP T L p)) = true := nx_no hJ.1.1.1
    have ec : D_X1_readText_41 (n + 2) (I st) h f = b2 (D_X1_isAtEnd h f) (fun v11 m12 => if v11 = 0 then (b1 (D_X1_readSemicolon m12 f) (fun m14 => b2 (D_X1_readStatement m14 f) (fun m16 m17 => bnd (I st + (1 : Int32)) (fun v19 => D_X1_readText_41 (n + 1) v19 m16 m17)))) else (some (m12, f))) := by
      rw [D_X1_readText_41, hJ.1.1.2.1, if_neg (leF (by omega) (by omega)), if_pos hJ.1.2.2.1]
    rw [ec, e1, b2_s]
    have g6 : gi h1 4 6 = 0 := by rw [f1 4 6 (by omega)]; exact hJ.1.2.2.1
    by_cases c : nx sP T L p < L
    · obtain ⟨x1, s1, s2, s3, s4⟩ := see_s ht hJ.1.2.1
      rw [if_pos c] at s1 ⊢
      generalize hb : nx sP T L p = b at d1 s1 s3 s4 hpb hnb c
      have hs : ¬ T b = 32 := fun z => hnb c (decide_eq_true z)
      have hT := ht.2 b c
      obtain ⟨h2, f2, d2, es⟩ := semi_s ht f d1 c hs
      have hbb : nx sP T L b = b := nx_at (fun _ z => hs (of_decide_eq_true z))
      rw [if00, es, D_X10_readsAll_39, s1, b2_s]
      by_cases c59 : T b = 59
      · have dd : Hd L T (si h2 4 3 (I (b + 1))) (b + 1) := d2.mv (F43.s h2 _) (gi_si_eq _ _ _ _) (by omega)
        have xx : Xd L T (si x1 0 9 (I (b + 1))) (b + 1) := s3.mv (F09.s x1 _) (gi_si_eq _ _ _ _) (by omega)
        have fx : F09 x (si x1 0 9 (I (b + 1))) := s2.tr (F09.s x1 _)
        have fh : FH h (si h2 4 3 (I (b + 1))) := (f1.h.tr f2.h).tr (FH.s h2 3 _)
        rw [if_pos c59, b1_s, if_pos (show I (T b) = (59 : Int32) by rw [c59]; rfl), s3.2.2.1, ixs1 b, bnd_s]
        have j3 : JS L T (si h2 4 3 (I (b + 1))) f (si x1 0 9 (I (b + 1))) (b + 1) := ⟨⟨dd, xx, by rw [gi_si_ne (by omega), f2 4 6 (by omega)]; exact g6, by rw [fx.e12]; exact hJ.1.2.2.2⟩, by rw [fx.z.row]; exact hJ.2.1, by rw [fx.z.row]; exact hJ.2.2⟩
        rcases s_state ht j3 with ⟨h', f', x', k1, k2, k3, k4, k5⟩ | ⟨h', f', x', p', k0, k1, k2, k3, k4, k5⟩
        · rw [k1, b2_s, bnd_s, tx_end k3.2.1, k2, b2_s, if00]
          exact Or.inl ⟨h', f', x', rfl, rfl, k3, fh.tr k4, fx.z.x.tr k5⟩
        · rw [k1, b2_s, bnd_s, ixs1, k2, b2_s, if10]
          exact (ih (st + 1) (n + 1) (n' + 1) h' f' x' p' (by omega) (by omega) (by omega) (by omega) k3).pre (by omega) (fh.tr k4) (fx.z.x.tr k5)
      · obtain ⟨x2, r1, r2, r3, r4⟩ := see_s ht s3
        rw [hbb, if_pos c] at r1
        rw [hbb] at r4
        obtain ⟨h5, x5, w1, w2, w3, w4, w5⟩ := fail_s f (h := h2) (x := x2) (e := 1) (p := b) (by omega) (by rw [f2 4 6 (by omega)]; exact g6) (by rw [r2.e12, s2.e12]; exact hJ.1.2.2.2) r4
        have w1 : D_X1_fail (1 : Int32) (I b) h2 f = some h5 := w1
        have w2 : D_X10_fails (1 : Int32) x2 = some (0, x5) := w2
        rw [if_neg c59, w1, b1_s, b1_s, st_end w3.2.1, b2_s, bnd_s, tx_end w3.2.1, if_neg (show ¬ I (T b) = (59 : Int32) from fun z => c59 ((I_inj (b := 59) (by omega) (by omega)).mp z)), r1, b2_s, if_neg (I_ne_neg (by omega)), w2, b2_s, if00]
        exact Or.inl ⟨h5, f, x5, rfl, rfl, w3, (f1.h.tr f2.h).tr w4, (s2.tr r2).z.x.tr w5.x⟩
    · have hb : nx sP T L p = L := by have := d1.1; omega
      obtain ⟨x2, q1, q2, q3⟩ := fin (n' + 1) h f x p hJ hb
      rw [if_neg c, if10, q1]
      rw [hb] at d1
      exact Or.inr ⟨h1, f, x2, L, by omega, rfl, rfl, ⟨⟨d1, q3, g6, by rw [q2.e12]; exact hJ.1.2.2.2⟩, by rw [q2.z.row]; exact hJ.2.1, by rw [q2.z.row]; exact hJ.2.2⟩, f1.h, q2.z.x⟩
