/-! PROPERTY: all that the law foresees comes -/
theorem save_v {m : MM} {w : Nat → Int32} (hR : R m w) (h c0 c1 : MM) : ∃ (v : Int32) (h' c0' : MM), D_X9_saveSnapshot (0 : Int32) h m c0 c1 = some (.inr (v, h', c0', c1)) ∧ R c0' w ∧ gi h' 6 0 ≠ 0 := by
  obtain ⟨c, k1, k2⟩ := copy_s hR c0
  refine ⟨gi m 24 13, si h 6 0 (vp_nar .boolean (1 : Int32)), c, ?_, k2, ?_⟩
  · unfold D_X9_saveSnapshot
    rw [rqr_ok (n := 2) (by decide), if_pos (show ok (0 : Int32) 2 from ok_I (k := 0) (by decide) (by decide)), bX_s, if_pos rfl, k1, b1_s, if_neg (by decide), bnd_s]
    rfl
  · rw [gi_si_eq]
    decide
theorem rest_v {c0 : MM} {w : Nat → Int32} (hR : R c0 w) {h : MM} (h6 : gi h 6 0 ≠ 0) (m c1 : MM) : ∃ (v : Int32) (m' : MM), D_X9_restoreSnapshot (0 : Int32) h m c0 c1 = some (.inr (v, m')) ∧ R m' w := by
  obtain ⟨c, k1, k2⟩ := copy_s hR m
  refine ⟨gi c 24 13, c, ?_, k2⟩
  unfold D_X9_restoreSnapshot
  rw [rqr_ok (n := 2) (by decide), if_pos (show ok (0 : Int32) 2 from ok_I (k := 0) (by decide) (by decide)), bX_s, if_neg (by decide), show (0 : Int32).toNatClampNeg = 0 by decide, if_neg h6, if_pos rfl, k1, b1_s]
  rfl
theorem fe_v {m : MM} {w : Nat → Int32} (hR : R m w) (hF : 0 < nF w) (h : MM) : D_X9_feederValue (0 : Int32) (2 : Int32) h m = some (.inr (gi m 4 2)) ∧ D_X9_feederValue (0 : Int32) (4 : Int32) h m = some (.inr (gi m 4 4)) := by
  have e2 : D_X9_feederValue (0 : Int32) (2 : Int32) h m = some (.inr (w 132)) := a_feeder hR h (s := 0) (j := 2) hF (by decide)
  have e4 : D_X9_feederValue (0 : Int32) (4 : Int32) h m = some (.inr (w 134)) := a_feeder hR h (s := 0) (j := 4) hF (by decide)
  have f2 : gi m 4 2 = w 132 := hR.r0.fd2 (f := 0) hF
  have f4 : gi m 4 4 = w 134 := hR.r0.fd4 (f := 0) hF
  rw [e2, e4, f2, f4]
  exact ⟨rfl, rfl⟩
theorem d293 {m m' c0 : MM} {w w' : Nat → Int32} {k : Nat} {v6 x7 out : Int32} (hR : R m w) (hF : nF w = 3) (hR' : R m' w') (ho : ∀ (q : Nat) (hh : MM), D_X7_next q hh m' = cOf q hh none) (hv6 : D_J13_bitCount_95d88 (gl m' 36 8) = some v6) (hx7 : 0 ≤ x7) (hc : R c0 w) {h : MM} (h6 : gi h 6 0 ≠ 0) (f c1 : MM) : ∃ h1 m1 f1 d0 d1 : MM, D_L_foresees_293 (wholeV w (gl m 36 8)) (I k) (gi m' 24 13) v6 x7 (gi m' 49 1 - gi m 49 1) (gi m' 49 6 - gi m 49 6) out (w 31) (w 36) (I k) out h m' f c0 c1 = some (1, h1, m1, f1, d0, d1) := by
  obtain ⟨h1, e1, e2⟩ := na_v ho h
  have q1 : D_X9_done (1 : Int32) h1 m' = some (.inr (w' 31)) := a_done hR' h1 (a := 1) (by decide) (by decide)
  have q6 : D_X9_done (6 : Int32) h1 m' = some (.inr (w' 36)) := a_done hR' h1 (a := 6) (by decide) (by decide)
  have g1 : gi m' 49 1 = w' 31 := hR'.r0.dn 1 (by decide)
  have g6 : gi m' 49 6 = w' 36 := hR'.r0.dn 6 (by decide)
  have k1 : gi m 49 1 = w 31 := hR.r0.dn 1 (by decide)
  have k6 : gi m 49 6 = w 36 := hR.r0.dn 6 (by decide)
  have h16 : gi h1 6 0 ≠ 0 := by rw [e2 6 0 (by omega)]; exact h6
  obtain ⟨v, m2, r1, r2⟩ := rest_v hc h16 m' c1
  have wv := whole_v r2 hF h1
  rw [gl_same hR r2] at wv
  unfold D_L_foresees_293
  rw [if_pos rfl, e1, b2_s, if_neg (show ¬ (0 : Int32) ≤ rOf none by decide), show D_X9_now h1 m' = some (gi m' 24 13) from rfl, b1_s, if_pos rfl, show D_X9_filledSet h1 m' = some (gl m' 36 8) from rfl, b1_s, hv6, b1_s, if_pos rfl, q1, lr_s, b1_s, g1, k1, if_pos rfl, q6, lr_s, b1_s, g6, k6, if_pos rfl, if_pos rfl, if_pos hx7, r1, lr_s, b2_s, wv, b1_s, if_pos rfl]
  exact ⟨_, _, _, _, _, rfl⟩
theorem d182 {N : Nat → Nat} (hN : ∀ t : Nat, t < 6 → N t < 1000) {m m' : MM} {w w' : Nat → Int32} {k : Nat} {v6 x7 out : Int32} (hR : R m w) (hF : nF w = 3) (hR' : R m' w') (he : End m k m' none) (hv6 : D_J13_bitCount_95d88 (gl m' 36 8) = some v6) (hx7 : 0 ≤ x7) (hout : (∃ (i : Nat) (mk : MM), i ≤ 1000 ∧ out = I i ∧ Sq i m mk ∧ Emp mk ∧ ∀ (i' : Nat) (mi : MM), i' < i → Sq i' m mi → ¬ Emp mi) ∨ (out = -1 ∧ ∀ (i : Nat) (mk : MM), i ≤ 1000 → Sq i m mk → ¬ Emp mk)) {c0 : MM} (hc : R c0 w) (f c1 : MM) : ∀ (d j n : Nat) (hj mj : MM) (wj : Nat → Int32) (x15 : Int32), j + d = k → d < n → Sq j m mj → R mj wj → nF wj = 3 → Inv (upk j N) 0 wj → Fst m j x15 → gi hj 6 0 ≠ 0 → ∃ h1 m1 f1 d0 d1 : MM, D_L_foresees_182 n (wholeV w (gl m 36 8)) (I k) (gi m' 24 13) v6 x7 (gi m' 49 1 - gi m 49 1) (gi m' 49 6 - gi m 49 6) out (w 31) (w 36) (I j) x15 hj mj f c0 c1 = some (1, h1, m1, f1, d0, d1) := by
  have hk : k ≤ 1000 := he.1
  intro d
  induction d with
  | zero =>
    intro j n hj mj wj x15 hjd hn hs hRj hFj hIj hfst h6
    obtain ⟨n, rfl⟩ : ∃ n0 : Nat, n = n0 + 1 := ⟨n - 1, by omega⟩
    have : j = k := by omega
    subst this
    rw [Sq.det _ hs he.2.1, fst_eq he rfl hfst hout, D_L_foresees_182, if_pos (leT (Nat.le_refl _) (by omega))]
    exact d293 hR hF hR' he.2.2.1 hv6 hx7 hc h6 f c1
  | succ d ih =>
    intro j n hj mj wj x15 hjd hn hs hRj hFj hIj hfst h6
    obtain ⟨n, rfl⟩ : ∃ n0 : Nat, n = n0 + 1 := ⟨n - 1, by omega⟩
    have hs2 : Sq (d + 1) mj m' := Sq.cut j hs (by rw [hjd]; exact he.2.1)
    obtain ⟨a0, s0, t0, r, m1, hx, hp, hs3⟩ := hs2
    obtain ⟨o, ho1, ho2, -⟩ := next_u hRj
    cases o with
    | none =>
      exfalso
      have := (hx 1 zM).symm.trans (ho2 1 zM)
      exact absurd (show (1 : Int32) = 0 from congrArg Prod.fst (Option.some.inj this)) (by decide)
    | some p =>
    obtain ⟨a, s, t⟩ := p
    obtain ⟨ea, es, et⟩ := cOf_some ((hx 1 zM).symm.trans (ho2 1 zM))
    rw [ea, es, et] at hp
    have bd := hRj.r0.bd
    obtain ⟨o1, o2, o3⟩ := rOf_ge bd.1 bd.2.1 bd.2.2.2.1 bd.2.2.2.2.1 (ho1 a s t rfl)
    have hNj : ∀ t : Nat, t < 6 → upk j N t < 1000 := fun t ht => by rw [upk_lo ht]; exact hN t ht
    obtain ⟨r', m1', f1', w1, p1, p2, p3, p4, p5, p6, d9, p7, p8, p9, -⟩ := perf_b hNj hRj hRj hIj ho1
    have e9 := hp.symm.trans p1
    have er : r = r' := congrArg Prod.fst (Option.some.inj e9)
    have em : m1 = m1' := congrArg Prod.snd (Option.some.inj e9)
    subst er
    subst em
    have hF1 : nF w1 = 3 := by
      rw [← hFj]
      unfold nF
      rw [p9 18 (by decide) (by decide)]
    have hI1 : Inv (upk (j + 1) N) 0 w1 := by
      rw [← upk_upk]
      exact p5
    have hsq : Sq (j + 1) m m1 := Sq.app j hs ⟨a, s, t, r, m1, ho2, hp, rfl⟩
    obtain ⟨n', hl⟩ := perf_last hRj o2 o3 hp
    obtain ⟨h1, e1, e2⟩ := na_v ho2 hj
    obtain ⟨h2, f1, f2⟩ := na_v ho2 h1
    obtain ⟨h3, g1, g2⟩ := st_v ho2 hp h2
    have h36 : gi h3 6 0 ≠ 0 := by rw [g2 6 0 (by omega), f2 6 0 (by omega), e2 6 0 (by omega)]; exact h6
    obtain ⟨l1, l2, l3, l4, l5⟩ := log_last hl h3
    obtain ⟨y2, y4⟩ := fe_v p3 (by omega) h3
    have cd : rOf (some (a, s, t)) = I (10000 * a + 100 * s + t) := rfl
    rw [D_L_foresees_182, if_neg (show ¬ I k ≤ I j from leF (by omega) (by omega)), e1, b2_s, if_neg o1, f1, b2_s, g1, b3_s, bnd_s, show I j + (1 : Int32) = I (j + 1) from I_add j 1, l1, b1_s, l2, l3, lr_s, b1_s, if_pos cd.symm, b1_s, l2, l4, lr_s, b1_s, if_pos rfl, b1_s, l2, l5, lr_s, b1_s, show D_X9_now h3 m1 = some (gi m1 24 13) from rfl, b1_s, if_pos rfl]
    by_cases c : 0 ≤ x15
    · rw [if_pos c]
      exact ih (j + 1) n h3 m1 w1 x15 (by omega) (by omega) hsq p3 hF1 hI1 (fst_keep (by omega) hfst c) h36
    · rw [if_neg c, y2, lr_s, b1_s]
      by_cases c2 : gi m1 4 2 = 0
      · rw [if_pos c2, y4, lr_s, b1_s]
        by_cases c4 : gi m1 4 4 = 0
        · rw [if_pos c4]
          exact ih (j + 1) n h3 m1 w1 (I (j + 1)) (by omega) (by omega) hsq p3 hF1 hI1 (fst_yes (by omega) hfst c hsq ⟨c2, c4⟩) h36
        · rw [if_neg c4]
          exact ih (j + 1) n h3 m1 w1 x15 (by omega) (by omega) hsq p3 hF1 hI1 (fst_no (by omega) hfst c hsq (fun z => c4 z.2)) h36
      · rw [if_neg c2]
        exact ih (j + 1) n h3 m1 w1 x15 (by omega) (by omega) hsq p3 hF1 hI1 (fst_no (by omega) hfst c hsq (fun z => c2 z.1)) h36
theorem foresees_v {S : Nat} {N : Nat → Nat} {m : MM} {w : Nat → Int32} (h : Sta S N m w) (hS : S < 1000) (hN : ∀ t : Nat, t < 6 → N t < 1000) (hN6 : N 6 ≤ 2000000) (hh f c0 c1 : MM) : ∃ h1 m1 f1 d0 d1 : MM, D_L_foresees hh m f c0 c1 = some (1, h1, m1, f1, d0, d1) := by
  obtain ⟨e1, e2, e3, e4, e5⟩ := h.cnt hS
  have hR := h.1
  have hI := h.2.1
  have hT : Rn (N 6) (w 23) := by
    obtain ⟨-, -, -, -, -, -, U, ⟨u1, u2⟩, -⟩ := hI
    exact ⟨U, u2, u1⟩
  obtain ⟨f0, k, m', fx, w', hx, o', -, -, he, hR', -, hI', -, -, hg', -, -⟩ := fore_e hN hR hI hh f hT
  obtain ⟨o, og, oe, -⟩ := next_u hR
  have bd := hR.r0.bd
  -- the predictions, one behind the other
  obtain ⟨h1, n1, -⟩ := na_v oe hh
  obtain ⟨h2, q2, r2, -⟩ := f_actions hN hR hI h1 f hT (by omega) he
  obtain ⟨h3, q3, r3, -⟩ := f_time hN hR hI h2 q2 hT he
  obtain ⟨v6, h4, q4, hv6, r4, -⟩ := f_filled hN hR hI h3 q3 hT he
  obtain ⟨h5, q5, r5, -⟩ := f_splices hN hR hI h4 q4 hT he
  obtain ⟨h6, q6, r6, -⟩ := f_changes hN hR hI h5 q5 hT he
  obtain ⟨h7, q7, r7, -⟩ := f_cleans hN hR hI h6 q6 hT he
  obtain ⟨b, h8, q8, r8, b5, -⟩ := f_retries hN hR hI hT h7 q7
  obtain ⟨out, h9, q9, r9, -, hout⟩ := f_runsOut hN hR hI (by omega) h8 q8
  have r9 : D_X9_runsOut (0 : Int32) h8 m q8 = some (.inr (out, h9, q9)) := r9
  have wv := whole_v hR e4 hh
  have wv9 := whole_v hR e4 h9
  -- the splices
  obtain ⟨ws, c, s1, -, s3, s4, -⟩ := Sq.spl k hN hR hI he.2.1
  have hsp : (0 : Int32) ≤ gi m' 45 8 - gi m 45 8 := by
    rw [s1.r0.s27, hR.r0.s27, s4]
    have hk := he.1
    rw [show w 27 + I c - w 27 = I c by rw [Int32.add_comm, Int32.add_sub_cancel]]
    exact leT (a := 0) (Nat.zero_le _) (by omega)
  unfold D_L_foresees
  rw [wv, b1_s, n1, b2_s, r2, b3_s, r3, b3_s, r4, b3_s, r5, b3_s, r6, b3_s, r7, b3_s, r8, b3_s, r9, lr_s, b3_s, wv9, b1_s, if_pos rfl, if_neg (I_nneg (by omega)), if_neg (show ¬ (5 : Int32) < I b from fun z => by have := (I_lt (a := 5) (by decide) (by omega)).mp z; omega)]
  cases o' with
  | none =>
    have hk := he.1
    have ht : (0 : Int32) ≤ gi m' 24 13 := by
      obtain ⟨-, -, -, -, -, -, U, ⟨u1, u2⟩, -⟩ := hI'
      rw [upk_6] at u2
      rw [hR'.r0.s23, u1]
      exact leT (a := 0) (Nat.zero_le _) (by omega)
    rw [if_pos (show (0 : Int32) ≤ fin_ none (I k) (-1) from leT (a := 0) (Nat.zero_le _) (by omega)), if_pos (show (0 : Int32) ≤ fin_ none (gi m' 24 13) (-1) from ht)]
    have fin : ∃ h1 m1 f1 d0 d1 : MM, D_L_foresees_121 (wholeV w (gl m 36 8)) (I k) (gi m' 24 13) v6 (gi m' 45 8 - gi m 45 8) (gi m' 49 1 - gi m 49 1) (gi m' 49 6 - gi m 49 6) out (0 : Int32) (0 : Int32) h9 m q9 c0 c1 = some (1, h1, m1, f1, d0, d1) ∧ D_L_foresees_121 (wholeV w (gl m 36 8)) (I k) (gi m' 24 13) v6 (gi m' 45 8 - gi m 45 8) (gi m' 49 1 - gi m 49 1) (gi m' 49 6 - gi m 49 6) out (1 : Int32) (1 : Int32) h9 m q9 c0 c1 = some (1, h1, m1, f1, d0, d1) := by
      obtain ⟨sv, ha, ca, sa, sb, sc⟩ := save_v hR h9 c0 c1
      have q1 : D_X9_done (1 : Int32) ha m = some (.inr (w 31)) := a_done hR ha (a := 1) (by decide) (by decide)
      have q6 : D_X9_done (6 : Int32) ha m = some (.inr (w 36)) := a_done hR ha (a := 6) (by decide) (by decide)
      obtain ⟨y2, y4⟩ := fe_v hR (by omega) ha
      have go := fun x15 hx => d182 hN hR e4 hR' he hv6 hsp hout sb q9 c1 k 0 FU ha m w x15 (by omega) (show k < 5000 by omega) rfl hR e4 (by rw [show upk 0 N = N from funext fun t => by unfold upk; split <;> simp_all]; exact hI) hx sc
      have f0 := fst_0 m
      by_cases c2 : gi m 4 2 = 0
      · by_cases c4 : gi m 4 4 = 0
        · rw [if_pos c2, if_pos c4] at f0
          obtain ⟨a1, a2, a3, a4, a5, a6⟩ := go 0 f0
          refine ⟨a1, a2, a3, a4, a5, ?_, ?_⟩ <;>
          · unfold D_L_foresees_121
            rw [if_pos rfl, if_pos (show (0 : Int32) ≤ I k from leT (a := 0) (Nat.zero_le _) (by omega)), sa, lr_s, b4_s, q1, lr_s, b1_s, q6, lr_s, b1_s, y2, lr_s, b1_s, if_pos c2, y4, lr_s, b1_s, if_pos c4]
            exact a6
        · rw [if_pos c2, if_neg c4] at f0
          obtain ⟨a1, a2, a3, a4, a5, a6⟩ := go (-1) f0
          refine ⟨a1, a2, a3, a4, a5, ?_, ?_⟩ <;>
          · unfold D_L_foresees_121
            rw [if_pos rfl, if_pos (show (0 : Int32) ≤ I k from leT (a := 0) (Nat.zero_le _) (by omega)), sa, lr_s, b4_s, q1, lr_s, b1_s, q6, lr_s, b1_s, y2, lr_s, b1_s, if_pos c2, y4, lr_s, b1_s, if_neg c4]
            exact a6
      · rw [if_neg c2] at f0
        obtain ⟨a1, a2, a3, a4, a5, a6⟩ := go (-1) f0
        refine ⟨a1, a2, a3, a4, a5, ?_, ?_⟩ <;>
        · unfold D_L_foresees_121
          rw [if_pos rfl, if_pos (show (0 : Int32) ≤ I k from leT (a := 0) (Nat.zero_le _) (by omega)), sa, lr_s, b4_s, q1, lr_s, b1_s, q6, lr_s, b1_s, y2, lr_s, b1_s, if_neg c2]
          exact a6
    obtain ⟨a1, a2, a3, a4, a5, a6, a7⟩ := fin
    refine ⟨a1, a2, a3, a4, a5, ?_⟩
    unfold D_L_foresees_99
    rw [if_pos rfl]
    cases o with
    | none =>
      have k0 : k = 0 := by
        by_cases c : k = 0
        · exact c
        · obtain ⟨d, rfl⟩ : ∃ d : Nat, k = d + 1 := ⟨k - 1, by omega⟩
          exact (Sq.no oe he.2.1).elim
      rw [if_neg (show ¬ (0 : Int32) ≤ rOf none by decide), if_pos (show fin_ none (I k) (-1) = (0 : Int32) by rw [k0]; rfl)]
      exact a7
    | some p =>
      obtain ⟨a, s, t⟩ := p
      have kn : k ≠ 0 := fun z => by
        subst z
        have hm : m' = m := he.2.1
        have e1 := he.2.2.1 1 zM
        rw [hm] at e1
        have := (oe 1 zM).symm.trans e1
        exact absurd (show (1 : Int32) = 0 from congrArg Prod.fst (Option.some.inj this)) (by decide)
      obtain ⟨o1, -, -⟩ := rOf_ge bd.1 bd.2.1 bd.2.2.2.1 bd.2.2.2.2.1 (og a s t rfl)
      rw [if_pos (show (0 : Int32) ≤ rOf (some (a, s, t)) from Int32.not_lt.mp o1), if_neg (show ¬ fin_ none (I k) (-1) = (0 : Int32) from fun z => kn ((I_ne0 (by omega)).mp z))]
      exact a6
  | some p =>
    rw [if_neg (show ¬ (0 : Int32) ≤ fin_ (some p) (I k) (-1) from (by decide : ¬ (0 : Int32) ≤ -1)), if_neg (show ¬ (0 : Int32) ≤ fin_ (some p) (gi m' 24 13) (-1) from (by decide : ¬ (0 : Int32) ≤ -1))]
    unfold D_L_foresees_99
    rw [if_pos rfl]
    cases o with
    | none =>
      exfalso
      have k0 : k = 0 := by
        by_cases c : k = 0
        · exact c
        · obtain ⟨d, rfl⟩ : ∃ d : Nat, k = d + 1 := ⟨k - 1, by omega⟩
          exact (Sq.no oe he.2.1).elim
      exact absurd (he.2.2.2 (by omega)) (by intro z; cases z)
    | some p2 =>
      obtain ⟨a, s, t⟩ := p2
      obtain ⟨o1, -, -⟩ := rOf_ge bd.1 bd.2.1 bd.2.2.2.1 bd.2.2.2.2.1 (og a s t rfl)
      rw [if_pos (show (0 : Int32) ≤ rOf (some (a, s, t)) from Int32.not_lt.mp o1), if_neg (show ¬ fin_ (some p) (I k) (-1) = (0 : Int32) from (by decide : ¬ (-1 : Int32) = 0))]
      unfold D_L_foresees_121
      rw [if_pos rfl, if_neg (show ¬ (0 : Int32) ≤ fin_ (some p) (I k) (-1) from (by decide : ¬ (0 : Int32) ≤ -1))]
      exact ⟨_, _, _, _, _, rfl⟩
