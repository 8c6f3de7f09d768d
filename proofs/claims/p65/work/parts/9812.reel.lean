/-! PROPERTY: when a reel has no parts; retries -/
/-- the reel of feeder 0 has no parts, and none waits -/
def Emp (m : MM) : Prop := gi m 4 2 = 0 ∧ gi m 4 4 = 0
theorem emp_same {m f : MM} {w : Nat → Int32} (h : R m w) (hf : R f w) (h0 : 0 < nF w) : gi f 4 2 = gi m 4 2 ∧ gi f 4 4 = gi m 4 4 := ⟨(hf.r0.fd2 (f := 0) h0).trans (h.r0.fd2 (f := 0) h0).symm, (hf.r0.fd4 (f := 0) h0).trans (h.r0.fd4 (f := 0) h0).symm⟩
theorem aue_l (mm : MM) : ∀ (d j n : Nat) (N : Nat → Nat) (m f : MM) (w : Nat → Int32) (h : MM), (∀ t : Nat, t < 6 → N t < 1000) → j + d = 1000 → d + 1 < n → R m w → R f w → Inv N 0 w → 0 < nF w → ∃ (v : Int32) (h' f' : MM), D_X3_actionsUntilEmpty_12 mm n 4 (I j) h f = some (v, h', f') ∧ HF h h' ∧ ((∃ (k : Nat) (mk : MM), k ≤ d ∧ v = I (j + k) ∧ Sq k m mk ∧ Emp mk ∧ ∀ (i : Nat) (mi : MM), i < k → Sq i m mi → ¬ Emp mi) ∨ (v = -1 ∧ ∀ (k : Nat) (mk : MM), k ≤ d → Sq k m mk → ¬ Emp mk)) := by
  intro d
  induction d with
  | zero =>
    intro j n N m f w h hN hj hn hm hf hI h0
    obtain ⟨n, rfl⟩ : ∃ n0 : Nat, n = n0 + 2 := ⟨n - 2, by omega⟩
    have hj : j = 1000 := by omega
    subst hj
    obtain ⟨e2, e4⟩ := emp_same hm hf h0
    have hu : ¬ Emp m → D_X3_actionsUntilEmpty_12 mm (n + 2) 4 (I 1000) h f = D_X3_actionsUntilEmpty_35 mm (D_X3_actionsUntilEmpty_12 mm (n + 1)) 4 (I 1000) h f := fun z => by
      rw [D_X3_actionsUntilEmpty_12, if_neg (show ¬ (1000 : Int32) < I 1000 by decide), e2, e4]
      by_cases c : gi m 4 2 = 0
      · rw [if_pos c, if_neg (fun y => z ⟨c, y⟩)]
      · rw [if_neg c]
    by_cases z : Emp m
    · refine ⟨I 1000, h, f, ?_, HF.rf h, Or.inl ⟨0, m, Nat.le_refl _, rfl, rfl, z, fun i mi hi => by omega⟩⟩
      rw [D_X3_actionsUntilEmpty_12, if_neg (show ¬ (1000 : Int32) < I 1000 by decide), e2, e4, if_pos z.1, if_pos z.2]
    · rw [hu z]
      have hz : ∀ (k : Nat) (mk : MM), k ≤ 0 → Sq k m mk → ¬ Emp mk := fun k mk hk hs => by
        have : k = 0 := by omega
        subst this
        have hs : mk = m := hs
        rw [hs]
        exact z
      obtain ⟨o, q1, q2, q3⟩ := next_b hm hf
      unfold D_X3_actionsUntilEmpty_35
      rw [q3]
      match o, q1 with
      | none, q1 => exact ⟨-1, h, f, by rw [b2_c0, if_pos rfl], HF.rf h, Or.inr ⟨rfl, hz⟩⟩
      | some (a, s, t), q1 =>
        obtain ⟨r, m1, f1, w1, p1, p2, p3, p4, p5, p6, δ, p7, p8, p9, -⟩ := perf_b hN hm hf hI q1
        refine ⟨-1, dec 2 a s t h, f1, ?_, HF.dec h (by omega) a s t, Or.inr ⟨rfl, hz⟩⟩
        rw [b2_c1, if10, dec_1, dec_2, dec_3, p2, b2_s, bnd_s, D_X3_actionsUntilEmpty_12, if_pos (show (1000 : Int32) < I 1000 + 1 by decide)]
  | succ d ih =>
    intro j n N m f w h hN hj hn hm hf hI h0
    obtain ⟨n, rfl⟩ : ∃ n0 : Nat, n = n0 + 1 := ⟨n - 1, by omega⟩
    obtain ⟨e2, e4⟩ := emp_same hm hf h0
    have hlt : ¬ (1000 : Int32) < I j := fun z => absurd ((I_lt (a := 1000) (by omega) (by omega)).mp z) (by omega)
    have hu : ¬ Emp m → D_X3_actionsUntilEmpty_12 mm (n + 1) 4 (I j) h f = D_X3_actionsUntilEmpty_35 mm (D_X3_actionsUntilEmpty_12 mm n) 4 (I j) h f := fun z => by
      rw [D_X3_actionsUntilEmpty_12, if_neg hlt, e2, e4]
      by_cases c : gi m 4 2 = 0
      · rw [if_pos c, if_neg (fun y => z ⟨c, y⟩)]
      · rw [if_neg c]
    by_cases z : Emp m
    · refine ⟨I j, h, f, ?_, HF.rf h, Or.inl ⟨0, m, Nat.zero_le _, rfl, rfl, z, fun i mi hi => by omega⟩⟩
      rw [D_X3_actionsUntilEmpty_12, if_neg hlt, e2, e4, if_pos z.1, if_pos z.2]
    · rw [hu z]
      have hz : ∀ mk : MM, Sq 0 m mk → ¬ Emp mk := fun mk hs => by
        have hs : mk = m := hs
        rw [hs]
        exact z
      obtain ⟨o, q1, q2, q3⟩ := next_b hm hf
      unfold D_X3_actionsUntilEmpty_35
      rw [q3]
      match o, q1, q2 with
      | none, q1, q2 =>
        refine ⟨-1, h, f, by rw [b2_c0, if_pos rfl], HF.rf h, Or.inr ⟨rfl, fun k mk hk hs => ?_⟩⟩
        cases k with
        | zero => exact hz mk hs
        | succ k => exact absurd (Sq.no q2 hs) id
      | some (a, s, t), q1, q2 =>
        obtain ⟨r, m1, f1, w1, p1, p2, p3, p4, p5, p6, δ, p7, p8, p9, -⟩ := perf_b hN hm hf hI q1
        obtain ⟨v, h', f', r1, r2, r3⟩ := ih (j + 1) n (upk 1 N) m1 f1 w1 (dec 2 a s t h) (fun t ht => by rw [upk_lo ht]; exact hN t ht) (by omega) (by omega) p3 p4 p5 (by rw [nF_e (p9 18 (by omega) (by omega))]; exact h0)
        refine ⟨v, h', f', ?_, (HF.dec h (by omega) a s t).tr r2, ?_⟩
        · rw [b2_c1, if10, dec_1, dec_2, dec_3, p2, b2_s, bnd_s, ixs1]
          exact r1
        · rcases r3 with ⟨k, mk, k1, k2, k3, k4, k5⟩ | ⟨k1, k2⟩
          · refine Or.inl ⟨k + 1, mk, by omega, by rw [k2, show j + 1 + k = j + (k + 1) by omega], ⟨a, s, t, r, m1, q2, p1, k3⟩, k4, fun i mi hi hs => ?_⟩
            cases i with
            | zero => exact hz mi hs
            | succ i => exact k5 i mi (by omega) (Sq.step q2 p1 hs)
          · refine Or.inr ⟨k1, fun k mk hk hs => ?_⟩
            cases k with
            | zero => exact hz mk hs
            | succ k => exact k2 k mk (by omega) (Sq.step q2 p1 hs)
theorem f_runsOut {N : Nat → Nat} (hN : ∀ t : Nat, t < 6 → N t < 1000) {m : MM} {w : Nat → Int32} (hm : R m w) (hI : Inv N 0 w) (h0 : 0 < nF w) (h f : MM) : ∃ (v : Int32) (h' f' : MM), D_X9_runsOut (I 0) h m f = some (.inr (v, h', f')) ∧ HF h h' ∧ ((∃ (k : Nat) (mk : MM), k ≤ 1000 ∧ v = I k ∧ Sq k m mk ∧ Emp mk ∧ ∀ (i : Nat) (mi : MM), i < k → Sq i m mi → ¬ Emp mi) ∨ (v = -1 ∧ ∀ (k : Nat) (mk : MM), k ≤ 1000 → Sq k m mk → ¬ Emp mk)) := by
  obtain ⟨v1, v2, v3, v4, v5, v6, v7, v8⟩ := hm.r0.vc
  obtain ⟨f0, c1, c2⟩ := copy_s hm f
  obtain ⟨v, h', f', r1, r2, r3⟩ := aue_l m 1000 0 FU N m f0 w h hN (by omega) (by show 1001 < 5000; omega) hm c2 hI h0
  have r1 : D_X3_actionsUntilEmpty_12 m FU 4 (0 : Int32) h f0 = some (v, h', f') := r1
  refine ⟨v, h', f', ?_, r2, ?_⟩
  · unfold D_X9_runsOut D_X3_begin D_X3_actionsUntilEmpty
    rw [hm.r0.n18 hm.v, rqi_y (by omega) (ok_I (by omega) h0), bX_s, c1, b1_s, b1_s, gdI (by omega) (by omega), I_tnc (by omega), r1, b3_s, lif_s]
  · rcases r3 with ⟨k, mk, k1, k2, k3⟩ | k
    · exact Or.inl ⟨k, mk, k1, by rw [k2, Nat.zero_add], k3⟩
    · exact Or.inr k
/-- splices are counted up along the plan -/
theorem Sq.spl : ∀ (k : Nat) {N : Nat → Nat} (_ : ∀ t : Nat, t < 6 → N t < 1000) {m m' : MM} {w : Nat → Int32}, R m w → Inv N 0 w → Sq k m m' → ∃ (w' : Nat → Int32) (c : Nat), R m' w' ∧ Inv (upk k N) 0 w' ∧ c ≤ 3 * k ∧ w' 27 = w 27 + I c ∧ ∀ i : Nat, 15 ≤ i → i ≤ 20 → w' i = w i := by
  intro k
  induction k with
  | zero =>
    intro N hN m m' w hm hI hs
    have hs : m' = m := hs
    subst hs
    exact ⟨w, 0, hm, hI.gok hm.r0.bd.2.1 0, by omega, by rw [show I 0 = (0 : Int32) from rfl, Int32.add_zero], fun i _ _ => rfl⟩
  | succ k ih =>
    intro N hN m m' w hm hI ⟨a, s, t, r, m1, hx, hp, hs⟩
    obtain ⟨o, q1, q2, q3⟩ := next_u hm
    obtain ⟨v1, v2, v3, v4, v5, -⟩ := hm.r0.vc
    cases o with
    | none => exact absurd (show (0 : Int32) = 1 from congrArg Prod.fst (Option.some.inj ((q2 1 zM).symm.trans (hx 1 zM)))) (by decide)
    | some p =>
      obtain ⟨a', s', t'⟩ := p
      obtain ⟨e1, e2, e3⟩ := cOf_some ((hx 1 zM).symm.trans (q2 1 zM))
      rw [e1, e2, e3] at hp
      obtain ⟨r2, m2, f2, w2, p1, p2, p3, p4, p5, p6, δ, p7, p8, p9, c, p10, p11⟩ := perf_b hN hm hm hI q1
      have em : m2 = m1 := congrArg Prod.snd (Option.some.inj (p1.symm.trans hp))
      subst em
      obtain ⟨w', c', g1, g2, g3, g4, g5⟩   := ih (fun t ht => by rw [upk_lo ht]; exact hN t ht) p3 p5 hs
      rw [upk_upk, Nat.add_comm 1 k] at g2
      exact ⟨w', c + c', g1, g2, by omega, by rw [g4, p11, Int32.add_assoc, I_add], fun i h1 h2 => (g5 i h1 h2).trans (p9 i h1 h2)⟩
