/-! PROPERTY: the plan's actions, steps and runs; single actions -/
theorem inv_does {N : Nat → Nat} (hN : ∀ t : Nat, t < 6 → N t < 1000) {m : MM} {w : Nat → Int32} (h : R m w) (hI : Inv N 0 w) (x : MM) {a s t : Nat} (ok : ActOk w a s t) : ∃ (r : Int32) (w' : Nat → Int32), D_X10_does (I (10000 * a + 100 * s + t)) (pw x w) = some (r, pw x w') ∧ Inv (upk 1 N) 0 w' ∧ ∃ c : Nat, c ≤ 3 ∧ w' 27 = w 27 + I c := by
  have z0 : ∀ {r : Int32} {w' : Nat → Int32} {o : Option (Int32 × MM)}, o = some (r, pw x w') → Inv (upk 1 N) 0 w' → w' 27 = w 27 → ∃ (r : Int32) (w' : Nat → Int32), o = some (r, pw x w') ∧ Inv (upk 1 N) 0 w' ∧ ∃ c : Nat, c ≤ 3 ∧ w' 27 = w 27 + I c := fun e1 e2 e3 => ⟨_, _, e1, e2, 0, by omega, by rw [e3, show I 0 = (0 : Int32) from rfl, Int32.add_zero]⟩
  obtain ⟨v1, v2, v3, v4, v5, v6, -⟩ := h.r0.vc
  obtain ⟨hs, ok⟩ := ok
  have hat : a < 7 ∧ t < 40 := by
    rcases ok with ⟨q, q2, _⟩ | ⟨q, q2, _⟩ | ⟨q, q2, _⟩ | ⟨q, q2, _⟩ | ⟨q, q2, _⟩ | ⟨q, q2, _⟩ <;> exact ⟨by omega, by omega⟩
  obtain ⟨d1, d2, d3⟩ := decode_c a hat.1 s (by omega) t hat.2
  unfold D_X10_does
  rw [d1, d2, d3, bnd_s, bnd_s]
  simp only [b2_id]
  rcases ok with ⟨q, q2, q3, q4, q5⟩ | ⟨q, q2, q3, q4, q5⟩ | ⟨q, q2, q3, q4⟩ | ⟨q, q2, K, hK, q3, q4, q5, q6, q7⟩ | ⟨q, q2, q3⟩ | ⟨q, q2, q3, q4⟩ <;> subst q
  · rw [if_pos (by decide)]
    obtain ⟨w', e1, e2, e3⟩ := inv_change h hI x hs q2 q3 q4 q5 hN
    exact z0 e1 e2 e3
  · rw [if_neg (by decide), if_pos (by decide)]
    exact inv_pick h hI x hs q2 q3 q4 q5
  · rw [if_neg (by decide), if_neg (by decide), if_pos (by decide)]
    obtain ⟨r, w', e1, e2, e3⟩ := inv_look h hI x hs q3 q4
    exact z0 e1 e2 e3
  · rw [if_neg (by decide), if_neg (by decide), if_neg (by decide), if_pos (by decide)]
    obtain ⟨G, g1, -, g3⟩ := ob_x x h.v v5 v6 t
    obtain ⟨w', e1, e2, e3⟩ := inv_place h hI x hs q2 hK q3 q4 q6 q5 (by rw [g1, g3.mpr q7])
    exact z0 e1 e2 e3
  · rw [if_neg (by decide), if_neg (by decide), if_neg (by decide), if_neg (by decide), if_pos (by decide)]
    obtain ⟨w', e1, e2, e3⟩ := inv_discard h hI x hs q3
    exact z0 e1 e2 e3
  · rw [if_neg (by decide), if_neg (by decide), if_neg (by decide), if_neg (by decide), if_neg (by decide), if_pos (by decide)]
    obtain ⟨w', e1, e2, e3⟩ := inv_clean h hI x hs q3 q4
    exact z0 e1 e2 e3
theorem pw_inj {x : MM} {a b : Nat → Int32} (h : pw x a = pw x b) : a = b := by
  have := congrArg rw1 h
  rwa [rw1_pw, rw1_pw] at this
/-- an action of the plan, on all sides -/
theorem does_i {N : Nat → Nat} (hN : ∀ t : Nat, t < 6 → N t < 1000) {m : MM} {w : Nat → Int32} (h : R m w) (hI : Inv N 0 w) (x : MM) {a s t : Nat} (hg : Good w (some (a, s, t))) : ∃ (r : Int32) (m' : MM) (w' : Nat → Int32), D_X6_perform (I a) (I s) (I t) m = some (r, m') ∧ D_X10_does (rOf (some (a, s, t))) (pw x w) = some (r, pw x w') ∧ R m' w' ∧ Inv (upk 1 N) 0 w' ∧ ∃ d : Int32, Rn 1199 d ∧ w' 23 = w 23 + d ∧ Rn 2 r ∧ (∀ i : Nat, 15 ≤ i → i ≤ 20 → w' i = w i) ∧ ∃ c : Nat, c ≤ 3 ∧ w' 27 = w 27 + I c := by
  obtain ⟨r, m', w', e1, e2, e3, d, e4, e5, e6, e7⟩ := does_s h x hg
  obtain ⟨r2, w2, f1, f2, f3⟩ := inv_does hN h hI x (hg a s t rfl)
  have f1 : D_X10_does (rOf (some (a, s, t))) (pw x w) = some (r2, pw x w2) := f1
  have e := f1.symm.trans e2
  have ew : w2 = w' := pw_inj (x := x) (congrArg Prod.snd (Option.some.inj e))
  subst ew
  exact ⟨r, m', w2, e1, e2, e3, f2, d, e4, e5, e6, e7, f3⟩
theorem inv_runs (M : Nat) (hM : M ≤ 1000) : ∀ (d i n : Nat) (N : Nat → Nat) (m : MM) (w : Nat → Int32) (x : MM) (act : Int32), (∀ t : Nat, t < 6 → N t < 1000) → i + d = M → d < n → R m w → Inv N 0 w → (i < M → D_X10_next (pw x w) = some act) → (i = M → act = -1) → ∃ (v : Int32) (y : MM), D_X10_runs_16 n (I M) (I i) act (pw x w) = some (v, y) ∧ Inv (upk d N) 0 (rw1 y) := by
  intro d
  induction d with
  | zero =>
    intro i n N m w x act hN hi hn hR hI ha hb
    obtain ⟨n, rfl⟩ : ∃ n0 : Nat, n = n0 + 1 := ⟨n - 1, by omega⟩
    refine ⟨I i, pw x w, ?_, by rw [rw1_pw]; exact hI.gok hR.r0.bd.2.1 _⟩
    unfold D_X10_runs_16
    rw [if_pos (hb (by omega))]
  | succ d ih =>
    intro i n N m w x act hN hi hn hR hI ha hb
    obtain ⟨n, rfl⟩ : ∃ n0 : Nat, n = n0 + 1 := ⟨n - 1, by omega⟩
    obtain ⟨o, p1, p2, p3⟩ := next_s hR x 1 x
    have ea : act = rOf o := Option.some.inj ((ha (by omega)).symm.trans p2)
    cases o with
    | none =>
      refine ⟨I i, pw x w, ?_, by rw [rw1_pw]; exact hI.gok hR.r0.bd.2.1 _⟩
      unfold D_X10_runs_16
      rw [if_pos (by rw [ea]; rfl)]
    | some o =>
      obtain ⟨a, s, t⟩ := o
      obtain ⟨r, m1, w1, f1, f2, f3, f4, -⟩ := does_i hN hR hI x p3
      obtain ⟨o2, q1, q2, q3⟩ := next_s f3 (si x 0 16 r) 1 x
      obtain ⟨v, y, r1, r2⟩ := ih (i + 1) n (upk 1 N) m1 w1 (si x 0 16 r) (if i + 1 < M then rOf o2 else -1) (fun t ht => by rw [upk_lo ht]; exact hN t ht) (by omega) (by omega) f3 f4 (fun z => by rw [if_pos z]; exact q2) (fun z => if_neg (by omega))
      rw [upk_upk, Nat.add_comm 1 d] at r2
      refine ⟨v, y, ?_, r2⟩
      rw [← r1]
      generalize hB : D_X10_runs_16 n (I M) (I (i + 1)) (if i + 1 < M then rOf o2 else -1) (pw (si x 0 16 r) w1) = BB
      unfold D_X10_runs_16
      rw [ea, if_neg (rOf_ne hR.r0 p3), f2, b2_s, siP0, bnd_s, bnd_s, ixs1, q2, b1_s]
      by_cases c : i + 1 < M
      · rw [if_pos c] at hB
        rw [if_neg (leF c (by omega))]
        exact hB
      · rw [if_neg c] at hB
        rw [if_pos (leT (by omega) (by omega))]
        exact hB
theorem p_run {N : Nat → Nat} (hN : ∀ t : Nat, t < 6 → N t < 1000) {m : MM} {w : Nat → Int32} (hR : R m w) (hI : Inv N 0 w) (x : MM) {n : Nat} (n1 : 1 ≤ n) (n5 : n ≤ 500) : ∃ (v : Int32) (y : MM), D_X10_run (I n) (pw x w) = some (v, y) ∧ Inv (upk n N) 0 (rw1 y) := by
  obtain ⟨o, p1, p2, p3⟩ := next_s hR (th x 0) 1 x
  obtain ⟨v, y, r1, r2⟩ := inv_runs n (by omega) n 0 FU N m w (th x 0) (rOf o) hN (by omega) (by show n < 5000; omega) hR hI (fun _ => p2) (fun z => by omega)
  have r1 : D_X10_runs_16 FU (I n) (0 : Int32) (rOf o) (pw (th x 0) w) = some (v, y) := r1
  refine ⟨v, y, ?_, r2⟩
  have e : D_X10_in (I n).toInt64 (1 : Int64) (500 : Int64) = some 1 := by
    rw [in_eq, Int32.toInt_toInt64, I_toInt (by omega), show (1 : Int64).toInt = 1 by decide, show (500 : Int64).toInt = 500 by decide, if_pos (by omega)]
  unfold D_X10_run
  rw [fineP, b2_s, if10, e, b1_s, if10, tif0P, b2_s, if00, b2_id]
  unfold D_X10_runs
  rw [if_neg (show ¬ I n ≤ (0 : Int32) from leF (a := n) (b := 0) (by omega) (by omega)), p2, b1_s]
  exact r1
theorem p_step {N : Nat → Nat} (hN : ∀ t : Nat, t < 6 → N t < 1000) {m : MM} {w : Nat → Int32} (hR : R m w) (hI : Inv N 0 w) (x : MM) : ∃ (v : Int32) (y : MM), D_X10_step (pw x w) = some (v, y) ∧ Inv (upk 1 N) 0 (rw1 y) := by
  obtain ⟨o, p1, p2, p3⟩ := next_s hR (th x 0) 1 x
  unfold D_X10_step
  rw [bnd_s, zeroP, p2, b1_s]
  cases o with
  | none => exact ⟨-1, pw (th x 0) w, by rw [if_pos (show rOf none = (-1 : Int32) from rfl)], by rw [rw1_pw]; exact hI.gok hR.r0.bd.2.1 1⟩
  | some o =>
    obtain ⟨a, s, t⟩ := o
    obtain ⟨r, m1, w1, f1, f2, f3, f4, -⟩ := does_i hN hR hI (th x 0) p3
    exact ⟨r, pw (th x 0) w1, by rw [if_neg (rOf_ne hR.r0 p3), b2_id, f2], by rw [rw1_pw]; exact f4⟩
-- single actions
theorem p_change {N : Nat → Nat} (hN : ∀ t : Nat, t < 6 → N t < 1000) {m : MM} {w : Nat → Int32} (hR : R m w) (hI : Inv N 0 w) (x : MM) {s t : Nat} (hs : s < nS w) (ht : t < nT w) : ∃ (v : Int32) (y : MM), D_X10_changeNozzle (I s) (I t) (pw x w) = some (v, y) ∧ Inv (upk 1 N) 0 (rw1 y) := by
  obtain ⟨v1, v2, v3, v4, v5, v6, v7, v8⟩ := hR.r0.vc
  have hv := hR.v
  have same : ∀ v : Int32, D_X10_changes (I s) (I t) (pw (th x 0) w) = some (v, pw (th x 0) w) → ∃ (v : Int32) (y : MM), D_X10_changes (I s) (I t) (pw (th x 0) w) = some (v, y) ∧ Inv (upk 1 N) 0 (rw1 y) := fun v e => ⟨v, _, e, by rw [rw1_pw]; exact hI.gok hR.r0.bd.2.1 1⟩
  unfold D_X10_changeNozzle
  rw [nspP_y hv v1 (ok_I (by omega) hs), b2_s, if00, ityP hv v2, b1_s, if_pos (ok_I (by omega) ht), if10, tif0P, b2_s, if00, b2_id]
  by_cases h1 : w (58 + 8 * s + 1) = -1
  · by_cases h2 : w (58 + 8 * s) = I t
    · refine same (-5) ?_
      unfold D_X10_changes
      rw [oSp1P (by omega), b1_s, if_pos h1, oSp0P (by omega), b1_s, if_pos h2]
    · by_cases h3 : w (44 + t) = 0
      · refine same (-4) ?_
        unfold D_X10_changes
        rw [oSp1P (by omega), b1_s, if_pos h1, oSp0P (by omega), b1_s, if_neg h2, ix44, gdI (by omega) (by omega), I_tnc (by omega), giP, if_pos h3]
      · obtain ⟨w', e1, e2, -⟩ := inv_change hR hI (th x 0) hs ht h1 h2 h3 hN
        exact ⟨1, _, e1, by rw [rw1_pw]; exact e2⟩
  · refine same (-3) ?_
    unfold D_X10_changes
    rw [oSp1P (by omega), b1_s, if_neg h1]
theorem p_pick {N : Nat → Nat} {m : MM} {w : Nat → Int32} (hR : R m w) (hI : Inv N 0 w) (x : MM) {s f : Nat} (hs : s < nS w) (hf : f < nF w) : ∃ (v : Int32) (y : MM), D_X10_pick (I s) (I f) (pw x w) = some (v, y) ∧ Inv (upk 1 N) 0 (rw1 y) := by
  obtain ⟨v1, v2, v3, v4, v5, v6, v7, v8⟩ := hR.r0.vc
  have hv := hR.v
  obtain ⟨K, hK, hk⟩ := (hv.fd f hf).1
  have hk : w (130 + 11 * f) = I K := hk
  have same : ∀ v : Int32, D_X10_picks (I s) (I f) (pw (th x 0) w) = some (v, pw (th x 0) w) → ∃ (v : Int32) (y : MM), D_X10_picks (I s) (I f) (pw (th x 0) w) = some (v, y) ∧ Inv (upk 1 N) 0 (rw1 y) := fun v e => ⟨v, _, e, by rw [rw1_pw]; exact hI.gok hR.r0.bd.2.1 1⟩
  unfold D_X10_pick
  rw [nspP_y hv v1 (ok_I (by omega) hs), b2_s, if00, ifdP hv v4, b1_s, if_pos (ok_I (by omega) hf), if10, tif0P, b2_s, if00, b2_id]
  by_cases h1 : w (58 + 8 * s + 1) = -1
  · by_cases h2 : w (58 + 8 * s) = w (50 + K)
    · by_cases h3 : w (130 + 11 * f + 2) = 0
      · refine same (-4) ?_
        unfold D_X10_picks
        rw [oFd0P (by omega), b1_s, oSp1P (by omega), b1_s, if_pos h1, oSp0P (by omega), b1_s, hk, ix50, gdI (by omega) (by omega), I_tnc (by omega), giP, if_pos h2, oFd2P (by omega), b1_s, if_pos h3]
      · obtain ⟨r, w', e1, e2, -⟩ := inv_pick hR hI (th x 0) hs hf h1 (fun L hL e => by
          have : K = L := (I_inj (by omega) (by omega)).mp (hk.symm.trans e)
          subst this
          exact h2) h3
        exact ⟨r, _, e1, by rw [rw1_pw]; exact e2⟩
    · refine same (-5) ?_
      unfold D_X10_picks
      rw [oFd0P (by omega), b1_s, oSp1P (by omega), b1_s, if_pos h1, oSp0P (by omega), b1_s, hk, ix50, gdI (by omega) (by omega), I_tnc (by omega), giP, if_neg h2]
  · refine same (-3) ?_
    unfold D_X10_picks
    rw [oFd0P (by omega), b1_s, oSp1P (by omega), b1_s, if_neg h1]
theorem p_look {N : Nat → Nat} {m : MM} {w : Nat → Int32} (hR : R m w) (hI : Inv N 0 w) (x : MM) {s : Nat} (hs : s < nS w) : ∃ (v : Int32) (y : MM), D_X10_look (I s) (pw x w) = some (v, y) ∧ Inv (upk 1 N) 0 (rw1 y) := by
  obtain ⟨v1, v2, v3, v4, v5, v6, v7, v8⟩ := hR.r0.vc
  have hv := hR.v
  have same : ∀ v : Int32, D_X10_looks (I s) (pw (th x 0) w) = some (v, pw (th x 0) w) → ∃ (v : Int32) (y : MM), D_X10_looks (I s) (pw (th x 0) w) = some (v, y) ∧ Inv (upk 1 N) 0 (rw1 y) := fun v e => ⟨v, _, e, by rw [rw1_pw]; exact hI.gok hR.r0.bd.2.1 1⟩
  unfold D_X10_look
  rw [nspP_y hv v1 (ok_I (by omega) hs), b2_s, if00, b2_id]
  by_cases h1 : w (58 + 8 * s + 1) = -1
  · refine same (-3) ?_
    unfold D_X10_looks
    rw [oSp1P (by omega), b1_s, if_pos h1]
  · by_cases h2 : w (58 + 8 * s + 2) = 1
    · refine same (-3) ?_
      unfold D_X10_looks
      rw [oSp1P (by omega), b1_s, if_neg h1, oSp2P (by omega), b1_s, if_pos h2]
    · obtain ⟨r, w', e1, e2, -⟩ := inv_look hR hI (th x 0) hs h1 h2
      exact ⟨r, _, e1, by rw [rw1_pw]; exact e2⟩
theorem p_discard {N : Nat → Nat} {m : MM} {w : Nat → Int32} (hR : R m w) (hI : Inv N 0 w) (x : MM) {s : Nat} (hs : s < nS w) : ∃ (v : Int32) (y : MM), D_X10_discard (I s) (pw x w) = some (v, y) ∧ Inv (upk 1 N) 0 (rw1 y) := by
  obtain ⟨v1, v2, v3, v4, v5, v6, v7, v8⟩ := hR.r0.vc
  have hv := hR.v
  unfold D_X10_discard
  rw [nspP_y hv v1 (ok_I (by omega) hs), b2_s, if00, b2_id]
  by_cases h1 : w (58 + 8 * s + 1) = -1
  · refine ⟨-3, pw (th x 0) w, ?_, by rw [rw1_pw]; exact hI.gok hR.r0.bd.2.1 1⟩
    unfold D_X10_discards
    rw [oSp1P (by omega), b1_s, if_pos h1]
  · obtain ⟨w', e1, e2, -⟩ := inv_discard hR hI (th x 0) hs h1
    exact ⟨1, _, e1, by rw [rw1_pw]; exact e2⟩
theorem p_clean {N : Nat → Nat} {m : MM} {w : Nat → Int32} (hR : R m w) (hI : Inv N 0 w) (x : MM) {s : Nat} (hs : s < nS w) : ∃ (v : Int32) (y : MM), D_X10_clean (I s) (pw x w) = some (v, y) ∧ Inv (upk 1 N) 0 (rw1 y) := by
  obtain ⟨v1, v2, v3, v4, v5, v6, v7, v8⟩ := hR.r0.vc
  have hv := hR.v
  unfold D_X10_clean
  rw [nspP_y hv v1 (ok_I (by omega) hs), b2_s, if00, b2_id]
  by_cases h1 : w (58 + 8 * s + 1) = -1
  · by_cases h2 : w (58 + 8 * s) = -1
    · refine ⟨-4, pw (th x 0) w, ?_, by rw [rw1_pw]; exact hI.gok hR.r0.bd.2.1 1⟩
      unfold D_X10_cleans
      rw [oSp1P (by omega), b1_s, if_pos h1, oSp0P (by omega), b1_s, if_pos h2]
    · obtain ⟨w', e1, e2, -⟩ := inv_clean hR hI (th x 0) hs h1 h2
      exact ⟨1, _, e1, by rw [rw1_pw]; exact e2⟩
  · refine ⟨-3, pw (th x 0) w, ?_, by rw [rw1_pw]; exact hI.gok hR.r0.bd.2.1 1⟩
    unfold D_X10_cleans
    rw [oSp1P (by omega), b1_s, if_neg h1]
theorem p_place {N : Nat → Nat} {m : MM} {w : Nat → Int32} (hR : R m w) (hI : Inv N 0 w) (x : MM) {s k : Nat} (hs : s < nS w) (hk : k < nP w) : ∃ (v : Int32) (y : MM), D_X10_place (I s) (I k) (pw x w) = some (v, y) ∧ Inv (upk 1 N) 0 (rw1 y) := by
  obtain ⟨v1, v2, v3, v4, v5, v6, v7, v8⟩ := hR.r0.vc
  have hv := hR.v
  have same : ∀ v : Int32, D_X10_places (I s) (I k) (pw (th x 0) w) = some (v, pw (th x 0) w) → ∃ (v : Int32) (y : MM), D_X10_places (I s) (I k) (pw (th x 0) w) = some (v, y) ∧ Inv (upk 1 N) 0 (rw1 y) := fun v e => ⟨v, _, e, by rw [rw1_pw]; exact hI.gok hR.r0.bd.2.1 1⟩
  unfold D_X10_place
  rw [nspP_y hv v1 (ok_I (by omega) hs), b2_s, if00, istP hv v5, b1_s, if_pos (ok_I (by omega) hk), if10, tif0P, b2_s, if00, b2_id]
  rcases (hv.sp s hs).2.1 with h1 | ⟨K, hK, h1⟩
  · have h1 : w (58 + 8 * s + 1) = -1 := h1
    refine same (-3) ?_
    unfold D_X10_places
    rw [oSp1P (by omega), b1_s, if_pos h1]
  · have h1 : w (58 + 8 * s + 1) = I K := h1
    by_cases h2 : w (58 + 8 * s + 2) = 0
    · refine same (-3) ?_
      unfold D_X10_places
      rw [oSp1P (by omega), b1_s, h1, if_neg (I_ne_neg (by omega)), oSp2P (by omega), b1_s, if_pos h2]
    · by_cases h3 : w (240 + 6 * k + 3) = 0
      · by_cases h4 : w (240 + 6 * k) = I K
        · obtain ⟨G, g1, -, g3⟩ := ob_x (th x 0) hv v5 v6 k
          by_cases h5 : G = 0
          · obtain ⟨w', e1, e2, -⟩ := inv_place hR hI (th x 0) hs hk hK h1 h2 h3 h4 (by rw [g1, h5])
            exact ⟨1, _, e1, by rw [rw1_pw]; exact e2⟩
          · refine same (-6) ?_
            unfold D_X10_places
            rw [oSp1P (by omega), b1_s, h1, if_neg (I_ne_neg (by omega)), oSp2P (by omega), b1_s, if_neg h2, oSt3P (by omega), b1_s, if_pos h3, oSt0P (by omega), b1_s, if_pos h4, g1, b1_s, if_neg h5]
        · refine same (-5) ?_
          unfold D_X10_places
          rw [oSp1P (by omega), b1_s, h1, if_neg (I_ne_neg (by omega)), oSp2P (by omega), b1_s, if_neg h2, oSt3P (by omega), b1_s, if_pos h3, oSt0P (by omega), b1_s, if_neg h4]
      · refine same (-3) ?_
        unfold D_X10_places
        rw [oSp1P (by omega), b1_s, h1, if_neg (I_ne_neg (by omega)), oSp2P (by omega), b1_s, if_neg h2, oSt3P (by omega), b1_s, if_neg h3]
