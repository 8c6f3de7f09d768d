/-! PURE: the plan's calls; boards and spots -/
theorem T_nextAction {m : MM} {w : Nat → Int32} (hR : R m w) (x h : MM) : ∃ (v : Int32) (h' x' : MM), D_X9_nextAction h m = some (v, h') ∧ D_X10_nextAction (pw x w) = some (v, pw x' w) ∧ HF h h' ∧ XK x x' := by
  obtain ⟨o, q1, q2, q3⟩ := next_s hR (th x 0) 1 h
  unfold D_X9_nextAction D_X10_nextAction
  rw [zeroP, bnd_s, q1, q2, b1_s]
  match o with
  | none =>
    rw [b2_c0, if00]
    exact ⟨-1, h, th x 0, rfl, rfl, HF.rf h, XK.th x 0⟩
  | some (a, s, t) =>
    rw [b2_c1, if10, dec_1, dec_2, dec_3]
    unfold D_X9_codeOf
    rw [b1_s, code_x]
    exact ⟨_, _, th x 0, rfl, rfl, HF.dec h (by omega) a s t, XK.th x 0⟩
theorem follow_s {m : MM} {w : Nat → Int32} (hR : R m w) (x h : MM) : ∃ (o : Option (Nat × Nat × Nat)) (v : Int32) (h' m' : MM) (w' : Nat → Int32), D_X7_follow 1 h m = some (v, h', m') ∧ D_X10_next (pw x w) = some (rOf o) ∧ HF h h' ∧ R m' w' ∧ (∃ δ : Int32, Rn 1199 δ ∧ w' 23 = w 23 + δ) ∧ ((o = none ∧ v = -1 ∧ w' = w ∧ m' = m) ∨ (rOf o ≠ -1 ∧ Rn 2 v ∧ D_X10_does (rOf o) (pw x w) = some (v, pw x w'))) := by
  obtain ⟨o, q1, q2, q3⟩ := next_s hR x 1 h
  unfold D_X7_follow
  rw [q1]
  match o, q2, q3 with
  | none, q2, q3 =>
    rw [b2_c0, if00]
    exact ⟨none, -1, h, m, w, rfl, q2, HF.rf h, hR, ⟨0, Rn.z, by rw [Int32.add_zero]⟩, Or.inl ⟨rfl, rfl, rfl, rfl⟩⟩
  | some (a, s, t), q2, q3 =>
    obtain ⟨r, m', w', p1, p2, p3, δ, hδ, eδ, hr, -⟩ := does_s hR x q3
    rw [b2_c1, if10, dec_1, dec_2, dec_3, p1, b2_s]
    exact ⟨some (a, s, t), r, _, m', w', rfl, q2, HF.dec h (by omega) a s t, p3, ⟨δ, hδ, eδ⟩, Or.inr ⟨rOf_ne hR.r0 q3, hr, p2⟩⟩
theorem Rn.ne {n : Nat} {v : Int32} (h : Rn n v) (hn : n < 2147483648) : ¬ v = -1 := by
  obtain ⟨p, hp, rfl⟩ := h
  exact I_ne_neg (by omega)
theorem T_step {m : MM} {w : Nat → Int32} (hR : R m w) (x h : MM) : ∃ (v : Int32) (h' m' x' : MM) (w' : Nat → Int32), D_X9_step h m = some (v, h', m') ∧ D_X10_step (pw x w) = some (v, pw x' w') ∧ HF h h' ∧ R m' w' ∧ (∃ δ : Int32, Rn 599500 δ ∧ w' 23 = w 23 + δ) ∧ XK x x' := by
  obtain ⟨o, v, h', m', w', f1, f2, f3, f4, ⟨δ, hδ, eδ⟩, f6⟩ := follow_s hR (th x 0) h
  unfold D_X9_step D_X10_step
  rw [zeroP, bnd_s, f1, b3_s, f2, b1_s]
  refine ⟨v, h', m', th x 0, w', rfl, ?_, f3, f4, ⟨δ, hδ.mono (by decide), eδ⟩, XK.th x 0⟩
  rcases f6 with ⟨rfl, rfl, rfl, -⟩ | ⟨n1, -, f7⟩
  · rw [if_pos (show rOf none = -1 from rfl)]
  · rw [if_neg n1, f7, b2_s]
theorem run_l (N : Nat) (hN : N ≤ 500) : ∀ (d i n n' : Nat) (m : MM) (w : Nat → Int32) (x h : MM) (act : Int32), i + d = N → d < n → d < n' → R m w → (i < N → D_X10_next (pw x w) = some act) → (i = N → act = -1) → ∃ (J : Nat) (h' m' x' : MM) (w' : Nat → Int32), D_X9_run_10 n (I N) (I i) h m = some (I J, h', m') ∧ D_X10_runs_16 n' (I N) (I i) act (pw x w) = some (I J, pw x' w') ∧ R m' w' ∧ HF h h' ∧ XF x x' ∧ ∃ δ : Int32, Rn (1199 * d) δ ∧ w' 23 = w 23 + δ := by
  intro d
  induction d with
  | zero =>
    intro i n n' m w x h act hi hn hn' hR ha hb
    obtain ⟨n, rfl⟩ : ∃ n0 : Nat, n = n0 + 1 := ⟨n - 1, by omega⟩
    obtain ⟨n', rfl⟩ : ∃ n0 : Nat, n' = n0 + 1 := ⟨n' - 1, by omega⟩
    have hi : i = N := by omega
    subst hi
    refine ⟨i, h, m, x, w, ?_, ?_, hR, HF.rf h, XF.rf x, 0, Rn.z, by rw [Int32.add_zero]⟩
    · unfold D_X9_run_10
      rw [if_pos (leT (Nat.le_refl _) (by omega))]
    · unfold D_X10_runs_16
      rw [if_pos (hb rfl)]
  | succ d ih =>
    intro i n n' m w x h act hi hn hn' hR ha hb
    obtain ⟨n, rfl⟩ : ∃ n0 : Nat, n = n0 + 1 := ⟨n - 1, by omega⟩
    obtain ⟨n', rfl⟩ : ∃ n0 : Nat, n' = n0 + 1 := ⟨n' - 1, by omega⟩
    obtain ⟨o, v, h1, m1, w1, f1, f2, f3, f4, ⟨δ, hδ, eδ⟩, f6⟩ := follow_s hR x h
    have ea : act = rOf o := Option.some.inj ((ha (by omega)).symm.trans f2)
    rcases f6 with ⟨rfl, rfl, rfl, rfl⟩ | ⟨n1, hv, f7⟩
    · refine ⟨i, h1, m1, x, w1, ?_, ?_, hR, f3, XF.rf x, 0, Rn.z, by rw [Int32.add_zero]⟩
      · unfold D_X9_run_10
        rw [if_neg (leF (by omega) (by omega)), f1, b3_s, if_pos rfl]
      · unfold D_X10_runs_16
        rw [if_pos (by rw [ea]; rfl)]
    · obtain ⟨o2, q1, q2, q3⟩ := next_s f4 (si x 0 16 v) 1 h1
      obtain ⟨J, h2, m2, x2, w2, r1, r2, r3, r4, r5, δ2, hδ2, eδ2⟩ := ih (i + 1) n n' m1 w1 (si x 0 16 v) h1 (if i + 1 < N then rOf o2 else -1) (by omega) (by omega) (by omega) f4 (fun z => by rw [if_pos z]; exact q2) (fun z => if_neg (by omega))
      refine ⟨J, h2, m2, x2, w2, ?_, ?_, r3, f3.tr r4, (XF.s16 x v).tr r5, δ + δ2, (hδ.add hδ2).mono (by omega), by rw [eδ2, eδ, Int32.add_assoc]⟩
      · rw [← r1]
        generalize hB : D_X9_run_10 n (I N) (I (i + 1)) h1 m1 = BB
        unfold D_X9_run_10
        rw [if_neg (leF (by omega) (by omega)), f1, b3_s, if_neg (hv.ne (by decide)), bnd_s, ixs1]
        exact hB
      · rw [← r2]
        generalize hB : D_X10_runs_16 n' (I N) (I (i + 1)) (if i + 1 < N then rOf o2 else -1) (pw (si x 0 16 v) w1) = BB
        unfold D_X10_runs_16
        rw [ea, if_neg n1, f7, b2_s, siP0, bnd_s, bnd_s, ixs1, q2, b1_s]
        by_cases c : i + 1 < N
        · rw [if_pos c] at hB
          rw [if_neg (leF c (by omega))]
          exact hB
        · rw [if_neg c] at hB
          rw [if_pos (leT (by omega) (by omega))]
          exact hB
theorem T_run {m : MM} {w : Nat → Int32} (hR : R m w) (x h : MM) (x1 : Int32) : (D_X9_run x1 h m = some (.inl 1) ∧ D_X10_run x1 (pw x w) = some (0, pw (th x 1) w)) ∨ ∃ (v : Int32) (h' m' x' : MM) (w' : Nat → Int32), D_X9_run x1 h m = some (.inr (v, h', m')) ∧ D_X10_run x1 (pw x w) = some (v, pw x' w') ∧ gi x' 0 6 = 0 ∧ HF h h' ∧ R m' w' ∧ (∃ δ : Int32, Rn 599500 δ ∧ w' 23 = w 23 + δ) ∧ XK x x' := by
  unfold D_X9_run D_X10_run
  rw [fineP, b2_s, if10]
  rcases rng_rq x1 (lo := 1) (hi := 500) (by decide) (by decide) (a := (1 : Int32)) (b := (500 : Int32)) (c := (1 : Int64)) (d := (500 : Int64)) (by decide) (by decide) (by decide) (by decide) with ⟨n, n1, n2, rfl, q1, q2⟩ | ⟨q1, q2⟩
  · right
    rw [q1, q2, bX_s, b1_s, if10, tif0P, b2_s, if00, b2_id]
    obtain ⟨o, p1, p2, p3⟩ := next_s hR (th x 0) 1 h
    obtain ⟨J, h2, m2, x2, w2, r1, r2, r3, r4, r5, δ2, hδ2, eδ2⟩ := run_l n n2 n 0 FU FU m w (th x 0) h (rOf o) (by omega) (by show n < 5000; omega) (by show n < 5000; omega) hR (fun _ => p2) (fun z => by omega)
    have r1 : D_X9_run_10 FU (I n) (0 : Int32) h m = _ := r1
    have r2 : D_X10_runs_16 FU (I n) (0 : Int32) (rOf o) (pw (th x 0) w) = _ := r2
    refine ⟨I J, h2, m2, x2, w2, by rw [r1]; rfl, ?_, ?_, r4, r3, ⟨δ2, hδ2.mono (by omega), eδ2⟩, (XK.th x 0).tr r5.k⟩
    · unfold D_X10_runs
      rw [if_neg (show ¬ I n ≤ (0 : Int32) from leF (a := n) (b := 0) (by omega) (by omega)), p2, b1_s]
      exact r2
    · rw [r5 0 6 (by decide) (by decide), gi_th6]
  · left
    rw [q1, q2, bX_x, b1_s, if00, tif1P _ _ (by decide), b2_s, if10]
    exact ⟨rfl, rfl⟩
theorem T_resume {m : MM} {w : Nat → Int32} (hR : R m w) (x h : MM) : ∃ (v : Int32) (m' x' : MM) (w' : Nat → Int32), D_X9_resume h m = some (v, m') ∧ D_X10_resume (pw x w) = some (v, pw x' w') ∧ R m' w' ∧ (∃ δ : Int32, Rn 599500 δ ∧ w' 23 = w 23 + δ) ∧ XK x x' := by
  have hv := hR.v
  have k := (hR.1.ws25 0).ws29 0
  have lo : ∀ i : Nat, i ≠ 25 ∧ i ≠ 29 → upd (upd w 25 0) 29 0 i = w i := fun i hi => wr_lo (by omega) (upd_ne (by omega))
  have hv2 : V (upd (upd w 25 0) 29 0) := by
    obtain ⟨v1, v2, v3, v4, v5, v6, v7, v8⟩ := hR.r0.vc
    exact hv.ac hR.r0 100 100 100 (fun i hi => lo i (by omega)) (by rw [lo 21 (by omega)]; exact hv.vg.2.2.2.2.1) (by rw [lo 22 (by omega)]; exact hv.vg.2.2.2.2.2) (Or.inl (upd_eq _ _ _)) (fun z => by omega) (fun z => by omega) (fun z => by omega)
  have hm : si (si m 24 14 0) 24 15 0 = si (si m 24 15 0) 24 14 0 := by
    refine Prod.ext (funext fun q => funext fun j => ?_) rfl
    show gi _ q j = gi _ q j
    by_cases a : q = 24 ∧ j = 15
    · rw [gi_si_is a, gi_si_ne (by omega), gi_si_is a]
    · by_cases b : q = 24 ∧ j = 14
      · rw [gi_si_ne (by omega), gi_si_is b, gi_si_is b]
      · rw [gi_si_ne (by omega), gi_si_ne (by omega), gi_si_ne (by omega), gi_si_ne (by omega)]
  rw [hm] at k
  unfold D_X9_resume D_X10_resume D_X10_halts
  rw [zeroP]
  simp only [bnd_s]
  rw [giP, hR.r0.s29]
  refine ⟨w 29, _, th x 0, _, by rw [if_pos hv.hlt], ?_, R.w1 k (fun a ha => lo _ (by omega)) hv2, ⟨0, Rn.z, by rw [lo 23 (by omega), Int32.add_zero]⟩, XK.th x 0⟩
  rcases hv.hlt with c | c
  · rw [c, if_neg (by decide), b1_s, siP, siP, if_pos (Or.inl rfl)]
  · rw [c, if_pos rfl, b1_s, siP, siP, if_pos (Or.inr rfl)]
-- a spot left out, or taken in again
theorem stv_s {m m' : MM} {w : Nat → Int32} (hR : R m w) {k : Nat} {v : Int32} (hk : k < nP w) (h1 : w (240 + 6 * k + 3) ≠ 1) (hv : v = 0 ∨ v = 2) (g : ∀ q j : Nat, gi m' q j = gi m q j) (gL : ∀ q j : Nat, q ≠ 36 ∨ j ≠ 7 → gl m' q j = gl m q j) (gO : ∀ j : Nat, j < 64 → tb (gl m' 36 7) j = (if j = k then decide (v = 0) else tb (gl m 36 7) j)) : R m' (upd w (240 + 6 * k + 3) v) := by
  obtain ⟨v1, v2, v3, v4, v5, v6, v7, v8⟩ := hR.r0.vc
  have lo : ∀ i : Nat, i ≠ 240 + 6 * k + 3 → upd w (240 + 6 * k + 3) v i = w i := fun i hi => upd_ne hi
  have eP : nP (upd w (240 + 6 * k + 3) v) = nP w := nP_e (lo 19 (by omega))
  have ek : upd w (240 + 6 * k + 3) v (243 + 6 * k) = v := upd_is (by omega)
  have w1k : w (243 + 6 * k) ≠ 1 := by rw [show 243 + 6 * k = 240 + 6 * k + 3 by omega]; exact h1
  have nv1 : v ≠ 1 := by rcases hv with rfl | rfl <;> decide
  refine ⟨⟨?_, fun a ha => ?_⟩, ?_⟩
  · refine hR.r0.fBoard (fun q j _ => g q j) (fun q j hq => gL q j (by omega)) (fun i hi => lo i (by omega)) (fun j hj => ?_) (fun j hj => ?_) (fun j hj => ?_)
    · rw [gO j hj, eP]
      by_cases e : j = k
      · subst e
        rw [if_pos rfl, ek]
        simp [hk]
      · rw [if_neg e, hR.r0.op j hj, lo _ (by omega)]
    · rw [gL 36 8 (by omega), eP, hR.r0.fl j hj]
      by_cases e : j = k
      · subst e
        rw [ek]
        simp [w1k, nv1]
      · rw [lo _ (by omega)]
    · rw [eP] at hj
      have q := hR.r0.ta j hj
      rw [g, g, lo (244 + 6 * j) (by omega), lo (245 + 6 * j) (by omega)]
      by_cases e : j = k
      · subst e
        rw [ek, if_neg nv1, if_neg nv1]
        rw [if_neg w1k, if_neg w1k] at q
        exact q
      · rw [lo _ (by omega)]
        exact q
  · show gi m' 50 a = upd w (240 + 6 * k + 3) v (37 + a)
    rw [g, lo _ (by omega)]
    exact hR.1.2 a ha
  · have hV := hR.v
    refine hV.ac hR.r0 100 100 k (fun i hi => lo i (by omega)) (by rw [lo 21 (by omega)]; exact hV.vg.2.2.2.2.1) (by rw [lo 22 (by omega)]; exact hV.vg.2.2.2.2.2) (by rw [lo 29 (by omega)]; exact hV.hlt) (fun z => by omega) (fun z => by omega) (fun _ => ?_)
    obtain ⟨p1, p2, p3, p4⟩ := hV.st k hk
    refine ⟨by rw [show Kb (upd w (240 + 6 * k + 3) v) k 0 = Kb w k 0 from lo _ (by omega)]; exact p1, ?_, by rw [show Kb (upd w (240 + 6 * k + 3) v) k 1 = Kb w k 1 from lo _ (by omega)]; exact p3, by rw [show Kb (upd w (240 + 6 * k + 3) v) k 2 = Kb w k 2 from lo _ (by omega)]; exact p4⟩
    rw [show Kb (upd w (240 + 6 * k + 3) v) k 3 = v from upd_eq _ _ _]
    rcases hv with rfl | rfl
    · exact Or.inl rfl
    · exact Or.inr (Or.inr rfl)
theorem T_leaveOut1 {m : MM} {w : Nat → Int32} (hR : R m w) (x h : MM) (x1 : Int32) : AnsW m x w 1 0 (D_X9_leaveOut x1 1 h m) (D_X10_leaveOut x1 1 (pw x w)) := by
  obtain ⟨v1, v2, v3, v4, v5, v6, v7, v8⟩ := hR.r0.vc
  have hv := hR.v
  unfold D_X9_leaveOut D_X10_leaveOut D_X10_leaveOut_23
  rw [hR.r0.n19 hv, if10]
  by_cases c1 : ok x1 (nP w)
  · obtain ⟨k, hk, rfl⟩ := ok_ex c1
    rw [rqi_y (by omega) c1, bX_s, nstP_y hv v5 c1, b2_s, if00, oSt3P (by omega), b1_s, if10]
    unfold D_X0_close
    rw [isOpen_m hR.r0 hk, b1_s]
    by_cases c : w (240 + 6 * k + 3) = 0
    · rw [if_pos c, if10, if_pos c, if10, bnd_s, b2_s, if_pos (Or.inr rfl), poSt3P (by omega), b1_s]
      refine AnsW.y rfl rfl (stv_s hR hk (by rw [c]; decide) (Or.inr rfl) (fun q j => rfl) (fun q j hq => gl_sl_ne (by omega)) (fun j hj => ?_)) Rn.z (by rw [upd_ne (by omega), Int32.add_zero])
      rw [gl_sl_eq, tb_and, tb_not _ hj, tb_bit (by omega)]
      by_cases e : j = k
      · subst e; simp
      · simp [e]
    · rw [if_neg c, if00, if_neg c, b2_s, if_pos (Or.inl rfl)]
      exact AnsW.same hR rfl rfl
  · rw [rqi_n (by omega) c1, bX_x, nstP_n hv v5 c1, b2_s, if10]
    exact AnsW.t0 (by decide) rfl rfl
theorem T_leaveOut0 {m : MM} {w : Nat → Int32} (hR : R m w) (x h : MM) (x1 : Int32) : AnsW m x w 1 0 (D_X9_leaveOut x1 0 h m) (D_X10_leaveOut x1 0 (pw x w)) := by
  obtain ⟨v1, v2, v3, v4, v5, v6, v7, v8⟩ := hR.r0.vc
  have hv := hR.v
  unfold D_X9_leaveOut D_X10_leaveOut D_X10_leaveOut_23
  rw [hR.r0.n19 hv, if00]
  by_cases c1 : ok x1 (nP w)
  · obtain ⟨k, hk, rfl⟩ := ok_ex c1
    rw [rqi_y (by omega) c1, bX_s, nstP_y hv v5 c1, b2_s, if00, oSt3P (by omega), b1_s, if00]
    unfold D_X0_reopen
    rw [isOpen_m hR.r0 hk, b1_s, isFilled_m hR.r0 hk, b1_s]
    rcases (hv.st k hk).2.1 with c | c | c
    · have c : w (240 + 6 * k + 3) = 0 := c
      rw [if_pos c, if10, if_neg (by rw [c]; decide), b2_s, if_pos (Or.inl rfl)]
      exact AnsW.same hR rfl rfl
    · have c : w (240 + 6 * k + 3) = 1 := c
      rw [if_neg (show ¬ w (240 + 6 * k + 3) = 0 by rw [c]; decide), if00, if_pos c, if10, if_neg (by rw [c]; decide), b2_s, if_pos (Or.inl rfl)]
      exact AnsW.same hR rfl rfl
    · have c : w (240 + 6 * k + 3) = 2 := c
      rw [if_neg (show ¬ w (240 + 6 * k + 3) = 0 by rw [c]; decide), if00, if_neg (show ¬ w (240 + 6 * k + 3) = 1 by rw [c]; decide), if00, bnd_s, if_pos c, if00, b2_s, if_pos (Or.inr rfl), poSt3P (by omega), b1_s]
      refine AnsW.y rfl rfl (stv_s hR hk (by rw [c]; decide) (Or.inl rfl) (fun q j => rfl) (fun q j hq => gl_sl_ne (by omega)) (fun j hj => ?_)) Rn.z (by rw [upd_ne (by omega), Int32.add_zero])
      rw [gl_sl_eq, tb_or, tb_bit (by omega)]
      by_cases e : j = k
      · subst e; simp
      · simp [e]
  · rw [rqi_n (by omega) c1, bX_x, nstP_n hv v5 c1, b2_s, if10]
    exact AnsW.t0 (by decide) rfl rfl
