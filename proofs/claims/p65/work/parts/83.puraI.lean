/-! PURE: when a feeder runs out -/
theorem runs1_n (x : MM) (w : Nat → Int32) (q : D_X10_next (pw x w) = some (-1)) : D_X10_runs (1 : Int32) (pw x w) = some (0, pw x w) := by
  unfold D_X10_runs
  rw [if_neg (show ¬ (1 : Int32) ≤ (0 : Int32) by decide), q, b1_s]
  show D_X10_runs_16 (4999 + 1) (1 : Int32) (0 : Int32) (-1 : Int32) (pw x w) = _
  unfold D_X10_runs_16
  rw [if_pos rfl]
theorem runs1_y (x : MM) {w w' : Nat → Int32} {c r : Int32} (q : D_X10_next (pw x w) = some c) (hc : c ≠ -1) (hd : D_X10_does c (pw x w) = some (r, pw x w')) (q2 : ∃ c' : Int32, D_X10_next (pw (si x 0 16 r) w') = some c') : D_X10_runs (1 : Int32) (pw x w) = some (1, pw (si x 0 16 r) w') := by
  obtain ⟨c', q2⟩ := q2
  unfold D_X10_runs
  rw [if_neg (show ¬ (1 : Int32) ≤ (0 : Int32) by decide), q, b1_s]
  show D_X10_runs_16 (4998 + 1 + 1) (1 : Int32) (0 : Int32) c (pw x w) = _
  unfold D_X10_runs_16
  rw [if_neg hc, hd, b2_s, siP0, bnd_s, bnd_s, q2, b1_s, if_pos (show (1 : Int32) ≤ (0 : Int32) + 1 by decide)]
  unfold D_X10_runs_16
  rw [if_pos rfl]
  rfl
abbrev out_ (w : Nat → Int32) (F : Nat) : Prop := w (130 + 11 * F + 2) = 0 ∧ w (130 + 11 * F + 4) = 0
theorem isOut_x (x : MM) (w : Nat → Int32) {F : Nat} (hF : F < 10) : D_X10_isOut (I F) (pw x w) = some (if out_ w F then 1 else 0) := by
  unfold D_X10_isOut
  rw [oFd2P hF, b1_s]
  by_cases c : w (130 + 11 * F + 2) = 0
  · rw [if_pos c, oFd4P hF, b1_s]
    by_cases d : w (130 + 11 * F + 4) = 0
    · rw [if_pos d, if_pos ⟨c, d⟩]
    · rw [if_neg d, if_neg (fun z => d z.2)]
  · rw [if_neg c, if_neg (fun z => c z.1)]
theorem out_m {α : Type} {m : MM} {w : Nat → Int32} (h : R0 m w) {F : Nat} (hF : F < nF w) (a b : α) : (if gi m (4 + F) 2 = 0 then (if gi m (4 + F) 4 = 0 then a else b) else b) = if out_ w F then a else b := by
  rw [h.fd2 hF, h.fd4 hF]
  by_cases c : w (130 + 11 * F + 2) = 0
  · rw [if_pos c]
    by_cases d : w (130 + 11 * F + 4) = 0
    · rw [if_pos d, if_pos ⟨c, d⟩]
    · rw [if_neg d, if_neg (fun z => d z.2)]
  · rw [if_neg c, if_neg (fun z => c z.1)]
theorem ro_l (mm : MM) {F : Nat} (hF : F < 10) {w0 : Nat → Int32} : ∀ (d j n n' : Nat) (f : MM) (w : Nat → Int32) (x h : MM), j + d = 1000 → d + 1 < n → d + 1 < n' → R f w → F < nF w → (∀ k : Nat, k < 640 → gi x 2 k = w0 k) → ∃ (v : Int32) (h' f' x2 : MM) (w2 : Nat → Int32), D_X3_actionsUntilEmpty_12 mm n (4 + F) (I j) h f = some (v, h', f') ∧ D_X10_runsOut_18 n' (I F) (I j) (1 : Int32) (pw x w) = some (v, pw x2 w2) ∧ (∀ k : Nat, k < 640 → w2 k = w0 k) ∧ HF h h' ∧ ∀ q k : Nat, q ≠ 1 → ¬ (q = 0 ∧ k = 16) → gi x2 q k = gi x q k := by
  intro d
  induction d with
  | zero =>
    intro j n n' f w x h hj hn hn' hR hf h2
    obtain ⟨n, rfl⟩ : ∃ n0 : Nat, n = n0 + 1 + 1 := ⟨n - 2, by omega⟩
    obtain ⟨n', rfl⟩ : ∃ n0 : Nat, n' = n0 + 1 + 1 := ⟨n' - 2, by omega⟩
    have hj : j = 1000 := by omega
    subst hj
    obtain ⟨x2, w2, b1, b2, b3⟩ := back_s x w h2
    unfold D_X3_actionsUntilEmpty_12 D_X10_runsOut_18
    rw [if_neg (show ¬ (1000 : Int32) < I 1000 by decide), out_m hR.r0 hf, if10, isOut_x x w hF, b1_s]
    by_cases c : out_ w F
    · rw [if_pos c, if_pos c, if10, b1_s, b1, b1_s, if10]
      exact ⟨_, _, _, _, _, rfl, rfl, b2, HF.rf h, fun q k a _ => b3 q k a⟩
    · rw [if_neg c, if_neg c, if00, if_pos (show (1000 : Int32) ≤ I 1000 by decide)]
      have hr : D_X10_runsOut_51 (D_X10_runsOut_18 (n' + 1)) (I F) (I 1000) (0 : Int32) (pw x w) = some (-1, pw x2 w2) := by
        unfold D_X10_runsOut_51 D_X10_runsOut_18
        rw [if00, bnd_s, if00, isOut_x x w hF, b1_s, if_neg c, b1, b1_s, if00]
      rw [hr]
      obtain ⟨o, q1, q2, q3⟩ := next_s hR x 2 h
      unfold D_X3_actionsUntilEmpty_35
      rw [q1]
      match o, q3 with
      | none, q3 =>
        rw [b2_c0, if00]
        exact ⟨_, _, _, _, _, rfl, rfl, b2, HF.rf h, fun q k a _ => b3 q k a⟩
      | some (a, s, t), q3 =>
        obtain ⟨r, m', w', p1, -⟩ := does_s hR x q3
        rw [b2_c1, if10, dec_1, dec_2, dec_3, p1, b2_s, bnd_s]
        unfold D_X3_actionsUntilEmpty_12
        rw [if_pos (show (1000 : Int32) < I 1000 + 1 by decide)]
        exact ⟨_, _, _, _, _, rfl, rfl, b2, HF.dec h (by omega) a s t, fun q k a _ => b3 q k a⟩
  | succ d ih =>
    intro j n n' f w x h hj hn hn' hR hf h2
    obtain ⟨n, rfl⟩ : ∃ n0 : Nat, n = n0 + 1 + 1 := ⟨n - 2, by omega⟩
    obtain ⟨n', rfl⟩ : ∃ n0 : Nat, n' = n0 + 1 + 1 := ⟨n' - 2, by omega⟩
    obtain ⟨x2, w2, b1, b2, b3⟩ := back_s x w h2
    rw [show D_X3_actionsUntilEmpty_12 mm (n + 1 + 1) (4 + F) (I j) h f = if (1000 : Int32) < I j then some ((-1 : Int32), h, f) else (if gi f (4 + F) 2 = 0 then (if gi f (4 + F) 4 = 0 then some (I j, h, f) else D_X3_actionsUntilEmpty_35 mm (D_X3_actionsUntilEmpty_12 mm (n + 1)) (4 + F) (I j) h f) else D_X3_actionsUntilEmpty_35 mm (D_X3_actionsUntilEmpty_12 mm (n + 1)) (4 + F) (I j) h f) from rfl]
    rw [if_neg (show ¬ (1000 : Int32) < I j from fun z => absurd ((I_lt (a := 1000) (by decide) (by omega)).mp z) (by omega)), out_m hR.r0 hf]
    by_cases c : out_ w F
    · unfold D_X10_runsOut_18
      rw [if10, isOut_x x w hF, b1_s, if_pos c, if_pos c, if10, b1_s, b1, b1_s, if10]
      exact ⟨_, _, _, _, _, rfl, rfl, b2, HF.rf h, fun q k a _ => b3 q k a⟩
    · rw [if_neg c]
      obtain ⟨o, q1, q2, q3⟩ := next_s hR x 2 h
      unfold D_X3_actionsUntilEmpty_35
      rw [q1]
      match o, q2, q3 with
      | none, q2, q3 =>
        have hr : D_X10_runsOut_18 (n' + 1 + 1) (I F) (I j) (1 : Int32) (pw x w) = some (-1, pw x2 w2) := by
          unfold D_X10_runsOut_18
          rw [if10, isOut_x x w hF, b1_s, if_neg c, if00, if_neg (show ¬ (1000 : Int32) ≤ I j from leF (a := 1000) (by omega) (by decide)), runs1_n x w q2, b2_s, if_neg (show ¬ (0 : Int32) = 1 by decide)]
          unfold D_X10_runsOut_51 D_X10_runsOut_18
          rw [if00, bnd_s, if00, isOut_x x w hF, b1_s, if_neg c, b1, b1_s, if00]
        rw [hr, b2_c0, if00]
        exact ⟨_, _, _, _, _, rfl, rfl, b2, HF.rf h, fun q k a _ => b3 q k a⟩
      | some (a, s, t), q2, q3 =>
        obtain ⟨r, m', w', p1, p2, p3, δ, hδ, eδ, -, e18⟩ := does_s hR x q3
        obtain ⟨o2, y1, y2, y3⟩ := next_s p3 (si x 0 16 r) 2 h
        have ne : rOf (some (a, s, t)) ≠ -1 := rOf_ne hR.r0 q3
        obtain ⟨v, h3, f3, x3, w3, r1, r2, r3, r4, r5⟩ := ih (j + 1) (n + 1) (n' + 1) m' w' (si x 0 16 r) (dec 2 a s t h) (by omega) (by omega) (by omega) p3 (by rw [nF_e (e18 18 (by omega) (by omega))]; exact hf) (fun k hk => by rw [gi_si_ne (by omega)]; exact h2 k hk)
        refine ⟨v, h3, f3, x3, w3, ?_, ?_, r3, (HF.dec h (by omega) a s t).tr r4, fun q k a b => by rw [r5 q k a b, gi_si_ne (by omega)]⟩
        · rw [← r1, b2_c1, if10, dec_1, dec_2, dec_3, p1, b2_s, bnd_s, ixs1]
        · rw [← r2]
          generalize hB : D_X10_runsOut_18 (n' + 1) = BB
          unfold D_X10_runsOut_18
          rw [if10, isOut_x x w hF, b1_s, if_neg c, if00, if_neg (show ¬ (1000 : Int32) ≤ I j from leF (a := 1000) (by omega) (by decide)), runs1_y x q2 ne p2 ⟨_, y2⟩, b2_s, if_pos rfl, hB]
          unfold D_X10_runsOut_51
          rw [if10, bnd_s, ixs1]
def AnsQ (x h : MM) (w : Nat → Int32) (c : Option (Nat ⊕ (Int32 × MM × MM))) (d : Option (Int32 × MM)) : Prop := (∃ (v : Int32) (x' : MM), c = some (.inl 0) ∧ gi x' 0 6 = 1 ∧ d = some (v, pw x' w) ∧ XK x x') ∨ ∃ (v : Int32) (h' f' x' : MM) (w' : Nat → Int32), c = some (.inr (v, h', f')) ∧ d = some (v, pw x' w') ∧ gi x' 0 6 = 0 ∧ (∀ i : Nat, i < 640 → w' i = w i) ∧ HF h h' ∧ XK x x'
theorem T_runsOut {m : MM} {w : Nat → Int32} (hR : R m w) (x h f : MM) (x1 : Int32) : AnsQ x h w (D_X9_runsOut x1 h m f) (D_X10_runsOut x1 (pw x w)) := by
  obtain ⟨v1, v2, v3, v4, v5, v6, v7, v8⟩ := hR.r0.vc
  have hv := hR.v
  unfold D_X9_runsOut D_X10_runsOut D_X3_begin
  rw [hR.r0.n18 hv]
  by_cases c1 : ok x1 (nF w)
  · obtain ⟨F, hF, rfl⟩ := ok_ex c1
    obtain ⟨f1, y1, y2⟩ := copy_s hR f
    obtain ⟨x1, a1, a2, a3⟩ := aside_s (th x 0) w
    obtain ⟨v, h', f', x2, w2, r1, r2, r3, r4, r5⟩ := ro_l m (show F < 10 by omega) 1000 0 FU FU f1 w x1 h (by omega) (by decide) (by decide) y2 hF a2
    right
    have r2 : D_X10_runsOut_18 FU (I F) (0 : Int32) (1 : Int32) (pw x1 w) = _ := r2
    have r1 : D_X3_actionsUntilEmpty_12 m FU (4 + F) (0 : Int32) h f1 = _ := r1
    rw [rqi_y (by omega) c1, bX_s, nfdP_y hv v4 c1, b2_s, if00, a1, b1_s, r2, y1, b1_s, b1_s]
    unfold D_X3_actionsUntilEmpty
    rw [gdI (by omega) (by omega), I_tnc (by omega), r1, b3_s]
    have ex : ∀ q k : Nat, q ≠ 1 → q ≠ 2 → ¬ (q = 0 ∧ k = 16) → gi x2 q k = gi (th x 0) q k := fun q k b1 b2 b3 => by rw [r5 q k b1 b3, a3 q k b1 b2]
    exact ⟨v, h', f', x2, w2, rfl, rfl, by rw [ex 0 6 (by decide) (by decide) (by omega), gi_th6], r3, r4, (XK.th x 0).tr (fun q k hq => ex q k (by omega) (by omega) (by omega))⟩
  · left
    rw [rqi_n (by omega) c1, bX_x, nfdP_n hv v4 c1, b2_s, if10]
    exact ⟨0, th x 1, rfl, gi_th6 x 1, rfl, XK.th x 1⟩
