/-! PURE: a new board; settings -/
def nbW (w : Nat → Int32) : Nat → Nat → Int32
  | 0 => w
  | j + 1 => if w (240 + 6 * j + 3) = 1 then upd (upd (upd (nbW w j) (240 + 6 * j + 3) 0) (240 + 6 * j + 4) (-1)) (240 + 6 * j + 5) (-1) else nbW w j
theorem nb_o (w : Nat → Int32) : ∀ (j : Nat), j ≤ 40 → ∀ i : Nat, (i < 243 ∨ 480 ≤ i ∨ (i - 240) % 6 < 3) → nbW w j i = w i := by
  intro j
  induction j with
  | zero => intro _ i _; rfl
  | succ j ih =>
    intro hj i hi
    have q := ih (by omega) i hi
    unfold nbW
    by_cases c : w (240 + 6 * j + 3) = 1
    · rw [if_pos c, upd_ne (by omega), upd_ne (by omega), upd_ne (by omega)]
      exact q
    · rw [if_neg c]
      exact q
theorem nb_k (w : Nat → Int32) : ∀ (j : Nat), j ≤ 40 → ∀ k : Nat, k < 40 → nbW w j (240 + 6 * k + 3) = (if k < j ∧ w (240 + 6 * k + 3) = 1 then 0 else w (240 + 6 * k + 3)) ∧ nbW w j (240 + 6 * k + 4) = (if k < j ∧ w (240 + 6 * k + 3) = 1 then -1 else w (240 + 6 * k + 4)) ∧ nbW w j (240 + 6 * k + 5) = (if k < j ∧ w (240 + 6 * k + 3) = 1 then -1 else w (240 + 6 * k + 5)) := by
  intro j
  induction j with
  | zero =>
    intro _ k _
    rw [if_neg (fun z => absurd z.1 (by omega)), if_neg (fun z => absurd z.1 (by omega)), if_neg (fun z => absurd z.1 (by omega))]
    exact ⟨rfl, rfl, rfl⟩
  | succ j ih =>
    intro hj k hk
    obtain ⟨q1, q2, q3⟩ := ih (by omega) k hk
    unfold nbW
    by_cases c : w (240 + 6 * j + 3) = 1
    · rw [if_pos c]
      by_cases e : k = j
      · subst e
        rw [if_pos ⟨by omega, c⟩, if_pos ⟨by omega, c⟩, if_pos ⟨by omega, c⟩, upd_ne (by omega), upd_ne (by omega), upd_eq, upd_ne (by omega), upd_eq, upd_eq]
        exact ⟨rfl, rfl, rfl⟩
      · have ee : (k < j + 1 ∧ w (240 + 6 * k + 3) = 1) ↔ (k < j ∧ w (240 + 6 * k + 3) = 1) := ⟨fun z => ⟨by omega, z.2⟩, fun z => ⟨by omega, z.2⟩⟩
        rw [upd_ne (by omega), upd_ne (by omega), upd_ne (by omega), upd_ne (by omega), upd_ne (by omega), upd_ne (by omega), upd_ne (by omega), upd_ne (by omega), upd_ne (by omega), q1, q2, q3]
        by_cases b : k < j ∧ w (240 + 6 * k + 3) = 1
        · rw [if_pos b, if_pos b, if_pos b, if_pos (ee.mpr b), if_pos (ee.mpr b), if_pos (ee.mpr b)]
          exact ⟨rfl, rfl, rfl⟩
        · rw [if_neg b, if_neg b, if_neg b, if_neg (fun z => b (ee.mp z)), if_neg (fun z => b (ee.mp z)), if_neg (fun z => b (ee.mp z))]
          exact ⟨rfl, rfl, rfl⟩
    · rw [if_neg c, q1, q2, q3]
      have ee : (k < j + 1 ∧ w (240 + 6 * k + 3) = 1) ↔ (k < j ∧ w (240 + 6 * k + 3) = 1) := ⟨fun z => ⟨by
        have : k ≠ j := fun y => c (y ▸ z.2)
        omega, z.2⟩, fun z => ⟨by omega, z.2⟩⟩
      by_cases b : k < j ∧ w (240 + 6 * k + 3) = 1
      · rw [if_pos b, if_pos b, if_pos b, if_pos (ee.mpr b), if_pos (ee.mpr b), if_pos (ee.mpr b)]
        exact ⟨rfl, rfl, rfl⟩
      · rw [if_neg b, if_neg b, if_neg b, if_neg (fun z => b (ee.mp z)), if_neg (fun z => b (ee.mp z)), if_neg (fun z => b (ee.mp z))]
        exact ⟨rfl, rfl, rfl⟩
theorem nb_xl (x : MM) {w : Nat → Int32} (hv : V w) (h5 : nP w ≤ 40) : ∀ d i n : Nat, i + d = nP w → d < n → D_X10_newBoard_9 n (I (cntP (saP w 1) i)) (I i) (pw x (nbW w i)) = some (I (saC w 1), pw x (upd (nbW w (nP w)) 24 (w 24 + 1))) := by
  intro d
  induction d with
  | zero =>
    intro i n hi hn
    obtain ⟨n, rfl⟩ : ∃ n0 : Nat, n = n0 + 1 := ⟨n - 1, by omega⟩
    have hi : i = nP w := by omega
    subst hi
    unfold D_X10_newBoard_9
    rw [giP, nb_o w _ h5 19 (by omega), hv.cnt.2.2.2.2.1, if_pos (leT (Nat.le_refl _) (by omega)), giP, nb_o w _ h5 24 (by omega), bnd_s, siP]
    rfl
  | succ d ih =>
    intro i n hi hn
    obtain ⟨n, rfl⟩ : ∃ n0 : Nat, n = n0 + 1 := ⟨n - 1, by omega⟩
    have q := ih (i + 1) n (by omega) (by omega)
    have e3 := (nb_k w i (by omega) i (by omega)).1
    rw [if_neg (fun z => absurd z.1 (by omega))] at e3
    have e9 : nbW w i 19 = I (nP w) := (nb_o w i (by omega) 19 (by omega)).trans hv.cnt.2.2.2.2.1
    rw [cntP_succ] at q
    rw [show nbW w (i + 1) = if w (240 + 6 * i + 3) = 1 then upd (upd (upd (nbW w i) (240 + 6 * i + 3) 0) (240 + 6 * i + 4) (-1)) (240 + 6 * i + 5) (-1) else nbW w i from rfl] at q
    rw [← q]
    generalize hB : D_X10_newBoard_9 n = BB
    unfold D_X10_newBoard_9
    rw [giP, e9, if_neg (leF (by omega) (by omega)), oSt3P (by omega), e3, b1_s]
    by_cases c : w (240 + 6 * i + 3) = 1
    · rw [if_pos c, if_pos c, if_pos (show saP w 1 i = true from decide_eq_true c), poSt3P (by omega), b1_s, poSt4P (by omega), b1_s, poSt5P (by omega), b1_s, bnd_s, bnd_s, ixs1, ixs1, hB]
    · rw [if_neg c, if_neg c, if_neg (show ¬ saP w 1 i = true from fun z => c (of_decide_eq_true z)), bnd_s, ixs1, hB]
      rfl
theorem T_newBoard {m : MM} {w : Nat → Int32} (hR : R m w) (x h : MM) : ∃ (v : Int32) (m' x' : MM) (w' : Nat → Int32), D_X9_newBoard h m = some (v, m') ∧ D_X10_newBoard (pw x w) = some (v, pw x' w') ∧ R m' w' ∧ (∃ δ : Int32, Rn 599500 δ ∧ w' 23 = w 23 + δ) ∧ XK x x' := by
  obtain ⟨v1, v2, v3, v4, v5, v6, v7, v8⟩ := hR.r0.vc
  have hv := hR.v
  have k0 := hR.r0.ws24 (w 24 + 1)
  have o : ∀ i : Nat, (i < 243 ∨ 480 ≤ i ∨ (i - 240) % 6 < 3) → i ≠ 24 → upd (nbW w (nP w)) 24 (w 24 + 1) i = w i := fun i hi hn => (upd_ne hn).trans (nb_o w _ v5 i hi)
  have kk : ∀ k : Nat, k < 40 → _ := nb_k w (nP w) v5
  have q := nb_xl (th x 0) hv v5 (nP w) 0 FU (by omega) (by show nP w < 5000; omega)
  have q : D_X10_newBoard_9 FU (0 : Int32) (0 : Int32) (pw (th x 0) w) = _ := q
  have ec : cntP (tb (gl m 36 8)) 64 = saC w 1 := cnt_bits (by omega) (fun k hk => by
    rw [hR.r0.fl' hk]
    exact and_congr_right (fun _ => ⟨fun z => decide_eq_true z, fun z => of_decide_eq_true z⟩))
  have eP : nP (upd (nbW w (nP w)) 24 (w 24 + 1)) = nP w := nP_e (o 19 (by omega) (by omega))
  unfold D_X9_newBoard D_X10_newBoard D_X0_reopenFilled
  simp only [bnd_s]
  rw [zeroP, q, hR.r0.s24, gl_si, gl_si, bitCount_eq, ec, b1_s, b2_s]
  refine ⟨_, _, th x 0, _, rfl, rfl, ⟨⟨?_, fun a ha => ?_⟩, ?_⟩, ⟨0, Rn.z, by rw [o 23 (by omega) (by omega), Int32.add_zero]⟩, XK.th x 0⟩
  · refine k0.fBoard (fun q j _ => rfl) (fun q j hq => by rw [gl_sl_ne (by omega), gl_sl_ne (by omega)]) (fun i hi => ?_) (fun j hj => ?_) (fun j hj => ?_) (fun j hj => ?_)
    · by_cases e : i = 24
      · subst e
        rw [upd_eq, upd_eq]
      · rw [o i hi e, upd_ne e]
    · rw [gl_sl_ne (by omega), gl_sl_eq, tb_or, eP]
      have e1 := hR.r0.op j hj
      have e2 := hR.r0.fl j hj
      rw [e1, e2]
      by_cases c : j < nP w
      · have q3 := (kk j (by omega)).1
        rw [upd_ne (by omega), show 243 + 6 * j = 240 + 6 * j + 3 by omega, q3]
        by_cases b : w (240 + 6 * j + 3) = 1
        · rw [if_pos ⟨c, b⟩]
          simp [c, b]
        · rw [if_neg (fun z => b z.2)]
          simp [c, b]
      · simp [c]
    · rw [gl_sl_eq, tb_zero, eP]
      by_cases c : j < nP w
      · have q3 := (kk j (by omega)).1
        rw [upd_ne (by omega), show 243 + 6 * j = 240 + 6 * j + 3 by omega, q3]
        by_cases b : w (240 + 6 * j + 3) = 1
        · rw [if_pos ⟨c, b⟩]
          simp
        · rw [if_neg (fun z => b z.2)]
          simp [b]
      · simp [c]
    · rw [eP] at hj
      obtain ⟨q3, q4, q5⟩ := kk j (by omega)
      have q := hR.r0.ta j hj
      rw [upd_ne (by omega), upd_ne (by omega), upd_ne (by omega), show 243 + 6 * j = 240 + 6 * j + 3 by omega, show 244 + 6 * j = 240 + 6 * j + 4 by omega, show 245 + 6 * j = 240 + 6 * j + 5 by omega, q3, q4, q5]
      rw [show 243 + 6 * j = 240 + 6 * j + 3 by omega, show 244 + 6 * j = 240 + 6 * j + 4 by omega, show 245 + 6 * j = 240 + 6 * j + 5 by omega] at q
      by_cases b : w (240 + 6 * j + 3) = 1
      · have bb : j < nP w ∧ w (240 + 6 * j + 3) = 1 := ⟨hj, b⟩
        rw [if_pos bb, if_pos bb, if_pos bb, if_neg (show ¬ (0 : Int32) = 1 by decide), if_neg (show ¬ (0 : Int32) = 1 by decide)]
        exact ⟨rfl, rfl⟩
      · have bb : ¬ (j < nP w ∧ w (240 + 6 * j + 3) = 1) := fun z => b z.2
        rw [if_neg bb, if_neg bb, if_neg bb, if_neg b, if_neg b]
        rw [if_neg b, if_neg b] at q
        exact q
  · show gi (sl (sl (si m 24 9 (w 24 + 1)) 36 7 _) 36 8 _) 50 a = upd (nbW w (nP w)) 24 (w 24 + 1) (37 + a)
    rw [o (37 + a) (by omega) (by omega)]
    exact Eq.trans (gi_si_ne (m := m) (q := 24) (k := 9) (v := w 24 + 1) (q' := 50) (k' := a) (Or.inl (by decide))) (hR.1.2 a ha)
  · refine hv.fr (fun i hi => o i (by omega) (by omega)) (hv.vg.cg (fun i hi => o i (by omega) (by omega)) (by rw [o 21 (by omega) (by omega)]; exact hv.vg.2.2.2.2.1) (by rw [o 22 (by omega) (by omega)]; exact hv.vg.2.2.2.2.2)) ?_ (by rw [o 29 (by omega) (by omega)]; exact hv.hlt) v6 v3 (fun s hs => (hv.sp s hs).cg (fun j hj => o _ (by omega) (by omega))) (fun f hf => (hv.fd f hf).cg (fun j hj => o _ (by omega) (by omega))) (fun k hk => ?_)
    · have e28 := o 28 (by omega) (by omega)
      rw [nL_e e28, e28]
      exact hv.cnt.2.2.2.2.2.2
    · obtain ⟨p1, p2, p3, p4⟩ := hv.st k hk
      refine ⟨by rw [show Kb (upd (nbW w (nP w)) 24 (w 24 + 1)) k 0 = Kb w k 0 from o _ (by omega) (by omega)]; exact p1, ?_, by rw [show Kb (upd (nbW w (nP w)) 24 (w 24 + 1)) k 1 = Kb w k 1 from o _ (by omega) (by omega)]; exact p3, by rw [show Kb (upd (nbW w (nP w)) 24 (w 24 + 1)) k 2 = Kb w k 2 from o _ (by omega) (by omega)]; exact p4⟩
      rw [show Kb (upd (nbW w (nP w)) 24 (w 24 + 1)) k 3 = nbW w (nP w) (240 + 6 * k + 3) from upd_ne (by omega), (kk k (by omega)).1]
      by_cases b : w (240 + 6 * k + 3) = 1
      · rw [if_pos ⟨hk, b⟩]
        exact Or.inl rfl
      · rw [if_neg (fun z => b z.2)]
        exact p2
-- settings
def mxS (w : Nat → Int32) (k : Nat) : Int32 := if k = 5 then (100 : Int32) - w 6 else if k = 6 then (100 : Int32) - w 5 else mst k
theorem hi_x (x : MM) (w : Nat → Int32) {k : Nat} (hk : k < 8 ∨ 11 ≤ k ∧ k < 15) : D_X10_highest (I k) (pw x w) = some (mxS w k) := by
  have hk : k = 0 ∨ k = 1 ∨ k = 2 ∨ k = 3 ∨ k = 4 ∨ k = 5 ∨ k = 6 ∨ k = 7 ∨ k = 11 ∨ k = 12 ∨ k = 13 ∨ k = 14 := by omega
  unfold D_X10_highest
  rw [giP, giP]
  rcases hk with rfl | rfl | rfl | rfl | rfl | rfl | rfl | rfl | rfl | rfl | rfl | rfl
  · rw [if_pos (show I 0 = (0 : Int32) from rfl)]
    rfl
  · rw [if_neg (show ¬ I 1 = (0 : Int32) by decide), if_pos (show I 1 = (1 : Int32) from rfl)]
    rfl
  · rw [if_neg (show ¬ I 2 = (0 : Int32) by decide), if_neg (show ¬ I 2 = (1 : Int32) by decide), if_pos (show I 2 = (2 : Int32) from rfl)]
    rfl
  · rw [if_neg (show ¬ I 3 = (0 : Int32) by decide), if_neg (show ¬ I 3 = (1 : Int32) by decide), if_neg (show ¬ I 3 = (2 : Int32) by decide), if_pos (show I 3 = (3 : Int32) from rfl)]
    rfl
  · rw [if_neg (show ¬ I 4 = (0 : Int32) by decide), if_neg (show ¬ I 4 = (1 : Int32) by decide), if_neg (show ¬ I 4 = (2 : Int32) by decide), if_neg (show ¬ I 4 = (3 : Int32) by decide), if_pos (show I 4 = (4 : Int32) from rfl)]
    rfl
  · rw [if_neg (show ¬ I 5 = (0 : Int32) by decide), if_neg (show ¬ I 5 = (1 : Int32) by decide), if_neg (show ¬ I 5 = (2 : Int32) by decide), if_neg (show ¬ I 5 = (3 : Int32) by decide), if_neg (show ¬ I 5 = (4 : Int32) by decide), if_pos (show I 5 = (5 : Int32) from rfl)]
    rfl
  · rw [if_neg (show ¬ I 6 = (0 : Int32) by decide), if_neg (show ¬ I 6 = (1 : Int32) by decide), if_neg (show ¬ I 6 = (2 : Int32) by decide), if_neg (show ¬ I 6 = (3 : Int32) by decide), if_neg (show ¬ I 6 = (4 : Int32) by decide), if_neg (show ¬ I 6 = (5 : Int32) by decide), if_pos (show I 6 = (6 : Int32) from rfl)]
    rfl
  · rw [if_neg (show ¬ I 7 = (0 : Int32) by decide), if_neg (show ¬ I 7 = (1 : Int32) by decide), if_neg (show ¬ I 7 = (2 : Int32) by decide), if_neg (show ¬ I 7 = (3 : Int32) by decide), if_neg (show ¬ I 7 = (4 : Int32) by decide), if_neg (show ¬ I 7 = (5 : Int32) by decide), if_neg (show ¬ I 7 = (6 : Int32) by decide), if_pos (show I 7 = (7 : Int32) from rfl)]
    rfl
  · rw [if_neg (show ¬ I 11 = (0 : Int32) by decide), if_neg (show ¬ I 11 = (1 : Int32) by decide), if_neg (show ¬ I 11 = (2 : Int32) by decide), if_neg (show ¬ I 11 = (3 : Int32) by decide), if_neg (show ¬ I 11 = (4 : Int32) by decide), if_neg (show ¬ I 11 = (5 : Int32) by decide), if_neg (show ¬ I 11 = (6 : Int32) by decide), if_neg (show ¬ I 11 = (7 : Int32) by decide), if_neg (show ¬ I 11 = (8 : Int32) by decide), if_neg (show ¬ I 11 = (9 : Int32) by decide), if_neg (show ¬ I 11 = (10 : Int32) by decide), if_pos (show I 11 = (11 : Int32) from rfl)]
    rfl
  · rw [if_neg (show ¬ I 12 = (0 : Int32) by decide), if_neg (show ¬ I 12 = (1 : Int32) by decide), if_neg (show ¬ I 12 = (2 : Int32) by decide), if_neg (show ¬ I 12 = (3 : Int32) by decide), if_neg (show ¬ I 12 = (4 : Int32) by decide), if_neg (show ¬ I 12 = (5 : Int32) by decide), if_neg (show ¬ I 12 = (6 : Int32) by decide), if_neg (show ¬ I 12 = (7 : Int32) by decide), if_neg (show ¬ I 12 = (8 : Int32) by decide), if_neg (show ¬ I 12 = (9 : Int32) by decide), if_neg (show ¬ I 12 = (10 : Int32) by decide), if_neg (show ¬ I 12 = (11 : Int32) by decide), if_pos (show I 12 = (12 : Int32) from rfl)]
    rfl
  · rw [if_neg (show ¬ I 13 = (0 : Int32) by decide), if_neg (show ¬ I 13 = (1 : Int32) by decide), if_neg (show ¬ I 13 = (2 : Int32) by decide), if_neg (show ¬ I 13 = (3 : Int32) by decide), if_neg (show ¬ I 13 = (4 : Int32) by decide), if_neg (show ¬ I 13 = (5 : Int32) by decide), if_neg (show ¬ I 13 = (6 : Int32) by decide), if_neg (show ¬ I 13 = (7 : Int32) by decide), if_neg (show ¬ I 13 = (8 : Int32) by decide), if_neg (show ¬ I 13 = (9 : Int32) by decide), if_neg (show ¬ I 13 = (10 : Int32) by decide), if_neg (show ¬ I 13 = (11 : Int32) by decide), if_neg (show ¬ I 13 = (12 : Int32) by decide), if_pos (show I 13 = (13 : Int32) from rfl)]
    rfl
  · rw [if_neg (show ¬ I 14 = (0 : Int32) by decide), if_neg (show ¬ I 14 = (1 : Int32) by decide), if_neg (show ¬ I 14 = (2 : Int32) by decide), if_neg (show ¬ I 14 = (3 : Int32) by decide), if_neg (show ¬ I 14 = (4 : Int32) by decide), if_neg (show ¬ I 14 = (5 : Int32) by decide), if_neg (show ¬ I 14 = (6 : Int32) by decide), if_neg (show ¬ I 14 = (7 : Int32) by decide), if_neg (show ¬ I 14 = (8 : Int32) by decide), if_neg (show ¬ I 14 = (9 : Int32) by decide), if_neg (show ¬ I 14 = (10 : Int32) by decide), if_neg (show ¬ I 14 = (11 : Int32) by decide), if_neg (show ¬ I 14 = (12 : Int32) by decide), if_neg (show ¬ I 14 = (13 : Int32) by decide)]
    rfl
theorem set_c (h m : MM) (w : Nat → Int32) (x2 : Int32) (e5 : gi m 25 5 = w 5) (e6 : gi m 25 6 = w 6) {k : Nat} (hk : k < 8 ∨ 11 ≤ k ∧ k < 15) : D_X9_set (I k) x2 h m = bX (D_X9_requireRange x2 (lea k) (mxS w k)) (fun _ => some (.inr (gi m 25 k, si m 25 k x2))) := by
  have e : ∀ c : Nat, c < 15 → k ≠ c → ¬ I k = I c := fun c hc hn z => hn ((I_inj (by omega) (by omega)).mp z)
  unfold D_X9_set
  rw [rqr_ok (n := 15) (by decide), if_pos (ok_I (by omega) (by omega)), bX_s]
  rw [if_neg (show ¬ I k = (8 : Int32) from e 8 (by omega) (by omega)), if_neg (show ¬ I k = (9 : Int32) from e 9 (by omega) (by omega)), if_neg (show ¬ I k = (10 : Int32) from e 10 (by omega) (by omega))]
  simp only [gdI (show k < 2147483648 by omega) (show k < 15 by omega), gdJ (show k < 2147483648 by omega) (show k < 15 by omega), bnd_s, lif_s, I_tnc (show k < 2147483648 by omega), e5, e6]
  unfold mxS
  by_cases c5 : k = 5
  · subst c5
    rw [if_pos (show I 5 = (5 : Int32) from rfl), if_pos rfl]
  · rw [if_neg (show ¬ I k = (5 : Int32) from e 5 (by omega) c5), if_neg c5]
    by_cases c6 : k = 6
    · subst c6
      rw [if_pos (show I 6 = (6 : Int32) from rfl), if_pos rfl]
    · rw [if_neg (show ¬ I k = (6 : Int32) from e 6 (by omega) c6), if_neg c6]
theorem upto {x : Int32} {n : Nat} (hn : n < 100000) (h0 : (0 : Int) ≤ x.toInt) (h1 : x.toInt ≤ (n : Int)) : Rn n x := by
  have hx : ok x (n + 1) := (ok_iff x (n + 1)).mpr ⟨h0, by omega⟩
  obtain ⟨p, hp, rfl⟩ := ok_ex hx
  exact ⟨p, by omega, rfl⟩
theorem set_v {m : MM} {w : Nat → Int32} (h : R0 m w) (hv : V w) {k : Nat} (hk : k < 8 ∨ 11 ≤ k ∧ k < 15) {x2 : Int32} (h0 : (lea k).toInt ≤ x2.toInt) (h1 : x2.toInt ≤ (mxS w k).toInt) : V (upd w k x2) := by
  obtain ⟨v1, v2, v3, v4, v5, v6, v7, v8⟩ := h.vc
  have o : ∀ i : Nat, i ≠ k → upd w k x2 i = w i := fun i hi => upd_ne hi
  have hz : k = 0 ∨ k ≠ 0 := by omega
  have hl : (0 : Int) ≤ (lea k).toInt := by
    have hk : k = 0 ∨ k = 1 ∨ k = 2 ∨ k = 3 ∨ k = 4 ∨ k = 5 ∨ k = 6 ∨ k = 7 ∨ k = 11 ∨ k = 12 ∨ k = 13 ∨ k = 14 := by omega
    rcases hk with rfl | rfl | rfl | rfl | rfl | rfl | rfl | rfl | rfl | rfl | rfl | rfl <;> decide
  have hg : Vg (upd w k x2) := by
    obtain ⟨g1, g2, g3, g4, g5, g6⟩ := hv.vg
    refine ⟨?_, fun j hj => ?_, by rw [o 8 (by omega)]; exact g3, by rw [o 9 (by omega)]; exact g4, by rw [o 21 (by omega)]; exact g5, by rw [o 22 (by omega)]; exact g6⟩
    · by_cases e : k = 0
      · subst e
        rw [upd_eq]
        have a0 : (1 : Int) ≤ x2.toInt := h0
        have a1 : x2.toInt ≤ (50 : Int) := h1
        obtain ⟨p, hp, rfl⟩ := upto (n := 50) (by decide) (by omega) a1
        rw [I_toInt (by omega)] at a0
        exact ⟨p, by omega, hp, rfl⟩
      · rw [o 0 (by omega)]
        exact g1
    · by_cases e : j = k
      · subst e
        rw [upd_eq]
        refine upto (n := 200) (by decide) (by omega) (Int.le_trans h1 ?_)
        rcases hj with rfl | rfl | rfl | rfl | rfl
        · exact (by decide : (mst 1).toInt ≤ 200)
        · exact (by decide : (mst 2).toInt ≤ 200)
        · exact (by decide : (mst 3).toInt ≤ 200)
        · exact (by decide : (mst 4).toInt ≤ 200)
        · exact (by decide : (mst 14).toInt ≤ 200)
      · rw [o j e]
        exact g2 j hj
  refine hv.fr (fun i hi => o i (by omega)) hg ?_ (by rw [o 29 (by omega)]; exact hv.hlt) v6 v3 (fun s hs => (hv.sp s hs).cg (fun j hj => o _ (by omega))) (fun f hf => (hv.fd f hf).cg (fun j hj => o _ (by omega))) (fun q hq => (hv.st q hq).cg (fun j hj => o _ (by omega)))
  have e28 := o 28 (by omega)
  rw [nL_e e28, e28]
  exact hv.cnt.2.2.2.2.2.2
theorem T_set {m : MM} {w : Nat → Int32} (hR : R m w) (x h : MM) (x1 x2 : Int32) : AnsW m x w 0 1 (D_X9_set x1 x2 h m) (D_X10_set x1 x2 (pw x w)) := by
  have hv := hR.v
  have in7 : D_X10_in x1.toInt64 (0 : Int64) (7 : Int64) = some (if ok x1 8 then 1 else 0) := in_ok (by decide)
  have in14 : D_X10_in x1.toInt64 (11 : Int64) (14 : Int64) = some (if (11 : Int) ≤ x1.toInt ∧ x1.toInt ≤ 14 then 1 else 0) := by
    rw [in_eq, Int32.toInt_toInt64]
    rfl
  have bad : D_X10_set_37 x1 x2 (1 : Int32) (pw (th x 0) w) = some (0, pw (th x 1) w) := by
    unfold D_X10_set_37
    rw [tif1P _ _ (by decide), b2_s, if10]
  by_cases hk : ∃ k : Nat, (k < 8 ∨ 11 ≤ k ∧ k < 15) ∧ x1 = I k
  · obtain ⟨k, hk, rfl⟩ := hk
    have es : D_X10_set (I k) x2 (pw x w) = D_X10_set_37 (I k) x2 (0 : Int32) (pw (th x 0) w) := by
      unfold D_X10_set
      rw [bnd_s, zeroP, in7, b1_s]
      by_cases c : k < 8
      · rw [if_pos (ok_I (by omega) c), if10]
      · have nk : ¬ ok (I k) 8 := fun z => absurd (ok_lt z) (by rw [I_tnc (by omega)]; omega)
        have k14 : (11 : Int) ≤ (I k).toInt ∧ (I k).toInt ≤ 14 := by
          rw [I_toInt (by omega)]
          omega
        rw [if_neg nk, if00, in14, b1_s, if_pos k14, if10]
    rw [es, set_c h m w x2 (hR.r0.set 5 (by decide)) (hR.r0.set 6 (by decide)) hk, rqr_eq]
    unfold D_X10_set_37
    rw [tif0P, b2_s, if00, hi_x _ _ hk, b1_s, b1_s]
    have e0 : D_X10_in x2.toInt64 (if I k = 0 then (1 : Int64) else 0) (mxS w k).toInt64 = some (if (lea k).toInt ≤ x2.toInt ∧ x2.toInt ≤ (mxS w k).toInt then 1 else 0) := by
      rw [in_eq, Int32.toInt_toInt64, Int32.toInt_toInt64]
      by_cases c : k = 0
      · subst c
        rfl
      · rw [if_neg (fun z => c ((I_ne0 (by omega)).mp z))]
        have : lea k = 0 := by
          have hk : k = 1 ∨ k = 2 ∨ k = 3 ∨ k = 4 ∨ k = 5 ∨ k = 6 ∨ k = 7 ∨ k = 11 ∨ k = 12 ∨ k = 13 ∨ k = 14 := by omega
          rcases hk with rfl | rfl | rfl | rfl | rfl | rfl | rfl | rfl | rfl | rfl | rfl <;> rfl
        rw [this]
        rfl
    have ed : ∀ F : Int32 → Option (Int32 × MM), (if I k = 0 then b1 (D_X10_in x2.toInt64 (1 : Int64) (mxS w k).toInt64) F else b1 (D_X10_in x2.toInt64 (0 : Int64) (mxS w k).toInt64) F) = F (if (lea k).toInt ≤ x2.toInt ∧ x2.toInt ≤ (mxS w k).toInt then 1 else 0) := by
      intro F
      by_cases c : I k = 0
      · rw [if_pos c] at e0
        rw [if_pos c, e0, b1_s]
      · rw [if_neg c] at e0
        rw [if_neg c, e0, b1_s]
    rw [ed]
    by_cases c : (lea k).toInt ≤ x2.toInt ∧ x2.toInt ≤ (mxS w k).toInt
    · rw [if_pos c, if_pos c, bX_s, if10]
      unfold D_X10_set_73
      rw [tif0P, b2_s, if00, gdI (by omega) (by omega), bnd_s, gdI (by omega) (by omega), bnd_s, I_tnc (by omega), giP, siP, hR.r0.set k (by omega)]
      refine AnsW.y rfl rfl ⟨⟨hR.r0.wSet (by omega) x2, fun a ha => ?_⟩, set_v hR.r0 hv hk c.1 c.2⟩ Rn.z (by rw [upd_ne (by omega), Int32.add_zero])
      show gi (si m 25 k x2) 50 a = upd w k x2 (37 + a)
      rw [gi_si_ne (by omega), upd_ne (by omega)]
      exact hR.1.2 a ha
    · rw [if_neg c, if_neg c, bX_x, if00]
      unfold D_X10_set_73
      rw [tif1P _ _ (by decide), b2_s, if10]
      exact AnsW.t1 (by decide) rfl rfl
  · have n8 : ¬ ok x1 8 := fun z => by
      obtain ⟨k, hk2, e⟩ := ok_ex z
      exact hk ⟨k, Or.inl hk2, e⟩
    have n14 : ¬ ((11 : Int) ≤ x1.toInt ∧ x1.toInt ≤ 14) := fun z => by
      have hx : ok x1 15 := (ok_iff x1 15).mpr ⟨by omega, by omega⟩
      obtain ⟨k, hk2, rfl⟩ := ok_ex hx
      rw [I_toInt (by omega)] at z
      exact hk ⟨k, Or.inr ⟨by omega, hk2⟩, rfl⟩
    have es : D_X10_set x1 x2 (pw x w) = some (0, pw (th x 1) w) := by
      unfold D_X10_set
      rw [bnd_s, zeroP, in7, b1_s, if_neg n8, if00, in14, b1_s, if_neg n14, if00, bad]
    refine AnsW.t1 (by decide) ?_ es
    unfold D_X9_set
    rw [rqr_ok (n := 15) (by decide)]
    by_cases c : ok x1 15
    · obtain ⟨k, hk2, rfl⟩ := ok_ex c
      have : k = 8 ∨ k = 9 ∨ k = 10 := by
        by_cases c1 : k < 8
        · exact absurd ⟨k, Or.inl c1, rfl⟩ hk
        · by_cases c2 : 11 ≤ k
          · exact absurd ⟨k, Or.inr ⟨c2, hk2⟩, rfl⟩ hk
          · omega
      rw [if_pos c, bX_s]
      rcases this with rfl | rfl | rfl
      · rw [if_pos (show I 8 = (8 : Int32) from rfl)]
      · rw [if_neg (show ¬ I 9 = (8 : Int32) by decide), if_pos (show I 9 = (9 : Int32) from rfl)]
      · rw [if_neg (show ¬ I 10 = (8 : Int32) by decide), if_neg (show ¬ I 10 = (9 : Int32) by decide), if_pos (show I 10 = (10 : Int32) from rfl)]
    · rw [if_neg c, bX_x]
theorem T_loadError {x h : MM} {w : Nat → Int32} (m : MM) (e : gi h 0 2 = gi x 0 13) : AnsN x w (D_X9_loadError h m) (D_X10_loadError (pw x w)) := by
  unfold D_X9_loadError D_X10_loadError
  rw [bnd_s, zeroP]
  refine AnsN.y rfl ?_
  rw [gi_pw (by decide), e, show gi (th x 0) 0 13 = gi x 0 13 from gi_si_ne (by omega)]
