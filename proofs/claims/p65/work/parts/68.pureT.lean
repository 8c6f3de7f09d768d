/-! PURE: predictions go on -/
theorem Rn.mono {a b : Nat} {v : Int32} (h : Rn a v) (e : a ≤ b) : Rn b v := by
  obtain ⟨p, hp, hv⟩ := h
  exact ⟨p, by omega, hv⟩
theorem Rn.add {a b : Nat} {u v : Int32} (h : Rn a u) (h' : Rn b v) : Rn (a + b) (u + v) := by
  obtain ⟨p, hp, rfl⟩ := h
  obtain ⟨q, hq, rfl⟩ := h'
  exact ⟨p + q, by omega, I_add p q⟩
theorem siP0 (x : MM) (w : Nat → Int32) (k : Nat) (v : Int32) : si (pw x w) 0 k v = pw (si x 0 k v) w := by
  refine Prod.ext (funext fun q => funext fun j => ?_) rfl
  show gi (si (pw x w) 0 k v) q j = gi (pw (si x 0 k v) w) q j
  by_cases h1 : q = 1
  · subst h1
    rw [giP, gi_si_ne (by omega), giP]
  · rw [gi_pw h1]
    by_cases h0 : q = 0 ∧ j = k
    · rw [gi_si_is h0, gi_si_is h0]
    · rw [gi_si_ne (by omega), gi_si_ne (by omega), gi_pw h1]
/-- what runs keep of the reference, but for its row -/
def XF (x x' : MM) : Prop := ∀ q k : Nat, q ≠ 1 → ¬ (q = 0 ∧ k = 16) → gi x' q k = gi x q k
theorem XF.rf (x : MM) : XF x x := fun _ _ _ _ => rfl
theorem XF.tr {x y z : MM} (h : XF x y) (h' : XF y z) : XF x z := fun q k a b => (h' q k a b).trans (h q k a b)
theorem XF.s16 (x : MM) (v : Int32) : XF x (si x 0 16 v) := fun q k _ b => gi_si_ne (by omega)
/-- what predictions keep of the head -/
def HF (h h' : MM) : Prop := ∀ q k : Nat, (q < 1 ∨ 4 < q) → gi h' q k = gi h q k
theorem HF.rf (h : MM) : HF h h := fun _ _ _ => rfl
theorem HF.tr {x y z : MM} (h : HF x y) (h' : HF y z) : HF x z := fun q k a => (h' q k a).trans (h q k a)
theorem HF.si (h : MM) {q k : Nat} (v : Int32) (hq : 1 ≤ q ∧ q ≤ 4) : HF h (si h q k v) := fun q' k' a => gi_si_ne (by omega)
theorem HF.dec (h : MM) {q : Nat} (hq : 1 ≤ q ∧ q ≤ 4) (a s t : Nat) : HF h (dec q a s t h) := ((HF.si h (I a) hq).tr (HF.si _ (I s) hq)).tr (HF.si _ (I t) hq)
theorem dec_1 (q a s t : Nat) (h : MM) : gi (dec q a s t h) q 1 = I a := by
  unfold dec
  rw [gi_si_ne (by omega), gi_si_ne (by omega), gi_si_eq]
theorem dec_2 (q a s t : Nat) (h : MM) : gi (dec q a s t h) q 2 = I s := by
  unfold dec
  rw [gi_si_ne (by omega), gi_si_eq]
theorem dec_3 (q a s t : Nat) (h : MM) : gi (dec q a s t h) q 3 = I t := by
  unfold dec
  rw [gi_si_eq]
theorem dec_o {q : Nat} (a s t : Nat) (h : MM) {q' k : Nat} (hq : q' ≠ q) : gi (dec q a s t h) q' k = gi h q' k := by
  unfold dec
  rw [gi_si_ne (by omega), gi_si_ne (by omega), gi_si_ne (by omega)]
def endOf (w : Nat → Int32) : Option (Nat × Nat × Nat) → Int32
  | none => w 23
  | some _ => -1
theorem does_s {m : MM} {w : Nat → Int32} (h : R m w) (x : MM) {a s t : Nat} (hg : Good w (some (a, s, t))) : ∃ (r : Int32) (m' : MM) (w' : Nat → Int32), D_X6_perform (I a) (I s) (I t) m = some (r, m') ∧ D_X10_does (rOf (some (a, s, t))) (pw x w) = some (r, pw x w') ∧ R m' w' ∧ ∃ d : Int32, Rn 1199 d ∧ w' 23 = w 23 + d ∧ Rn 2 r ∧ ∀ i : Nat, 15 ≤ i → i ≤ 20 → w' i = w i := act_s h x (hg a s t rfl)
theorem rOf_ne {m : MM} {w : Nat → Int32} (h : R0 m w) {a s t : Nat} (hg : Good w (some (a, s, t))) : ¬ rOf (some (a, s, t)) = -1 := fun z => by
  obtain ⟨v1, v2, v3, v4, v5, -⟩ := h.vc
  have := (rOf_no v1 v2 v4 v5 hg).mp z
  cases this
theorem goOn_l (mm : MM) : ∀ (d j n n' : Nat) (f : MM) (w : Nat → Int32) (x h : MM) (o : Option (Nat × Nat × Nat)) (T : Nat), j + d = 1000 → d < n → d < n' → R f w → Rn T (w 23) → D_X10_next (pw x w) = some (rOf o) → Good w o → gi h 3 3 = I j → ∃ (J : Nat) (f' : MM) (w' : Nat → Int32) (x' h' : MM) (o' : Option (Nat × Nat × Nat)), b2 (cOf 2 h o) (fun v m14 => D_X3_goOn_13 mm n v m14 f) = some (h', f') ∧ D_X10_runs_16 n' (1000 : Int32) (I j) (if j < 1000 then rOf o else -1) (pw x w) = some (I J, pw x' w') ∧ R f' w' ∧ Rn (T + 1199 * d) (w' 23) ∧ XF x x' ∧ HF h h' ∧ D_X10_next (pw x' w') = some (rOf o') ∧ Good w' o' ∧ J ≤ 1000 ∧ (J < 1000 → o' = none) ∧ gi h' 3 3 = I J ∧ gi h' 3 4 = endOf w' o' := by
  intro d
  induction d with
  | zero =>
    intro j n n' f w x h o T hj hn hn' hR hT hx hg hc
    obtain ⟨n, rfl⟩ : ∃ n0 : Nat, n = n0 + 1 := ⟨n - 1, by omega⟩
    obtain ⟨n', rfl⟩ : ∃ n0 : Nat, n' = n0 + 1 := ⟨n' - 1, by omega⟩
    have hj : j = 1000 := by omega
    subst hj
    have hr : D_X10_runs_16 (n' + 1) (1000 : Int32) (I 1000) (if 1000 < 1000 then rOf o else -1) (pw x w) = some (I 1000, pw x w) := by
      rw [if_neg (by decide)]
      unfold D_X10_runs_16
      rw [if_pos rfl]
    match o, hx, hg with
    | none, hx, hg =>
      refine ⟨1000, f, w, x, si h 3 4 (gi f 24 13), none, ?_, hr, hR, hT.mono (by omega), XF.rf x, HF.si h _ (by omega), hx, hg, Nat.le_refl _, fun _ => rfl, by rw [gi_si_ne (by omega)]; exact hc, by rw [gi_si_eq]; exact hR.r0.s23⟩
      rw [b2_c0]
      unfold D_X3_goOn_13
      rw [if_pos rfl, if_pos rfl, bnd_s]
    | some (a, s, t), hx, hg =>
      refine ⟨1000, f, w, x, si (dec 2 a s t h) 3 4 (-1), some (a, s, t), ?_, hr, hR, hT.mono (by omega), XF.rf x, (HF.dec h (by omega) a s t).tr (HF.si _ _ (by omega)), hx, hg, Nat.le_refl _, fun z => by omega, by rw [gi_si_ne (by omega), dec_o _ _ _ _ (by omega)]; exact hc, by rw [gi_si_eq]; rfl⟩
      rw [b2_c1]
      unfold D_X3_goOn_13
      rw [dec_o _ _ _ _ (by omega), hc, if10, if_pos (show (1000 : Int32) ≤ I 1000 by decide), if10, bnd_s]
  | succ d ih =>
    intro j n n' f w x h o T hj hn hn' hR hT hx hg hc
    obtain ⟨n, rfl⟩ : ∃ n0 : Nat, n = n0 + 1 := ⟨n - 1, by omega⟩
    obtain ⟨n', rfl⟩ : ∃ n0 : Nat, n' = n0 + 1 := ⟨n' - 1, by omega⟩
    rw [if_pos (show j < 1000 by omega)]
    match o, hx, hg with
    | none, hx, hg =>
      refine ⟨j, f, w, x, si h 3 4 (gi f 24 13), none, ?_, ?_, hR, hT.mono (by omega), XF.rf x, HF.si h _ (by omega), hx, hg, by omega, fun _ => rfl, by rw [gi_si_ne (by omega)]; exact hc, by rw [gi_si_eq]; exact hR.r0.s23⟩
      · rw [b2_c0]
        unfold D_X3_goOn_13
        rw [if_pos rfl, if_pos rfl, bnd_s]
      · unfold D_X10_runs_16
        rw [if_pos (show rOf none = -1 from rfl)]
    | some (a, s, t), hx, hg =>
      obtain ⟨r, m', w', p1, p2, p3, δ, hδ, eδ, -⟩ := does_s hR x hg
      obtain ⟨o2, q1, q2, q3⟩ := next_s p3 (si x 0 16 r) 2 (si (dec 2 a s t h) 3 3 (I j + 1))
      obtain ⟨J, f2, w2, x2, h2, o3, r1, r2, r3, r4, r5, r6, r7, r8, r9, r10, r11, r12⟩ := ih (j + 1) n n' m' w' (si x 0 16 r) (si (dec 2 a s t h) 3 3 (I j + 1)) o2 (T + 1199) (by omega) (by omega) (by omega) p3 (by rw [eδ]; exact hT.add hδ) q2 q3 (by rw [gi_si_eq, ixs1])
      refine ⟨J, f2, w2, x2, h2, o3, ?_, ?_, r3, r4.mono (by omega), (XF.s16 x r).tr r5, ((HF.dec h (by omega) a s t).tr (HF.si _ _ (by omega))).tr r6, r7, r8, r9, r10, r11, r12⟩
      · rw [← r1, b2_c1, ← q1]
        generalize hB : b2 (D_X7_next 2 (si (dec 2 a s t h) 3 3 (I j + 1)) m') (fun v m14 => D_X3_goOn_13 mm n v m14 m') = BB
        unfold D_X3_goOn_13
        have hle : ¬ (1000 : Int32) ≤ I j := leF (b := j) (a := 1000) (by omega) (by decide)
        rw [dec_o _ _ _ _ (show 3 ≠ 2 by decide), hc, if10, if_neg hle, dec_1, dec_2, dec_3, p1, b2_s, bnd_s]
        exact hB
      · rw [← r2]
        generalize hB : D_X10_runs_16 n' (1000 : Int32) (I (j + 1)) (if j + 1 < 1000 then rOf o2 else -1) (pw (si x 0 16 r) w') = BB
        unfold D_X10_runs_16
        rw [if_neg (rOf_ne hR.r0 hg), p2, b2_s, siP0, bnd_s, bnd_s, ixs1, q2, b1_s]
        by_cases c : j + 1 < 1000
        · rw [if_pos c] at hB
          rw [if_neg (show ¬ (1000 : Int32) ≤ I (j + 1) from leF (b := j + 1) (a := 1000) c (by decide))]
          exact hB
        · rw [if_neg c] at hB
          rw [if_pos (show (1000 : Int32) ≤ I (j + 1) from leT (a := 1000) (by omega) (by omega))]
          exact hB
/-- a prediction, on both sides -/
theorem fore_s (mm : MM) {f : MM} {w : Nat → Int32} (hR : R f w) (x h : MM) {T : Nat} (hT : Rn T (w 23)) : ∃ (J : Nat) (f' : MM) (w' : Nat → Int32) (x' h' : MM) (o' : Option (Nat × Nat × Nat)), D_X3_goOn h mm f = some (h', f') ∧ D_X10_runs (1000 : Int32) (pw x w) = some (I J, pw x' w') ∧ R f' w' ∧ Rn (T + 1199000) (w' 23) ∧ XF x x' ∧ HF h h' ∧ D_X10_next (pw x' w') = some (rOf o') ∧ Good w' o' ∧ J ≤ 1000 ∧ (J < 1000 → o' = none) ∧ gi h' 3 3 = I J ∧ gi h' 3 4 = endOf w' o' := by
  obtain ⟨o, q1, q2, q3⟩ := next_s hR x 2 (si h 3 3 0)
  obtain ⟨J, f2, w2, x2, h2, o3, r1, r2, r3, r4, r5, r6, r7⟩ := goOn_l mm 1000 0 FU FU f w x (si h 3 3 0) o T (by omega) (by decide) (by decide) hR hT q2 q3 (gi_si_eq _ _ _ _)
  refine ⟨J, f2, w2, x2, h2, o3, ?_, ?_, r3, r4.mono (by omega), r5, (HF.si h 0 (by omega)).tr r6, r7⟩
  · unfold D_X3_goOn
    rw [bnd_s, q1]
    exact r1
  · unfold D_X10_runs
    rw [if_neg (show ¬ (1000 : Int32) ≤ (0 : Int32) by decide), q2, b1_s]
    exact r2
-- the row laid aside and laid back
theorem aside_s (x : MM) (w : Nat → Int32) : ∃ x1 : MM, D_X10_goesAside (pw x w) = some (pw x1 w) ∧ (∀ k : Nat, k < 640 → gi x1 2 k = w k) ∧ ∀ q k : Nat, q ≠ 1 → q ≠ 2 → gi x1 q k = gi x q k := by
  obtain ⟨x1, g1, g2, g3⟩ := copies_x 1 2 (by decide) (pw x w)
  have e : x1 = pw x1 w := by
    have : rw1 x1 = w := funext fun k => by
      have := g2 1 k (by decide)
      rw [giP] at this
      exact this
    rw [← this, pw_self]
  refine ⟨x1, ?_, fun k hk => by rw [g3 k hk, giP], fun q k h1 h2 => by rw [g2 q k h2, gi_pw h1]⟩
  unfold D_X10_goesAside
  rw [g1, b1_s, ← e]
theorem back_s (x : MM) (w : Nat → Int32) {w0 : Nat → Int32} (h2 : ∀ k : Nat, k < 640 → gi x 2 k = w0 k) : ∃ (x1 : MM) (w1 : Nat → Int32), D_X10_comesBack (pw x w) = some (pw x1 w1) ∧ (∀ k : Nat, k < 640 → w1 k = w0 k) ∧ ∀ q k : Nat, q ≠ 1 → gi x1 q k = gi x q k := by
  obtain ⟨x1, g1, g2, g3⟩ := copies_x 2 1 (by decide) (pw x w)
  refine ⟨x1, rw1 x1, ?_, fun k hk => ?_, fun q k h1 => by rw [g2 q k h1, gi_pw h1]⟩
  · unfold D_X10_comesBack
    rw [g1, b1_s, pw_self]
  · show gi x1 1 k = w0 k
    rw [g3 k hk, gi_pw (by decide), h2 k hk]
/-- what a call keeps of the reference -/
def XK (x x' : MM) : Prop := ∀ q k : Nat, (q = 0 ∧ (k = 8 ∨ k = 13)) ∨ (4 ≤ q ∧ q ≠ 8) → gi x' q k = gi x q k
theorem XK.rf (x : MM) : XK x x := fun _ _ _ => rfl
theorem XK.tr {x y z : MM} (h : XK x y) (h' : XK y z) : XK x z := fun q k a => (h' q k a).trans (h q k a)
theorem XF.k {x x' : MM} (h : XF x x') : XK x x' := fun q k a => h q k (by omega) (by omega)
theorem XK.th (x : MM) (c : Int32) : XK x (th x c) := fun q k a => gi_si_ne (by omega)
theorem XKp (x : MM) (w : Nat → Int32) : XK x (pw x w) := fun q k a => gi_pw (by omega) k
theorem XKq (x : MM) (w : Nat → Int32) : XK (pw x w) x := fun q k a => (gi_pw (by omega) k).symm
