/-! PROPERTY: what is foreseen, and what comes -/
theorem rOf_inj {w : Nat → Int32} {o o' : Option (Nat × Nat × Nat)} (h4 : nS w ≤ 4) (h6 : nT w ≤ 6) (h10 : nF w ≤ 10) (h40 : nP w ≤ 40) (g : Good w o) (g' : Good w o') (e : rOf o = rOf o') : o = o' := by
  have bnd_ : ∀ a s t : Nat, ActOk w a s t → a < 7 ∧ s < 4 ∧ t < 40 := fun a s t ⟨hs, ok⟩ => by
    rcases ok with ⟨q, q2, _⟩ | ⟨q, q2, _⟩ | ⟨q, q2, _⟩ | ⟨q, q2, _⟩ | ⟨q, q2, _⟩ | ⟨q, q2, _⟩ <;> exact ⟨by omega, by omega, by omega⟩
  cases o with
  | none =>
    exact ((rOf_no h4 h6 h10 h40 g').mp (by rw [← e]; rfl)).symm
  | some p =>
    obtain ⟨a, s, t⟩ := p
    cases o' with
    | none => exact (rOf_no h4 h6 h10 h40 g).mp (by rw [e]; rfl)
    | some p' =>
      obtain ⟨a', s', t'⟩ := p'
      obtain ⟨b1, b2, b3⟩ := bnd_ a s t (g a s t rfl)
      obtain ⟨c1, c2, c3⟩ := bnd_ a' s' t' (g' a' s' t' rfl)
      have e : I (10000 * a + 100 * s + t) = I (10000 * a' + 100 * s' + t') := e
      have e := (I_inj (by omega) (by omega)).mp e
      have : a = a' ∧ s = s' ∧ t = t' := by omega
      obtain ⟨rfl, rfl, rfl⟩ := this
      rfl
/-- the next action, wherever it is told -/
theorem next_u {m : MM} {w : Nat → Int32} (h : R m w) : ∃ o : Option (Nat × Nat × Nat), Good w o ∧ (∀ (q : Nat) (hh : MM), D_X7_next q hh m = cOf q hh o) ∧ D_X10_next (pw zM w) = some (rOf o) := by
  obtain ⟨v1, v2, v3, v4, v5, -⟩ := h.r0.vc
  obtain ⟨o, e1, e2, e3⟩ := next_s h zM 1 zM
  refine ⟨o, e3, fun q hh => ?_, e2⟩
  obtain ⟨o', f1, f2, f3⟩ := next_s h zM q hh
  have : o' = o := rOf_inj v1 v2 v4 v5 f3 e3 (Option.some.inj (f2.symm.trans e2))
  rw [f1, this]
theorem next_b {m f : MM} {w : Nat → Int32} (h : R m w) (hf : R f w) : ∃ o : Option (Nat × Nat × Nat), Good w o ∧ (∀ (q : Nat) (hh : MM), D_X7_next q hh m = cOf q hh o) ∧ ∀ (q : Nat) (hh : MM), D_X7_next q hh f = cOf q hh o := by
  obtain ⟨v1, v2, v3, v4, v5, -⟩ := h.r0.vc
  obtain ⟨o, e1, e2, e3⟩ := next_u h
  obtain ⟨o', f1, f2, f3⟩ := next_u hf
  have : o' = o := rOf_inj v1 v2 v4 v5 f1 e1 (Option.some.inj (f3.symm.trans e3))
  exact ⟨o, e1, e2, by rw [← this]; exact f2⟩
/-- an action on two machines that tell the same -/
theorem perf_b {N : Nat → Nat} (hN : ∀ t : Nat, t < 6 → N t < 1000) {m f : MM} {w : Nat → Int32} (h : R m w) (hf : R f w) (hI : Inv N 0 w) {a s t : Nat} (hg : Good w (some (a, s, t))) : ∃ (r : Int32) (m' f' : MM) (w' : Nat → Int32), D_X6_perform (I a) (I s) (I t) m = some (r, m') ∧ D_X6_perform (I a) (I s) (I t) f = some (r, f') ∧ R m' w' ∧ R f' w' ∧ Inv (upk 1 N) 0 w' ∧ Rn 2 r ∧ ∃ d : Int32, Rn 1199 d ∧ w' 23 = w 23 + d ∧ (∀ i : Nat, 15 ≤ i → i ≤ 20 → w' i = w i) ∧ ∃ c : Nat, c ≤ 3 ∧ w' 27 = w 27 + I c := by
  obtain ⟨r, m', w', e1, e2, e3, e4, d, e5, e6, e7, e8⟩ := does_i hN h hI zM hg
  obtain ⟨r2, f', w2, f1, f2, f3, -⟩ := does_i hN hf hI zM hg
  have e := f2.symm.trans e2
  have er : r2 = r := congrArg Prod.fst (Option.some.inj e)
  have ew : w2 = w' := pw_inj (x := zM) (congrArg Prod.snd (Option.some.inj e))
  subst er
  subst ew
  exact ⟨r2, m', f', w2, e1, f1, e3, f3, e4, e7, d, e5, e6, e8⟩
/-- k actions of the plan lead from m to m' -/
def Sq : Nat → MM → MM → Prop
  | 0, m, m' => m' = m
  | k + 1, m, m' => ∃ (a s t : Nat) (r : Int32) (m1 : MM), (∀ (q : Nat) (hh : MM), D_X7_next q hh m = cOf q hh (some (a, s, t))) ∧ D_X6_perform (I a) (I s) (I t) m = some (r, m1) ∧ Sq k m1 m'
theorem cOf_inj {o o' : Option (Nat × Nat × Nat)} {w : Nat → Int32} (h4 : nS w ≤ 4) (h6 : nT w ≤ 6) (h10 : nF w ≤ 10) (h40 : nP w ≤ 40) (g : Good w o) (g' : Good w o') {m : MM} (e : ∀ (q : Nat) (hh : MM), D_X7_next q hh m = cOf q hh o) (e' : ∀ (q : Nat) (hh : MM), D_X7_next q hh m = cOf q hh o') : o = o' := by
  have bnd_ : ∀ a s t : Nat, ActOk w a s t → a < 7 ∧ s < 4 ∧ t < 40 := fun a s t ⟨hs, ok⟩ => by
    rcases ok with ⟨q, q2, _⟩ | ⟨q, q2, _⟩ | ⟨q, q2, _⟩ | ⟨q, q2, _⟩ | ⟨q, q2, _⟩ | ⟨q, q2, _⟩ <;> exact ⟨by omega, by omega, by omega⟩
  have h := (e 1 zM).symm.trans (e' 1 zM)
  cases o with
  | none =>
    cases o' with
    | none => rfl
    | some p =>
      obtain ⟨a, s, t⟩ := p
      exact absurd (show (0 : Int32) = 1 from congrArg Prod.fst (Option.some.inj h)) (by decide)
  | some p =>
    obtain ⟨a, s, t⟩ := p
    cases o' with
    | none => exact absurd (show (1 : Int32) = 0 from congrArg Prod.fst (Option.some.inj h)) (by decide)
    | some p' =>
      obtain ⟨a', s', t'⟩ := p'
      have hd : dec 1 a s t zM = dec 1 a' s' t' zM := congrArg Prod.snd (Option.some.inj h)
      obtain ⟨b1, b2, b3⟩ := bnd_ a s t (g a s t rfl)
      obtain ⟨c1, c2, c3⟩ := bnd_ a' s' t' (g' a' s' t' rfl)
      have e1 := congrArg (fun z => gi z 1 1) hd
      have e2 := congrArg (fun z => gi z 1 2) hd
      have e3 := congrArg (fun z => gi z 1 3) hd
      have e1 : gi (dec 1 a s t zM) 1 1 = gi (dec 1 a' s' t' zM) 1 1 := e1
      have e2 : gi (dec 1 a s t zM) 1 2 = gi (dec 1 a' s' t' zM) 1 2 := e2
      have e3 : gi (dec 1 a s t zM) 1 3 = gi (dec 1 a' s' t' zM) 1 3 := e3
      rw [dec_1, dec_1] at e1
      rw [dec_2, dec_2] at e2
      rw [dec_3, dec_3] at e3
      have n1 : a = a' := (I_inj (by omega) (by omega)).mp e1
      have n2 : s = s' := (I_inj (by omega) (by omega)).mp e2
      have n3 : t = t' := (I_inj (by omega) (by omega)).mp e3
      rw [n1, n2, n3]
/-- a prediction goes the way that the plan goes -/
theorem goOn_sq (mm : MM) : ∀ (d j n : Nat) (N : Nat → Nat) (m f : MM) (w : Nat → Int32) (h : MM) (o : Option (Nat × Nat × Nat)) (T : Nat), (∀ t : Nat, t < 6 → N t < 1000) → j + d = 1000 → d < n → R m w → R f w → Inv N 0 w → Rn T (w 23) → Good w o → (∀ (q : Nat) (hh : MM), D_X7_next q hh m = cOf q hh o) → gi h 3 3 = I j → ∃ (k : Nat) (m' f' : MM) (w' : Nat → Int32) (h' : MM) (o' : Option (Nat × Nat × Nat)), b2 (cOf 2 h o) (fun v m14 => D_X3_goOn_13 mm n v m14 f) = some (h', f') ∧ k ≤ d ∧ Sq k m m' ∧ R m' w' ∧ R f' w' ∧ Inv (upk k N) 0 w' ∧ Rn (T + 1199 * k) (w' 23) ∧ HF h h' ∧ Good w' o' ∧ (∀ (q : Nat) (hh : MM), D_X7_next q hh m' = cOf q hh o') ∧ (k < d → o' = none) ∧ gi h' 3 3 = I (j + k) ∧ gi h' 3 4 = endOf w' o' := by
  intro d
  induction d with
  | zero =>
    intro j n N m f w h o T hN hj hn hm hf hI hT hg hx hc
    obtain ⟨n, rfl⟩ : ∃ n0 : Nat, n = n0 + 1 := ⟨n - 1, by omega⟩
    have hj : j = 1000 := by omega
    subst hj
    match o, hx, hg with
    | none, hx, hg =>
      refine ⟨0, m, f, w, si h 3 4 (gi f 24 13), none, ?_, Nat.le_refl _, rfl, hm, hf, hI.gok hm.r0.bd.2.1 0, hT, HF.si h _ (by omega), hg, hx, fun _ => rfl, by rw [gi_si_ne (by omega)]; exact hc, by rw [gi_si_eq]; exact hf.r0.s23⟩
      rw [b2_c0]
      unfold D_X3_goOn_13
      rw [if_pos rfl, if_pos rfl, bnd_s]
    | some (a, s, t), hx, hg =>
      refine ⟨0, m, f, w, si (dec 2 a s t h) 3 4 (-1), some (a, s, t), ?_, Nat.le_refl _, rfl, hm, hf, hI.gok hm.r0.bd.2.1 0, hT, (HF.dec h (by omega) a s t).tr (HF.si _ _ (by omega)), hg, hx, fun z => by omega, by rw [gi_si_ne (by omega), dec_o _ _ _ _ (by omega)]; exact hc, by rw [gi_si_eq]; rfl⟩
      rw [b2_c1]
      unfold D_X3_goOn_13
      rw [dec_o _ _ _ _ (by omega), hc, if10, if_pos (show (1000 : Int32) ≤ I 1000 by decide), if10, bnd_s]
  | succ d ih =>
    intro j n N m f w h o T hN hj hn hm hf hI hT hg hx hc
    obtain ⟨n, rfl⟩ : ∃ n0 : Nat, n = n0 + 1 := ⟨n - 1, by omega⟩
    match o, hx, hg with
    | none, hx, hg =>
      refine ⟨0, m, f, w, si h 3 4 (gi f 24 13), none, ?_, Nat.zero_le _, rfl, hm, hf, hI.gok hm.r0.bd.2.1 0, hT, HF.si h _ (by omega), hg, hx, fun _ => rfl, by rw [gi_si_ne (by omega)]; exact hc, by rw [gi_si_eq]; exact hf.r0.s23⟩
      rw [b2_c0]
      unfold D_X3_goOn_13
      rw [if_pos rfl, if_pos rfl, bnd_s]
    | some (a, s, t), hx, hg =>
      obtain ⟨r, m1, f1, w1, p1, p2, p3, p4, p5, p6, δ, p7, p8, p9⟩ := perf_b hN hm hf hI hg
      obtain ⟨o2, q1, q2, q3⟩ := next_b p3 p4
      obtain ⟨k, m2, f2, w2, h2, o3, r1, r2, r3, r4, r5, r6, r7, r8, r9, r10, r11, r12, r13⟩ := ih (j + 1) n (upk 1 N) m1 f1 w1 (si (dec 2 a s t h) 3 3 (I j + 1)) o2 (T + 1199) (fun t ht => by rw [upk_lo ht]; exact hN t ht) (by omega) (by omega) p3 p4 p5 (by rw [p8]; exact hT.add p7) q1 q2 (by rw [gi_si_eq, ixs1])
      rw [upk_upk, Nat.add_comm 1 k] at r6
      refine ⟨k + 1, m2, f2, w2, h2, o3, ?_, by omega, ⟨a, s, t, r, m1, hx, p1, r3⟩, r4, r5, r6, r7.mono (by omega), ((HF.dec h (by omega) a s t).tr (HF.si _ _ (by omega))).tr r8, r9, r10, fun z => r11 (by omega), by rw [r12, show j + 1 + k = j + (k + 1) by omega], r13⟩
      rw [← r1, b2_c1, ← q3]
      generalize hB : b2 (D_X7_next 2 (si (dec 2 a s t h) 3 3 (I j + 1)) f1) (fun v m14 => D_X3_goOn_13 mm n v m14 f1) = BB
      unfold D_X3_goOn_13
      have hle : ¬ (1000 : Int32) ≤ I j := leF (b := j) (a := 1000) (by omega) (by decide)
      rw [dec_o _ _ _ _ (show 3 ≠ 2 by decide), hc, if10, if_neg hle, dec_1, dec_2, dec_3, p2, b2_s, bnd_s]
      exact hB
/-- a prediction from a machine on: what comes behind k actions of its plan -/
theorem fore_sq {N : Nat → Nat} (hN : ∀ t : Nat, t < 6 → N t < 1000) {m : MM} {w : Nat → Int32} (hm : R m w) (hI : Inv N 0 w) (h f : MM) {T : Nat} (hT : Rn T (w 23)) : ∃ (f0 : MM) (k : Nat) (m' f' : MM) (w' : Nat → Int32) (h' : MM) (o' : Option (Nat × Nat × Nat)), D_X6_copyFrom f m = some f0 ∧ D_X3_goOn h m f0 = some (h', f') ∧ k ≤ 1000 ∧ Sq k m m' ∧ R m' w' ∧ R f' w' ∧ Inv (upk k N) 0 w' ∧ Rn (T + 1199 * k) (w' 23) ∧ HF h h' ∧ Good w' o' ∧ (∀ (q : Nat) (hh : MM), D_X7_next q hh m' = cOf q hh o') ∧ (k < 1000 → o' = none) ∧ gi h' 3 3 = I k ∧ gi h' 3 4 = endOf w' o' := by
  obtain ⟨f0, c1, c2⟩ := copy_s hm f
  obtain ⟨o, q1, q2, q3⟩ := next_b hm c2
  obtain ⟨k, m', f', w', h', o', r1, r2, r3, r4, r5, r6, r7, r8, r9, r10, r11, r12, r13⟩ := goOn_sq m 1000 0 FU N m f0 w (si h 3 3 0) o T hN (by omega) (by show 1000 < 5000; omega) hm c2 hI hT q1 q2 (gi_si_eq _ _ _ _)
  refine ⟨f0, k, m', f', w', h', o', c1, ?_, r2, r3, r4, r5, r6, r7, (HF.si h _ (by omega)).tr r8, r9, r10, r11, by rw [r12, Nat.zero_add], r13⟩
  unfold D_X3_goOn
  rw [bnd_s, q3]
  exact r1
