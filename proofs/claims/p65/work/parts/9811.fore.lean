/-! PROPERTY: the ways of the plan are one; what the predictions answer -/
theorem cOf_some {a s t a' s' t' : Nat} (h : cOf 1 zM (some (a, s, t)) = cOf 1 zM (some (a', s', t'))) : I a = I a' ∧ I s = I s' ∧ I t = I t' := by
  have hd : dec 1 a s t zM = dec 1 a' s' t' zM := congrArg Prod.snd (Option.some.inj h)
  have e1 : gi (dec 1 a s t zM) 1 1 = gi (dec 1 a' s' t' zM) 1 1 := congrArg (fun z => gi z 1 1) hd
  have e2 : gi (dec 1 a s t zM) 1 2 = gi (dec 1 a' s' t' zM) 1 2 := congrArg (fun z => gi z 1 2) hd
  have e3 : gi (dec 1 a s t zM) 1 3 = gi (dec 1 a' s' t' zM) 1 3 := congrArg (fun z => gi z 1 3) hd
  rw [dec_1, dec_1] at e1
  rw [dec_2, dec_2] at e2
  rw [dec_3, dec_3] at e3
  exact ⟨e1, e2, e3⟩
theorem Sq.step {k : Nat} {m m1 mk : MM} {a s t : Nat} {r : Int32} (hx : ∀ (q : Nat) (hh : MM), D_X7_next q hh m = cOf q hh (some (a, s, t))) (hp : D_X6_perform (I a) (I s) (I t) m = some (r, m1)) (h : Sq (k + 1) m mk) : Sq k m1 mk := by
  obtain ⟨a', s', t', r', m1', hx', hp', h'⟩ := h
  obtain ⟨e1, e2, e3⟩ := cOf_some ((hx 1 zM).symm.trans (hx' 1 zM))
  rw [← e1, ← e2, ← e3, hp] at hp'
  have : m1 = m1' := congrArg Prod.snd (Option.some.inj hp')
  rw [this]
  exact h'
theorem Sq.no {k : Nat} {m mk : MM} (hx : ∀ (q : Nat) (hh : MM), D_X7_next q hh m = cOf q hh none) (h : Sq (k + 1) m mk) : False := by
  obtain ⟨a', s', t', r', m1', hx', hp', h'⟩ := h
  exact absurd (show (0 : Int32) = 1 from congrArg Prod.fst (Option.some.inj ((hx 1 zM).symm.trans (hx' 1 zM)))) (by decide)
theorem Sq.det : ∀ (k : Nat) {m a b : MM}, Sq k m a → Sq k m b → a = b := by
  intro k
  induction k with
  | zero => intro m a b h h'; exact h.trans h'.symm
  | succ k ih =>
    intro m a b h h'
    obtain ⟨x, s, t, r, m1, hx, hp, h1⟩ := h
    exact ih h1 (Sq.step hx hp h')
theorem Sq.app : ∀ (j : Nat) {k : Nat} {m a b : MM}, Sq j m a → Sq k a b → Sq (j + k) m b := by
  intro j
  induction j with
  | zero =>
    intro k m a b h h'
    have h : a = m := h
    subst h
    rw [Nat.zero_add]
    exact h'
  | succ j ih =>
    intro k m a b h h'
    obtain ⟨x, s, t, r, m1, hx, hp, h1⟩ := h
    rw [show j + 1 + k = (j + k) + 1 by omega]
    exact ⟨x, s, t, r, m1, hx, hp, ih h1 h'⟩
theorem Sq.cut : ∀ (j : Nat) {k : Nat} {m a b : MM}, Sq j m a → Sq (j + k) m b → Sq k a b := by
  intro j
  induction j with
  | zero =>
    intro k m a b h h'
    have h : a = m := h
    subst h
    rw [Nat.zero_add] at h'
    exact h'
  | succ j ih =>
    intro k m a b h h'
    obtain ⟨x, s, t, r, m1, hx, hp, h1⟩ := h
    rw [show j + 1 + k = (j + k) + 1 by omega] at h'
    exact ih h1 (Sq.step hx hp h')
/-- the plan's end, or 1000 actions on -/
def End (m : MM) (k : Nat) (m' : MM) (o' : Option (Nat × Nat × Nat)) : Prop := k ≤ 1000 ∧ Sq k m m' ∧ (∀ (q : Nat) (hh : MM), D_X7_next q hh m' = cOf q hh o') ∧ (k < 1000 → o' = none)
theorem End.one {m m1 m2 : MM} {k1 k2 : Nat} {o1 o2 : Option (Nat × Nat × Nat)} (h1 : End m k1 m1 o1) (h2 : End m k2 m2 o2) : k1 = k2 ∧ m1 = m2 := by
  obtain ⟨a1, a2, a3, a4⟩ := h1
  obtain ⟨b1, b2, b3, b4⟩ := h2
  by_cases c : k1 < k2
  · have o := a4 (by omega)
    subst o
    obtain ⟨j, rfl⟩ : ∃ j : Nat, k2 = k1 + (j + 1) := ⟨k2 - k1 - 1, by omega⟩
    exact absurd (Sq.no a3 (Sq.cut k1 a2 b2)) id
  · by_cases c2 : k2 < k1
    · have o := b4 (by omega)
      subst o
      obtain ⟨j, rfl⟩ : ∃ j : Nat, k1 = k2 + (j + 1) := ⟨k1 - k2 - 1, by omega⟩
      exact absurd (Sq.no b3 (Sq.cut k2 b2 a2)) id
    · have e : k1 = k2 := by omega
      subst e
      exact ⟨rfl, Sq.det k1 a2 b2⟩
/-- the predictions' common ground: the machine that they end with tells the same as the plan's -/
theorem fore_e {N : Nat → Nat} (hN : ∀ t : Nat, t < 6 → N t < 1000) {m : MM} {w : Nat → Int32} (hm : R m w) (hI : Inv N 0 w) (h f : MM) {T : Nat} (hT : Rn T (w 23)) : ∃ (f0 : MM) (k : Nat) (m' f' : MM) (w' : Nat → Int32) (h' : MM) (o' : Option (Nat × Nat × Nat)), D_X6_copyFrom f m = some f0 ∧ D_X3_goOn h m f0 = some (h', f') ∧ End m k m' o' ∧ R m' w' ∧ R f' w' ∧ Inv (upk k N) 0 w' ∧ Rn (T + 1199000) (w' 23) ∧ HF h h' ∧ Good w' o' ∧ gi h' 3 3 = I k ∧ gi h' 3 4 = endOf w' o' := by
  obtain ⟨f0, k, m', f', w', h', o', c1, c2, c3, c4, c5, c6, c7, c8, c9, c10, c11, c12, c13, c14⟩ := fore_sq hN hm hI h f hT
  exact ⟨f0, k, m', f', w', h', o', c1, c2, ⟨c3, c4, c11, c12⟩, c5, c6, c7, c8.mono (by omega), c9, c10, c13, c14⟩
/-- whether the plan has ended -/
def fin_ {α : Type} (o : Option (Nat × Nat × Nat)) (x y : α) : α := match o with
  | none => x
  | some _ => y
theorem End.opt {m m1 m2 : MM} {k1 k2 : Nat} {o1 o2 : Option (Nat × Nat × Nat)} (h1 : End m k1 m1 o1) (h2 : End m k2 m2 o2) {α : Type} (x y : α) : fin_ o1 x y = fin_ o2 x y := by
  obtain ⟨e1, e2⟩ := End.one h1 h2
  subst e1
  subst e2
  cases o1 with
  | none =>
    cases o2 with
    | none => rfl
    | some p =>
      obtain ⟨a, s, t⟩ := p
      exact absurd (show (0 : Int32) = 1 from congrArg Prod.fst (Option.some.inj ((h1.2.2.1 1 zM).symm.trans (h2.2.2.1 1 zM)))) (by decide)
  | some p =>
    obtain ⟨a, s, t⟩ := p
    cases o2 with
    | none => exact absurd (show (1 : Int32) = 0 from congrArg Prod.fst (Option.some.inj ((h1.2.2.1 1 zM).symm.trans (h2.2.2.1 1 zM)))) (by decide)
    | some p' => rfl
theorem gl_same {m f : MM} {w : Nat → Int32} (h : R m w) (hf : R f w) : gl f 36 8 = gl m 36 8 := tb_ext (fun k hk => by rw [hf.r0.fl k hk, h.r0.fl k hk])
section
/-- what the predictions answer, by the plan's end -/
theorem f_actions {N : Nat → Nat} (hN : ∀ t : Nat, t < 6 → N t < 1000) {m : MM} {w : Nat → Int32} (hm : R m w) (hI : Inv N 0 w) (h f : MM) {T : Nat} (hT : Rn T (w 23)) (hT2 : T ≤ 400000000) {k : Nat} {m' : MM} {o' : Option (Nat × Nat × Nat)} (he : End m k m' o') : ∃ h' f' : MM, D_X9_actionsToEnd h m f = some (fin_ o' (I k) (-1), h', f') ∧ HF h h' := by
  obtain ⟨f0, k1, m1, f1, w1, h1, o1, c1, c2, c3, c4, c5, c6, c7, c8, c9, c10, c11⟩ := fore_e hN hm hI h f hT
  obtain ⟨e1, e2⟩ := End.one c3 he
  have e3 := End.opt c3 he (I k1) (-1 : Int32)
  subst e1
  refine ⟨h1, f1, ?_, c8⟩
  unfold D_X9_actionsToEnd D_X3_begin
  rw [c1, b1_s, b1_s, c2, b2_s, c11, c10, ← e3]
  cases o1 with
  | none =>
    show (if w1 23 = (-1 : Int32) then _ else _) = some (I k1, h1, f1)
    obtain ⟨u, u1, u2⟩ := c7
    rw [u2, if_neg (I_ne_neg (by omega))]
  | some p =>
    show (if (-1 : Int32) = (-1 : Int32) then _ else _) = some (-1, h1, f1)
    rw [if_pos rfl]
theorem f_time {N : Nat → Nat} (hN : ∀ t : Nat, t < 6 → N t < 1000) {m : MM} {w : Nat → Int32} (hm : R m w) (hI : Inv N 0 w) (h f : MM) {T : Nat} (hT : Rn T (w 23)) {k : Nat} {m' : MM} {o' : Option (Nat × Nat × Nat)} (he : End m k m' o') : ∃ h' f' : MM, D_X9_timeAtEnd h m f = some (fin_ o' (gi m' 24 13) (-1), h', f') ∧ HF h h' := by
  obtain ⟨f0, k1, m1, f1, w1, h1, o1, c1, c2, c3, c4, c5, c6, c7, c8, c9, c10, c11⟩ := fore_e hN hm hI h f hT
  obtain ⟨e1, e2⟩ := End.one c3 he
  have e3 := End.opt c3 he (gi m1 24 13) (-1 : Int32)
  subst e1
  subst e2
  refine ⟨h1, f1, ?_, c8⟩
  unfold D_X9_timeAtEnd D_X3_begin
  rw [c1, b1_s, b1_s, c2, b2_s, c11, ← e3, c4.r0.s23]
  cases o1 <;> rfl
theorem f_filled {N : Nat → Nat} (hN : ∀ t : Nat, t < 6 → N t < 1000) {m : MM} {w : Nat → Int32} (hm : R m w) (hI : Inv N 0 w) (h f : MM) {T : Nat} (hT : Rn T (w 23)) {k : Nat} {m' : MM} {o' : Option (Nat × Nat × Nat)} (he : End m k m' o') : ∃ (v : Int32) (h' f' : MM), D_J13_bitCount_95d88 (gl m' 36 8) = some v ∧ D_X9_filledAtEnd h m f = some (v, h', f') ∧ HF h h' := by
  obtain ⟨f0, k1, m1, f1, w1, h1, o1, c1, c2, c3, c4, c5, c6, c7, c8, c9, c10, c11⟩ := fore_e hN hm hI h f hT
  obtain ⟨e1, e2⟩ := End.one c3 he
  subst e1
  subst e2
  have eb := bitCount_eq (gl m1 36 8)
  refine ⟨_, h1, f1, eb, ?_, c8⟩
  unfold D_X9_filledAtEnd D_X3_begin
  rw [c1, b1_s, b1_s, c2, b2_s, gl_same c4 c5, eb, b1_s]
theorem f_changes {N : Nat → Nat} (hN : ∀ t : Nat, t < 6 → N t < 1000) {m : MM} {w : Nat → Int32} (hm : R m w) (hI : Inv N 0 w) (h f : MM) {T : Nat} (hT : Rn T (w 23)) {k : Nat} {m' : MM} {o' : Option (Nat × Nat × Nat)} (he : End m k m' o') : ∃ h' f' : MM, D_X9_changesAhead h m f = some (gi m' 49 1 - gi m 49 1, h', f') ∧ HF h h' := by
  obtain ⟨f0, k1, m1, f1, w1, h1, o1, c1, c2, c3, c4, c5, c6, c7, c8, c9, c10, c11⟩ := fore_e hN hm hI h f hT
  obtain ⟨e1, e2⟩ := End.one c3 he
  subst e1
  subst e2
  refine ⟨h1, f1, ?_, c8⟩
  unfold D_X9_changesAhead D_X3_begin
  rw [c1, b1_s, b1_s, c2, b2_s, c5.r0.dn 1 (by omega), c4.r0.dn 1 (by omega)]
theorem f_cleans {N : Nat → Nat} (hN : ∀ t : Nat, t < 6 → N t < 1000) {m : MM} {w : Nat → Int32} (hm : R m w) (hI : Inv N 0 w) (h f : MM) {T : Nat} (hT : Rn T (w 23)) {k : Nat} {m' : MM} {o' : Option (Nat × Nat × Nat)} (he : End m k m' o') : ∃ h' f' : MM, D_X9_cleansAhead h m f = some (gi m' 49 6 - gi m 49 6, h', f') ∧ HF h h' := by
  obtain ⟨f0, k1, m1, f1, w1, h1, o1, c1, c2, c3, c4, c5, c6, c7, c8, c9, c10, c11⟩ := fore_e hN hm hI h f hT
  obtain ⟨e1, e2⟩ := End.one c3 he
  subst e1
  subst e2
  refine ⟨h1, f1, ?_, c8⟩
  unfold D_X9_cleansAhead D_X3_begin
  rw [c1, b1_s, b1_s, c2, b2_s, c5.r0.dn 6 (by omega), c4.r0.dn 6 (by omega)]
theorem f_splices {N : Nat → Nat} (hN : ∀ t : Nat, t < 6 → N t < 1000) {m : MM} {w : Nat → Int32} (hm : R m w) (hI : Inv N 0 w) (h f : MM) {T : Nat} (hT : Rn T (w 23)) {k : Nat} {m' : MM} {o' : Option (Nat × Nat × Nat)} (he : End m k m' o') : ∃ h' f' : MM, D_X9_splicesAhead h m f = some (gi m' 45 8 - gi m 45 8, h', f') ∧ HF h h' := by
  obtain ⟨f0, k1, m1, f1, w1, h1, o1, c1, c2, c3, c4, c5, c6, c7, c8, c9, c10, c11⟩ := fore_e hN hm hI h f hT
  obtain ⟨e1, e2⟩ := End.one c3 he
  subst e1
  subst e2
  refine ⟨h1, f1, ?_, c8⟩
  unfold D_X9_splicesAhead D_X3_begin
  rw [c1, b1_s, b1_s, c2, b2_s, c5.r0.s27, c4.r0.s27]
end
