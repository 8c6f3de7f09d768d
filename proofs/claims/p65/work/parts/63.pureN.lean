/-! PURE: what the plan asks -/
theorem leT {a b : Nat} (h : a ≤ b) (hb : b < 2147483648) : I a ≤ I b := (I_le (by omega) hb).mpr h
theorem leF {a b : Nat} (h : b < a) (ha : a < 2147483648) : ¬ I a ≤ I b := fun z => by
  rw [I_le ha (by omega)] at z
  omega
theorem i32_le_nlt {a b : Int32} : a ≤ b ↔ ¬ b < a := by
  rw [Int32.le_iff_toInt_le, Int32.lt_iff_toInt_lt]
  omega
def lp {α : Type} (f : Nat → α → α) : Nat → Nat → α → α
  | 0, _, a => a
  | d + 1, i, a => lp f d (i + 1) (f i a)
theorem lp_inv {α : Type} {f : Nat → α → α} (P : Nat → α → Prop) (n : Nat) (hs : ∀ (i : Nat) (a : α), i < n → P i a → P (i + 1) (f i a)) : ∀ (d i : Nat) (a : α), i + d = n → P i a → P n (lp f d i a) := by
  intro d
  induction d with
  | zero => intro i a hi h; rw [show n = i by omega]; exact h
  | succ d ih => intro i a hi h; exact ih (i + 1) _ (by omega) (hs i a (by omega) h)
theorem cntP_succ (p : Nat → Bool) (n : Nat) : cntP p (n + 1) = cntP p n + (if p n then 1 else 0) := rfl
theorem R0.n15 {m : MM} {w : Nat → Int32} (h : R0 m w) (hv : V w) : gi m 24 1 = I (nS w) := h.c15.trans hv.cnt.1
theorem R0.n16 {m : MM} {w : Nat → Int32} (h : R0 m w) (hv : V w) : gi m 24 3 = I (nT w) := h.c16.trans hv.cnt.2.1
theorem R0.n17 {m : MM} {w : Nat → Int32} (h : R0 m w) (hv : V w) : gi m 28 0 = I (nK w) := h.c17.trans hv.cnt.2.2.1
theorem R0.n18 {m : MM} {w : Nat → Int32} (h : R0 m w) (hv : V w) : gi m 24 6 = I (nF w) := h.c18.trans hv.cnt.2.2.2.1
theorem R0.n19 {m : MM} {w : Nat → Int32} (h : R0 m w) (hv : V w) : gi m 36 0 = I (nP w) := h.c19.trans hv.cnt.2.2.2.2.1
theorem R0.n20 {m : MM} {w : Nat → Int32} (h : R0 m w) (hv : V w) : gi m 36 9 = I (nQ w) := h.c20.trans hv.cnt.2.2.2.2.2.1
-- parts held
def heldP (w : Nat → Int32) (K : Int32) : Nat → Bool := fun s => decide (w (58 + 8 * s + 1) = K)
def heldC (w : Nat → Int32) (K : Int32) : Nat := cntP (heldP w K) (nS w)
theorem held_ml {m : MM} {w : Nat → Int32} (h : R0 m w) (hv : V w) (K : Int32) : ∀ d i n : Nat, i + d = nS w → d < n → D_X6_heldOf_4 m n K (I (cntP (heldP w K) i)) (I i) = some (I (heldC w K)) := by
  obtain ⟨v1, -⟩ := h.vc
  intro d
  induction d with
  | zero =>
    intro i n hi hn
    obtain ⟨n, rfl⟩ : ∃ n' : Nat, n = n' + 1 := ⟨n - 1, by omega⟩
    have hi : i = nS w := by omega
    subst hi
    unfold D_X6_heldOf_4
    rw [h.n15 hv, if_pos (leT (Nat.le_refl _) (by omega))]
    rfl
  | succ d ih =>
    intro i n hi hn
    obtain ⟨n, rfl⟩ : ∃ n' : Nat, n = n' + 1 := ⟨n - 1, by omega⟩
    have e1 : gi m i 1 = w (58 + 8 * i + 1) := h.sp i 1 (by omega) (by decide)
    have k := ih (i + 1) n (by omega) (by omega)
    rw [cntP_succ] at k
    unfold D_X6_heldOf_4
    rw [h.n15 hv, if_neg (leF (by omega) (by omega)), gdI (by omega) (by omega), I_tnc (by omega), e1]
    by_cases c : w (58 + 8 * i + 1) = K
    · rw [if_pos c, bnd_s, bnd_s, ixs1, ixs1]
      have : heldP w K i = true := by unfold heldP; rw [decide_eq_true c]
      rw [this] at k
      exact k
    · rw [if_neg c, bnd_s, ixs1]
      have : heldP w K i = false := by unfold heldP; rw [decide_eq_false c]
      rw [this] at k
      exact k
theorem held_m {m : MM} {w : Nat → Int32} (h : R0 m w) (hv : V w) (K : Int32) : D_X6_heldOf K m = some (I (heldC w K)) := held_ml h hv K (nS w) 0 FU (by omega) (by have := h.vc.1; show nS w < 5000; omega)
theorem held_xl (x : MM) {w : Nat → Int32} (hv : V w) (h4 : nS w ≤ 4) (K : Int32) : ∀ d i n : Nat, i + d = nS w → d < n → D_X10_held_4 (pw x w) n K (I (cntP (heldP w K) i)) (I i) = some (I (heldC w K)) := by
  intro d
  induction d with
  | zero =>
    intro i n hi hn
    obtain ⟨n, rfl⟩ : ∃ n' : Nat, n = n' + 1 := ⟨n - 1, by omega⟩
    have hi : i = nS w := by omega
    subst hi
    unfold D_X10_held_4
    rw [giP, hv.cnt.1, if_pos (leT (Nat.le_refl _) (by omega))]
    rfl
  | succ d ih =>
    intro i n hi hn
    obtain ⟨n, rfl⟩ : ∃ n' : Nat, n = n' + 1 := ⟨n - 1, by omega⟩
    have k := ih (i + 1) n (by omega) (by omega)
    rw [cntP_succ] at k
    unfold D_X10_held_4
    rw [giP, hv.cnt.1, if_neg (leF (by omega) (by omega)), oSp1P (by omega), b1_s]
    by_cases c : w (58 + 8 * i + 1) = K
    · rw [if_pos c, bnd_s, bnd_s, ixs1, ixs1]
      have : heldP w K i = true := by unfold heldP; rw [decide_eq_true c]
      rw [this] at k
      exact k
    · rw [if_neg c, bnd_s, bnd_s, ixs1, Int32.add_zero]
      have : heldP w K i = false := by unfold heldP; rw [decide_eq_false c]
      rw [this] at k
      exact k
theorem held_x (x : MM) {w : Nat → Int32} (hv : V w) (h4 : nS w ≤ 4) (K : Int32) : D_X10_held K (pw x w) = some (I (heldC w K)) := held_xl x hv h4 K (nS w) 0 FU (by omega) (by show nS w < 5000; omega)
-- the nearest feeder
def far (w : Nat → Int32) (f : Nat) : Int32 := if 0 ≤ (w (130 + 11 * f + 1) - w 21) then (w (130 + 11 * f + 1) - w 21) else 0 - (w (130 + 11 * f + 1) - w 21)
def nearF (w : Nat → Int32) (K : Int32) (f : Nat) (a : Int32 × Int32) : Int32 × Int32 := if w (130 + 11 * f) = K ∧ w (130 + 11 * f + 2) ≠ 0 then (if a.1 = -1 then (I f, far w f) else if far w f < a.2 then (I f, far w f) else a) else a
theorem nearF_no {w : Nat → Int32} {K : Int32} {f : Nat} {a : Int32 × Int32} (h : ¬ (w (130 + 11 * f) = K ∧ w (130 + 11 * f + 2) ≠ 0)) : nearF w K f a = a := if_neg h
theorem nearF_1 {w : Nat → Int32} {K : Int32} {f : Nat} {a : Int32 × Int32} (h : w (130 + 11 * f) = K ∧ w (130 + 11 * f + 2) ≠ 0) (h2 : a.1 = -1) : nearF w K f a = (I f, far w f) := by
  unfold nearF
  rw [if_pos h, if_pos h2]
theorem nearF_2 {w : Nat → Int32} {K : Int32} {f : Nat} {a : Int32 × Int32} (h : w (130 + 11 * f) = K ∧ w (130 + 11 * f + 2) ≠ 0) (h3 : far w f < a.2) : nearF w K f a = (I f, far w f) := by
  unfold nearF
  rw [if_pos h]
  by_cases h2 : a.1 = -1
  · rw [if_pos h2]
  · rw [if_neg h2, if_pos h3]
theorem nearF_3 {w : Nat → Int32} {K : Int32} {f : Nat} {a : Int32 × Int32} (h : w (130 + 11 * f) = K ∧ w (130 + 11 * f + 2) ≠ 0) (h2 : a.1 ≠ -1) (h3 : ¬ far w f < a.2) : nearF w K f a = a := by
  unfold nearF
  rw [if_pos h, if_neg h2, if_neg h3]
def near (w : Nat → Int32) (K : Int32) : Int32 := (lp (nearF w K) (nF w) 0 (-1, 0)).1
theorem I_le0 {p : Nat} (h : p < 2147483648) : I p ≤ (0 : Int32) ↔ I p = 0 := by
  rw [I_ne0 h]
  constructor
  · intro z
    have z2 : I p ≤ I 0 := z
    rw [I_le h (by decide)] at z2
    omega
  · intro z
    subst z
    decide
theorem near_ml {m : MM} {w : Nat → Int32} (h : R0 m w) (hv : V w) (K : Int32) : ∀ (d i n : Nat) (b l : Int32), i + d = nF w → d < n → D_X6_nearestWith_7 m n K b l (I i) = some (lp (nearF w K) d i (b, l)).1 := by
  obtain ⟨v1, v2, v3, v4, -⟩ := h.vc
  intro d
  induction d with
  | zero =>
    intro i n b l hi hn
    obtain ⟨n, rfl⟩ : ∃ n' : Nat, n = n' + 1 := ⟨n - 1, by omega⟩
    have hi : i = nF w := by omega
    subst hi
    unfold D_X6_nearestWith_7
    rw [h.n18 hv, if_pos (leT (Nat.le_refl _) (by omega))]
    rfl
  | succ d ih =>
    intro i n b l hi hn
    obtain ⟨n, rfl⟩ : ∃ n' : Nat, n = n' + 1 := ⟨n - 1, by omega⟩
    obtain ⟨p, hp, e2⟩ := (hv.fd i (by omega)).2.1
    have e2 : w (130 + 11 * i + 2) = I p := e2
    have ef : (if 0 ≤ (gi m (4 + i) 1 - gi m 24 11) then (gi m (4 + i) 1 - gi m 24 11) else 0 - (gi m (4 + i) 1 - gi m 24 11)) = far w i := by
      rw [h.fd1 (by omega), h.s21]
      rfl
    unfold D_X6_nearestWith_7
    rw [h.n18 hv, if_neg (leF (by omega) (by omega)), gdI (by omega) (by omega), gdI (by omega) (by omega), gdI (by omega) (by omega), I_tnc (by omega), ef, h.fd0 (by omega), h.fd2 (by omega)]
    simp only [bnd_s, ixs1]
    show _ = some (lp (nearF w K) d (i + 1) (nearF w K i (b, l))).1
    by_cases c1 : w (130 + 11 * i) = K
    · rw [if_pos c1]
      by_cases c2 : w (130 + 11 * i + 2) = 0
      · rw [if_pos (by rw [e2] at c2 ⊢; exact (I_le0 (by omega)).mpr c2), nearF_no (fun z => z.2 c2)]
        exact ih (i + 1) n b l (by omega) (by omega)
      · rw [if_neg (by rw [e2] at c2 ⊢; exact fun z => c2 ((I_le0 (by omega)).mp z))]
        by_cases c3 : b = -1
        · rw [if_pos c3, nearF_1 ⟨c1, c2⟩ c3]
          exact ih (i + 1) n _ _ (by omega) (by omega)
        · rw [if_neg c3]
          by_cases c4 : far w i < l
          · rw [if_neg (fun z => i32_le_nlt.mp z c4), nearF_2 ⟨c1, c2⟩ c4]
            exact ih (i + 1) n _ _ (by omega) (by omega)
          · rw [if_pos (i32_le_nlt.mpr c4), nearF_3 ⟨c1, c2⟩ c3 c4]
            exact ih (i + 1) n _ _ (by omega) (by omega)
    · rw [if_neg c1, nearF_no (fun z => c1 z.1)]
      exact ih (i + 1) n b l (by omega) (by omega)
theorem near_m {m : MM} {w : Nat → Int32} (h : R0 m w) (hv : V w) (K : Int32) : D_X6_nearestWith K m = some (near w K) := near_ml h hv K (nF w) 0 FU (-1) 0 (by omega) (by have := h.vc.2.2.2.1; show nF w < 5000; omega)
theorem near_xl (x : MM) {w : Nat → Int32} (hv : V w) (h10 : nF w ≤ 10) (K : Int32) : ∀ (d i n : Nat) (b l : Int32), i + d = nF w → d < n → D_X10_nearest_7 (pw x w) n K b l (I i) = some (lp (nearF w K) d i (b, l)).1 := by
  intro d
  induction d with
  | zero =>
    intro i n b l hi hn
    obtain ⟨n, rfl⟩ : ∃ n' : Nat, n = n' + 1 := ⟨n - 1, by omega⟩
    have hi : i = nF w := by omega
    subst hi
    unfold D_X10_nearest_7
    rw [giP, hv.cnt.2.2.2.1, if_pos (leT (Nat.le_refl _) (by omega))]
    rfl
  | succ d ih =>
    intro i n b l hi hn
    obtain ⟨n, rfl⟩ : ∃ n' : Nat, n = n' + 1 := ⟨n - 1, by omega⟩
    have ef : (if 0 ≤ (w (130 + 11 * i + 1) - w 21) then (w (130 + 11 * i + 1) - w 21) else 0 - (w (130 + 11 * i + 1) - w 21)) = far w i := rfl
    unfold D_X10_nearest_7
    rw [giP, hv.cnt.2.2.2.1, if_neg (leF (by omega) (by omega)), oFd1P (by omega), b1_s, giP, ef, oFd0P (by omega), oFd2P (by omega)]
    simp only [bnd_s, b1_s, ixs1]
    show _ = some (lp (nearF w K) d (i + 1) (nearF w K i (b, l))).1
    by_cases c1 : w (130 + 11 * i) = K
    · rw [if_pos c1]
      by_cases c2 : w (130 + 11 * i + 2) = 0
      · rw [if_pos c2, nearF_no (fun z => z.2 c2)]
        exact ih (i + 1) n b l (by omega) (by omega)
      · rw [if_neg c2]
        by_cases c3 : b = -1
        · rw [if_pos c3, nearF_1 ⟨c1, c2⟩ c3]
          exact ih (i + 1) n _ _ (by omega) (by omega)
        · rw [if_neg c3]
          by_cases c4 : far w i < l
          · rw [if_pos c4, nearF_2 ⟨c1, c2⟩ c4]
            exact ih (i + 1) n _ _ (by omega) (by omega)
          · rw [if_neg c4, nearF_3 ⟨c1, c2⟩ c3 c4]
            exact ih (i + 1) n _ _ (by omega) (by omega)
    · rw [if_neg c1, nearF_no (fun z => c1 z.1)]
      exact ih (i + 1) n b l (by omega) (by omega)
theorem near_x (x : MM) {w : Nat → Int32} (hv : V w) (h10 : nF w ≤ 10) (K : Int32) : D_X10_nearest K (pw x w) = some (near w K) := near_xl x hv h10 K (nF w) 0 FU (-1) 0 (by omega) (by show nF w < 5000; omega)
/-- a feeder of the kind with parts in its reel -/
abbrev Has (w : Nat → Int32) (K : Int32) (n : Nat) : Prop := ∃ f : Nat, f < n ∧ w (130 + 11 * f) = K ∧ w (130 + 11 * f + 2) ≠ 0
theorem near_c {w : Nat → Int32} (h10 : nF w ≤ 10) (K : Int32) : (near w K = -1 ∧ ¬ Has w K (nF w)) ∨ ∃ f : Nat, f < nF w ∧ near w K = I f ∧ w (130 + 11 * f) = K ∧ w (130 + 11 * f + 2) ≠ 0 := by
  refine lp_inv (f := nearF w K) (fun n a => (a.1 = -1 ∧ ¬ Has w K n) ∨ ∃ f : Nat, f < n ∧ a.1 = I f ∧ w (130 + 11 * f) = K ∧ w (130 + 11 * f + 2) ≠ 0) (nF w) (fun i a hi P => ?_) (nF w) 0 (-1, 0) (by omega) (Or.inl ⟨rfl, fun ⟨f, hf, _⟩ => by omega⟩)
  by_cases c : w (130 + 11 * i) = K ∧ w (130 + 11 * i + 2) ≠ 0
  · have e : nearF w K i a = (I i, far w i) ∨ (nearF w K i a = a ∧ a.1 ≠ -1) := by
      unfold nearF
      rw [if_pos c]
      by_cases c3 : a.1 = -1
      · rw [if_pos c3]; exact Or.inl rfl
      · rw [if_neg c3]
        by_cases c4 : far w i < a.2
        · rw [if_pos c4]; exact Or.inl rfl
        · rw [if_neg c4]; exact Or.inr ⟨rfl, c3⟩
    rcases e with e | ⟨e, e3⟩
    · rw [e]
      exact Or.inr ⟨i, by omega, rfl, c.1, c.2⟩
    · rw [e]
      rcases P with P | ⟨f, hf, P⟩
      · exact absurd P.1 e3
      · exact Or.inr ⟨f, by omega, P⟩
  · have e : nearF w K i a = a := if_neg c
    rw [e]
    rcases P with P | ⟨f, hf, P⟩
    · refine Or.inl ⟨P.1, fun ⟨f, hf, q⟩ => ?_⟩
      by_cases hfi : f = i
      · subst hfi; exact c q
      · exact P.2 ⟨f, by omega, q⟩
    · exact Or.inr ⟨f, by omega, P⟩
