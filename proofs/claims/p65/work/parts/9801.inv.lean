/-! PROPERTY: what stays true of every row: times, counts, nozzles, the ledger, spots -/
def nzC (w : Nat → Int32) (t n : Nat) : Nat := cntP (fun s => decide (w (58 + 8 * s) = I t)) n
def chS (w : Nat → Int32) : Nat → Int32
  | 0 => 0
  | s + 1 => chS w s + w (58 + 8 * s + 5)
theorem chS_cg {w w' : Nat → Int32} : ∀ n : Nat, (∀ s : Nat, s < n → w' (58 + 8 * s + 5) = w (58 + 8 * s + 5)) → chS w' n = chS w n := by
  intro n
  induction n with
  | zero => intro _; rfl
  | succ n ih =>
    intro h
    show chS w' n + w' (58 + 8 * n + 5) = chS w n + w (58 + 8 * n + 5)
    rw [ih (fun s hs => h s (by omega)), h n (by omega)]
theorem chS_up {w w' : Nat → Int32} {s : Nat} {d : Int32} (e : w' (58 + 8 * s + 5) = w (58 + 8 * s + 5) + d) : ∀ n : Nat, (∀ i : Nat, i < n → i ≠ s → w' (58 + 8 * i + 5) = w (58 + 8 * i + 5)) → s < n → chS w' n = chS w n + d := by
  intro n
  induction n with
  | zero => intro _ h; omega
  | succ n ih =>
    intro o h
    show chS w' n + w' (58 + 8 * n + 5) = (chS w n + w (58 + 8 * n + 5)) + d
    by_cases c : s = n
    · subst c
      rw [chS_cg s (fun i hi => o i (by omega) (by omega)), e, Int32.add_assoc]
    · rw [ih (fun i h1 h2 => o i (by omega) h2) (by omega), o n (by omega) (by omega), Int32.add_assoc, Int32.add_assoc, Int32.add_comm d]
theorem cntP_one {p q : Nat → Bool} {s : Nat} : ∀ n : Nat, (∀ i : Nat, i < n → i ≠ s → q i = p i) → s < n → cntP q n + (if p s then 1 else 0) = cntP p n + (if q s then 1 else 0) := by
  intro n
  induction n with
  | zero => intro _ h; omega
  | succ n ih =>
    intro o h
    rw [cntP_succ, cntP_succ]
    by_cases c : s = n
    · subst c
      rw [cntP_congr (fun k hk => o k (by omega) (by omega))]
      omega
    · have := ih (fun i h1 h2 => o i (by omega) h2) (by omega)
      rw [o n (by omega) (by omega)]
      omega
/-- times add up; the log counts; nozzles; changes (e: those that are not counted yet); nozzles fit; the ledger; spots -/
def Inv (N : Nat → Nat) (e : Int32) (w : Nat → Int32) : Prop :=
  (w 38 + w 39 + w 40 + w 41 + w 42 + w 43 = w 23) ∧
  (∃ D : Nat → Nat, (∀ a : Nat, 1 ≤ a → a < 7 → w (30 + a) = I (D a)) ∧ nL w = min 40 (D 1 + D 2 + D 3 + D 4 + D 5 + D 6) ∧ D 1 + D 2 + D 3 + D 4 + D 5 + D 6 ≤ N 6) ∧
  (∀ t : Nat, t < nT w → ∃ f : Nat, f ≤ N t ∧ w (44 + t) = I f ∧ f + nzC w t (nS w) = N t) ∧
  (chS w (nS w) = w 31 + e) ∧
  (∀ s : Nat, s < nS w → ∀ K : Nat, K < nK w → w (58 + 8 * s + 1) = I K → w (58 + 8 * s) = w (50 + K)) ∧
  (∀ K : Nat, K < nK w → bal w K) ∧
  (∃ U : Nat, (w 23 = I U ∧ U ≤ N 6) ∧ ∀ k : Nat, k < nP w → w (240 + 6 * k + 3) = 1 → (∃ s : Nat, s < 4 ∧ w (240 + 6 * k + 5) = I s) ∧ ∃ T : Nat, w (240 + 6 * k + 4) = I T ∧ T ≤ U)
def up1 (N : Nat → Nat) : Nat → Nat := fun t => if t = 6 then N 6 + 1200 else N t
def upk (k : Nat) (N : Nat → Nat) : Nat → Nat := fun t => if t = 6 then N 6 + 2400 * k else N t
theorem up1_lo {N : Nat → Nat} {t : Nat} (h : t < 6) : up1 N t = N t := if_neg (by omega)
theorem upk_lo {N : Nat → Nat} {k t : Nat} (h : t < 6) : upk k N t = N t := if_neg (by omega)
theorem up1_6 (N : Nat → Nat) : up1 N 6 = N 6 + 1200 := if_pos rfl
theorem upk_6 (k : Nat) (N : Nat → Nat) : upk k N 6 = N 6 + 2400 * k := if_pos rfl
theorem upk_upk (j k : Nat) (N : Nat → Nat) : upk j (upk k N) = upk (k + j) N := funext fun t => by
  by_cases h : t = 6
  · subst h
    rw [upk_6, upk_6, upk_6]
    omega
  · unfold upk
    rw [if_neg h, if_neg h, if_neg h]
theorem upk_0 (N : Nat → Nat) : upk 0 N = N := funext fun t => by
  by_cases h : t = 6
  · subst h
    rw [upk_6]
    omega
  · exact if_neg h
theorem Inv.ge {N N' : Nat → Nat} {e : Int32} {w : Nat → Int32} (h : Inv N e w) (h6 : nT w ≤ 6) (lo : ∀ t : Nat, t < 6 → N' t = N t) (hi : N 6 ≤ N' 6) : Inv N' e w := by
  obtain ⟨i1, ⟨D, i2, i3, i3'⟩, i4, i5, i6, i7, U, ⟨i8, i8'⟩, i9⟩ := h
  refine ⟨i1, ⟨D, i2, i3, by omega⟩, fun t ht => ?_, i5, i6, i7, U, ⟨i8, by omega⟩, i9⟩
  rw [lo t (by omega)]
  exact i4 t ht
theorem Inv.go1 {N : Nat → Nat} {e : Int32} {w : Nat → Int32} (h : Inv N e w) (h6 : nT w ≤ 6) : Inv (up1 N) e w := h.ge h6 (fun _ ht => up1_lo ht) (by rw [up1_6]; omega)
theorem Inv.gok {N : Nat → Nat} {e : Int32} {w : Nat → Int32} (h : Inv N e w) (h6 : nT w ≤ 6) (k : Nat) : Inv (upk k N) e w := h.ge h6 (fun _ ht => upk_lo ht) (by rw [upk_6]; omega)
theorem Inv.gok_le {N : Nat → Nat} {e : Int32} {w : Nat → Int32} {j k : Nat} (h : Inv (upk j N) e w) (h6 : nT w ≤ 6) (hjk : j ≤ k) : Inv (upk k N) e w := h.ge h6 (fun _ ht => (upk_lo ht).trans (upk_lo ht).symm) (by rw [upk_6, upk_6]; omega)
theorem tol_cg {w w' : Nat → Int32} {K : Nat} (h0 : ∀ c : Nat, c < 5 → w' (90 + 5 * K + c) = w (90 + 5 * K + c)) (h1 : inR w' (I K) (nF w') = inR w (I K) (nF w)) (h2 : heldC w' (I K) = heldC w (I K)) : bal w K → bal w' K := by
  have e : ∀ j : Nat, j < 7 → tol w' K j = tol w K j := fun j hj => by
    have : j = 0 ∨ j = 1 ∨ j = 2 ∨ j = 3 ∨ j = 4 ∨ j = 5 ∨ j = 6 := by omega
    rcases this with rfl | rfl | rfl | rfl | rfl | rfl | rfl
    · exact h0 0 (by omega)
    · show I (inR w' (I K) (nF w')) = I (inR w (I K) (nF w))
      rw [h1]
    · show I (heldC w' (I K)) = I (heldC w (I K))
      rw [h2]
    · exact h0 1 (by omega)
    · exact h0 2 (by omega)
    · exact h0 3 (by omega)
    · exact h0 4 (by omega)
  intro hb
  show sT w' K 6 = tol w' K 0
  have s6 : ∀ j : Nat, j ≤ 6 → sT w' K j = sT w K j := by
    intro j
    induction j with
    | zero => intro _; rfl
    | succ j ih =>
      intro hj
      show sT w' K j + tol w' K (j + 1) = sT w K j + tol w K (j + 1)
      rw [ih (by omega), e (j + 1) (by omega)]
  rw [s6 6 (by omega), e 0 (by omega)]
  exact hb
theorem inR_cg {w w' : Nat → Int32} {K : Int32} : ∀ n : Nat, (∀ f j : Nat, f < n → (j = 0 ∨ j = 2 ∨ j = 4 ∨ 8 ≤ j ∧ j < 11) → Fb w' f j = Fb w f j) → (∀ f : Nat, f < n → wt w f ≤ 3) → inR w' K n = inR w K n := by
  intro n
  induction n with
  | zero => intro _ _; rfl
  | succ n ih =>
    intro h h3
    have ew : wt w' n = wt w n := by rw [wtb, wtb, h n 4 (by omega) (by omega)]
    have er : ∀ k : Nat, k ≤ 3 → rS w' n k = rS w n k := by
      intro k
      induction k with
      | zero =>
        intro _
        show (Fb w' n 2).toNatClampNeg = (Fb w n 2).toNatClampNeg
        rw [h n 2 (by omega) (by omega)]
      | succ k ihk =>
        intro hk
        show rS w' n k + (Fb w' n (8 + k)).toNatClampNeg = rS w n k + (Fb w n (8 + k)).toNatClampNeg
        rw [ihk (by omega), h n (8 + k) (by omega) (by omega)]
    have ef : fsum w' n = fsum w n := by
      unfold fsum
      rw [ew, er (wt w n) (h3 n (by omega))]
    have e0 : w' (130 + 11 * n) = w (130 + 11 * n) := h n 0 (by omega) (by omega)
    show inR w' K n + (if w' (130 + 11 * n) = K then fsum w' n else 0) = inR w K n + (if w (130 + 11 * n) = K then fsum w n else 0)
    rw [ih (fun f j hf hj => h f j (by omega) hj) (fun f hf => h3 f (by omega)), ef, e0]
/-- a row that differs in places of no weight -/
theorem Inv.fr {N : Nat → Nat} {e : Int32} {w w' : Nat → Int32} (h : Inv N e w) (h4 : nS w ≤ 4) (h8 : nK w ≤ 8) (h10 : nF w ≤ 10) (h40 : nP w ≤ 40) (h6 : nT w ≤ 6) (h3 : ∀ f : Nat, f < nF w → wt w f ≤ 3) (c : ∀ i : Nat, 15 ≤ i ∧ i ≤ 20 ∨ i = 23 ∨ i = 28 ∨ 31 ≤ i ∧ i < 58 ∨ 90 ≤ i ∧ i < 130 → w' i = w i) (sp : ∀ s j : Nat, s < 4 → (j = 0 ∨ j = 1 ∨ j = 5) → w' (58 + 8 * s + j) = w (58 + 8 * s + j)) (fd : ∀ f j : Nat, f < 10 → (j = 0 ∨ j = 2 ∨ j = 4 ∨ 8 ≤ j ∧ j < 11) → w' (130 + 11 * f + j) = w (130 + 11 * f + j)) (st : ∀ k j : Nat, k < 40 → (j = 3 ∨ j = 4 ∨ j = 5) → w' (240 + 6 * k + j) = w (240 + 6 * k + j)) : Inv N e w' := by
  obtain ⟨i1, ⟨D, i2, i3⟩, i4, i5, i6, i7, U, i8, i9⟩ := h
  have eS := nS_e (c 15 (by omega))
  have eT := nT_e (c 16 (by omega))
  have eK := nK_e (c 17 (by omega))
  have eF := nF_e (c 18 (by omega))
  have eP := nP_e (c 19 (by omega))
  have eL := nL_e (c 28 (by omega))
  refine ⟨?_, ⟨D, fun a h1 h2 => by rw [c _ (by omega)]; exact i2 a h1 h2, by rw [eL]; exact i3⟩, fun t ht => ?_, ?_, fun s hs K hK h1 => ?_, fun K hK => ?_, U, by rw [c 23 (by omega)]; exact i8, fun k hk h1 => ?_⟩
  · rw [c 38 (by omega), c 39 (by omega), c 40 (by omega), c 41 (by omega), c 42 (by omega), c 43 (by omega), c 23 (by omega)]
    exact i1
  · rw [eT] at ht
    obtain ⟨f, f1, f2, f3⟩ := i4 t ht
    refine ⟨f, f1, by rw [c _ (by omega)]; exact f2, ?_⟩
    rw [eS]
    have : nzC w' t (nS w) = nzC w t (nS w) := cntP_congr (fun s hs => by
      show decide (w' (58 + 8 * s) = I t) = decide (w (58 + 8 * s) = I t)
      rw [show w' (58 + 8 * s) = w (58 + 8 * s) from sp s 0 (by omega) (by omega)])
    rw [this]
    exact f3
  · rw [eS, chS_cg (nS w) (fun s hs => sp s 5 (by omega) (by omega)), c 31 (by omega)]
    exact i5
  · rw [eS] at hs
    rw [eK] at hK
    rw [sp s 1 (by omega) (by omega)] at h1
    rw [show w' (58 + 8 * s) = w (58 + 8 * s) from sp s 0 (by omega) (by omega), c _ (by omega)]
    exact i6 s hs K hK h1
  · rw [eK] at hK
    refine tol_cg (fun j hj => c _ (by omega)) ?_ ?_ (i7 K hK)
    · rw [eF]
      exact inR_cg (nF w) (fun f j hf hj => fd f j (by omega) hj) h3
    · unfold heldC
      rw [eS]
      exact cntP_congr (fun s hs => by
        show decide (w' (58 + 8 * s + 1) = I K) = decide (w (58 + 8 * s + 1) = I K)
        rw [sp s 1 (by omega) (by omega)])
  · rw [eP] at hk
    rw [st k 3 (by omega) (by omega)] at h1
    rw [st k 5 (by omega) (by omega), st k 4 (by omega) (by omega)]
    exact i9 k hk h1
/-- an action is noted -/
theorem inv_note {N N' : Nat → Nat} (Nlo : ∀ t : Nat, t < 6 → N' t = N t) (Nhi : N 6 + 1 ≤ N' 6) {w : Nat → Int32} {a : Nat} (ha : 1 ≤ a ∧ a < 7) (h : Inv N (if a = 1 then 1 else 0) w) (hc : w 28 = I (nL w)) (h4 : nS w ≤ 4) (h8 : nK w ≤ 8) (h10 : nF w ≤ 10) (h40 : nP w ≤ 40) (h6 : nT w ≤ 6) (hL : nL w ≤ 40) (h3 : ∀ f : Nat, f < nF w → wt w f ≤ 3) (c r : Int32) : Inv N' 0 (noteW (upd w (30 + a) (w (30 + a) + 1)) c r) := by
  have eL : nL (upd w (30 + a) (w (30 + a) + 1)) = nL w := nL_e (upd_ne (by omega))
  have e28 : upd w (30 + a) (w (30 + a) + 1) 28 = I (nL (upd w (30 + a) (w (30 + a) + 1))) := by rw [upd_ne (by omega), eL]; exact hc
  have lo : ∀ i : Nat, i ≠ 28 → i ≠ 30 + a → (i < 480 ∨ 600 ≤ i) → noteW (upd w (30 + a) (w (30 + a) + 1)) c r i = w i := fun i z1 z2 z3 => by rw [noteW_lo z1 z3 (by rw [eL]; exact hL), upd_ne z2]
  have la : noteW (upd w (30 + a) (w (30 + a) + 1)) c r (30 + a) = w (30 + a) + 1 := by rw [noteW_lo (by omega) (by omega) (by rw [eL]; exact hL), upd_eq]
  have l28 := nL_noteW (c := c) (r := r) e28 (by rw [eL]; exact hL)
  rw [eL] at l28
  generalize noteW (upd w (30 + a) (w (30 + a) + 1)) c r = w' at lo la l28
  obtain ⟨i1, ⟨D, i2, i3, i3'⟩, i4, i5, i6, i7, U, ⟨i8, i8'⟩, i9⟩ := h
  have eS := nS_e (lo 15 (by omega) (by omega) (by omega))
  have eT := nT_e (lo 16 (by omega) (by omega) (by omega))
  have eK := nK_e (lo 17 (by omega) (by omega) (by omega))
  have eF := nF_e (lo 18 (by omega) (by omega) (by omega))
  have eP := nP_e (lo 19 (by omega) (by omega) (by omega))
  refine ⟨?_, ⟨fun b => if b = a then D a + 1 else D b, fun b h1 h2 => ?_, ?_⟩, fun t ht => ?_, ?_, fun s hs K hK h1 => ?_, fun K hK => ?_, U, by rw [lo 23 (by omega) (by omega) (by omega)]; exact ⟨i8, by omega⟩, fun k hk h1 => ?_⟩
  · rw [lo 38 (by omega) (by omega) (by omega), lo 39 (by omega) (by omega) (by omega), lo 40 (by omega) (by omega) (by omega), lo 41 (by omega) (by omega) (by omega), lo 42 (by omega) (by omega) (by omega), lo 43 (by omega) (by omega) (by omega), lo 23 (by omega) (by omega) (by omega)]
    exact i1
  · by_cases e : b = a
    · subst e
      rw [la, i2 b h1 h2]
      show I (D b) + 1 = I (if b = b then D b + 1 else D b)
      rw [if_pos rfl, ixs1]
    · rw [lo _ (by omega) (by omega) (by omega)]
      show w (30 + b) = I (if b = a then D a + 1 else D b)
      rw [if_neg e]
      exact i2 b h1 h2
  · have hs : (if 1 = a then D a + 1 else D 1) + (if 2 = a then D a + 1 else D 2) + (if 3 = a then D a + 1 else D 3) + (if 4 = a then D a + 1 else D 4) + (if 5 = a then D a + 1 else D 5) + (if 6 = a then D a + 1 else D 6) = D 1 + D 2 + D 3 + D 4 + D 5 + D 6 + 1 := by
      have : a = 1 ∨ a = 2 ∨ a = 3 ∨ a = 4 ∨ a = 5 ∨ a = 6 := by omega
      rcases this with rfl | rfl | rfl | rfl | rfl | rfl <;> simp <;> omega
    refine ⟨Eq.trans ?_ (congrArg (min 40) hs.symm), le_of_eq_of_le hs (by omega)⟩
    rw [l28, i3]
    split <;> omega
  · rw [eT] at ht
    obtain ⟨f, f1, f2, f3⟩ := i4 t ht
    rw [Nlo t (by omega)]
    refine ⟨f, f1, by rw [lo _ (by omega) (by omega) (by omega)]; exact f2, ?_⟩
    rw [eS]
    have : nzC w' t (nS w) = nzC w t (nS w) := cntP_congr (fun s hs => by
      show decide (w' (58 + 8 * s) = I t) = decide (w (58 + 8 * s) = I t)
      rw [lo _ (by omega) (by omega) (by omega)])
    rw [this]
    exact f3
  · rw [eS, chS_cg (nS w) (fun s hs => lo _ (by omega) (by omega) (by omega)), i5]
    by_cases e : a = 1
    · subst e
      rw [la, if_pos rfl, Int32.add_zero]
    · rw [if_neg e, lo 31 (by omega) (by omega) (by omega)]
  · rw [eS] at hs
    rw [eK] at hK
    rw [lo _ (by omega) (by omega) (by omega)] at h1
    rw [lo _ (by omega) (by omega) (by omega), lo _ (by omega) (by omega) (by omega)]
    exact i6 s hs K hK h1
  · rw [eK] at hK
    refine tol_cg (fun j hj => lo _ (by omega) (by omega) (by omega)) ?_ ?_ (i7 K hK)
    · rw [eF]
      exact inR_cg (nF w) (fun f j hf hj => lo _ (by omega) (by omega) (by omega)) h3
    · unfold heldC
      rw [eS]
      exact cntP_congr (fun s hs => by
        show decide (w' (58 + 8 * s + 1) = I K) = decide (w (58 + 8 * s + 1) = I K)
        rw [lo _ (by omega) (by omega) (by omega)])
  · rw [eP] at hk
    rw [lo _ (by omega) (by omega) (by omega)] at h1
    rw [lo _ (by omega) (by omega) (by omega), lo _ (by omega) (by omega) (by omega)]
    exact i9 k hk h1
/-- the time goes on by d, with action a -/
theorem inv_time {N N' : Nat → Nat} (Nlo : ∀ t : Nat, t < 6 → N' t = N t) {e : Int32} {w w' : Nat → Int32} {a : Nat} (ha : 1 ≤ a ∧ a < 7) (h : Inv N e w) (h4 : nS w ≤ 4) (h8 : nK w ≤ 8) (h10 : nF w ≤ 10) (h40 : nP w ≤ 40) (h6 : nT w ≤ 6) (h3 : ∀ f : Nat, f < nF w → wt w f ≤ 3) {d : Nat} (Nhi : N 6 + d ≤ N' 6) (e23 : w' 23 = w 23 + I d) (e37 : w' (37 + a) = w (37 + a) + I d) (o : ∀ i : Nat, i ≠ 21 → i ≠ 22 → i ≠ 23 → i ≠ 37 + a → w' i = w i) : Inv N' e w' := by
  obtain ⟨i1, ⟨D, i2, i3, i3'⟩, i4, i5, i6, i7, U, ⟨i8, i8'⟩, i9⟩ := h
  have eS := nS_e (o 15 (by omega) (by omega) (by omega) (by omega))
  have eT := nT_e (o 16 (by omega) (by omega) (by omega) (by omega))
  have eK := nK_e (o 17 (by omega) (by omega) (by omega) (by omega))
  have eF := nF_e (o 18 (by omega) (by omega) (by omega) (by omega))
  have eP := nP_e (o 19 (by omega) (by omega) (by omega) (by omega))
  have eL := nL_e (o 28 (by omega) (by omega) (by omega) (by omega))
  refine ⟨?_, ⟨D, fun b h1 h2 => by rw [o _ (by omega) (by omega) (by omega) (by omega)]; exact i2 b h1 h2, by rw [eL]; exact ⟨i3, by omega⟩⟩, fun t ht => ?_, ?_, fun s hs K hK h1 => ?_, fun K hK => ?_, U + d, ⟨by rw [e23, i8, I_add], by omega⟩, fun k hk h1 => ?_⟩
  · have : a = 1 ∨ a = 2 ∨ a = 3 ∨ a = 4 ∨ a = 5 ∨ a = 6 := by omega
    rw [e23, ← i1]
    rcases this with rfl | rfl | rfl | rfl | rfl | rfl
    · rw [e37, o 39 (by omega) (by omega) (by omega) (by omega), o 40 (by omega) (by omega) (by omega) (by omega), o 41 (by omega) (by omega) (by omega) (by omega), o 42 (by omega) (by omega) (by omega) (by omega), o 43 (by omega) (by omega) (by omega) (by omega)]
      show w 38 + I d + w 39 + w 40 + w 41 + w 42 + w 43 = w 38 + w 39 + w 40 + w 41 + w 42 + w 43 + I d
      ac_rfl
    · rw [e37, o 38 (by omega) (by omega) (by omega) (by omega), o 40 (by omega) (by omega) (by omega) (by omega), o 41 (by omega) (by omega) (by omega) (by omega), o 42 (by omega) (by omega) (by omega) (by omega), o 43 (by omega) (by omega) (by omega) (by omega)]
      show w 38 + (w 39 + I d) + w 40 + w 41 + w 42 + w 43 = w 38 + w 39 + w 40 + w 41 + w 42 + w 43 + I d
      ac_rfl
    · rw [e37, o 38 (by omega) (by omega) (by omega) (by omega), o 39 (by omega) (by omega) (by omega) (by omega), o 41 (by omega) (by omega) (by omega) (by omega), o 42 (by omega) (by omega) (by omega) (by omega), o 43 (by omega) (by omega) (by omega) (by omega)]
      show w 38 + w 39 + (w 40 + I d) + w 41 + w 42 + w 43 = w 38 + w 39 + w 40 + w 41 + w 42 + w 43 + I d
      ac_rfl
    · rw [e37, o 38 (by omega) (by omega) (by omega) (by omega), o 39 (by omega) (by omega) (by omega) (by omega), o 40 (by omega) (by omega) (by omega) (by omega), o 42 (by omega) (by omega) (by omega) (by omega), o 43 (by omega) (by omega) (by omega) (by omega)]
      show w 38 + w 39 + w 40 + (w 41 + I d) + w 42 + w 43 = w 38 + w 39 + w 40 + w 41 + w 42 + w 43 + I d
      ac_rfl
    · rw [e37, o 38 (by omega) (by omega) (by omega) (by omega), o 39 (by omega) (by omega) (by omega) (by omega), o 40 (by omega) (by omega) (by omega) (by omega), o 41 (by omega) (by omega) (by omega) (by omega), o 43 (by omega) (by omega) (by omega) (by omega)]
      show w 38 + w 39 + w 40 + w 41 + (w 42 + I d) + w 43 = w 38 + w 39 + w 40 + w 41 + w 42 + w 43 + I d
      ac_rfl
    · rw [e37, o 38 (by omega) (by omega) (by omega) (by omega), o 39 (by omega) (by omega) (by omega) (by omega), o 40 (by omega) (by omega) (by omega) (by omega), o 41 (by omega) (by omega) (by omega) (by omega), o 42 (by omega) (by omega) (by omega) (by omega)]
      show w 38 + w 39 + w 40 + w 41 + w 42 + (w 43 + I d) = w 38 + w 39 + w 40 + w 41 + w 42 + w 43 + I d
      ac_rfl
  · rw [eT] at ht
    obtain ⟨f, f1, f2, f3⟩ := i4 t ht
    rw [Nlo t (by omega)]
    refine ⟨f, f1, by rw [o _ (by omega) (by omega) (by omega) (by omega)]; exact f2, ?_⟩
    rw [eS]
    have : nzC w' t (nS w) = nzC w t (nS w) := cntP_congr (fun s hs => by
      show decide (w' (58 + 8 * s) = I t) = decide (w (58 + 8 * s) = I t)
      rw [o _ (by omega) (by omega) (by omega) (by omega)])
    rw [this]
    exact f3
  · rw [eS, chS_cg (nS w) (fun s hs => o _ (by omega) (by omega) (by omega) (by omega)), o 31 (by omega) (by omega) (by omega) (by omega)]
    exact i5
  · rw [eS] at hs
    rw [eK] at hK
    rw [o _ (by omega) (by omega) (by omega) (by omega)] at h1
    rw [o _ (by omega) (by omega) (by omega) (by omega), o _ (by omega) (by omega) (by omega) (by omega)]
    exact i6 s hs K hK h1
  · rw [eK] at hK
    refine tol_cg (fun j hj => o _ (by omega) (by omega) (by omega) (by omega)) ?_ ?_ (i7 K hK)
    · rw [eF]
      exact inR_cg (nF w) (fun f j hf hj => o _ (by omega) (by omega) (by omega) (by omega)) h3
    · unfold heldC
      rw [eS]
      exact cntP_congr (fun s hs => by
        show decide (w' (58 + 8 * s + 1) = I K) = decide (w (58 + 8 * s + 1) = I K)
        rw [o _ (by omega) (by omega) (by omega) (by omega)])
  · rw [eP] at hk
    rw [o _ (by omega) (by omega) (by omega) (by omega)] at h1
    rw [o _ (by omega) (by omega) (by omega) (by omega), o _ (by omega) (by omega) (by omega) (by omega)]
    obtain ⟨g1, T, g2, g3⟩ := i9 k hk h1
    exact ⟨g1, T, g2, by omega⟩
