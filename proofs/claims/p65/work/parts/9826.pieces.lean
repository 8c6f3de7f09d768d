/-! PROPERTY: a text's pieces, statement by statement -/
/-- numbers, a space before each -/
def Np : List Nat → List (Nat × (Nat → Nat))
  | [] => []
  | u :: l => Kp [32] :: Dp u :: Np l
theorem fits_shift {T U : Nat → Nat} {p : Nat} : ∀ (l : List (Nat × (Nat → Nat))) {a b : Nat}, Fits U a l b → (∀ j : Nat, a ≤ j → j < b → T (p + j) = U j) → Fits T (p + a) l (p + b) := by
  intro l
  induction l with
  | nil =>
    intro a b h _
    have h : b = a := h
    show p + b = p + a
    rw [h]
  | cons c l ih =>
    intro a b h e
    have hb := fits_le l h.2
    refine ⟨fun j hj => ?_, ?_⟩
    · rw [show p + a + j = p + (a + j) by omega, e (a + j) (by omega) (by omega)]
      exact h.1 j hj
    · rw [show p + a + c.1 = p + (a + c.1) by omega]
      exact ih h.2 (fun j h1 h2 => e j (by omega) h2)
/-- a word's piece, taken apart -/
theorem fits_apart {T : Nat → Nat} {l : List Nat} {s r : List (Nat × (Nat → Nat))} {p q : Nat} (hs : Fits (fun j => l.getD j 0) 0 s l.length) (h : Fits T p (Kp l :: r) q) : Fits T p (s ++ r) q := by
  have := fits_shift (T := T) (p := p) s hs (fun j _ hj => h.1 j hj)
  rw [Nat.add_zero] at this
  exact fits_app s r this h.2
theorem fits_nums {T : Nat → Nat} {L q : Nat} {r : List (Nat × (Nat → Nat))} (hq : q ≤ L) (hr : ∀ p : Nat, Fits T p r q → Stop T L p) : ∀ (l : List Nat) {p : Nat}, (∀ u : Nat, u ∈ l → u < 1000000) → Fits T p (Np l ++ r) q → ∃ p' : Nat, Nums T L l p p' ∧ Fits T p' r q := by
  intro l
  induction l with
  | nil => intro p _ h; exact ⟨p, rfl, h⟩
  | cons u l ih =>
    intro p hu h
    obtain ⟨n1, -, n3⟩ := fits_num (l := [32]) (n := 0) (v := u) (r := Np l ++ r) rfl rfl h
    obtain ⟨p', m1, m2⟩ := ih (fun v hv => hu v (List.mem_cons_of_mem _ hv)) n3
    refine ⟨p', ⟨⟨n1, hu u List.mem_cons_self, ?_⟩, m1⟩, m2⟩
    cases l with
    | nil => exact hr _ n3
    | cons v l => exact fits_stop (l := [32]) (r := Dp v :: (Np l ++ r)) (by decide) (Or.inl rfl) n3 hq
/-- a statement's word, behind its semicolon, and its numbers -/
theorem fits_state {T : Nat → Nat} {L q k : Nat} {l : List Nat} {vs : List Nat} {r : List (Nat × (Nat → Nat))} {p : Nat} (hk : k < 12) (hl : l.length = strL k + 1) (h59 : l.getD 0 0 = 59) (hc : ∀ i : Nat, i < strL k → l.getD (1 + i) 0 = wn k i) (hv : vs ≠ []) (hu : ∀ u : Nat, u ∈ vs → u < 1000000) (hq : q ≤ L) (hr : ∀ p : Nat, Fits T p r q → Stop T L p) (h : Fits T p (Kp l :: (Np vs ++ r)) q) : p < L ∧ T p = 59 ∧ WordAt T (p + 1) k ∧ Stop T L (p + 1 + strL k) ∧ ∃ p' : Nat, Nums T L vs (p + 1 + strL k) p' ∧ Fits T p' r q := by
  have e0 := h.1 0 (by show 0 < l.length; omega)
  have h2 := h.2
  have e : p + (Kp l).1 = p + 1 + strL k := by
    show p + l.length = _
    omega
  rw [e] at h2
  have hle := fits_le _ h2
  have hst : Stop T L (p + 1 + strL k) := by
    cases vs with
    | nil => exact absurd rfl hv
    | cons v vs => exact fits_stop (l := [32]) (r := Dp v :: (Np vs ++ r)) (by decide) (Or.inl rfl) h2 hq
  refine ⟨by omega, ?_, fits_word h (by omega) hc, hst, fits_nums hq hr vs hu h2⟩
  rw [Nat.add_zero] at e0
  rw [e0]
  exact h59
