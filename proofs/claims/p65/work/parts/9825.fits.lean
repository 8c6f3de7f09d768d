/-! PROPERTY: a text put together of words and numbers -/
def Kp (l : List Nat) : Nat × (Nat → Nat) := (l.length, fun j => l.getD j 0)
def Dp (v : Nat) : Nat × (Nat → Nat) := (sb_dg v, sb_dec v)
/-- the pieces stand behind each other in T, from p to q -/
def Fits (T : Nat → Nat) : Nat → List (Nat × (Nat → Nat)) → Nat → Prop
  | p, [], q => q = p
  | p, a :: l, q => (∀ j : Nat, j < a.1 → T (p + j) = a.2 j) ∧ Fits T (p + a.1) l q
theorem fits_le {T : Nat → Nat} : ∀ (l : List (Nat × (Nat → Nat))) {p q : Nat}, Fits T p l q → p ≤ q := by
  intro l
  induction l with
  | nil =>
    intro p q h
    have h : q = p := h
    omega
  | cons a l ih =>
    intro p q h
    have := ih h.2
    omega
theorem fits_cg {T T' : Nat → Nat} : ∀ (l : List (Nat × (Nat → Nat))) {p q : Nat}, Fits T p l q → (∀ j : Nat, p ≤ j → j < q → T' j = T j) → Fits T' p l q := by
  intro l
  induction l with
  | nil => intro p q h _; exact h
  | cons a l ih =>
    intro p q h e
    have hq := fits_le l h.2
    exact ⟨fun j hj => by rw [e (p + j) (by omega) (by omega)]; exact h.1 j hj, ih h.2 (fun j h1 h2 => e j (by omega) h2)⟩
theorem fits_app {T : Nat → Nat} : ∀ (l l' : List (Nat × (Nat → Nat))) {p q r : Nat}, Fits T p l q → Fits T q l' r → Fits T p (l ++ l') r := by
  intro l
  induction l with
  | nil =>
    intro l' p q r h h'
    have h : q = p := h
    rw [h] at h'
    exact h'
  | cons a l ih =>
    intro l' p q r h h'
    exact ⟨h.1, ih l' h.2 h'⟩
/-- a piece is put behind a text -/
theorem fits_cat {t : Nat → Nat} {l : List (Nat × (Nat → Nat))} {n : Nat} (h : Fits t 0 l n) (a : Nat × (Nat → Nat)) : Fits (sb_cat t n a.2) 0 (l ++ [a]) (n + a.1) := by
  refine fits_app l [a] (q := n) (fits_cg l h (fun j _ hj => sb_cat_lo hj)) ⟨fun j hj => ?_, rfl⟩
  exact sb_cat_hi
/-- a number, between what ends with a space and what begins with a space or a semicolon -/
theorem fits_num {T : Nat → Nat} {l : List Nat} {v : Nat} {r : List (Nat × (Nat → Nat))} {p q n : Nat} (hl : l.length = n + 1) (h32 : l.getD n 0 = 32) (h : Fits T p (Kp l :: Dp v :: r) q) : NumAt T (p + n) v ∧ p + n + 1 + sb_dg v = p + l.length + sb_dg v ∧ Fits T (p + n + 1 + sb_dg v) r q := by
  obtain ⟨h1, h2, h3⟩ := h
  have e : p + (Kp l).1 = p + n + 1 := by
    show p + l.length = _
    rw [hl]
    omega
  rw [e] at h2 h3
  refine ⟨⟨?_, fun i hi => h2 i hi⟩, by omega, h3⟩
  rw [h1 n (by show n < l.length; omega)]
  exact h32
theorem fits_stop {T : Nat → Nat} {L p q : Nat} {l : List Nat} {r : List (Nat × (Nat → Nat))} (hl : 0 < l.length) (hc : l.getD 0 0 = 32 ∨ l.getD 0 0 = 59) (h : Fits T p (Kp l :: r) q) (hq : q ≤ L) : Stop T L p := by
  have := fits_le _ h
  refine ⟨by omega, fun _ => ?_⟩
  have e := h.1 0 hl
  rw [Nat.add_zero] at e
  rw [e]
  exact hc
theorem fits_end {T : Nat → Nat} {L p : Nat} (h : Fits T p [] L) : Stop T L p := by
  have h : L = p := h
  exact ⟨by omega, fun z => by omega⟩
/-- a word behind the first letter of a piece -/
theorem fits_word {T : Nat → Nat} {p q k m : Nat} {l : List Nat} {r : List (Nat × (Nat → Nat))} (h : Fits T p (Kp l :: r) q) (hm : m + strL k ≤ l.length) (hc : ∀ i : Nat, i < strL k → l.getD (m + i) 0 = wn k i) : WordAt T (p + m) k := fun i hi => by
  rw [show p + m + i = p + (m + i) by omega, h.1 (m + i) (by show m + i < l.length; omega)]
  exact hc i hi
