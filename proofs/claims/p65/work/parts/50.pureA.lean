/-! PURE: numbers. I k is the int k; ok x n: x is a place below n. -/
def I (k : Nat) : Int32 := Int32.ofNat k
abbrev ok (x : Int32) (n : Nat) : Prop := ¬ (x < 0 ∨ n ≤ x.toNatClampNeg)
theorem I_toInt {k : Nat} (h : k < 2147483648) : (I k).toInt = (k : Int) := Int32.toInt_ofNat_of_lt h
theorem I_tnc {k : Nat} (h : k < 2147483648) : (I k).toNatClampNeg = k := Int32.toNatClampNeg_ofNat_of_lt h
theorem I_lt {a b : Nat} (ha : a < 2147483648) (hb : b < 2147483648) : (I a < I b) ↔ a < b := Int32.ofNat_lt_iff_lt ha hb
theorem I_le {a b : Nat} (ha : a < 2147483648) (hb : b < 2147483648) : (I a ≤ I b) ↔ a ≤ b := Int32.ofNat_le_iff_le ha hb
theorem I_inj {a b : Nat} (ha : a < 2147483648) (hb : b < 2147483648) : (I a = I b) ↔ a = b := ⟨fun h => by
  have h2 := congrArg Int32.toNatClampNeg h
  rwa [I_tnc ha, I_tnc hb] at h2, fun h => by rw [h]⟩
theorem I_add (a b : Nat) : I a + I b = I (a + b) := (Int32.ofNat_add a b).symm
theorem I_mul (a b : Nat) : I a * I b = I (a * b) := (Int32.ofNat_mul a b).symm
theorem I_sub {a b : Nat} (h : b ≤ a) : I a - I b = I (a - b) := (Int32.ofNat_sub a b h).symm
theorem I_succ (a : Nat) : I a + (1 : Int32) = I (a + 1) := I_add a 1
theorem I_nneg {a : Nat} (ha : a < 2147483648) : ¬ I a < 0 := fun h => by
  rw [Int32.lt_iff_toInt_lt, I_toInt ha] at h
  have : (0 : Int32).toInt = 0 := rfl
  omega
theorem ok_I {k n : Nat} (hk : k < 2147483648) (h : k < n) : ok (I k) n := fun z => z.elim (I_nneg hk) (fun z => by rw [I_tnc hk] at z; omega)
theorem ok_lt {x : Int32} {n : Nat} (h : ok x n) : x.toNatClampNeg < n := Nat.lt_of_not_le (fun z => h (Or.inr z))
theorem ok_nn {x : Int32} {n : Nat} (h : ok x n) : (0 : Int32) ≤ x := i32_nlt (fun z => h (Or.inl z))
theorem I_of {x : Int32} (h : (0 : Int32) ≤ x) : x = I x.toNatClampNeg := (Int32.ofNat_toNatClampNeg x h).symm
theorem ok_eq {x : Int32} {n : Nat} (h : ok x n) : x = I x.toNatClampNeg := I_of (ok_nn h)
theorem ok_mono {x : Int32} {n k : Nat} (h : ok x n) (hk : n ≤ k) : ok x k := fun z => z.elim (fun z => h (Or.inl z)) (fun z => h (Or.inr (Nat.le_trans hk z)))
theorem ok_ex {x : Int32} {n : Nat} (h : ok x n) : ∃ k : Nat, k < n ∧ x = I k := ⟨x.toNatClampNeg, ok_lt h, ok_eq h⟩
theorem toInt_nn {x : Int32} (h : (0 : Int32) ≤ x) : (0 : Int) ≤ x.toInt := by
  rw [Int32.le_iff_toInt_le] at h
  exact h
theorem tnc_toInt {x : Int32} (h : (0 : Int32) ≤ x) : (x.toNatClampNeg : Int) = x.toInt := by
  have := toInt_nn h
  show ((x.toInt.toNat : Nat) : Int) = x.toInt
  omega
theorem tnc_small (x : Int32) : x.toNatClampNeg < 2147483648 := by
  have h := Int32.toInt_lt x
  show x.toInt.toNat < 2147483648
  omega
/-- a test of a place, where it is one -/
theorem gd_ok {α : Type} {x : Int32} {n : Nat} {t : Option α} (h : ok x n) : (if x < 0 ∨ n ≤ x.toNatClampNeg then none else t) = t := if_neg h
theorem ok_lo {x : Int32} {a b : Nat} (h0 : I a ≤ x) (h1 : x < I b) (ha : a < 2147483648) (hb : b < 2147483648) : ok x b := by
  have e : (0 : Int32) ≤ x := by
    rw [Int32.le_iff_toInt_le] at h0 ⊢
    rw [I_toInt ha] at h0
    have : (0 : Int32).toInt = 0 := rfl
    omega
  rw [I_of e] at h1 ⊢
  rw [I_lt (tnc_small x) hb] at h1
  exact ok_I (tnc_small x) h1
-- memories
theorem gi_si (m : MM) (q k : Nat) (v : Int32) (q' k' : Nat) : gi (si m q k v) q' k' = if q' = q ∧ k' = k then v else gi m q' k' := by
  show va_up m.1 q (upd (m.1 q) k v) q' k' = _
  unfold va_up
  by_cases h : q' = q
  · rw [if_pos h]
    subst h
    show (if k' = k then v else m.1 q' k') = _
    by_cases h2 : k' = k
    · rw [if_pos h2, if_pos ⟨rfl, h2⟩]
    · rw [if_neg h2, if_neg (fun z => h2 z.2)]; rfl
  · rw [if_neg h, if_neg (fun z => h z.1)]; rfl
theorem gi_si_eq (m : MM) (q k : Nat) (v : Int32) : gi (si m q k v) q k = v := by rw [gi_si, if_pos ⟨rfl, rfl⟩]
theorem gi_si_ne {m : MM} {q k : Nat} {v : Int32} {q' k' : Nat} (h : q' ≠ q ∨ k' ≠ k) : gi (si m q k v) q' k' = gi m q' k' := by
  rw [gi_si, if_neg (fun z => h.elim (fun h => h z.1) (fun h => h z.2))]
theorem gl_si (m : MM) (q k : Nat) (v : Int32) (q' k' : Nat) : gl (si m q k v) q' k' = gl m q' k' := rfl
theorem gi_sl (m : MM) (q k : Nat) (v : Int64) (q' k' : Nat) : gi (sl m q k v) q' k' = gi m q' k' := rfl
theorem gl_sl (m : MM) (q k : Nat) (v : Int64) (q' k' : Nat) : gl (sl m q k v) q' k' = if q' = q ∧ k' = k then v else gl m q' k' := by
  show va_up m.2 q (vp_updL (m.2 q) k v) q' k' = _
  unfold va_up
  by_cases h : q' = q
  · rw [if_pos h]
    subst h
    show (if k' = k then v else m.2 q' k') = _
    by_cases h2 : k' = k
    · rw [if_pos h2, if_pos ⟨rfl, h2⟩]
    · rw [if_neg h2, if_neg (fun z => h2 z.2)]; rfl
  · rw [if_neg h, if_neg (fun z => h z.1)]; rfl
theorem gl_sl_eq (m : MM) (q k : Nat) (v : Int64) : gl (sl m q k v) q k = v := by rw [gl_sl, if_pos ⟨rfl, rfl⟩]
theorem gl_sl_ne {m : MM} {q k : Nat} {v : Int64} {q' k' : Nat} (h : q' ≠ q ∨ k' ≠ k) : gl (sl m q k v) q' k' = gl m q' k' := by
  rw [gl_sl, if_neg (fun z => h.elim (fun h => h z.1) (fun h => h z.2))]
theorem gi_sr (m : MM) (q : Nat) (r : Nat → Int32) (q' k' : Nat) : gi (sr m q r) q' k' = if q' = q then r k' else gi m q' k' := by
  show va_up m.1 q r q' k' = _
  unfold va_up
  by_cases h : q' = q
  · rw [if_pos h, if_pos h]
  · rw [if_neg h, if_neg h]; rfl
theorem gl_sr (m : MM) (q : Nat) (r : Nat → Int32) (q' k' : Nat) : gl (sr m q r) q' k' = gl m q' k' := rfl
theorem gi_sR (m : MM) (q : Nat) (r : Nat → Int64) (q' k' : Nat) : gi (sR m q r) q' k' = gi m q' k' := rfl
theorem gl_sR (m : MM) (q : Nat) (r : Nat → Int64) (q' k' : Nat) : gl (sR m q r) q' k' = if q' = q then r k' else gl m q' k' := by
  show va_up m.2 q r q' k' = _
  unfold va_up
  by_cases h : q' = q
  · rw [if_pos h, if_pos h]
  · rw [if_neg h, if_neg h]; rfl
theorem b1_s {α β : Type} (x : α) (f : α → Option β) : b1 (some x) f = f x := rfl
theorem b2_s {α γ β : Type} (x : α) (y : γ) (f : α → γ → Option β) : b2 (some (x, y)) f = f x y := rfl
theorem b3_s {α γ δ β : Type} (x : α) (y : γ) (z : δ) (f : α → γ → δ → Option β) : b3 (some (x, y, z)) f = f x y z := rfl
theorem b4_s {α γ δ ε β : Type} (x : α) (y : γ) (z : δ) (u : ε) (f : α → γ → δ → ε → Option β) : b4 (some (x, y, z, u)) f = f x y z u := rfl
theorem b5_s {α γ δ ε ζ β : Type} (x : α) (y : γ) (z : δ) (u : ε) (v : ζ) (f : α → γ → δ → ε → ζ → Option β) : b5 (some (x, y, z, u, v)) f = f x y z u v := rfl
theorem bnd_s {α β : Type} (x : α) (f : α → Option β) : bnd x f = f x := rfl
theorem bX_s {α β : Type} (x : α) (f : α → Option (Nat ⊕ β)) : bX (some (.inr x)) f = f x := rfl
theorem bX_x {α β : Type} (k : Nat) (f : α → Option (Nat ⊕ β)) : bX (some (.inl k)) f = some (.inl k) := rfl
theorem lif_s {α : Type} (x : α) : lif (some x) = some (.inr x) := rfl
theorem wL_0 {α β : Type} (f0 f1 : Option β) (g : α → Option β) : wL (some (.inl 0)) f0 f1 g = f0 := rfl
theorem wL_1 {α β : Type} (f0 f1 : Option β) (g : α → Option β) : wL (some (.inl 1)) f0 f1 g = f1 := rfl
theorem wL_r {α β : Type} (x : α) (f0 f1 : Option β) (g : α → Option β) : wL (some (.inr x)) f0 f1 g = g x := rfl
-- the reference's row
/-- x with its row w put in place -/
def pw (x : MM) (w : Nat → Int32) : MM := sr x 1 w
def rw1 (x : MM) : Nat → Int32 := x.1 1
theorem si_pw (x : MM) (k : Nat) (v : Int32) : si x 1 k v = pw x (upd (rw1 x) k v) := rfl
theorem pw_pw (x : MM) (a b : Nat → Int32) : pw (pw x a) b = pw x b := by
  unfold pw sr
  refine Prod.ext (funext fun q => ?_) rfl
  show va_up (va_up x.1 1 a) 1 b q = va_up x.1 1 b q
  unfold va_up
  by_cases h : q = 1
  · rw [if_pos h, if_pos h]
  · rw [if_neg h, if_neg h, if_neg h]
theorem rw1_pw (x : MM) (a : Nat → Int32) : rw1 (pw x a) = a := by
  show va_up x.1 1 a 1 = a
  unfold va_up
  rw [if_pos rfl]
theorem pw_self (x : MM) : pw x (rw1 x) = x := by
  show (va_up x.1 1 (x.1 1), x.2) = x
  rw [up_slf]
theorem gi_pw1 (x : MM) (a : Nat → Int32) (k : Nat) : gi (pw x a) 1 k = a k := by
  show rw1 (pw x a) k = a k
  rw [rw1_pw]
theorem gi_pw {x : MM} {a : Nat → Int32} {q : Nat} (h : q ≠ 1) (k : Nat) : gi (pw x a) q k = gi x q k := by
  show va_up x.1 1 a q k = x.1 q k
  unfold va_up
  rw [if_neg h]
theorem gi_rw1 (x : MM) (k : Nat) : gi x 1 k = rw1 x k := rfl
theorem upd_eq (f : Nat → Int32) (k : Nat) (v : Int32) : upd f k v k = v := if_pos rfl
theorem upd_ne {f : Nat → Int32} {k j : Nat} {v : Int32} (h : j ≠ k) : upd f k v j = f j := if_neg h
