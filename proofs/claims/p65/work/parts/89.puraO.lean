/-! PURE: append -/
/-- the text, on both sides -/
def Tx (h x : MM) : Prop := ∃ n : Nat, n ≤ 900 ∧ gi h 0 1 = I n ∧ gi x 0 8 = I n ∧ ∀ k : Nat, k < n → ∃ c : Nat, 1 ≤ c ∧ c ≤ 255 ∧ gi x 7 k = I c ∧ gi h 5 k = (Int8.ofNat c).toInt32
theorem ap_l (m : MM) (v : Int64) : ∀ (k t n n' : Nat) (h x : MM), k ≤ 8 → k < n → k < n' → t + nz8 v k ≤ 900 → gi h 0 1 = I t → gi x 0 8 = I t → (∀ j : Nat, j < t → ∃ c : Nat, 1 ≤ c ∧ c ≤ 255 ∧ gi x 7 j = I c ∧ gi h 5 j = (Int8.ofNat c).toInt32) → ∃ (r : Int32) (h' x' : MM), D_X9_append_48 m n v (X8 k) h = some (r, h') ∧ D_X10_append_62 n' v (X8 k) x = some (r, x') ∧ Tx h' x' ∧ (∀ q j : Nat, ¬ (q = 0 ∧ j = 1) → q ≠ 5 → gi h' q j = gi h q j) ∧ ∀ q j : Nat, ¬ (q = 0 ∧ j = 8) → q ≠ 7 → gi x' q j = gi x q j := by
  intro k
  induction k with
  | zero =>
    intro t n n' h x hk hn hn' ht e1 e2 e3
    obtain ⟨n, rfl⟩ : ∃ n0 : Nat, n = n0 + 1 := ⟨n - 1, by omega⟩
    obtain ⟨n', rfl⟩ : ∃ n0 : Nat, n' = n0 + 1 := ⟨n' - 1, by omega⟩
    unfold D_X9_append_48 D_X10_append_62
    rw [if_pos X8_0, if_pos X8_0, e1, e2]
    exact ⟨_, h, x, rfl, rfl, ⟨t, by omega, e1, e2, e3⟩, fun _ _ _ _ => rfl, fun _ _ _ _ => rfl⟩
  | succ k ih =>
    intro t n n' h x hk hn hn' ht e1 e2 e3
    obtain ⟨n, rfl⟩ : ∃ n0 : Nat, n = n0 + 1 := ⟨n - 1, by omega⟩
    obtain ⟨n', rfl⟩ : ∃ n0 : Nat, n' = n0 + 1 := ⟨n' - 1, by omega⟩
    have hc := cB_lt v k
    unfold D_X9_append_48 D_X10_append_62
    rw [X8_s k (by omega), if_neg (I_nneg (by omega)), if_neg (I_nneg (by omega)), sB_c v (by omega), sB_x v (by omega), bnd_s, bnd_s (I (cB v k))]
    by_cases c : cB v k = 0
    · rw [nz8_0 c] at ht
      rw [if_pos ((by_z _ hc).mpr c), if_pos (show I (cB v k) = (0 : Int32) by rw [c]; rfl)]
      repeat rw [bnd_s]
      exact ih t n n' h x (by omega) (by omega) (by omega) ht e1 e2 e3
    · rw [nz8_1 c] at ht
      rw [if_neg (fun z => c ((by_z _ hc).mp z)), if_neg (fun z => c ((I_ne0 (by omega)).mp z)), e1, e2, if_neg (show ¬ (900 : Int32) ≤ I t from leF (a := 900) (by omega) (by decide)), gdI (by omega) (by omega), gdI (by omega) (by omega), I_tnc (by omega), vp_nar_byte, by_n _ hc]
      repeat rw [bnd_s]
      rw [gi_si_ne (m := h) (by omega), gi_si_ne (m := x) (by omega), e1, e2, ixs1]
      obtain ⟨r, h', x', r1, r2, r3, r4, r5⟩ := ih (t + 1) n n' (si (si h 5 t (Int8.ofNat (cB v k)).toInt32) 0 1 (I (t + 1))) (si (si x 7 t (I (cB v k))) 0 8 (I (t + 1))) (by omega) (by omega) (by omega) (by omega) (gi_si_eq _ _ _ _) (gi_si_eq _ _ _ _) (fun j hj => by
        have hx : gi (si (si x 7 t (I (cB v k))) 0 8 (I (t + 1))) 7 j = gi (si x 7 t (I (cB v k))) 7 j := gi_si_ne (Or.inl (by decide))
        have hh : gi (si (si h 5 t (Int8.ofNat (cB v k)).toInt32) 0 1 (I (t + 1))) 5 j = gi (si h 5 t (Int8.ofNat (cB v k)).toInt32) 5 j := gi_si_ne (Or.inl (by decide))
        rw [hx, hh]
        by_cases e : j = t
        · rw [e]
          exact ⟨cB v k, by omega, by omega, gi_si_eq _ _ _ _, gi_si_eq _ _ _ _⟩
        · have hx : gi (si x 7 t (I (cB v k))) 7 j = gi x 7 j := gi_si_ne (Or.inr e)
          have hh : gi (si h 5 t (Int8.ofNat (cB v k)).toInt32) 5 j = gi h 5 j := gi_si_ne (Or.inr e)
          rw [hx, hh]
          exact e3 j (by omega))
      exact ⟨r, h', x', r1, r2, r3, fun q j a b => by rw [r4 q j a b, gi_si_ne (by omega), gi_si_ne (by omega)], fun q j a b => by rw [r5 q j a b, gi_si_ne (by omega), gi_si_ne (by omega)]⟩
theorem T_append (m x h : MM) (w : Nat → Int32) (v : Int64) (hT : Tx h x) : ∃ (r : Int32) (h' x' : MM), D_X9_append v h m = some (r, h') ∧ D_X10_append v (pw x w) = some (r, pw x' w) ∧ Tx h' x' ∧ (∀ q j : Nat, ¬ (q = 0 ∧ j = 1) → q ≠ 5 → gi h' q j = gi h q j) ∧ ∀ q j : Nat, q ≠ 1 → ¬ (q = 0 ∧ (j = 8 ∨ j = 6)) → q ≠ 7 → gi x' q j = gi x q j := by
  obtain ⟨t, t1, t2, t3, t4⟩ := hT
  have f8 : gi (pw (th x 0) w) 0 8 = I t := by
    rw [gi_pw (by decide)]
    exact (gi_si_ne (by omega)).trans t3
  have f7 : ∀ j : Nat, gi (pw (th x 0) w) 7 j = gi x 7 j := fun j => by
    rw [gi_pw (by decide)]
    exact gi_si_ne (by omega)
  have c1 := cn_m m h v 8 0 FU (Nat.le_refl _) (by decide)
  have c2 := cn_x (pw (th x 0) w) v 8 0 FU (Nat.le_refl _) (by decide)
  have c1 : D_X9_append_6 m FU v (0 : Int32) (56 : Int32) h = _ := c1
  have c2 : D_X10_append_11 FU v (0 : Int32) (56 : Int32) (pw (th x 0) w) = _ := c2
  have nl := nz8_le v 8
  unfold D_X9_append D_X10_append
  rw [bnd_s, zeroP, c1, c2, t2, f8, Nat.zero_add, I_add]
  by_cases c : t + nz8 v 8 ≤ 900
  · rw [if_pos (show I (t + nz8 v 8) ≤ (900 : Int32) from leT (b := 900) c (by decide)), if_pos (show I (t + nz8 v 8) ≤ (900 : Int32) from leT (b := 900) c (by decide))]
    obtain ⟨r, h', x', r1, r2, r3, r4, r5⟩ := ap_l m v 8 t FU FU h (pw (th x 0) w) (Nat.le_refl _) (by decide) (by decide) c t2 f8 (fun j hj => by rw [f7]; exact t4 j hj)
    have e : x' = pw x' w := by
      have : rw1 x' = w := funext fun k => by
        have := r5 1 k (by omega) (by decide)
        rw [giP] at this
        exact this
      rw [← this, pw_self]
    refine ⟨r, h', x', r1, by rw [← e]; exact r2, r3, r4, fun q j a b d => ?_⟩
    rw [r5 q j (by omega) d, gi_pw a]
    exact gi_si_ne (by omega)
  · rw [if_neg (show ¬ I (t + nz8 v 8) ≤ (900 : Int32) from leF (b := 900) (by omega) (by omega)), if_neg (show ¬ I (t + nz8 v 8) ≤ (900 : Int32) from leF (b := 900) (by omega) (by omega))]
    refine ⟨-2, h, th x 0, rfl, rfl, ⟨t, t1, t2, ?_, fun k hk => ?_⟩, fun _ _ _ _ => rfl, fun q j a b d => gi_si_ne (by omega)⟩
    · exact (gi_si_ne (by omega)).trans t3
    · obtain ⟨c, d1, d2, d3, d4⟩ := t4 k hk
      exact ⟨c, d1, d2, (gi_si_ne (by omega)).trans d3, d4⟩
