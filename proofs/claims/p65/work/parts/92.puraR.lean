/-! PURE: the rest of the machine as it begins -/
def ClT (m' m : MM) : Prop := (gi m' 24 3 = 0 ∧ gi m' 28 0 = 0 ∧ gi m' 24 6 = 0 ∧ gi m' 36 0 = 0 ∧ gi m' 36 9 = 0 ∧ gi m' 24 9 = 1 ∧ gi m' 45 0 = 0 ∧ gi m' 45 1 = 0 ∧ gi m' 45 7 = 0 ∧ gi m' 45 8 = 0) ∧ (∀ k : Nat, 11 ≤ k → k ≤ 15 → gi m' 24 k = 0) ∧ (∀ q k : Nat, 30 ≤ q → q ≤ 34 → k < 8 → gi m' q k = 0) ∧ (∀ q k : Nat, q = 49 ∨ q = 50 → k < 7 → gi m' q k = 0) ∧ (gl m' 36 7 = 0 ∧ gl m' 36 8 = 0 ∧ ∀ K : Nat, K < 8 → gl m' 42 K = 0) ∧ (gi m' 24 1 = gi m 24 1 ∧ ∀ q k : Nat, q < 24 ∨ q = 25 → gi m' q k = gi m q k)
theorem clr_t (m : MM) : ∃ m' : MM, D_X6_clear_21 1 (I 4) m = some m' ∧ ClT m' m := by
  obtain ⟨m1, a1, a2, a3⟩ := arf_s 30 8 0 (by decide) (si (si m 24 3 0) 28 0 0)
  obtain ⟨m2, b1, b2, b3⟩ := arf_s 31 8 0 (by decide) m1
  obtain ⟨m3, c1, c2, c3⟩ := arf_s 32 8 0 (by decide) m2
  obtain ⟨m4, d1, d2, d3⟩ := arf_s 33 8 0 (by decide) m3
  obtain ⟨m5, e1, e2, e3⟩ := arf_s 34 8 0 (by decide) m4
  obtain ⟨m6, f1, f2, f3⟩ := arl_s 42 8 0 (by decide) (si (si m5 24 6 0) 36 0 0)
  obtain ⟨m7, g1, g2, g3⟩ := arf_s 49 7 0 (by decide) (si (si (si (si (sl (sl m6 36 7 0) 36 8 0) 36 9 0) 24 9 1) 45 0 0) 45 1 0)
  obtain ⟨m8, h1, h2, h3⟩ := arf_s 50 7 0 (by decide) m7
  have k5 : D_X5_clear (si m 24 3 0) = some m5 := by
    unfold D_X5_clear
    rw [bnd_s, a1, b1_s, b1, b1_s, c1, b1_s, d1, b1_s, e1, b1_s]
  have k0 : D_X0_clear (si m5 24 6 0) = some (si (sl (sl m6 36 7 0) 36 8 0) 36 9 0) := by
    unfold D_X0_clear
    rw [bnd_s, f1, b1_s, bnd_s, bnd_s, bnd_s]
  have k4 : D_X4_clear (si (si (sl (sl m6 36 7 0) 36 8 0) 36 9 0) 24 9 1) = some (si (si m8 45 7 0) 45 8 0) := by
    unfold D_X4_clear
    rw [bnd_s, bnd_s, g1, b1_s, h1, b1_s, bnd_s, bnd_s]
  rw [D_X6_clear_21, if_pos (show (4 : Int32) ≤ I 4 by decide), bnd_s, k5, b1_s, bnd_s, k0, b1_s, bnd_s, k4, b1_s, bnd_s, bnd_s, bnd_s, bnd_s, bnd_s]
  refine ⟨_, rfl, ?_⟩
  have t8 : ∀ q k : Nat, (q ≠ 24 ∨ k < 11) → (q ≠ 45 ∨ k < 7) → gi (si (si (si (si (si (si (si m8 45 7 0) 45 8 0) 24 11 0) 24 12 0) 24 13 0) 24 14 0) 24 15 0) q k = gi m8 q k := fun q k z1 z2 => by
    rw [gi_si_ne (by omega), gi_si_ne (by omega), gi_si_ne (by omega), gi_si_ne (by omega), gi_si_ne (by omega), gi_si_ne (by omega), gi_si_ne (by omega)]
  have x1 : ∀ k : Nat, 11 ≤ k → k ≤ 15 → gi (si (si (si (si (si (si (si m8 45 7 0) 45 8 0) 24 11 0) 24 12 0) 24 13 0) 24 14 0) 24 15 0) 24 k = 0 := fun k z1 z2 => by
    have : k = 11 ∨ k = 12 ∨ k = 13 ∨ k = 14 ∨ k = 15 := by omega
    rcases this with rfl | rfl | rfl | rfl | rfl
    · rw [gi_si_ne (by omega), gi_si_ne (by omega), gi_si_ne (by omega), gi_si_ne (by omega), gi_si_eq]
    · rw [gi_si_ne (by omega), gi_si_ne (by omega), gi_si_ne (by omega), gi_si_eq]
    · rw [gi_si_ne (by omega), gi_si_ne (by omega), gi_si_eq]
    · rw [gi_si_ne (by omega), gi_si_eq]
    · rw [gi_si_eq]
  have x2 : gi (si (si (si (si (si (si (si m8 45 7 0) 45 8 0) 24 11 0) 24 12 0) 24 13 0) 24 14 0) 24 15 0) 45 7 = 0 := by
    rw [gi_si_ne (by omega), gi_si_ne (by omega), gi_si_ne (by omega), gi_si_ne (by omega), gi_si_ne (by omega), gi_si_ne (by omega), gi_si_eq]
  have x3 : gi (si (si (si (si (si (si (si m8 45 7 0) 45 8 0) 24 11 0) 24 12 0) 24 13 0) 24 14 0) 24 15 0) 45 8 = 0 := by
    rw [gi_si_ne (by omega), gi_si_ne (by omega), gi_si_ne (by omega), gi_si_ne (by omega), gi_si_ne (by omega), gi_si_eq]
  have gL : ∀ q k : Nat, gl (si (si (si (si (si (si (si m8 45 7 0) 45 8 0) 24 11 0) 24 12 0) 24 13 0) 24 14 0) 24 15 0) q k = gl (sl (sl m6 36 7 0) 36 8 0) q k := fun q k => by
    rw [gl_si, gl_si, gl_si, gl_si, gl_si, gl_si, gl_si, h3, g3, gl_si, gl_si, gl_si, gl_si]
  generalize si (si (si (si (si (si (si m8 45 7 0) 45 8 0) 24 11 0) 24 12 0) 24 13 0) 24 14 0) 24 15 0 = mm at t8 x1 x2 x3 gL
  have t7 : ∀ q k : Nat, q ≠ 50 → gi m8 q k = gi m7 q k := fun q k z => by rw [h2, if_neg (fun y => z y.1)]
  have t6 : ∀ q k : Nat, q ≠ 49 → gi m7 q k = gi (si (si (si (si (sl (sl m6 36 7 0) 36 8 0) 36 9 0) 24 9 1) 45 0 0) 45 1 0) q k := fun q k z => by rw [g2, if_neg (fun y => z y.1)]
  have t5 : ∀ q k : Nat, (q ≠ 24 ∨ k ≠ 9) → (q ≠ 36 ∨ k ≠ 9) → (q ≠ 45 ∨ 2 ≤ k) → gi (si (si (si (si (sl (sl m6 36 7 0) 36 8 0) 36 9 0) 24 9 1) 45 0 0) 45 1 0) q k = gi (si (si m5 24 6 0) 36 0 0) q k := fun q k z1 z2 z3 => by
    rw [gi_si_ne (by omega), gi_si_ne (by omega), gi_si_ne (by omega), gi_si_ne (by omega)]
    exact f3 q k
  have t3 : ∀ q k : Nat, (q < 30 ∨ 34 < q) → gi m5 q k = gi (si (si m 24 3 0) 28 0 0) q k := fun q k z => by
    rw [e2, if_neg (by omega), d2, if_neg (by omega), c2, if_neg (by omega), b2, if_neg (by omega), a2, if_neg (by omega)]
  have tb : ∀ q k : Nat, 30 ≤ q → q ≤ 34 → k < 8 → gi m5 q k = 0 := fun q k z1 z2 z3 => by
    have : q = 30 ∨ q = 31 ∨ q = 32 ∨ q = 33 ∨ q = 34 := by omega
    rcases this with rfl | rfl | rfl | rfl | rfl
    · rw [e2, if_neg (by omega), d2, if_neg (by omega), c2, if_neg (by omega), b2, if_neg (by omega), a2, if_pos ⟨rfl, z3⟩]
    · rw [e2, if_neg (by omega), d2, if_neg (by omega), c2, if_neg (by omega), b2, if_pos ⟨rfl, z3⟩]
    · rw [e2, if_neg (by omega), d2, if_neg (by omega), c2, if_pos ⟨rfl, z3⟩]
    · rw [e2, if_neg (by omega), d2, if_pos ⟨rfl, z3⟩]
    · rw [e2, if_pos ⟨rfl, z3⟩]
  have big : ∀ q k : Nat, (q < 24 ∨ q = 25 ∨ q = 24 ∧ (k = 1 ∨ k = 3) ∨ q = 28) → gi mm q k = gi (si (si m 24 3 0) 28 0 0) q k := fun q k z => by
    rw [t8 q k (by omega) (by omega), t7 q k (by omega), t6 q k (by omega), t5 q k (by omega) (by omega) (by omega), gi_si_ne (by omega), gi_si_ne (by omega), t3 q k (by omega)]
  refine ⟨⟨?_, ?_, ?_, ?_, ?_, ?_, ?_, ?_, x2, x3⟩, x1, fun q k z1 z2 z3 => ?_, fun q k z1 z2 => ?_, ⟨?_, ?_, fun K hK => ?_⟩, ?_, fun q k z => ?_⟩
  · rw [big 24 3 (by omega), gi_si_ne (by omega), gi_si_eq]
  · rw [big 28 0 (by omega), gi_si_eq]
  · rw [t8 24 6 (by omega) (by omega), t7 24 6 (by omega), t6 24 6 (by omega), t5 24 6 (by omega) (by omega) (by omega), gi_si_ne (by omega), gi_si_eq]
  · rw [t8 36 0 (by omega) (by omega), t7 36 0 (by omega), t6 36 0 (by omega), t5 36 0 (by omega) (by omega) (by omega), gi_si_eq]
  · rw [t8 36 9 (by omega) (by omega), t7 36 9 (by omega), t6 36 9 (by omega), gi_si_ne (by omega), gi_si_ne (by omega), gi_si_ne (by omega), gi_si_eq]
  · rw [t8 24 9 (by omega) (by omega), t7 24 9 (by omega), t6 24 9 (by omega), gi_si_ne (by omega), gi_si_ne (by omega), gi_si_eq]
  · rw [t8 45 0 (by omega) (by omega), t7 45 0 (by omega), t6 45 0 (by omega), gi_si_ne (by omega), gi_si_eq]
  · rw [t8 45 1 (by omega) (by omega), t7 45 1 (by omega), t6 45 1 (by omega), gi_si_eq]
  · rw [t8 q k (by omega) (by omega), t7 q k (by omega), t6 q k (by omega), t5 q k (by omega) (by omega) (by omega), gi_si_ne (by omega), gi_si_ne (by omega), tb q k z1 z2 z3]
  · rcases z1 with rfl | rfl
    · rw [t8 49 k (by omega) (by omega), t7 49 k (by omega), g2, if_pos ⟨rfl, z2⟩]
    · rw [t8 50 k (by omega) (by omega), h2, if_pos ⟨rfl, z2⟩]
  · rw [gL, gl_sl_ne (by omega), gl_sl_eq]
  · rw [gL, gl_sl_eq]
  · rw [gL, gl_sl_ne (by omega), gl_sl_ne (by omega), f2, if_pos ⟨rfl, hK⟩]
  · rw [big 24 1 (by omega), gi_si_ne (by omega), gi_si_ne (by omega)]
  · rw [big q k (by omega), gi_si_ne (by omega), gi_si_ne (by omega)]
/-- a machine as it begins, with s spindles and speed v -/
def Cq (m : MM) (s v : Int32) : Prop := (∀ k : Nat, 1 ≤ k → k < 15 → gi m 25 k = dfl k) ∧ gi m 25 0 = v ∧ gi m 24 1 = s ∧ (∀ i : Nat, i < 4 → Cl0 m i) ∧ (gi m 24 3 = 0 ∧ gi m 28 0 = 0 ∧ gi m 24 6 = 0 ∧ gi m 36 0 = 0 ∧ gi m 36 9 = 0 ∧ gi m 24 9 = 1 ∧ gi m 45 0 = 0 ∧ gi m 45 1 = 0 ∧ gi m 45 7 = 0 ∧ gi m 45 8 = 0) ∧ (∀ k : Nat, 11 ≤ k → k ≤ 15 → gi m 24 k = 0) ∧ (∀ q k : Nat, 30 ≤ q → q ≤ 34 → k < 8 → gi m q k = 0) ∧ (∀ q k : Nat, q = 49 ∨ q = 50 → k < 7 → gi m q k = 0) ∧ (gl m 36 7 = 0 ∧ gl m 36 8 = 0 ∧ ∀ K : Nat, K < 8 → gl m 42 K = 0)
theorem clear_s (m : MM) : ∃ m' : MM, D_X6_clear m = some m' ∧ Cq m' 1 10 := by
  unfold D_X6_clear
  rw [bnd_s, bnd_s]
  obtain ⟨m1, h1, h2, h3, h4⟩ := clr_l 4 0 FU (si (sr m 25 (va_cpy dfl (m.1 25) 0 0 15)) 24 1 1) (by omega) (by show 4 < 5000; omega)
  obtain ⟨m2, k1, ⟨g1, g2, g3, g4, g5, g6, g7⟩⟩ := clr_t m1
  have e25 : ∀ k : Nat, k < 15 → gi m2 25 k = dfl k := fun k hk => by
    rw [g7 25 k (by omega), h3 25 k (by omega), gi_si_ne (by omega), gi_sr, if_pos rfl]
    unfold va_cpy
    rw [if_pos (by omega), show 0 + (k - 0) = k by omega]
  refine ⟨m2, ?_, fun k _ hk => e25 k hk, e25 0 (by decide), ?_, fun i hi => ?_, g1, g2, g3, g4, g5⟩
  · rw [← k1, ← h1]
    rfl
  · rw [g6, h3 24 1 (by omega), gi_si_eq]
  · obtain ⟨z0, z1, z2, z3, z4, z5, z6, z7⟩ := h2 i (by omega) hi
    exact ⟨by rw [g7 i 0 (by omega)]; exact z0, by rw [g7 i 1 (by omega)]; exact z1, by rw [g7 i 2 (by omega)]; exact z2, by rw [g7 i 3 (by omega)]; exact z3, by rw [g7 i 4 (by omega)]; exact z4, by rw [g7 i 5 (by omega)]; exact z5, by rw [g7 i 6 (by omega)]; exact z6, by rw [g7 i 7 (by omega)]; exact z7⟩
theorem Cq.put {m : MM} {s v : Int32} (h : Cq m s v) (s' v' : Int32) : Cq (si (si m 24 1 s') 25 0 v') s' v' := by
  obtain ⟨h1, h2, h3, h4, ⟨a0, a1, a2, a3, a4, a5, a6, a7, a8, a9⟩, h6, h7, h8, h9⟩ := h
  have o : ∀ q k : Nat, (q ≠ 24 ∨ k ≠ 1) → (q ≠ 25 ∨ k ≠ 0) → gi (si (si m 24 1 s') 25 0 v') q k = gi m q k := fun q k z1 z2 => by rw [gi_si_ne (by omega), gi_si_ne (by omega)]
  refine ⟨fun k z1 z2 => by rw [o 25 k (by omega) (by omega)]; exact h1 k z1 z2, gi_si_eq _ _ _ _, by rw [gi_si_ne (by omega), gi_si_eq], fun i hi => ?_, ⟨by rw [o 24 3 (by omega) (by omega)]; exact a0, by rw [o 28 0 (by omega) (by omega)]; exact a1, by rw [o 24 6 (by omega) (by omega)]; exact a2, by rw [o 36 0 (by omega) (by omega)]; exact a3, by rw [o 36 9 (by omega) (by omega)]; exact a4, by rw [o 24 9 (by omega) (by omega)]; exact a5, by rw [o 45 0 (by omega) (by omega)]; exact a6, by rw [o 45 1 (by omega) (by omega)]; exact a7, by rw [o 45 7 (by omega) (by omega)]; exact a8, by rw [o 45 8 (by omega) (by omega)]; exact a9⟩, fun k z1 z2 => by rw [o 24 k (by omega) (by omega)]; exact h6 k z1 z2, fun q k z1 z2 z3 => by rw [o q k (by omega) (by omega)]; exact h7 q k z1 z2 z3, fun q k z1 z2 => by rw [o q k (by omega) (by omega)]; exact h8 q k z1 z2, h9⟩
  obtain ⟨z0, z1, z2, z3, z4, z5, z6, z7⟩ := h4 i hi
  exact ⟨by rw [o i 0 (by omega) (by omega)]; exact z0, by rw [o i 1 (by omega) (by omega)]; exact z1, by rw [o i 2 (by omega) (by omega)]; exact z2, by rw [o i 3 (by omega) (by omega)]; exact z3, by rw [o i 4 (by omega) (by omega)]; exact z4, by rw [o i 5 (by omega) (by omega)]; exact z5, by rw [o i 6 (by omega) (by omega)]; exact z6, by rw [o i 7 (by omega) (by omega)]; exact z7⟩
