/-! PROPERTY: a cell of the script; a step of the law -/
theorem lr_s {α : Type} (x : α) : lr (some (.inr x) : Option (Nat ⊕ α)) = some x := rfl
theorem rem5 (x : Int32) : ∃ z : Int, (x - x / (100000 : Int32) * (100000 : Int32)).toInt = z ∧ -100000 < z ∧ z < 100000 := by
  have h1 := Int.mul_tdiv_add_tmod x.toInt 100000
  have h2 := Int.tmod_lt_of_pos x.toInt (b := 100000) (by decide)
  have h3 := Int.lt_tmod_of_pos x.toInt (b := 100000) (by decide)
  have hx1 := x.le_toInt
  have hx2 := x.toInt_lt
  refine ⟨x.toInt.tmod 100000, ?_, h3, h2⟩
  rw [Int32.toInt_sub, Int32.toInt_mul, Int32.toInt_div, show (100000 : Int32).toInt = 100000 by decide]
  generalize x.toInt.tdiv 100000 = q at h1
  generalize x.toInt.tmod 100000 = r at h1 h2 h3
  generalize x.toInt = a at h1 hx1 hx2
  have hq : q.bmod (2 ^ 32) = q := Int.bmod_eq_of_le (by omega) (by omega)
  rw [hq]
  rw [Int.sub_bmod_bmod]
  have hq3 : (a - q * 100000).bmod (2 ^ 32) = a - q * 100000 := Int.bmod_eq_of_le (by omega) (by omega)
  rw [hq3]
  omega
theorem abs5 (x : Int32) : ∃ c : Nat, c < 100000 ∧ (if 0 ≤ (x - x / (100000 : Int32) * (100000 : Int32)) then (x - x / (100000 : Int32) * (100000 : Int32)) else 0 - (x - x / (100000 : Int32) * (100000 : Int32))) = I c := by
  obtain ⟨z, h1, h2, h3⟩ := rem5 x
  generalize x - x / (100000 : Int32) * (100000 : Int32) = y at h1
  by_cases c : 0 ≤ y
  · rw [if_pos c]
    have := Int32.le_iff_toInt_le.mp c
    have h0 : (0 : Int32).toInt = 0 := by decide
    refine ⟨y.toNatClampNeg, ?_, I_of c⟩
    show y.toInt.toNat < 100000
    omega
  · rw [if_neg c]
    have h0 : (0 : Int32).toInt = 0 := by decide
    have hy : ¬ 0 ≤ y.toInt := fun k => c (Int32.le_iff_toInt_le.mpr (by omega))
    have e : (0 - y).toInt = -z := by
      rw [Int32.toInt_sub, h0, h1]
      exact (Int.bmod_eq_of_le (by omega) (by omega)).trans (by omega)
    have h9 : 0 ≤ 0 - y := Int32.le_iff_toInt_le.mpr (by omega)
    refine ⟨(0 - y).toNatClampNeg, ?_, I_of h9⟩
    show (0 - y).toInt.toNat < 100000
    omega
theorem cell_s {D : va_G} (hL : sL D ≤ 260) {i : Nat} (hi : i < 100000) : ∃ c : Nat, c < 100000 ∧ D_L_cell D (I i) = some (I c) := by
  unfold D_L_cell
  by_cases h0 : sL D = 0
  · rw [h0]
    exact ⟨0, by decide, if_pos rfl⟩
  · have hn : ¬ Int32.ofNat (sL D) = 0 := fun z => h0 ((I_ne0 (k := sL D) (by omega)).mp z)
    have er : I i - I i / Int32.ofNat (sL D) * Int32.ofNat (sL D) = I (i % sL D) := irem (by omega) (by omega)
    have hm : i % sL D < sL D := Nat.mod_lt _ (by omega)
    rw [if_neg hn, if_neg hn, er, gdI (by omega) hm]
    obtain ⟨c, c1, c2⟩ := abs5 (sX D (I (i % sL D)).toNatClampNeg)
    rw [c2, bnd_s]
    exact ⟨c, c1, rfl⟩
theorem Nx.le {S : Nat} {N : Nat → Nat} {w : Nat → Int32} {m' : MM} {j k : Nat} (h : Nx S (upk j N) w m') (hjk : j ≤ k) : Nx S (upk k N) w m' := by
  obtain ⟨w', ⟨h1, h2, h3⟩, h4⟩ := h
  exact ⟨w', ⟨h1, h2.gok_le h1.r0.bd.2.1 hjk, h3⟩, h4⟩
theorem Nx.le0 {S : Nat} {N : Nat → Nat} {w : Nat → Int32} {m' : MM} (h : Nx S N w m') (k : Nat) : Nx S (upk k N) w m' := by
  obtain ⟨w', ⟨h1, h2, h3⟩, h4⟩ := h
  exact ⟨w', ⟨h1, h2.gok h1.r0.bd.2.1 k, h3⟩, h4⟩
theorem lstep {D : va_G} {S : Nat} {N : Nat → Nat} {m : MM} {w : Nat → Int32} (h : Sta S N m w) (hS0 : 0 < S) (hS : S < 1000) (hN : ∀ t : Nat, t < 6 → N t < 1000) (hL : sL D ≤ 260) (hh : MM) {a : Nat} (ha : a < 1000) : ∃ h' m' : MM, D_L_step D (I a) hh m = some (h', m') ∧ HF hh h' ∧ Nx S (upk 9 N) w m' := by
  obtain ⟨e1, e2, e3, e4, e5⟩ := h.cnt hS
  obtain ⟨c0, k0, q0⟩ := cell_s hL (i := a) (by omega)
  obtain ⟨c1, k1, q1⟩ := cell_s hL (i := a + 1) (by omega)
  obtain ⟨c2, k2, q2⟩ := cell_s hL (i := a + 2) (by omega)
  have hs : c1 % S < S := Nat.mod_lt _ hS0
  have r1 : I c1 - I c1 / I S * I S = I (c1 % S) := irem (by omega) (by omega)
  have r15 : I c0 - I c0 / (15 : Int32) * (15 : Int32) = I (c0 % 15) := irem (b := 15) (by omega) (by decide)
  have r2 : I c2 - I c2 / (2 : Int32) * (2 : Int32) = I (c2 % 2) := irem (b := 2) (by omega) (by decide)
  have r3 : I c2 - I c2 / (3 : Int32) * (3 : Int32) = I (c2 % 3) := irem (b := 3) (by omega) (by decide)
  have r6 : I c2 - I c2 / (6 : Int32) * (6 : Int32) = I (c2 % 6) := irem (b := 6) (by omega) (by decide)
  have s2 : I c1 - I c1 / (2 : Int32) * (2 : Int32) = I (c1 % 2) := irem (b := 2) (by omega) (by decide)
  have s6 : I c1 - I c1 / (6 : Int32) * (6 : Int32) = I (c1 % 6) := irem (b := 6) (by omega) (by decide)
  have s9 : (1 : Int32) + (I c1 - I c1 / (9 : Int32) * (9 : Int32)) = I (1 + c1 % 9) := by
    rw [show I c1 - I c1 / (9 : Int32) * (9 : Int32) = I (c1 % 9) from irem (b := 9) (by omega) (by decide)]
    exact I_add 1 _
  have cc : D_X9_count (0 : Int32) hh m = some (.inr (I S)) := by rw [a_count0 h.1, e1]
  have a1 : I a + (1 : Int32) = I (a + 1) := I_add a 1
  have a2 : I a + (2 : Int32) = I (a + 2) := I_add a 2
  have hr : c0 % 15 < 15 := Nat.mod_lt _ (by decide)
  unfold D_L_step
  rw [a1, a2, q1, b1_s, cc, lr_s, b1_s, if_neg (fun z => by have := (I_ne0 (by omega)).mp z; omega), r1, bnd_s, q2, b1_s, q0, b1_s, r15, r2, r3, r6, s2, s6, s9]
  generalize c0 % 15 = r at hr
  have dft : ∀ {v : Int32}, 12 ≤ r → ∃ h' m' : MM, b3 (lr (D_X9_run (I (1 + c1 % 9)) hh m)) (fun v50 m51 m52 => some (m51, m52)) = some (h', m') ∧ HF hh h' ∧ Nx S (upk 9 N) w m' := fun _ => by
    obtain ⟨v, h', m', g1, g2, g3⟩ := g_run h hN hh (n := 1 + c1 % 9) (by omega) (by omega)
    exact ⟨h', m', by rw [g1, lr_s]; rfl, g2, g3.le (by omega)⟩
  rcases (show r = 0 ∨ r = 1 ∨ r = 2 ∨ r = 3 ∨ r = 4 ∨ r = 5 ∨ r = 6 ∨ r = 7 ∨ r = 8 ∨ r = 9 ∨ r = 10 ∨ r = 11 ∨ r = 12 ∨ r = 13 ∨ r = 14 by omega) with q | q | q | q | q | q | q | q | q | q | q | q | q | q | q <;> subst q
  · rw [if_pos (by decide)]
    obtain ⟨v, m', g1, g2⟩ := g_change h hS hN hh hs (Nat.mod_lt c2 (show 0 < 2 by decide))
    exact ⟨hh, m', by rw [g1, lr_s]; rfl, HF.rf _, g2.le (by omega)⟩
  · rw [if_neg (by decide), if_pos (by decide)]
    obtain ⟨v, m', g1, g2⟩ := g_pick h hS hh hs (Nat.mod_lt c2 (show 0 < 3 by decide))
    exact ⟨hh, m', by rw [g1, lr_s]; rfl, HF.rf _, g2.le (by omega)⟩
  · rw [if_neg (by decide), if_neg (by decide), if_pos (by decide)]
    obtain ⟨v, m', g1, g2⟩ := g_look h hS hh hs
    exact ⟨hh, m', by rw [g1, lr_s]; rfl, HF.rf _, g2.le (by omega)⟩
  · rw [if_neg (by decide), if_neg (by decide), if_neg (by decide), if_pos (by decide)]
    obtain ⟨v, m', g1, g2⟩ := g_place h hS hh hs (Nat.mod_lt c2 (show 0 < 6 by decide))
    exact ⟨hh, m', by rw [g1, lr_s]; rfl, HF.rf _, g2.le (by omega)⟩
  · rw [if_neg (by decide), if_neg (by decide), if_neg (by decide), if_neg (by decide), if_pos (by decide)]
    obtain ⟨v, m', g1, g2⟩ := g_discard h hS hh hs
    exact ⟨hh, m', by rw [g1, lr_s]; rfl, HF.rf _, g2.le (by omega)⟩
  · rw [if_neg (by decide), if_neg (by decide), if_neg (by decide), if_neg (by decide), if_neg (by decide), if_pos (by decide)]
    obtain ⟨v, m', g1, g2⟩ := g_clean h hS hh hs
    exact ⟨hh, m', by rw [g1, lr_s]; rfl, HF.rf _, g2.le (by omega)⟩
  · rw [if_neg (by decide), if_neg (by decide), if_neg (by decide), if_neg (by decide), if_neg (by decide), if_neg (by decide), if_pos (by decide)]
    obtain ⟨v, m', g1, g2⟩ := g_splice h hS hh (Nat.mod_lt c2 (show 0 < 3 by decide)) (q := c1 % 6) (by omega)
    exact ⟨hh, m', by rw [g1, lr_s]; rfl, HF.rf _, g2.le0 9⟩
  · rw [if_neg (by decide), if_neg (by decide), if_neg (by decide), if_neg (by decide), if_neg (by decide), if_neg (by decide), if_neg (by decide), if_pos (by decide)]
    obtain ⟨v, m', g1, g2⟩ := g_takeReel h hS hh (Nat.mod_lt c2 (show 0 < 3 by decide))
    exact ⟨hh, m', by rw [g1, lr_s]; rfl, HF.rf _, g2.le0 9⟩
  · rw [if_neg (by decide), if_neg (by decide), if_neg (by decide), if_neg (by decide), if_neg (by decide), if_neg (by decide), if_neg (by decide), if_neg (by decide), if_pos (by decide)]
    by_cases c : I (c1 % 2) = 0
    · rw [if_pos c]
      obtain ⟨v, m', g1, g2⟩ := g_leave1 h hS hh (Nat.mod_lt c2 (show 0 < 6 by decide))
      exact ⟨hh, m', by rw [g1, lr_s]; rfl, HF.rf _, g2.le0 9⟩
    · rw [if_neg c]
      obtain ⟨v, m', g1, g2⟩ := g_leave0 h hS hh (Nat.mod_lt c2 (show 0 < 6 by decide))
      exact ⟨hh, m', by rw [g1, lr_s]; rfl, HF.rf _, g2.le0 9⟩
  · rw [if_neg (by decide), if_neg (by decide), if_neg (by decide), if_neg (by decide), if_neg (by decide), if_neg (by decide), if_neg (by decide), if_neg (by decide), if_neg (by decide), if_pos (by decide)]
    obtain ⟨v, m', g1, g2⟩ := g_newBoard h hh
    exact ⟨hh, m', by rw [g1]; rfl, HF.rf _, g2.le0 9⟩
  · rw [if_neg (by decide), if_neg (by decide), if_neg (by decide), if_neg (by decide), if_neg (by decide), if_neg (by decide), if_neg (by decide), if_neg (by decide), if_neg (by decide), if_neg (by decide), if_pos (by decide)]
    obtain ⟨v, m', g1, g2⟩ := g_resume h hh
    exact ⟨hh, m', by rw [g1]; rfl, HF.rf _, g2.le0 9⟩
  · rw [if_neg (by decide), if_neg (by decide), if_neg (by decide), if_neg (by decide), if_neg (by decide), if_neg (by decide), if_neg (by decide), if_neg (by decide), if_neg (by decide), if_neg (by decide), if_neg (by decide), if_pos (by decide)]
    obtain ⟨v, m', g1, g2⟩ := g_set7 h hh (n := c1 % 6) (Nat.mod_lt c1 (show 0 < 6 by decide))
    exact ⟨hh, m', by rw [g1, lr_s]; rfl, HF.rf _, g2.le0 9⟩
  all_goals
    rw [if_neg (by decide), if_neg (by decide), if_neg (by decide), if_neg (by decide), if_neg (by decide), if_neg (by decide), if_neg (by decide), if_neg (by decide), if_neg (by decide), if_neg (by decide), if_neg (by decide), if_neg (by decide)]
    exact dft (v := 0) (by omega)
