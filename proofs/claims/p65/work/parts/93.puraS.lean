/-! PURE: the row as it begins -/
def wB (i : Nat) : Int32 := if 58 ≤ i ∧ i < 90 ∧ (i - 58) % 8 < 2 then -1 else if 240 ≤ i ∧ i < 480 ∧ 4 ≤ (i - 240) % 6 then -1 else if i = 1 then 30 else if i = 2 then 10 else if i = 3 then 8 else if i = 4 then 10 else if i = 5 then 90 else if i = 6 then 6 else if i = 7 then 2 else if i = 8 then 500 else if i = 14 then 20 else if i = 10 then 1 else if i = 24 then 1 else 0
theorem wB_sp {s : Nat} (hs : s < 4) {j : Nat} (hj : j < 8) : wB (58 + 8 * s + j) = if j < 2 then -1 else 0 := by
  unfold wB
  by_cases c : j < 2
  · rw [if_pos (by omega), if_pos c]
  · rw [if_neg (by omega), if_neg (by omega), if_neg (by omega), if_neg (by omega), if_neg (by omega), if_neg (by omega), if_neg (by omega), if_neg (by omega), if_neg (by omega), if_neg (by omega), if_neg (by omega), if_neg (by omega), if_neg (by omega), if_neg c]
theorem wB_st {k : Nat} (hk : k < 40) {j : Nat} (hj : j < 6) : wB (240 + 6 * k + j) = if 4 ≤ j then -1 else 0 := by
  unfold wB
  by_cases c : 4 ≤ j
  · rw [if_neg (by omega), if_pos (by omega), if_pos c]
  · rw [if_neg (by omega), if_neg (by omega), if_neg (by omega), if_neg (by omega), if_neg (by omega), if_neg (by omega), if_neg (by omega), if_neg (by omega), if_neg (by omega), if_neg (by omega), if_neg (by omega), if_neg (by omega), if_neg (by omega), if_neg c]
theorem wB_0 {i : Nat} (h : 15 ≤ i ∧ i < 58 ∧ i ≠ 24 ∨ 90 ≤ i ∧ i < 240 ∨ 480 ≤ i) : wB i = 0 := by
  unfold wB
  rw [if_neg (by omega), if_neg (by omega), if_neg (by omega), if_neg (by omega), if_neg (by omega), if_neg (by omega), if_neg (by omega), if_neg (by omega), if_neg (by omega), if_neg (by omega), if_neg (by omega), if_neg (by omega), if_neg (by omega)]
theorem beg_c (q : Nat) : ∀ (d k n : Nat) (x : MM), k + d = 40 → d < n → ∃ x' : MM, D_X10_begins_117 n q (I k) x = some x' ∧ (∀ i : Nat, gi x' q i = if 240 + 6 * k ≤ i ∧ i < 480 ∧ 4 ≤ (i - 240) % 6 then -1 else gi x q i) ∧ ∀ q' i : Nat, q' ≠ q → gi x' q' i = gi x q' i := by
  intro d
  induction d with
  | zero =>
    intro k n x hk hn
    obtain ⟨n, rfl⟩ : ∃ n0 : Nat, n = n0 + 1 := ⟨n - 1, by omega⟩
    have hk : k = 40 := by omega
    subst hk
    refine ⟨x, ?_, fun i => (if_neg (by omega)).symm, fun _ _ _ => rfl⟩
    rw [D_X10_begins_117, if_pos (show (40 : Int32) ≤ I 40 by decide)]
  | succ d ih =>
    intro k n x hk hn
    obtain ⟨n, rfl⟩ : ∃ n0 : Nat, n = n0 + 1 := ⟨n - 1, by omega⟩
    obtain ⟨x', h1, h2, h3⟩ := ih (k + 1) n (si (si x q (244 + 6 * k) (-1)) q (245 + 6 * k) (-1)) (by omega) (by omega)
    have e4 : (((240 : Int32) + ((6 : Int32) * I k)) + (4 : Int32)) = I (244 + 6 * k) := by
      rw [show (240 : Int32) = I 240 from rfl, show (6 : Int32) = I 6 from rfl, show (4 : Int32) = I 4 from rfl, I_mul, I_add, I_add]
      congr 1
      omega
    have e5 : (((240 : Int32) + ((6 : Int32) * I k)) + (5 : Int32)) = I (245 + 6 * k) := by
      rw [show (240 : Int32) = I 240 from rfl, show (6 : Int32) = I 6 from rfl, show (5 : Int32) = I 5 from rfl, I_mul, I_add, I_add]
      congr 1
      omega
    refine ⟨x', ?_, fun i => ?_, fun q' i hq => by rw [h3 q' i hq, gi_si_ne (by omega), gi_si_ne (by omega)]⟩
    · rw [D_X10_begins_117, if_neg (show ¬ (40 : Int32) ≤ I k from leF (a := 40) (by omega) (by decide)), e4, e5, gdI (by omega) (by omega), bnd_s, gdI (by omega) (by omega), bnd_s, bnd_s, I_tnc (by omega), I_tnc (by omega), ixs1]
      exact h1
    · rw [h2 i]
      by_cases c : 240 + 6 * (k + 1) ≤ i ∧ i < 480 ∧ 4 ≤ (i - 240) % 6
      · rw [if_pos c, if_pos (by omega)]
      · rw [if_neg c]
        by_cases c5 : i = 245 + 6 * k
        · rw [gi_si_is ⟨rfl, c5⟩, if_pos (by omega)]
        · rw [gi_si_ne (by omega)]
          by_cases c4 : i = 244 + 6 * k
          · rw [gi_si_is ⟨rfl, c4⟩, if_pos (by omega)]
          · rw [gi_si_ne (by omega), if_neg (by omega)]
theorem beg_b (q : Nat) : ∀ (d s n : Nat) (x : MM), s + d = 4 → d < n → ∃ x' : MM, D_X10_begins_80 n q (I s) x = some x' ∧ (∀ i : Nat, gi x' q i = if 58 + 8 * s ≤ i ∧ i < 90 ∧ (i - 58) % 8 < 2 then -1 else if 240 ≤ i ∧ i < 480 ∧ 4 ≤ (i - 240) % 6 then -1 else gi x q i) ∧ ∀ q' i : Nat, q' ≠ q → gi x' q' i = gi x q' i := by
  intro d
  induction d with
  | zero =>
    intro s n x hk hn
    obtain ⟨n, rfl⟩ : ∃ n0 : Nat, n = n0 + 1 := ⟨n - 1, by omega⟩
    have hk : s = 4 := by omega
    subst hk
    obtain ⟨x', h1, h2, h3⟩ := beg_c q 40 0 FU x (by omega) (by show 40 < 5000; omega)
    refine ⟨x', ?_, fun i => ?_, h3⟩
    · rw [D_X10_begins_80, if_pos (show (4 : Int32) ≤ I 4 by decide)]
      exact h1
    · rw [h2, if_neg (show ¬ (58 + 8 * 4 ≤ i ∧ i < 90 ∧ (i - 58) % 8 < 2) by omega)]
  | succ d ih =>
    intro s n x hk hn
    obtain ⟨n, rfl⟩ : ∃ n0 : Nat, n = n0 + 1 := ⟨n - 1, by omega⟩
    obtain ⟨x', h1, h2, h3⟩ := ih (s + 1) n (si (si x q (58 + 8 * s) (-1)) q (59 + 8 * s) (-1)) (by omega) (by omega)
    have e4 : (((58 : Int32) + ((8 : Int32) * I s)) + (0 : Int32)) = I (58 + 8 * s) := by
      rw [show (58 : Int32) = I 58 from rfl, show (8 : Int32) = I 8 from rfl, show (0 : Int32) = I 0 from rfl, I_mul, I_add, I_add]
      rfl
    have e5 : (((58 : Int32) + ((8 : Int32) * I s)) + (1 : Int32)) = I (59 + 8 * s) := by
      rw [show (58 : Int32) = I 58 from rfl, show (8 : Int32) = I 8 from rfl, show (1 : Int32) = I 1 from rfl, I_mul, I_add, I_add]
      congr 1
      omega
    refine ⟨x', ?_, fun i => ?_, fun q' i hq => by rw [h3 q' i hq, gi_si_ne (by omega), gi_si_ne (by omega)]⟩
    · rw [D_X10_begins_80, if_neg (show ¬ (4 : Int32) ≤ I s from leF (a := 4) (by omega) (by decide)), e4, e5, gdI (by omega) (by omega), bnd_s, gdI (by omega) (by omega), bnd_s, bnd_s, I_tnc (by omega), I_tnc (by omega), ixs1]
      exact h1
    · rw [h2 i]
      by_cases c : 58 + 8 * (s + 1) ≤ i ∧ i < 90 ∧ (i - 58) % 8 < 2
      · rw [if_pos c, if_pos (by omega)]
      · rw [if_neg c]
        by_cases c5 : i = 59 + 8 * s
        · rw [if_neg (show ¬ (240 ≤ i ∧ i < 480 ∧ 4 ≤ (i - 240) % 6) by omega), gi_si_is ⟨rfl, c5⟩, if_pos (by omega)]
        · by_cases c4 : i = 58 + 8 * s
          · rw [if_neg (show ¬ (240 ≤ i ∧ i < 480 ∧ 4 ≤ (i - 240) % 6) by omega), gi_si_ne (by omega), gi_si_is ⟨rfl, c4⟩, if_pos (by omega)]
          · rw [gi_si_ne (by omega), gi_si_ne (by omega), if_neg (show ¬ (58 + 8 * s ≤ i ∧ i < 90 ∧ (i - 58) % 8 < 2) by omega)]
theorem beg_a (q : Nat) : ∀ (d k n : Nat) (x : MM), k + d = 640 → d < n → (∀ i : Nat, i < k → gi x q i = 0) → ∃ x' : MM, D_X10_begins_2 n q (I k) x = some x' ∧ (∀ i : Nat, i < 640 → gi x' q i = wB i) ∧ ∀ q' i : Nat, q' ≠ q → gi x' q' i = gi x q' i := by
  intro d
  induction d with
  | zero =>
    intro k n x hk hn h0
    obtain ⟨n, rfl⟩ : ∃ n0 : Nat, n = n0 + 1 := ⟨n - 1, by omega⟩
    have hk : k = 640 := by omega
    subst hk
    obtain ⟨x', h1, h2, h3⟩ := beg_b q 4 0 FU (si (si (si (si (si (si (si (si (si (si (si x q 1 30) q 2 10) q 3 8) q 4 10) q 5 90) q 6 6) q 7 2) q 8 500) q 14 20) q 10 1) q 24 1) (by omega) (by show 4 < 5000; omega)
    refine ⟨x', ?_, fun i hi => ?_, fun q' i hq => ?_⟩
    · rw [D_X10_begins_2, if_pos (show (640 : Int32) ≤ I 640 by decide), bnd_s, bnd_s, bnd_s, bnd_s, bnd_s, bnd_s, bnd_s, bnd_s, bnd_s, bnd_s, bnd_s]
      exact h1
    · rw [h2 i]
      unfold wB
      simp only [gi_si, true_and, h0 i hi, Nat.mul_zero, Nat.add_zero]
      by_cases a1 : 58 ≤ i ∧ i < 90 ∧ (i - 58) % 8 < 2
      · rw [if_pos a1, if_pos a1]
      · rw [if_neg a1, if_neg a1]
        by_cases a2 : 240 ≤ i ∧ i < 480 ∧ 4 ≤ (i - 240) % 6
        · rw [if_pos a2, if_pos a2]
        · rw [if_neg a2, if_neg a2]
          by_cases b : i < 25
          · have : i = 0 ∨ i = 1 ∨ i = 2 ∨ i = 3 ∨ i = 4 ∨ i = 5 ∨ i = 6 ∨ i = 7 ∨ i = 8 ∨ i = 9 ∨ i = 10 ∨ i = 11 ∨ i = 12 ∨ i = 13 ∨ i = 14 ∨ i = 15 ∨ i = 16 ∨ i = 17 ∨ i = 18 ∨ i = 19 ∨ i = 20 ∨ i = 21 ∨ i = 22 ∨ i = 23 ∨ i = 24 := by omega
            rcases this with rfl | rfl | rfl | rfl | rfl | rfl | rfl | rfl | rfl | rfl | rfl | rfl | rfl | rfl | rfl | rfl | rfl | rfl | rfl | rfl | rfl | rfl | rfl | rfl | rfl <;> rfl
          · rw [if_neg (by omega), if_neg (by omega), if_neg (by omega), if_neg (by omega), if_neg (by omega), if_neg (by omega), if_neg (by omega), if_neg (by omega), if_neg (by omega), if_neg (by omega), if_neg (by omega), if_neg (by omega), if_neg (by omega), if_neg (by omega), if_neg (by omega), if_neg (by omega), if_neg (by omega), if_neg (by omega), if_neg (by omega), if_neg (by omega), if_neg (by omega), if_neg (by omega)]
    · rw [h3 q' i hq]
      simp only [gi_si, hq, false_and, if_false]
  | succ d ih =>
    intro k n x hk hn h0
    obtain ⟨n, rfl⟩ : ∃ n0 : Nat, n = n0 + 1 := ⟨n - 1, by omega⟩
    obtain ⟨x', h1, h2, h3⟩ := ih (k + 1) n (si x q k 0) (by omega) (by omega) (fun i hi => by
      by_cases c : i = k
      · exact gi_si_is ⟨rfl, c⟩
      · rw [gi_si_ne (by omega)]
        exact h0 i (by omega))
    refine ⟨x', ?_, h2, fun q' i hq => by rw [h3 q' i hq, gi_si_ne (by omega)]⟩
    rw [D_X10_begins_2, if_neg (show ¬ (640 : Int32) ≤ I k from leF (a := 640) (by omega) (by decide)), gdI (by omega) (by omega), bnd_s, bnd_s, I_tnc (by omega), ixs1]
    exact h1
theorem begins_x (q : Nat) (x : MM) : ∃ x' : MM, D_X10_begins q x = some x' ∧ (∀ i : Nat, i < 640 → gi x' q i = wB i) ∧ ∀ q' i : Nat, q' ≠ q → gi x' q' i = gi x q' i := beg_a q 640 0 FU x (by omega) (by show 640 < 5000; omega) (fun i hi => by omega)
/-- what holds of a row that is being read -/
def Zr (w : Nat → Int32) : Prop := w 23 = 0 ∧ (∀ f j : Nat, nF w ≤ f → f < 10 → 4 ≤ j → j < 8 → w (130 + 11 * f + j) = 0) ∧ ∀ k : Nat, nP w ≤ k → k < 40 → w (240 + 6 * k + 3) = 0 ∧ w (240 + 6 * k + 4) = -1 ∧ w (240 + 6 * k + 5) = -1
/-- machine and row as they begin -/
theorem init_R {m : MM} {w : Nat → Int32} {s v : Nat} (hm : Cq m (I s) (I v)) (s1 : 1 ≤ s) (s4 : s ≤ 4) (v1 : 1 ≤ v) (v50 : v ≤ 50) (hw : ∀ i : Nat, i < 640 → w i = if i = 15 then I s else if i = 0 then I v else wB i) : R m w ∧ Zr w := by
  obtain ⟨a1, a2, a3, a4, ⟨b0, b1, b2, b3, b4, b5, b6, b7, b8, b9⟩, c1, c2, c3, d1, d2, d3⟩ := hm
  have o : ∀ i : Nat, i < 640 → i ≠ 15 → i ≠ 0 → w i = wB i := fun i h1 h2 h3 => by rw [hw i h1, if_neg h2, if_neg h3]
  have z : ∀ i : Nat, i < 640 → (16 ≤ i ∧ i < 58 ∧ i ≠ 24 ∨ 90 ≤ i ∧ i < 240 ∨ 480 ≤ i) → w i = 0 := fun i h1 h2 => by rw [o i h1 (by omega) (by omega), wB_0 (by omega)]
  have e15 : w 15 = I s := by rw [hw 15 (by omega), if_pos rfl]
  have e0 : w 0 = I v := by rw [hw 0 (by omega), if_neg (by omega), if_pos rfl]
  have eS : nS w = s := by unfold nS; rw [e15, I_tnc (by omega)]
  have eT : nT w = 0 := by unfold nT; rw [z 16 (by omega) (by omega)]; rfl
  have eK : nK w = 0 := by unfold nK; rw [z 17 (by omega) (by omega)]; rfl
  have eF : nF w = 0 := by unfold nF; rw [z 18 (by omega) (by omega)]; rfl
  have eP : nP w = 0 := by unfold nP; rw [z 19 (by omega) (by omega)]; rfl
  have eQ : nQ w = 0 := by unfold nQ; rw [z 20 (by omega) (by omega)]; rfl
  have eL : nL w = 0 := by unfold nL; rw [z 28 (by omega) (by omega)]; rfl
  have st : ∀ j : Nat, j < 15 → gi m 25 j = w j := fun j hj => by
    by_cases c : j = 0
    · subst c
      rw [a2, e0]
    · rw [a1 j (by omega) hj, o j (by omega) (by omega) c]
      have : j = 1 ∨ j = 2 ∨ j = 3 ∨ j = 4 ∨ j = 5 ∨ j = 6 ∨ j = 7 ∨ j = 8 ∨ j = 9 ∨ j = 10 ∨ j = 11 ∨ j = 12 ∨ j = 13 ∨ j = 14 := by omega
      rcases this with rfl | rfl | rfl | rfl | rfl | rfl | rfl | rfl | rfl | rfl | rfl | rfl | rfl | rfl <;> rfl
  have sp : ∀ i j : Nat, i < 4 → j < 8 → gi m i j = w (58 + 8 * i + j) := fun i j hi hj => by
    obtain ⟨y0, y1, y2, y3, y4, y5, y6, y7⟩ := a4 i hi
    rw [o _ (by omega) (by omega) (by omega), wB_sp hi hj]
    have : j = 0 ∨ j = 1 ∨ j = 2 ∨ j = 3 ∨ j = 4 ∨ j = 5 ∨ j = 6 ∨ j = 7 := by omega
    rcases this with rfl | rfl | rfl | rfl | rfl | rfl | rfl | rfl
    · exact y0
    · exact y1
    · exact y2
    · exact y3
    · exact y4
    · exact y5
    · exact y6
    · exact y7
  refine ⟨⟨⟨?_, fun a ha => ?_⟩, ?_⟩, z 23 (by omega) (by omega), fun f j h1 h2 h3 h4 => z _ (by omega) (by omega), fun k h1 h2 => ?_⟩
  · unfold R0
    rw [eS, eT, eK, eF, eP, eQ, eL]
    refine ⟨⟨s4, by omega, by omega, by omega, by omega, by omega, by omega, fun f hf => by omega⟩, st, a3.trans e15.symm, b0.trans (z 16 (by omega) (by omega)).symm, b1.trans (z 17 (by omega) (by omega)).symm, b2.trans (z 18 (by omega) (by omega)).symm, b3.trans (z 19 (by omega) (by omega)).symm, b4.trans (z 20 (by omega) (by omega)).symm, (c1 11 (by omega) (by omega)).trans (z 21 (by omega) (by omega)).symm, (c1 12 (by omega) (by omega)).trans (z 22 (by omega) (by omega)).symm, (c1 13 (by omega) (by omega)).trans (z 23 (by omega) (by omega)).symm, b5.trans (o 24 (by omega) (by omega) (by omega)).symm, (c1 14 (by omega) (by omega)).trans (z 25 (by omega) (by omega)).symm, b8.trans (z 26 (by omega) (by omega)).symm, b9.trans (z 27 (by omega) (by omega)).symm, b6.trans (z 28 (by omega) (by omega)).symm, (c1 15 (by omega) (by omega)).trans (z 29 (by omega) (by omega)).symm, fun a ha => (c3 49 a (by omega) ha).trans (z (30 + a) (by omega) (by omega)).symm, fun t ht => by omega, fun t ht => by omega, fun i j hi hj => sp i j (by omega) hj, fun k c hk hc => (c2 (30 + c) k (by omega) (by omega) hk).trans (z _ (by omega) (by omega)).symm, fun f j hf => by omega, fun f k hf => by omega, fun k hk => by omega, fun k hk => ?_, fun k hk => ?_, fun k hk => by omega, fun K k hK hk => ?_, ⟨0, by omega, b7, fun i hi => by omega⟩, ⟨fun a b => ⟨fun ⟨i, hi, _⟩ => by omega, fun ⟨i, hi, _⟩ => by omega⟩, fun i j hi => by omega⟩⟩
    · rw [d1, tb_zero]
      exact (decide_eq_false (fun y => by omega)).symm
    · rw [d2, tb_zero]
      exact (decide_eq_false (fun y => by omega)).symm
    · rw [d3 K hK, tb_zero]
      exact (decide_eq_false (fun y => by omega)).symm
  · show gi m 50 a = w (37 + a)
    rw [c3 50 a (by omega) ha, z (37 + a) (by omega) (by omega)]
  · unfold V
    rw [eS, eT, eK, eF, eP, eQ, eL]
    refine ⟨⟨e15, z 16 (by omega) (by omega), z 17 (by omega) (by omega), z 18 (by omega) (by omega), z 19 (by omega) (by omega), z 20 (by omega) (by omega), z 28 (by omega) (by omega)⟩, ⟨⟨v, v1, v50, e0⟩, fun j hj => ?_, ⟨500, by omega, o 8 (by omega) (by omega) (by omega)⟩, ⟨0, by omega, o 9 (by omega) (by omega) (by omega)⟩, ⟨0, by omega, z 21 (by omega) (by omega)⟩, ⟨0, by omega, z 22 (by omega) (by omega)⟩⟩, Or.inl (z 29 (by omega) (by omega)), fun i hi => ?_, fun f hf => by omega, fun k hk => by omega, fun k hk => by omega, ⟨fun _ => 0, fun i hi => ?_⟩⟩
    · rcases hj with rfl | rfl | rfl | rfl | rfl
      · exact ⟨30, by omega, o 1 (by omega) (by omega) (by omega)⟩
      · exact ⟨10, by omega, o 2 (by omega) (by omega) (by omega)⟩
      · exact ⟨8, by omega, o 3 (by omega) (by omega) (by omega)⟩
      · exact ⟨10, by omega, o 4 (by omega) (by omega) (by omega)⟩
      · exact ⟨20, by omega, o 14 (by omega) (by omega) (by omega)⟩
    · have g : ∀ j : Nat, j < 8 → Sb w i j = if j < 2 then -1 else 0 := fun j hj => by
        show w (58 + 8 * i + j) = _
        rw [o _ (by omega) (by omega) (by omega), wB_sp (by omega) hj]
      exact ⟨Or.inl (g 0 (by omega)), Or.inl (g 1 (by omega)), Or.inl (g 2 (by omega)), fun _ => ⟨g 2 (by omega), g 3 (by omega)⟩⟩
    · rw [eQ] at hi
      omega
  · exact ⟨by rw [o _ (by omega) (by omega) (by omega), wB_st h2 (by omega)]; rfl, by rw [o _ (by omega) (by omega) (by omega), wB_st h2 (by omega)]; rfl, by rw [o _ (by omega) (by omega) (by omega), wB_st h2 (by omega)]; rfl⟩
