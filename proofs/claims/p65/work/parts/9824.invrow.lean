/-! PROPERTY: what stays true is true of the row that the text asks for -/
theorem cnt_none {p : Nat → Bool} : ∀ n : Nat, (∀ s : Nat, s < n → p s = false) → cntP p n = 0 := by
  intro n
  induction n with
  | zero => intro _; rfl
  | succ n ih =>
    intro h
    rw [cntP_succ, ih (fun s hs => h s (by omega)), h n (by omega)]
    rfl
theorem inv_rowG {N : Nat → Nat} (n0 : N 0 = 2) (n1 : N 1 = 1) {S : Nat} (V A Q E : Nat) (fx fp fm sx sy : Nat → Nat) (a b c : Nat) (hS : S ≤ 4) (hp : ∀ f : Nat, f < 3 → fp f ≤ 500) {w : Nat → Int32} (ho : ∀ i : Nat, i ≠ 20 → i < 600 → w i = wZ S V A Q E fx fp fm sx sy a b c i) : Inv N 0 w := by
  have c15 : w 15 = I S := (ho 15 (by omega) (by omega)).trans (wZ_15 S V A Q E fx fp fm sx sy a b c)
  have c16 : w 16 = I 2 := (ho 16 (by omega) (by omega)).trans (wZ_16 S V A Q E fx fp fm sx sy a b c)
  have c17 : w 17 = I 3 := (ho 17 (by omega) (by omega)).trans (wZ_17 S V A Q E fx fp fm sx sy a b c)
  have c18 : w 18 = I 3 := (ho 18 (by omega) (by omega)).trans (wZ_18 S V A Q E fx fp fm sx sy a b c)
  have c19 : w 19 = I 6 := (ho 19 (by omega) (by omega)).trans (wZ_19 S V A Q E fx fp fm sx sy a b c)
  have c23 : w 23 = 0 := (ho 23 (by omega) (by omega)).trans (wZ_23 S V A Q E fx fp fm sx sy a b c)
  have c27 : w 27 = 0 := (ho 27 (by omega) (by omega)).trans (wZ_27 S V A Q E fx fp fm sx sy a b c)
  have c28 : w 28 = 0 := (ho 28 (by omega) (by omega)).trans (wZ_28 S V A Q E fx fp fm sx sy a b c)
  have c31 : w 31 = 0 := (ho 31 (by omega) (by omega)).trans (wZ_31 S V A Q E fx fp fm sx sy a b c)
  have c32 : w 32 = 0 := (ho 32 (by omega) (by omega)).trans (wZ_32 S V A Q E fx fp fm sx sy a b c)
  have c33 : w 33 = 0 := (ho 33 (by omega) (by omega)).trans (wZ_33 S V A Q E fx fp fm sx sy a b c)
  have c34 : w 34 = 0 := (ho 34 (by omega) (by omega)).trans (wZ_34 S V A Q E fx fp fm sx sy a b c)
  have c35 : w 35 = 0 := (ho 35 (by omega) (by omega)).trans (wZ_35 S V A Q E fx fp fm sx sy a b c)
  have c36 : w 36 = 0 := (ho 36 (by omega) (by omega)).trans (wZ_36 S V A Q E fx fp fm sx sy a b c)
  have c37 : w 37 = 0 := (ho 37 (by omega) (by omega)).trans (wZ_37 S V A Q E fx fp fm sx sy a b c)
  have c38 : w 38 = 0 := (ho 38 (by omega) (by omega)).trans (wZ_38 S V A Q E fx fp fm sx sy a b c)
  have c39 : w 39 = 0 := (ho 39 (by omega) (by omega)).trans (wZ_39 S V A Q E fx fp fm sx sy a b c)
  have c40 : w 40 = 0 := (ho 40 (by omega) (by omega)).trans (wZ_40 S V A Q E fx fp fm sx sy a b c)
  have c41 : w 41 = 0 := (ho 41 (by omega) (by omega)).trans (wZ_41 S V A Q E fx fp fm sx sy a b c)
  have c42 : w 42 = 0 := (ho 42 (by omega) (by omega)).trans (wZ_42 S V A Q E fx fp fm sx sy a b c)
  have c43 : w 43 = 0 := (ho 43 (by omega) (by omega)).trans (wZ_43 S V A Q E fx fp fm sx sy a b c)
  have c44 : w 44 = I 2 := (ho 44 (by omega) (by omega)).trans (wZ_44 S V A Q E fx fp fm sx sy a b c)
  have c45 : w 45 = I 1 := (ho 45 (by omega) (by omega)).trans (wZ_45 S V A Q E fx fp fm sx sy a b c)
  have c50 : w 50 = I 0 := (ho 50 (by omega) (by omega)).trans (wZ_50 S V A Q E fx fp fm sx sy a b c)
  have c51 : w 51 = I 1 := (ho 51 (by omega) (by omega)).trans (wZ_51 S V A Q E fx fp fm sx sy a b c)
  have c52 : w 52 = I 0 := (ho 52 (by omega) (by omega)).trans (wZ_52 S V A Q E fx fp fm sx sy a b c)
  have c58 : w 58 = -1 := (ho 58 (by omega) (by omega)).trans (wZ_58 S V A Q E fx fp fm sx sy a b c)
  have c59 : w 59 = -1 := (ho 59 (by omega) (by omega)).trans (wZ_59 S V A Q E fx fp fm sx sy a b c)
  have c63 : w 63 = 0 := (ho 63 (by omega) (by omega)).trans (wZ_63 S V A Q E fx fp fm sx sy a b c)
  have c66 : w 66 = -1 := (ho 66 (by omega) (by omega)).trans (wZ_66 S V A Q E fx fp fm sx sy a b c)
  have c67 : w 67 = -1 := (ho 67 (by omega) (by omega)).trans (wZ_67 S V A Q E fx fp fm sx sy a b c)
  have c71 : w 71 = 0 := (ho 71 (by omega) (by omega)).trans (wZ_71 S V A Q E fx fp fm sx sy a b c)
  have c74 : w 74 = -1 := (ho 74 (by omega) (by omega)).trans (wZ_74 S V A Q E fx fp fm sx sy a b c)
  have c75 : w 75 = -1 := (ho 75 (by omega) (by omega)).trans (wZ_75 S V A Q E fx fp fm sx sy a b c)
  have c79 : w 79 = 0 := (ho 79 (by omega) (by omega)).trans (wZ_79 S V A Q E fx fp fm sx sy a b c)
  have c82 : w 82 = -1 := (ho 82 (by omega) (by omega)).trans (wZ_82 S V A Q E fx fp fm sx sy a b c)
  have c83 : w 83 = -1 := (ho 83 (by omega) (by omega)).trans (wZ_83 S V A Q E fx fp fm sx sy a b c)
  have c87 : w 87 = 0 := (ho 87 (by omega) (by omega)).trans (wZ_87 S V A Q E fx fp fm sx sy a b c)
  have c90 : w 90 = 0 + I (fp 0) := (ho 90 (by omega) (by omega)).trans (wZ_90 S V A Q E fx fp fm sx sy a b c)
  have c91 : w 91 = 0 := (ho 91 (by omega) (by omega)).trans (wZ_91 S V A Q E fx fp fm sx sy a b c)
  have c92 : w 92 = 0 := (ho 92 (by omega) (by omega)).trans (wZ_92 S V A Q E fx fp fm sx sy a b c)
  have c93 : w 93 = 0 := (ho 93 (by omega) (by omega)).trans (wZ_93 S V A Q E fx fp fm sx sy a b c)
  have c94 : w 94 = 0 := (ho 94 (by omega) (by omega)).trans (wZ_94 S V A Q E fx fp fm sx sy a b c)
  have c95 : w 95 = 0 + I (fp 1) := (ho 95 (by omega) (by omega)).trans (wZ_95 S V A Q E fx fp fm sx sy a b c)
  have c96 : w 96 = 0 := (ho 96 (by omega) (by omega)).trans (wZ_96 S V A Q E fx fp fm sx sy a b c)
  have c97 : w 97 = 0 := (ho 97 (by omega) (by omega)).trans (wZ_97 S V A Q E fx fp fm sx sy a b c)
  have c98 : w 98 = 0 := (ho 98 (by omega) (by omega)).trans (wZ_98 S V A Q E fx fp fm sx sy a b c)
  have c99 : w 99 = 0 := (ho 99 (by omega) (by omega)).trans (wZ_99 S V A Q E fx fp fm sx sy a b c)
  have c100 : w 100 = 0 + I (fp 2) := (ho 100 (by omega) (by omega)).trans (wZ_100 S V A Q E fx fp fm sx sy a b c)
  have c101 : w 101 = 0 := (ho 101 (by omega) (by omega)).trans (wZ_101 S V A Q E fx fp fm sx sy a b c)
  have c102 : w 102 = 0 := (ho 102 (by omega) (by omega)).trans (wZ_102 S V A Q E fx fp fm sx sy a b c)
  have c103 : w 103 = 0 := (ho 103 (by omega) (by omega)).trans (wZ_103 S V A Q E fx fp fm sx sy a b c)
  have c104 : w 104 = 0 := (ho 104 (by omega) (by omega)).trans (wZ_104 S V A Q E fx fp fm sx sy a b c)
  have c130 : w 130 = I 0 := (ho 130 (by omega) (by omega)).trans (wZ_130 S V A Q E fx fp fm sx sy a b c)
  have c132 : w 132 = I (fp 0) := (ho 132 (by omega) (by omega)).trans (wZ_132 S V A Q E fx fp fm sx sy a b c)
  have c134 : w 134 = 0 := (ho 134 (by omega) (by omega)).trans (wZ_134 S V A Q E fx fp fm sx sy a b c)
  have c138 : w 138 = 0 := (ho 138 (by omega) (by omega)).trans (wZ_138 S V A Q E fx fp fm sx sy a b c)
  have c139 : w 139 = 0 := (ho 139 (by omega) (by omega)).trans (wZ_139 S V A Q E fx fp fm sx sy a b c)
  have c140 : w 140 = 0 := (ho 140 (by omega) (by omega)).trans (wZ_140 S V A Q E fx fp fm sx sy a b c)
  have c141 : w 141 = I 1 := (ho 141 (by omega) (by omega)).trans (wZ_141 S V A Q E fx fp fm sx sy a b c)
  have c143 : w 143 = I (fp 1) := (ho 143 (by omega) (by omega)).trans (wZ_143 S V A Q E fx fp fm sx sy a b c)
  have c145 : w 145 = 0 := (ho 145 (by omega) (by omega)).trans (wZ_145 S V A Q E fx fp fm sx sy a b c)
  have c149 : w 149 = 0 := (ho 149 (by omega) (by omega)).trans (wZ_149 S V A Q E fx fp fm sx sy a b c)
  have c150 : w 150 = 0 := (ho 150 (by omega) (by omega)).trans (wZ_150 S V A Q E fx fp fm sx sy a b c)
  have c151 : w 151 = 0 := (ho 151 (by omega) (by omega)).trans (wZ_151 S V A Q E fx fp fm sx sy a b c)
  have c152 : w 152 = I 2 := (ho 152 (by omega) (by omega)).trans (wZ_152 S V A Q E fx fp fm sx sy a b c)
  have c154 : w 154 = I (fp 2) := (ho 154 (by omega) (by omega)).trans (wZ_154 S V A Q E fx fp fm sx sy a b c)
  have c156 : w 156 = 0 := (ho 156 (by omega) (by omega)).trans (wZ_156 S V A Q E fx fp fm sx sy a b c)
  have c160 : w 160 = 0 := (ho 160 (by omega) (by omega)).trans (wZ_160 S V A Q E fx fp fm sx sy a b c)
  have c161 : w 161 = 0 := (ho 161 (by omega) (by omega)).trans (wZ_161 S V A Q E fx fp fm sx sy a b c)
  have c162 : w 162 = 0 := (ho 162 (by omega) (by omega)).trans (wZ_162 S V A Q E fx fp fm sx sy a b c)
  have c243 : w 243 = 0 := (ho 243 (by omega) (by omega)).trans (wZ_243 S V A Q E fx fp fm sx sy a b c)
  have c249 : w 249 = 0 := (ho 249 (by omega) (by omega)).trans (wZ_249 S V A Q E fx fp fm sx sy a b c)
  have c255 : w 255 = 0 := (ho 255 (by omega) (by omega)).trans (wZ_255 S V A Q E fx fp fm sx sy a b c)
  have c261 : w 261 = 0 := (ho 261 (by omega) (by omega)).trans (wZ_261 S V A Q E fx fp fm sx sy a b c)
  have c267 : w 267 = 0 := (ho 267 (by omega) (by omega)).trans (wZ_267 S V A Q E fx fp fm sx sy a b c)
  have c273 : w 273 = 0 := (ho 273 (by omega) (by omega)).trans (wZ_273 S V A Q E fx fp fm sx sy a b c)
  clear ho
  have eS : nS w = S := by
    unfold nS
    rw [c15, I_tnc (by omega)]
  have eT : nT w = 2 := by
    unfold nT
    rw [c16]
    rfl
  have eK : nK w = 3 := by
    unfold nK
    rw [c17]
    rfl
  have eF : nF w = 3 := by
    unfold nF
    rw [c18]
    rfl
  have eP : nP w = 6 := by
    unfold nP
    rw [c19]
    rfl
  have eL : nL w = 0 := by
    unfold nL
    rw [c28]
    rfl
  have s0 : ∀ s : Nat, s < 4 → w (58 + 8 * s) = -1 ∧ w (58 + 8 * s + 1) = -1 ∧ w (58 + 8 * s + 5) = 0 := fun s hs => by
    rcases (show s = 0 ∨ s = 1 ∨ s = 2 ∨ s = 3 by omega) with q | q | q | q <;> subst q
    · exact ⟨c58, c59, c63⟩
    · exact ⟨c66, c67, c71⟩
    · exact ⟨c74, c75, c79⟩
    · exact ⟨c82, c83, c87⟩
  have ch : ∀ n : Nat, n ≤ 4 → chS w n = 0 := by
    intro n
    induction n with
    | zero => intro _; rfl
    | succ n ih =>
      intro hn
      show chS w n + w (58 + 8 * n + 5) = 0
      rw [ih (by omega), (s0 n (by omega)).2.2]
      rfl
  have nz : ∀ t : Nat, t < 2 → nzC w t S = 0 := fun t ht => cnt_none S (fun s hs => decide_eq_false (by
    rw [(s0 s (by omega)).1]
    exact fun z => I_ne_neg (by omega) z.symm))
  have hh : ∀ K : Nat, K < 3 → heldC w (I K) = 0 := fun K hK => by
    unfold heldC
    rw [eS]
    exact cnt_none S (fun s hs => decide_eq_false (by
      rw [(s0 s (by omega)).2.1]
      exact fun z => I_ne_neg (by omega) z.symm))
  have p0 := hp 0 (by omega)
  have p1 := hp 1 (by omega)
  have p2 := hp 2 (by omega)
  have f0 : fsum w 0 = fp 0 := by
    have e : wt w 0 = 0 := by
      show (w 134).toNatClampNeg = 0
      rw [c134]
      rfl
    unfold fsum
    rw [e]
    show (w 132).toNatClampNeg = fp 0
    rw [c132, I_tnc (by omega)]
  have f1 : fsum w 1 = fp 1 := by
    have e : wt w 1 = 0 := by
      show (w 145).toNatClampNeg = 0
      rw [c145]
      rfl
    unfold fsum
    rw [e]
    show (w 143).toNatClampNeg = fp 1
    rw [c143, I_tnc (by omega)]
  have f2 : fsum w 2 = fp 2 := by
    have e : wt w 2 = 0 := by
      show (w 156).toNatClampNeg = 0
      rw [c156]
      rfl
    unfold fsum
    rw [e]
    show (w 154).toNatClampNeg = fp 2
    rw [c154, I_tnc (by omega)]
  have r0 : inR w (I 0) 3 = fp 0 := by
    show 0 + (if w 130 = I 0 then fsum w 0 else 0) + (if w 141 = I 0 then fsum w 1 else 0) + (if w 152 = I 0 then fsum w 2 else 0) = fp 0
    rw [c130, c141, c152, f0, f1, f2, if_pos rfl, if_neg (by decide), if_neg (by decide)]
    omega
  have r1 : inR w (I 1) 3 = fp 1 := by
    show 0 + (if w 130 = I 1 then fsum w 0 else 0) + (if w 141 = I 1 then fsum w 1 else 0) + (if w 152 = I 1 then fsum w 2 else 0) = fp 1
    rw [c130, c141, c152, f0, f1, f2, if_neg (by decide), if_pos rfl, if_neg (by decide)]
    omega
  have r2 : inR w (I 2) 3 = fp 2 := by
    show 0 + (if w 130 = I 2 then fsum w 0 else 0) + (if w 141 = I 2 then fsum w 1 else 0) + (if w 152 = I 2 then fsum w 2 else 0) = fp 2
    rw [c130, c141, c152, f0, f1, f2, if_neg (by decide), if_neg (by decide), if_pos rfl]
    omega
  refine ⟨?_, ⟨fun _ => 0, fun i h1 h2 => ?_, ?_, Nat.zero_le _⟩, fun t ht => ?_, ?_, fun s hs K hK h1 => ?_, fun K hK => ?_, 0, ⟨c23, Nat.zero_le _⟩, fun k hk h1 => ?_⟩
  · rw [c38, c39, c40, c41, c42, c43, c23]
    rfl
  · rcases (show i = 1 ∨ i = 2 ∨ i = 3 ∨ i = 4 ∨ i = 5 ∨ i = 6 by omega) with q | q | q | q | q | q <;> subst q
    · exact c31
    · exact c32
    · exact c33
    · exact c34
    · exact c35
    · exact c36
  · rw [eL]
    rfl
  · rw [eT] at ht
    rw [eS, nz t ht]
    rcases (show t = 0 ∨ t = 1 by omega) with q | q <;> subst q
    · exact ⟨2, by omega, c44, by omega⟩
    · exact ⟨1, by omega, c45, by omega⟩
  · rw [eS, ch S hS, c31]
    rfl
  · rw [eS] at hs
    rw [eK] at hK
    rw [(s0 s (by omega)).2.1] at h1
    exact absurd h1.symm (I_ne_neg (by omega))
  · rw [eK] at hK
    show (0 : Int32) + I (inR w (I K) (nF w)) + I (heldC w (I K)) + w (90 + 5 * K + 1) + w (90 + 5 * K + 2) + w (90 + 5 * K + 3) + w (90 + 5 * K + 4) = w (90 + 5 * K)
    rw [eF, hh K hK]
    rcases (show K = 0 ∨ K = 1 ∨ K = 2 by omega) with q | q | q <;> subst q
    · rw [r0]
      show (0 : Int32) + I (fp 0) + I 0 + w 91 + w 92 + w 93 + w 94 = w 90
      rw [c90, c91, c92, c93, c94, show I 0 = (0 : Int32) from rfl]
      simp only [Int32.add_zero]
    · rw [r1]
      show (0 : Int32) + I (fp 1) + I 0 + w 96 + w 97 + w 98 + w 99 = w 95
      rw [c95, c96, c97, c98, c99, show I 0 = (0 : Int32) from rfl]
      simp only [Int32.add_zero]
    · rw [r2]
      show (0 : Int32) + I (fp 2) + I 0 + w 101 + w 102 + w 103 + w 104 = w 100
      rw [c100, c101, c102, c103, c104, show I 0 = (0 : Int32) from rfl]
      simp only [Int32.add_zero]
  · rw [eP] at hk
    refine absurd h1 ?_
    rcases (show k = 0 ∨ k = 1 ∨ k = 2 ∨ k = 3 ∨ k = 4 ∨ k = 5 by omega) with q | q | q | q | q | q <;> subst q
    · show ¬ w 243 = 1
      rw [c243]
      decide
    · show ¬ w 249 = 1
      rw [c249]
      decide
    · show ¬ w 255 = 1
      rw [c255]
      decide
    · show ¬ w 261 = 1
      rw [c261]
      decide
    · show ¬ w 267 = 1
      rw [c267]
      decide
    · show ¬ w 273 = 1
      rw [c273]
      decide
theorem inv_row {N : Nat → Nat} (n0 : N 0 = 2) (n1 : N 1 = 1) {S : Nat} (V A Q E : Nat) (fx fp fm sx sy : Nat → Nat) (a b c : Nat) (hS : S ≤ 4) (hp : ∀ f : Nat, f < 3 → fp f ≤ 500) : Inv N 0 (wZ S V A Q E fx fp fm sx sy a b c) := inv_rowG n0 n1 V A Q E fx fp fm sx sy a b c hS hp (fun _ _ _ => rfl)
