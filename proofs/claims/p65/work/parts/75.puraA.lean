/-! PURE: how many boards -/
def bF (w : Nat → Int32) (K : Nat) : Nat := if lackN w K 1 = 0 then (if ndC w (I K) = 0 then 1000 else min 1000 (1 + (inR w (I K) (nF w) + heldC w (I K) - stC w (I K) 0) / ndC w (I K))) else 0
theorem bF_le (w : Nat → Int32) (K : Nat) : bF w K ≤ 1000 := by
  unfold bF
  split
  · split
    · exact Nat.le_refl _
    · exact Nat.min_le_left _ _
  · exact Nat.zero_le _
theorem lack_iff (w : Nat → Int32) (K : Nat) {n : Nat} (h1 : 1 ≤ n) (hn : n ≤ 1000) : lackN w K n = 0 ↔ n ≤ bF w K := by
  unfold bF lackN
  generalize stC w (I K) 0 = o
  generalize ndC w (I K) = q
  generalize inR w (I K) (nF w) + heldC w (I K) = a
  rw [Nat.sub_self, Nat.zero_mul, Nat.add_zero]
  by_cases c : o - a = 0
  · rw [if_pos c]
    by_cases c2 : q = 0
    · subst c2
      rw [if_pos rfl, Nat.mul_zero, Nat.add_zero]
      exact ⟨fun _ => hn, fun _ => c⟩
    · rw [if_neg c2]
      have e : n - 1 ≤ (a - o) / q ↔ (n - 1) * q ≤ a - o := Nat.le_div_iff_mul_le (by omega)
      rw [Nat.le_min]
      constructor
      · intro z
        have := e.mpr (by omega)
        exact ⟨hn, by omega⟩
      · rintro ⟨-, z⟩
        have := e.mp (by omega)
        omega
  · rw [if_neg c]
    constructor
    · intro z; omega
    · intro z; omega
theorem bF_m {m : MM} {w : Nat → Int32} (h : R0 m w) (hv : V w) {K : Nat} (hK : K < 8) : D_X6_boardsFor (I K) m = some (I (bF w K)) := by
  obtain ⟨v1, v2, v3, v4, v5, v6, v7, v8⟩ := h.vc
  obtain ⟨b1', b2', b3'⟩ := lack_b hv v5 v4 v1 K 1 (by decide)
  have s0 := stC_le (w := w) (K := I K) (st := 0)
  have s1 := ndC_le (w := w) (K := I K)
  have e1 := miss_m h hv (K := K) (n := 1) hK (by decide) (by decide)
  have e1 : D_X6_missing (I K) (1 : Int32) m = some (I (lackN w K 1)) := e1
  have hl : lackN w K 1 ≤ 40040 := by unfold lackN; omega
  unfold D_X6_boardsFor
  rw [e1, b1_s]
  unfold bF
  by_cases c : lackN w K 1 = 0
  · rw [if_pos (by rw [c]; decide), if_pos c, need_m h hK, b1_s, inR_m h hv, b1_s, held_m h hv, b1_s, open_m h hK, b1_s, bnd_s]
    have hoa : stC w (I K) 0 ≤ inR w (I K) (nF w) + heldC w (I K) := by
      unfold lackN at c
      rw [Nat.sub_self, Nat.zero_mul, Nat.add_zero] at c
      omega
    rw [I_add, I_sub hoa]
    by_cases c2 : ndC w (I K) = 0
    · rw [if_pos c2, c2, if_neg (by decide)]
      rfl
    · have hd : (inR w (I K) (nF w) + heldC w (I K) - stC w (I K) 0) / ndC w (I K) ≤ 20004 := Nat.le_trans (Nat.div_le_self _ _) (by omega)
      rw [if_neg c2, if_pos (show (1 : Int32) ≤ I (ndC w (I K)) from leT (a := 1) (by omega) (by omega)), if_neg (fun z => c2 ((I_ne0 (by omega)).mp z)), div32 (by omega) (by omega), show (1 : Int32) = I 1 from rfl, I_add, bnd_s]
      generalize (inR w (I K) (nF w) + heldC w (I K) - stC w (I K) 0) / ndC w (I K) = g at hd ⊢
      by_cases c3 : 1 + g < 1000
      · rw [if_pos (show I (1 + g) < (1000 : Int32) from (I_lt (b := 1000) (by omega) (by decide)).mpr c3), Nat.min_eq_right (by omega)]
      · rw [if_neg (show ¬ I (1 + g) < (1000 : Int32) from fun z => c3 ((I_lt (b := 1000) (by omega) (by decide)).mp z)), Nat.min_eq_left (by omega)]
        rfl
  · rw [if_neg (show ¬ I (lackN w K 1) ≤ 0 from fun z => c ((I_ne0 (by omega)).mp ((I_le0 (by omega)).mp z))), if_neg c]
    rfl
def mnB (w : Nat → Int32) : Nat → Nat
  | 0 => 1000
  | K + 1 => min (bF w K) (mnB w K)
theorem mnB_le (w : Nat → Int32) (K : Nat) : mnB w K ≤ 1000 := by
  induction K with
  | zero => exact Nat.le_refl _
  | succ K ih => exact Nat.le_trans (Nat.min_le_right _ _) ih
theorem mnB_iff (w : Nat → Int32) (n : Nat) (hn : n ≤ 1000) : ∀ K : Nat, n ≤ mnB w K ↔ ∀ K' : Nat, K' < K → n ≤ bF w K' := by
  intro K
  induction K with
  | zero => exact ⟨fun _ K' h => by omega, fun _ => hn⟩
  | succ K ih =>
    show n ≤ min (bF w K) (mnB w K) ↔ _
    rw [Nat.le_min, ih]
    constructor
    · rintro ⟨z1, z2⟩ K' hK'
      by_cases e : K' = K
      · subst e; exact z1
      · exact z2 K' (by omega)
    · intro z
      exact ⟨z K (by omega), fun K' hK' => z K' (by omega)⟩
theorem bp_ml {m : MM} {w : Nat → Int32} (h : R0 m w) (hv : V w) (hh : MM) : ∀ d K n : Nat, K + d = nK w → d < n → D_X9_boardsPossible_6 hh m n (I (mnB w K)) (I K) = some (I (mnB w (nK w))) := by
  obtain ⟨v1, v2, v3, -⟩ := h.vc
  intro d
  induction d with
  | zero =>
    intro K n hi hn
    obtain ⟨n, rfl⟩ : ∃ n' : Nat, n = n' + 1 := ⟨n - 1, by omega⟩
    have hi : K = nK w := by omega
    subst hi
    unfold D_X9_boardsPossible_6
    rw [h.n17 hv, if_pos (leT (Nat.le_refl _) (by omega))]
  | succ d ih =>
    intro K n hi hn
    obtain ⟨n, rfl⟩ : ∃ n' : Nat, n = n' + 1 := ⟨n - 1, by omega⟩
    have l1 := bF_le w K
    have l2 := mnB_le w K
    have e : (if I (bF w K) < I (mnB w K) then I (bF w K) else I (mnB w K)) = I (mnB w (K + 1)) := by
      show _ = I (min (bF w K) (mnB w K))
      by_cases c : bF w K < mnB w K
      · rw [if_pos ((I_lt (by omega) (by omega)).mpr c), Nat.min_eq_left (by omega)]
      · rw [if_neg (fun z => c ((I_lt (by omega) (by omega)).mp z)), Nat.min_eq_right (by omega)]
    unfold D_X9_boardsPossible_6
    rw [h.n17 hv, if_neg (leF (by omega) (by omega)), bF_m h hv (by omega), b1_s, e, bnd_s, bnd_s, ixs1]
    exact ih (K + 1) n (by omega) (by omega)
theorem ie_xl {m : MM} {w : Nat → Int32} (h : R0 m w) (x : MM) (hv : V w) {N : Nat} (hN1 : 1 ≤ N) (hN : N ≤ 1000) : ∀ (d K n : Nat) (b : Int32), K + d = nK w → d < n → (b = 0 ∨ b = 1) → ((b = 1 ∧ ∀ K' : Nat, K ≤ K' → K' < nK w → lackN w K' N = 0) → D_X10_isEnough_4 (pw x w) n (I N) b (I K) = some 1) ∧ ((b = 0 ∨ ∃ K' : Nat, K ≤ K' ∧ K' < nK w ∧ ¬ lackN w K' N = 0) → D_X10_isEnough_4 (pw x w) n (I N) b (I K) = some 0) := by
  obtain ⟨v1, v2, v3, v4, v5, v6, v7, v8⟩ := h.vc
  intro d
  induction d with
  | zero =>
    intro K n b hK hn hb
    obtain ⟨n, rfl⟩ : ∃ n' : Nat, n = n' + 1 := ⟨n - 1, by omega⟩
    have hK : K = nK w := by omega
    subst hK
    have e : D_X10_isEnough_4 (pw x w) (n + 1) (I N) b (I (nK w)) = some b := by
      unfold D_X10_isEnough_4
      rw [giP, hv.cnt.2.2.1, if_pos (leT (Nat.le_refl _) (by omega)), if_pos hb]
    rw [e]
    refine ⟨fun z => by rw [z.1], ?_⟩
    rintro (z | ⟨K', a, b', _⟩)
    · rw [z]
    · omega
  | succ d ih =>
    intro K n b hK hn hb
    obtain ⟨n, rfl⟩ : ∃ n' : Nat, n = n' + 1 := ⟨n - 1, by omega⟩
    have hl : lackN w K N < 1000000 := by
      have := (lack_b hv v5 v4 v1 K N hN).1
      unfold lackN
      omega
    have hu : D_X10_isEnough_4 (pw x w) (n + 1) (I N) b (I K) = D_X10_isEnough_4 (pw x w) n (I N) (if b = 0 then 0 else if lackN w K N = 0 then 1 else 0) (I (K + 1)) := by
      generalize hB : D_X10_isEnough_4 (pw x w) n (I N) (if b = 0 then 0 else if lackN w K N = 0 then 1 else 0) (I (K + 1)) = BB
      unfold D_X10_isEnough_4
      rw [giP, hv.cnt.2.2.1, if_neg (leF (by omega) (by omega)), lacks_x h x hv (by omega) hN1 hN, b1_s]
      simp only [bnd_s, ixs1]
      by_cases c : b = 0
      · rw [if_pos c] at hB
        rw [if_pos c]; exact hB
      · rw [if_neg c] at hB
        rw [if_neg c]
        by_cases c2 : lackN w K N = 0
        · rw [if_pos c2] at hB
          rw [if_pos ((Jn_0 hl).mpr c2)]; exact hB
        · rw [if_neg c2] at hB
          rw [if_neg (fun z => c2 ((Jn_0 hl).mp z))]; exact hB
    rw [hu]
    constructor
    · rintro ⟨rfl, z⟩
      rw [if_neg (show ¬ (1 : Int32) = 0 by decide), if_pos (z K (Nat.le_refl _) (by omega))]
      exact (ih (K + 1) n 1 (by omega) (by omega) (Or.inr rfl)).1 ⟨rfl, fun K' a b' => z K' (by omega) b'⟩
    · intro z
      by_cases c : b = 0
      · rw [if_pos c]
        exact (ih (K + 1) n 0 (by omega) (by omega) (Or.inl rfl)).2 (Or.inl rfl)
      · rw [if_neg c]
        by_cases c2 : lackN w K N = 0
        · rw [if_pos c2]
          obtain ⟨K', a, b', c3⟩ := z.resolve_left c
          refine (ih (K + 1) n 1 (by omega) (by omega) (Or.inr rfl)).2 (Or.inr ⟨K', ?_, b', c3⟩)
          by_cases e : K' = K
          · subst e; exact absurd c2 c3
          · omega
        · rw [if_neg c2]
          exact (ih (K + 1) n 0 (by omega) (by omega) (Or.inl rfl)).2 (Or.inl rfl)
theorem ie_x {m : MM} {w : Nat → Int32} (h : R0 m w) (x : MM) (hv : V w) {N : Nat} (hN1 : 1 ≤ N) (hN : N ≤ 1000) : D_X10_isEnough (I N) (pw x w) = some (if N ≤ mnB w (nK w) then 1 else 0) := by
  have v3 := h.vc.2.2.1
  obtain ⟨k1, k2⟩ := ie_xl h x hv hN1 hN (nK w) 0 FU 1 (by omega) (by show nK w < 5000; omega) (Or.inr rfl)
  unfold D_X10_isEnough
  by_cases c : N ≤ mnB w (nK w)
  · rw [if_pos c]
    have z := (mnB_iff w N hN (nK w)).mp c
    exact k1 ⟨rfl, fun K' _ hK' => (lack_iff w K' hN1 hN).mpr (z K' hK')⟩
  · rw [if_neg c]
    refine k2 (Or.inr (Classical.byContradiction (fun q => c ((mnB_iff w N hN (nK w)).mpr (fun K' hK' => (lack_iff w K' hN1 hN).mp (Classical.byContradiction (fun q2 => q ⟨K', Nat.zero_le _, hK', q2⟩)))))))
theorem bp_xl {m : MM} {w : Nat → Int32} (h : R0 m w) (x : MM) (hv : V w) : ∀ d n f : Nat, n + d = mnB w (nK w) → d < f → D_X10_boardsPossible_7 f (I n) (pw x w) = some (I (mnB w (nK w)), pw x w) := by
  have l2 := mnB_le w (nK w)
  intro d
  induction d with
  | zero =>
    intro n f hd hf
    obtain ⟨f, rfl⟩ : ∃ n' : Nat, f = n' + 1 := ⟨f - 1, by omega⟩
    have hd : n = mnB w (nK w) := by omega
    unfold D_X10_boardsPossible_7
    by_cases c : 1000 ≤ n
    · rw [if_pos (show (1000 : Int32) ≤ I n from leT (a := 1000) c (by omega)), hd]
    · rw [if_neg (show ¬ (1000 : Int32) ≤ I n from leF (a := 1000) (by omega) (by decide)), ixs1, ie_x h x hv (by omega) (by omega), b1_s, if_neg (show ¬ n + 1 ≤ mnB w (nK w) by omega), if00, hd]
  | succ d ih =>
    intro n f hd hf
    obtain ⟨f, rfl⟩ : ∃ n' : Nat, f = n' + 1 := ⟨f - 1, by omega⟩
    unfold D_X10_boardsPossible_7
    rw [if_neg (show ¬ (1000 : Int32) ≤ I n from leF (a := 1000) (by omega) (by decide)), ixs1, ie_x h x hv (by omega) (by omega), b1_s, if_pos (show n + 1 ≤ mnB w (nK w) by omega), if10, bnd_s]
    exact ih (n + 1) f (by omega) (by omega)
theorem T_boardsPossible {m : MM} {w : Nat → Int32} (hR : R m w) (x h : MM) : AnsN x w (D_X9_boardsPossible h m) (D_X10_boardsPossible (pw x w)) := by
  have v3 := hR.r0.vc.2.2.1
  have l2 := mnB_le w (nK w)
  unfold D_X9_boardsPossible D_X10_boardsPossible
  rw [zeroP, bnd_s]
  exact AnsN.y (bp_ml hR.r0 hR.v h (nK w) 0 FU (by omega) (by show nK w < 5000; omega)) (bp_xl hR.r0 (th x 0) hR.v (mnB w (nK w)) 0 FU (by omega) (by show mnB w (nK w) < 5000; omega))
