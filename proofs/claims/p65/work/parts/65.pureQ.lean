/-! PURE: the plan -/
def tbI (x : Int32) (k : Nat) : Bool := x.toBitVec.getLsbD k
theorem tbI_and (a b : Int32) (k : Nat) : tbI (a &&& b) k = (tbI a k && tbI b k) := by
  unfold tbI
  rw [Int32.toBitVec_and, BitVec.getLsbD_and]
theorem tbI_or (a b : Int32) (k : Nat) : tbI (a ||| b) k = (tbI a k || tbI b k) := by
  unfold tbI
  rw [Int32.toBitVec_or, BitVec.getLsbD_or]
theorem tbI_zero (k : Nat) : tbI 0 k = false := by
  show (0#32).getLsbD k = false
  rw [BitVec.getLsbD_zero]
theorem bit3_bv : ∀ j : Nat, j < 32 → ((1 : Int32) <<< ((I j) &&& 31)).toBitVec = BitVec.twoPow 32 j := by decide +kernel
theorem tbI_bit {j : Nat} (hj : j < 32) (k : Nat) : tbI ((1 : Int32) <<< ((I j) &&& 31)) k = decide (k = j) := by
  unfold tbI
  rw [bit3_bv j hj, BitVec.getLsbD_twoPow]
  by_cases h : k = j
  · subst h; simp [hj]
  · have h2 : ¬ j = k := fun z => h z.symm
    simp [h, h2]
theorem bit3_test (a : Int32) {j : Nat} (hj : j < 32) : (a &&& ((1 : Int32) <<< ((I j) &&& 31))) = 0 ↔ tbI a j = false := by
  constructor
  · intro h
    have h2 : tbI (a &&& ((1 : Int32) <<< ((I j) &&& 31))) j = false := by rw [h, tbI_zero]
    rw [tbI_and, tbI_bit hj] at h2
    simpa using h2
  · intro h
    apply Int32.toBitVec_inj.mp
    refine BitVec.eq_of_getLsbD_eq (fun k hk => ?_)
    show tbI (a &&& ((1 : Int32) <<< ((I j) &&& 31))) k = tbI 0 k
    rw [tbI_and, tbI_bit hj, tbI_zero]
    by_cases hkj : k = j
    · subst hkj; rw [h]; rfl
    · simp [hkj]
abbrev due (w : Nat → Int32) (K : Nat) : Prop := Has w (I K) (nF w) ∧ heldC w (I K) < filC w (I K)
theorem heldC_le {w : Nat → Int32} {K : Int32} : heldC w K ≤ nS w := cntP_le _ _
theorem filC_le {w : Nat → Int32} {K : Int32} : filC w K ≤ nP w := cntP_le _ _
theorem kinds_ml {m : MM} {w : Nat → Int32} (h : R0 m w) (hv : V w) {G : Int64} (g : ∀ k : Nat, k < 64 → (tb G k = true ↔ k < nP w ∧ fil w k)) (q0 : Nat) (hh : MM) : ∀ (d i n : Nat) (v : Int32), i + d = nF w → d < n → (∀ K : Nat, K < 8 → (tbI v K = true ↔ Has w (I K) i ∧ heldC w (I K) < filC w (I K))) → ∃ v' : Int32, D_X7_kindsToLoad_5 hh m n q0 G v (I i) = some v' ∧ ∀ K : Nat, K < 8 → (tbI v' K = true ↔ due w K) := by
  obtain ⟨v1, v2, v3, v4, v5, v6, -⟩ := h.vc
  intro d
  induction d with
  | zero =>
    intro i n v hi hn hb
    obtain ⟨n, rfl⟩ : ∃ n' : Nat, n = n' + 1 := ⟨n - 1, by omega⟩
    have hi : i = nF w := by omega
    subst hi
    refine ⟨v, ?_, hb⟩
    unfold D_X7_kindsToLoad_5
    rw [h.n18 hv, if_pos (leT (Nat.le_refl _) (by omega))]
  | succ d ih =>
    intro i n v hi hn hb
    obtain ⟨n, rfl⟩ : ∃ n' : Nat, n = n' + 1 := ⟨n - 1, by omega⟩
    obtain ⟨⟨K, hK, e0⟩, ⟨p, hp, e2⟩, -⟩ := hv.fd i (by omega)
    have e0 : w (130 + 11 * i) = I K := e0
    have e2 : w (130 + 11 * i + 2) = I p := e2
    have l1 := heldC_le (w := w) (K := I K)
    have l2 := filC_le (w := w) (K := I K)
    have hd : D_X7_kindsToLoad_5 hh m (n + 1) q0 G v (I i) = if I p ≤ 0 then D_X7_kindsToLoad_5 hh m n q0 G v (I (i + 1)) else if I (filC w (I K)) ≤ I (heldC w (I K)) then D_X7_kindsToLoad_5 hh m n q0 G v (I (i + 1)) else D_X7_kindsToLoad_5 hh m n q0 G (v ||| ((1 : Int32) <<< (I K &&& 31))) (I (i + 1)) := by
      generalize hR : (if I p ≤ 0 then D_X7_kindsToLoad_5 hh m n q0 G v (I (i + 1)) else if I (filC w (I K)) ≤ I (heldC w (I K)) then D_X7_kindsToLoad_5 hh m n q0 G v (I (i + 1)) else D_X7_kindsToLoad_5 hh m n q0 G (v ||| ((1 : Int32) <<< (I K &&& 31))) (I (i + 1))) = RR
      unfold D_X7_kindsToLoad_5
      rw [h.n18 hv, if_neg (leF (by omega) (by omega)), gdI (by omega) (by omega), bnd_s, I_tnc (show i < 2147483648 by omega), h.fd0 (by omega), e0, gdI (by omega) (by omega), I_tnc (show K < 2147483648 by omega), filC_m h g (by omega), b1_s, gdJ (by omega) (by omega), h.fd2 (by omega), e2, held_m h hv, b1_s]
      simp only [bnd_s, ixs1]
      exact hR
    -- what the feeder changes
    have hs : ∀ K' : Nat, K' < 8 → (Has w (I K') (i + 1) ↔ Has w (I K') i ∨ (K' = K ∧ p ≠ 0)) := fun K' hK' => by
      constructor
      · rintro ⟨f, hf, q1, q2⟩
        by_cases hfi : f = i
        · subst hfi
          refine Or.inr ⟨(I_inj (by omega) (by omega)).mp (q1.symm.trans e0), fun z => q2 (by rw [e2, z]; rfl)⟩
        · exact Or.inl ⟨f, by omega, q1, q2⟩
      · rintro (⟨f, hf, q⟩ | ⟨q1, q2⟩)
        · exact ⟨f, by omega, q⟩
        · exact ⟨i, by omega, by rw [q1]; exact e0, fun z => q2 ((I_ne0 (by omega)).mp (e2.symm.trans z))⟩
    rw [hd]
    by_cases c1 : p = 0
    · rw [if_pos (by subst c1; decide)]
      refine ih (i + 1) n v (by omega) (by omega) (fun K' hK' => ?_)
      rw [hb K' hK', hs K' hK']
      exact ⟨fun z => ⟨Or.inl z.1, z.2⟩, fun z => ⟨z.1.resolve_right (fun q => q.2 c1), z.2⟩⟩
    · rw [if_neg (fun z => c1 ((I_ne0 (by omega)).mp ((I_le0 (by omega)).mp z)))]
      by_cases c2 : filC w (I K) ≤ heldC w (I K)
      · rw [if_pos (leT c2 (by omega))]
        refine ih (i + 1) n v (by omega) (by omega) (fun K' hK' => ?_)
        rw [hb K' hK', hs K' hK']
        refine ⟨fun z => ⟨Or.inl z.1, z.2⟩, fun z => ⟨z.1.resolve_right (fun q => ?_), z.2⟩⟩
        have := z.2
        rw [q.1] at this
        omega
      · rw [if_neg (leF (by omega) (by omega))]
        refine ih (i + 1) n _ (by omega) (by omega) (fun K' hK' => ?_)
        rw [tbI_or, tbI_bit (by omega), Bool.or_eq_true, hb K' hK', hs K' hK', decide_eq_true_iff]
        constructor
        · rintro (z | z)
          · exact ⟨Or.inl z.1, z.2⟩
          · exact ⟨Or.inr ⟨z, c1⟩, by rw [z]; omega⟩
        · rintro ⟨z1 | z1, z2⟩
          · exact Or.inl ⟨z1, z2⟩
          · exact Or.inr z1.1
theorem kinds_m {m : MM} {w : Nat → Int32} (h : R0 m w) (hv : V w) {G : Int64} (g : ∀ k : Nat, k < 64 → (tb G k = true ↔ k < nP w ∧ fil w k)) (q0 : Nat) (hh : MM) : ∃ v : Int32, D_X7_kindsToLoad q0 G hh m = some v ∧ ∀ K : Nat, K < 8 → (tbI v K = true ↔ due w K) :=
  kinds_ml h hv g q0 hh (nF w) 0 FU 0 (by omega) (by have := h.vc.2.2.2.1; show nF w < 5000; omega) (fun K hK => by
    rw [tbI_zero]
    exact ⟨fun z => Bool.noConfusion z, fun ⟨⟨f, hf, _⟩, _⟩ => by omega⟩)
theorem isDue_x {m : MM} {w : Nat → Int32} (h : R0 m w) (x : MM) (hv : V w) (K : Nat) : D_X10_isDue (I K) (pw x w) = some (if due w K then 1 else 0) := by
  obtain ⟨v1, v2, v3, v4, v5, v6, -⟩ := h.vc
  have l1 := heldC_le (w := w) (K := I K)
  have l2 := filC_le (w := w) (K := I K)
  unfold D_X10_isDue
  rw [near_x x hv v4, b1_s, filC_x x hv v5 v6, b1_s, held_x x hv v1, b1_s]
  rcases near_c v4 (I K) with ⟨e, hn⟩ | ⟨f, hf, e, q1, q2⟩
  · rw [if_pos e, if_neg (fun z => hn z.1)]
  · rw [if_neg (by rw [e]; exact I_ne_neg (by omega))]
    by_cases c : filC w (I K) ≤ heldC w (I K)
    · rw [if_pos (leT c (by omega)), if_neg (fun z => by have := z.2; omega)]
    · rw [if_neg (leF (by omega) (by omega)), if_pos ⟨⟨f, hf, q1, q2⟩, by omega⟩]
/-- an action that is possible -/
def ActOk (w : Nat → Int32) (a s t : Nat) : Prop := s < nS w ∧
  ((a = 1 ∧ t < nT w ∧ w (58 + 8 * s + 1) = -1 ∧ w (58 + 8 * s) ≠ I t ∧ w (44 + t) ≠ 0) ∨
   (a = 2 ∧ t < nF w ∧ w (58 + 8 * s + 1) = -1 ∧ (∀ K : Nat, K < nK w → w (130 + 11 * t) = I K → w (58 + 8 * s) = w (50 + K)) ∧ w (130 + 11 * t + 2) ≠ 0) ∨
   (a = 3 ∧ t = 0 ∧ w (58 + 8 * s + 1) ≠ -1 ∧ w (58 + 8 * s + 2) ≠ 1) ∨
   (a = 4 ∧ t < nP w ∧ ∃ K : Nat, K < nK w ∧ w (58 + 8 * s + 1) = I K ∧ w (58 + 8 * s + 2) ≠ 0 ∧ w (240 + 6 * t) = I K ∧ fil w t) ∨
   (a = 5 ∧ t = 0 ∧ w (58 + 8 * s + 1) ≠ -1) ∨
   (a = 6 ∧ t = 0 ∧ w (58 + 8 * s + 1) = -1 ∧ w (58 + 8 * s) ≠ -1))
theorem decode_c : ∀ a : Nat, a < 7 → ∀ s : Nat, s < 4 → ∀ t : Nat, t < 40 → ((I (10000 * a + 100 * s + t) / (100 : Int32)) - (I (10000 * a + 100 * s + t) / (100 : Int32)) / (100 : Int32) * (100 : Int32)) = I s ∧ (I (10000 * a + 100 * s + t) - I (10000 * a + 100 * s + t) / (100 : Int32) * (100 : Int32)) = I t ∧ I (10000 * a + 100 * s + t) / (10000 : Int32) = I a := by decide +kernel
theorem act_s {m : MM} {w : Nat → Int32} (h : R m w) (x : MM) {a s t : Nat} (ok : ActOk w a s t) : Act a (I s) (I t) m x w (D_X10_does (I (10000 * a + 100 * s + t)) (pw x w)) := by
  obtain ⟨v1, v2, v3, v4, v5, v6, -⟩ := h.r0.vc
  obtain ⟨hs, ok⟩ := ok
  have hat : a < 7 ∧ t < 40 := by
    rcases ok with ⟨q, q2, _⟩ | ⟨q, q2, _⟩ | ⟨q, q2, _⟩ | ⟨q, q2, _⟩ | ⟨q, q2, _⟩ | ⟨q, q2, _⟩ <;> exact ⟨by omega, by omega⟩
  obtain ⟨d1, d2, d3⟩ := decode_c a hat.1 s (by omega) t hat.2
  unfold D_X10_does
  rw [d1, d2, d3, bnd_s, bnd_s]
  simp only [b2_id]
  rcases ok with ⟨q, q2, q3, q4, q5⟩ | ⟨q, q2, q3, q4, q5⟩ | ⟨q, q2, q3, q4⟩ | ⟨q, q2, K, hK, q3, q4, q5, q6, q7⟩ | ⟨q, q2, q3⟩ | ⟨q, q2, q3, q4⟩ <;> subst q
  · rw [if_pos (by decide)]
    exact change_s h x hs q2 q3 q4 q5
  · rw [if_neg (by decide), if_pos (by decide)]
    exact pick_s h x hs q2 q3 q4 q5
  · rw [if_neg (by decide), if_neg (by decide), if_pos (by decide)]
    subst q2
    exact look_s h x hs q3 q4
  · rw [if_neg (by decide), if_neg (by decide), if_neg (by decide), if_pos (by decide)]
    obtain ⟨G, g1, -, g3⟩ := ob_x x h.v v5 v6 t
    exact place_s h x hs q2 hK q3 q4 q6 q5 (by rw [g1, g3.mpr q7])
  · rw [if_neg (by decide), if_neg (by decide), if_neg (by decide), if_neg (by decide), if_pos (by decide)]
    subst q2
    exact discard_s h x hs q3
  · rw [if_neg (by decide), if_neg (by decide), if_neg (by decide), if_neg (by decide), if_neg (by decide), if_pos (by decide)]
    subst q2
    exact clean_s h x hs q3 q4
-- answers of the plan
def dec (q a s t : Nat) (h : MM) : MM := si (si (si h q 1 (I a)) q 2 (I s)) q 3 (I t)
def cOf (q : Nat) (h : MM) : Option (Nat × Nat × Nat) → Option (Int32 × MM)
  | none => some (0, h)
  | some (a, s, t) => some (1, dec q a s t h)
def rOf : Option (Nat × Nat × Nat) → Int32
  | none => -1
  | some (a, s, t) => I (10000 * a + 100 * s + t)
theorem b2_c0 {β : Type} (q : Nat) (hh : MM) (f : Int32 → MM → Option β) : b2 (cOf q hh none) f = f 0 hh := rfl
theorem b2_c1 {β : Type} (q a s t : Nat) (hh : MM) (f : Int32 → MM → Option β) : b2 (cOf q hh (some (a, s, t))) f = f 1 (dec q a s t hh) := rfl
theorem if10 {α : Type} (x y : α) : (if (1 : Int32) = 0 then x else y) = y := if_neg (by decide)
theorem if00 {α : Type} (x y : α) : (if (0 : Int32) = 0 then x else y) = x := if_pos rfl
def Good (w : Nat → Int32) (o : Option (Nat × Nat × Nat)) : Prop := ∀ a s t : Nat, o = some (a, s, t) → ActOk w a s t
theorem Good.no {w : Nat → Int32} : Good w none := fun a s t z => by cases z
theorem Good.ye {w : Nat → Int32} {a s t : Nat} (h : ActOk w a s t) : Good w (some (a, s, t)) := fun a' s' t' z => by cases z; exact h
theorem code_x (a s t : Nat) : ((((10000 : Int32) * I a) + ((100 : Int32) * I s)) + I t) = I (10000 * a + 100 * s + t) := by
  rw [show (10000 : Int32) = I 10000 from rfl, show (100 : Int32) = I 100 from rfl, I_mul, I_mul, I_add, I_add]
theorem code_1 (c s t : Nat) : (I c + ((100 : Int32) * I s)) + I t = I (c + 100 * s + t) := by
  rw [show (100 : Int32) = I 100 from rfl, I_mul, I_add, I_add]
theorem code_2 (c s : Nat) : I c + ((100 : Int32) * I s) = I (c + 100 * s + 0) := by
  rw [show (100 : Int32) = I 100 from rfl, I_mul, I_add]
  rfl
theorem decide_d (q a s t : Nat) (h m : MM) : b2 (D_X7_decide q (I a) (I s) (I t) h m) (fun v8 m9 => if v8 = 0 ∨ v8 = 1 then some (v8, m9) else none) = some (1, dec q a s t h) := by
  unfold D_X7_decide
  rw [bnd_s, bnd_s, bnd_s, b2_s, if_pos (Or.inr rfl)]
  rfl
theorem load108 {m : MM} {w : Nat → Int32} (h : R0 m w) (x : MM) (hv : V w) {v : Int32} (hb : ∀ K : Nat, K < 8 → (tbI v K = true ↔ due w K)) (q : Nat) (hh : MM) {s : Nat} (hs : s < nS w) (h1 : w (58 + 8 * s + 1) = -1) (hno : ∀ K : Nat, K < nK w → due w K → w (50 + K) ≠ w (58 + 8 * s)) : ∀ d K n : Nat, K + d = nK w → d < n → ∃ o : Option (Nat × Nat × Nat), D_X7_findLoadOf_108 m n q (I s) v (I K) hh = cOf q hh o ∧ D_X10_loads_81 (pw x w) n (I s) (I K) = some (rOf o) ∧ Good w o ∧ ((∃ K : Nat, K < nK w ∧ due w K) ∨ o = none) := by
  obtain ⟨v1, v2, v3, v4, v5, v6, -⟩ := h.vc
  intro d
  induction d with
  | zero =>
    intro K n hi hn
    obtain ⟨n, rfl⟩ : ∃ n' : Nat, n = n' + 1 := ⟨n - 1, by omega⟩
    have hi : K = nK w := by omega
    subst hi
    refine ⟨none, ?_, ?_, Good.no, Or.inr rfl⟩
    · unfold D_X7_findLoadOf_108
      rw [h.n17 hv, if_pos (leT (Nat.le_refl _) (by omega))]
      rfl
    · unfold D_X10_loads_81
      rw [giP, hv.cnt.2.2.1, if_pos (leT (Nat.le_refl _) (by omega))]
      rfl
  | succ d ih =>
    intro K n hi hn
    obtain ⟨n, rfl⟩ : ∃ n' : Nat, n = n' + 1 := ⟨n - 1, by omega⟩
    obtain ⟨t, ht, et⟩ := hv.nz K (by omega)
    have e29 : gi m 29 K = I t := (h.nz K (by omega)).trans et
    have e27 : gi m 27 t = w (44 + t) := h.fr t ht
    have hc : D_X7_findLoadOf_108 m (n + 1) q (I s) v (I K) hh = if tbI v K = false then D_X7_findLoadOf_108 m n q (I s) v (I (K + 1)) hh else if w (44 + t) ≤ 0 then D_X7_findLoadOf_108 m n q (I s) v (I (K + 1)) hh else some (1, dec q 1 s t hh) := by
      generalize hR : (if tbI v K = false then D_X7_findLoadOf_108 m n q (I s) v (I (K + 1)) hh else if w (44 + t) ≤ 0 then D_X7_findLoadOf_108 m n q (I s) v (I (K + 1)) hh else some (1, dec q 1 s t hh)) = RR
      unfold D_X7_findLoadOf_108
      rw [h.n17 hv, if_neg (leF (by omega) (by omega)), gdI (by omega) (by omega), gdI (by omega) (by omega), I_tnc (by omega), e29, gdI (by omega) (by omega), I_tnc (by omega), e27]
      simp only [bnd_s, ixs1]
      have hd := decide_d q 1 s t hh m
      have hd : b2 (D_X7_decide q (1 : Int32) (I s) (I t) hh m) (fun v8 m9 => if v8 = 0 ∨ v8 = 1 then some (v8, m9) else none) = some (1, dec q 1 s t hh) := hd
      rw [hd, ← hR]
      by_cases c : tbI v K = false
      · rw [if_pos ((bit3_test v (by omega)).mpr c), if_pos c]
      · rw [if_neg (fun z => c ((bit3_test v (by omega)).mp z)), if_neg c]
    have hx : D_X10_loads_81 (pw x w) (n + 1) (I s) (I K) = if w (44 + t) ≤ 0 then D_X10_loads_81 (pw x w) n (I s) (I (K + 1)) else if due w K then some (I (10000 * 1 + 100 * s + t)) else D_X10_loads_81 (pw x w) n (I s) (I (K + 1)) := by
      generalize hR : (if w (44 + t) ≤ 0 then D_X10_loads_81 (pw x w) n (I s) (I (K + 1)) else if due w K then some (I (10000 * 1 + 100 * s + t)) else D_X10_loads_81 (pw x w) n (I s) (I (K + 1))) = RR
      unfold D_X10_loads_81
      rw [giP, hv.cnt.2.2.1, if_neg (leF (by omega) (by omega)), ix50, gdI (by omega) (by omega), I_tnc (by omega), giP, et, ix44, gdI (by omega) (by omega), I_tnc (by omega), giP, isDue_x h x hv, b1_s, gdJ (by omega) (by omega)]
      simp only [bnd_s, ixs1]
      have hc1 := code_1 10000 s t
      have hc1 : ((10000 : Int32) + (100 : Int32) * I s) + I t = I (10000 * 1 + 100 * s + t) := hc1
      rw [hc1, ← hR]
      by_cases c : due w K
      · rw [if_pos c, if_neg (show ¬ (1 : Int32) = 0 by decide), if_pos c]
      · rw [if_neg c, if_pos rfl, if_neg c]
    by_cases c1 : due w K
    · by_cases c2 : w (44 + t) ≤ 0
      · rw [hc, hx, if_pos c2, if_pos c2, if_neg (by rw [(hb K (by omega)).mpr c1]; decide)]
        exact ih (K + 1) n (by omega) (by omega)
      · rw [hc, hx, if_neg c2, if_neg c2, if_pos c1, if_neg (by rw [(hb K (by omega)).mpr c1]; decide)]
        refine ⟨some (1, s, t), rfl, rfl, Good.ye ⟨hs, Or.inl ⟨rfl, ht, h1, fun z => hno K (by omega) c1 (et.trans z.symm), fun z => c2 (by rw [z]; decide)⟩⟩, Or.inl ⟨K, by omega, c1⟩⟩
    · have hf : tbI v K = false := by
        cases q : tbI v K
        · rfl
        · exact absurd ((hb K (by omega)).mp q) c1
      rw [hc, hx, if_pos hf, if_neg c1, ite_self]
      exact ih (K + 1) n (by omega) (by omega)
theorem load25 {m : MM} {w : Nat → Int32} (h : R0 m w) (x : MM) (hv : V w) {v : Int32} (hb : ∀ K : Nat, K < 8 → (tbI v K = true ↔ due w K)) (q : Nat) (hh : MM) {s : Nat} (hs : s < nS w) (h1 : w (58 + 8 * s + 1) = -1) : ∀ d K n : Nat, K + d = nK w → d < n → (∀ K' : Nat, K' < K → due w K' → w (50 + K') ≠ w (58 + 8 * s)) → ∃ o : Option (Nat × Nat × Nat), D_X7_findLoadOf_25 m n q (I s) v s (I K) hh = cOf q hh o ∧ D_X10_loads_2 (pw x w) n (I s) (I K) = some (rOf o) ∧ Good w o ∧ ((∃ K : Nat, K < nK w ∧ due w K) ∨ o = none) := by
  obtain ⟨v1, v2, v3, v4, v5, v6, -⟩ := h.vc
  intro d
  induction d with
  | zero =>
    intro K n hi hn hno
    obtain ⟨n, rfl⟩ : ∃ n' : Nat, n = n' + 1 := ⟨n - 1, by omega⟩
    have hi : K = nK w := by omega
    subst hi
    have k := load108 h x hv hb q hh hs h1 hno (nK w) 0 FU (by omega) (by show nK w < 5000; omega)
    unfold D_X7_findLoadOf_25 D_X10_loads_2
    rw [h.n17 hv, giP, hv.cnt.2.2.1, if_pos (leT (Nat.le_refl _) (by omega)), if_pos (leT (Nat.le_refl _) (by omega))]
    exact k
  | succ d ih =>
    intro K n hi hn hno
    obtain ⟨n, rfl⟩ : ∃ n' : Nat, n = n' + 1 := ⟨n - 1, by omega⟩
    obtain ⟨t, ht, et⟩ := hv.nz K (by omega)
    have e29 : gi m 29 K = w (50 + K) := h.nz K (by omega)
    have es : gi m s 0 = w (58 + 8 * s) := h.sp0 hs
    have hc : D_X7_findLoadOf_25 m (n + 1) q (I s) v s (I K) hh = if tbI v K = false then D_X7_findLoadOf_25 m n q (I s) v s (I (K + 1)) hh else if w (50 + K) = w (58 + 8 * s) then (if worn w s = 0 then b2 (D_X7_decide q (2 : Int32) (I s) (near w (I K)) hh m) (fun v8 m9 => if v8 = 0 ∨ v8 = 1 then some (v8, m9) else none) else some (1, dec q 6 s 0 hh)) else D_X7_findLoadOf_25 m n q (I s) v s (I (K + 1)) hh := by
      generalize hR : (if tbI v K = false then D_X7_findLoadOf_25 m n q (I s) v s (I (K + 1)) hh else if w (50 + K) = w (58 + 8 * s) then (if worn w s = 0 then b2 (D_X7_decide q (2 : Int32) (I s) (near w (I K)) hh m) (fun v8 m9 => if v8 = 0 ∨ v8 = 1 then some (v8, m9) else none) else some (1, dec q 6 s 0 hh)) else D_X7_findLoadOf_25 m n q (I s) v s (I (K + 1)) hh) = RR
      unfold D_X7_findLoadOf_25
      rw [h.n17 hv, if_neg (leF (by omega) (by omega)), gdI (by omega) (by omega), I_tnc (by omega), e29, es, worn_m h hs, b1_s, near_m h hv, b1_s]
      simp only [bnd_s, ixs1]
      have hd := decide_d q 6 s 0 hh m
      have hd : b2 (D_X7_decide q (6 : Int32) (I s) (0 : Int32) hh m) (fun v8 m9 => if v8 = 0 ∨ v8 = 1 then some (v8, m9) else none) = some (1, dec q 6 s 0 hh) := hd
      rw [hd, ← hR]
      by_cases c : tbI v K = false
      · rw [if_pos ((bit3_test v (by omega)).mpr c), if_pos c]
      · rw [if_neg (fun z => c ((bit3_test v (by omega)).mp z)), if_neg c]
    have hx : D_X10_loads_2 (pw x w) (n + 1) (I s) (I K) = if w (50 + K) = w (58 + 8 * s) then (if due w K then (if worn w s = 0 then some (((20000 : Int32) + (100 : Int32) * I s) + near w (I K)) else some (I (10000 * 6 + 100 * s + 0))) else D_X10_loads_2 (pw x w) n (I s) (I (K + 1))) else D_X10_loads_2 (pw x w) n (I s) (I (K + 1)) := by
      generalize hR : (if w (50 + K) = w (58 + 8 * s) then (if due w K then (if worn w s = 0 then some (((20000 : Int32) + (100 : Int32) * I s) + near w (I K)) else some (I (10000 * 6 + 100 * s + 0))) else D_X10_loads_2 (pw x w) n (I s) (I (K + 1))) else D_X10_loads_2 (pw x w) n (I s) (I (K + 1))) = RR
      unfold D_X10_loads_2
      rw [giP, hv.cnt.2.2.1, if_neg (leF (by omega) (by omega)), ix50, gdI (by omega) (by omega), I_tnc (by omega), giP, oSp0P (by omega), b1_s, isDue_x h x hv, b1_s, worn_x x w (by omega), b1_s, near_x x hv v4, b1_s]
      simp only [bnd_s, ixs1]
      have hc1 := code_2 60000 s
      have hc1 : (60000 : Int32) + (100 : Int32) * I s = I (10000 * 6 + 100 * s + 0) := hc1
      rw [hc1, ← hR]
      by_cases c : due w K
      · rw [if_pos c, if_neg (show ¬ (1 : Int32) = 0 by decide), if_pos c]
      · rw [if_neg c, if_pos rfl, if_neg c]
    by_cases c1 : due w K
    · have ht1 : ¬ tbI v K = false := by rw [(hb K (by omega)).mpr c1]; decide
      by_cases c2 : w (50 + K) = w (58 + 8 * s)
      · rw [hc, hx, if_neg ht1, if_pos c2, if_pos c2, if_pos c1]
        by_cases c3 : worn w s = 0
        · rw [if_pos c3, if_pos c3]
          rcases near_c v4 (I K) with ⟨e, hn2⟩ | ⟨f, hf, e, q1, q2⟩
          · exact absurd c1.1 hn2
          · rw [e]
            refine ⟨some (2, s, f), decide_d q 2 s f hh m, congrArg some (code_1 20000 s f), Good.ye ⟨hs, Or.inr (Or.inl ⟨rfl, hf, h1, fun K' hK' q3 => ?_, q2⟩)⟩, Or.inl ⟨K, by omega, c1⟩⟩
            have := (I_inj (by omega) (by omega)).mp (q1.symm.trans q3)
            subst this
            exact c2.symm
        · rw [if_neg c3, if_neg c3]
          refine ⟨some (6, s, 0), rfl, rfl, Good.ye ⟨hs, Or.inr (Or.inr (Or.inr (Or.inr (Or.inr ⟨rfl, rfl, h1, fun z => ?_⟩))))⟩, Or.inl ⟨K, by omega, c1⟩⟩
          rw [← c2, et] at z
          exact I_ne_neg (by omega) z
      · rw [hc, hx, if_neg ht1, if_neg c2, if_neg c2]
        refine ih (K + 1) n (by omega) (by omega) (fun K' hK' hd => ?_)
        by_cases e : K' = K
        · subst e; exact c2
        · exact hno K' (by omega) hd
    · have hf : tbI v K = false := by
        cases q : tbI v K
        · rfl
        · exact absurd ((hb K (by omega)).mp q) c1
      rw [hc, hx, if_pos hf, if_neg c1, ite_self]
      refine ih (K + 1) n (by omega) (by omega) (fun K' hK' hd => ?_)
      by_cases e : K' = K
      · subst e; exact absurd hd c1
      · exact hno K' (by omega) hd
theorem findLoadOf_s {m : MM} {w : Nat → Int32} (h : R0 m w) (x : MM) (hv : V w) {v : Int32} (hb : ∀ K : Nat, K < 8 → (tbI v K = true ↔ due w K)) (q : Nat) (hh : MM) {s : Nat} (hs : s < nS w) (h1 : w (58 + 8 * s + 1) = -1) : ∃ o : Option (Nat × Nat × Nat), D_X7_findLoadOf q (I s) v hh m = cOf q hh o ∧ D_X10_loads (I s) (pw x w) = some (rOf o) ∧ Good w o ∧ ((∃ K : Nat, K < nK w ∧ due w K) ∨ o = none) := by
  obtain ⟨v1, v2, v3, -⟩ := h.vc
  have k := load25 h x hv hb q hh hs h1 (nK w) 0 FU (by omega) (by show nK w < 5000; omega) (fun K' hK' => by omega)
  unfold D_X7_findLoadOf
  rw [gdI (by omega) (by omega), I_tnc (by omega)]
  exact k
theorem rOf_no {w : Nat → Int32} {o : Option (Nat × Nat × Nat)} (h4 : nS w ≤ 4) (h6 : nT w ≤ 6) (h10 : nF w ≤ 10) (h40 : nP w ≤ 40) (hg : Good w o) : rOf o = -1 ↔ o = none := by
  constructor
  · intro z
    match o with
    | none => rfl
    | some (a, s, t) =>
      obtain ⟨hs, ok⟩ := hg a s t rfl
      have hat : a < 7 ∧ t < 40 := by
        rcases ok with ⟨q, q2, _⟩ | ⟨q, q2, _⟩ | ⟨q, q2, _⟩ | ⟨q, q2, _⟩ | ⟨q, q2, _⟩ | ⟨q, q2, _⟩ <;> exact ⟨by omega, by omega⟩
      exact absurd z (I_ne_neg (by omega))
  · intro z
    subst z
    rfl
/-- what the reference asks behind the loads -/
def rNx (rest : Option Int32) : Option (Nat × Nat × Nat) → Option Int32
  | none => rest
  | some p => some (rOf (some p))
theorem findLoad9 {m : MM} {w : Nat → Int32} (h : R0 m w) (x : MM) (hv : V w) {v : Int32} (hb : ∀ K : Nat, K < 8 → (tbI v K = true ↔ due w K)) (q : Nat) (hh : MM) : ∀ d s n : Nat, s + d = nS w → d < n → ∃ o : Option (Nat × Nat × Nat), D_X7_findLoad_9 m n q v (I s) hh = cOf q hh o ∧ D_X10_next_11 (pw x w) n (I s) = rNx (D_X10_next_57 (pw x w) FU (0 : Int32)) o ∧ Good w o ∧ ((∃ K : Nat, K < nK w ∧ due w K) ∨ o = none) := by
  obtain ⟨v1, v2, v3, v4, v5, v6, -⟩ := h.vc
  intro d
  induction d with
  | zero =>
    intro s n hi hn
    obtain ⟨n, rfl⟩ : ∃ n' : Nat, n = n' + 1 := ⟨n - 1, by omega⟩
    have hi : s = nS w := by omega
    subst hi
    refine ⟨none, ?_, ?_, Good.no, Or.inr rfl⟩
    · unfold D_X7_findLoad_9
      rw [h.n15 hv, if_pos (leT (Nat.le_refl _) (by omega))]
      rfl
    · unfold D_X10_next_11
      rw [giP, hv.cnt.1, if_pos (leT (Nat.le_refl _) (by omega))]
      rfl
  | succ d ih =>
    intro s n hi hn
    obtain ⟨n, rfl⟩ : ∃ n' : Nat, n = n' + 1 := ⟨n - 1, by omega⟩
    have e1 : gi m s 1 = w (58 + 8 * s + 1) := h.sp s 1 (by omega) (by decide)
    obtain ⟨o, k1, k2, k3, k4⟩ := ih (s + 1) n (by omega) (by omega)
    have hx : D_X10_next_11 (pw x w) (n + 1) (I s) = if w (58 + 8 * s + 1) = -1 then b1 (D_X10_loads (I s) (pw x w)) (fun v19 => if v19 = (-1 : Int32) then D_X10_next_11 (pw x w) n (I (s + 1)) else some v19) else D_X10_next_11 (pw x w) n (I (s + 1)) := by
      generalize hR : (if w (58 + 8 * s + 1) = -1 then b1 (D_X10_loads (I s) (pw x w)) (fun v19 => if v19 = (-1 : Int32) then D_X10_next_11 (pw x w) n (I (s + 1)) else some v19) else D_X10_next_11 (pw x w) n (I (s + 1))) = RR
      unfold D_X10_next_11
      rw [giP, hv.cnt.1, if_neg (leF (by omega) (by omega)), oSp1P (by omega), b1_s]
      simp only [bnd_s, ixs1]
      exact hR
    have hc : D_X7_findLoad_9 m (n + 1) q v (I s) hh = if v = 0 then some (0, hh) else if w (58 + 8 * s + 1) = -1 then b2 (D_X7_findLoadOf q (I s) v hh m) (fun v6 m7 => if v6 = 0 then D_X7_findLoad_9 m n q v (I (s + 1)) m7 else some (1, m7)) else D_X7_findLoad_9 m n q v (I (s + 1)) hh := by
      generalize hR : (if v = 0 then some (0, hh) else if w (58 + 8 * s + 1) = -1 then b2 (D_X7_findLoadOf q (I s) v hh m) (fun v6 m7 => if v6 = 0 then D_X7_findLoad_9 m n q v (I (s + 1)) m7 else some (1, m7)) else D_X7_findLoad_9 m n q v (I (s + 1)) hh) = RR
      unfold D_X7_findLoad_9
      rw [h.n15 hv, if_neg (leF (by omega) (by omega)), gdI (by omega) (by omega), I_tnc (by omega), e1]
      simp only [bnd_s, ixs1]
      exact hR
    have hv0 : v = 0 → ∀ K : Nat, K < nK w → ¬ due w K := fun z K hK hd => by
      have := (hb K (by omega)).mpr hd
      rw [z, tbI_zero] at this
      exact Bool.noConfusion this
    rw [hc, hx]
    by_cases c0 : w (58 + 8 * s + 1) = -1
    · obtain ⟨o2, j1, j2, j3, j4⟩ := findLoadOf_s h x hv hb q hh (s := s) (by omega) c0
      rw [if_pos c0, if_pos c0, j1, j2, b1_s]
      match o2, j1, j2, j3, j4 with
      | none, j1, j2, j3, j4 =>
        rw [if_pos (show rOf none = -1 from rfl)]
        by_cases c : v = 0
        · have ho : o = none := k4.resolve_left (fun ⟨K, hK, hd⟩ => hv0 c K hK hd)
          subst ho
          rw [if_pos c]
          exact ⟨none, rfl, k2, Good.no, Or.inr rfl⟩
        · rw [if_neg c]
          rw [b2_c0, if00]
          exact ⟨o, k1, k2, k3, k4⟩
      | some (a, s', t), j1, j2, j3, j4 =>
        have hdue : ∃ K : Nat, K < nK w ∧ due w K := j4.resolve_right (fun z => by cases z)
        obtain ⟨K, hK, hd⟩ := hdue
        rw [if_neg (show ¬ v = 0 from fun z => hv0 z K hK hd), if_neg (show ¬ rOf (some (a, s', t)) = -1 from fun z => by have := (rOf_no v1 v2 v4 v5 j3).mp z; cases this)]
        refine ⟨some (a, s', t), ?_, rfl, j3, Or.inl ⟨K, hK, hd⟩⟩
        rw [b2_c1, if10]
        rfl
    · rw [if_neg c0, if_neg c0]
      by_cases c : v = 0
      · have ho : o = none := k4.resolve_left (fun ⟨K, hK, hd⟩ => hv0 c K hK hd)
        subst ho
        rw [if_pos c]
        exact ⟨none, rfl, k2, Good.no, Or.inr rfl⟩
      · rw [if_neg c]
        exact ⟨o, k1, k2, k3, k4⟩
-- looks
theorem findLook2 {m : MM} {w : Nat → Int32} (h : R0 m w) (x : MM) (hv : V w) (q : Nat) (hh : MM) : ∀ d s n : Nat, s + d = nS w → d < n → ∃ o : Option (Nat × Nat × Nat), D_X7_findLook_2 m n q (I s) hh = cOf q hh o ∧ D_X10_next_57 (pw x w) n (I s) = rNx (D_X10_next_104 (pw x w) FU (0 : Int32)) o ∧ Good w o ∧ (o = none → ∀ s' : Nat, s ≤ s' → s' < nS w → w (58 + 8 * s' + 1) ≠ -1 → w (58 + 8 * s' + 2) ≠ 0) := by
  obtain ⟨v1, v2, v3, v4, v5, v6, -⟩ := h.vc
  intro d
  induction d with
  | zero =>
    intro s n hi hn
    obtain ⟨n, rfl⟩ : ∃ n' : Nat, n = n' + 1 := ⟨n - 1, by omega⟩
    have hi : s = nS w := by omega
    subst hi
    refine ⟨none, ?_, ?_, Good.no, fun _ s' a b => by omega⟩
    · unfold D_X7_findLook_2
      rw [h.n15 hv, if_pos (leT (Nat.le_refl _) (by omega))]
      rfl
    · unfold D_X10_next_57
      rw [giP, hv.cnt.1, if_pos (leT (Nat.le_refl _) (by omega))]
      rfl
  | succ d ih =>
    intro s n hi hn
    obtain ⟨n, rfl⟩ : ∃ n' : Nat, n = n' + 1 := ⟨n - 1, by omega⟩
    have e1 : gi m s 1 = w (58 + 8 * s + 1) := h.sp s 1 (by omega) (by decide)
    have e2 : gi m s 2 = w (58 + 8 * s + 2) := h.sp s 2 (by omega) (by decide)
    obtain ⟨o, k1, k2, k3, k4⟩ := ih (s + 1) n (by omega) (by omega)
    have hd := decide_d q 3 s 0 hh m
    have hd : b2 (D_X7_decide q (3 : Int32) (I s) (0 : Int32) hh m) (fun v8 m9 => if v8 = 0 ∨ v8 = 1 then some (v8, m9) else none) = some (1, dec q 3 s 0 hh) := hd
    unfold D_X7_findLook_2 D_X10_next_57
    rw [h.n15 hv, giP, hv.cnt.1, if_neg (leF (by omega) (by omega)), if_neg (leF (by omega) (by omega)), gdI (by omega) (by omega), I_tnc (by omega), e1, e2, oSp1P (by omega), oSp2P (by omega), b1_s, b1_s, hd]
    simp only [bnd_s, ixs1]
    by_cases c1 : w (58 + 8 * s + 1) = -1
    · rw [if_pos c1, if_pos c1]
      refine ⟨o, k1, k2, k3, fun z s' a b c => ?_⟩
      by_cases e : s' = s
      · subst e; exact absurd c1 c
      · exact k4 z s' (by omega) b c
    · rw [if_neg c1, if_neg c1]
      by_cases c2 : w (58 + 8 * s + 2) = 0
      · rw [if_pos c2, if_pos c2]
        refine ⟨some (3, s, 0), rfl, congrArg some (code_2 30000 s), Good.ye ⟨by omega, Or.inr (Or.inr (Or.inl ⟨rfl, rfl, c1, by rw [c2]; decide⟩))⟩, fun z => by cases z⟩
      · rw [if_neg c2, if_neg c2]
        refine ⟨o, k1, k2, k3, fun z s' a b c => ?_⟩
        by_cases e : s' = s
        · subst e; exact c2
        · exact k4 z s' (by omega) b c
-- the nearest spot
def wayK (w : Nat → Int32) (k : Nat) : Int32 := way w (w (240 + 6 * k + 1)) (w (240 + 6 * k + 2))
def bestF (w : Nat → Int32) (K : Int32) (k : Nat) (a : Int32 × Int32) : Int32 × Int32 := if w (240 + 6 * k) = K ∧ fil w k then (if a.1 = -1 then (I k, wayK w k) else if wayK w k < a.2 then (I k, wayK w k) else a) else a
theorem bestF_no {w : Nat → Int32} {K : Int32} {k : Nat} {a : Int32 × Int32} (h : ¬ (w (240 + 6 * k) = K ∧ fil w k)) : bestF w K k a = a := if_neg h
theorem bestF_1 {w : Nat → Int32} {K : Int32} {k : Nat} {a : Int32 × Int32} (h : w (240 + 6 * k) = K ∧ fil w k) (h2 : a.1 = -1) : bestF w K k a = (I k, wayK w k) := by
  unfold bestF
  rw [if_pos h, if_pos h2]
theorem bestF_2 {w : Nat → Int32} {K : Int32} {k : Nat} {a : Int32 × Int32} (h : w (240 + 6 * k) = K ∧ fil w k) (h3 : wayK w k < a.2) : bestF w K k a = (I k, wayK w k) := by
  unfold bestF
  rw [if_pos h]
  by_cases h2 : a.1 = -1
  · rw [if_pos h2]
  · rw [if_neg h2, if_pos h3]
theorem bestF_3 {w : Nat → Int32} {K : Int32} {k : Nat} {a : Int32 × Int32} (h : w (240 + 6 * k) = K ∧ fil w k) (h2 : a.1 ≠ -1) (h3 : ¬ wayK w k < a.2) : bestF w K k a = a := by
  unfold bestF
  rw [if_pos h, if_neg h2, if_neg h3]
def best (w : Nat → Int32) (K : Int32) : Int32 := (lp (bestF w K) (nP w) 0 (-1, 0)).1
theorem best_c {w : Nat → Int32} (K : Int32) : best w K = -1 ∨ ∃ k : Nat, k < nP w ∧ best w K = I k ∧ w (240 + 6 * k) = K ∧ fil w k := by
  refine lp_inv (f := bestF w K) (fun n a => a.1 = -1 ∨ ∃ k : Nat, k < n ∧ a.1 = I k ∧ w (240 + 6 * k) = K ∧ fil w k) (nP w) (fun i a hi P => ?_) (nP w) 0 (-1, 0) (by omega) (Or.inl rfl)
  have e : (bestF w K i a = (I i, wayK w i) ∧ w (240 + 6 * i) = K ∧ fil w i) ∨ bestF w K i a = a := by
    by_cases c : w (240 + 6 * i) = K ∧ fil w i
    · by_cases c3 : a.1 = -1
      · exact Or.inl ⟨bestF_1 c c3, c⟩
      · by_cases c4 : wayK w i < a.2
        · exact Or.inl ⟨bestF_2 c c4, c⟩
        · exact Or.inr (bestF_3 c c3 c4)
    · exact Or.inr (bestF_no c)
  rcases e with ⟨e, c⟩ | e
  · rw [e]
    exact Or.inr ⟨i, by omega, rfl, c⟩
  · rw [e]
    rcases P with P | ⟨f, hf, P⟩
    · exact Or.inl P
    · exact Or.inr ⟨f, by omega, P⟩
theorem best_ml {m : MM} {w : Nat → Int32} (h : R0 m w) (hv : V w) {G : Int64} {K : Int32} (g : ∀ k : Nat, k < 64 → (tb G k = true ↔ k < nP w ∧ w (240 + 6 * k) = K ∧ fil w k)) (q0 : Nat) (hh : MM) : ∀ (d i n : Nat) (b l : Int32), i + d = nP w → d < n → D_X7_nearestSpot_8 hh m n q0 G b l (I i) = some (lp (bestF w K) d i (b, l)).1 := by
  obtain ⟨v1, v2, v3, v4, v5, -⟩ := h.vc
  intro d
  induction d with
  | zero =>
    intro i n b l hi hn
    obtain ⟨n, rfl⟩ : ∃ n' : Nat, n = n' + 1 := ⟨n - 1, by omega⟩
    have hi : i = nP w := by omega
    subst hi
    unfold D_X7_nearestSpot_8
    rw [h.n19 hv, if_pos (leT (Nat.le_refl _) (by omega))]
    rfl
  | succ d ih =>
    intro i n b l hi hn
    obtain ⟨n, rfl⟩ : ∃ n' : Nat, n = n' + 1 := ⟨n - 1, by omega⟩
    have hX : gi m 38 i = w (240 + 6 * i + 1) := by rw [(h.st i (by omega)).2.1, show 241 + 6 * i = 240 + 6 * i + 1 by omega]
    have hY : gi m 39 i = w (240 + 6 * i + 2) := by rw [(h.st i (by omega)).2.2, show 242 + 6 * i = 240 + 6 * i + 2 by omega]
    have ew : way w (w (240 + 6 * i + 1)) (w (240 + 6 * i + 2)) = wayK w i := rfl
    unfold D_X7_nearestSpot_8
    rw [h.n19 hv, if_neg (leF (by omega) (by omega)), gdI (by omega) (by omega), gdI (by omega) (by omega), I_tnc (by omega), hX, hY, way_m h hv.spd, b1_s, ew]
    simp only [bnd_s, ixs1]
    show _ = some (lp (bestF w K) d (i + 1) (bestF w K i (b, l))).1
    by_cases c1 : tb G i = false
    · rw [if_pos ((bit_test G (by omega)).mpr c1), bestF_no (fun z => by rw [(g i (by omega)).mpr ⟨by omega, z⟩] at c1; exact Bool.noConfusion c1)]
      exact ih (i + 1) n b l (by omega) (by omega)
    · have c2 : w (240 + 6 * i) = K ∧ fil w i := by
        cases hq : tb G i
        · exact absurd hq c1
        · exact ((g i (by omega)).mp hq).2
      rw [if_neg (fun z => c1 ((bit_test G (by omega)).mp z))]
      by_cases c3 : b = -1
      · rw [if_pos c3, bestF_1 c2 c3]
        exact ih (i + 1) n _ _ (by omega) (by omega)
      · rw [if_neg c3]
        by_cases c4 : wayK w i < l
        · rw [if_neg (fun z => i32_le_nlt.mp z c4), bestF_2 c2 c4]
          exact ih (i + 1) n _ _ (by omega) (by omega)
        · rw [if_pos (i32_le_nlt.mpr c4), bestF_3 c2 c3 c4]
          exact ih (i + 1) n _ _ (by omega) (by omega)
theorem best_xl (x : MM) {w : Nat → Int32} (hv : V w) (h5 : nP w ≤ 40) (h6 : nQ w ≤ 20) (K : Int32) : ∀ (d i n : Nat) (b l : Int32), i + d = nP w → d < n → D_X10_bestSpot_7 (pw x w) n K b l (I i) = some (lp (bestF w K) d i (b, l)).1 := by
  intro d
  induction d with
  | zero =>
    intro i n b l hi hn
    obtain ⟨n, rfl⟩ : ∃ n' : Nat, n = n' + 1 := ⟨n - 1, by omega⟩
    have hi : i = nP w := by omega
    subst hi
    unfold D_X10_bestSpot_7
    rw [giP, hv.cnt.2.2.2.2.1, if_pos (leT (Nat.le_refl _) (by omega))]
    rfl
  | succ d ih =>
    intro i n b l hi hn
    obtain ⟨n, rfl⟩ : ∃ n' : Nat, n = n' + 1 := ⟨n - 1, by omega⟩
    have ew : way w (w (240 + 6 * i + 1)) (w (240 + 6 * i + 2)) = wayK w i := rfl
    unfold D_X10_bestSpot_7
    rw [giP, hv.cnt.2.2.2.2.1, if_neg (leF (by omega) (by omega)), oSt0P (by omega), b1_s, isFil_x x hv h5 h6 (by omega), b1_s, oSt1P (by omega), b1_s, oSt2P (by omega), b1_s, way_x x hv.spd, b1_s, ew]
    simp only [bnd_s, ixs1]
    show _ = some (lp (bestF w K) d (i + 1) (bestF w K i (b, l))).1
    by_cases c1 : w (240 + 6 * i) = K
    · rw [if_pos c1]
      by_cases c2 : fil w i
      · rw [if_pos c2, if_neg (by decide)]
        by_cases c3 : b = -1
        · rw [if_pos c3, bestF_1 ⟨c1, c2⟩ c3]
          exact ih (i + 1) n _ _ (by omega) (by omega)
        · rw [if_neg c3]
          by_cases c4 : wayK w i < l
          · rw [if_pos c4, bestF_2 ⟨c1, c2⟩ c4]
            exact ih (i + 1) n _ _ (by omega) (by omega)
          · rw [if_neg c4, bestF_3 ⟨c1, c2⟩ c3 c4]
            exact ih (i + 1) n _ _ (by omega) (by omega)
      · rw [if_neg c2, if_pos rfl, bestF_no (fun z => c2 z.2)]
        exact ih (i + 1) n b l (by omega) (by omega)
    · rw [if_neg c1, bestF_no (fun z => c1 z.1)]
      exact ih (i + 1) n b l (by omega) (by omega)
theorem best_x (x : MM) {w : Nat → Int32} (hv : V w) (h5 : nP w ≤ 40) (h6 : nQ w ≤ 20) (K : Int32) : D_X10_bestSpot K (pw x w) = some (best w K) := best_xl x hv h5 h6 K (nP w) 0 FU (-1) 0 (by omega) (by show nP w < 5000; omega)
-- a place
theorem findPlace2 {m : MM} {w : Nat → Int32} (h : R0 m w) (x : MM) (hv : V w) {G : Int64} (g : ∀ k : Nat, k < 64 → (tb G k = true ↔ k < nP w ∧ fil w k)) (hr : ∀ s' : Nat, s' < nS w → w (58 + 8 * s' + 1) ≠ -1 → w (58 + 8 * s' + 2) ≠ 0) (q : Nat) (hh : MM) : ∀ d s n : Nat, s + d = nS w → d < n → ∃ o : Option (Nat × Nat × Nat), D_X7_findPlace_2 m n q G (I s) hh = cOf q hh o ∧ D_X10_next_104 (pw x w) n (I s) = some (rOf o) ∧ Good w o := by
  obtain ⟨v1, v2, v3, v4, v5, v6, -⟩ := h.vc
  intro d
  induction d with
  | zero =>
    intro s n hi hn
    obtain ⟨n, rfl⟩ : ∃ n' : Nat, n = n' + 1 := ⟨n - 1, by omega⟩
    have hi : s = nS w := by omega
    subst hi
    refine ⟨none, ?_, ?_, Good.no⟩
    · unfold D_X7_findPlace_2
      rw [h.n15 hv, if_pos (leT (Nat.le_refl _) (by omega))]
      rfl
    · unfold D_X10_next_104
      rw [giP, hv.cnt.1, if_pos (leT (Nat.le_refl _) (by omega))]
      rfl
  | succ d ih =>
    intro s n hi hn
    obtain ⟨n, rfl⟩ : ∃ n' : Nat, n = n' + 1 := ⟨n - 1, by omega⟩
    have e1 : gi m s 1 = w (58 + 8 * s + 1) := h.sp s 1 (by omega) (by decide)
    have k := ih (s + 1) n (by omega) (by omega)
    unfold D_X7_findPlace_2 D_X10_next_104
    rw [h.n15 hv, giP, hv.cnt.1, if_neg (leF (by omega) (by omega)), if_neg (leF (by omega) (by omega)), gdI (by omega) (by omega), I_tnc (by omega), e1, oSp1P (by omega), b1_s, b1_s, bnd_s]
    by_cases c1 : w (58 + 8 * s + 1) = -1
    · rw [if_pos c1, if_pos c1, bnd_s, bnd_s, ixs1]
      exact k
    · rw [if_neg c1, if_neg c1]
      obtain ⟨K, hK, eK⟩ : ∃ K : Nat, K < nK w ∧ w (58 + 8 * s + 1) = I K := (hv.sp s (by omega)).2.1.resolve_left c1
      have gK : ∀ k : Nat, k < 64 → (tb (G &&& gl m 42 K) k = true ↔ k < nP w ∧ w (240 + 6 * k) = I K ∧ fil w k) := fun k hk => by
        rw [tb_and, Bool.and_eq_true, g k hk, h.kd' (by omega) hk]
        exact ⟨fun z => ⟨z.1.1, z.2.2, z.1.2⟩, fun z => ⟨⟨z.1, z.2.2⟩, z.1, z.2.1⟩⟩
      have eb : D_X7_nearestSpot q (G &&& gl m 42 K) hh m = some (best w (I K)) := best_ml h hv gK q hh (nP w) 0 FU (-1) 0 (by omega) (by show nP w < 5000; omega)
      rw [eK, gdI (by omega) (by omega), I_tnc (by omega), eb, b1_s, best_x x hv v5 v6, b1_s]
      have hd := decide_d q 5 s 0 hh m
      have hd : b2 (D_X7_decide q (5 : Int32) (I s) (0 : Int32) hh m) (fun v8 m9 => if v8 = 0 ∨ v8 = 1 then some (v8, m9) else none) = some (1, dec q 5 s 0 hh) := hd
      rcases best_c (w := w) (I K) with e | ⟨k, hk, e, q1, q2⟩
      · rw [e, if_pos rfl, if_pos rfl, hd]
        exact ⟨some (5, s, 0), rfl, congrArg some (code_2 50000 s), Good.ye ⟨by omega, Or.inr (Or.inr (Or.inr (Or.inr (Or.inl ⟨rfl, rfl, c1⟩))))⟩⟩
      · rw [e, if_neg (I_ne_neg (by omega)), if_neg (I_ne_neg (by omega))]
        exact ⟨some (4, s, k), decide_d q 4 s k hh m, congrArg some (code_1 40000 s k), Good.ye ⟨by omega, Or.inr (Or.inr (Or.inr (Or.inl ⟨rfl, hk, K, hK, eK, hr s (by omega) c1, q1, q2⟩)))⟩⟩
/-- the next action, on both sides -/
theorem next_s {m : MM} {w : Nat → Int32} (h : R m w) (x : MM) (q : Nat) (hh : MM) : ∃ o : Option (Nat × Nat × Nat), D_X7_next q hh m = cOf q hh o ∧ D_X10_next (pw x w) = some (rOf o) ∧ Good w o := by
  obtain ⟨v1, v2, v3, v4, v5, v6, -⟩ := h.r0.vc
  have hv := h.v
  obtain ⟨G, g1, g2⟩ := fil_m h.r0 hv
  obtain ⟨v, k1, k2⟩ := kinds_m h.r0 hv g2 q hh
  unfold D_X7_next D_X10_next D_X10_halts
  rw [h.r0.s29, giP]
  rcases hv.hlt with c | c
  · rw [c, if_pos rfl, if_neg (by decide), b1_s, if_pos rfl, g1, b1_s]
    unfold D_X7_findLoad
    rw [k1, b1_s]
    obtain ⟨o, a1, a2, a3, -⟩ := findLoad9 h.r0 x hv k2 q hh (nS w) 0 FU (by omega) (by show nS w < 5000; omega)
    have a1 : D_X7_findLoad_9 m FU q v (0 : Int32) hh = cOf q hh o := a1
    have a2 : D_X10_next_11 (pw x w) FU (0 : Int32) = rNx (D_X10_next_57 (pw x w) FU (0 : Int32)) o := a2
    rw [a1, a2]
    match o, a3 with
    | some (a, s, t), a3 =>
      refine ⟨some (a, s, t), ?_, rfl, a3⟩
      rw [b2_c1, if10]
      rfl
    | none, a3 =>
      obtain ⟨o, b1', b2', b3', b4'⟩ := findLook2 h.r0 x hv q hh (nS w) 0 FU (by omega) (by show nS w < 5000; omega)
      have b1' : D_X7_findLook q hh m = cOf q hh o := b1'
      have b2' : D_X10_next_57 (pw x w) FU (0 : Int32) = rNx (D_X10_next_104 (pw x w) FU (0 : Int32)) o := b2'
      rw [b2_c0, if00, b1']
      show ∃ o' : Option (Nat × Nat × Nat), _ = _ ∧ D_X10_next_57 (pw x w) FU (0 : Int32) = _ ∧ _
      rw [b2']
      match o, b3', b4' with
      | some (a, s, t), b3', b4' =>
        refine ⟨some (a, s, t), ?_, rfl, b3'⟩
        rw [b2_c1, if10]
        rfl
      | none, b3', b4' =>
        obtain ⟨o, c1', c2', c3'⟩ := findPlace2 h.r0 x hv g2 (fun s' hs' => b4' rfl s' (Nat.zero_le _) hs') q hh (nS w) 0 FU (by omega) (by show nS w < 5000; omega)
        have c1' : D_X7_findPlace q G hh m = cOf q hh o := c1'
        have c2' : D_X10_next_104 (pw x w) FU (0 : Int32) = some (rOf o) := c2'
        rw [b2_c0, if00, c1']
        show ∃ o' : Option (Nat × Nat × Nat), _ = _ ∧ D_X10_next_104 (pw x w) FU (0 : Int32) = _ ∧ _
        rw [c2']
        match o, c3' with
        | some (a, s, t), c3' =>
          refine ⟨some (a, s, t), ?_, rfl, c3'⟩
          rw [b2_c1, if10]
          rfl
        | none, c3' =>
          refine ⟨none, ?_, rfl, c3'⟩
          rw [b2_c0, if00]
          rfl
  · rw [c, if_neg (by decide), if_pos rfl, b1_s, if_neg (by decide)]
    exact ⟨none, rfl, rfl, Good.no⟩
