/-! PURE: spots and pairs -/
theorem R0.op' {m : MM} {w : Nat → Int32} (h : R0 m w) {k : Nat} (hk : k < 64) : tb (gl m 36 7) k = true ↔ k < nP w ∧ w (240 + 6 * k + 3) = 0 := by
  rw [h.op k hk, decide_eq_true_iff, show 240 + 6 * k + 3 = 243 + 6 * k by omega]
theorem R0.fl' {m : MM} {w : Nat → Int32} (h : R0 m w) {k : Nat} (hk : k < 64) : tb (gl m 36 8) k = true ↔ k < nP w ∧ w (240 + 6 * k + 3) = 1 := by
  rw [h.fl k hk, decide_eq_true_iff, show 240 + 6 * k + 3 = 243 + 6 * k by omega]
theorem R0.kd' {m : MM} {w : Nat → Int32} (h : R0 m w) {K k : Nat} (hK : K < 8) (hk : k < 64) : tb (gl m 42 K) k = true ↔ k < nP w ∧ w (240 + 6 * k) = I K := by
  rw [h.kd K k hK hk, decide_eq_true_iff]
theorem pr_m {m : MM} {w : Nat → Int32} (h : R0 m w) (hv : V w) {i : Nat} (hi : i < nQ w) : ∃ a b : Nat, a < nP w ∧ b < nP w ∧ gi m 43 i = I a ∧ gi m 44 i = I b ∧ ∃ i' : Nat, i' < nQ w ∧ w (600 + 2 * i') = I a ∧ w (600 + 2 * i' + 1) = I b := by
  obtain ⟨i', hi', e1, e2⟩ := (h.pr.1 (gi m 43 i) (gi m 44 i)).mp ⟨i, hi, rfl, rfl⟩
  obtain ⟨ρ, hr⟩ := hv.pr
  obtain ⟨a, b, ha, hb, f1, f2, -⟩ := hr i' hi'
  rw [show 601 + 2 * i' = 600 + 2 * i' + 1 by omega] at e2
  exact ⟨a, b, ha, hb, by rw [← e1, f1], by rw [← e2, f2], i', hi', f1, f2⟩
theorem pr_x {m : MM} {w : Nat → Int32} (h : R0 m w) {a b : Nat} {i : Nat} (hi : i < nQ w) (e1 : w (600 + 2 * i) = I a) (e2 : w (600 + 2 * i + 1) = I b) : ∃ i' : Nat, i' < nQ w ∧ gi m 43 i' = I a ∧ gi m 44 i' = I b :=
  (h.pr.1 (I a) (I b)).mpr ⟨i, hi, e1, by rw [show 601 + 2 * i = 600 + 2 * i + 1 by omega]; exact e2⟩
abbrev blk_ (w : Nat → Int32) (k : Nat) : Prop := ∃ i : Nat, i < nQ w ∧ w (600 + 2 * i + 1) = I k ∧ w (240 + 6 * (w (600 + 2 * i)).toNatClampNeg + 3) = 0
abbrev fil (w : Nat → Int32) (k : Nat) : Prop := w (240 + 6 * k + 3) = 0 ∧ ¬ blk_ w k
theorem isOpen_m {m : MM} {w : Nat → Int32} (h : R0 m w) {k : Nat} (hk : k < nP w) : D_X0_isOpen (I k) m = some (if w (240 + 6 * k + 3) = 0 then 1 else 0) := by
  have v5 := h.vc.2.2.2.2.1
  have ho := h.op' (k := k) (by omega)
  unfold D_X0_isOpen
  by_cases c : w (240 + 6 * k + 3) = 0
  · rw [if_neg (fun z => by
      rw [bit_test _ (by omega)] at z
      rw [ho.mpr ⟨hk, c⟩] at z
      exact Bool.noConfusion z), if_pos c]
  · rw [if_pos ((bit_test _ (by omega)).mpr (by
      cases hb : tb (gl m 36 7) k
      · rfl
      · exact absurd (ho.mp hb).2 c)), if_neg c]
theorem isFilled_m {m : MM} {w : Nat → Int32} (h : R0 m w) {k : Nat} (hk : k < nP w) : D_X0_isFilled (I k) m = some (if w (240 + 6 * k + 3) = 1 then 1 else 0) := by
  have v5 := h.vc.2.2.2.2.1
  have ho := h.fl' (k := k) (by omega)
  unfold D_X0_isFilled
  by_cases c : w (240 + 6 * k + 3) = 1
  · rw [if_neg (fun z => by
      rw [bit_test _ (by omega)] at z
      rw [ho.mpr ⟨hk, c⟩] at z
      exact Bool.noConfusion z), if_pos c]
  · rw [if_pos ((bit_test _ (by omega)).mpr (by
      cases hb : tb (gl m 36 8) k
      · rfl
      · exact absurd (ho.mp hb).2 c)), if_neg c]
theorem fil_ml {m : MM} {w : Nat → Int32} (h : R0 m w) (hv : V w) : ∀ (d i n : Nat) (F : Int64), i + d = nQ w → d < n → ∃ G : Int64, D_X0_fillable_7 m n F (I i) = some G ∧ ∀ k : Nat, k < 64 → (tb G k = true ↔ (tb F k = true ∧ ¬ ∃ j : Nat, i ≤ j ∧ j < nQ w ∧ gi m 44 j = I k ∧ w (240 + 6 * (gi m 43 j).toNatClampNeg + 3) = 0)) := by
  obtain ⟨v1, v2, v3, v4, v5, v6, -⟩ := h.vc
  intro d
  induction d with
  | zero =>
    intro i n F hi hn
    obtain ⟨n, rfl⟩ : ∃ n' : Nat, n = n' + 1 := ⟨n - 1, by omega⟩
    have hi : i = nQ w := by omega
    subst hi
    refine ⟨F, ?_, fun k hk => ⟨fun z => ⟨z, fun ⟨j, q, q2, _⟩ => by omega⟩, fun z => z.1⟩⟩
    unfold D_X0_fillable_7
    rw [h.n20 hv, if_pos (leT (Nat.le_refl _) (by omega))]
  | succ d ih =>
    intro i n F hi hn
    obtain ⟨n, rfl⟩ : ∃ n' : Nat, n = n' + 1 := ⟨n - 1, by omega⟩
    obtain ⟨a, b, ha, hb, e1, e2, -⟩ := pr_m h hv (i := i) (by omega)
    by_cases c : w (240 + 6 * a + 3) = 0
    · obtain ⟨G, g1, g2⟩ := ih (i + 1) n (F &&& (((1 : Int64) <<< ((I b).toInt64 &&& 63)) ^^^ (-1 : Int64))) (by omega) (by omega)
      refine ⟨G, ?_, fun k hk => ?_⟩
      · unfold D_X0_fillable_7
        rw [h.n20 hv, if_neg (leF (by omega) (by omega)), gdI (by omega) (by omega), gdI (by omega) (by omega), I_tnc (by omega), e1, isOpen_m h ha, b1_s, if_pos c, if_neg (by decide), e2, bnd_s, bnd_s, ixs1]
        exact g1
      · rw [g2 k hk, tb_and, tb_not _ hk, tb_bit (by omega)]
        constructor
        · rintro ⟨z1, z2⟩
          rw [Bool.and_eq_true] at z1
          have hne : k ≠ b := fun z => by simp [z] at z1
          refine ⟨z1.1, fun ⟨j, q1, q2, q3, q4⟩ => ?_⟩
          by_cases hj : j = i
          · subst hj
            rw [e2] at q3
            exact hne ((I_inj (by omega) (by omega)).mp q3.symm)
          · exact z2 ⟨j, by omega, q2, q3, q4⟩
        · rintro ⟨z1, z2⟩
          have hne : k ≠ b := fun z => z2 ⟨i, Nat.le_refl _, by omega, by rw [e2, z], by rw [e1, I_tnc (by omega)]; exact c⟩
          refine ⟨by simp [z1, hne], fun ⟨j, q1, q⟩ => z2 ⟨j, by omega, q⟩⟩
    · obtain ⟨G, g1, g2⟩ := ih (i + 1) n F (by omega) (by omega)
      refine ⟨G, ?_, fun k hk => ?_⟩
      · unfold D_X0_fillable_7
        rw [h.n20 hv, if_neg (leF (by omega) (by omega)), gdI (by omega) (by omega), gdI (by omega) (by omega), I_tnc (by omega), e1, isOpen_m h ha, b1_s, if_neg c, if_pos rfl, bnd_s, ixs1]
        exact g1
      · rw [g2 k hk]
        constructor
        · rintro ⟨z1, z2⟩
          refine ⟨z1, fun ⟨j, q1, q2, q3, q4⟩ => ?_⟩
          by_cases hj : j = i
          · subst hj
            rw [e1, I_tnc (by omega)] at q4
            exact c q4
          · exact z2 ⟨j, by omega, q2, q3, q4⟩
        · rintro ⟨z1, z2⟩
          exact ⟨z1, fun ⟨j, q1, q⟩ => z2 ⟨j, by omega, q⟩⟩
theorem blk_m {m : MM} {w : Nat → Int32} (h : R0 m w) (hv : V w) (k : Nat) : (∃ j : Nat, 0 ≤ j ∧ j < nQ w ∧ gi m 44 j = I k ∧ w (240 + 6 * (gi m 43 j).toNatClampNeg + 3) = 0) ↔ blk_ w k := by
  constructor
  · rintro ⟨j, -, hj, q1, q2⟩
    obtain ⟨a, b, ha, hb, e1, e2, i', hi', f1, f2⟩ := pr_m h hv hj
    exact ⟨i', hi', by rw [f2, ← e2, q1], by rw [f1, ← e1]; exact q2⟩
  · rintro ⟨i, hi, q1, q2⟩
    obtain ⟨ρ, hr⟩ := hv.pr
    obtain ⟨a, b, ha, hb, f1, f2, -⟩ := hr i hi
    obtain ⟨j, hj, e1, e2⟩ := pr_x h hi f1 f2
    exact ⟨j, Nat.zero_le _, hj, by rw [e2, ← f2, q1], by rw [e1, ← f1]; exact q2⟩
theorem fil_m {m : MM} {w : Nat → Int32} (h : R0 m w) (hv : V w) : ∃ G : Int64, D_X0_fillable m = some G ∧ ∀ k : Nat, k < 64 → (tb G k = true ↔ k < nP w ∧ fil w k) := by
  have v6 := h.vc.2.2.2.2.2.1
  obtain ⟨G, g1, g2⟩ := fil_ml h hv (nQ w) 0 FU (gl m 36 7) (by omega) (by show nQ w < 5000; omega)
  refine ⟨G, g1, fun k hk => ?_⟩
  rw [g2 k hk, h.op' hk, blk_m h hv]
  exact ⟨fun z => ⟨z.1.1, z.1.2, z.2⟩, fun z => ⟨⟨z.1, z.2.1⟩, z.2.2⟩⟩
theorem isOpen_x (x : MM) (w : Nat → Int32) {k : Nat} (hk : k < 40) : D_X10_isOpen (I k) (pw x w) = some (if w (240 + 6 * k + 3) = 0 then 1 else 0) := by
  unfold D_X10_isOpen
  rw [oSt3P hk, b1_s]
  split <;> rfl
theorem ob_xl (x : MM) {w : Nat → Int32} (hv : V w) (h5 : nP w ≤ 40) (h6 : nQ w ≤ 20) (k : Nat) : ∀ (d i n : Nat) (S : Int64), i + d = nQ w → d < n → ∃ G : Int64, D_X10_openBefore_5 (pw x w) n (I k) S (I i) = some G ∧ ∀ j : Nat, j < 64 → (tb G j = true ↔ (tb S j = true ∨ ∃ i' : Nat, i ≤ i' ∧ i' < nQ w ∧ w (600 + 2 * i' + 1) = I k ∧ w (600 + 2 * i') = I j ∧ w (240 + 6 * j + 3) = 0)) := by
  intro d
  induction d with
  | zero =>
    intro i n S hi hn
    obtain ⟨n, rfl⟩ : ∃ n' : Nat, n = n' + 1 := ⟨n - 1, by omega⟩
    have hi : i = nQ w := by omega
    subst hi
    refine ⟨S, ?_, fun j hj => ⟨fun z => Or.inl z, fun z => z.elim id (fun ⟨i', q, q2, _⟩ => by omega)⟩⟩
    unfold D_X10_openBefore_5
    rw [giP, hv.cnt.2.2.2.2.2.1, if_pos (leT (Nat.le_refl _) (by omega))]
  | succ d ih =>
    intro i n S hi hn
    obtain ⟨n, rfl⟩ : ∃ n' : Nat, n = n' + 1 := ⟨n - 1, by omega⟩
    obtain ⟨ρ, hr⟩ := hv.pr
    obtain ⟨a, b, ha, hb, e1, e2, -⟩ := hr i (by omega)
    have e00 : (S ||| (0 : Int64)) = S := by
      apply tb_ext
      intro k hk
      rw [tb_or, tb_zero, Bool.or_false]
    by_cases c1 : I b = I k
    · by_cases c : w (240 + 6 * a + 3) = 0
      · obtain ⟨G, g1, g2⟩ := ih (i + 1) n (S ||| ((1 : Int64) <<< ((I a).toInt64 &&& 63))) (by omega) (by omega)
        refine ⟨G, ?_, fun j hj => ?_⟩
        · unfold D_X10_openBefore_5
          rw [giP, hv.cnt.2.2.2.2.2.1, if_neg (leF (by omega) (by omega)), ix600, ixs1, gdI (by omega) (by omega), I_tnc (by omega), giP, e2, if_pos c1, gdI (by omega) (by omega), I_tnc (by omega), giP, e1, isOpen_x x w (by omega), b1_s, if_pos c, if_neg (by decide), gdJ (by omega) (by omega), bnd_s, bnd_s, ixs1]
          exact g1
        · rw [g2 j hj, tb_or, tb_bit (by omega)]
          constructor
          · rintro (z | ⟨i', q1, q⟩)
            · rw [Bool.or_eq_true, decide_eq_true_iff] at z
              rcases z with z | z
              · exact Or.inl z
              · exact Or.inr ⟨i, Nat.le_refl _, by omega, by rw [e2]; exact c1, by rw [e1, z], by rw [z]; exact c⟩
            · exact Or.inr ⟨i', by omega, q⟩
          · rintro (z | ⟨i', q1, q2, q3, q4, q5⟩)
            · exact Or.inl (by rw [z]; rfl)
            · by_cases hi' : i' = i
              · subst hi'
                have : j = a := (I_inj (by omega) (by omega)).mp (q4.symm.trans e1)
                exact Or.inl (by simp [this])
              · exact Or.inr ⟨i', by omega, q2, q3, q4, q5⟩
      · obtain ⟨G, g1, g2⟩ := ih (i + 1) n S (by omega) (by omega)
        refine ⟨G, ?_, fun j hj => ?_⟩
        · unfold D_X10_openBefore_5
          rw [giP, hv.cnt.2.2.2.2.2.1, if_neg (leF (by omega) (by omega)), ix600, ixs1, gdI (by omega) (by omega), I_tnc (by omega), giP, e2, if_pos c1, gdI (by omega) (by omega), I_tnc (by omega), giP, e1, isOpen_x x w (by omega), b1_s, if_neg c, if_pos rfl, e00, bnd_s, bnd_s, ixs1]
          exact g1
        · rw [g2 j hj]
          constructor
          · rintro (z | ⟨i', q1, q⟩)
            · exact Or.inl z
            · exact Or.inr ⟨i', by omega, q⟩
          · rintro (z | ⟨i', q1, q2, q3, q4, q5⟩)
            · exact Or.inl z
            · by_cases hi' : i' = i
              · subst hi'
                have : j = a := (I_inj (by omega) (by omega)).mp (q4.symm.trans e1)
                subst this
                exact absurd q5 c
              · exact Or.inr ⟨i', by omega, q2, q3, q4, q5⟩
    · obtain ⟨G, g1, g2⟩ := ih (i + 1) n S (by omega) (by omega)
      refine ⟨G, ?_, fun j hj => ?_⟩
      · unfold D_X10_openBefore_5
        rw [giP, hv.cnt.2.2.2.2.2.1, if_neg (leF (by omega) (by omega)), ix600, ixs1, gdI (by omega) (by omega), I_tnc (by omega), giP, e2, if_neg c1, e00, bnd_s, bnd_s, ixs1]
        exact g1
      · rw [g2 j hj]
        constructor
        · rintro (z | ⟨i', q1, q⟩)
          · exact Or.inl z
          · exact Or.inr ⟨i', by omega, q⟩
        · rintro (z | ⟨i', q1, q2, q3, q4, q5⟩)
          · exact Or.inl z
          · by_cases hi' : i' = i
            · subst hi'
              exact absurd (e2.symm.trans q3) c1
            · exact Or.inr ⟨i', by omega, q2, q3, q4, q5⟩
theorem ob_x (x : MM) {w : Nat → Int32} (hv : V w) (h5 : nP w ≤ 40) (h6 : nQ w ≤ 20) (k : Nat) : ∃ G : Int64, D_X10_openBefore (I k) (pw x w) = some G ∧ (∀ j : Nat, j < 64 → (tb G j = true ↔ ∃ i : Nat, i < nQ w ∧ w (600 + 2 * i + 1) = I k ∧ w (600 + 2 * i) = I j ∧ w (240 + 6 * j + 3) = 0)) ∧ (G = 0 ↔ ¬ blk_ w k) := by
  obtain ⟨G, g1, g2⟩ := ob_xl x hv h5 h6 k (nQ w) 0 FU 0 (by omega) (by show nQ w < 5000; omega)
  have g3 : ∀ j : Nat, j < 64 → (tb G j = true ↔ ∃ i : Nat, i < nQ w ∧ w (600 + 2 * i + 1) = I k ∧ w (600 + 2 * i) = I j ∧ w (240 + 6 * j + 3) = 0) := fun j hj => by
    rw [g2 j hj]
    constructor
    · rintro (z | ⟨i, -, q⟩)
      · rw [tb_zero] at z; exact Bool.noConfusion z
      · exact ⟨i, q⟩
    · rintro ⟨i, q⟩
      exact Or.inr ⟨i, Nat.zero_le _, q⟩
  refine ⟨G, g1, g3, ?_⟩
  rw [tb_eq0]
  obtain ⟨ρ, hr⟩ := hv.pr
  constructor
  · rintro z ⟨i, hi, q1, q2⟩
    obtain ⟨a, b, ha, hb, f1, f2, -⟩ := hr i hi
    rw [f1, I_tnc (by omega)] at q2
    have k1 := (g3 a (by omega)).mpr ⟨i, hi, q1, f1, q2⟩
    rw [z a (by omega)] at k1
    exact Bool.noConfusion k1
  · intro z j hj
    cases hb : tb G j
    · rfl
    · obtain ⟨i, hi, q1, q2, q3⟩ := (g3 j hj).mp hb
      exact absurd ⟨i, hi, q1, by rw [q2, I_tnc (by omega)]; exact q3⟩ z
theorem isFil_x (x : MM) {w : Nat → Int32} (hv : V w) (h5 : nP w ≤ 40) (h6 : nQ w ≤ 20) {k : Nat} (hk : k < 40) : D_X10_isFillable (I k) (pw x w) = some (if fil w k then 1 else 0) := by
  obtain ⟨G, g1, -, g3⟩ := ob_x x hv h5 h6 k
  unfold D_X10_isFillable
  rw [isOpen_x x w hk, b1_s, g1]
  by_cases c : w (240 + 6 * k + 3) = 0
  · rw [if_pos c, if_neg (by decide), b1_s]
    by_cases c2 : G = 0
    · rw [if_pos c2, if_pos ⟨c, g3.mp c2⟩]
    · rw [if_neg c2, if_neg (fun z => c2 (g3.mpr z.2))]
  · rw [if_neg c, if_pos rfl, if_neg (fun z => c z.1)]
-- counts
theorem cnt_bits {G : Int64} {p : Nat → Bool} {n : Nat} (hn : n ≤ 64) (h : ∀ k : Nat, k < 64 → (tb G k = true ↔ (k < n ∧ p k = true))) : cntP (tb G) 64 = cntP p n := by
  have e : cntP (tb G) 64 = cntP (fun k => decide (k < n) && p k) 64 := cntP_congr (fun k hk => by
    cases hb : tb G k
    · cases hq : (decide (k < n) && p k)
      · rfl
      · rw [Bool.and_eq_true, decide_eq_true_iff] at hq
        rw [(h k hk).mpr hq] at hb
        exact Bool.noConfusion hb
    · have q := (h k hk).mp hb
      rw [decide_eq_true q.1, q.2]
      rfl)
  rw [e, show (64 : Nat) = n + (64 - n) by omega, cntP_more (64 - n) (fun i hi => by simp; omega)]
  exact cntP_congr (fun k hk => by simp [hk])
def filP (w : Nat → Int32) (K : Int32) : Nat → Bool := fun k => decide (w (240 + 6 * k) = K ∧ fil w k)
def filC (w : Nat → Int32) (K : Int32) : Nat := cntP (filP w K) (nP w)
def stP (w : Nat → Int32) (K st : Int32) : Nat → Bool := fun k => decide (w (240 + 6 * k) = K ∧ w (240 + 6 * k + 3) = st)
def stC (w : Nat → Int32) (K st : Int32) : Nat := cntP (stP w K st) (nP w)
def saP (w : Nat → Int32) (st : Int32) : Nat → Bool := fun k => decide (w (240 + 6 * k + 3) = st)
def saC (w : Nat → Int32) (st : Int32) : Nat := cntP (saP w st) (nP w)
theorem filC_m {m : MM} {w : Nat → Int32} (h : R0 m w) {G : Int64} (g : ∀ k : Nat, k < 64 → (tb G k = true ↔ k < nP w ∧ fil w k)) {K : Nat} (hK : K < 8) : D_J13_bitCount_95d88 (G &&& gl m 42 K) = some (I (filC w (I K))) := by
  have v5 := h.vc.2.2.2.2.1
  rw [bitCount_eq, cnt_bits (p := filP w (I K)) (n := nP w) (by omega) (fun k hk => ?_)]
  · rfl
  · rw [tb_and, Bool.and_eq_true, g k hk, h.kd' hK hk]
    unfold filP
    rw [decide_eq_true_iff]
    exact ⟨fun z => ⟨z.1.1, z.2.2, z.1.2⟩, fun z => ⟨⟨z.1, z.2.2⟩, z.1, z.2.1⟩⟩
theorem filC_xl (x : MM) {w : Nat → Int32} (hv : V w) (h5 : nP w ≤ 40) (h6 : nQ w ≤ 20) (K : Int32) : ∀ d i n : Nat, i + d = nP w → d < n → D_X10_fillable_4 (pw x w) n K (I (cntP (filP w K) i)) (I i) = some (I (filC w K)) := by
  intro d
  induction d with
  | zero =>
    intro i n hi hn
    obtain ⟨n, rfl⟩ : ∃ n' : Nat, n = n' + 1 := ⟨n - 1, by omega⟩
    have hi : i = nP w := by omega
    subst hi
    unfold D_X10_fillable_4
    rw [giP, hv.cnt.2.2.2.2.1, if_pos (leT (Nat.le_refl _) (by omega))]
    rfl
  | succ d ih =>
    intro i n hi hn
    obtain ⟨n, rfl⟩ : ∃ n' : Nat, n = n' + 1 := ⟨n - 1, by omega⟩
    have k := ih (i + 1) n (by omega) (by omega)
    rw [cntP_succ] at k
    unfold D_X10_fillable_4
    rw [giP, hv.cnt.2.2.2.2.1, if_neg (leF (by omega) (by omega)), oSt0P (by omega), b1_s, isFil_x x hv h5 h6 (by omega), b1_s]
    simp only [bnd_s, ixs1, Int32.add_zero]
    by_cases c : w (240 + 6 * i) = K
    · rw [if_pos c]
      by_cases c2 : fil w i
      · have e : filP w K i = true := decide_eq_true ⟨c, c2⟩
        rw [e] at k
        rw [if_pos c2, if_neg (by decide)]
        exact k
      · have e : filP w K i = false := decide_eq_false (fun z => c2 z.2)
        rw [e] at k
        rw [if_neg c2, if_pos rfl]
        exact k
    · have e : filP w K i = false := decide_eq_false (fun z => c z.1)
      rw [e] at k
      rw [if_neg c]
      exact k
theorem filC_x (x : MM) {w : Nat → Int32} (hv : V w) (h5 : nP w ≤ 40) (h6 : nQ w ≤ 20) (K : Int32) : D_X10_fillable K (pw x w) = some (I (filC w K)) := filC_xl x hv h5 h6 K (nP w) 0 FU (by omega) (by show nP w < 5000; omega)
theorem stC_xl (x : MM) {w : Nat → Int32} (hv : V w) (h5 : nP w ≤ 40) (K st : Int32) (hK : K ≠ -1) : ∀ d i n : Nat, i + d = nP w → d < n → D_X10_spotsIn_5 (pw x w) n K st (I (cntP (stP w K st) i)) (I i) = some (I (stC w K st)) := by
  intro d
  induction d with
  | zero =>
    intro i n hi hn
    obtain ⟨n, rfl⟩ : ∃ n' : Nat, n = n' + 1 := ⟨n - 1, by omega⟩
    have hi : i = nP w := by omega
    subst hi
    unfold D_X10_spotsIn_5
    rw [giP, hv.cnt.2.2.2.2.1, if_pos (leT (Nat.le_refl _) (by omega))]
    rfl
  | succ d ih =>
    intro i n hi hn
    obtain ⟨n, rfl⟩ : ∃ n' : Nat, n = n' + 1 := ⟨n - 1, by omega⟩
    have k := ih (i + 1) n (by omega) (by omega)
    rw [cntP_succ] at k
    unfold D_X10_spotsIn_5 D_X10_spotsIn_34
    rw [giP, hv.cnt.2.2.2.2.1, if_neg (leF (by omega) (by omega)), if_neg hK, oSt0P (by omega), b1_s, oSt3P (by omega), b1_s]
    simp only [bnd_s, ixs1, Int32.add_zero]
    by_cases c : w (240 + 6 * i) = K
    · rw [if_pos c]
      by_cases c2 : w (240 + 6 * i + 3) = st
      · have e : stP w K st i = true := decide_eq_true ⟨c, c2⟩
        rw [e] at k
        rw [if_pos c2]
        exact k
      · have e : stP w K st i = false := decide_eq_false (fun z => c2 z.2)
        rw [e] at k
        rw [if_neg c2]
        exact k
    · have e : stP w K st i = false := decide_eq_false (fun z => c z.1)
      rw [e] at k
      rw [if_neg c]
      exact k
theorem stC_x (x : MM) {w : Nat → Int32} (hv : V w) (h5 : nP w ≤ 40) (K st : Int32) (hK : K ≠ -1) : D_X10_spotsIn K st (pw x w) = some (I (stC w K st)) := stC_xl x hv h5 K st hK (nP w) 0 FU (by omega) (by show nP w < 5000; omega)
theorem saC_xl (x : MM) {w : Nat → Int32} (hv : V w) (h5 : nP w ≤ 40) (st : Int32) : ∀ d i n : Nat, i + d = nP w → d < n → D_X10_spotsIn_5 (pw x w) n (-1) st (I (cntP (saP w st) i)) (I i) = some (I (saC w st)) := by
  intro d
  induction d with
  | zero =>
    intro i n hi hn
    obtain ⟨n, rfl⟩ : ∃ n' : Nat, n = n' + 1 := ⟨n - 1, by omega⟩
    have hi : i = nP w := by omega
    subst hi
    unfold D_X10_spotsIn_5
    rw [giP, hv.cnt.2.2.2.2.1, if_pos (leT (Nat.le_refl _) (by omega))]
    rfl
  | succ d ih =>
    intro i n hi hn
    obtain ⟨n, rfl⟩ : ∃ n' : Nat, n = n' + 1 := ⟨n - 1, by omega⟩
    have k := ih (i + 1) n (by omega) (by omega)
    rw [cntP_succ] at k
    unfold D_X10_spotsIn_5 D_X10_spotsIn_34
    rw [giP, hv.cnt.2.2.2.2.1, if_neg (leF (by omega) (by omega)), if_pos rfl, oSt3P (by omega), b1_s]
    simp only [bnd_s, ixs1, Int32.add_zero]
    by_cases c2 : w (240 + 6 * i + 3) = st
    · have e : saP w st i = true := decide_eq_true c2
      rw [e] at k
      rw [if_pos c2]
      exact k
    · have e : saP w st i = false := decide_eq_false c2
      rw [e] at k
      rw [if_neg c2]
      exact k
theorem saC_x (x : MM) {w : Nat → Int32} (hv : V w) (h5 : nP w ≤ 40) (st : Int32) : D_X10_spotsIn (-1 : Int32) st (pw x w) = some (I (saC w st)) := saC_xl x hv h5 st (nP w) 0 FU (by omega) (by show nP w < 5000; omega)
