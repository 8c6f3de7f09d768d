/-! PURE: what comes before what -/
abbrev Eg (w : Nat → Int32) (a b : Nat) : Prop := ∃ i : Nat, i < nQ w ∧ w (600 + 2 * i) = I a ∧ w (600 + 2 * i + 1) = I b
def Wk (w : Nat → Int32) : Nat → Nat → Nat → Prop
  | 0, a, b => a = b
  | n + 1, a, b => ∃ c : Nat, Eg w a c ∧ c < 40 ∧ Wk w n c b
theorem Wk.snoc {w : Nat → Int32} : ∀ {n a u v : Nat}, Wk w n a u → Eg w u v → v < 40 → Wk w (n + 1) a v := by
  intro n
  induction n with
  | zero => intro a u v h e hv; have h : a = u := h; subst h; exact ⟨v, e, hv, rfl⟩
  | succ n ih => intro a u v h e hv; obtain ⟨c, h1, h2, h3⟩ := h; exact ⟨c, h1, h2, ih h3 e hv⟩
theorem Wk.last {w : Nat → Int32} : ∀ {n a v : Nat}, a < 40 → Wk w (n + 1) a v → ∃ u : Nat, u < 40 ∧ Wk w n a u ∧ Eg w u v := by
  intro n
  induction n with
  | zero =>
    intro a v ha h
    obtain ⟨c, h1, h2, h3⟩ := h
    have h3 : c = v := h3
    subst h3
    exact ⟨a, ha, rfl, h1⟩
  | succ n ih =>
    intro a v ha h
    obtain ⟨c, h1, h2, h3⟩ := h
    obtain ⟨u, g1, g2, g3⟩ := ih h2 h3
    exact ⟨u, g1, ⟨c, h1, h2, g2⟩, g3⟩
theorem Wk.app {w : Nat → Int32} : ∀ {n k a b c : Nat}, Wk w n a b → Wk w k b c → Wk w (n + k) a c := by
  intro n
  induction n with
  | zero => intro k a b c h h'; have h : a = b := h; subst h; rw [Nat.zero_add]; exact h'
  | succ n ih =>
    intro k a b c h h'
    obtain ⟨d, h1, h2, h3⟩ := h
    rw [show n + 1 + k = (n + k) + 1 by omega]
    exact ⟨d, h1, h2, ih h3 h'⟩
/-- the rows in which edges stand: endpoints below 40, and a rank that grows -/
def Rk (w : Nat → Int32) (ρ : Nat → Nat) : Prop := ∀ i : Nat, i < nQ w → ∃ a b : Nat, a < 40 ∧ b < 40 ∧ w (600 + 2 * i) = I a ∧ w (600 + 2 * i + 1) = I b ∧ ρ a < ρ b
theorem Rk.eg {w : Nat → Int32} {ρ : Nat → Nat} (h : Rk w ρ) {a b : Nat} (ha : a < 40) (hb : b < 40) (e : Eg w a b) : ρ a < ρ b := by
  obtain ⟨i, hi, e1, e2⟩ := e
  obtain ⟨a', b', h1, h2, f1, f2, f3⟩ := h i hi
  have := (I_inj (by omega) (by omega)).mp (e1.symm.trans f1)
  have := (I_inj (by omega) (by omega)).mp (e2.symm.trans f2)
  subst_vars
  exact f3
theorem cntP_lt {p q : Nat → Bool} {n i0 : Nat} (h : ∀ i : Nat, i < n → p i = true → q i = true) (hi : i0 < n) (hq : q i0 = true) (hp : p i0 = false) : cntP p n + 1 ≤ cntP q n := by
  have mono : ∀ n : Nat, (∀ i : Nat, i < n → p i = true → q i = true) → cntP p n ≤ cntP q n := by
    intro n
    induction n with
    | zero => intro _; exact Nat.le_refl _
    | succ n ih =>
      intro h
      have h1 := ih (fun i hi => h i (by omega))
      rw [cntP_succ, cntP_succ]
      by_cases c : p n = true
      · rw [if_pos c, if_pos (h n (by omega) c)]; omega
      · rw [if_neg c]; omega
  induction n with
  | zero => omega
  | succ n ih =>
    rw [cntP_succ, cntP_succ]
    by_cases e : i0 = n
    · subst e
      have h1 := mono i0 (fun i hi => h i (by omega))
      rw [hp, hq]
      simp
      omega
    · have h1 := ih (fun i hi => h i (by omega)) (by omega)
      by_cases c : p n = true
      · rw [if_pos c, if_pos (h n (by omega) c)]; omega
      · rw [if_neg c]; omega
theorem Wk.bd {w : Nat → Int32} {ρ : Nat → Nat} (h : Rk w ρ) : ∀ {n a v : Nat}, a < 40 → Wk w n a v → n ≤ cntP (fun i => decide (ρ a ≤ ρ (w (600 + 2 * i)).toNatClampNeg)) (nQ w) := by
  intro n
  induction n with
  | zero => intro a v _ _; exact Nat.zero_le _
  | succ n ih =>
    intro a v ha hw
    obtain ⟨c, e, hc, hw⟩ := hw
    have h1 := ih hc hw
    have hlt := h.eg ha hc e
    obtain ⟨i, hi, e1, e2⟩ := e
    have h2 : cntP (fun i => decide (ρ c ≤ ρ (w (600 + 2 * i)).toNatClampNeg)) (nQ w) + 1 ≤ cntP (fun i => decide (ρ a ≤ ρ (w (600 + 2 * i)).toNatClampNeg)) (nQ w) := by
      refine cntP_lt (i0 := i) (fun j hj z => ?_) hi ?_ ?_
      · rw [decide_eq_true_iff] at z ⊢
        omega
      · rw [decide_eq_true_iff, e1, I_tnc (by omega)]
        exact Nat.le_refl _
      · rw [decide_eq_false_iff_not, e1, I_tnc (by omega)]
        omega
    omega
theorem Wk.le {w : Nat → Int32} {ρ : Nat → Nat} (h : Rk w ρ) {n a v : Nat} (ha : a < 40) (hw : Wk w n a v) : n ≤ nQ w := Nat.le_trans (Wk.bd h ha hw) (cntP_le _ _)
theorem V.rk {m : MM} {w : Nat → Int32} (h : R0 m w) (hv : V w) : ∃ ρ : Nat → Nat, Rk w ρ := by
  have v5 := h.vc.2.2.2.2.1
  obtain ⟨ρ, hr⟩ := hv.pr
  exact ⟨ρ, fun i hi => by
    obtain ⟨a, b, ha, hb, e⟩ := hr i hi
    exact ⟨a, b, by omega, by omega, e⟩⟩
-- the class's edges
theorem firsts_ml {m : MM} {w : Nat → Int32} (h : R0 m w) (hv : V w) (F : Int64) : ∀ (d i n : Nat) (S : Int64), i + d = nQ w → d < n → ∃ G : Int64, D_X0_firstsOf_5 m n F S (I i) = some G ∧ ∀ a : Nat, a < 64 → (tb G a = true ↔ (tb S a = true ∨ ∃ j b : Nat, i ≤ j ∧ j < nQ w ∧ gi m 43 j = I a ∧ gi m 44 j = I b ∧ b < 40 ∧ tb F b = true)) := by
  obtain ⟨v1, v2, v3, v4, v5, v6, -⟩ := h.vc
  intro d
  induction d with
  | zero =>
    intro i n S hi hn
    obtain ⟨n, rfl⟩ : ∃ n' : Nat, n = n' + 1 := ⟨n - 1, by omega⟩
    have hi : i = nQ w := by omega
    subst hi
    refine ⟨S, ?_, fun a ha => ⟨fun z => Or.inl z, fun z => z.elim id (fun ⟨j, b, q, q2, _⟩ => by omega)⟩⟩
    unfold D_X0_firstsOf_5
    rw [h.n20 hv, if_pos (leT (Nat.le_refl _) (by omega))]
  | succ d ih =>
    intro i n S hi hn
    obtain ⟨n, rfl⟩ : ∃ n' : Nat, n = n' + 1 := ⟨n - 1, by omega⟩
    obtain ⟨a0, b0, ha0, hb0, e1, e2, -⟩ := pr_m h hv (i := i) (by omega)
    by_cases c : tb F b0 = true
    · obtain ⟨G, g1, g2⟩ := ih (i + 1) n (S ||| ((1 : Int64) <<< ((I a0).toInt64 &&& 63))) (by omega) (by omega)
      refine ⟨G, ?_, fun a ha => ?_⟩
      · unfold D_X0_firstsOf_5
        rw [h.n20 hv, if_neg (leF (by omega) (by omega)), gdI (by omega) (by omega), gdI (by omega) (by omega), I_tnc (by omega), e1, e2, if_neg (fun z => by
          rw [bit_test _ (by omega), c] at z
          exact Bool.noConfusion z), bnd_s, bnd_s, ixs1]
        exact g1
      · rw [g2 a ha, tb_or, tb_bit (by omega), Bool.or_eq_true, decide_eq_true_iff]
        constructor
        · rintro ((z | z) | ⟨j, b, q1, q⟩)
          · exact Or.inl z
          · exact Or.inr ⟨i, b0, Nat.le_refl _, by omega, by rw [e1, z], e2, by omega, c⟩
          · exact Or.inr ⟨j, b, by omega, q⟩
        · rintro (z | ⟨j, b, q1, q2, q3, q4, q5, q6⟩)
          · exact Or.inl (Or.inl z)
          · by_cases e : j = i
            · subst e
              exact Or.inl (Or.inr ((I_inj (by omega) (by omega)).mp (q3.symm.trans e1)))
            · exact Or.inr ⟨j, b, by omega, q2, q3, q4, q5, q6⟩
    · obtain ⟨G, g1, g2⟩ := ih (i + 1) n S (by omega) (by omega)
      refine ⟨G, ?_, fun a ha => ?_⟩
      · unfold D_X0_firstsOf_5
        rw [h.n20 hv, if_neg (leF (by omega) (by omega)), gdI (by omega) (by omega), gdI (by omega) (by omega), I_tnc (by omega), e1, e2, if_pos ((bit_test _ (by omega)).mpr (by
          cases q : tb F b0
          · rfl
          · exact absurd q c)), bnd_s, ixs1]
        exact g1
      · rw [g2 a ha]
        constructor
        · rintro (z | ⟨j, b, q1, q⟩)
          · exact Or.inl z
          · exact Or.inr ⟨j, b, by omega, q⟩
        · rintro (z | ⟨j, b, q1, q2, q3, q4, q5, q6⟩)
          · exact Or.inl z
          · by_cases e : j = i
            · subst e
              have := (I_inj (by omega) (by omega)).mp (q4.symm.trans e2)
              subst this
              exact absurd q6 c
            · exact Or.inr ⟨j, b, by omega, q2, q3, q4, q5, q6⟩
theorem eg_m {m : MM} {w : Nat → Int32} (h : R0 m w) (a b : Nat) : (∃ j : Nat, j < nQ w ∧ gi m 43 j = I a ∧ gi m 44 j = I b) ↔ Eg w a b := by
  rw [h.pr.1 (I a) (I b)]
  constructor
  · rintro ⟨i, hi, e1, e2⟩
    exact ⟨i, hi, e1, by rw [show 600 + 2 * i + 1 = 601 + 2 * i by omega]; exact e2⟩
  · rintro ⟨i, hi, e1, e2⟩
    exact ⟨i, hi, e1, by rw [show 601 + 2 * i = 600 + 2 * i + 1 by omega]; exact e2⟩
theorem firsts_m {m : MM} {w : Nat → Int32} (h : R0 m w) (hv : V w) (F : Int64) : ∃ G : Int64, D_X0_firstsOf F m = some G ∧ ∀ a : Nat, a < 64 → (tb G a = true ↔ ∃ b : Nat, b < 40 ∧ tb F b = true ∧ Eg w a b) := by
  have v6 := h.vc.2.2.2.2.2.1
  obtain ⟨G, g1, g2⟩ := firsts_ml h hv F (nQ w) 0 FU 0 (by omega) (by show nQ w < 5000; omega)
  refine ⟨G, g1, fun a ha => ?_⟩
  rw [g2 a ha]
  constructor
  · rintro (z | ⟨j, b, -, q2, q3, q4, q5, q6⟩)
    · rw [tb_zero] at z; exact Bool.noConfusion z
    · exact ⟨b, q5, q6, (eg_m h a b).mp ⟨j, q2, q3, q4⟩⟩
  · rintro ⟨b, q1, q2, q3⟩
    obtain ⟨j, j1, j2, j3⟩ := (eg_m h a b).mpr q3
    exact Or.inr ⟨j, b, Nat.zero_le _, j1, j2, j3, q1, q2⟩
theorem tb_xt {a b : Int64} (h : ∀ k : Nat, k < 64 → (tb a k = true ↔ tb b k = true)) : a = b := tb_ext (fun k hk => by
  have q := h k hk
  cases h1 : tb a k <;> cases h2 : tb b k <;> simp [h1, h2] at q <;> rfl)
theorem T_blockedBy {m : MM} {w : Nat → Int32} (hR : R m w) (x h : MM) (x1 : Int32) : Ans x w 1 0 (D_X9_blockedBy x1 h m) (D_X10_blockedBy x1 (pw x w)) := by
  obtain ⟨v1, v2, v3, v4, v5, v6, -⟩ := hR.r0.vc
  have hv := hR.v
  unfold D_X9_blockedBy D_X10_blockedBy
  rw [hR.r0.n19 hv]
  by_cases c1 : ok x1 (nP w)
  · obtain ⟨s, hs, rfl⟩ := ok_ex c1
    obtain ⟨G, g1, g2⟩ := firsts_m hR.r0 hv ((1 : Int64) <<< ((I s).toInt64 &&& 63))
    obtain ⟨H, h1, h2, -⟩ := ob_x (th x 0) hv v5 v6 s
    have e : G &&& gl m 36 7 = H := tb_xt (fun k hk => by
      rw [tb_and, Bool.and_eq_true, g2 k hk, hR.r0.op' hk, h2 k hk]
      constructor
      · rintro ⟨⟨b, b1', b2', i, hi, q1, q2⟩, q3, q4⟩
        rw [tb_bit (by omega), decide_eq_true_iff] at b2'
        subst b2'
        exact ⟨i, hi, q2, q1, q4⟩
      · rintro ⟨i, hi, q1, q2, q3⟩
        obtain ⟨ρ, hr⟩ := hv.pr
        obtain ⟨a', b', ha', hb', f1, f2, -⟩ := hr i hi
        have ek := (I_inj (by omega) (by omega)).mp (q2.symm.trans f1)
        exact ⟨⟨s, by omega, by rw [tb_bit (by omega)]; exact decide_eq_true rfl, i, hi, q2, q1⟩, by omega, q3⟩)
    rw [rqi_y (by omega) c1, bX_s, nstP_y hv v5 c1, b2_s, if00, g1, h1, b1_s, b1_s, e]
    exact Ans.y rfl rfl
  · rw [rqi_n (by omega) c1, bX_x, nstP_n hv v5 c1, b2_s, if10]
    exact Ans.t0 (by decide) rfl rfl
-- circles
theorem circ_ml {m : MM} {w : Nat → Int32} (h : R0 m w) (hv : V w) {a b : Nat} (ha : a < 40) (hb : b < 40) : ∀ (d r n : Nat) (F : Int64), r + d = nQ w → d < n → (∀ v : Nat, v < 64 → (tb F v = true ↔ ∃ k : Nat, k ≤ r ∧ v < 40 ∧ Wk w k v a)) → ((∃ k : Nat, k ≤ nQ w ∧ Wk w k b a) → D_X0_wouldCircle_7 m n (I b) F (I r) = some 1) ∧ ((¬ ∃ k : Nat, k ≤ nQ w ∧ Wk w k b a) → D_X0_wouldCircle_7 m n (I b) F (I r) = some 0) := by
  obtain ⟨v1, v2, v3, v4, v5, v6, -⟩ := h.vc
  intro d
  induction d with
  | zero =>
    intro r n F hr hn hF
    obtain ⟨n, rfl⟩ : ∃ n' : Nat, n = n' + 1 := ⟨n - 1, by omega⟩
    have hr : r = nQ w := by omega
    subst hr
    unfold D_X0_wouldCircle_7
    rw [h.n20 hv, if_pos (leT (Nat.le_refl _) (by omega))]
    constructor
    · rintro ⟨k, k1, k2⟩
      rw [if_neg (fun z => by
        rw [bit_test _ (by omega), (hF b (by omega)).mpr ⟨k, k1, hb, k2⟩] at z
        exact Bool.noConfusion z)]
    · intro z
      rw [if_pos ((bit_test _ (by omega)).mpr (by
        cases q : tb F b
        · rfl
        · obtain ⟨k, k1, -, k2⟩ := (hF b (by omega)).mp q
          exact absurd ⟨k, k1, k2⟩ z))]
  | succ d ih =>
    intro r n F hr hn hF
    obtain ⟨n, rfl⟩ : ∃ n' : Nat, n = n' + 1 := ⟨n - 1, by omega⟩
    obtain ⟨G, g1, g2⟩ := firsts_m h hv F
    have k := ih (r + 1) n (F ||| G) (by omega) (by omega) (fun v hv' => by
      rw [tb_or, Bool.or_eq_true, hF v hv', g2 v hv']
      constructor
      · rintro (⟨k, k1, k2, k3⟩ | ⟨b', b1', b2', b3'⟩)
        · exact ⟨k, by omega, k2, k3⟩
        · obtain ⟨k, k1, k2, k3⟩ := (hF b' (by omega)).mp b2'
          obtain ⟨i, hi, e1, e2⟩ := b3'
          obtain ⟨ρ, hr⟩ := hv.pr
          obtain ⟨a0, b0, ha0, hb0, f1, f2, -⟩ := hr i hi
          have := (I_inj (by omega) (by omega)).mp (e1.symm.trans f1)
          exact ⟨k + 1, by omega, by omega, b', ⟨i, hi, e1, e2⟩, k2, k3⟩
      · rintro ⟨k, k1, k2, k3⟩
        match k, k1, k3 with
        | 0, k1, k3 => exact Or.inl ⟨0, by omega, k2, k3⟩
        | k + 1, k1, k3 =>
          obtain ⟨c, c1, c2, c3⟩ := k3
          exact Or.inr ⟨c, c2, (hF c (by omega)).mpr ⟨k, by omega, c2, c3⟩, c1⟩)
    unfold D_X0_wouldCircle_7
    rw [h.n20 hv, if_neg (leF (by omega) (by omega)), g1, b1_s, bnd_s, bnd_s, ixs1]
    exact k
theorem circ_m {m : MM} {w : Nat → Int32} (h : R0 m w) (hv : V w) {a b : Nat} (ha : a < 40) (hb : b < 40) : ((∃ k : Nat, Wk w k b a) → D_X0_wouldCircle (I a) (I b) m = some 1) ∧ ((¬ ∃ k : Nat, Wk w k b a) → D_X0_wouldCircle (I a) (I b) m = some 0) := by
  have v6 := h.vc.2.2.2.2.2.1
  obtain ⟨k1, k2⟩ := circ_ml h hv ha hb (nQ w) 0 FU ((1 : Int64) <<< ((I a).toInt64 &&& 63)) (by omega) (by show nQ w < 5000; omega) (fun v hv' => by
    rw [tb_bit (by omega), decide_eq_true_iff]
    constructor
    · intro z
      exact ⟨0, Nat.le_refl _, by omega, z⟩
    · rintro ⟨k, k1, -, k3⟩
      have : k = 0 := by omega
      subst this
      exact k3)
  obtain ⟨ρ, hr⟩ := V.rk h hv
  unfold D_X0_wouldCircle
  rw [bnd_s]
  exact ⟨fun ⟨k, hk⟩ => k1 ⟨k, Wk.le hr hb hk, hk⟩, fun z => k2 (fun ⟨k, _, hk⟩ => z ⟨k, hk⟩)⟩
-- the reference's edges: in a row q0 of x that holds w
theorem leads19_x (x : MM) {q0 : Nat} {w : Nat → Int32} (hx : ∀ k : Nat, k < 640 → gi x q0 k = w k) {ρ : Nat → Nat} (hr : Rk w ρ) (hc : w 20 = I (nQ w)) (h6 : nQ w ≤ 20) (k7 : Nat → Int32 → Int64 → Int32 → Option Int32) (t : Int32) (r s0 : Nat) : ∀ (d i n : Nat) (F : Int64), i + d = nQ w → d < n → (∀ v : Nat, v < 64 → tb F v = true → ∃ k : Nat, v < 40 ∧ Wk w k s0 v) → ∃ F' : Int64, D_X10_leads_19 x k7 n q0 t F (I r) (I i) = k7 q0 t F' (I (r + 1)) ∧ (∀ v : Nat, v < 64 → tb F v = true → tb F' v = true) ∧ (∀ v : Nat, v < 64 → tb F' v = true → ∃ k : Nat, v < 40 ∧ Wk w k s0 v) ∧ ∀ j a b : Nat, i ≤ j → j < nQ w → a < 40 → b < 40 → w (600 + 2 * j) = I a → w (600 + 2 * j + 1) = I b → tb F a = true → tb F' b = true := by
  intro d
  induction d with
  | zero =>
    intro i n F hi hn hF
    obtain ⟨n, rfl⟩ : ∃ n' : Nat, n = n' + 1 := ⟨n - 1, by omega⟩
    have hi : i = nQ w := by omega
    subst hi
    refine ⟨F, ?_, fun v _ z => z, hF, fun j a b q1 q2 => by omega⟩
    unfold D_X10_leads_19
    rw [hx 20 (by decide), hc, if_pos (leT (Nat.le_refl _) (by omega)), bnd_s, ixs1]
  | succ d ih =>
    intro i n F hi hn hF
    obtain ⟨n, rfl⟩ : ∃ n' : Nat, n = n' + 1 := ⟨n - 1, by omega⟩
    obtain ⟨a0, b0, ha0, hb0, e1, e2, -⟩ := hr i (by omega)
    have ebit : ∀ v : Nat, v < 64 → (tb (F ||| (((F >>> ((I a0).toInt64 &&& 63)) &&& (1 : Int64)) <<< ((I b0).toInt64 &&& 63))) v = true ↔ (tb F v = true ∨ (v = b0 ∧ tb F a0 = true))) := fun v hv => by
      rw [tb_or, bit_of F (by omega), Bool.or_eq_true]
      by_cases c : tb F a0 = true
      · rw [if_pos c, tb_bit (by omega), decide_eq_true_iff]
        exact ⟨fun z => z.elim Or.inl (fun q => Or.inr ⟨q, c⟩), fun z => z.elim Or.inl (fun q => Or.inr q.1)⟩
      · rw [if_neg c, tb_shl _ (by omega), tb_zero, Bool.and_false]
        exact ⟨fun z => z.elim Or.inl (fun q => Bool.noConfusion q), fun z => z.elim Or.inl (fun q => absurd q.2 c)⟩
    obtain ⟨F', g1, g2, g3, g4⟩ := ih (i + 1) n (F ||| (((F >>> ((I a0).toInt64 &&& 63)) &&& (1 : Int64)) <<< ((I b0).toInt64 &&& 63))) (by omega) (by omega) (fun v hv z => by
      rcases (ebit v hv).mp z with z2 | ⟨rfl, z2⟩
      · exact hF v hv z2
      · obtain ⟨k, k1, k2⟩ := hF a0 (by omega) z2
        exact ⟨k + 1, by omega, k2.snoc ⟨i, by omega, e1, e2⟩ (by omega)⟩)
    refine ⟨F', ?_, fun v hv z => g2 v hv ((ebit v hv).mpr (Or.inl z)), g3, fun j a b q1 q2 q3 q0 q4 q5 q6 => ?_⟩
    · unfold D_X10_leads_19
      rw [hx 20 (by decide), hc, if_neg (leF (by omega) (by omega)), ix600, ixs1, gdI (by omega) (by omega), gdI (by omega) (by omega), I_tnc (by omega), I_tnc (by omega), hx _ (by omega), hx _ (by omega), e1, e2, bnd_s, bnd_s, ixs1]
      exact g1
    · by_cases e : j = i
      · subst e
        have ea := (I_inj (by omega) (by omega)).mp (q4.symm.trans e1)
        subst ea
        have eb := (I_inj (by omega) (by omega)).mp (q5.symm.trans e2)
        subst eb
        exact g2 b (by omega) ((ebit b (by omega)).mpr (Or.inr ⟨rfl, q6⟩))
      · exact g4 j a b (by omega) q2 q3 q0 q4 q5 ((ebit a (by omega)).mpr (Or.inl q6))
theorem leads7_x (x : MM) {q0 : Nat} {w : Nat → Int32} (hx : ∀ k : Nat, k < 640 → gi x q0 k = w k) {ρ : Nat → Nat} (hr : Rk w ρ) (hc : w 20 = I (nQ w)) (h6 : nQ w ≤ 20) {b a : Nat} (ha : a < 40) (hb : b < 40) : ∀ (d r n : Nat) (F : Int64), r + d = nQ w → d < n → (∀ v : Nat, v < 64 → tb F v = true → ∃ k : Nat, v < 40 ∧ Wk w k b v) → (∀ k v : Nat, k ≤ r → v < 40 → Wk w k b v → tb F v = true) → ((∃ k : Nat, Wk w k b a) → D_X10_leads_7 x n q0 (I a) F (I r) = some 1) ∧ ((¬ ∃ k : Nat, Wk w k b a) → D_X10_leads_7 x n q0 (I a) F (I r) = some 0) := by
  intro d
  induction d with
  | zero =>
    intro r n F hd hn h1 h2
    obtain ⟨n, rfl⟩ : ∃ n' : Nat, n = n' + 1 := ⟨n - 1, by omega⟩
    have hd : r = nQ w := by omega
    subst hd
    unfold D_X10_leads_7
    rw [hx 20 (by decide), hc, if_pos (leT (Nat.le_refl _) (by omega)), bit_of F (by omega)]
    constructor
    · rintro ⟨k, hk⟩
      rw [if_pos (h2 k a (Wk.le hr hb hk) ha hk), if_pos rfl]
    · intro z
      rw [if_neg (show ¬ tb F a = true from fun q => by
        obtain ⟨k, -, hk⟩ := h1 a (by omega) q
        exact z ⟨k, hk⟩), if_neg (show ¬ (0 : Int64) = 1 by decide)]
  | succ d ih =>
    intro r n F hd hn h1 h2
    obtain ⟨n, rfl⟩ : ∃ n' : Nat, n = n' + 1 := ⟨n - 1, by omega⟩
    obtain ⟨F', g1, g2, g3, g4⟩ := leads19_x x hx hr hc h6 (D_X10_leads_7 x n) (I a) r b (nQ w) 0 FU F (by omega) (by show nQ w < 5000; omega) h1
    have k := ih (r + 1) n F' (by omega) (by omega) g3 (fun k v hk hv hw => by
      match k, hk, hw with
      | 0, hk, hw => exact g2 v (by omega) (h2 0 v (by omega) hv hw)
      | k + 1, hk, hw =>
        obtain ⟨u, u1, u2, j, hj, e1, e2⟩ := Wk.last hb hw
        exact g4 j u v (Nat.zero_le _) hj u1 hv e1 e2 (h2 k u (by omega) u1 u2))
    have g1 : D_X10_leads_19 x (D_X10_leads_7 x n) FU q0 (I a) F (I r) (0 : Int32) = _ := g1
    unfold D_X10_leads_7
    rw [hx 20 (by decide), hc, if_neg (leF (by omega) (by omega)), g1]
    exact k
theorem leads_x (x : MM) {q0 : Nat} {w : Nat → Int32} (hx : ∀ k : Nat, k < 640 → gi x q0 k = w k) {ρ : Nat → Nat} (hr : Rk w ρ) (hc : w 20 = I (nQ w)) (h6 : nQ w ≤ 20) {b a : Nat} (ha : a < 40) (hb : b < 40) : ((∃ k : Nat, Wk w k b a) → D_X10_leads q0 (I b) (I a) x = some 1) ∧ ((¬ ∃ k : Nat, Wk w k b a) → D_X10_leads q0 (I b) (I a) x = some 0) := by
  unfold D_X10_leads
  rw [bnd_s]
  refine leads7_x x hx hr hc h6 ha hb (nQ w) 0 FU _ (by omega) (by show nQ w < 5000; omega) (fun v hv z => ?_) (fun k v hk hv hw => ?_)
  · rw [tb_bit (by omega), decide_eq_true_iff] at z
    exact ⟨0, by omega, z.symm⟩
  · have : k = 0 := by omega
    subst this
    rw [tb_bit (by omega)]
    exact decide_eq_true (Eq.symm hw)
