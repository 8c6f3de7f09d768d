/-! PURE: shortages and boards; the calls without arguments that only read -/
def Jn (k : Nat) : Int64 := Int64.ofNat k
theorem Jn_of {k : Nat} (h : k < 2147483648) : (I k).toInt64 = Jn k := Int32.toInt64_ofNat' (by rw [Int32.toInt_maxValue]; omega)
theorem Jn_to (k : Nat) : (Jn k).toInt32 = I k := Int64.toInt32_ofNat'
theorem Jn_int {k : Nat} (h : k < 9223372036854775808) : (Jn k).toInt = (k : Int) := Int64.toInt_ofNat_of_lt h
theorem Jn_add (a b : Nat) : Jn a + Jn b = Jn (a + b) := (Int64.ofNat_add a b).symm
theorem Jn_mul (a b : Nat) : Jn a * Jn b = Jn (a * b) := (Int64.ofNat_mul a b).symm
theorem Jn_sub {a b : Nat} (h : b ≤ a) : Jn a - Jn b = Jn (a - b) := (Int64.ofNat_sub a b h).symm
theorem mx32 {a b c : Nat} (ha : a < 1000000) (hb : b < 1000000) (hc : c < 1000000) : (if (0 : Int32) < ((I a - I b) - I c) then ((I a - I b) - I c) else (0 : Int32)) = I (a - (b + c)) := by
  by_cases h : b + c < a
  · have e : (I a - I b) - I c = I (a - (b + c)) := by
      rw [I_sub (by omega), I_sub (by omega), Nat.sub_sub]
    rw [e, if_pos (show (0 : Int32) < I (a - (b + c)) from (I_lt (a := 0) (by decide) (by omega)).mpr (by omega))]
  · have e : ((I a - I b) - I c).toInt = (a : Int) - b - c := by
      rw [Int32.toInt_sub, Int32.toInt_sub, I_toInt (by omega), I_toInt (by omega), I_toInt (by omega)]
      rw [Int.bmod_eq_of_le (n := (a : Int) - b) (by omega) (by omega), Int.bmod_eq_of_le (by omega) (by omega)]
    rw [if_neg (fun z => by
      rw [Int32.lt_iff_toInt_lt, e] at z
      have : (0 : Int32).toInt = 0 := rfl
      omega), show a - (b + c) = 0 by omega]
    rfl
theorem mx64 {a b c : Nat} (ha : a < 1000000) (hb : b < 1000000) (hc : c < 1000000) : (if ((Jn a - Jn b) - Jn c) < (0 : Int64) then (0 : Int64) else ((Jn a - Jn b) - Jn c)) = Jn (a - (b + c)) := by
  have e : ((Jn a - Jn b) - Jn c).toInt = (a : Int) - b - c := by
    rw [Int64.toInt_sub, Int64.toInt_sub, Jn_int (by omega), Jn_int (by omega), Jn_int (by omega)]
    rw [Int.bmod_eq_of_le (n := (a : Int) - b) (by omega) (by omega), Int.bmod_eq_of_le (by omega) (by omega)]
  have z0 : (0 : Int64).toInt = 0 := rfl
  by_cases h : b + c ≤ a
  · rw [if_neg (fun z => by
      rw [Int64.lt_iff_toInt_lt, e] at z
      omega), Jn_sub (by omega), Jn_sub (by omega), Nat.sub_sub]
  · rw [if_pos (by
      rw [Int64.lt_iff_toInt_lt, e]
      omega), show a - (b + c) = 0 by omega]
    rfl
theorem Jn_0 {k : Nat} (h : k < 1000000) : Jn k = (0 : Int64) ↔ k = 0 := by
  constructor
  · intro z
    have z2 := congrArg Int64.toInt z
    rw [Jn_int (by omega)] at z2
    have z0 : (0 : Int64).toInt = 0 := rfl
    omega
  · intro z
    subst z
    rfl
def bnP (w : Nat → Int32) (K : Int32) : Nat → Bool := fun k => decide (w (240 + 6 * k) = K ∧ (w (240 + 6 * k + 3) = 0 ∨ w (240 + 6 * k + 3) = 1))
theorem bn_sum (w : Nat → Int32) (K : Int32) (n : Nat) : cntP (bnP w K) n = cntP (stP w K 0) n + cntP (stP w K 1) n := by
  induction n with
  | zero => rfl
  | succ n ih =>
    rw [cntP_succ, cntP_succ, cntP_succ, ih]
    have e : (if bnP w K n then 1 else 0) = (if stP w K 0 n then 1 else 0) + (if stP w K 1 n then 1 else 0) := by
      unfold bnP stP
      by_cases c : w (240 + 6 * n) = K
      · by_cases c0 : w (240 + 6 * n + 3) = 0
        · have c1 : ¬ w (240 + 6 * n + 3) = 1 := by rw [c0]; decide
          simp [c, c0]
        · by_cases c1 : w (240 + 6 * n + 3) = 1
          · simp [c, c1]
          · simp [c, c0, c1]
      · simp [c]
    omega
theorem stC_le {w : Nat → Int32} {K st : Int32} : stC w K st ≤ nP w := cntP_le _ _
def ndC (w : Nat → Int32) (K : Int32) : Nat := stC w K 0 + stC w K 1
theorem ndC_le {w : Nat → Int32} {K : Int32} : ndC w K ≤ nP w := by
  unfold ndC stC
  rw [← bn_sum]
  exact cntP_le _ _
theorem open_m {m : MM} {w : Nat → Int32} (h : R0 m w) {K : Nat} (hK : K < 8) : D_X0_openOf (I K) m = some (I (stC w (I K) 0)) := by
  have v5 := h.vc.2.2.2.2.1
  unfold D_X0_openOf
  rw [gdI (by omega) (by omega), I_tnc (by omega), bitCount_eq, b1_s, cnt_bits (p := stP w (I K) 0) (n := nP w) (by omega) (fun k hk => by
    rw [tb_and, Bool.and_eq_true, h.op' hk, h.kd' (by omega) hk]
    unfold stP
    rw [decide_eq_true_iff]
    exact ⟨fun z => ⟨z.1.1, z.2.2, z.1.2⟩, fun z => ⟨⟨z.1, z.2.2⟩, z.1, z.2.1⟩⟩)]
  rfl
theorem need_m {m : MM} {w : Nat → Int32} (h : R0 m w) {K : Nat} (hK : K < 8) : D_X0_boardNeeds (I K) m = some (I (ndC w (I K))) := by
  have v5 := h.vc.2.2.2.2.1
  unfold D_X0_boardNeeds
  rw [gdI (by omega) (by omega), I_tnc (by omega), bitCount_eq, b1_s, cnt_bits (p := bnP w (I K)) (n := nP w) (by omega) (fun k hk => by
    rw [tb_and, tb_or, Bool.and_eq_true, Bool.or_eq_true, h.op' hk, h.fl' hk, h.kd' (by omega) hk]
    unfold bnP
    rw [decide_eq_true_iff]
    constructor
    · rintro ⟨z | z, z2⟩
      · exact ⟨z.1, z2.2, Or.inl z.2⟩
      · exact ⟨z.1, z2.2, Or.inr z.2⟩
    · rintro ⟨z1, z2, z3 | z3⟩
      · exact ⟨Or.inl ⟨z1, z3⟩, z1, z2⟩
      · exact ⟨Or.inr ⟨z1, z3⟩, z1, z2⟩), bn_sum]
  rfl
/-- how many parts are wanting for so many boards -/
def lackN (w : Nat → Int32) (K n : Nat) : Nat := (stC w (I K) 0 + (n - 1) * ndC w (I K)) - (inR w (I K) (nF w) + heldC w (I K))
theorem lack_b {w : Nat → Int32} (hv : V w) (h5 : nP w ≤ 40) (h10 : nF w ≤ 10) (h4 : nS w ≤ 4) (K n : Nat) (hn : n ≤ 1000) : stC w (I K) 0 + (n - 1) * ndC w (I K) ≤ 40040 ∧ inR w (I K) (nF w) ≤ 20000 ∧ heldC w (I K) ≤ 4 := by
  have h1 := stC_le (w := w) (K := I K) (st := 0)
  have h2 := ndC_le (w := w) (K := I K)
  have h3 := inR_b hv (I K) (nF w) (Nat.le_refl _)
  have h6 := heldC_le (w := w) (K := I K)
  have h7 : (n - 1) * ndC w (I K) ≤ 1000 * 40 := Nat.mul_le_mul (by omega) (by omega)
  omega
theorem miss_m {m : MM} {w : Nat → Int32} (h : R0 m w) (hv : V w) {K n : Nat} (hK : K < 8) (h1 : 1 ≤ n) (hn : n ≤ 1000) : D_X6_missing (I K) (I n) m = some (I (lackN w K n)) := by
  obtain ⟨v1, v2, v3, v4, v5, v6, v7, v8⟩ := h.vc
  obtain ⟨b1', b2', b3'⟩ := lack_b hv v5 v4 v1 K n hn
  unfold D_X6_missing
  rw [open_m h hK, b1_s, need_m h hK, b1_s, bnd_s, inR_m h hv, b1_s, held_m h hv, b1_s, bnd_s, show (1 : Int32) = I 1 from rfl, I_sub h1, I_mul, I_add, mx32 (by omega) (by omega) (by omega)]
  rfl
theorem lacks_x {m : MM} {w : Nat → Int32} (h : R0 m w) (x : MM) (hv : V w) {K n : Nat} (hK : K < 8) (h1 : 1 ≤ n) (hn : n ≤ 1000) : D_X10_lacks (I K) (I n) (pw x w) = some (Jn (lackN w K n)) := by
  obtain ⟨v1, v2, v3, v4, v5, v6, v7, v8⟩ := h.vc
  obtain ⟨b1', b2', b3'⟩ := lack_b hv v5 v4 v1 K n hn
  have s0 := stC_le (w := w) (K := I K) (st := 0)
  have s1 := ndC_le (w := w) (K := I K)
  have e : ((I (stC w (I K) 0)) + (I (stC w (I K) 1))) = I (ndC w (I K)) := I_add _ _
  unfold D_X10_lacks
  rw [stC_x x hv v5 _ _ (I_ne_neg (by omega)), b1_s, b1_s, stC_x x hv v5 _ _ (I_ne_neg (by omega)), b1_s, bnd_s, inR_x x hv v4 v8, b1_s, held_x x hv v1, b1_s, bnd_s, e, Jn_of (by omega), Jn_of (by omega), Jn_of (by omega), Jn_of (by omega), Jn_of (by omega), show (1 : Int64) = Jn 1 from rfl, Jn_sub h1, Jn_mul, Jn_add, mx64 (by omega) (by omega) (by omega)]
  rfl
theorem T_shortage {m : MM} {w : Nat → Int32} (hR : R m w) (x h : MM) (x1 : Int32) : Ans x w 1 0 (D_X9_shortage x1 h m) (D_X10_shortage x1 (pw x w)) := by
  obtain ⟨v1, v2, v3, v4, v5, v6, -⟩ := hR.r0.vc
  have hv := hR.v
  unfold D_X9_shortage D_X10_shortage
  rw [hR.r0.n17 hv]
  by_cases c1 : ok x1 (nK w)
  · obtain ⟨s, hs, rfl⟩ := ok_ex c1
    have e1 := miss_m hR.r0 hv (K := s) (n := 1) (by omega) (by decide) (by decide)
    have e1 : D_X6_missing (I s) (1 : Int32) m = _ := e1
    have e2 := lacks_x hR.r0 (th x 0) hv (K := s) (n := 1) (by omega) (by decide) (by decide)
    have e2 : D_X10_lacks (I s) (1 : Int32) (pw (th x 0) w) = _ := e2
    rw [rqi_y (by omega) c1, bX_s, nkdP_y hv v3 c1, b2_s, if00, e1, e2, b1_s, b1_s, Jn_to]
    exact Ans.y rfl rfl
  · rw [rqi_n (by omega) c1, bX_x, nkdP_n hv v3 c1, b2_s, if10]
    exact Ans.t0 (by decide) rfl rfl
theorem rng_rq (x1 : Int32) {lo hi : Nat} (hl : 1 ≤ lo) (hh : hi < 100000) {a b : Int32} {c d : Int64} (ea : a.toInt = lo) (eb : b.toInt = hi) (ec : c.toInt = lo) (ed : d.toInt = hi) : (∃ n : Nat, lo ≤ n ∧ n ≤ hi ∧ x1 = I n ∧ D_X9_requireRange x1 a b = some (.inr ()) ∧ D_X10_in x1.toInt64 c d = some 1) ∨ (D_X9_requireRange x1 a b = some (.inl 1) ∧ D_X10_in x1.toInt64 c d = some 0) := by
  rw [rqr_eq, in_eq, Int32.toInt_toInt64, ea, eb, ec, ed]
  by_cases q : (lo : Int) ≤ x1.toInt ∧ x1.toInt ≤ (hi : Int)
  · refine Or.inl ⟨x1.toInt.toNat, by omega, by omega, ?_, if_pos q, by rw [if_pos q]⟩
    apply Int32.toInt_inj.mp
    rw [I_toInt (by omega)]
    omega
  · exact Or.inr ⟨if_neg q, by rw [if_neg q]⟩
theorem T_shortageFor {m : MM} {w : Nat → Int32} (hR : R m w) (x h : MM) (x1 x2 : Int32) : Ans x w 1 2 (D_X9_shortageFor x1 x2 h m) (D_X10_shortageFor x1 x2 (pw x w)) := by
  obtain ⟨v1, v2, v3, v4, v5, v6, -⟩ := hR.r0.vc
  have hv := hR.v
  unfold D_X9_shortageFor D_X10_shortageFor
  rw [hR.r0.n17 hv]
  by_cases c1 : ok x1 (nK w)
  · obtain ⟨s, hs, rfl⟩ := ok_ex c1
    rw [rqi_y (by omega) c1, bX_s, nkdP_y hv v3 c1, b2_s, if00]
    rcases rng_rq x2 (lo := 1) (hi := 1000) (by decide) (by decide) (a := (1 : Int32)) (b := (1000 : Int32)) (c := (1 : Int64)) (d := (1000 : Int64)) (by decide) (by decide) (by decide) (by decide) with ⟨n, n1, n2, rfl, q1, q2⟩ | ⟨q1, q2⟩
    · rw [q1, q2, bX_s, b1_s, if10, tif0P, b2_s, if00, miss_m hR.r0 hv (by omega) n1 n2, lacks_x hR.r0 _ hv (by omega) n1 n2, b1_s, b1_s, Jn_to]
      exact Ans.y rfl rfl
    · rw [q1, q2, bX_x, b1_s, if00, tif1P _ _ (by decide), b2_s, if10]
      exact Ans.t1 (by decide) rfl rfl
  · rw [rqi_n (by omega) c1, bX_x, nkdP_n hv v3 c1, b2_s, if10]
    exact Ans.t0 (by decide) rfl rfl
/-- calls that can't throw and only read -/
def AnsN {α : Type} (x : MM) (w : Nat → Int32) (c : Option α) (d : Option (α × MM)) : Prop := ∃ (v : α) (x' : MM), c = some v ∧ d = some (v, pw x' w) ∧ XK x x'
theorem AnsN.y {α : Type} {x : MM} {w : Nat → Int32} {c : Option α} {d : Option (α × MM)} {v : α} (hc : c = some v) (hd : d = some (v, pw (th x 0) w)) : AnsN x w c d := ⟨v, th x 0, hc, hd, XK.th x 0⟩
theorem T_boards {m : MM} {w : Nat → Int32} (hR : R m w) (x h : MM) : AnsN x w (D_X9_boards h m) (D_X10_boards (pw x w)) := by
  unfold D_X9_boards D_X10_boards
  rw [zeroP, bnd_s, giP, hR.r0.s24]
  exact AnsN.y rfl rfl
theorem T_now {m : MM} {w : Nat → Int32} (hR : R m w) (x h : MM) : AnsN x w (D_X9_now h m) (D_X10_now (pw x w)) := by
  unfold D_X9_now D_X10_now
  rw [zeroP, bnd_s, giP, hR.r0.s23]
  exact AnsN.y rfl rfl
theorem T_logSize {m : MM} {w : Nat → Int32} (hR : R m w) (x h : MM) : AnsN x w (D_X9_logSize h m) (D_X10_logSize (pw x w)) := by
  unfold D_X9_logSize D_X10_logSize
  rw [zeroP, bnd_s, giP, hR.r0.s28]
  exact AnsN.y rfl rfl
theorem T_lookRate {m : MM} {w : Nat → Int32} (hR : R m w) (x h : MM) : AnsN x w (D_X9_lookRate h m) (D_X10_lookRate (pw x w)) := by
  unfold D_X9_lookRate D_X10_lookRate D_X9_perMille
  have e : gi m 49 3 = w 33 := hR.r0.dn 3 (by decide)
  rw [zeroP, bnd_s, giP, giP, hR.r0.s26, e]
  by_cases c : w 33 = 0
  · rw [if_pos c, if_pos c, b1_s]
    exact AnsN.y rfl rfl
  · rw [if_neg c, if_neg c, if_neg (l0 c), if_neg (l0 c), b1_s]
    exact AnsN.y rfl rfl
theorem T_isHalted {m : MM} {w : Nat → Int32} (hR : R m w) (x h : MM) : AnsN x w (D_X9_isHalted h m) (D_X10_isHalted (pw x w)) := by
  unfold D_X9_isHalted D_X10_isHalted D_X10_halts
  rw [fineP, b2_s, if10, giP, hR.r0.s29]
  rcases hR.v.hlt with c | c
  · rw [c, if_pos (Or.inl rfl), if_neg (by decide), b1_s, if00]
    exact AnsN.y rfl rfl
  · rw [c, if_pos (Or.inr rfl), if_pos rfl, b1_s, if10]
    exact AnsN.y rfl rfl
-- balance
def sT (w : Nat → Int32) (K : Nat) : Nat → Int32
  | 0 => 0
  | j + 1 => sT w K j + tol w K (j + 1)
abbrev bal (w : Nat → Int32) (K : Nat) : Prop := sT w K 6 = tol w K 0
theorem bal_ml {m : MM} {w : Nat → Int32} (h : R0 m w) (hv : V w) (hh : MM) (k2 : Int32 → Option Int32) {K : Nat} (hK : K < 8) : ∀ d j n : Nat, j + d = 6 → d < n → D_X9_isBalanced_20 hh m k2 n (I K) (sT w K j) (I (j + 1)) = (if bal w K then k2 (I (K + 1)) else some 0) := by
  intro d
  induction d with
  | zero =>
    intro j n hj hn
    obtain ⟨n, rfl⟩ : ∃ n' : Nat, n = n' + 1 := ⟨n - 1, by omega⟩
    have hj : j = 6 := by omega
    subst hj
    have e := tol_m h hv (K := K) (j := 0) hK (by decide)
    have e : D_X6_partsOf (I K) (0 : Int32) m = some (tol w K 0) := e
    unfold D_X9_isBalanced_20
    rw [if_pos (show (6 : Int32) < I (6 + 1) by decide), e, b1_s, bnd_s, ixs1]
  | succ d ih =>
    intro j n hj hn
    obtain ⟨n, rfl⟩ : ∃ n' : Nat, n = n' + 1 := ⟨n - 1, by omega⟩
    have kk := ih (j + 1) n (by omega) (by omega)
    unfold D_X9_isBalanced_20
    rw [if_neg (show ¬ (6 : Int32) < I (j + 1) from fun z => by
      have z2 : I 6 < I (j + 1) := z
      rw [I_lt (by decide) (by omega)] at z2
      omega), tol_m h hv hK (by omega), b1_s, bnd_s, bnd_s, ixs1]
    exact kk
theorem bal_m2 {m : MM} {w : Nat → Int32} (h : R0 m w) (hv : V w) (hh : MM) : ∀ d K n : Nat, K + d = nK w → d < n → ((∀ K' : Nat, K ≤ K' → K' < nK w → bal w K') → D_X9_isBalanced_2 hh m n (I K) = some 1) ∧ ((∃ K' : Nat, K ≤ K' ∧ K' < nK w ∧ ¬ bal w K') → D_X9_isBalanced_2 hh m n (I K) = some 0) := by
  have v3 := h.vc.2.2.1
  intro d
  induction d with
  | zero =>
    intro K n hK hn
    obtain ⟨n, rfl⟩ : ∃ n' : Nat, n = n' + 1 := ⟨n - 1, by omega⟩
    have hK : K = nK w := by omega
    subst hK
    refine ⟨fun _ => ?_, fun ⟨K', a, b, _⟩ => by omega⟩
    unfold D_X9_isBalanced_2
    rw [h.n17 hv, if_pos (leT (Nat.le_refl _) (by omega))]
  | succ d ih =>
    intro K n hK hn
    obtain ⟨n, rfl⟩ : ∃ n' : Nat, n = n' + 1 := ⟨n - 1, by omega⟩
    obtain ⟨i1, i2⟩ := ih (K + 1) n (by omega) (by omega)
    have e := bal_ml h hv hh (D_X9_isBalanced_2 hh m n) (K := K) (by omega) 6 0 FU (by decide) (by decide)
    have e : D_X9_isBalanced_20 hh m (D_X9_isBalanced_2 hh m n) FU (I K) (0 : Int32) (1 : Int32) = _ := e
    have hu : D_X9_isBalanced_2 hh m (n + 1) (I K) = (if bal w K then D_X9_isBalanced_2 hh m n (I (K + 1)) else some 0) := by
      rw [← e]
      generalize hB : D_X9_isBalanced_20 hh m (D_X9_isBalanced_2 hh m n) FU (I K) (0 : Int32) (1 : Int32) = BB
      unfold D_X9_isBalanced_2
      rw [h.n17 hv, if_neg (leF (by omega) (by omega))]
      exact hB
    rw [hu]
    constructor
    · intro z
      rw [if_pos (z K (Nat.le_refl _) (by omega))]
      exact i1 (fun K' a b => z K' (by omega) b)
    · rintro ⟨K', a, b, c⟩
      by_cases c2 : bal w K
      · rw [if_pos c2]
        refine i2 ⟨K', ?_, b, c⟩
        by_cases e : K' = K
        · subst e; exact absurd c2 c
        · omega
      · rw [if_neg c2]
theorem bal_xl {m : MM} {w : Nat → Int32} (h : R0 m w) (x : MM) (hv : V w) (k9 : Int32 → Int32 → MM → Option (Int32 × MM)) (b : Int32) {K : Nat} (hK : K < 8) : ∀ d j n : Nat, j + d = 6 → d < n → D_X10_isBalanced_25 k9 n b (I K) (sT w K j) (I (j + 1)) (pw x w) = k9 (if b = 0 then 0 else if bal w K then 1 else 0) (I (K + 1)) (pw x w) := by
  intro d
  induction d with
  | zero =>
    intro j n hj hn
    obtain ⟨n, rfl⟩ : ∃ n' : Nat, n = n' + 1 := ⟨n - 1, by omega⟩
    have hj : j = 6 := by omega
    subst hj
    have e := tol_x h x hv (K := K) (j := 0) hK (by decide)
    have e : D_X10_toldOf (I K) (0 : Int32) (pw x w) = some (tol w K 0) := e
    unfold D_X10_isBalanced_25
    rw [if_pos (show (6 : Int32) < I (6 + 1) by decide), e, b1_s, bnd_s, bnd_s, ixs1]
    by_cases c : b = 0
    · rw [if_pos c, if_pos c]
    · rw [if_neg c, if_neg c]
      by_cases c2 : bal w K
      · rw [if_pos c2, if_pos c2]
      · rw [if_neg c2, if_neg c2]
  | succ d ih =>
    intro j n hj hn
    obtain ⟨n, rfl⟩ : ∃ n' : Nat, n = n' + 1 := ⟨n - 1, by omega⟩
    have kk := ih (j + 1) n (by omega) (by omega)
    unfold D_X10_isBalanced_25
    rw [if_neg (show ¬ (6 : Int32) < I (j + 1) from fun z => by
      have z2 : I 6 < I (j + 1) := z
      rw [I_lt (by decide) (by omega)] at z2
      omega), tol_x h x hv hK (by omega), b1_s, bnd_s, bnd_s, ixs1]
    exact kk
theorem bal_x2 {m : MM} {w : Nat → Int32} (h : R0 m w) (x : MM) (hv : V w) : ∀ (d K n : Nat) (b : Int32), K + d = nK w → d < n → (b = 0 ∨ b = 1) → ((b = 1 ∧ ∀ K' : Nat, K ≤ K' → K' < nK w → bal w K') → D_X10_isBalanced_9 n b (I K) (pw x w) = some (1, pw x w)) ∧ ((b = 0 ∨ ∃ K' : Nat, K ≤ K' ∧ K' < nK w ∧ ¬ bal w K') → D_X10_isBalanced_9 n b (I K) (pw x w) = some (0, pw x w)) := by
  have v3 := h.vc.2.2.1
  intro d
  induction d with
  | zero =>
    intro K n b hK hn hb
    obtain ⟨n, rfl⟩ : ∃ n' : Nat, n = n' + 1 := ⟨n - 1, by omega⟩
    have hK : K = nK w := by omega
    subst hK
    have e : D_X10_isBalanced_9 (n + 1) b (I (nK w)) (pw x w) = some (b, pw x w) := by
      unfold D_X10_isBalanced_9
      rw [giP, hv.cnt.2.2.1, if_pos (leT (Nat.le_refl _) (by omega)), if_pos hb]
    rw [e]
    refine ⟨fun z => by rw [z.1], ?_⟩
    rintro (z | ⟨K', a, b', _⟩)
    · rw [z]
    · omega
  | succ d ih =>
    intro K n b hK hn hb
    obtain ⟨n, rfl⟩ : ∃ n' : Nat, n = n' + 1 := ⟨n - 1, by omega⟩
    have e := bal_xl h x hv (D_X10_isBalanced_9 n) b (K := K) (by omega) 6 0 FU (by decide) (by decide)
    have e : D_X10_isBalanced_25 (D_X10_isBalanced_9 n) FU b (I K) (0 : Int32) (1 : Int32) (pw x w) = _ := e
    have hu : D_X10_isBalanced_9 (n + 1) b (I K) (pw x w) = D_X10_isBalanced_9 n (if b = 0 then 0 else if bal w K then 1 else 0) (I (K + 1)) (pw x w) := by
      rw [← e]
      generalize hB : D_X10_isBalanced_25 (D_X10_isBalanced_9 n) FU b (I K) (0 : Int32) (1 : Int32) (pw x w) = BB
      unfold D_X10_isBalanced_9
      rw [giP, hv.cnt.2.2.1, if_neg (leF (by omega) (by omega))]
      exact hB
    rw [hu]
    constructor
    · rintro ⟨rfl, z⟩
      rw [if_neg (show ¬ (1 : Int32) = 0 by decide), if_pos (z K (Nat.le_refl _) (by omega))]
      exact (ih (K + 1) n 1 (by omega) (by omega) (Or.inr rfl)).1 ⟨rfl, fun K' a b' => z K' (by omega) b'⟩
    · intro z
      by_cases c : b = 0
      · rw [if_pos c]
        exact (ih (K + 1) n 0 (by omega) (by omega) (Or.inl rfl)).2 (Or.inl rfl)
      · rw [if_neg c]
        by_cases c2 : bal w K
        · rw [if_pos c2]
          obtain ⟨K', a, b', c3⟩ := z.resolve_left c
          refine (ih (K + 1) n 1 (by omega) (by omega) (Or.inr rfl)).2 (Or.inr ⟨K', ?_, b', c3⟩)
          by_cases e : K' = K
          · subst e; exact absurd c2 c3
          · omega
        · rw [if_neg c2]
          exact (ih (K + 1) n 0 (by omega) (by omega) (Or.inl rfl)).2 (Or.inl rfl)
theorem all_or {n : Nat} (P : Nat → Prop) : (∀ K : Nat, 0 ≤ K → K < n → P K) ∨ ∃ K : Nat, 0 ≤ K ∧ K < n ∧ ¬ P K := by
  by_cases h : ∃ K : Nat, 0 ≤ K ∧ K < n ∧ ¬ P K
  · exact Or.inr h
  · exact Or.inl (fun K a b => Classical.byContradiction (fun z => h ⟨K, a, b, z⟩))
theorem T_isBalanced {m : MM} {w : Nat → Int32} (hR : R m w) (x h : MM) : AnsN x w (D_X9_isBalanced h m) (D_X10_isBalanced (pw x w)) := by
  have v3 := hR.r0.vc.2.2.1
  unfold D_X9_isBalanced D_X10_isBalanced
  rw [zeroP, bnd_s]
  obtain ⟨a1, a2⟩ := bal_m2 hR.r0 hR.v h (nK w) 0 FU (by omega) (by show nK w < 5000; omega)
  obtain ⟨b1', b2'⟩ := bal_x2 hR.r0 (th x 0) hR.v (nK w) 0 FU 1 (by omega) (by show nK w < 5000; omega) (Or.inr rfl)
  rcases all_or (n := nK w) (bal w) with c | c
  · exact AnsN.y (a1 c) (b1' ⟨rfl, c⟩)
  · exact AnsN.y (a2 c) (b2' (Or.inr c))
