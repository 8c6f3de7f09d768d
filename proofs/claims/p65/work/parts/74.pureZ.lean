/-! PURE: the longest chain -/
theorem siPq (x : MM) (w : Nat → Int32) {q : Nat} (hq : q ≠ 1) (k : Nat) (v : Int32) : si (pw x w) q k v = pw (si x q k v) w := by
  refine Prod.ext (funext fun q' => funext fun j => ?_) rfl
  show gi (si (pw x w) q k v) q' j = gi (pw (si x q k v) w) q' j
  by_cases h1 : q' = 1
  · subst h1
    rw [giP, gi_si_ne (by omega), giP]
  · rw [gi_pw h1]
    by_cases h0 : q' = q ∧ j = k
    · rw [gi_si_is h0, gi_si_is h0]
    · rw [gi_si_ne (by omega), gi_si_ne (by omega), gi_pw h1]
theorem Wk.suf {w : Nat → Int32} {n : Nat} : ∀ {j a v : Nat}, a < 40 → Wk w (j + n) a v → ∃ a' : Nat, a' < 40 ∧ Wk w n a' v := by
  intro j
  induction j with
  | zero => intro a v ha h; rw [Nat.zero_add] at h; exact ⟨a, ha, h⟩
  | succ j ih =>
    intro a v ha h
    rw [show j + 1 + n = (j + n) + 1 by omega] at h
    obtain ⟨c, -, h2, h3⟩ := h
    exact ih h2 h3
/-- L is the length of the longest walk to s -/
def Lg (w : Nat → Int32) (s L : Nat) : Prop := (∃ a : Nat, a < 40 ∧ Wk w L a s) ∧ ∀ k a : Nat, a < 40 → Wk w k a s → k ≤ L
theorem Lg.un {w : Nat → Int32} {s L L' : Nat} (h : Lg w s L) (h' : Lg w s L') : L = L' := by
  obtain ⟨⟨a, a1, a2⟩, h2⟩ := h
  obtain ⟨⟨b, b1', b2'⟩, h3⟩ := h'
  have := h2 L' b b1' b2'
  have := h3 L a a1 a2
  omega
theorem lchain_ml {m : MM} {w : Nat → Int32} (h : R0 m w) (hv : V w) {s : Nat} (hs : s < 40) : ∀ (d l n : Nat) (F : Int64), l + d = 20 → d < n → (∀ v : Nat, v < 64 → (tb F v = true ↔ v < 40 ∧ Wk w (l + 1) v s)) → (∃ a : Nat, a < 40 ∧ Wk w l a s) → ∃ L : Nat, D_X0_longestChain_11 m n F (I l) = some (I L) ∧ Lg w s L := by
  obtain ⟨v1, v2, v3, v4, v5, v6, -⟩ := h.vc
  obtain ⟨ρ, hr⟩ := V.rk h hv
  have stop : ∀ (l : Nat) (F : Int64), (∀ v : Nat, v < 64 → (tb F v = true ↔ v < 40 ∧ Wk w (l + 1) v s)) → F = 0 → (∃ a : Nat, a < 40 ∧ Wk w l a s) → Lg w s l := fun l F hF z ha => ⟨ha, fun k a ha' hk => by
    by_cases c : k ≤ l
    · exact c
    · obtain ⟨a', h1, h2⟩ := Wk.suf (n := l + 1) (j := k - (l + 1)) ha' (by rw [show k - (l + 1) + (l + 1) = k by omega]; exact hk)
      have := (hF a' (by omega)).mpr ⟨h1, h2⟩
      rw [z, tb_zero] at this
      exact Bool.noConfusion this⟩
  intro d
  induction d with
  | zero =>
    intro l n F hl hn hF ha
    obtain ⟨n, rfl⟩ : ∃ n' : Nat, n = n' + 1 := ⟨n - 1, by omega⟩
    have hl : l = 20 := by omega
    subst hl
    have z : F = 0 := tb_eq0.mpr (fun v hv' => by
      cases q : tb F v
      · rfl
      · obtain ⟨q1, q2⟩ := (hF v hv').mp q
        have := Wk.le hr q1 q2
        omega)
    refine ⟨20, ?_, stop 20 F hF z ha⟩
    unfold D_X0_longestChain_11
    rw [if_pos z]
  | succ d ih =>
    intro l n F hl hn hF ha
    obtain ⟨n, rfl⟩ : ∃ n' : Nat, n = n' + 1 := ⟨n - 1, by omega⟩
    by_cases z : F = 0
    · refine ⟨l, ?_, stop l F hF z ha⟩
      unfold D_X0_longestChain_11
      rw [if_pos z]
    · obtain ⟨G, g1, g2⟩ := firsts_m h hv F
      have hex : ∃ a : Nat, a < 40 ∧ Wk w (l + 1) a s := Classical.byContradiction (fun q => z (tb_eq0.mpr (fun v hv' => by
        cases q2 : tb F v
        · rfl
        · obtain ⟨q3, q4⟩ := (hF v hv').mp q2
          exact absurd ⟨v, q3, q4⟩ q)))
      obtain ⟨L, k1, k2⟩ := ih (l + 1) n G (by omega) (by omega) (fun v hv' => by
        rw [g2 v hv']
        constructor
        · rintro ⟨b, b1', b2', i, hi, e1, e2⟩
          obtain ⟨a0, b0, ha0, hb0, f1, f2, -⟩ := hr i hi
          have := (I_inj (by omega) (by omega)).mp (e1.symm.trans f1)
          exact ⟨by omega, b, ⟨i, hi, e1, e2⟩, b1', ((hF b (by omega)).mp b2').2⟩
        · rintro ⟨q1, c, c1, c2, c3⟩
          exact ⟨c, c2, (hF c (by omega)).mpr ⟨c2, c3⟩, c1⟩) hex
      refine ⟨L, ?_, k2⟩
      unfold D_X0_longestChain_11
      rw [if_neg z, if_neg (show ¬ (20 : Int32) ≤ I l from leF (b := l) (a := 20) (by omega) (by decide)), bnd_s, g1, b1_s, ixs1]
      exact k1
theorem lchain_m {m : MM} {w : Nat → Int32} (h : R0 m w) (hv : V w) {s : Nat} (hs : s < nP w) : ∃ L : Nat, D_X0_longestChain (I s) m = some (I L) ∧ Lg w s L := by
  have v5 := h.vc.2.2.2.2.1
  obtain ⟨ρ, hr⟩ := V.rk h hv
  obtain ⟨G, g1, g2⟩ := firsts_m h hv ((1 : Int64) <<< ((I s).toInt64 &&& 63))
  obtain ⟨L, k1, k2⟩ := lchain_ml h hv (s := s) (by omega) 20 0 FU G (by decide) (by decide) (fun v hv' => by
    rw [g2 v hv']
    constructor
    · rintro ⟨b, b1', b2', i, hi, e1, e2⟩
      obtain ⟨a0, b0, ha0, hb0, f1, f2, -⟩ := hr i hi
      have := (I_inj (by omega) (by omega)).mp (e1.symm.trans f1)
      rw [tb_bit (by omega), decide_eq_true_iff] at b2'
      subst b2'
      exact ⟨by omega, b, ⟨i, hi, e1, e2⟩, b1', rfl⟩
    · rintro ⟨q1, c, c1, c2, c3⟩
      have c3 : c = s := c3
      subst c3
      exact ⟨c, c2, by rw [tb_bit (by omega)]; exact decide_eq_true rfl, c1⟩) ⟨s, by omega, rfl⟩
  refine ⟨L, ?_, k2⟩
  unfold D_X0_longestChain
  rw [g1, b1_s]
  exact k1
-- the reference's
def Sd (w : Nat → Int32) (c : Nat → Nat) : Prop := ∀ v : Nat, v < 40 → ∃ a : Nat, a < 40 ∧ Wk w (c v) a v
theorem ch46_x {w : Nat → Int32} {ρ : Nat → Nat} (hr : Rk w ρ) (hc : w 20 = I (nQ w)) (h6 : nQ w ≤ 20) (k33 : Int32 → Int32 → MM → Option (Int32 × MM)) (S : Int32) (r : Nat) : ∀ (d i n : Nat) (x : MM) (c : Nat → Nat), i + d = nQ w → d < n → (∀ v : Nat, v < 40 → gi x 8 v = I (c v)) → Sd w c → ∃ (x' : MM) (c' : Nat → Nat), D_X10_chain_46 k33 n S (I r) (I i) (pw x w) = k33 S (I (r + 1)) (pw x' w) ∧ (∀ v : Nat, v < 40 → gi x' 8 v = I (c' v)) ∧ Sd w c' ∧ (∀ v : Nat, v < 40 → c v ≤ c' v) ∧ (∀ j a b : Nat, i ≤ j → j < nQ w → a < 40 → b < 40 → w (600 + 2 * j) = I a → w (600 + 2 * j + 1) = I b → c a + 1 ≤ c' b) ∧ ∀ q k : Nat, q ≠ 8 → gi x' q k = gi x q k := by
  intro d
  induction d with
  | zero =>
    intro i n x c hi hn hx hS
    obtain ⟨n, rfl⟩ : ∃ n' : Nat, n = n' + 1 := ⟨n - 1, by omega⟩
    have hi : i = nQ w := by omega
    subst hi
    refine ⟨x, c, ?_, hx, hS, fun v _ => Nat.le_refl _, fun j a b q1 q2 => by omega, fun q k _ => rfl⟩
    unfold D_X10_chain_46
    rw [giP, hc, if_pos (leT (Nat.le_refl _) (by omega)), bnd_s, ixs1]
  | succ d ih =>
    intro i n x c hi hn hx hS
    obtain ⟨n, rfl⟩ : ∃ n' : Nat, n = n' + 1 := ⟨n - 1, by omega⟩
    obtain ⟨a0, b0, ha0, hb0, e1, e2, -⟩ := hr i (by omega)
    have bc : ∀ v : Nat, v < 40 → c v ≤ 20 := fun v hv => by
      obtain ⟨a, a1, a2⟩ := hS v hv
      have := Wk.le hr a1 a2
      omega
    have ba := bc a0 ha0
    have bb := bc b0 hb0
    have hmax : (if gi x 8 b0 < gi x 8 a0 + (1 : Int32) then gi x 8 a0 + (1 : Int32) else gi x 8 b0) = I (max (c b0) (c a0 + 1)) := by
      rw [hx a0 ha0, hx b0 hb0, ixs1]
      by_cases q : c b0 < c a0 + 1
      · rw [if_pos ((I_lt (by omega) (by omega)).mpr q), Nat.max_eq_right (by omega)]
      · rw [if_neg (fun z => q ((I_lt (by omega) (by omega)).mp z)), Nat.max_eq_left (by omega)]
    obtain ⟨x', c', k1, k2, k3, k4, k5, k6⟩ := ih (i + 1) n (si x 8 b0 (I (max (c b0) (c a0 + 1)))) (fun v => if v = b0 then max (c b0) (c a0 + 1) else c v) (by omega) (by omega) (fun v hv => by
      by_cases e : v = b0
      · subst e
        rw [gi_si_eq, if_pos rfl]
      · rw [gi_si_ne (by omega), if_neg e]
        exact hx v hv) (fun v hv => by
      by_cases e : v = b0
      · subst e
        show ∃ a : Nat, a < 40 ∧ Wk w (if v = v then max (c v) (c a0 + 1) else c v) a v
        rw [if_pos rfl]
        by_cases q : c v < c a0 + 1
        · rw [Nat.max_eq_right (by omega)]
          obtain ⟨a, a1, a2⟩ := hS a0 ha0
          exact ⟨a, a1, a2.snoc ⟨i, by omega, e1, e2⟩ hv⟩
        · rw [Nat.max_eq_left (by omega)]
          exact hS v hv
      · show ∃ a : Nat, a < 40 ∧ Wk w (if v = b0 then max (c b0) (c a0 + 1) else c v) a v
        rw [if_neg e]
        exact hS v hv)
    have up : ∀ v : Nat, v < 40 → c v ≤ c' v := fun v hv => by
      have := k4 v hv
      by_cases e : v = b0
      · subst e
        have this : (if v = v then max (c v) (c a0 + 1) else c v) ≤ c' v := this
        rw [if_pos rfl] at this
        omega
      · have this : (if v = b0 then max (c b0) (c a0 + 1) else c v) ≤ c' v := this
        rw [if_neg e] at this
        exact this
    refine ⟨x', c', ?_, k2, k3, up, fun j a b q1 q2 q3 q4 q5 q6 => ?_, fun q k hq => by rw [k6 q k hq, gi_si_ne (by omega)]⟩
    · unfold D_X10_chain_46
      rw [giP, hc, if_neg (leF (by omega) (by omega)), ix600, ixs1, gdI (by omega) (by omega), gdI (by omega) (by omega), I_tnc (by omega), giP, e2, gdI (by omega) (by omega), gdI (by omega) (by omega), I_tnc (show 600 + 2 * i < 2147483648 by omega), giP, e1, gdI (by omega) (by omega), I_tnc (show b0 < 2147483648 by omega), I_tnc (show a0 < 2147483648 by omega), gi_pw (by decide), gi_pw (by decide), hmax, bnd_s, gdJ (by omega) (by omega), siPq x w (by decide), bnd_s, bnd_s, ixs1]
      exact k1
    · by_cases e : j = i
      · subst e
        have := (I_inj (by omega) (by omega)).mp (q5.symm.trans e1)
        have := (I_inj (by omega) (by omega)).mp (q6.symm.trans e2)
        subst_vars
        have := k4 b hb0
        have this : (if b = b then max (c b) (c a + 1) else c b) ≤ c' b := this
        rw [if_pos rfl] at this
        omega
      · have k := k5 j a b (by omega) q2 q3 q4 q5 q6
        have : c a ≤ (if a = b0 then max (c b0) (c a0 + 1) else c a) := by
          by_cases e2 : a = b0
          · subst e2; rw [if_pos rfl]; omega
          · rw [if_neg e2]; omega
        omega
theorem ch33_x {w : Nat → Int32} {ρ : Nat → Nat} (hr : Rk w ρ) (hc : w 20 = I (nQ w)) (h6 : nQ w ≤ 20) {s : Nat} (hs : s < 40) : ∀ (d r n : Nat) (x : MM) (c : Nat → Nat), r + d = nQ w → d < n → (∀ v : Nat, v < 40 → gi x 8 v = I (c v)) → Sd w c → (∀ k a v : Nat, k ≤ r → a < 40 → v < 40 → Wk w k a v → k ≤ c v) → ∃ (L : Nat) (x' : MM), D_X10_chain_33 n (I s) (I r) (pw x w) = some (I L, pw x' w) ∧ Lg w s L ∧ ∀ q k : Nat, q ≠ 8 → gi x' q k = gi x q k := by
  intro d
  induction d with
  | zero =>
    intro r n x c hd hn hx hS hC
    obtain ⟨n, rfl⟩ : ∃ n' : Nat, n = n' + 1 := ⟨n - 1, by omega⟩
    have hd : r = nQ w := by omega
    subst hd
    refine ⟨c s, x, ?_, ⟨hS s hs, fun k a ha hk => hC k a s (Wk.le hr ha hk) ha hs hk⟩, fun q k _ => rfl⟩
    unfold D_X10_chain_33
    rw [giP, hc, if_pos (leT (Nat.le_refl _) (by omega)), gdI (by omega) (by omega), I_tnc (by omega), gi_pw (by decide), hx s hs]
  | succ d ih =>
    intro r n x c hd hn hx hS hC
    obtain ⟨n, rfl⟩ : ∃ n' : Nat, n = n' + 1 := ⟨n - 1, by omega⟩
    obtain ⟨x', c', k1, k2, k3, k4, k5, k6⟩ := ch46_x hr hc h6 (D_X10_chain_33 n) (I s) r (nQ w) 0 FU x c (by omega) (by show nQ w < 5000; omega) hx hS
    obtain ⟨L, x2, g1, g2, g3⟩ := ih (r + 1) n x' c' (by omega) (by omega) k2 k3 (fun k a v hk ha hv hw => by
      match k, hk, hw with
      | 0, hk, hw => exact Nat.zero_le _
      | k + 1, hk, hw =>
        obtain ⟨u, u1, u2, j, hj, e1, e2⟩ := Wk.last ha hw
        have h1 := hC k a u (by omega) ha u1 u2
        have h2 := k5 j u v (Nat.zero_le _) hj u1 hv e1 e2
        omega)
    have k1 : D_X10_chain_46 (D_X10_chain_33 n) FU (I s) (I r) (0 : Int32) (pw x w) = _ := k1
    refine ⟨L, x2, ?_, g2, fun q k hq => by rw [g3 q k hq, k6 q k hq]⟩
    unfold D_X10_chain_33
    rw [giP, hc, if_neg (leF (by omega) (by omega)), k1]
    exact g1
theorem ch12_x (w : Nat → Int32) (S : Int32) : ∀ (d i n : Nat) (x : MM), i + d = 40 → d < n → (∀ v : Nat, v < i → gi x 8 v = 0) → ∃ x' : MM, D_X10_chain_12 n S (I i) (pw x w) = D_X10_chain_33 FU S (0 : Int32) (pw x' w) ∧ (∀ v : Nat, v < 40 → gi x' 8 v = 0) ∧ ∀ q k : Nat, q ≠ 8 → gi x' q k = gi x q k := by
  intro d
  induction d with
  | zero =>
    intro i n x hd hn hx
    obtain ⟨n, rfl⟩ : ∃ n' : Nat, n = n' + 1 := ⟨n - 1, by omega⟩
    have hd : i = 40 := by omega
    subst hd
    refine ⟨x, ?_, hx, fun q k _ => rfl⟩
    unfold D_X10_chain_12
    rw [if_pos (by decide)]
  | succ d ih =>
    intro i n x hd hn hx
    obtain ⟨n, rfl⟩ : ∃ n' : Nat, n = n' + 1 := ⟨n - 1, by omega⟩
    obtain ⟨x', k1, k2, k3⟩ := ih (i + 1) n (si x 8 i 0) (by omega) (by omega) (fun v hv => by
      by_cases e : v = i
      · subst e; rw [gi_si_eq]
      · rw [gi_si_ne (by omega)]; exact hx v (by omega))
    refine ⟨x', ?_, k2, fun q k hq => by rw [k3 q k hq, gi_si_ne (by omega)]⟩
    unfold D_X10_chain_12
    rw [if_neg (show ¬ (40 : Int32) ≤ I i from leF (b := i) (a := 40) (by omega) (by decide)), gdI (by omega) (by omega), I_tnc (by omega), siPq x w (by decide), bnd_s, bnd_s, ixs1]
    exact k1
theorem T_chain {m : MM} {w : Nat → Int32} (hR : R m w) (x h : MM) (x1 : Int32) : Ans x w 1 0 (D_X9_chain x1 h m) (D_X10_chain x1 (pw x w)) := by
  obtain ⟨v1, v2, v3, v4, v5, v6, -⟩ := hR.r0.vc
  have hv := hR.v
  unfold D_X9_chain D_X10_chain
  rw [hR.r0.n19 hv]
  by_cases c1 : ok x1 (nP w)
  · obtain ⟨s, hs, rfl⟩ := ok_ex c1
    obtain ⟨ρ, hr⟩ := V.rk hR.r0 hv
    obtain ⟨L, l1, l2⟩ := lchain_m hR.r0 hv hs
    obtain ⟨x', k1, k2, k3⟩ := ch12_x w (I s) 40 0 FU (th x 0) (by decide) (by decide) (fun v hv' => by omega)
    obtain ⟨L', x2, g1, g2, g3⟩ := ch33_x hr hv.cnt.2.2.2.2.2.1 v6 (s := s) (by omega) (nQ w) 0 FU x' (fun _ => 0) (by omega) (by show nQ w < 5000; omega) k2 (fun v hv' => ⟨v, hv', rfl⟩) (fun k a v hk _ _ _ => hk)
    have e := l2.un g2
    subst e
    have k1 : D_X10_chain_12 FU (I s) (0 : Int32) (pw (th x 0) w) = _ := k1
    have g1 : D_X10_chain_33 FU (I s) (0 : Int32) (pw x' w) = _ := g1
    rw [rqi_y (by omega) c1, bX_s, nstP_y hv v5 c1, b2_s, if00, l1, b1_s, k1, g1]
    refine Or.inr ⟨I L, x2, rfl, rfl, by rw [g3 0 6 (by decide), k3 0 6 (by decide)]; exact gi_th6 x 0, fun q k hq => ?_⟩
    rw [g3 q k (by omega), k3 q k (by omega)]
    exact XK.th x 0 q k hq
  · rw [rqi_n (by omega) c1, bX_x, nstP_n hv v5 c1, b2_s, if10]
    exact Ans.t0 (by decide) rfl rfl
-- the sets
theorem fset_xl {m : MM} {w : Nat → Int32} (h : R0 m w) (x : MM) (hv : V w) : ∀ (d i n : Nat) (S : Int64), i + d = nP w → d < n → ∃ G : Int64, D_X10_fillableSet_9 n S (I i) (pw x w) = some (G, pw x w) ∧ ∀ k : Nat, k < 64 → (tb G k = true ↔ (tb S k = true ∨ (i ≤ k ∧ k < nP w ∧ fil w k))) := by
  obtain ⟨v1, v2, v3, v4, v5, v6, -⟩ := h.vc
  have e00 : ∀ S : Int64, (S ||| (0 : Int64)) = S := fun S => tb_ext (fun k hk => by rw [tb_or, tb_zero, Bool.or_false])
  intro d
  induction d with
  | zero =>
    intro i n S hi hn
    obtain ⟨n, rfl⟩ : ∃ n' : Nat, n = n' + 1 := ⟨n - 1, by omega⟩
    have hi : i = nP w := by omega
    subst hi
    refine ⟨S, ?_, fun k hk => ⟨fun z => Or.inl z, fun z => z.elim id (fun q => by omega)⟩⟩
    unfold D_X10_fillableSet_9
    rw [giP, hv.cnt.2.2.2.2.1, if_pos (leT (Nat.le_refl _) (by omega))]
  | succ d ih =>
    intro i n S hi hn
    obtain ⟨n, rfl⟩ : ∃ n' : Nat, n = n' + 1 := ⟨n - 1, by omega⟩
    have hu : D_X10_fillableSet_9 (n + 1) S (I i) (pw x w) = D_X10_fillableSet_9 n (if fil w i then S ||| ((1 : Int64) <<< ((I i).toInt64 &&& 63)) else S) (I (i + 1)) (pw x w) := by
      generalize hB : D_X10_fillableSet_9 n (if fil w i then S ||| ((1 : Int64) <<< ((I i).toInt64 &&& 63)) else S) (I (i + 1)) (pw x w) = BB
      unfold D_X10_fillableSet_9
      rw [giP, hv.cnt.2.2.2.2.1, if_neg (leF (by omega) (by omega)), isFil_x x hv v5 v6 (by omega), b1_s, bnd_s, bnd_s, bnd_s, bnd_s, ixs1, e00]
      by_cases c : fil w i
      · rw [if_pos c] at hB
        rw [if_pos c, if10]; exact hB
      · rw [if_neg c] at hB
        rw [if_neg c, if00]; exact hB
    obtain ⟨G, g1, g2⟩ := ih (i + 1) n (if fil w i then S ||| ((1 : Int64) <<< ((I i).toInt64 &&& 63)) else S) (by omega) (by omega)
    refine ⟨G, by rw [hu]; exact g1, fun k hk => ?_⟩
    rw [g2 k hk]
    by_cases c : fil w i
    · rw [if_pos c, tb_or, tb_bit (by omega), Bool.or_eq_true, decide_eq_true_iff]
      constructor
      · rintro ((z | z) | z)
        · exact Or.inl z
        · subst z; exact Or.inr ⟨Nat.le_refl _, by omega, c⟩
        · exact Or.inr ⟨by omega, z.2⟩
      · rintro (z | ⟨z1, z2⟩)
        · exact Or.inl (Or.inl z)
        · by_cases e : k = i
          · exact Or.inl (Or.inr e)
          · exact Or.inr ⟨by omega, z2⟩
    · rw [if_neg c]
      constructor
      · rintro (z | z)
        · exact Or.inl z
        · exact Or.inr ⟨by omega, z.2⟩
      · rintro (z | ⟨z1, z2, z3⟩)
        · exact Or.inl z
        · by_cases e : k = i
          · subst e; exact absurd z3 c
          · exact Or.inr ⟨by omega, z2, z3⟩
theorem T_fillableSet {m : MM} {w : Nat → Int32} (hR : R m w) (x h : MM) : AnsN x w (D_X9_fillableSet h m) (D_X10_fillableSet (pw x w)) := by
  have v5 := hR.r0.vc.2.2.2.2.1
  obtain ⟨G, g1, g2⟩ := fil_m hR.r0 hR.v
  obtain ⟨H, h1, h2⟩ := fset_xl hR.r0 (th x 0) hR.v (nP w) 0 FU 0 (by omega) (by show nP w < 5000; omega)
  have e : G = H := tb_xt (fun k hk => by
    rw [g2 k hk, h2 k hk]
    constructor
    · rintro ⟨z1, z2⟩; exact Or.inr ⟨Nat.zero_le _, z1, z2⟩
    · rintro (z | z)
      · rw [tb_zero] at z; exact Bool.noConfusion z
      · exact z.2)
  subst e
  unfold D_X9_fillableSet D_X10_fillableSet
  rw [g1, b1_s, zeroP, bnd_s]
  exact AnsN.y rfl h1
theorem gset_xl (x : MM) {w : Nat → Int32} (hv : V w) (h5 : nP w ≤ 40) : ∀ (d i n : Nat) (S : Int64), i + d = nP w → d < n → ∃ G : Int64, D_X10_filledSet_9 n S (I i) (pw x w) = some (G, pw x w) ∧ ∀ k : Nat, k < 64 → (tb G k = true ↔ (tb S k = true ∨ (i ≤ k ∧ k < nP w ∧ w (240 + 6 * k + 3) = 1))) := by
  have e00 : ∀ S : Int64, (S ||| (0 : Int64)) = S := fun S => tb_ext (fun k hk => by rw [tb_or, tb_zero, Bool.or_false])
  intro d
  induction d with
  | zero =>
    intro i n S hi hn
    obtain ⟨n, rfl⟩ : ∃ n' : Nat, n = n' + 1 := ⟨n - 1, by omega⟩
    have hi : i = nP w := by omega
    subst hi
    refine ⟨S, ?_, fun k hk => ⟨fun z => Or.inl z, fun z => z.elim id (fun q => by omega)⟩⟩
    unfold D_X10_filledSet_9
    rw [giP, hv.cnt.2.2.2.2.1, if_pos (leT (Nat.le_refl _) (by omega))]
  | succ d ih =>
    intro i n S hi hn
    obtain ⟨n, rfl⟩ : ∃ n' : Nat, n = n' + 1 := ⟨n - 1, by omega⟩
    have hu : D_X10_filledSet_9 (n + 1) S (I i) (pw x w) = D_X10_filledSet_9 n (if w (240 + 6 * i + 3) = 1 then S ||| ((1 : Int64) <<< ((I i).toInt64 &&& 63)) else S) (I (i + 1)) (pw x w) := by
      generalize hB : D_X10_filledSet_9 n (if w (240 + 6 * i + 3) = 1 then S ||| ((1 : Int64) <<< ((I i).toInt64 &&& 63)) else S) (I (i + 1)) (pw x w) = BB
      unfold D_X10_filledSet_9
      rw [giP, hv.cnt.2.2.2.2.1, if_neg (leF (by omega) (by omega)), oSt3P (by omega), b1_s, bnd_s, bnd_s, bnd_s, bnd_s, ixs1, e00]
      by_cases c : w (240 + 6 * i + 3) = 1
      · rw [if_pos c] at hB
        rw [if_pos c]; exact hB
      · rw [if_neg c] at hB
        rw [if_neg c]; exact hB
    obtain ⟨G, g1, g2⟩ := ih (i + 1) n (if w (240 + 6 * i + 3) = 1 then S ||| ((1 : Int64) <<< ((I i).toInt64 &&& 63)) else S) (by omega) (by omega)
    refine ⟨G, by rw [hu]; exact g1, fun k hk => ?_⟩
    rw [g2 k hk]
    by_cases c : w (240 + 6 * i + 3) = 1
    · rw [if_pos c, tb_or, tb_bit (by omega), Bool.or_eq_true, decide_eq_true_iff]
      constructor
      · rintro ((z | z) | z)
        · exact Or.inl z
        · subst z; exact Or.inr ⟨Nat.le_refl _, by omega, c⟩
        · exact Or.inr ⟨by omega, z.2⟩
      · rintro (z | ⟨z1, z2⟩)
        · exact Or.inl (Or.inl z)
        · by_cases e : k = i
          · exact Or.inl (Or.inr e)
          · exact Or.inr ⟨by omega, z2⟩
    · rw [if_neg c]
      constructor
      · rintro (z | z)
        · exact Or.inl z
        · exact Or.inr ⟨by omega, z.2⟩
      · rintro (z | ⟨z1, z2, z3⟩)
        · exact Or.inl z
        · by_cases e : k = i
          · subst e; exact absurd z3 c
          · exact Or.inr ⟨by omega, z2, z3⟩
theorem T_filledSet {m : MM} {w : Nat → Int32} (hR : R m w) (x h : MM) : AnsN x w (D_X9_filledSet h m) (D_X10_filledSet (pw x w)) := by
  have v5 := hR.r0.vc.2.2.2.2.1
  obtain ⟨H, h1, h2⟩ := gset_xl (th x 0) hR.v v5 (nP w) 0 FU 0 (by omega) (by show nP w < 5000; omega)
  have e : gl m 36 8 = H := tb_xt (fun k hk => by
    rw [hR.r0.fl' hk, h2 k hk]
    constructor
    · rintro ⟨z1, z2⟩; exact Or.inr ⟨Nat.zero_le _, z1, z2⟩
    · rintro (z | z)
      · rw [tb_zero] at z; exact Bool.noConfusion z
      · exact z.2)
  unfold D_X9_filledSet D_X10_filledSet
  rw [zeroP, bnd_s, e]
  exact AnsN.y rfl h1
