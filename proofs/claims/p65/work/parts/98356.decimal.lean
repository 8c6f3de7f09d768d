/-! PROPERTY: the decimal digits that Integer writes -/
theorem neg_le {a b : Nat} (ha : a < 2147483648) (hb : b < 2147483648) : -I a ≤ -I b ↔ b ≤ a := sb_nle ha hb
theorem neg_lt {a b : Nat} (ha : a < 2147483648) (hb : b < 2147483648) : -I a < -I b ↔ b < a := sb_nlt ha hb
theorem ss_l {v : Nat} (hv : v < 100000) : ∀ (d k n : Nat), d + k = 5 → 1 ≤ k → (k = 1 ∨ 10 ^ (k - 1) ≤ v) → d < n → D_J6_stringSize_0f7a4_16 n (-I v) 0 (-I (10 ^ k)) (I k) = some (I (sb_dg v)) := by
  intro d
  induction d with
  | zero =>
    intro k n hk h1 hlo hn
    obtain ⟨n, rfl⟩ : ∃ n0 : Nat, n = n0 + 1 := ⟨n - 1, by omega⟩
    have e : k = 5 := by omega
    subst e
    rw [D_J6_stringSize_0f7a4_16, if_neg (show ¬ (10 : Int32) ≤ I 5 by decide), if_neg (fun z => by have := (neg_le (by omega) (by decide)).mp z; omega), Int32.add_zero]
    have hlo : 10000 ≤ v := by rcases hlo with z | z <;> omega
    rw [show sb_dg v = 5 by unfold sb_dg; rw [if_neg (by omega), if_neg (by omega), if_neg (by omega), if_neg (by omega), if_pos (by omega)]]
  | succ d ih =>
    intro k n hk h1 hlo hn
    obtain ⟨n, rfl⟩ : ∃ n0 : Nat, n = n0 + 1 := ⟨n - 1, by omega⟩
    have hp : 10 ^ k < 100000 := by
      have : 10 ^ k ≤ 10 ^ 4 := Nat.pow_le_pow_right (by decide) (by omega)
      omega
    rw [D_J6_stringSize_0f7a4_16, if_neg (fun z => by have := (I_le (a := 10) (by decide) (by omega)).mp z; omega)]
    by_cases c : 10 ^ k ≤ v
    · rw [if_pos ((neg_le (by omega) (by omega)).mpr c), bnd_s, bnd_s, show (10 : Int32) * -I (10 ^ k) = -I (10 ^ (k + 1)) by rw [Int32.mul_neg, Nat.pow_succ, Nat.mul_comm]; exact congrArg (fun z => -z) (I_mul 10 (10 ^ k)), ixs1]
      exact ih (k + 1) n (by omega) (by omega) (Or.inr c) (by omega)
    · rw [if_neg (fun z => c ((neg_le (by omega) (by omega)).mp z)), Int32.add_zero]
      congr 2
      rcases (show k = 1 ∨ k = 2 ∨ k = 3 ∨ k = 4 by omega) with e | e | e | e <;> subst e
      · unfold sb_dg
        rw [if_pos (by omega)]
      · have hlo : 10 ≤ v := by rcases hlo with z | z <;> omega
        unfold sb_dg
        rw [if_neg (by omega), if_pos (by omega)]
      · have hlo : 100 ≤ v := by rcases hlo with z | z <;> omega
        unfold sb_dg
        rw [if_neg (by omega), if_neg (by omega), if_pos (by omega)]
      · have hlo : 1000 ≤ v := by rcases hlo with z | z <;> omega
        unfold sb_dg
        rw [if_neg (by omega), if_neg (by omega), if_neg (by omega), if_pos (by omega)]
theorem ss_eq {v : Nat} (hv : v < 100000) : D_J6_stringSize_0f7a4 (I v) = some (I (sb_dg v)) := by
  unfold D_J6_stringSize_0f7a4
  rw [if_neg (I_nneg (by omega)), bnd_s]
  exact ss_l hv 4 1 FU rfl (by decide) (Or.inl rfl) (by decide)
theorem gd2 {α : Type} {k n : Nat} {t : Option α} (hk : k < 2147483648) (h : k < n) : (if I k < 0 ∨ n ≤ k then none else t) = t := if_neg (fun z => z.elim (fun y => absurd y (I_nneg hk)) (fun y => by omega))
theorem vn_d : ∀ c : Nat, c < 128 → vp_nar .byte (I c) = I c := by decide +kernel
theorem fit_d : ∀ c : Nat, c < 128 → fits .byte (.int (I c)) = true := by decide +kernel
theorem pred_I {p : Nat} (h : 0 < p) : I p + (-1 : Int32) = I (p - 1) := sb_m1 h
theorem gc_st {m : MM} {q p c : Nat} (hc : c < 128) : si m q p (vp_nar .byte (I c)) = si m q p (I c) := by rw [vn_d c hc]
/-- the digits of v at n .. in row q of m', all else as in m -/
def Dig (v n q : Nat) (m m' : MM) : Prop := (∀ i : Nat, i < sb_dg v → gi m' q (n + i) = I (sb_dec v i)) ∧ ∀ a j : Nat, ¬ (a = q ∧ n ≤ j ∧ j < n + sb_dg v) → gi m' a j = gi m a j
theorem gc_l (q N : Nat) (hN : N < 100000) : ∀ (f w n k : Nat) (m : MM), sb_dg w ≤ f → f < k → w < 100000 → n + sb_dg w ≤ N → ∃ m' : MM, D_J6_getChars_ba4f3_22 q N k (-I w) (I (n + sb_dg w)) 0 m = some (I n, m') ∧ Dig w n q m m' := by
  intro f
  induction f using Nat.strongRecOn with
  | ind f ih =>
  intro w n k m hwf hk hw hN2
  obtain ⟨k, rfl⟩ : ∃ n0 : Nat, k = n0 + 1 := ⟨k - 1, by omega⟩
  have hd := sb_dg_in w
  rw [D_J6_getChars_ba4f3_22]
  by_cases c : w < 100
  · rw [if_pos (show (-100 : Int32) < -I w from (neg_lt (a := 100) (by decide) (by omega)).mpr c), pred_I (by omega), bnd_s, Int32.neg_neg, gdI (by omega) c, gdI (by omega) (by omega), I_tnc (by omega), I_tnc (by omega), show dgO w = I (48 + w % 10) from rfl, gc_st (by omega), bnd_s]
    by_cases c2 : w ≤ 9
    · have e1 : sb_dg w = 1 := by
        unfold sb_dg
        rw [if_pos (by omega)]
      rw [if_pos (show (-9 : Int32) ≤ -I w from (neg_le (a := 9) (by decide) (by omega)).mpr c2), if_pos rfl, e1, show n + 1 - 1 = n by omega]
      refine ⟨_, rfl, fun i hi => ?_, fun a j h => gi_si_ne (by rw [e1] at h; omega)⟩
      have : i = 0 := by omega
      subst this
      rw [Nat.add_zero, gi_si_eq]
      unfold sb_dec
      rw [e1]
      show I (48 + w % 10) = I (48 + w / 10 ^ 0 % 10)
      rw [Nat.pow_zero, Nat.div_one]
    · have e1 : sb_dg w = 2 := by
        unfold sb_dg
        rw [if_neg (by omega), if_pos (by omega)]
      rw [if_neg (show ¬ (-9 : Int32) ≤ -I w from fun z => c2 ((neg_le (a := 9) (by decide) (by omega)).mp z)), pred_I (by omega), bnd_s, gd2 (by omega) c, gdI (by omega) (by omega), I_tnc (by omega), show dgT w = I (48 + w / 10) from rfl, gc_st (by omega), bnd_s, if_pos rfl, e1, show n + 2 - 1 - 1 = n by omega, show n + 2 - 1 = n + 1 by omega]
      refine ⟨_, rfl, fun i hi => ?_, fun a j h => by rw [e1] at h; rw [gi_si_ne (by omega), gi_si_ne (by omega)]⟩
      unfold sb_dec
      rw [e1]
      rcases (show i = 0 ∨ i = 1 by omega) with e | e <;> subst e
      · rw [show n + 0 = n from rfl, gi_si_eq]
        show I (48 + w / 10) = I (48 + w / 10 ^ 1 % 10)
        rw [Nat.pow_one, Nat.mod_eq_of_lt (show w / 10 < 10 by omega)]
      · rw [gi_si_ne (by omega), gi_si_eq]
        show I (48 + w % 10) = I (48 + w / 10 ^ 0 % 10)
        rw [Nat.pow_zero, Nat.div_one]
  · have e2 : sb_dg w = sb_dg (w / 100) + 2 := sb_dg100 (by omega) (by omega)
    have hd2 := sb_dg_in (w / 100)
    have hm : w % 100 < 100 := Nat.mod_lt _ (by decide)
    rw [if_neg (show ¬ (-100 : Int32) < -I w from fun z => c ((neg_lt (a := 100) (by decide) (by omega)).mp z)), show (-I w) / (100 : Int32) = -I (w / 100) from sb_ndiv (by omega), bnd_s, show (-I (w / 100)) * (100 : Int32) - (-I w) = I (w % 100) from sb_nrem (by omega), bnd_s, pred_I (by omega), bnd_s, gdI (by omega) hm, gdI (by omega) (by omega), I_tnc (by omega), I_tnc (by omega), show dgO (w % 100) = I (48 + w % 100 % 10) from rfl, gc_st (by omega), bnd_s, pred_I (by omega), bnd_s, gd2 (by omega) hm, gdI (by omega) (by omega), I_tnc (by omega), show dgT (w % 100) = I (48 + w % 100 / 10) from rfl, gc_st (by omega), bnd_s, show n + sb_dg w - 1 - 1 = n + sb_dg (w / 100) by omega]
    obtain ⟨m', r1, r2, r3⟩ := ih (sb_dg (w / 100)) (by omega) (w / 100) n k (si (si m q (n + sb_dg w - 1) (I (48 + w % 100 % 10))) q (n + sb_dg (w / 100)) (I (48 + w % 100 / 10))) (Nat.le_refl _) (by omega) (by omega) (by omega)
    refine ⟨m', r1, fun i hi => ?_, fun a j h => by rw [r3 a j (by omega), gi_si_ne (by omega), gi_si_ne (by omega)]⟩
    unfold sb_dec
    by_cases c3 : i < sb_dg (w / 100)
    · rw [r2 i c3]
      unfold sb_dec
      congr 2
      rw [show sb_dg w - 1 - i = sb_dg (w / 100) - 1 - i + 2 by omega, Nat.pow_add, Nat.mul_comm, ← Nat.div_div_eq_div_mul]
    · rw [r3 q (n + i) (by omega)]
      rcases (show i = sb_dg (w / 100) ∨ i = sb_dg (w / 100) + 1 by omega) with e | e <;> subst e
      · rw [gi_si_eq, show sb_dg w - 1 - sb_dg (w / 100) = 1 by omega]
        congr 2
        rw [Nat.pow_one]
        omega
      · rw [gi_si_ne (by omega), show n + (sb_dg (w / 100) + 1) = n + sb_dg w - 1 by omega, gi_si_eq, show sb_dg w - 1 - (sb_dg (w / 100) + 1) = 0 by omega]
        congr 2
        rw [Nat.pow_zero, Nat.div_one]
        omega
theorem gc_eq {q N v n : Nat} (hN : N < 100000) (hv : v < 100000) (h : n + sb_dg v ≤ N) (m : MM) : ∃ m' : MM, D_J6_getChars_ba4f3 (I v) (I (n + sb_dg v)) q N m = some (I n, m') ∧ Dig v n q m m' := by
  unfold D_J6_getChars_ba4f3
  rw [if_pos (show (0 : Int32) ≤ I v from leT (a := 0) (Nat.zero_le _) (by omega)), bnd_s]
  exact gc_l q N hN (sb_dg v) v n FU m (Nat.le_refl _) (show sb_dg v < 5000 by have := (sb_dg_in v).2; omega) hv h
