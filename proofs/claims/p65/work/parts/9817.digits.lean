/-! PROPERTY: numbers and words as they stand in a text -/
theorem dig_run {T : Nat → Nat} {L cap : Nat} (v : Nat) : ∀ (n d p u : Nat), (∀ i : Nat, i < n → T (p + i) = 48 + v / 10 ^ (n - 1 - i) % 10) → p + d = L → p + n ≤ L → (p + n < L → ¬ dP (T (p + n)) = true) → 10 ^ n * u + v % 10 ^ n ≤ cap → Sc dP T L d p = p + n ∧ ac cap T L d p u = 10 ^ n * u + v % 10 ^ n := by
  intro n
  induction n with
  | zero =>
    intro d p u ht hd hn he hc
    have e : 10 ^ 0 * u + v % 10 ^ 0 = u := by
      rw [Nat.pow_zero, Nat.one_mul, Nat.mod_one]
      rfl
    rw [e]
    cases d with
    | zero => exact ⟨rfl, rfl⟩
    | succ d =>
      have c : ¬ (p < L ∧ dP (T p) = true) := fun z => he (by omega) z.2
      exact ⟨if_neg c, if_neg c⟩
  | succ n ih =>
    intro d p u ht hd hn he hc
    obtain ⟨d, rfl⟩ : ∃ d0 : Nat, d = d0 + 1 := ⟨d - 1, by omega⟩
    have t0 : T p = 48 + v / 10 ^ n % 10 := ht 0 (by omega)
    have hm : v / 10 ^ n % 10 < 10 := Nat.mod_lt _ (by decide)
    have c : p < L ∧ dP (T p) = true := ⟨by omega, decide_eq_true (by omega)⟩
    have ep : v % 10 ^ (n + 1) = v % 10 ^ n + 10 ^ n * (v / 10 ^ n % 10) := by rw [Nat.pow_succ, Nat.mod_mul]
    have ev : 10 ^ n * (10 * u + v / 10 ^ n % 10) + v % 10 ^ n = 10 ^ (n + 1) * u + v % 10 ^ (n + 1) := by
      rw [ep, Nat.pow_succ, Nat.mul_add, ← Nat.mul_assoc]
      omega
    have hp : 0 < 10 ^ n := Nat.pow_pos (by decide)
    have h1 : 10 * u + v / 10 ^ n % 10 ≤ 10 ^ n * (10 * u + v / 10 ^ n % 10) := Nat.le_mul_of_pos_left _ hp
    have emin : min (10 * u + T p - 48) cap = 10 * u + v / 10 ^ n % 10 := by
      rw [t0, Nat.min_eq_left (by omega)]
      omega
    obtain ⟨g1, g2⟩ := ih d (p + 1) (10 * u + v / 10 ^ n % 10) (fun i hi => by
      have := ht (i + 1) (by omega)
      rw [show p + 1 + i = p + (i + 1) by omega, this, show n + 1 - 1 - (i + 1) = n - 1 - i by omega]) (by omega) (by omega) (by rw [show p + 1 + n = p + (n + 1) by omega]; exact he) (by rw [ev]; exact hc)
    constructor
    · refine (if_pos c).trans (g1.trans (by omega))
    · refine (if_pos c).trans ?_
      rw [emin, g2, ev]
theorem dg_pow {v : Nat} (h : v < 1000000) : v < 10 ^ sb_dg v := by
  unfold sb_dg
  repeat' split
  all_goals omega
/-- a number in a text: its digits from p on, no digit behind them -/
theorem num_run {T : Nat → Nat} {L cap v p : Nat} (hv : v < 1000000) (hc : 1000000 ≤ cap) (ht : ∀ i : Nat, i < sb_dg v → T (p + i) = sb_dec v i) (hn : p + sb_dg v ≤ L) (he : p + sb_dg v < L → ¬ dP (T (p + sb_dg v)) = true) : nx dP T L p = p + sb_dg v ∧ ac cap T L (L - p) p 0 = v := by
  have hm : v % 10 ^ sb_dg v = v := Nat.mod_eq_of_lt (dg_pow hv)
  obtain ⟨g1, g2⟩ := dig_run (cap := cap) v (sb_dg v) (L - p) p 0 ht (by omega) hn he (by rw [hm, Nat.mul_zero]; omega)
  refine ⟨g1, ?_⟩
  rw [g2, hm, Nat.mul_zero, Nat.zero_add]
/-- a run of letters that P takes, and one behind them that it does not -/
theorem run_sc {P : Nat → Bool} {T : Nat → Nat} {L : Nat} : ∀ (n d p : Nat), (∀ i : Nat, i < n → P (T (p + i)) = true) → p + d = L → p + n ≤ L → (p + n < L → ¬ P (T (p + n)) = true) → Sc P T L d p = p + n := by
  intro n
  induction n with
  | zero =>
    intro d p ht hd hn he
    cases d with
    | zero => rfl
    | succ d => exact if_neg (fun z => he (by omega) z.2)
  | succ n ih =>
    intro d p ht hd hn he
    obtain ⟨d, rfl⟩ : ∃ d0 : Nat, d = d0 + 1 := ⟨d - 1, by omega⟩
    refine (if_pos ⟨by omega, ht 0 (by omega)⟩).trans ?_
    rw [ih d (p + 1) (fun i hi => by rw [show p + 1 + i = p + (i + 1) by omega]; exact ht (i + 1) (by omega)) (by omega) (by omega) (by rw [show p + 1 + n = p + (n + 1) by omega]; exact he)]
    omega
theorem run_nx {P : Nat → Bool} {T : Nat → Nat} {L n p : Nat} (ht : ∀ i : Nat, i < n → P (T (p + i)) = true) (hn : p + n ≤ L) (he : p + n < L → ¬ P (T (p + n)) = true) : nx P T L p = p + n := run_sc n (L - p) p ht (by omega) hn he
/-- one space, and a letter or a digit behind it -/
theorem sp_one {T : Nat → Nat} {L p : Nat} (h : T p = 32) (hp : p + 1 < L) (h1 : T (p + 1) ≠ 32) : nx sP T L p = p + 1 := run_nx (n := 1) (fun i hi => by
  obtain rfl : i = 0 := by omega
  exact decide_eq_true h) (by omega) (fun _ => by
  show ¬ decide (T (p + 1) = 32) = true
  rw [decide_eq_true_eq]
  exact h1)
theorem sp_none {T : Nat → Nat} {L p : Nat} (h : p < L → T p ≠ 32) : nx sP T L p = p := nx_at (fun hp => by
  show ¬ decide (T p = 32) = true
  rw [decide_eq_true_eq]
  exact h hp)
/-- a word in a text -/
theorem word_run {T : Nat → Nat} {L q p : Nat} (hq : q < 12) (ht : ∀ i : Nat, i < strL q → T (p + i) = wn q i) (hn : p + strL q ≤ L) (he : p + strL q < L → ¬ lP (T (p + strL q)) = true) : nx lP T L p = p + strL q ∧ mt T q p (nx lP T L p) := by
  have e : nx lP T L p = p + strL q := run_nx (fun i hi => by
    obtain ⟨-, a, b⟩ := w_chr q hq i (by have := w_len q hq; omega) hi
    rw [ht i hi]
    exact decide_eq_true ⟨a, b⟩) hn he
  exact ⟨e, e, ht⟩
