/-! PURE: reading a text: numbers -/
def ac (cap : Nat) (T : Nat → Nat) (L : Nat) : Nat → Nat → Nat → Nat
  | 0, _, v => v
  | d + 1, p, v => if p < L ∧ dP (T p) = true then ac cap T L d (p + 1) (min (10 * v + T p - 48) cap) else v
theorem ac_le {cap : Nat} {T : Nat → Nat} {L : Nat} : ∀ d p v : Nat, v ≤ cap → ac cap T L d p v ≤ cap := by
  intro d
  induction d with
  | zero => intro p v h; exact h
  | succ d ih =>
    intro p v h
    unfold ac
    split
    · exact ih _ _ (Nat.min_le_right _ _)
    · exact h
theorem ac_rel {T : Nat → Nat} {L : Nat} : ∀ d p u v : Nat, (u = v ∧ u < 1000000 ∨ u = 1000000 ∧ 1000000 ≤ v) → (ac 1000000 T L d p u = ac 100000000 T L d p v ∧ ac 1000000 T L d p u < 1000000 ∨ ac 1000000 T L d p u = 1000000 ∧ 1000000 ≤ ac 100000000 T L d p v) := by
  intro d
  induction d with
  | zero => intro p u v h; exact h
  | succ d ih =>
    intro p u v h
    by_cases c : p < L ∧ dP (T p) = true
    · have e1 : ac 1000000 T L (d + 1) p u = ac 1000000 T L d (p + 1) (min (10 * u + T p - 48) 1000000) := if_pos c
      have e2 : ac 100000000 T L (d + 1) p v = ac 100000000 T L d (p + 1) (min (10 * v + T p - 48) 100000000) := if_pos c
      rw [e1, e2]
      apply ih
      have hc : 48 ≤ T p ∧ T p ≤ 57 := of_decide_eq_true c.2
      omega
    · have e1 : ac 1000000 T L (d + 1) p u = u := if_neg c
      have e2 : ac 100000000 T L (d + 1) p v = v := if_neg c
      rw [e1, e2]
      exact h
theorem rn_l {L : Nat} {T : Nat → Nat} (ht : Tok L T) (m : MM) (x1 x2 : Int32) : ∀ (d p n v : Nat) (h : MM), p + d = L → d < n → v ≤ 1000000 → Hd L T h p → ∃ h' : MM, D_X1_readNumber_42 m n x1 x2 (I v) h = D_X1_readNumber_117 m x1 x2 (I (ac 1000000 T L d p v)) h' ∧ F43 h h' ∧ Hd L T h' (Sc dP T L d p) := by
  intro d
  induction d with
  | zero =>
    intro p n v h hp hn hv hd
    obtain ⟨n, rfl⟩ : ∃ n0 : Nat, n = n0 + 1 := ⟨n - 1, by omega⟩
    refine ⟨h, ?_, F43.rf h, hd⟩
    rw [D_X1_readNumber_42, hd.2.1, hd.2.2.1, if_pos (leT (by omega) (by have := ht.1; omega))]
    rfl
  | succ d ih =>
    intro p n v h hp hn hv hd
    obtain ⟨n, rfl⟩ : ∃ n0 : Nat, n = n0 + 1 := ⟨n - 1, by omega⟩
    have hL := ht.1
    have hpL : p < L := by omega
    have hb := ht.2 p hpL
    rw [D_X1_readNumber_42, hd.2.1, hd.2.2.1, if_neg (leF hpL (by omega)), gdI (by omega) (by omega), gdI (by omega) (by omega), gdI (by omega) (by omega), I_tnc (by omega), hd.2.2.2 p hpL]
    by_cases c : 48 ≤ T p ∧ T p ≤ 57
    · have e : Sc dP T L (d + 1) p = Sc dP T L d (p + 1) := if_pos ⟨hpL, decide_eq_true c⟩
      have e1 : ac 1000000 T L (d + 1) p v = ac 1000000 T L d (p + 1) (min (10 * v + T p - 48) 1000000) := if_pos ⟨hpL, decide_eq_true c⟩
      rw [if_neg (show ¬ b8 (T p) < (48 : Int32) from fun z => absurd ((b8_lt (d := 48) (by omega) (by omega)).mp z) (by omega)), if_neg (show ¬ (57 : Int32) < b8 (T p) from fun z => absurd ((b8_gt (d := 57) (by omega) (by omega)).mp z) (by omega)), bnd_s, bnd_s, ixs1, e, e1]
      have ev : (if (1000000 : Int32) < ((((10 : Int32) * I v) + b8 (T p)) - (48 : Int32)) then (1000000 : Int32) else ((((10 : Int32) * I v) + b8 (T p)) - (48 : Int32))) = I (min (10 * v + T p - 48) 1000000) := by
        rw [b8_lo (T p) (by omega), show (10 : Int32) = I 10 from rfl, show (48 : Int32) = I 48 from rfl, I_mul, I_add, I_sub (by omega), show (1000000 : Int32) = I 1000000 from rfl]
        by_cases g : 1000000 < 10 * v + T p - 48
        · rw [if_pos ((I_lt (by omega) (by omega)).mpr g), Nat.min_eq_right (by omega)]
        · rw [if_neg (fun z => g ((I_lt (by omega) (by omega)).mp z)), Nat.min_eq_left (by omega)]
      rw [ev]
      obtain ⟨h', h1, h2, h3⟩ := ih (p + 1) n (min (10 * v + T p - 48) 1000000) (si h 4 3 (I (p + 1))) (by omega) (by omega) (Nat.min_le_right _ _) (hd.mv (F43.s h _) (gi_si_eq _ _ _ _) hpL)
      exact ⟨h', h1, (F43.s h _).tr h2, h3⟩
    · have e : Sc dP T L (d + 1) p = p := if_neg (fun z => c (of_decide_eq_true z.2))
      have e1 : ac 1000000 T L (d + 1) p v = v := if_neg (fun z => c (of_decide_eq_true z.2))
      rw [e, e1]
      refine ⟨h, ?_, F43.rf h, hd⟩
      by_cases c1 : T p < 48 ∨ 128 ≤ T p
      · rw [if_pos (show b8 (T p) < (48 : Int32) from (b8_lt (d := 48) (by omega) (by omega)).mpr c1)]
      · rw [if_neg (show ¬ b8 (T p) < (48 : Int32) from fun z => c1 ((b8_lt (d := 48) (by omega) (by omega)).mp z)), if_pos (show (57 : Int32) < b8 (T p) from (b8_gt (d := 57) (by omega) (by omega)).mpr (by omega))]
theorem atd_s {L : Nat} {T : Nat → Nat} (ht : Tok L T) (m : MM) {h : MM} {p : Nat} (hd : Hd L T h p) : ∃ h' : MM, D_X1_isAtDigit h m = some (if nx sP T L p < L ∧ dP (T (nx sP T L p)) = true then 1 else 0, h') ∧ F43 h h' ∧ Hd L T h' (nx sP T L p) := by
  obtain ⟨h1, e1, f1, d1⟩ := at_s ht m hd
  have hL := ht.1
  refine ⟨h1, ?_, f1, d1⟩
  unfold D_X1_isAtDigit
  rw [e1, b2_s]
  generalize hB : nx sP T L p = b at d1 ⊢
  by_cases c : b < L
  · have hb := ht.2 b c
    rw [if_pos c, if00, d1.2.2.1, gdI (by omega) (by omega), gdI (by omega) (by omega), I_tnc (by omega), d1.2.2.2 b c]
    by_cases g : 48 ≤ T b ∧ T b ≤ 57
    · rw [if_neg (show ¬ b8 (T b) < (48 : Int32) from fun z => absurd ((b8_lt (d := 48) (by omega) (by omega)).mp z) (by omega)), if_neg (show ¬ (57 : Int32) < b8 (T b) from fun z => absurd ((b8_gt (d := 57) (by omega) (by omega)).mp z) (by omega)), if_pos ⟨c, decide_eq_true g⟩]
    · rw [if_neg (show ¬ (b < L ∧ dP (T b) = true) from fun z => g (of_decide_eq_true z.2))]
      by_cases c1 : T b < 48 ∨ 128 ≤ T b
      · rw [if_pos (show b8 (T b) < (48 : Int32) from (b8_lt (d := 48) (by omega) (by omega)).mpr c1)]
      · rw [if_neg (show ¬ b8 (T b) < (48 : Int32) from fun z => c1 ((b8_lt (d := 48) (by omega) (by omega)).mp z)), if_pos (show (57 : Int32) < b8 (T b) from (b8_gt (d := 57) (by omega) (by omega)).mpr (by omega))]
  · rw [if_neg c, if10, if_neg (fun z => c z.1)]
theorem rd_l {L : Nat} {T : Nat → Nat} (ht : Tok L T) (x1 x2 : Int32) : ∀ (d p n v : Nat) (x : MM), p + d = L → d < n → v ≤ 100000000 → Xd L T x p → ∃ x' : MM, D_X10_reads_24 n x1 x2 (Jn v) x = (if x1.toInt ≤ (ac 100000000 T L d p v : Int) ∧ (ac 100000000 T L d p v : Int) ≤ x2.toInt then some (1, si x' 0 14 (I (ac 100000000 T L d p v))) else b2 (D_X10_fails (2 : Int32) x') (fun v11 m12 => if v11 = 0 ∨ v11 = 1 then some (v11, m12) else none)) ∧ (∀ q k : Nat, (q ≠ 0 ∨ k ≠ 9) → gi x' q k = gi x q k) ∧ Xd L T x' (Sc dP T L d p) := by
  have hL := ht.1
  have stop : ∀ (p v n : Nat) (x : MM), v ≤ 100000000 → Xd L T x p → (if p < L ∧ dP (T p) = true then (1 : Int32) else 0) = 0 → D_X10_reads_24 (n + 1) x1 x2 (Jn v) x = (if x1.toInt ≤ (v : Int) ∧ (v : Int) ≤ x2.toInt then some (1, si x 0 14 (I v)) else b2 (D_X10_fails (2 : Int32) x) (fun v11 m12 => if v11 = 0 ∨ v11 = 1 then some (v11, m12) else none)) := fun p v n x hv hx z => by
    rw [D_X10_reads_24, hx.2.2.1, isd_x ht hx.2.1 hx.2.2.2 (by have := hx.1; omega), b1_s, if_pos z, in_eq, b1_s, Int32.toInt_toInt64, Int32.toInt_toInt64, Jn_int (by omega), Jn_to, bnd_s]
    by_cases c : x1.toInt ≤ (v : Int) ∧ (v : Int) ≤ x2.toInt
    · rw [if_pos c, if_pos c, if10]
    · rw [if_neg c, if_neg c, if00]
  intro d
  induction d with
  | zero =>
    intro p n v x hp hn hv hd
    obtain ⟨n, rfl⟩ : ∃ n0 : Nat, n = n0 + 1 := ⟨n - 1, by omega⟩
    exact ⟨x, stop p v n x hv hd (if_neg (fun z => by omega)), fun _ _ _ => rfl, hd⟩
  | succ d ih =>
    intro p n v x hp hn hv hd
    obtain ⟨n, rfl⟩ : ∃ n0 : Nat, n = n0 + 1 := ⟨n - 1, by omega⟩
    have hpL : p < L := by omega
    have hb := ht.2 p hpL
    by_cases c : 48 ≤ T p ∧ T p ≤ 57
    · have cc : p < L ∧ dP (T p) = true := ⟨hpL, decide_eq_true c⟩
      have e : Sc dP T L (d + 1) p = Sc dP T L d (p + 1) := if_pos cc
      have e1 : ac 100000000 T L (d + 1) p v = ac 100000000 T L d (p + 1) (min (10 * v + T p - 48) 100000000) := if_pos cc
      have ev : (if ((((10 : Int64) * Jn v) + (I (T p)).toInt64) - (48 : Int64)) < (100000000 : Int64) then ((((10 : Int64) * Jn v) + (I (T p)).toInt64) - (48 : Int64)) else (100000000 : Int64)) = Jn (min (10 * v + T p - 48) 100000000) := by
        rw [Jn_of (by omega), show (10 : Int64) = Jn 10 from rfl, show (48 : Int64) = Jn 48 from rfl, Jn_mul, Jn_add, Jn_sub (by omega), show (100000000 : Int64) = Jn 100000000 from rfl]
        by_cases g : 10 * v + T p - 48 < 100000000
        · rw [if_pos (by rw [Int64.lt_iff_toInt_lt, Jn_int (by omega), Jn_int (by omega)]; omega), Nat.min_eq_left (by omega)]
        · rw [if_neg (by rw [Int64.lt_iff_toInt_lt, Jn_int (by omega), Jn_int (by omega)]; omega), Nat.min_eq_right (by omega)]
      obtain ⟨x', h1, h2, h3⟩ := ih (p + 1) n (min (10 * v + T p - 48) 100000000) (si x 0 9 (I (p + 1))) (by omega) (by omega) (Nat.min_le_right _ _) (hd.mv (F09.s x _) (gi_si_eq _ _ _ _) hpL)
      rw [e, e1]
      refine ⟨x', ?_, fun q k z => by rw [h2 q k z, gi_si_ne (by omega)], h3⟩
      rw [← h1, D_X10_reads_24, hd.2.2.1, isd_x ht hd.2.1 hd.2.2.2 (by omega), b1_s, if_pos cc, if10, byte_x ht hd.2.1 hd.2.2.2 (by omega), b1_s, if_pos hpL, bnd_s, bnd_s, ev, ixs1]
    · have cc : ¬ (p < L ∧ dP (T p) = true) := fun z => c (of_decide_eq_true z.2)
      have e : Sc dP T L (d + 1) p = p := if_neg cc
      have e1 : ac 100000000 T L (d + 1) p v = v := if_neg cc
      rw [e, e1]
      exact ⟨x, stop p v n x hv hd (if_neg cc), fun _ _ _ => rfl, hd⟩
-- errors
def Er (h x : MM) : Prop := gi h 4 6 = gi x 0 12 ∧ gi h 4 6 ≠ 0 ∧ gi h 4 7 = gi x 0 11
def FH (h h' : MM) : Prop := ∀ q k : Nat, q ≠ 4 → gi h' q k = gi h q k
def F0z (x x' : MM) : Prop := ∀ q k : Nat, (q ≠ 0 ∨ k ≤ 8 ∨ k = 13) → gi x' q k = gi x q k
def FX (x x' : MM) : Prop := ∀ q k : Nat, ((q ≠ 0 ∧ q ≠ 3) ∨ (q = 0 ∧ (k ≤ 8 ∨ k = 13))) → gi x' q k = gi x q k
theorem FH.rf (h : MM) : FH h h := fun _ _ _ => rfl
theorem FH.tr {a b c : MM} (h : FH a b) (h' : FH b c) : FH a c := fun q k z => (h' q k z).trans (h q k z)
theorem F0z.rf (h : MM) : F0z h h := fun _ _ _ => rfl
theorem F0z.tr {a b c : MM} (h : F0z a b) (h' : F0z b c) : F0z a c := fun q k z => (h' q k z).trans (h q k z)
theorem FX.rf (h : MM) : FX h h := fun _ _ _ => rfl
theorem FX.tr {a b c : MM} (h : FX a b) (h' : FX b c) : FX a c := fun q k z => (h' q k z).trans (h q k z)
theorem F0z.x {a b : MM} (h : F0z a b) : FX a b := fun q k z => h q k (by omega)
theorem F43.h {a b : MM} (h : F43 a b) : FH a b := fun q k z => h q k (by omega)
theorem F09.z {a b : MM} (h : F09 a b) : F0z a b := fun q k z => h q k (by omega)
theorem FH.s (h : MM) (k : Nat) (v : Int32) : FH h (si h 4 k v) := fun q k z => gi_si_ne (by omega)
theorem F0z.s (x : MM) {k : Nat} (v : Int32) (hk : 9 ≤ k ∧ k ≠ 13) : F0z x (si x 0 k v) := fun q k z => gi_si_ne (by omega)
theorem FX.s3 (x : MM) (k : Nat) (v : Int32) : FX x (si x 3 k v) := fun q k z => gi_si_ne (by omega)
theorem F0z.row {x x' : MM} (h : F0z x x') : x'.1 3 = x.1 3 := funext fun k => h 3 k (by omega)
/-- an error on both sides, at one place -/
theorem fail_s {h x : MM} (m : MM) {e p : Nat} (he : 1 ≤ e ∧ e ≤ 4) (h6 : gi h 4 6 = 0) (h12 : gi x 0 12 = 0) (h10 : gi x 0 10 = I p) : ∃ h' x' : MM, D_X1_fail (I e) (I p) h m = some h' ∧ D_X10_fails (I e) x = some (0, x') ∧ Er h' x' ∧ FH h h' ∧ F0z x x' := by
  unfold D_X1_fail D_X10_fails
  rw [if_pos h6, if_pos h12, bnd_s, bnd_s, bnd_s, bnd_s]
  refine ⟨_, _, rfl, rfl, ⟨?_, ?_, ?_⟩, (FH.s h 6 _).tr (FH.s _ 7 _), (F0z.s x _ (by omega)).tr (F0z.s _ _ (by omega))⟩
  · rw [gi_si_ne (by omega), gi_si_eq, gi_si_ne (by omega), gi_si_eq]
  · rw [gi_si_ne (by omega), gi_si_eq]
    exact fun z => absurd ((I_ne0 (by omega)).mp z) (by omega)
  · rw [gi_si_eq, gi_si_eq, gi_si_ne (by omega), h10]
def Jd (L : Nat) (T : Nat → Nat) (h x : MM) (p : Nat) : Prop := Hd L T h p ∧ Xd L T x p ∧ gi h 4 6 = 0 ∧ gi x 0 12 = 0
/-- a number is read on both sides -/
def NumO (L : Nat) (T : Nat → Nat) (p0 a B : Nat) (h x : MM) (c d : Option (Int32 × MM)) : Prop :=
  (∃ (v : Int32) (h' x' : MM), c = some (v, h') ∧ d = some (0, x') ∧ Er h' x' ∧ FH h h' ∧ F0z x x') ∨
  (∃ (n b p : Nat) (h' x' : MM), (nx sP T L p0 < L ∧ dP (T (nx sP T L p0)) = true) ∧ a ≤ n ∧ n < B ∧ p0 ≤ p ∧ c = some (I n, h') ∧ d = some (1, x') ∧ gi x' 0 14 = I n ∧ gi h' 4 5 = I b ∧ gi x' 0 10 = I b ∧ Jd L T h' x' p ∧ FH h h' ∧ F0z x x')
theorem f_bool (o : Option (Int32 × MM)) (v : Int32) (x : MM) (h : o = some (v, x)) (hv : v = 0 ∨ v = 1) : b2 o (fun v11 m12 => if v11 = 0 ∨ v11 = 1 then some (v11, m12) else none) = some (v, x) := by
  rw [h, b2_s, if_pos hv]
theorem num_s {L : Nat} {T : Nat → Nat} (ht : Tok L T) (m : MM) {h x : MM} {p : Nat} (hJ : Jd L T h x p) {a B : Nat} (ha : a ≤ 1) (hB : B ≤ 1000000) {lo hi : Int32} (el : lo = I a) (eh : hi.toInt = (B : Int) - 1) : NumO L T p a B h x (D_X1_readNumber lo hi h m) (D_X10_reads lo hi x) := by
  subst el
  obtain ⟨hH, hX, h6, h12⟩ := hJ
  have hL := ht.1
  obtain ⟨h1, e1, f1, d1⟩ := at_s ht m hH
  obtain ⟨x1, s1, s2, s3, s4⟩ := see_s ht hX
  have hpb : p ≤ nx sP T L p := nx_ge
  have hnb : nx sP T L p < L → ¬ sP (T (nx sP T L p)) = true := nx_no hH.1
  have hbL := d1.1
  generalize hb : nx sP T L p = b at e1 d1 s1 s3 s4 hpb hnb hbL
  have d2 : Hd L T (si h1 4 5 (I b)) b := d1.fr (by rw [gi_si_ne (by omega)]; exact d1.2.2.1) d1.1 (gi_si_ne (by omega)) (fun k => gi_si_ne (by omega))
  have ec : D_X1_readNumber (I a) hi h m = b2 (D_X1_isAtDigit (si h1 4 5 (I b)) m) (fun v5 m6 => if v5 = 0 then (b1 (D_X1_fail (1 : Int32) (gi m6 4 5) m6 m) (fun m17 => some (I a, m17))) else (D_X1_readNumber_42 m FU (I a) hi (0 : Int32) m6)) := by
    unfold D_X1_readNumber
    rw [e1, b2_s]
    by_cases c : b < L
    · rw [if_pos c, if00, bnd_s, d1.2.2.1]
    · have : b = L := by omega
      rw [if_neg c, if10, bnd_s, d1.2.1, ← this]
  obtain ⟨h3, e3, f3, d3⟩ := atd_s ht m d2
  have hbb : nx sP T L b = b := nx_at hnb
  rw [hbb] at e3 d3
  have g6 : gi h3 4 6 = 0 := by rw [f3 4 6 (by omega), gi_si_ne (by omega), f1 4 6 (by omega), h6]
  have g5 : gi h3 4 5 = I b := by rw [f3 4 5 (by omega), gi_si_eq]
  have x12 : gi x1 0 12 = 0 := by rw [s2 0 12 (by omega), h12]
  have fh : FH h h3 := (f1.h.tr (FH.s h1 5 _)).tr f3.h
  rw [ec, e3, b2_s]
  unfold D_X10_reads
  rw [s1, b2_s, s3.2.2.1, isd_x ht s3.2.1 s3.2.2.2 (by omega), b1_s]
  by_cases c : b < L ∧ dP (T b) = true
  · rw [if_pos c, if10, if10]
    obtain ⟨h4, r1, r2, r3⟩ := rn_l ht m (I a) hi (L - b) b FU 0 h3 (by omega) (by show L - b < 5000; omega) (by omega) d3
    obtain ⟨x4, q1, q2, q3⟩ := rd_l ht (I a) hi (L - b) b FU 0 x1 (by omega) (by show L - b < 5000; omega) (by omega) s3
    have q1 : D_X10_reads_24 FU (I a) hi (0 : Int64) x1 = _ := q1
    have r1 : D_X1_readNumber_42 m FU (I a) hi (0 : Int32) h3 = _ := r1
    rw [r1, q1]
    have hrel := ac_rel (T := T) (L := L) (L - b) b 0 0 (Or.inl ⟨rfl, by omega⟩)
    have hul := ac_le (cap := 1000000) (T := T) (L := L) (L - b) b 0 (by omega)
    have hvl := ac_le (cap := 100000000) (T := T) (L := L) (L - b) b 0 (by omega)
    generalize hu : ac 1000000 T L (L - b) b 0 = u at hrel hul ⊢
    generalize hvv : ac 100000000 T L (L - b) b 0 = v at hrel hvl ⊢
    have z6 : gi h4 4 6 = 0 := by rw [r2 4 6 (by omega), g6]
    have z5 : gi h4 4 5 = I b := by rw [r2 4 5 (by omega), g5]
    have z12 : gi x4 0 12 = 0 := by rw [q2 0 12 (by omega), x12]
    have z10 : gi x4 0 10 = I b := by rw [q2 0 10 (by omega), s4]
    have fx : F0z x x4 := s2.z.tr (fun q k z => q2 q k (by omega))
    rw [I_toInt (by omega), eh]
    unfold D_X1_readNumber_117
    by_cases g : a ≤ v ∧ v < B
    · have : u = v := by omega
      subst this
      rw [if_neg (show ¬ I u < I a from fun z => absurd ((I_lt (by omega) (by omega)).mp z) (by omega)), if_pos (show I u ≤ hi by rw [Int32.le_iff_toInt_le, I_toInt (by omega), eh]; omega), if_pos (show (a : Int) ≤ (u : Int) ∧ (u : Int) ≤ (B : Int) - 1 by omega)]
      right
      refine ⟨u, b, Sc dP T L (L - b) b, h4, si x4 0 14 (I u), by rw [hb]; exact c, g.1, g.2, Nat.le_trans hpb (Sc_ge _ _), rfl, rfl, gi_si_eq _ _ _ _, z5, by rw [gi_si_ne (by omega)]; exact z10, ⟨r3, q3.fr (by rw [gi_si_ne (by omega)]; exact q3.2.2.1) q3.1 (gi_si_ne (by omega)) (fun k => gi_si_ne (by omega)), z6, by rw [gi_si_ne (by omega)]; exact z12⟩, fh.tr r2.h, fx.tr (F0z.s x4 _ (by omega))⟩
    · rw [if_neg (show ¬ ((a : Int) ≤ (v : Int) ∧ (v : Int) ≤ (B : Int) - 1) by omega)]
      obtain ⟨h5, x5, y1, y2, y3, y4, y5⟩ := fail_s m (e := 2) (by omega) z6 z12 z10
      have y1 : D_X1_fail (2 : Int32) (I b) h4 m = some h5 := y1
      have y2 : D_X10_fails (2 : Int32) x4 = some (0, x5) := y2
      left
      rw [z5, y1, b1_s, f_bool _ _ _ y2 (Or.inl rfl)]
      refine ⟨I u, h5, x5, ?_, rfl, y3, (fh.tr r2.h).tr y4, fx.tr y5⟩
      by_cases g1 : u < a
      · rw [if_pos ((I_lt (by omega) (by omega)).mpr g1)]
      · rw [if_neg (fun z => g1 ((I_lt (by omega) (by omega)).mp z)), if_neg (by rw [Int32.le_iff_toInt_le, I_toInt (by omega), eh]; omega)]
  · rw [if_neg c, if00, if00, g5]
    obtain ⟨h5, x5, y1, y2, y3, y4, y5⟩ := fail_s m (e := 1) (by omega) g6 x12 s4
    have y1 : D_X1_fail (1 : Int32) (I b) h3 m = some h5 := y1
    have y2 : D_X10_fails (1 : Int32) x1 = some (0, x5) := y2
    left
    rw [y1, b1_s, f_bool _ _ _ y2 (Or.inl rfl)]
    exact ⟨I a, h5, x5, rfl, rfl, y3, fh.tr y4, s2.z.tr y5⟩
/-- a number is read into a place of the row -/
theorem into_s {L : Nat} {T : Nat → Nat} (ht : Tok L T) (m : MM) {h x : MM} {p : Nat} (hJ : Jd L T h x p) {a B : Nat} (ha : a ≤ 1) (hB : B ≤ 1000000) {lo hi : Int32} (el : lo = I a) (eh : hi.toInt = (B : Int) - 1) {pl : Nat} (hpl : pl < 640) : (∃ (v : Int32) (h' x' : MM), D_X1_readNumber lo hi h m = some (v, h') ∧ D_X10_readsInto (I pl) lo hi x = some (0, x') ∧ Er h' x' ∧ FH h h' ∧ FX x x') ∨
    (∃ (n p' : Nat) (h' x' : MM), (nx sP T L p < L ∧ dP (T (nx sP T L p)) = true) ∧ a ≤ n ∧ n < B ∧ p ≤ p' ∧ D_X1_readNumber lo hi h m = some (I n, h') ∧ D_X10_readsInto (I pl) lo hi x = some (1, x') ∧ Jd L T h' x' p' ∧ x'.1 3 = upd (x.1 3) pl (I n) ∧ FH h h' ∧ FX x x') := by
  rcases num_s ht m hJ ha hB el eh with ⟨v, h', x', e1, e2, e3, e4, e5⟩ | ⟨n, b, p', h', x', a0, a1, a2, a3, a4, a5, a6, a7, a8, ⟨j1, j2, j3, j4⟩, a10, a11⟩
  · left
    unfold D_X10_readsInto
    rw [e2, b2_s, if00]
    exact ⟨v, h', x', e1, rfl, e3, e4, e5.x⟩
  · right
    unfold D_X10_readsInto
    rw [a5, b2_s, if10, gdI (by omega) (by omega), bnd_s, I_tnc (by omega), a6]
    refine ⟨n, p', h', si x' 3 pl (I n), a0, a1, a2, a3, a4, rfl, ⟨j1, j2.fr (by rw [gi_si_ne (by omega)]; exact j2.2.2.1) j2.1 (gi_si_ne (by omega)) (fun k => gi_si_ne (by omega)), j3, by rw [gi_si_ne (by omega)]; exact j4⟩, ?_, a10, a11.x.tr (FX.s3 x' pl _)⟩
    rw [← a11.row]
    show va_up x'.1 3 (upd (x'.1 3) pl (I n)) 3 = _
    unfold va_up
    rw [if_pos rfl]
