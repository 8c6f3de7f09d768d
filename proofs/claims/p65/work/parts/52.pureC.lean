/-! PURE: Long.bitCount counts the places -/
def cntP (p : Nat → Bool) : Nat → Nat
  | 0 => 0
  | n + 1 => cntP p n + (if p n then 1 else 0)
theorem cntP_le (p : Nat → Bool) (n : Nat) : cntP p n ≤ n := by
  induction n with
  | zero => exact Nat.le_refl _
  | succ n ih => unfold cntP; split <;> omega
theorem cntP_congr {p q : Nat → Bool} {n : Nat} (h : ∀ k : Nat, k < n → p k = q k) : cntP p n = cntP q n := by
  induction n with
  | zero => rfl
  | succ n ih => unfold cntP; rw [ih (fun k hk => h k (by omega)), h n (by omega)]
theorem cntP_more {p : Nat → Bool} {n : Nat} (k : Nat) (h : ∀ i : Nat, n ≤ i → p i = false) : cntP p (n + k) = cntP p n := by
  induction k with
  | zero => rfl
  | succ k ih =>
    show cntP p (n + k) + (if p (n + k) then 1 else 0) = _
    rw [ih, h (n + k) (by omega)]
    rfl
theorem cntP_add (p : Nat → Bool) (n k : Nat) : cntP p (n + k) = cntP p n + cntP (fun i => p (n + i)) k := by
  induction k with
  | zero => rfl
  | succ k ih =>
    show cntP p (n + k) + (if p (n + k) then 1 else 0) = cntP p n + (cntP (fun i => p (n + i)) k + (if p (n + k) then 1 else 0))
    omega
def rep (c : Nat) : Nat → Nat
  | 0 => 0
  | L + 1 => 256 * rep c L + c
def bm (f : Nat → Nat) : Nat → Nat → Nat
  | 0, _ => 0
  | L + 1, x => 256 * bm f L (x / 256) + f (x % 256)
theorem and256 {a b c d : Nat} (hb : b < 256) (hd : d < 256) : (256 * a + b) &&& (256 * c + d) = 256 * (a &&& c) + (b &&& d) := by
  have h1 : ((256 * a + b) &&& (256 * c + d)) / 2 ^ 8 = a &&& c := by
    rw [Nat.and_div_two_pow, show (256 * a + b) / 2 ^ 8 = a by omega, show (256 * c + d) / 2 ^ 8 = c by omega]
  have h2 : ((256 * a + b) &&& (256 * c + d)) % 2 ^ 8 = b &&& d := by
    rw [Nat.and_mod_two_pow, show (256 * a + b) % 2 ^ 8 = b by omega, show (256 * c + d) % 2 ^ 8 = d by omega]
  have h3 := Nat.div_add_mod ((256 * a + b) &&& (256 * c + d)) (2 ^ 8)
  rw [h1, h2] at h3
  omega
def f1 (b : Nat) : Nat := b - ((b / 2) &&& 85)
def f2 (b : Nat) : Nat := (b &&& 51) + ((b / 4) &&& 51)
def f3 (b : Nat) : Nat := (b + b / 16) &&& 15
theorem lo1 : ∀ b : Nat, b < 256 → ∀ e : Nat, e < 2 → (128 * e + b / 2) &&& 85 = (b / 2) &&& 85 := by decide +kernel
theorem lo2 : ∀ b : Nat, b < 256 → ∀ e : Nat, e < 4 → (64 * e + b / 4) &&& 51 = (b / 4) &&& 51 := by decide +kernel
theorem lo3 : ∀ b : Nat, b < 256 → ∀ e : Nat, e < 16 → (b + (16 * e + b / 16)) &&& 15 = (b + b / 16) &&& 15 := by decide +kernel
theorem f1_lt : ∀ b : Nat, b < 256 → f1 b < 256 := by decide +kernel
theorem f2_ok : ∀ b : Nat, b < 256 → f2 (f1 b) ≤ 68 ∧ f2 (f1 b) % 16 ≤ 4 := by decide +kernel
theorem f3_cnt : ∀ b : Nat, b < 256 → f3 (f2 (f1 b)) = cntP (fun i => b.testBit i) 8 := by decide +kernel
theorem s1_bm (L : Nat) : ∀ x : Nat, x - ((x / 2) &&& rep 85 L) = if L = 0 then x else 256 ^ L * (x / 256 ^ L) + bm f1 L x := by
  induction L with
  | zero =>
    intro x
    show x - ((x / 2) &&& 0) = x
    rw [Nat.and_zero]
    rfl
  | succ L ih =>
    intro x
    rw [if_neg (Nat.succ_ne_zero L)]
    have hx : x = 256 * (x / 256) + x % 256 := (Nat.div_add_mod x 256).symm
    generalize ha : x / 256 = a at hx
    generalize hb : x % 256 = b at hx
    have hb2 : b < 256 := by omega
    have e1 : x / 2 = 256 * (a / 2) + (128 * (a % 2) + b / 2) := by omega
    have e2 : (x / 2) &&& rep 85 (L + 1) = 256 * ((a / 2) &&& rep 85 L) + ((b / 2) &&& 85) := by
      rw [e1]
      show (256 * (a / 2) + (128 * (a % 2) + b / 2)) &&& (256 * rep 85 L + 85) = _
      rw [and256 (by omega) (by decide), lo1 b hb2 (a % 2) (by omega)]
    have l1 : ((a / 2) &&& rep 85 L) ≤ a / 2 := Nat.and_le_left
    have l2 : ((b / 2) &&& 85) ≤ b / 2 := Nat.and_le_left
    have e3 : x - ((x / 2) &&& rep 85 (L + 1)) = 256 * (a - ((a / 2) &&& rep 85 L)) + f1 b := by
      rw [e2]
      unfold f1
      omega
    rw [e3, ih a]
    have e4 : x / 256 ^ (L + 1) = a / 256 ^ L := by
      rw [Nat.pow_succ, Nat.mul_comm, ← Nat.div_div_eq_div_mul, ha]
    rw [e4]
    show _ = 256 ^ (L + 1) * (a / 256 ^ L) + (256 * bm f1 L (x / 256) + f1 (x % 256))
    rw [ha, hb]
    by_cases hL : L = 0
    · subst hL
      rw [if_pos rfl]
      show 256 * a + f1 b = 256 ^ 1 * (a / 256 ^ 0) + (256 * 0 + f1 b)
      rw [Nat.pow_zero, Nat.div_one]
      omega
    · rw [if_neg hL, Nat.pow_succ]
      have : 256 ^ L * 256 * (a / 256 ^ L) = 256 * (256 ^ L * (a / 256 ^ L)) := by
        rw [Nat.mul_comm (256 ^ L) 256, Nat.mul_assoc]
      rw [this, Nat.mul_add]
      omega
theorem s2_bm (L : Nat) : ∀ x : Nat, (x &&& rep 51 L) + ((x / 4) &&& rep 51 L) = bm f2 L x := by
  induction L with
  | zero =>
    intro x
    show (x &&& 0) + ((x / 4) &&& 0) = 0
    rw [Nat.and_zero, Nat.and_zero]
  | succ L ih =>
    intro x
    have hx : x = 256 * (x / 256) + x % 256 := (Nat.div_add_mod x 256).symm
    generalize ha : x / 256 = a at hx
    generalize hb : x % 256 = b at hx
    have hb2 : b < 256 := by omega
    have e1 : x / 4 = 256 * (a / 4) + (64 * (a % 4) + b / 4) := by omega
    have e2 : (x / 4) &&& rep 51 (L + 1) = 256 * ((a / 4) &&& rep 51 L) + ((b / 4) &&& 51) := by
      rw [e1]
      show (256 * (a / 4) + (64 * (a % 4) + b / 4)) &&& (256 * rep 51 L + 51) = _
      rw [and256 (by omega) (by decide), lo2 b hb2 (a % 4) (by omega)]
    have e3 : x &&& rep 51 (L + 1) = 256 * (a &&& rep 51 L) + (b &&& 51) := by
      rw [hx]
      show (256 * a + b) &&& (256 * rep 51 L + 51) = _
      rw [and256 hb2 (by decide)]
    show _ = 256 * bm f2 L (x / 256) + f2 (x % 256)
    rw [e2, e3, ha, hb, ← ih a]
    unfold f2
    omega
def okB : Nat → Nat → Prop
  | 0, _ => True
  | L + 1, z => z % 256 ≤ 68 ∧ z % 16 ≤ 4 ∧ okB L (z / 256)
theorem s3_bm (L : Nat) : ∀ x : Nat, okB L x → x < 256 ^ L → (x + x / 16) &&& rep 15 L = bm f3 L x := by
  induction L with
  | zero =>
    intro x _ _
    show (x + x / 16) &&& 0 = 0
    rw [Nat.and_zero]
  | succ L ih =>
    intro x hk hlt
    obtain ⟨k1, k2, k3⟩ := hk
    have hx : x = 256 * (x / 256) + x % 256 := (Nat.div_add_mod x 256).symm
    generalize ha : x / 256 = a at hx k3
    generalize hb : x % 256 = b at hx k1
    have hb2 : b < 256 := by omega
    have ha4 : a % 16 ≤ 4 := by
      cases L with
      | zero =>
        have : x < 256 := by simpa using hlt
        omega
      | succ L => exact k3.2.1
    have e1 : x + x / 16 = 256 * (a + a / 16) + (b + (16 * (a % 16) + b / 16)) := by omega
    have e2 : (x + x / 16) &&& rep 15 (L + 1) = 256 * ((a + a / 16) &&& rep 15 L) + f3 b := by
      rw [e1]
      show (256 * (a + a / 16) + (b + (16 * (a % 16) + b / 16))) &&& (256 * rep 15 L + 15) = _
      rw [and256 (by omega) (by decide), lo3 b hb2 (a % 16) (by omega)]
      rfl
    show _ = 256 * bm f3 L (x / 256) + f3 (x % 256)
    rw [e2, ha, hb, ih a k3 (by
      have : 256 ^ (L + 1) = 256 ^ L * 256 := Nat.pow_succ ..
      omega)]
theorem bm_lt {f : Nat → Nat} (hf : ∀ b : Nat, b < 256 → f b < 256) (L : Nat) : ∀ x : Nat, bm f L x < 256 ^ L := by
  induction L with
  | zero => intro x; exact Nat.one_pos
  | succ L ih =>
    intro x
    have h1 := ih (x / 256)
    have h2 := hf (x % 256) (by omega)
    have : 256 ^ (L + 1) = 256 ^ L * 256 := Nat.pow_succ ..
    show 256 * bm f L (x / 256) + f (x % 256) < _
    omega
theorem bm_div {f : Nat → Nat} (hf : ∀ b : Nat, b < 256 → f b < 256) (L x : Nat) : bm f (L + 1) x / 256 = bm f L (x / 256) ∧ bm f (L + 1) x % 256 = f (x % 256) := by
  have h2 := hf (x % 256) (by omega)
  show (256 * bm f L (x / 256) + f (x % 256)) / 256 = _ ∧ (256 * bm f L (x / 256) + f (x % 256)) % 256 = _
  omega
theorem bm_comp {f g : Nat → Nat} (hg : ∀ b : Nat, b < 256 → g b < 256) (L : Nat) : ∀ x : Nat, bm f L (bm g L x) = bm (fun b => f (g b)) L x := by
  induction L with
  | zero => intro x; rfl
  | succ L ih =>
    intro x
    obtain ⟨h1, h2⟩ := bm_div hg L x
    show 256 * bm f L (bm g (L + 1) x / 256) + f (bm g (L + 1) x % 256) = _
    rw [h1, h2, ih]
    rfl
theorem bm_congr {f g : Nat → Nat} (h : ∀ b : Nat, b < 256 → f b = g b) (L : Nat) : ∀ x : Nat, bm f L x = bm g L x := by
  induction L with
  | zero => intro x; rfl
  | succ L ih =>
    intro x
    show 256 * bm f L (x / 256) + f (x % 256) = 256 * bm g L (x / 256) + g (x % 256)
    rw [ih, h _ (by omega)]
theorem bm_okB (L : Nat) : ∀ x : Nat, okB L (bm (fun b => f2 (f1 b)) L x) := by
  induction L with
  | zero => intro x; trivial
  | succ L ih =>
    intro x
    have hlt : ∀ b : Nat, b < 256 → (fun b => f2 (f1 b)) b < 256 := fun b hb => Nat.lt_of_le_of_lt (f2_ok b hb).1 (by decide)
    obtain ⟨h1, h2⟩ := bm_div hlt L x
    have h3 := f2_ok (x % 256) (by omega)
    refine ⟨by rw [h2]; exact h3.1, ?_, by rw [h1]; exact ih _⟩
    have : bm (fun b => f2 (f1 b)) (L + 1) x % 16 = (bm (fun b => f2 (f1 b)) (L + 1) x % 256) % 16 := by omega
    rw [this, h2]
    exact h3.2
/-- the places of a number, by its bytes -/
theorem cnt_bytes (x : Nat) : ∀ L : Nat, cntP (fun i => x.testBit i) (8 * L) = (match L with | 0 => 0 | L + 1 => cntP (fun i => (x % 256).testBit i) 8 + cntP (fun i => (x / 256).testBit i) (8 * L)) := by
  intro L
  cases L with
  | zero => rfl
  | succ L =>
    show cntP (fun i => x.testBit i) (8 * (L + 1)) = cntP (fun i => (x % 256).testBit i) 8 + cntP (fun i => (x / 256).testBit i) (8 * L)
    rw [show 8 * (L + 1) = 8 + 8 * L by omega, cntP_add]
    congr 1
    · refine cntP_congr (fun k hk => ?_)
      show x.testBit k = (x % 2 ^ 8).testBit k
      rw [Nat.testBit_mod_two_pow]
      simp [hk]
    · refine cntP_congr (fun k hk => ?_)
      show x.testBit (8 + k) = (x / 2 ^ 8).testBit k
      rw [Nat.testBit_div_two_pow, Nat.add_comm]
def bsum : Nat → Nat → Nat
  | 0, _ => 0
  | L + 1, t => t % 256 + bsum L (t / 256)
theorem bsum_bm (L : Nat) : ∀ x : Nat, bsum L (bm (fun b => f3 (f2 (f1 b))) L x) = cntP (fun i => x.testBit i) (8 * L) := by
  induction L with
  | zero => intro x; rfl
  | succ L ih =>
    intro x
    have hlt : ∀ b : Nat, b < 256 → (fun b => f3 (f2 (f1 b))) b < 256 := fun b hb => by
      show f3 (f2 (f1 b)) < 256
      rw [f3_cnt b hb]
      exact Nat.lt_of_le_of_lt (cntP_le _ _) (by decide)
    obtain ⟨h1, h2⟩ := bm_div hlt L x
    show bm _ (L + 1) x % 256 + bsum L (bm _ (L + 1) x / 256) = _
    rw [h1, h2, ih, cnt_bytes x (L + 1)]
    show f3 (f2 (f1 (x % 256))) + _ = cntP (fun i => (x % 256).testBit i) 8 + cntP (fun i => (x / 256).testBit i) (8 * L)
    rw [f3_cnt _ (by omega)]
theorem bm8 (x : Nat) : ∀ L : Nat, ∀ t : Nat, t = bm (fun b => f3 (f2 (f1 b))) L x → t < 256 ^ L := fun L t h => by
  rw [h]
  exact bm_lt (fun b hb => by
    show f3 (f2 (f1 b)) < 256
    rw [f3_cnt b hb]
    exact Nat.lt_of_le_of_lt (cntP_le _ _) (by decide)) L x
def okC : Nat → Nat → Prop
  | 0, t => t = 0
  | L + 1, t => t % 256 ≤ 8 ∧ okC L (t / 256)
theorem bm_okC (L : Nat) : ∀ x : Nat, okC L (bm (fun b => f3 (f2 (f1 b))) L x) := by
  induction L with
  | zero => intro x; rfl
  | succ L ih =>
    intro x
    have hlt : ∀ b : Nat, b < 256 → (fun b => f3 (f2 (f1 b))) b < 256 := fun b hb => by
      show f3 (f2 (f1 b)) < 256
      rw [f3_cnt b hb]
      exact Nat.lt_of_le_of_lt (cntP_le _ _) (by decide)
    obtain ⟨h1, h2⟩ := bm_div hlt L x
    refine ⟨?_, by rw [h1]; exact ih _⟩
    rw [h2]
    show f3 (f2 (f1 (x % 256))) ≤ 8
    rw [f3_cnt _ (by omega)]
    exact cntP_le _ _
theorem div_lin {A B r K : Nat} (h : A = K * B + r) (hr : r < K) : A / K = B := by
  subst h
  rw [Nat.mul_add_div (by omega), Nat.div_eq_of_lt hr, Nat.add_zero]
theorem fold8_lin {t t1 t2 t3 t4 t5 t6 t7 d0 d1 d2 d3 d4 d5 d6 : Nat} (c0 : d0 ≤ 8) (c1 : d1 ≤ 8) (c2 : d2 ≤ 8) (c3 : d3 ≤ 8) (c4 : d4 ≤ 8) (c5 : d5 ≤ 8) (c6 : d6 ≤ 8) (c7 : t7 ≤ 8) (q6 : t6 = d6 + 256 * t7) (q5 : t5 = d5 + 256 * t6) (q4 : t4 = d4 + 256 * t5) (q3 : t3 = d3 + 256 * t4) (q2 : t2 = d2 + 256 * t3) (q1 : t1 = d1 + 256 * t2) (q0 : t = d0 + 256 * t1) : ((t + t1 + (t + t1) / 65536) + (t + t1 + (t + t1) / 65536) / 4294967296) % 128 = d0 + (d1 + (d2 + (d3 + (d4 + (d5 + (d6 + (t7 + 0))))))) ∧ t < 578721382704613385 := by
  have a2 : (t + t1) / 65536 = t2 + t3 := div_lin (r := (d0 + d1) + 256 * (d1 + d2)) (by omega) (by omega)
  have a3 : (t + t1 + (t2 + t3)) / 4294967296 = t4 + t5 + (t6 + t7) := div_lin (r := (d0 + d1 + d2 + d3) + 256 * (d1 + d2 + d3 + d4) + 65536 * (d2 + d3 + d4 + d5) + 16777216 * (d3 + d4 + d5 + d6)) (by omega) (by omega)
  rw [a2, a3]
  have a4 : t + t1 + (t2 + t3) + (t4 + t5 + (t6 + t7)) = 128 * (2 * (t1 + t2 + t3 + t4 + t5 + t6 + t7)) + (d0 + (d1 + (d2 + (d3 + (d4 + (d5 + (d6 + (t7 + 0)))))))) := by omega
  rw [a4, Nat.mul_add_mod, Nat.mod_eq_of_lt (by omega)]
  exact ⟨rfl, by omega⟩
theorem split256 (t : Nat) : t = t % 256 + 256 * (t / 256) := by omega
theorem fold8 {t : Nat} (h : okC 8 t) : ((t + t / 256 + (t + t / 256) / 65536) + (t + t / 256 + (t + t / 256) / 65536) / 4294967296) % 128 = bsum 8 t ∧ t < 578721382704613385 := by
  obtain ⟨c0, c1, c2, c3, c4, c5, c6, c7, c8⟩ := h
  have e7 := split256 (t / 256 / 256 / 256 / 256 / 256 / 256 / 256)
  rw [c8] at e7
  have h := fold8_lin c0 c1 c2 c3 c4 c5 c6 (t7 := t / 256 / 256 / 256 / 256 / 256 / 256 / 256) (by rw [e7]; exact c7) (split256 _) (split256 _) (split256 _) (split256 _) (split256 _) (split256 _) (split256 t)
  refine ⟨h.1.trans ?_, h.2⟩
  show _ = t % 256 + (t / 256 % 256 + (t / 256 / 256 % 256 + (t / 256 / 256 / 256 % 256 + (t / 256 / 256 / 256 / 256 % 256 + (t / 256 / 256 / 256 / 256 / 256 % 256 + (t / 256 / 256 / 256 / 256 / 256 / 256 % 256 + (t / 256 / 256 / 256 / 256 / 256 / 256 / 256 % 256 + 0)))))))
  have e8 : t / 256 / 256 / 256 / 256 / 256 / 256 / 256 = t / 256 / 256 / 256 / 256 / 256 / 256 / 256 % 256 := e7
  rw [← e8]
-- the method
def nN (a : Int64) : Nat := a.toBitVec.toNat
theorem nN_lt (a : Int64) : nN a < 18446744073709551616 := a.toBitVec.isLt
theorem nN_and (a b : Int64) : nN (a &&& b) = nN a &&& nN b := by
  unfold nN
  rw [Int64.toBitVec_and, BitVec.toNat_and]
theorem nN_add {a b : Int64} (h : nN a + nN b < 18446744073709551616) : nN (a + b) = nN a + nN b := by
  unfold nN at *
  rw [Int64.toBitVec_add, BitVec.toNat_add]
  exact Nat.mod_eq_of_lt h
theorem nN_sub {a b : Int64} (h : nN b ≤ nN a) : nN (a - b) = nN a - nN b := by
  have h1 := nN_lt a
  have h2 := nN_lt b
  unfold nN at *
  rw [Int64.toBitVec_sub, BitVec.toNat_sub]
  omega
theorem nN_shr (a : Int64) (s : UInt64) (k : Nat) (hs : s.toNat % 64 = k) : nN ((a.toUInt64 >>> s).toInt64) = nN a / 2 ^ k := by
  show (a.toUInt64 >>> s).toNat = _
  rw [UInt64.toNat_shiftRight, hs, Nat.shiftRight_eq_div_pow]
  rfl
theorem nN_out (a : Int64) : (a.toInt32 &&& (127 : Int32)) = I (nN a % 128) := by
  apply Int32.toBitVec_inj.mp
  apply BitVec.eq_of_toNat_eq
  rw [Int32.toBitVec_and, BitVec.toNat_and, Int64.toBitVec_toInt32]
  show (a.toBitVec.signExtend 32).toNat &&& 127 = (BitVec.ofNat 32 (nN a % 128)).toNat
  rw [BitVec.signExtend_eq_setWidth_of_le _ (by decide), BitVec.toNat_setWidth, BitVec.toNat_ofNat, show (127 : Nat) = 2 ^ 7 - 1 by decide, Nat.and_two_pow_sub_one_eq_mod]
  show nN a % 2 ^ 32 % 2 ^ 7 = nN a % 128 % 2 ^ 32
  omega
theorem bitCount_eq (x : Int64) : D_J13_bitCount_95d88 x = some (I (cntP (tb x) 64)) := by
  unfold D_J13_bitCount_95d88
  simp only [bnd_s]
  rw [nN_out]
  have g1 : nN (x - (((x.toUInt64 >>> ((1 : Int32).toInt64.toUInt64 &&& Int64.toUInt64 63)).toInt64) &&& (6148914691236517205 : Int64))) = bm f1 8 (nN x) := by
    have e : nN (((x.toUInt64 >>> ((1 : Int32).toInt64.toUInt64 &&& Int64.toUInt64 63)).toInt64) &&& (6148914691236517205 : Int64)) = (nN x / 2) &&& rep 85 8 := by
      rw [nN_and, nN_shr x _ 1 (by decide)]
      rfl
    have l1 : ((nN x / 2) &&& rep 85 8) ≤ nN x / 2 := Nat.and_le_left
    rw [nN_sub (by rw [e]; omega), e, s1_bm 8, if_neg (by decide)]
    have hx := nN_lt x
    rw [show nN x / 256 ^ 8 = 0 from Nat.div_eq_of_lt hx]
    omega
  generalize (x - (((x.toUInt64 >>> ((1 : Int32).toInt64.toUInt64 &&& Int64.toUInt64 63)).toInt64) &&& (6148914691236517205 : Int64))) = y at g1
  have g2 : nN ((y &&& (3689348814741910323 : Int64)) + (((y.toUInt64 >>> ((2 : Int32).toInt64.toUInt64 &&& Int64.toUInt64 63)).toInt64) &&& (3689348814741910323 : Int64))) = bm (fun b => f2 (f1 b)) 8 (nN x) := by
    have e1 : nN (y &&& (3689348814741910323 : Int64)) = nN y &&& rep 51 8 := nN_and _ _
    have e2 : nN (((y.toUInt64 >>> ((2 : Int32).toInt64.toUInt64 &&& Int64.toUInt64 63)).toInt64) &&& (3689348814741910323 : Int64)) = (nN y / 4) &&& rep 51 8 := by
      rw [nN_and, nN_shr y _ 2 (by decide)]
      rfl
    have l1 : (nN y &&& rep 51 8) ≤ rep 51 8 := Nat.and_le_right
    have l2 : ((nN y / 4) &&& rep 51 8) ≤ rep 51 8 := Nat.and_le_right
    have l3 : rep 51 8 = 3689348814741910323 := by decide
    rw [nN_add (by rw [e1, e2]; omega), e1, e2, s2_bm 8, g1, bm_comp f1_lt]
  generalize ((y &&& (3689348814741910323 : Int64)) + (((y.toUInt64 >>> ((2 : Int32).toInt64.toUInt64 &&& Int64.toUInt64 63)).toInt64) &&& (3689348814741910323 : Int64))) = z at g2
  have hz : okB 8 (nN z) := by rw [g2]; exact bm_okB 8 _
  have hzl : nN z < 256 ^ 8 := nN_lt z
  have hzs : nN z ≤ 4919131752989213764 := by
    rw [g2]
    have hb : ∀ L : Nat, ∀ x : Nat, bm (fun b => f2 (f1 b)) L x ≤ rep 68 L := by
      intro L
      induction L with
      | zero => intro x; exact Nat.le_refl _
      | succ L ih =>
        intro x
        have h1 := ih (x / 256)
        have h2 := (f2_ok (x % 256) (by omega)).1
        show 256 * bm _ L (x / 256) + f2 (f1 (x % 256)) ≤ 256 * rep 68 L + 68
        omega
    exact hb 8 _
  have g3 : nN ((z + ((z.toUInt64 >>> ((4 : Int32).toInt64.toUInt64 &&& Int64.toUInt64 63)).toInt64)) &&& (1085102592571150095 : Int64)) = bm (fun b => f3 (f2 (f1 b))) 8 (nN x) := by
    have e1 : nN ((z.toUInt64 >>> ((4 : Int32).toInt64.toUInt64 &&& Int64.toUInt64 63)).toInt64) = nN z / 16 := nN_shr z _ 4 (by decide)
    have e2 : nN (z + ((z.toUInt64 >>> ((4 : Int32).toInt64.toUInt64 &&& Int64.toUInt64 63)).toInt64)) = nN z + nN z / 16 := by
      rw [nN_add (by rw [e1]; omega), e1]
    rw [nN_and, e2]
    show (nN z + nN z / 16) &&& rep 15 8 = _
    rw [s3_bm 8 _ hz hzl, g2, bm_comp (f := f3) (g := fun b => f2 (f1 b)) (fun b hb => Nat.lt_of_le_of_lt (f2_ok b hb).1 (by decide))]
  generalize ((z + ((z.toUInt64 >>> ((4 : Int32).toInt64.toUInt64 &&& Int64.toUInt64 63)).toInt64)) &&& (1085102592571150095 : Int64)) = t at g3
  have ht : okC 8 (nN t) := by rw [g3]; exact bm_okC 8 _
  obtain ⟨k1, k2⟩ := fold8 ht
  have e1 : nN ((t.toUInt64 >>> ((8 : Int32).toInt64.toUInt64 &&& Int64.toUInt64 63)).toInt64) = nN t / 256 := nN_shr t _ 8 (by decide)
  have u1 : nN (t + ((t.toUInt64 >>> ((8 : Int32).toInt64.toUInt64 &&& Int64.toUInt64 63)).toInt64)) = nN t + nN t / 256 := by
    rw [nN_add (by rw [e1]; omega), e1]
  generalize (t + ((t.toUInt64 >>> ((8 : Int32).toInt64.toUInt64 &&& Int64.toUInt64 63)).toInt64)) = v at u1
  have e2 : nN ((v.toUInt64 >>> ((16 : Int32).toInt64.toUInt64 &&& Int64.toUInt64 63)).toInt64) = nN v / 65536 := nN_shr v _ 16 (by decide)
  have u2 : nN (v + ((v.toUInt64 >>> ((16 : Int32).toInt64.toUInt64 &&& Int64.toUInt64 63)).toInt64)) = nN v + nN v / 65536 := by
    rw [nN_add (by rw [e2]; omega), e2]
  generalize (v + ((v.toUInt64 >>> ((16 : Int32).toInt64.toUInt64 &&& Int64.toUInt64 63)).toInt64)) = w at u2
  have e3 : nN ((w.toUInt64 >>> ((32 : Int32).toInt64.toUInt64 &&& Int64.toUInt64 63)).toInt64) = nN w / 4294967296 := nN_shr w _ 32 (by decide)
  have u3 : nN (w + ((w.toUInt64 >>> ((32 : Int32).toInt64.toUInt64 &&& Int64.toUInt64 63)).toInt64)) = nN w + nN w / 4294967296 := by
    rw [nN_add (by rw [e3]; omega), e3]
  rw [u3, u2, u1, k1, g3, bsum_bm 8]
  rfl
