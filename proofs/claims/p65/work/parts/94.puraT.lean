/-! PURE: reading a text: spaces, words -/
def b8 (c : Nat) : Int32 := (Int8.ofNat c).toInt32
theorem b8_lo : ∀ c : Nat, c < 128 → b8 c = I c := by decide +kernel
theorem b8_hi : ∀ c : Nat, c < 256 → 128 ≤ c → b8 c < 0 := by decide +kernel
theorem b8_eq {c d : Nat} (hc : c < 256) (hd : d < 128) : b8 c = I d ↔ c = d := by
  by_cases a : c < 128
  · rw [b8_lo c a]
    exact I_inj (by omega) (by omega)
  · constructor
    · intro z
      have h := b8_hi c hc (by omega)
      rw [z] at h
      exact absurd h (I_nneg (by omega))
    · intro z
      omega
theorem b8_lt {c d : Nat} (hc : c < 256) (hd : d < 128) : b8 c < I d ↔ c < d ∨ 128 ≤ c := by
  by_cases a : c < 128
  · rw [b8_lo c a, I_lt (by omega) (by omega)]
    omega
  · have h := b8_hi c hc (by omega)
    constructor
    · intro _
      omega
    · intro _
      rw [Int32.lt_iff_toInt_lt] at h ⊢
      rw [I_toInt (by omega)]
      have : (0 : Int32).toInt = 0 := rfl
      omega
theorem b8_gt {c d : Nat} (hc : c < 256) (hd : d < 128) : I d < b8 c ↔ d < c ∧ c < 128 := by
  by_cases a : c < 128
  · rw [b8_lo c a, I_lt (by omega) (by omega)]
    omega
  · have h := b8_hi c hc (by omega)
    constructor
    · intro z
      rw [Int32.lt_iff_toInt_lt] at h z
      rw [I_toInt (by omega)] at z
      have : (0 : Int32).toInt = 0 := rfl
      omega
    · intro _
      omega
def Tok (L : Nat) (T : Nat → Nat) : Prop := L ≤ 900 ∧ ∀ k : Nat, k < L → 1 ≤ T k ∧ T k ≤ 255
def Hd (L : Nat) (T : Nat → Nat) (h : MM) (p : Nat) : Prop := p ≤ L ∧ gi h 4 2 = I L ∧ gi h 4 3 = I p ∧ ∀ k : Nat, k < L → gi h 5 k = b8 (T k)
def Xd (L : Nat) (T : Nat → Nat) (x : MM) (p : Nat) : Prop := p ≤ L ∧ gi x 0 8 = I L ∧ gi x 0 9 = I p ∧ ∀ k : Nat, k < L → gi x 7 k = I (T k)
def F43 (h h' : MM) : Prop := ∀ q k : Nat, (q ≠ 4 ∨ k ≠ 3) → gi h' q k = gi h q k
def F09 (x x' : MM) : Prop := ∀ q k : Nat, (q ≠ 0 ∨ (k ≠ 9 ∧ k ≠ 10)) → gi x' q k = gi x q k
theorem F43.rf (h : MM) : F43 h h := fun _ _ _ => rfl
theorem F43.tr {a b c : MM} (h : F43 a b) (h' : F43 b c) : F43 a c := fun q k z => (h' q k z).trans (h q k z)
theorem F09.rf (h : MM) : F09 h h := fun _ _ _ => rfl
theorem F09.tr {a b c : MM} (h : F09 a b) (h' : F09 b c) : F09 a c := fun q k z => (h' q k z).trans (h q k z)
theorem F43.s (h : MM) (v : Int32) : F43 h (si h 4 3 v) := fun q k z => gi_si_ne (by omega)
theorem F09.s (h : MM) (v : Int32) : F09 h (si h 0 9 v) := fun q k z => gi_si_ne (by omega)
theorem F09.t (h : MM) (v : Int32) : F09 h (si h 0 10 v) := fun q k z => gi_si_ne (by omega)
theorem Hd.fr {L : Nat} {T : Nat → Nat} {h h' : MM} {p q : Nat} (a : Hd L T h p) (e3 : gi h' 4 3 = I q) (hq : q ≤ L) (e2 : gi h' 4 2 = gi h 4 2) (e5 : ∀ k : Nat, gi h' 5 k = gi h 5 k) : Hd L T h' q := ⟨hq, e2.trans a.2.1, e3, fun k hk => (e5 k).trans (a.2.2.2 k hk)⟩
theorem Xd.fr {L : Nat} {T : Nat → Nat} {x x' : MM} {p q : Nat} (a : Xd L T x p) (e9 : gi x' 0 9 = I q) (hq : q ≤ L) (e8 : gi x' 0 8 = gi x 0 8) (e7 : ∀ k : Nat, gi x' 7 k = gi x 7 k) : Xd L T x' q := ⟨hq, e8.trans a.2.1, e9, fun k hk => (e7 k).trans (a.2.2.2 k hk)⟩
theorem Hd.mv {L : Nat} {T : Nat → Nat} {h h' : MM} {p q : Nat} (a : Hd L T h p) (f : F43 h h') (e3 : gi h' 4 3 = I q) (hq : q ≤ L) : Hd L T h' q := a.fr e3 hq (f 4 2 (by omega)) (fun k => f 5 k (by omega))
theorem Xd.mv {L : Nat} {T : Nat → Nat} {x x' : MM} {p q : Nat} (a : Xd L T x p) (f : F09 x x') (e9 : gi x' 0 9 = I q) (hq : q ≤ L) : Xd L T x' q := a.fr e9 hq (f 0 8 (by omega)) (fun k => f 7 k (by omega))
/-- where the bytes of a kind end -/
def Sc (P : Nat → Bool) (T : Nat → Nat) (L : Nat) : Nat → Nat → Nat
  | 0, p => p
  | d + 1, p => if p < L ∧ P (T p) = true then Sc P T L d (p + 1) else p
def nx (P : Nat → Bool) (T : Nat → Nat) (L p : Nat) : Nat := Sc P T L (L - p) p
theorem Sc_ge {P : Nat → Bool} {T : Nat → Nat} {L : Nat} : ∀ d p : Nat, p ≤ Sc P T L d p := by
  intro d
  induction d with
  | zero => intro p; exact Nat.le_refl _
  | succ d ih =>
    intro p
    unfold Sc
    split
    · exact Nat.le_trans (Nat.le_succ p) (ih (p + 1))
    · exact Nat.le_refl _
theorem Sc_le {P : Nat → Bool} {T : Nat → Nat} {L : Nat} : ∀ d p : Nat, p ≤ L → Sc P T L d p ≤ L := by
  intro d
  induction d with
  | zero => intro p h; exact h
  | succ d ih =>
    intro p h
    unfold Sc
    split
    · rename_i c
      exact ih (p + 1) c.1
    · exact h
theorem Sc_no {P : Nat → Bool} {T : Nat → Nat} {L : Nat} : ∀ d p : Nat, p + d = L → Sc P T L d p < L → ¬ P (T (Sc P T L d p)) = true := by
  intro d
  induction d with
  | zero =>
    intro p h
    unfold Sc
    omega
  | succ d ih =>
    intro p h
    by_cases c : p < L ∧ P (T p) = true
    · have e : Sc P T L (d + 1) p = Sc P T L d (p + 1) := if_pos c
      rw [e]
      exact ih (p + 1) (by omega)
    · have e : Sc P T L (d + 1) p = p := if_neg c
      rw [e]
      exact fun h2 z => c ⟨h2, z⟩
theorem nx_ge {P : Nat → Bool} {T : Nat → Nat} {L p : Nat} : p ≤ nx P T L p := Sc_ge _ _
theorem nx_le {P : Nat → Bool} {T : Nat → Nat} {L p : Nat} (h : p ≤ L) : nx P T L p ≤ L := Sc_le _ _ h
theorem nx_no {P : Nat → Bool} {T : Nat → Nat} {L p : Nat} (h : p ≤ L) : nx P T L p < L → ¬ P (T (nx P T L p)) = true := Sc_no _ _ (by omega)
theorem nx_at {P : Nat → Bool} {T : Nat → Nat} {L p : Nat} (h : p < L → ¬ P (T p) = true) : nx P T L p = p := by
  unfold nx
  cases L - p with
  | zero => rfl
  | succ d => exact if_neg (fun z => h z.1 z.2)
def sP (c : Nat) : Bool := decide (c = 32)
def lP (c : Nat) : Bool := decide (97 ≤ c ∧ c ≤ 122)
def dP (c : Nat) : Bool := decide (48 ≤ c ∧ c ≤ 57)
theorem at_l {L : Nat} {T : Nat → Nat} (ht : Tok L T) (m : MM) : ∀ (d p n : Nat) (h : MM), p + d = L → d < n → Hd L T h p → ∃ h' : MM, D_X1_isAtEnd_0 m n h = some (if Sc sP T L d p < L then 0 else 1, h') ∧ F43 h h' ∧ Hd L T h' (Sc sP T L d p) := by
  intro d
  induction d with
  | zero =>
    intro p n h hp hn hd
    obtain ⟨n, rfl⟩ : ∃ n0 : Nat, n = n0 + 1 := ⟨n - 1, by omega⟩
    refine ⟨h, ?_, F43.rf h, hd⟩
    rw [D_X1_isAtEnd_0, hd.2.1, hd.2.2.1]
    have : p = L := by omega
    subst this
    rw [if_pos (leT (by omega) (by have := ht.1; omega)), if_neg (fun z => absurd ((I_lt (by have := ht.1; omega) (by have := ht.1; omega)).mp z) (by omega))]
    show _ = some (if p < p then _ else _, h)
    rw [if_neg (Nat.lt_irrefl p)]
  | succ d ih =>
    intro p n h hp hn hd
    obtain ⟨n, rfl⟩ : ∃ n0 : Nat, n = n0 + 1 := ⟨n - 1, by omega⟩
    have hL := ht.1
    have hpL : p < L := by omega
    have hb := ht.2 p hpL
    rw [D_X1_isAtEnd_0, hd.2.1, hd.2.2.1, if_neg (leF hpL (by omega)), gdI (by omega) (by omega), I_tnc (by omega), hd.2.2.2 p hpL]
    by_cases c : T p = 32
    · have e : Sc sP T L (d + 1) p = Sc sP T L d (p + 1) := if_pos ⟨hpL, decide_eq_true c⟩
      rw [if_pos (show b8 (T p) = (32 : Int32) from (b8_eq (d := 32) (by omega) (by omega)).mpr c), bnd_s, ixs1, e]
      obtain ⟨h', h1, h2, h3⟩ := ih (p + 1) n (si h 4 3 (I (p + 1))) (by omega) (by omega) (hd.mv (F43.s h _) (gi_si_eq _ _ _ _) hpL)
      exact ⟨h', h1, (F43.s h _).tr h2, h3⟩
    · have e : Sc sP T L (d + 1) p = p := if_neg (fun z => c (of_decide_eq_true z.2))
      rw [if_neg (show ¬ b8 (T p) = (32 : Int32) from fun z => c ((b8_eq (d := 32) (by omega) (by omega)).mp z)), if_pos ((I_lt (by omega) (by omega)).mpr hpL), e, if_pos hpL]
      exact ⟨h, rfl, F43.rf h, hd⟩
/-- behind the spaces -/
theorem at_s {L : Nat} {T : Nat → Nat} (ht : Tok L T) (m : MM) {h : MM} {p : Nat} (hd : Hd L T h p) : ∃ h' : MM, D_X1_isAtEnd h m = some (if nx sP T L p < L then 0 else 1, h') ∧ F43 h h' ∧ Hd L T h' (nx sP T L p) := at_l ht m (L - p) p FU h (by have := hd.1; omega) (by have := ht.1; show L - p < 5000; omega) hd
theorem byte_x {L : Nat} {T : Nat → Nat} (ht : Tok L T) {x : MM} {p : Nat} (e8 : gi x 0 8 = I L) (e7 : ∀ k : Nat, k < L → gi x 7 k = I (T k)) (hp : p < 2000) : D_X10_byteAt (I p) x = some (if p < L then I (T p) else -1) := by
  have hL := ht.1
  unfold D_X10_byteAt
  rw [e8]
  by_cases c : p < L
  · rw [if_neg (leF c (by omega)), gdI (by omega) (by omega), I_tnc (by omega), e7 p c, if_pos c]
  · rw [if_pos (leT (by omega) (by omega)), if_neg c]
theorem see_l {L : Nat} {T : Nat → Nat} (ht : Tok L T) : ∀ (d p n : Nat) (x : MM), p + d = L → d < n → Xd L T x p → ∃ x' : MM, D_X10_see_0 n x = some (if Sc sP T L d p < L then I (T (Sc sP T L d p)) else -1, x') ∧ F09 x x' ∧ Xd L T x' (Sc sP T L d p) ∧ gi x' 0 10 = I (Sc sP T L d p) := by
  intro d
  induction d with
  | zero =>
    intro p n x hp hn hd
    obtain ⟨n, rfl⟩ : ∃ n0 : Nat, n = n0 + 1 := ⟨n - 1, by omega⟩
    have hL := ht.1
    have : p = L := by omega
    subst this
    have hx2 : Xd p T (si x 0 10 (I p)) p := hd.mv (F09.t x _) (by rw [gi_si_ne (by omega)]; exact hd.2.2.1) (Nat.le_refl _)
    refine ⟨si x 0 10 (I p), ?_, F09.t x _, hx2, gi_si_eq _ _ _ _⟩
    rw [D_X10_see_0, hd.2.2.1, byte_x ht hd.2.1 hd.2.2.2 (by omega), b1_s, if_neg (Nat.lt_irrefl p), if_neg (show ¬ (-1 : Int32) = 32 by decide), bnd_s, hx2.2.2.1, byte_x ht hx2.2.1 hx2.2.2.2 (by omega), b1_s, if_neg (Nat.lt_irrefl p)]
    show _ = some (if p < p then _ else _, _)
    rw [if_neg (Nat.lt_irrefl p)]
  | succ d ih =>
    intro p n x hp hn hd
    obtain ⟨n, rfl⟩ : ∃ n0 : Nat, n = n0 + 1 := ⟨n - 1, by omega⟩
    have hL := ht.1
    have hpL : p < L := by omega
    have hb := ht.2 p hpL
    rw [D_X10_see_0, hd.2.2.1, byte_x ht hd.2.1 hd.2.2.2 (by omega), b1_s, if_pos hpL]
    by_cases c : T p = 32
    · have e : Sc sP T L (d + 1) p = Sc sP T L d (p + 1) := if_pos ⟨hpL, decide_eq_true c⟩
      rw [if_pos (show I (T p) = (32 : Int32) from (I_inj (b := 32) (by omega) (by omega)).mpr c), bnd_s, ixs1, e]
      obtain ⟨x', h1, h2, h3⟩ := ih (p + 1) n (si x 0 9 (I (p + 1))) (by omega) (by omega) (hd.mv (F09.s x _) (gi_si_eq _ _ _ _) hpL)
      exact ⟨x', h1, (F09.s x _).tr h2, h3⟩
    · have e : Sc sP T L (d + 1) p = p := if_neg (fun z => c (of_decide_eq_true z.2))
      have hx2 : Xd L T (si x 0 10 (I p)) p := hd.mv (F09.t x _) (by rw [gi_si_ne (by omega)]; exact hd.2.2.1) hd.1
      rw [if_neg (show ¬ I (T p) = (32 : Int32) from fun z => c ((I_inj (b := 32) (by omega) (by omega)).mp z)), bnd_s, hx2.2.2.1, byte_x ht hx2.2.1 hx2.2.2.2 (by omega), b1_s, e]
      exact ⟨_, rfl, F09.t x _, hx2, gi_si_eq _ _ _ _⟩
theorem see_s {L : Nat} {T : Nat → Nat} (ht : Tok L T) {x : MM} {p : Nat} (hd : Xd L T x p) : ∃ x' : MM, D_X10_see x = some (if nx sP T L p < L then I (T (nx sP T L p)) else -1, x') ∧ F09 x x' ∧ Xd L T x' (nx sP T L p) ∧ gi x' 0 10 = I (nx sP T L p) := see_l ht (L - p) p FU x (by have := hd.1; omega) (by have := ht.1; show L - p < 5000; omega) hd
-- words
theorem rw_l {L : Nat} {T : Nat → Nat} (ht : Tok L T) (m : MM) : ∀ (d p n : Nat) (h : MM), p + d = L → d < n → Hd L T h p → ∃ h' : MM, D_X1_readWord_22 m n h = some h' ∧ F43 h h' ∧ Hd L T h' (Sc lP T L d p) := by
  intro d
  induction d with
  | zero =>
    intro p n h hp hn hd
    obtain ⟨n, rfl⟩ : ∃ n0 : Nat, n = n0 + 1 := ⟨n - 1, by omega⟩
    refine ⟨h, ?_, F43.rf h, hd⟩
    rw [D_X1_readWord_22, hd.2.1, hd.2.2.1, if_pos (leT (by omega) (by have := ht.1; omega))]
  | succ d ih =>
    intro p n h hp hn hd
    obtain ⟨n, rfl⟩ : ∃ n0 : Nat, n = n0 + 1 := ⟨n - 1, by omega⟩
    have hL := ht.1
    have hpL : p < L := by omega
    have hb := ht.2 p hpL
    rw [D_X1_readWord_22, hd.2.1, hd.2.2.1, if_neg (leF hpL (by omega)), gdI (by omega) (by omega), gdI (by omega) (by omega), I_tnc (by omega), hd.2.2.2 p hpL]
    by_cases c : 97 ≤ T p ∧ T p ≤ 122
    · have e : Sc lP T L (d + 1) p = Sc lP T L d (p + 1) := if_pos ⟨hpL, decide_eq_true c⟩
      rw [if_neg (show ¬ b8 (T p) < (97 : Int32) from fun z => absurd ((b8_lt (d := 97) (by omega) (by omega)).mp z) (by omega)), if_neg (show ¬ (122 : Int32) < b8 (T p) from fun z => absurd ((b8_gt (d := 122) (by omega) (by omega)).mp z) (by omega)), bnd_s, ixs1, e]
      obtain ⟨h', h1, h2, h3⟩ := ih (p + 1) n (si h 4 3 (I (p + 1))) (by omega) (by omega) (hd.mv (F43.s h _) (gi_si_eq _ _ _ _) hpL)
      exact ⟨h', h1, (F43.s h _).tr h2, h3⟩
    · have e : Sc lP T L (d + 1) p = p := if_neg (fun z => c (of_decide_eq_true z.2))
      rw [e]
      refine ⟨h, ?_, F43.rf h, hd⟩
      by_cases c1 : T p < 97 ∨ 128 ≤ T p
      · rw [if_pos (show b8 (T p) < (97 : Int32) from (b8_lt (d := 97) (by omega) (by omega)).mpr c1)]
      · rw [if_neg (show ¬ b8 (T p) < (97 : Int32) from fun z => c1 ((b8_lt (d := 97) (by omega) (by omega)).mp z)), if_pos (show (122 : Int32) < b8 (T p) from (b8_gt (d := 122) (by omega) (by omega)).mpr (by omega))]
/-- a word is passed; its place is told -/
theorem rw_s {L : Nat} {T : Nat → Nat} (ht : Tok L T) (m : MM) {h : MM} {p : Nat} (hd : Hd L T h p) : ∃ h' : MM, D_X1_readWord h m = some h' ∧ (∀ q k : Nat, (q ≠ 4 ∨ (k ≠ 3 ∧ k ≠ 4)) → gi h' q k = gi h q k) ∧ gi h' 4 4 = I (nx sP T L p) ∧ Hd L T h' (nx lP T L (nx sP T L p)) := by
  obtain ⟨h1, e1, f1, d1⟩ := at_s ht m hd
  have hL := ht.1
  have d2 : Hd L T (si h1 4 4 (I (nx sP T L p))) (nx sP T L p) := d1.fr (by rw [gi_si_ne (by omega)]; exact d1.2.2.1) d1.1 (gi_si_ne (by omega)) (fun k => gi_si_ne (by omega))
  obtain ⟨h2, e2, f2, d3⟩ := rw_l ht m (L - nx sP T L p) (nx sP T L p) FU _ (by have := d1.1; omega) (by show _ < 5000; omega) d2
  refine ⟨h2, ?_, fun q k z => by rw [f2 q k (by omega), gi_si_ne (by omega), f1 q k (by omega)], by rw [f2 4 4 (by omega), gi_si_eq], d3⟩
  unfold D_X1_readWord
  rw [e1, b2_s]
  by_cases c : nx sP T L p < L
  · rw [if_pos c, if00, bnd_s, d1.2.2.1]
    exact e2
  · have : nx sP T L p = L := by have := d1.1; omega
    rw [if_neg c, if10, bnd_s, d1.2.1]
    rw [this] at e2
    exact e2
def wn (q k : Nat) : Nat := (strC q k).toNatClampNeg
theorem w_len : ∀ q : Nat, q < 12 → D_J0_length_8abf5 q = some (I (strL q)) ∧ 4 ≤ strL q ∧ strL q ≤ 7 := by decide +kernel
theorem w_chr : ∀ q : Nat, q < 12 → ∀ k : Nat, k < 7 → k < strL q → D_J0_charAt_5068e q (I k) = some (I (wn q k)) ∧ 97 ≤ wn q k ∧ wn q k ≤ 122 := by decide +kernel
/-- the word q stands from b to e -/
def mt (T : Nat → Nat) (q b e : Nat) : Prop := e = b + strL q ∧ ∀ k : Nat, k < strL q → T (b + k) = wn q k
theorem w_un : ∀ q : Nat, q < 12 → ∀ q' : Nat, q' < 12 → strL q = strL q' → (∀ k : Nat, k < strL q → wn q k = wn q' k) → q = q' := by decide +kernel
theorem mt_un {T : Nat → Nat} {q q' b e : Nat} (hq : q < 12) (hq' : q' < 12) (h : mt T q b e) (h' : mt T q' b e) : q = q' := by
  have e1 : strL q = strL q' := by have := h.1; have := h'.1; omega
  exact w_un q hq q' hq' e1 (fun k hk => by rw [← h.2 k hk, ← h'.2 k (by omega)])
theorem isw_l {L : Nat} {T : Nat → Nat} (ht : Tok L T) (m : MM) {h : MM} {b e q : Nat} (hd : Hd L T h e) (h4 : gi h 4 4 = I b) (hq : q < 12) (hl : e = b + strL q) : ∀ d k n : Nat, k + d = strL q → d < n → ((∀ j : Nat, k ≤ j → j < strL q → T (b + j) = wn q j) → D_X1_isWord_20 h m n q (I k) = some 1) ∧ ((¬ ∀ j : Nat, k ≤ j → j < strL q → T (b + j) = wn q j) → D_X1_isWord_20 h m n q (I k) = some 0) := by
  obtain ⟨l1, l2, l3⟩ := w_len q hq
  have hL := ht.1
  have hel := hd.1
  intro d
  induction d with
  | zero =>
    intro k n hk hn
    obtain ⟨n, rfl⟩ : ∃ n0 : Nat, n = n0 + 1 := ⟨n - 1, by omega⟩
    rw [D_X1_isWord_20, l1, b1_s, if_pos (leT (by omega) (by omega))]
    exact ⟨fun _ => rfl, fun z => absurd (fun j h1 h2 => by omega) z⟩
  | succ d ih =>
    intro k n hk hn
    obtain ⟨n, rfl⟩ : ∃ n0 : Nat, n = n0 + 1 := ⟨n - 1, by omega⟩
    obtain ⟨c1, c2, c3⟩ := w_chr q hq k (by omega) (by omega)
    have hb := ht.2 (b + k) (by omega)
    obtain ⟨i1, i2⟩ := ih (k + 1) n (by omega) (by omega)
    rw [D_X1_isWord_20, l1, b1_s, if_neg (leF (by omega) (by omega)), h4, I_add, gdI (by omega) (by omega), c1, b1_s, I_tnc (by omega), hd.2.2.2 (b + k) (by omega)]
    by_cases c : T (b + k) = wn q k
    · rw [if_pos ((b8_eq (by omega) (by omega)).mpr c), bnd_s, ixs1]
      refine ⟨fun z => i1 (fun j h1 h2 => z j (by omega) h2), fun z => i2 (fun y => z (fun j h1 h2 => ?_))⟩
      by_cases e : j = k
      · subst e
        exact c
      · exact y j (by omega) h2
    · rw [if_neg (fun z => c ((b8_eq (by omega) (by omega)).mp z))]
      exact ⟨fun z => absurd (z k (by omega) (by omega)) c, fun _ => rfl⟩
theorem isw_s {L : Nat} {T : Nat → Nat} (ht : Tok L T) (m : MM) {h : MM} {b e q : Nat} (hd : Hd L T h e) (h4 : gi h 4 4 = I b) (hbe : b ≤ e) (hq : q < 12) : (mt T q b e → D_X1_isWord q h m = some 1) ∧ (¬ mt T q b e → D_X1_isWord q h m = some 0) := by
  obtain ⟨l1, l2, l3⟩ := w_len q hq
  have hL := ht.1
  have hel := hd.1
  unfold D_X1_isWord
  rw [l1, b1_s, hd.2.2.1, h4, I_sub hbe]
  by_cases c : e = b + strL q
  · rw [if_pos (show I (e - b) = I (strL q) by rw [c, Nat.add_sub_cancel_left])]
    obtain ⟨a1, a2⟩ := isw_l ht m hd h4 hq c (strL q) 0 FU (by omega) (by show _ < 5000; omega)
    exact ⟨fun z => a1 (fun j _ hj => z.2 j hj), fun z => a2 (fun y => z ⟨c, fun k hk => y k (by omega) hk⟩)⟩
  · rw [if_neg (fun z => c (by have := (I_inj (by omega) (by omega)).mp z; omega))]
    exact ⟨fun z => absurd z.1 c, fun _ => rfl⟩
theorem tk_0 (n q : Nat) (v k : Int32) (x : MM) : D_X10_takes_46 (n + 1) q v (0 : Int32) k x = some (0, si x 0 9 (gi x 0 9)) := by
  rw [D_X10_takes_46, if00, if00, bnd_s, if_pos (Or.inl rfl)]
theorem tk_l {L : Nat} {T : Nat → Nat} (ht : Tok L T) {x : MM} {b e q p : Nat} (hd : Xd L T x p) (h10 : gi x 0 10 = I b) (hq : q < 12) (hl : e = b + strL q) (he : e ≤ L) : ∀ d k n : Nat, k + d = strL q → d + 1 < n → ((∀ j : Nat, k ≤ j → j < strL q → T (b + j) = wn q j) → D_X10_takes_46 n q (I e) (1 : Int32) (I k) x = some (1, si x 0 9 (I e))) ∧ ((¬ ∀ j : Nat, k ≤ j → j < strL q → T (b + j) = wn q j) → D_X10_takes_46 n q (I e) (1 : Int32) (I k) x = some (0, si x 0 9 (gi x 0 9))) := by
  obtain ⟨l1, l2, l3⟩ := w_len q hq
  have hL := ht.1
  intro d
  induction d with
  | zero =>
    intro k n hk hn
    obtain ⟨n, rfl⟩ : ∃ n0 : Nat, n = n0 + 1 := ⟨n - 1, by omega⟩
    rw [D_X10_takes_46, if10, h10, I_add, if_pos (leT (by omega) (by omega)), if10, bnd_s, if_pos (Or.inr rfl)]
    exact ⟨fun _ => rfl, fun z => absurd (fun j h1 h2 => by omega) z⟩
  | succ d ih =>
    intro k n hk hn
    obtain ⟨n, rfl⟩ : ∃ n0 : Nat, n = n0 + 2 := ⟨n - 2, by omega⟩
    obtain ⟨c1, c2, c3⟩ := w_chr q hq k (by omega) (by omega)
    have hb := ht.2 (b + k) (by omega)
    obtain ⟨i1, i2⟩ := ih (k + 1) (n + 1) (by omega) (by omega)
    rw [D_X10_takes_46, if10, h10, I_add, if_neg (leF (by omega) (by omega)), byte_x ht hd.2.1 hd.2.2.2 (by omega), b1_s, c1, b1_s, if_pos (show b + k < L by omega), bnd_s, bnd_s, ixs1]
    by_cases c : T (b + k) = wn q k
    · rw [if_pos (show I (T (b + k)) = I (wn q k) by rw [c])]
      refine ⟨fun z => i1 (fun j h1 h2 => z j (by omega) h2), fun z => i2 (fun y => z (fun j h1 h2 => ?_))⟩
      by_cases e : j = k
      · subst e
        exact c
      · exact y j (by omega) h2
    · rw [if_neg (fun z => c ((I_inj (by omega) (by omega)).mp z)), tk_0]
      exact ⟨fun z => absurd (z k (by omega) (by omega)) c, fun _ => rfl⟩
theorem isl_x {L : Nat} {T : Nat → Nat} (ht : Tok L T) {x : MM} {p : Nat} (e8 : gi x 0 8 = I L) (e7 : ∀ k : Nat, k < L → gi x 7 k = I (T k)) (hp : p < 2000) : D_X10_isLetter (I p) x = some (if p < L ∧ lP (T p) = true then 1 else 0) := by
  unfold D_X10_isLetter
  rw [byte_x ht e8 e7 hp, b1_s, in_eq, b1_s]
  have e1 : ((97 : Int64).toInt : Int) = 97 := by decide
  have e2 : ((122 : Int64).toInt : Int) = 122 := by decide
  rw [Int32.toInt_toInt64, e1, e2]
  by_cases c : p < L
  · have hb := ht.2 p c
    rw [if_pos c, I_toInt (by omega)]
    by_cases d : 97 ≤ T p ∧ T p ≤ 122
    · rw [if_pos (show (97 : Int) ≤ (T p : Int) ∧ (T p : Int) ≤ 122 by omega), if_pos (Or.inr rfl), if_pos ⟨c, decide_eq_true d⟩]
    · rw [if_neg (show ¬ ((97 : Int) ≤ (T p : Int) ∧ (T p : Int) ≤ 122) by omega), if_pos (Or.inl rfl), if_neg (show ¬ (p < L ∧ lP (T p) = true) from fun z => d (of_decide_eq_true z.2))]
  · rw [if_neg c, if_neg (show ¬ ((97 : Int) ≤ (-1 : Int32).toInt ∧ (-1 : Int32).toInt ≤ 122) by decide), if_pos (Or.inl rfl), if_neg (show ¬ (p < L ∧ lP (T p) = true) from fun z => c z.1)]
theorem isd_x {L : Nat} {T : Nat → Nat} (ht : Tok L T) {x : MM} {p : Nat} (e8 : gi x 0 8 = I L) (e7 : ∀ k : Nat, k < L → gi x 7 k = I (T k)) (hp : p < 2000) : D_X10_isDigit (I p) x = some (if p < L ∧ dP (T p) = true then 1 else 0) := by
  unfold D_X10_isDigit
  rw [byte_x ht e8 e7 hp, b1_s, in_eq, b1_s]
  have e1 : ((48 : Int64).toInt : Int) = 48 := by decide
  have e2 : ((57 : Int64).toInt : Int) = 57 := by decide
  rw [Int32.toInt_toInt64, e1, e2]
  by_cases c : p < L
  · have hb := ht.2 p c
    rw [if_pos c, I_toInt (by omega)]
    by_cases d : 48 ≤ T p ∧ T p ≤ 57
    · rw [if_pos (show (48 : Int) ≤ (T p : Int) ∧ (T p : Int) ≤ 57 by omega), if_pos (Or.inr rfl), if_pos ⟨c, decide_eq_true d⟩]
    · rw [if_neg (show ¬ ((48 : Int) ≤ (T p : Int) ∧ (T p : Int) ≤ 57) by omega), if_pos (Or.inl rfl), if_neg (show ¬ (p < L ∧ dP (T p) = true) from fun z => d (of_decide_eq_true z.2))]
  · rw [if_neg c, if_neg (show ¬ ((48 : Int) ≤ (-1 : Int32).toInt ∧ (-1 : Int32).toInt ≤ 57) by decide), if_pos (Or.inl rfl), if_neg (show ¬ (p < L ∧ dP (T p) = true) from fun z => c z.1)]
theorem tk_10 {L : Nat} {T : Nat → Nat} (ht : Tok L T) {x : MM} {b q p : Nat} (hx : Xd L T x p) (h10 : gi x 0 10 = I b) (hq : q < 12) : ∀ d e n : Nat, e + d = L → d < n → b ≤ e → D_X10_takes_10 n q (I e) x = if Sc lP T L d e - b = strL q then D_X10_takes_46 FU q (I (Sc lP T L d e)) (1 : Int32) (0 : Int32) x else D_X10_takes_46 FU q (I (Sc lP T L d e)) (0 : Int32) (0 : Int32) x := by
  obtain ⟨l1, l2, l3⟩ := w_len q hq
  have hL := ht.1
  have stop : ∀ e n : Nat, e ≤ L → b ≤ e → (if e < L ∧ lP (T e) = true then (1 : Int32) else 0) = 0 → D_X10_takes_10 (n + 1) q (I e) x = if e - b = strL q then D_X10_takes_46 FU q (I e) (1 : Int32) (0 : Int32) x else D_X10_takes_46 FU q (I e) (0 : Int32) (0 : Int32) x := fun e n he hb z => by
    rw [D_X10_takes_10, isl_x ht hx.2.1 hx.2.2.2 (by omega), b1_s, if_pos z, l1, b1_s, h10, I_sub hb]
    by_cases c : e - b = strL q
    · rw [if_pos c, if_pos (show I (e - b) = I (strL q) by rw [c])]
    · rw [if_neg c, if_neg (fun y => c ((I_inj (by omega) (by omega)).mp y))]
  intro d
  induction d with
  | zero =>
    intro e n he hn hb
    obtain ⟨n, rfl⟩ : ∃ n0 : Nat, n = n0 + 1 := ⟨n - 1, by omega⟩
    exact stop e n (by omega) hb (if_neg (fun z => by omega))
  | succ d ih =>
    intro e n he hn hb
    obtain ⟨n, rfl⟩ : ∃ n0 : Nat, n = n0 + 1 := ⟨n - 1, by omega⟩
    by_cases c : e < L ∧ lP (T e) = true
    · have e1 : Sc lP T L (d + 1) e = Sc lP T L d (e + 1) := if_pos c
      rw [e1, ← ih (e + 1) n (by omega) (by omega) (by omega), D_X10_takes_10, isl_x ht hx.2.1 hx.2.2.2 (by omega), b1_s, if_pos c, if10, bnd_s, ixs1]
    · have e1 : Sc lP T L (d + 1) e = e := if_neg c
      rw [e1]
      exact stop e n (by omega) hb (if_neg c)
/-- a word is taken, if it is here -/
theorem tk_s {L : Nat} {T : Nat → Nat} (ht : Tok L T) {x : MM} {p q : Nat} (hx : Xd L T x p) (hq : q < 12) : ∃ x' : MM, F09 x x' ∧ gi x' 0 10 = I (nx sP T L p) ∧ ((mt T q (nx sP T L p) (nx lP T L (nx sP T L p)) ∧ D_X10_takes q x = some (1, x') ∧ Xd L T x' (nx lP T L (nx sP T L p))) ∨ (¬ mt T q (nx sP T L p) (nx lP T L (nx sP T L p)) ∧ D_X10_takes q x = some (0, x') ∧ Xd L T x' (nx sP T L p))) := by
  obtain ⟨x1, a1, a2, a3, a4⟩ := see_s ht hx
  have hL := ht.1
  have hb := a3.1
  obtain ⟨l1, l2, l3⟩ := w_len q hq
  generalize hB : nx sP T L p = b at a1 a3 a4 hb ⊢
  have hbe : b ≤ nx lP T L b := nx_ge
  have hel : nx lP T L b ≤ L := nx_le hb
  have h10 := tk_10 ht a3 a4 hq (L - b) b FU (by omega) (by show L - b < 5000; omega) (Nat.le_refl b)
  have e : D_X10_takes q x = if nx lP T L b - b = strL q then D_X10_takes_46 FU q (I (nx lP T L b)) (1 : Int32) (0 : Int32) x1 else D_X10_takes_46 FU q (I (nx lP T L b)) (0 : Int32) (0 : Int32) x1 := by
    unfold D_X10_takes
    rw [a1, b2_s, bnd_s, a4]
    exact h10
  have y0 : Xd L T (si x1 0 9 (gi x1 0 9)) b := a3.mv (F09.s x1 _) (by rw [gi_si_eq]; exact a3.2.2.1) hb
  have y1 : Xd L T (si x1 0 9 (I (nx lP T L b))) (nx lP T L b) := a3.mv (F09.s x1 _) (gi_si_eq _ _ _ _) hel
  by_cases c : nx lP T L b = b + strL q
  · rw [if_pos (by omega)] at e
    obtain ⟨z1, z2⟩ := tk_l ht a3 a4 hq c hel (strL q) 0 FU (by omega) (by show _ < 5000; omega)
    by_cases c2 : ∀ j : Nat, 0 ≤ j → j < strL q → T (b + j) = wn q j
    · exact ⟨_, a2.tr (F09.s x1 _), by rw [gi_si_ne (by omega)]; exact a4, Or.inl ⟨⟨c, fun k hk => c2 k (by omega) hk⟩, e.trans (z1 c2), y1⟩⟩
    · exact ⟨_, a2.tr (F09.s x1 _), by rw [gi_si_ne (by omega)]; exact a4, Or.inr ⟨fun y => c2 (fun j _ hj => y.2 j hj), e.trans (z2 c2), y0⟩⟩
  · rw [if_neg (by omega)] at e
    exact ⟨_, a2.tr (F09.s x1 _), by rw [gi_si_ne (by omega)]; exact a4, Or.inr ⟨fun y => c y.1, e.trans (tk_0 4999 q _ _ x1), y0⟩⟩
