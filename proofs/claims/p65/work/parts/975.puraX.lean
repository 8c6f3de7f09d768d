/-! PURE: reading a text: the statements -/
def JS (L : Nat) (T : Nat → Nat) (h f x : MM) (p : Nat) : Prop := Jd L T h x p ∧ R f (x.1 3) ∧ Zr (x.1 3)
def Out (L : Nat) (T : Nat → Nat) (p0 : Nat) (h x : MM) (c : Option (MM × MM)) (d : Option (Int32 × MM)) : Prop :=
  (∃ (h' f' x' : MM), c = some (h', f') ∧ d = some (0, x') ∧ Er h' x' ∧ FH h h' ∧ FX x x') ∨
  (∃ (h' f' x' : MM) (p : Nat), p0 ≤ p ∧ c = some (h', f') ∧ d = some (1, x') ∧ JS L T h' f' x' p ∧ FH h h' ∧ FX x x')
theorem Out.pre {L : Nat} {T : Nat → Nat} {p0 p1 : Nat} {h h1 x x1 : MM} {c : Option (MM × MM)} {d : Option (Int32 × MM)} (o : Out L T p1 h1 x1 c d) (hp : p0 ≤ p1) (fh : FH h h1) (fx : FX x x1) : Out L T p0 h x c d := by
  rcases o with ⟨h', f', x', a1, a2, a3, a4, a5⟩ | ⟨h', f', x', p, a0, a1, a2, a3, a4, a5⟩
  · exact Or.inl ⟨h', f', x', a1, a2, a3, fh.tr a4, fx.tr a5⟩
  · exact Or.inr ⟨h', f', x', p, by omega, a1, a2, a3, fh.tr a4, fx.tr a5⟩
theorem Out.wr {L : Nat} {T : Nat → Nat} {p0 : Nat} {h x : MM} {c : Option (MM × MM)} {d : Option (Int32 × MM)} (o : Out L T p0 h x c d) : Out L T p0 h x (b2 c (fun m27 m28 => some (m27, m28))) (b2 d (fun v11 m12 => if v11 = 0 ∨ v11 = 1 then some (v11, m12) else none)) := by
  rw [b2_id]
  rcases o with ⟨h', f', x', a1, a2, a3⟩ | ⟨h', f', x', p, a0, a1, a2, a3⟩
  · exact Or.inl ⟨h', f', x', a1, f_bool _ _ _ a2 (Or.inl rfl), a3⟩
  · exact Or.inr ⟨h', f', x', p, a0, a1, f_bool _ _ _ a2 (Or.inr rfl), a3⟩
-- settings
theorem rs_end {x2 x3 : Int32} {h f : MM} {n : Nat} (e : gi h 4 6 ≠ 0) : D_X1_readSettings_2 (n + 1) x2 x3 h f = some (h, f) := by
  rw [D_X1_readSettings_2, if_neg e, ite_self]
theorem rs_fin {t n : Nat} (ht : t < 15) (h f : MM) : D_X1_readSettings_2 (n + 1) (I t) (I (t + 1)) h f = some (h, f) := by
  rw [D_X1_readSettings_2, if_pos ((I_lt (by omega) (by omega)).mpr (Nat.lt_succ_self t))]
theorem rs_step {j t n : Nat} (hj : j ≤ t) (ht : t < 15) {h f : MM} (h6 : gi h 4 6 = 0) : D_X1_readSettings_2 (n + 1) (I t) (I j) h f = b2 (D_X1_readNumber (lea j) (if j = 6 then (100 : Int32) - gi f 25 5 else mst j) h f) (fun v m6 => D_X1_readSettings_2 n (I t) (I (j + 1)) m6 (si f 25 j v)) := by
  rw [D_X1_readSettings_2, if_neg (fun z => absurd ((I_lt (by omega) (by omega)).mp z) (by omega)), if_pos h6]
  unfold D_X1_readSettings_40
  simp only [gdI (show j < 2147483648 by omega) (show j < 15 by omega), gdJ (show j < 2147483648 by omega) (show j < 15 by omega), bnd_s, I_tnc (show j < 2147483648 by omega), ixs1]
  by_cases c : j = 6
  · subst c
    rw [if_pos (show I 6 = (6 : Int32) from rfl), if_pos rfl]
  · rw [if_neg (show ¬ I j = (6 : Int32) from fun z => c ((I_inj (b := 6) (by omega) (by omega)).mp z)), if_neg c]
theorem rs_one {L : Nat} {T : Nat → Nat} (ht : Tok L T) {h f x : MM} {p : Nat} (hJ : JS L T h f x p) {j t : Nat} (hj : j ≤ t) (t15 : t < 15) {a B : Nat} (ha : a ≤ 1) (hB : B ≤ 1000000) {lo hi : Int32} (el : lo = I a) (eh : hi.toInt = (B : Int) - 1) (e1 : lea j = lo) (e2 : (if j = 6 then (100 : Int32) - gi f 25 5 else mst j) = hi) (hV : ∀ n : Nat, a ≤ n → n < B → (j = 0 → 1 ≤ n ∧ n ≤ 50) ∧ ((j = 1 ∨ j = 2 ∨ j = 3 ∨ j = 4 ∨ j = 14) → n ≤ 200) ∧ (j = 8 ∨ j = 9 → n ≤ 999)) :
    (∃ (h' f' x' : MM), (∀ n : Nat, D_X1_readSettings_2 (n + 2) (I t) (I j) h f = some (h', f')) ∧ D_X10_readsInto (I j) lo hi x = some (0, x') ∧ Er h' x' ∧ FH h h' ∧ FX x x') ∨
    (∃ (v p' : Nat) (h' x' : MM), a ≤ v ∧ v < B ∧ p ≤ p' ∧ (∀ n : Nat, D_X1_readSettings_2 (n + 1) (I t) (I j) h f = D_X1_readSettings_2 n (I t) (I (j + 1)) h' (si f 25 j (I v))) ∧ D_X10_readsInto (I j) lo hi x = some (1, x') ∧ JS L T h' (si f 25 j (I v)) x' p' ∧ gi x' 3 j = I v ∧ FH h h' ∧ FX x x') := by
  obtain ⟨hJd, hR, hz⟩ := hJ
  rcases into_s ht f hJd ha hB el eh (pl := j) (by omega) with ⟨v, h', x', a1, a2, a3, a4, a5⟩ | ⟨n, p', h', x', a0, b1, b2, b3, a1, a2, a3, ar, a4, a5⟩
  · left
    refine ⟨h', si f 25 j v, x', fun n => ?_, a2, a3, a4, a5⟩
    rw [rs_step hj t15 hJd.2.2.1, e1, e2, a1, b2_s, rs_end a3.2.1]
  · right
    obtain ⟨r1, r2⟩ := set_R hR hz (k := j) (n := n) (by omega) (hV n b1 b2).1 (hV n b1 b2).2.1 (hV n b1 b2).2.2
    refine ⟨n, p', h', x', b1, b2, b3, fun k => ?_, a2, ⟨a3, by rw [ar]; exact r1, by rw [ar]; exact r2⟩, ?_, a4, a5⟩
    · rw [rs_step hj t15 hJd.2.2.1, e1, e2, a1, b2_s]
    · show x'.1 3 j = I n
      rw [ar, upd_eq]
theorem tz_l (x : MM) : ∀ d j n : Nat, j + d = 5 → d < n → D_X10_readTimes_4 n (0 : Int32) (I j) x = some (0, x) := by
  intro d
  induction d with
  | zero =>
    intro j n hj hn
    obtain ⟨n, rfl⟩ : ∃ n0 : Nat, n = n0 + 1 := ⟨n - 1, by omega⟩
    have hj : j = 5 := by omega
    subst hj
    rw [D_X10_readTimes_4, if_pos (show (4 : Int32) < I 5 by decide), if_pos (Or.inl rfl)]
  | succ d ih =>
    intro j n hj hn
    obtain ⟨n, rfl⟩ : ∃ n0 : Nat, n = n0 + 1 := ⟨n - 1, by omega⟩
    rw [D_X10_readTimes_4, if_neg (show ¬ (4 : Int32) < I j from fun z => absurd ((I_lt (a := 4) (by omega) (by omega)).mp z) (by omega)), if00, bnd_s, ixs1]
    exact ih (j + 1) n (by omega) (by omega)
theorem tm_l {L : Nat} {T : Nat → Nat} (ht : Tok L T) : ∀ (d j n n' : Nat) (h f x : MM) (p : Nat), j + d = 5 → 1 ≤ j → d + 1 < n → d < n' → JS L T h f x p → Out L T p h x (D_X1_readSettings_2 n (I 4) (I j) h f) (D_X10_readTimes_4 n' (1 : Int32) (I j) x) := by
  intro d
  induction d with
  | zero =>
    intro j n n' h f x p hj h1 hn hn' hJ
    obtain ⟨n, rfl⟩ : ∃ n0 : Nat, n = n0 + 1 := ⟨n - 1, by omega⟩
    obtain ⟨n', rfl⟩ : ∃ n0 : Nat, n' = n0 + 1 := ⟨n' - 1, by omega⟩
    have hj : j = 5 := by omega
    subst hj
    rw [D_X10_readTimes_4, if_pos (show (4 : Int32) < I 5 by decide), if_pos (Or.inr rfl)]
    exact Or.inr ⟨h, f, x, p, Nat.le_refl _, rs_fin (t := 4) (by omega) h f, rfl, hJ, FH.rf h, FX.rf x⟩
  | succ d ih =>
    intro j n n' h f x p hj h1 hn hn' hJ
    obtain ⟨n, rfl⟩ : ∃ n0 : Nat, n = n0 + 2 := ⟨n - 2, by omega⟩
    obtain ⟨n', rfl⟩ : ∃ n0 : Nat, n' = n0 + 1 := ⟨n' - 1, by omega⟩
    have hjj : j = 1 ∨ j = 2 ∨ j = 3 ∨ j = 4 := by omega
    have e1 : lea j = 0 := by rcases hjj with rfl | rfl | rfl | rfl <;> rfl
    have e2 : (if j = 6 then (100 : Int32) - gi f 25 5 else mst j) = 200 := by
      rw [if_neg (by omega)]
      rcases hjj with rfl | rfl | rfl | rfl <;> rfl
    rw [D_X10_readTimes_4, if_neg (show ¬ (4 : Int32) < I j from fun z => absurd ((I_lt (a := 4) (by omega) (by omega)).mp z) (by omega)), if10]
    rcases rs_one ht hJ (j := j) (t := 4) (a := 0) (B := 201) (lo := 0) (hi := 200) (by omega) (by omega) (by omega) (by omega) rfl (by decide) e1 e2 (fun n z1 z2 => ⟨fun z => by omega, fun z => by omega, fun z => by omega⟩) with ⟨h', f', x', a1, a2, a3, a4, a5⟩ | ⟨v, p', h', x', b1, b2, b3, a1, a2, a3, a6, a4, a5⟩
    · left
      rw [a2, b2_s, if00, bnd_s, ixs1]
      exact ⟨h', f', x', a1 n, tz_l x' d (j + 1) n' (by omega) (by omega), a3, a4, a5⟩
    · rw [a2, b2_s, if10, bnd_s, ixs1, a1 (n + 1)]
      exact (ih (j + 1) (n + 1) n' h' _ x' p' (by omega) (by omega) (by omega) (by omega) a3).pre b3 a4 a5
theorem s_times {L : Nat} {T : Nat → Nat} (ht : Tok L T) {h f x : MM} {p : Nat} (hJ : JS L T h f x p) : Out L T p h x (D_X1_readSettings (1 : Int32) (4 : Int32) h f) (D_X10_readTimes x) := tm_l ht 4 1 FU FU h f x p rfl (Nat.le_refl _) (by show 5 < 5000; omega) (by show 4 < 5000; omega) hJ
theorem s_one {L : Nat} {T : Nat → Nat} (ht : Tok L T) {h f x : MM} {p : Nat} (hJ : JS L T h f x p) {j : Nat} (j15 : j < 15) {B : Nat} (hB : B ≤ 1000000) {hi : Int32} (eh : hi.toInt = (B : Int) - 1) (e1 : lea j = 0) (e2 : (if j = 6 then (100 : Int32) - gi f 25 5 else mst j) = hi) (hV : ∀ n : Nat, 0 ≤ n → n < B → (j = 0 → 1 ≤ n ∧ n ≤ 50) ∧ ((j = 1 ∨ j = 2 ∨ j = 3 ∨ j = 4 ∨ j = 14) → n ≤ 200) ∧ (j = 8 ∨ j = 9 → n ≤ 999)) : Out L T p h x (D_X1_readSettings (I j) (I j) h f) (D_X10_readsInto (I j) (0 : Int32) hi x) := by
  have ec : D_X1_readSettings (I j) (I j) h f = D_X1_readSettings_2 (4998 + 2) (I j) (I j) h f := rfl
  rw [ec]
  rcases rs_one ht hJ (j := j) (t := j) (Nat.le_refl _) j15 (a := 0) (by omega) hB (lo := 0) rfl eh e1 e2 hV with ⟨h', f', x', a1, a2, a3, a4, a5⟩ | ⟨v, p', h', x', b1, b2, b3, a1, a2, a3, a6, a4, a5⟩
  · exact Or.inl ⟨h', f', x', a1 4998, a2, a3, a4, a5⟩
  · exact Or.inr ⟨h', _, x', p', b3, by rw [a1 (4998 + 1), rs_fin j15], a2, a3, a4, a5⟩
theorem s_cam {L : Nat} {T : Nat → Nat} (ht : Tok L T) {h f x : MM} {p : Nat} (hJ : JS L T h f x p) : Out L T p h x (D_X1_readSettings (8 : Int32) (9 : Int32) h f) (b2 (D_X10_readsInto (8 : Int32) (0 : Int32) (999 : Int32) x) (fun v79 m80 => if v79 = 0 then (some ((0 : Int32), m80)) else (b2 (D_X10_readsInto (9 : Int32) (0 : Int32) (999 : Int32) m80) (fun v82 m83 => if v82 = 0 then (some ((0 : Int32), m83)) else (some ((1 : Int32), m83)))))) := by
  have ec : D_X1_readSettings (8 : Int32) (9 : Int32) h f = D_X1_readSettings_2 (4998 + 2) (I 9) (I 8) h f := rfl
  rw [ec, show (8 : Int32) = I 8 from rfl, show (9 : Int32) = I 9 from rfl]
  rcases rs_one ht hJ (j := 8) (t := 9) (by omega) (by omega) (a := 0) (B := 1000) (by omega) (by omega) (lo := 0) (hi := 999) rfl (by decide) rfl rfl (fun n z1 z2 => ⟨fun z => by omega, fun z => by omega, fun z => by omega⟩) with ⟨h', f', x', a1, a2, a3, a4, a5⟩ | ⟨v, p', h', x', b1, b2, b3, a1, a2, a3, a6, a4, a5⟩
  · rw [a2, b2_s, if00]
    exact Or.inl ⟨h', f', x', a1 4998, rfl, a3, a4, a5⟩
  · rw [a2, b2_s, if10, a1 (4997 + 2)]
    rcases rs_one ht a3 (j := 9) (t := 9) (by omega) (by omega) (a := 0) (B := 1000) (by omega) (by omega) (lo := 0) (hi := 999) rfl (by decide) rfl rfl (fun n z1 z2 => ⟨fun z => by omega, fun z => by omega, fun z => by omega⟩) with ⟨h2, f2, x2, c1, c2, c3, c4, c5⟩ | ⟨v2, p2, h2, x2, d1, d2, d3, c1, c2, c3, c6, c4, c5⟩
    · rw [c2, b2_s, if00]
      exact Or.inl ⟨h2, f2, x2, c1 4997, rfl, c3, a4.tr c4, a5.tr c5⟩
    · rw [c2, b2_s, if10]
      exact Or.inr ⟨h2, _, x2, p2, by omega, by rw [c1 (4997 + 1), rs_fin (by omega)], rfl, c3, a4.tr c4, a5.tr c5⟩
theorem s_wear {L : Nat} {T : Nat → Nat} (ht : Tok L T) {h f x : MM} {p : Nat} (hJ : JS L T h f x p) : Out L T p h x (D_X1_readSettings (12 : Int32) (14 : Int32) h f) (b2 (D_X10_readsInto (12 : Int32) (0 : Int32) (200 : Int32) x) (fun v62 m63 => if v62 = 0 then (some ((0 : Int32), m63)) else (b2 (D_X10_readsInto (13 : Int32) (0 : Int32) (100 : Int32) m63) (fun v65 m66 => if v65 = 0 then (some ((0 : Int32), m66)) else (b2 (D_X10_readsInto (14 : Int32) (0 : Int32) (200 : Int32) m66) (fun v68 m69 => if v68 = 0 then (some ((0 : Int32), m69)) else (some ((1 : Int32), m69)))))))) := by
  have ec : D_X1_readSettings (12 : Int32) (14 : Int32) h f = D_X1_readSettings_2 (4998 + 2) (I 14) (I 12) h f := rfl
  rw [ec, show (12 : Int32) = I 12 from rfl, show (13 : Int32) = I 13 from rfl, show (14 : Int32) = I 14 from rfl]
  rcases rs_one ht hJ (j := 12) (t := 14) (by omega) (by omega) (a := 0) (B := 201) (by omega) (by omega) (lo := 0) (hi := 200) rfl (by decide) rfl rfl (fun n z1 z2 => ⟨fun z => by omega, fun z => by omega, fun z => by omega⟩) with ⟨h', f', x', a1, a2, a3, a4, a5⟩ | ⟨v, p', h', x', b1, b2, b3, a1, a2, a3, a6, a4, a5⟩
  · rw [a2, b2_s, if00]
    exact Or.inl ⟨h', f', x', a1 4998, rfl, a3, a4, a5⟩
  · rw [a2, b2_s, if10, a1 (4997 + 2)]
    rcases rs_one ht a3 (j := 13) (t := 14) (by omega) (by omega) (a := 0) (B := 101) (by omega) (by omega) (lo := 0) (hi := 100) rfl (by decide) rfl rfl (fun n z1 z2 => ⟨fun z => by omega, fun z => by omega, fun z => by omega⟩) with ⟨h2, f2, x2, c1, c2, c3, c4, c5⟩ | ⟨v2, p2, h2, x2, d1, d2, d3, c1, c2, c3, c6, c4, c5⟩
    · rw [c2, b2_s, if00]
      exact Or.inl ⟨h2, f2, x2, c1 4997, rfl, c3, a4.tr c4, a5.tr c5⟩
    · rw [c2, b2_s, if10, c1 (4996 + 2)]
      rcases rs_one ht c3 (j := 14) (t := 14) (by omega) (by omega) (a := 0) (B := 201) (by omega) (by omega) (lo := 0) (hi := 200) rfl (by decide) rfl rfl (fun n z1 z2 => ⟨fun z => by omega, fun z => by omega, fun z => by omega⟩) with ⟨h3, f3, x3, k1, k2, k3, k4, k5⟩ | ⟨v3, p3, h3, x3, l1, l2, l3, k1, k2, k3, k6, k4, k5⟩
      · rw [k2, b2_s, if00]
        exact Or.inl ⟨h3, f3, x3, k1 4996, rfl, k3, (a4.tr c4).tr k4, (a5.tr c5).tr k5⟩
      · rw [k2, b2_s, if10]
        exact Or.inr ⟨h3, _, x3, p3, by omega, by rw [k1 (4996 + 1), rs_fin (by omega)], rfl, k3, (a4.tr c4).tr k4, (a5.tr c5).tr k5⟩
theorem s_vis {L : Nat} {T : Nat → Nat} (ht : Tok L T) {h f x : MM} {p : Nat} (hJ : JS L T h f x p) : Out L T p h x (D_X1_readSettings (5 : Int32) (7 : Int32) h f) (b2 (D_X10_readsInto (5 : Int32) (0 : Int32) (100 : Int32) x) (fun v85 m86 => if v85 = 0 then (some ((0 : Int32), m86)) else (b2 (D_X10_readsInto (6 : Int32) (0 : Int32) ((100 : Int32) - (gi m86 3 5)) m86) (fun v88 m89 => if v88 = 0 then (some ((0 : Int32), m89)) else (b2 (D_X10_readsInto (7 : Int32) (0 : Int32) (5 : Int32) m89) (fun v91 m92 => if v91 = 0 then (some ((0 : Int32), m92)) else (some ((1 : Int32), m92)))))))) := by
  have ec : D_X1_readSettings (5 : Int32) (7 : Int32) h f = D_X1_readSettings_2 (4998 + 2) (I 7) (I 5) h f := rfl
  have r0 : D_X10_readsInto (5 : Int32) (0 : Int32) (100 : Int32) x = D_X10_readsInto (I 5) (0 : Int32) (100 : Int32) x := rfl
  rw [ec, r0]
  rcases rs_one ht hJ (j := 5) (t := 7) (by omega) (by omega) (a := 0) (B := 101) (by omega) (by omega) (lo := 0) (hi := 100) rfl (by decide) rfl rfl (fun n z1 z2 => ⟨fun z => by omega, fun z => by omega, fun z => by omega⟩) with ⟨h', f', x', a1, a2, a3, a4, a5⟩ | ⟨v, p', h', x', b1, b2, b3, a1, a2, a3, a6, a4, a5⟩
  · rw [a2, b2_s, if00]
    exact Or.inl ⟨h', f', x', a1 4998, rfl, a3, a4, a5⟩
  · rw [a2, b2_s, if10, a1 (4997 + 2)]
    have e5 : gi (si f 25 5 (I v)) 25 5 = I v := gi_si_eq _ _ _ _
    have eh : ((100 : Int32) - I v).toInt = ((101 - v : Nat) : Int) - 1 := by
      rw [show (100 : Int32) = I 100 from rfl, I_sub (by omega), I_toInt (by omega)]
      omega
    rw [a6, show (6 : Int32) = I 6 from rfl]
    rcases rs_one ht a3 (j := 6) (t := 7) (by omega) (by omega) (a := 0) (B := 101 - v) (by omega) (by omega) (lo := 0) (hi := (100 : Int32) - I v) rfl eh rfl (by rw [if_pos rfl, e5]) (fun n z1 z2 => ⟨fun z => by omega, fun z => by omega, fun z => by omega⟩) with ⟨h2, f2, x2, c1, c2, c3, c4, c5⟩ | ⟨v2, p2, h2, x2, d1, d2, d3, c1, c2, c3, c6, c4, c5⟩
    · rw [c2, b2_s, if00]
      exact Or.inl ⟨h2, f2, x2, c1 4997, rfl, c3, a4.tr c4, a5.tr c5⟩
    · have r7 : D_X10_readsInto (7 : Int32) (0 : Int32) (5 : Int32) x2 = D_X10_readsInto (I 7) (0 : Int32) (5 : Int32) x2 := rfl
      rw [c2, b2_s, if10, c1 (4996 + 2), r7]
      rcases rs_one ht c3 (j := 7) (t := 7) (by omega) (by omega) (a := 0) (B := 6) (by omega) (by omega) (lo := 0) (hi := 5) rfl (by decide) rfl rfl (fun n z1 z2 => ⟨fun z => by omega, fun z => by omega, fun z => by omega⟩) with ⟨h3, f3, x3, k1, k2, k3, k4, k5⟩ | ⟨v3, p3, h3, x3, l1, l2, l3, k1, k2, k3, k6, k4, k5⟩
      · rw [k2, b2_s, if00]
        exact Or.inl ⟨h3, f3, x3, k1 4996, rfl, k3, (a4.tr c4).tr k4, (a5.tr c5).tr k5⟩
      · rw [k2, b2_s, if10]
        exact Or.inr ⟨h3, _, x3, p3, by omega, by rw [k1 (4996 + 1), rs_fin (by omega)], rfl, k3, (a4.tr c4).tr k4, (a5.tr c5).tr k5⟩
