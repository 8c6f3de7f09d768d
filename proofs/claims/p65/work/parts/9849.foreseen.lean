/-! PROPERTY: what the law sees of a machine as one number; what is foreseen comes -/
def accV (g : Nat → Int32) : Nat → Nat → Int64 → Int64
  | _, 0, v => v
  | j, d + 1, v => accV g (j + 1) d ((31 : Int64) * v + (g j).toInt64)
def accW (g : Nat → Nat → Int32) : Nat → Nat → Int64 → Int64
  | _, 0, v => v
  | s, d + 1, v => accW g (s + 1) d (accV (g s) 0 8 v)
theorem w69 (h m : MM) (g : Nat → Int32) (s : Nat) (k : Int64 → Int32 → Option Int64) (hg : ∀ j : Nat, j < 8 → D_X9_spindleValue (I s) (I j) h m = some (.inr (g j))) : ∀ (d j n : Nat) (v : Int64), j + d = 8 → d < n → D_L_whole_69 h m k n v (I s) (I j) = k (accV g j d v) (I (s + 1)) := by
  intro d
  induction d with
  | zero =>
    intro j n v hj hn
    obtain ⟨n, rfl⟩ : ∃ n0 : Nat, n = n0 + 1 := ⟨n - 1, by omega⟩
    have : j = 8 := by omega
    subst this
    rw [D_L_whole_69, if_pos (by decide), bnd_s, show I s + (1 : Int32) = I (s + 1) from I_add s 1]
    rfl
  | succ d ih =>
    intro j n v hj hn
    obtain ⟨n, rfl⟩ : ∃ n0 : Nat, n = n0 + 1 := ⟨n - 1, by omega⟩
    rw [D_L_whole_69, if_neg (show ¬ (7 : Int32) < I j from fun z => by have := (I_lt (a := 7) (by decide) (by omega)).mp z; omega), hg j (by omega), lr_s, b1_s, bnd_s, bnd_s, show I j + (1 : Int32) = I (j + 1) from I_add j 1]
    exact ih (j + 1) n _ (by omega) (by omega)
theorem w113 (h m : MM) (g : Nat → Int32) (s : Nat) (k : Int64 → Int32 → Option Int64) (hg : ∀ j : Nat, j < 8 → D_X9_feederValue (I s) (I j) h m = some (.inr (g j))) : ∀ (d j n : Nat) (v : Int64), j + d = 8 → d < n → D_L_whole_113 h m k n v (I s) (I j) = k (accV g j d v) (I (s + 1)) := by
  intro d
  induction d with
  | zero =>
    intro j n v hj hn
    obtain ⟨n, rfl⟩ : ∃ n0 : Nat, n = n0 + 1 := ⟨n - 1, by omega⟩
    have : j = 8 := by omega
    subst this
    rw [D_L_whole_113, if_pos (by decide), bnd_s, show I s + (1 : Int32) = I (s + 1) from I_add s 1]
    rfl
  | succ d ih =>
    intro j n v hj hn
    obtain ⟨n, rfl⟩ : ∃ n0 : Nat, n = n0 + 1 := ⟨n - 1, by omega⟩
    rw [D_L_whole_113, if_neg (show ¬ (7 : Int32) < I j from fun z => by have := (I_lt (a := 7) (by decide) (by omega)).mp z; omega), hg j (by omega), lr_s, b1_s, bnd_s, bnd_s, show I j + (1 : Int32) = I (j + 1) from I_add j 1]
    exact ih (j + 1) n _ (by omega) (by omega)
theorem w105 {m : MM} {w : Nat → Int32} (hR : R m w) (hF : nF w = 3) (h : MM) : ∀ (d s n : Nat) (v : Int64), s + d = 3 → d < n → D_L_whole_105 h m n v (I s) = some (accW (fun s j => w (130 + 11 * s + j)) s d v) := by
  intro d
  induction d with
  | zero =>
    intro s n v hs hn
    obtain ⟨n, rfl⟩ : ∃ n0 : Nat, n = n0 + 1 := ⟨n - 1, by omega⟩
    have : s = 3 := by omega
    subst this
    rw [D_L_whole_105, if_pos (by decide)]
    rfl
  | succ d ih =>
    intro s n v hs hn
    obtain ⟨n, rfl⟩ : ∃ n0 : Nat, n = n0 + 1 := ⟨n - 1, by omega⟩
    rw [D_L_whole_105, if_neg (show ¬ (3 : Int32) ≤ I s from leF (a := 3) (by omega) (by decide))]
    have e := w113 h m (fun j => w (130 + 11 * s + j)) s (D_L_whole_105 h m n) (fun j hj => a_feeder hR h (by omega) hj) 8 0 FU v rfl (by decide)
    refine Eq.trans e ?_
    exact ih (s + 1) n _ (by omega) (by omega)
theorem w57 {m : MM} {w : Nat → Int32} (hR : R m w) (hF : nF w = 3) (h : MM) : ∀ (d s n : Nat) (v : Int64), s + d = nS w → d < n → D_L_whole_57 h m n v (I s) = some (accW (fun s j => w (130 + 11 * s + j)) 0 3 (accW (fun s j => w (58 + 8 * s + j)) s d v)) := by
  have h4 : nS w ≤ 4 := hR.r0.bd.1
  intro d
  induction d with
  | zero =>
    intro s n v hs hn
    obtain ⟨n, rfl⟩ : ∃ n0 : Nat, n = n0 + 1 := ⟨n - 1, by omega⟩
    rw [D_L_whole_57, a_count0 hR, lr_s, b1_s, if_pos (show I (nS w) ≤ I s from leT (by omega) (by omega))]
    exact w105 hR hF h 3 0 FU _ rfl (by decide)
  | succ d ih =>
    intro s n v hs hn
    obtain ⟨n, rfl⟩ : ∃ n0 : Nat, n = n0 + 1 := ⟨n - 1, by omega⟩
    rw [D_L_whole_57, a_count0 hR, lr_s, b1_s, if_neg (show ¬ I (nS w) ≤ I s from leF (by omega) (by omega))]
    have e := w69 h m (fun j => w (58 + 8 * s + j)) s (D_L_whole_57 h m n) (fun j hj => a_spindle hR h (by omega) hj) 8 0 FU v rfl (by decide)
    refine Eq.trans e ?_
    exact ih (s + 1) n _ (by omega) (by omega)
/-- the number, out of the row and the set of filled spots -/
def wholeV (w : Nat → Int32) (L : Int64) : Int64 := accW (fun s j => w (130 + 11 * s + j)) 0 3 (accW (fun s j => w (58 + 8 * s + j)) 0 (nS w) ((((((w 23).toInt64 + ((31 : Int64) * (w 21).toInt64)) + ((7 : Int64) * (w 22).toInt64)) + ((13 : Int64) * (w 10).toInt64)) + (w 28).toInt64) + (L * (5 : Int64))))
theorem whole_v {m : MM} {w : Nat → Int32} (hR : R m w) (hF : nF w = 3) (h : MM) : D_L_whole h m = some (wholeV w (gl m 36 8)) := by
  have h4 : nS w ≤ 4 := hR.r0.bd.1
  have q0 : D_X9_head (0 : Int32) h m = some (.inr (w 21)) := a_head hR h (s := 0) (by decide)
  have q1 : D_X9_head (1 : Int32) h m = some (.inr (w 22)) := a_head hR h (s := 1) (by decide)
  have q2 : D_X9_setting (10 : Int32) h m = some (.inr (w 10)) := a_setting hR h (s := 10) (by decide)
  have q3 : D_X9_filledSet h m = some (gl m 36 8) := rfl
  unfold D_L_whole
  rw [a_now hR, b1_s, q0, lr_s, b1_s, q1, lr_s, b1_s, q2, lr_s, b1_s, a_logSize hR, b1_s, q3, b1_s, bnd_s]
  exact w57 hR hF h (nS w) 0 FU _ (by omega) (show nS w < 5000 by omega)
theorem na_v {m : MM} {o : Option (Nat × Nat × Nat)} (ho : ∀ (q : Nat) (hh : MM), D_X7_next q hh m = cOf q hh o) (h : MM) : ∃ h' : MM, D_X9_nextAction h m = some (rOf o, h') ∧ HF h h' := by
  unfold D_X9_nextAction
  rw [ho 1 h]
  cases o with
  | none => exact ⟨h, by rw [b2_c0, if_pos rfl]; rfl, HF.rf h⟩
  | some p =>
    obtain ⟨a, s, t⟩ := p
    refine ⟨dec 1 a s t h, ?_, ((HF.si h _ (by omega)).tr (HF.si _ _ (by omega))).tr (HF.si _ _ (by omega))⟩
    rw [b2_c1, if_neg (by decide)]
    unfold D_X9_codeOf dec
    rw [gi_si_ne (by omega), gi_si_ne (by omega), gi_si_eq, gi_si_ne (by omega), gi_si_eq, gi_si_eq, code_x, b1_s]
    rfl
theorem st_v {m m1 : MM} {a s t : Nat} {r : Int32} (ho : ∀ (q : Nat) (hh : MM), D_X7_next q hh m = cOf q hh (some (a, s, t))) (hp : D_X6_perform (I a) (I s) (I t) m = some (r, m1)) (h : MM) : ∃ h' : MM, D_X9_step h m = some (r, h', m1) ∧ HF h h' := by
  refine ⟨dec 1 a s t h, ?_, ((HF.si h _ (by omega)).tr (HF.si _ _ (by omega))).tr (HF.si _ _ (by omega))⟩
  unfold D_X9_step D_X7_follow
  rw [ho 1 h, b2_c1, if_neg (by decide)]
  unfold dec
  rw [gi_si_ne (by omega), gi_si_ne (by omega), gi_si_eq, gi_si_ne (by omega), gi_si_eq, gi_si_eq, hp]
  rfl
theorem rOf_ge {w : Nat → Int32} {a s t : Nat} (h4 : nS w ≤ 4) (h6 : nT w ≤ 6) (h10 : nF w ≤ 10) (h40 : nP w ≤ 40) (ok : ActOk w a s t) : ¬ rOf (some (a, s, t)) < 0 ∧ s < 1000 ∧ t < 1000 := by
  have : a < 7 ∧ s < 4 ∧ t < 40 := by
    obtain ⟨hs, ok⟩ := ok
    rcases ok with ⟨q, q2, _⟩ | ⟨q, q2, _⟩ | ⟨q, q2, _⟩ | ⟨q, q2, _⟩ | ⟨q, q2, _⟩ | ⟨q, q2, _⟩ <;> exact ⟨by omega, by omega, by omega⟩
  exact ⟨show ¬ I (10000 * a + 100 * s + t) < 0 from I_nneg (by omega), by omega, by omega⟩
/-- which step first leaves the feeder empty, as far as step j -/
def Fst (m : MM) (j : Nat) (e : Int32) : Prop := (∃ (i : Nat) (mi : MM), i ≤ j ∧ e = I i ∧ Sq i m mi ∧ Emp mi ∧ ∀ (i' : Nat) (mi' : MM), i' < i → Sq i' m mi' → ¬ Emp mi') ∨ (e = -1 ∧ ∀ (i : Nat) (mi : MM), i ≤ j → Sq i m mi → ¬ Emp mi)
theorem fst_0 (m : MM) : Fst m 0 (if gi m 4 2 = 0 then (if gi m 4 4 = 0 then 0 else -1) else -1) := by
  by_cases c1 : gi m 4 2 = 0
  · rw [if_pos c1]
    by_cases c2 : gi m 4 4 = 0
    · rw [if_pos c2]
      exact Or.inl ⟨0, m, Nat.le_refl _, rfl, rfl, ⟨c1, c2⟩, fun i' mi' h => by omega⟩
    · rw [if_neg c2]
      refine Or.inr ⟨rfl, fun i mi hi hs he => ?_⟩
      have : i = 0 := by omega
      subst this
      have hs : mi = m := hs
      rw [hs] at he
      exact c2 he.2
  · rw [if_neg c1]
    refine Or.inr ⟨rfl, fun i mi hi hs he => ?_⟩
    have : i = 0 := by omega
    subst this
    have hs : mi = m := hs
    rw [hs] at he
    exact c1 he.1
theorem fst_keep {m : MM} {j : Nat} {e : Int32} (hj : j < 5000) (h : Fst m j e) (h0 : 0 ≤ e) : Fst m (j + 1) e := by
  rcases h with ⟨i, mi, h1, h2, h3⟩ | ⟨h1, h2⟩
  · exact Or.inl ⟨i, mi, by omega, h2, h3⟩
  · rw [h1] at h0
    exact absurd h0 (by decide)
theorem fst_yes {m mj : MM} {j : Nat} {e : Int32} (hj : j < 5000) (h : Fst m j e) (h0 : ¬ 0 ≤ e) (hs : Sq (j + 1) m mj) (he : Emp mj) : Fst m (j + 1) (I (j + 1)) := by
  rcases h with ⟨i, mi, h1, h2, h3⟩ | ⟨h1, h2⟩
  · rw [h2] at h0
    exact absurd (leT (a := 0) (b := i) (Nat.zero_le _) (by omega)) h0
  · exact Or.inl ⟨j + 1, mj, Nat.le_refl _, rfl, hs, he, fun i' mi' hi' hs' => h2 i' mi' (by omega) hs'⟩
theorem fst_no {m mj : MM} {j : Nat} {e : Int32} (hj : j < 5000) (h : Fst m j e) (h0 : ¬ 0 ≤ e) (hs : Sq (j + 1) m mj) (he : ¬ Emp mj) : Fst m (j + 1) e := by
  rcases h with ⟨i, mi, h1, h2, h3⟩ | ⟨h1, h2⟩
  · rw [h2] at h0
    exact absurd (leT (a := 0) (b := i) (Nat.zero_le _) (by omega)) h0
  · refine Or.inr ⟨h1, fun i mi hi hs' => ?_⟩
    by_cases c : i = j + 1
    · subst c
      rw [Sq.det _ hs' hs]
      exact he
    · exact h2 i mi (by omega) hs'
theorem fst_eq {m m' : MM} {k : Nat} {e out : Int32} {o' : Option (Nat × Nat × Nat)} (he : End m k m' o') (ho : o' = none) (h : Fst m k e) (hr : (∃ (i : Nat) (mk : MM), i ≤ 1000 ∧ out = I i ∧ Sq i m mk ∧ Emp mk ∧ ∀ (i' : Nat) (mi : MM), i' < i → Sq i' m mi → ¬ Emp mi) ∨ (out = -1 ∧ ∀ (i : Nat) (mk : MM), i ≤ 1000 → Sq i m mk → ¬ Emp mk)) : e = out := by
  obtain ⟨k1, k2, k3, k4⟩ := he
  subst ho
  rcases h with ⟨i, mi, h1, h2, h3, h4, h5⟩ | ⟨h1, h2⟩
  · rcases hr with ⟨i2, mk, g1, g2, g3, g4, g5⟩ | ⟨g1, g2⟩
    · have : i = i2 := by
        rcases Nat.lt_trichotomy i i2 with c | c | c
        · exact absurd h4 (g5 i mi c h3)
        · exact c
        · exact absurd g4 (h5 i2 mk c g3)
      rw [h2, g2, this]
    · exact absurd h4 (g2 i mi (by omega) h3)
  · rcases hr with ⟨i2, mk, g1, g2, g3, g4, g5⟩ | ⟨g1, g2⟩
    · by_cases c : i2 ≤ k
      · exact absurd g4 (h2 i2 mk c g3)
      · exfalso
        obtain ⟨d, hd⟩ : ∃ d : Nat, i2 = k + (d + 1) := ⟨i2 - k - 1, by omega⟩
        rw [hd] at g3
        exact Sq.no k3 (Sq.cut k k2 g3)
    · rw [h1, g1]
