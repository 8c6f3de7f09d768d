/-! PURE: what holds of every row; the whole relation -/
def Rn (n : Nat) (v : Int32) : Prop := ∃ p : Nat, p ≤ n ∧ v = I p
def SpOk (nt nk : Nat) (r : Nat → Int32) : Prop := (r 0 = -1 ∨ ∃ t : Nat, t < nt ∧ r 0 = I t) ∧ (r 1 = -1 ∨ ∃ k : Nat, k < nk ∧ r 1 = I k) ∧ (r 2 = 0 ∨ r 2 = 1) ∧ (r 1 = -1 → r 2 = 0 ∧ r 3 = 0)
def FdOk (nk : Nat) (r : Nat → Int32) : Prop := (∃ k : Nat, k < nk ∧ r 0 = I k) ∧ (∃ p : Nat, p ≤ 500 ∧ r 2 = I p) ∧ (∃ n : Nat, n ≤ 3 ∧ r 4 = I n ∧ ∀ j : Nat, j < n → ∃ p : Nat, p ≤ 500 ∧ r (8 + j) = I p) ∧ (r 7 = 0 ∨ r 7 = 1) ∧ Rn 999 (r 1)
def StOk (nk : Nat) (r : Nat → Int32) : Prop := (∃ k : Nat, k < nk ∧ r 0 = I k) ∧ (r 3 = 0 ∨ r 3 = 1 ∨ r 3 = 2) ∧ Rn 999 (r 1) ∧ Rn 999 (r 2)
def Sb (w : Nat → Int32) (s j : Nat) : Int32 := w (58 + 8 * s + j)
def Fb (w : Nat → Int32) (f j : Nat) : Int32 := w (130 + 11 * f + j)
def Kb (w : Nat → Int32) (k j : Nat) : Int32 := w (240 + 6 * k + j)
theorem SpOk.cg {nt nk : Nat} {r r' : Nat → Int32} (h : SpOk nt nk r) (e : ∀ j : Nat, j < 4 → r' j = r j) : SpOk nt nk r' := by
  unfold SpOk at *
  rw [e 0 (by decide), e 1 (by decide), e 2 (by decide), e 3 (by decide)]
  exact h
theorem FdOk.cg {nk : Nat} {r r' : Nat → Int32} (h : FdOk nk r) (e : ∀ j : Nat, j < 11 → r' j = r j) : FdOk nk r' := by
  obtain ⟨h1, h2, ⟨n, hn, h3, h4⟩, h5⟩ := h
  refine ⟨by rw [e 0 (by decide)]; exact h1, by rw [e 2 (by decide)]; exact h2, ⟨n, hn, by rw [e 4 (by decide)]; exact h3, fun j hj => by rw [e (8 + j) (by omega)]; exact h4 j hj⟩, by rw [e 7 (by decide), e 1 (by decide)]; exact h5⟩
theorem StOk.cg {nk : Nat} {r r' : Nat → Int32} (h : StOk nk r) (e : ∀ j : Nat, j < 4 → r' j = r j) : StOk nk r' := by
  unfold StOk at *
  rw [e 0 (by decide), e 3 (by decide), e 1 (by decide), e 2 (by decide)]
  exact h
/-- the pairs are pairs of spots, and none leads back -/
def PrOk (w : Nat → Int32) : Prop := ∃ ρ : Nat → Nat, ∀ i : Nat, i < nQ w → ∃ a b : Nat, a < nP w ∧ b < nP w ∧ w (600 + 2 * i) = I a ∧ w (600 + 2 * i + 1) = I b ∧ ρ a < ρ b
def Vg (w : Nat → Int32) : Prop := (∃ s : Nat, 1 ≤ s ∧ s ≤ 50 ∧ w 0 = I s) ∧ (∀ j : Nat, j = 1 ∨ j = 2 ∨ j = 3 ∨ j = 4 ∨ j = 14 → Rn 200 (w j)) ∧ Rn 999 (w 8) ∧ Rn 999 (w 9) ∧ Rn 999 (w 21) ∧ Rn 999 (w 22)
theorem Vg.cg {w w' : Nat → Int32} (h : Vg w) (e : ∀ i : Nat, i < 10 ∨ i = 14 → w' i = w i) (h21 : Rn 999 (w' 21)) (h22 : Rn 999 (w' 22)) : Vg w' := by
  obtain ⟨h1, h2, h3, h4, -⟩ := h
  exact ⟨by rw [e 0 (by omega)]; exact h1, fun j hj => by rw [e j (by omega)]; exact h2 j hj, by rw [e 8 (by omega)]; exact h3, by rw [e 9 (by omega)]; exact h4, h21, h22⟩
def V (w : Nat → Int32) : Prop :=
  (w 15 = I (nS w) ∧ w 16 = I (nT w) ∧ w 17 = I (nK w) ∧ w 18 = I (nF w) ∧ w 19 = I (nP w) ∧ w 20 = I (nQ w) ∧ w 28 = I (nL w)) ∧
  Vg w ∧ (w 29 = 0 ∨ w 29 = 1) ∧
  (∀ s : Nat, s < nS w → SpOk (nT w) (nK w) (Sb w s)) ∧
  (∀ f : Nat, f < nF w → FdOk (nK w) (Fb w f)) ∧
  (∀ k : Nat, k < nK w → ∃ t : Nat, t < nT w ∧ w (50 + k) = I t) ∧
  (∀ k : Nat, k < nP w → StOk (nK w) (Kb w k)) ∧ PrOk w
theorem V.cnt {w : Nat → Int32} (h : V w) : w 15 = I (nS w) ∧ w 16 = I (nT w) ∧ w 17 = I (nK w) ∧ w 18 = I (nF w) ∧ w 19 = I (nP w) ∧ w 20 = I (nQ w) ∧ w 28 = I (nL w) := h.1
theorem V.vg {w : Nat → Int32} (h : V w) : Vg w := h.2.1
theorem V.spd {w : Nat → Int32} (h : V w) : (1 : Int32) ≤ w 0 := by
  obtain ⟨s, h1, h2, h3⟩ := h.vg.1
  rw [h3]
  exact (I_le (a := 1) (by decide) (by omega)).mpr h1
theorem V.hlt {w : Nat → Int32} (h : V w) : w 29 = 0 ∨ w 29 = 1 := h.2.2.1
theorem V.sp {w : Nat → Int32} (h : V w) : ∀ s : Nat, s < nS w → SpOk (nT w) (nK w) (Sb w s) := h.2.2.2.1
theorem V.fd {w : Nat → Int32} (h : V w) : ∀ f : Nat, f < nF w → FdOk (nK w) (Fb w f) := h.2.2.2.2.1
theorem V.nz {w : Nat → Int32} (h : V w) : ∀ k : Nat, k < nK w → ∃ t : Nat, t < nT w ∧ w (50 + k) = I t := h.2.2.2.2.2.1
theorem V.st {w : Nat → Int32} (h : V w) : ∀ k : Nat, k < nP w → StOk (nK w) (Kb w k) := h.2.2.2.2.2.2.1
theorem V.pr {w : Nat → Int32} (h : V w) : PrOk w := h.2.2.2.2.2.2.2
/-- the places that V looks at, but for blocks and the log's size -/
theorem V.fr {w w' : Nat → Int32} (h : V w) (hc : ∀ i : Nat, (15 ≤ i ∧ i ≤ 20 ∨ 50 ≤ i ∧ i < 58 ∨ 600 ≤ i ∧ i < 640) → w' i = w i) (h0 : Vg w') (h28 : w' 28 = I (nL w')) (h29 : w' 29 = 0 ∨ w' 29 = 1) (hq : nQ w ≤ 20) (hk : nK w ≤ 8)
    (hs : ∀ s : Nat, s < nS w → SpOk (nT w) (nK w) (Sb w' s)) (hf : ∀ f : Nat, f < nF w → FdOk (nK w) (Fb w' f)) (ht : ∀ k : Nat, k < nP w → StOk (nK w) (Kb w' k)) : V w' := by
  have e15 : nS w' = nS w := by unfold nS; rw [hc 15 (by omega)]
  have e16 : nT w' = nT w := by unfold nT; rw [hc 16 (by omega)]
  have e17 : nK w' = nK w := by unfold nK; rw [hc 17 (by omega)]
  have e18 : nF w' = nF w := by unfold nF; rw [hc 18 (by omega)]
  have e19 : nP w' = nP w := by unfold nP; rw [hc 19 (by omega)]
  have e20 : nQ w' = nQ w := by unfold nQ; rw [hc 20 (by omega)]
  obtain ⟨c1, c2, c3, c4, c5, c6, c7⟩ := h.cnt
  refine ⟨?_, h0, h29, ?_, ?_, ?_, ?_, ?_⟩
  · rw [e15, e16, e17, e18, e19, e20, hc 15 (by omega), hc 16 (by omega), hc 17 (by omega), hc 18 (by omega), hc 19 (by omega), hc 20 (by omega)]
    exact ⟨c1, c2, c3, c4, c5, c6, h28⟩
  · rw [e15, e16, e17]; exact hs
  · rw [e17, e18]; exact hf
  · rw [e16, e17]
    intro k hk2
    rw [hc (50 + k) (by omega)]
    exact h.nz k hk2
  · rw [e17, e19]; exact ht
  · obtain ⟨ρ, hr⟩ := h.pr
    refine ⟨ρ, fun i hi => ?_⟩
    rw [e20] at hi
    rw [hc (600 + 2 * i) (by omega), hc (600 + 2 * i + 1) (by omega), e19]
    exact hr i hi
/-- machine and row tell the same; τ: the times that actions took, as the machine has them -/
def R1 (τ : Nat → Int32) (m : MM) (w : Nat → Int32) : Prop := R0 m w ∧ ∀ a : Nat, a < 7 → gi m 50 a = τ a
def R (m : MM) (w : Nat → Int32) : Prop := R1 (fun a => w (37 + a)) m w ∧ V w
theorem R.r0 {m : MM} {w : Nat → Int32} (h : R m w) : R0 m w := h.1.1
theorem R.v {m : MM} {w : Nat → Int32} (h : R m w) : V w := h.2
theorem R1.ws21 {τ : Nat → Int32} {m : MM} {w : Nat → Int32} (h : R1 τ m w) (v : Int32) : R1 τ (si m 24 11 v) (upd w 21 v) := ⟨h.1.ws21 v, fun a ha => by rw [gi_si_ne (by omega)]; exact h.2 a ha⟩
theorem R1.ws22 {τ : Nat → Int32} {m : MM} {w : Nat → Int32} (h : R1 τ m w) (v : Int32) : R1 τ (si m 24 12 v) (upd w 22 v) := ⟨h.1.ws22 v, fun a ha => by rw [gi_si_ne (by omega)]; exact h.2 a ha⟩
theorem R1.ws23 {τ : Nat → Int32} {m : MM} {w : Nat → Int32} (h : R1 τ m w) (v : Int32) : R1 τ (si m 24 13 v) (upd w 23 v) := ⟨h.1.ws23 v, fun a ha => by rw [gi_si_ne (by omega)]; exact h.2 a ha⟩
theorem R1.ws25 {τ : Nat → Int32} {m : MM} {w : Nat → Int32} (h : R1 τ m w) (v : Int32) : R1 τ (si m 24 14 v) (upd w 25 v) := ⟨h.1.ws25 v, fun a ha => by rw [gi_si_ne (by omega)]; exact h.2 a ha⟩
theorem R1.ws26 {τ : Nat → Int32} {m : MM} {w : Nat → Int32} (h : R1 τ m w) (v : Int32) : R1 τ (si m 45 7 v) (upd w 26 v) := ⟨h.1.ws26 v, fun a ha => by rw [gi_si_ne (by omega)]; exact h.2 a ha⟩
theorem R1.ws27 {τ : Nat → Int32} {m : MM} {w : Nat → Int32} (h : R1 τ m w) (v : Int32) : R1 τ (si m 45 8 v) (upd w 27 v) := ⟨h.1.ws27 v, fun a ha => by rw [gi_si_ne (by omega)]; exact h.2 a ha⟩
theorem R1.ws29 {τ : Nat → Int32} {m : MM} {w : Nat → Int32} (h : R1 τ m w) (v : Int32) : R1 τ (si m 24 15 v) (upd w 29 v) := ⟨h.1.ws29 v, fun a ha => by rw [gi_si_ne (by omega)]; exact h.2 a ha⟩
theorem R1.wSet {τ : Nat → Int32} {m : MM} {w : Nat → Int32} (h : R1 τ m w) {j : Nat} (h0 : j < 15) (v : Int32) : R1 τ (si m 25 j v) (upd w j v) := ⟨h.1.wSet h0 v, fun a ha => by rw [gi_si_ne (by omega)]; exact h.2 a ha⟩
theorem R1.wDn {τ : Nat → Int32} {m : MM} {w : Nat → Int32} (h : R1 τ m w) {j : Nat} (h0 : j < 7) (v : Int32) : R1 τ (si m 49 j v) (upd w (30 + j) v) := ⟨h.1.wDn h0 v, fun a ha => by rw [gi_si_ne (by omega)]; exact h.2 a ha⟩
theorem R1.wTm {τ : Nat → Int32} {m : MM} {w : Nat → Int32} (h : R1 τ m w) {j : Nat} (h0 : j < 7) (v : Int32) : R1 τ m (upd w (37 + j) v) := ⟨h.1.wTm h0 v, h.2⟩
theorem R1.wFr {τ : Nat → Int32} {m : MM} {w : Nat → Int32} (h : R1 τ m w) {j : Nat} (h0 : j < 6) (v : Int32) : R1 τ (si m 27 j v) (upd w (44 + j) v) := ⟨h.1.wFr h0 v, fun a ha => by rw [gi_si_ne (by omega)]; exact h.2 a ha⟩
theorem R1.wSp {τ : Nat → Int32} {m : MM} {w : Nat → Int32} (h : R1 τ m w) {s j : Nat} (h0 : s < 4) (h1 : j < 8) (v : Int32) : R1 τ (si m s j v) (upd w (58 + 8 * s + j) v) := ⟨h.1.wSp h0 h1 v, fun a ha => by rw [gi_si_ne (by omega)]; exact h.2 a ha⟩
theorem R1.wBk {τ : Nat → Int32} {m : MM} {w : Nat → Int32} (h : R1 τ m w) {k c : Nat} (h0 : k < 8) (h1 : c < 5) (v : Int32) : R1 τ (si m (30 + c) k v) (upd w (90 + 5 * k + c) v) := ⟨h.1.wBk h0 h1 v, fun a ha => by rw [gi_si_ne (by omega)]; exact h.2 a ha⟩
theorem R1.wFd {τ : Nat → Int32} {m : MM} {w : Nat → Int32} (h : R1 τ m w) {f j : Nat} (h0 : f < 10) (h1 : j < 8) (h4 : j ≠ 4) (v : Int32) : R1 τ (si m (4 + f) (fj j) v) (upd w (130 + 11 * f + j) v) := ⟨h.1.wFd h0 h1 h4 v, fun a ha => by rw [gi_si_ne (by omega)]; exact h.2 a ha⟩
-- the row in its place
theorem giP (x : MM) (w : Nat → Int32) (k : Nat) : gi (pw x w) 1 k = w k := gi_pw1 x w k
theorem siP (x : MM) (w : Nat → Int32) (k : Nat) (v : Int32) : si (pw x w) 1 k v = pw x (upd w k v) := by rw [si_pw, rw1_pw, pw_pw]
theorem gdI {α : Type} {k n : Nat} {t : Option α} (hk : k < 2147483648) (h : k < n) : (if I k < 0 ∨ n ≤ (I k).toNatClampNeg then none else t) = t := gd_ok (ok_I hk h)
theorem gdJ {α : Type} {k n : Nat} {t : Option α} (hk : k < 2147483648) (h : k < n) : (if I k < 0 ∨ n ≤ k then none else t) = t := if_neg (fun z => z.elim (I_nneg hk) (fun z => by omega))
theorem ix30 (k : Nat) : (30 : Int32) + I k = I (30 + k) := I_add 30 k
theorem ix37 (k : Nat) : (37 : Int32) + I k = I (37 + k) := I_add 37 k
theorem ix44 (k : Nat) : (44 : Int32) + I k = I (44 + k) := I_add 44 k
theorem ix50 (k : Nat) : (50 : Int32) + I k = I (50 + k) := I_add 50 k
theorem ix480 (k : Nat) : (480 : Int32) + (3 : Int32) * I k = I (480 + 3 * k) := by
  rw [show (480 : Int32) = I 480 from rfl, show (3 : Int32) = I 3 from rfl, I_mul, I_add]
theorem ix600 (k : Nat) : (600 : Int32) + (2 : Int32) * I k = I (600 + 2 * k) := by
  rw [show (600 : Int32) = I 600 from rfl, show (2 : Int32) = I 2 from rfl, I_mul, I_add]
theorem ixs1 (k : Nat) : I k + (1 : Int32) = I (k + 1) := I_add k 1
theorem ixs2 (k : Nat) : I k + (2 : Int32) = I (k + 2) := I_add k 2
theorem ixs3 (k : Nat) : I k + (3 : Int32) = I (k + 3) := I_add k 3
theorem add_sub32 (t d : Int32) : (t + d) - t = d := by
  rw [Int32.add_comm t d, Int32.add_sub_cancel]
theorem I_ne_neg {k : Nat} (h : k < 2147483648) : I k ≠ (-1 : Int32) := fun z => by
  have h2 := congrArg Int32.toInt z
  rw [I_toInt h] at h2
  have : (-1 : Int32).toInt = -1 := by decide
  omega
theorem I_ne0 {k : Nat} (h : k < 2147483648) : I k = (0 : Int32) ↔ k = 0 := I_inj (b := 0) h (by decide)
theorem one_le {x : Int32} (h : (1 : Int32) ≤ x) : ¬ x = 0 := fun z => by
  rw [z] at h
  exact absurd h (by decide)
-- the ways
/-- how long the head goes -/
def way (w : Nat → Int32) (X Y : Int32) : Int32 := (((if (if 0 ≤ (X - w 21) then (X - w 21) else 0 - (X - w 21)) < (if 0 ≤ (Y - w 22) then (Y - w 22) else 0 - (Y - w 22)) then (if 0 ≤ (Y - w 22) then (Y - w 22) else 0 - (Y - w 22)) else (if 0 ≤ (X - w 21) then (X - w 21) else 0 - (X - w 21))) + w 0) - (1 : Int32)) / w 0
theorem way_m {m : MM} {w : Nat → Int32} (h : R0 m w) (hv : (1 : Int32) ≤ w 0) (X Y : Int32) : D_X6_wayTo X Y m = some (way w X Y) := by
  unfold D_X6_wayTo
  have e0 : gi m 25 0 = w 0 := h.set 0 (by decide)
  simp only [bnd_s, h.s21, h.s22, e0]
  rw [if_pos hv, if_neg (one_le hv)]
  rfl
theorem way_x {w : Nat → Int32} (x : MM) (hv : (1 : Int32) ≤ w 0) (X Y : Int32) : D_X10_wayTo X Y (pw x w) = some (way w X Y) := by
  unfold D_X10_wayTo
  simp only [bnd_s, giP]
  rw [if_neg (one_le hv)]
  rfl
def goesW (w : Nat → Int32) (a : Nat) (X Y T : Int32) : Nat → Int32 := upd (upd (upd (upd w 21 X) 22 Y) 23 (w 23 + (way w X Y + T))) (37 + a) (w (37 + a) + (way w X Y + T))
theorem goes_x {w : Nat → Int32} (x : MM) (hv : (1 : Int32) ≤ w 0) {a : Nat} (ha : a < 7) (X Y T : Int32) : D_X10_goes (I a) X Y T (pw x w) = some (pw x (goesW w a X Y T)) := by
  unfold D_X10_goes
  rw [way_x x hv, b1_s]
  simp (disch := omega) only [bnd_s, siP, giP, ix37, gdJ, I_tnc, upd_ne]
  rfl
theorem goTo_s {τ : Nat → Int32} {m : MM} {w : Nat → Int32} (h : R1 τ m w) (hv : (1 : Int32) ≤ w 0) {a : Nat} (ha : a < 7) (X Y T : Int32) : ∃ m' : MM, D_X6_goTo X Y T m = some m' ∧ R1 τ m' (goesW w a X Y T) := by
  unfold D_X6_goTo
  rw [way_m h.1 hv, b1_s]
  simp only [bnd_s]
  refine ⟨_, rfl, ?_⟩
  have k := (((h.ws23 (gi m 24 13 + (way w X Y + T))).ws21 X).ws22 Y).wTm ha (w (37 + a) + (way w X Y + T))
  have e : ∀ t : Int32, upd (upd (upd w 23 t) 21 X) 22 Y = upd (upd (upd w 21 X) 22 Y) 23 t := fun t => by
    rw [upd_comm w (show (23 : Nat) ≠ 21 by decide), upd_comm (upd w 21 X) (show (23 : Nat) ≠ 22 by decide)]
  rw [e] at k
  rw [h.1.s23] at k ⊢
  exact k
theorem div32 {a b : Nat} (ha : a < 2147483648) (hb : b < 2147483648) : I a / I b = I (a / b) := (Int32.ofNat_div ha hb).symm
theorem abs32 {a b : Nat} (ha : a ≤ 999) (hb : b ≤ 999) : ∃ c : Nat, c ≤ 999 ∧ (if 0 ≤ (I a - I b) then (I a - I b) else 0 - (I a - I b)) = I c := by
  have e : (I a - I b).toInt = (a : Int) - b := by
    rw [Int32.toInt_sub, I_toInt (by omega), I_toInt (by omega)]
    exact Int.bmod_eq_of_le (by omega) (by omega)
  by_cases c : 0 ≤ (I a - I b)
  · rw [if_pos c]
    rw [Int32.le_iff_toInt_le, e] at c
    have : (0 : Int32).toInt = 0 := rfl
    refine ⟨a - b, by omega, ?_⟩
    apply Int32.toInt_inj.mp
    rw [e, I_toInt (by omega)]
    omega
  · rw [if_neg c]
    rw [Int32.le_iff_toInt_le, e] at c
    have z : (0 : Int32).toInt = 0 := rfl
    refine ⟨b - a, by omega, ?_⟩
    apply Int32.toInt_inj.mp
    rw [Int32.toInt_sub, e, z, I_toInt (by omega)]
    rw [Int.bmod_eq_of_le (by omega) (by omega)]
    omega
theorem way_b {w : Nat → Int32} (h : Vg w) {X Y : Int32} (hX : Rn 999 X) (hY : Rn 999 Y) : Rn 999 (way w X Y) := by
  obtain ⟨⟨s, s1, s2, es⟩, -, -, -, ⟨a, ha, ea⟩, ⟨b, hb, eb⟩⟩ := h
  obtain ⟨x, hx, rfl⟩ := hX
  obtain ⟨y, hy, rfl⟩ := hY
  obtain ⟨c, hc, ec⟩ := abs32 hx ha
  obtain ⟨d, hd, ed⟩ := abs32 hy hb
  unfold way
  rw [ea, eb, es, ec, ed]
  have hmx : ∃ g : Nat, g ≤ 999 ∧ (if I c < I d then I d else I c) = I g := by
    split
    · exact ⟨d, hd, rfl⟩
    · exact ⟨c, hc, rfl⟩
  obtain ⟨g, hg, eg⟩ := hmx
  rw [eg, I_add, show (1 : Int32) = I 1 from rfl, I_sub (by omega), div32 (by omega) (by omega)]
  refine ⟨_, ?_, rfl⟩
  by_cases hg0 : g = 0
  · subst hg0
    have : (0 + s - 1) / s = 0 := Nat.div_eq_of_lt (by omega)
    omega
  · have h1 : g + s - 1 ≤ g * s := by
      obtain ⟨g', rfl⟩ : ∃ g' : Nat, g = g' + 1 := ⟨g - 1, by omega⟩
      rw [Nat.succ_mul]
      have : g' ≤ g' * s := Nat.le_mul_of_pos_right g' (by omega)
      omega
    have h2 : (g + s - 1) / s ≤ g := by
      rw [Nat.div_le_iff_le_mul_add_pred (by omega)]
      rw [Nat.mul_comm s g]
      omega
    omega
theorem way_d {w : Nat → Int32} (h : Vg w) {X Y T : Int32} (hX : Rn 999 X) (hY : Rn 999 Y) (hT : Rn 200 T) : Rn 1199 (way w X Y + T) := by
  obtain ⟨a, ha, ea⟩ := way_b h hX hY
  obtain ⟨b, hb, rfl⟩ := hT
  rw [ea, I_add]
  exact ⟨a + b, by omega, rfl⟩
theorem Rn.z {n : Nat} : Rn n 0 := ⟨0, Nat.zero_le _, rfl⟩
