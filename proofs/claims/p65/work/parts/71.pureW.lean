/-! PURE: parts in reels, the ledger, the log -/
def rS (w : Nat → Int32) (f : Nat) : Nat → Nat
  | 0 => (Fb w f 2).toNatClampNeg
  | k + 1 => rS w f k + (Fb w f (8 + k)).toNatClampNeg
def fsum (w : Nat → Int32) (f : Nat) : Nat := rS w f (wt w f)
def inR (w : Nat → Int32) (K : Int32) : Nat → Nat
  | 0 => 0
  | f + 1 => inR w K f + (if w (130 + 11 * f) = K then fsum w f else 0)
theorem rS_b {nk : Nat} {w : Nat → Int32} {f : Nat} (hd : FdOk nk (Fb w f)) : ∀ k : Nat, k ≤ wt w f → rS w f k ≤ 500 * (k + 1) := by
  obtain ⟨-, ⟨p, hp, e2⟩, ⟨n, hn, e4, hr⟩, -⟩ := hd
  have ew : wt w f = n := by rw [wtb, e4, I_tnc (by omega)]
  rw [ew]
  intro k
  induction k with
  | zero => intro _; show (Fb w f 2).toNatClampNeg ≤ 500; rw [e2, I_tnc (by omega)]; omega
  | succ k ih =>
    intro hk
    obtain ⟨q, hq, eq⟩ := hr k (by omega)
    have := ih (by omega)
    show rS w f k + (Fb w f (8 + k)).toNatClampNeg ≤ _
    rw [eq, I_tnc (by omega)]
    omega
theorem fsum_b {nk : Nat} {w : Nat → Int32} {f : Nat} (hd : FdOk nk (Fb w f)) : fsum w f ≤ 2000 := by
  have h1 := rS_b hd (wt w f) (Nat.le_refl _)
  obtain ⟨-, -, ⟨n, hn, e4, -⟩, -⟩ := hd
  have ew : wt w f = n := by rw [wtb, e4, I_tnc (by omega)]
  unfold fsum
  omega
theorem inR_b {w : Nat → Int32} (hv : V w) (K : Int32) : ∀ f : Nat, f ≤ nF w → inR w K f ≤ 2000 * f := by
  intro f
  induction f with
  | zero => intro _; exact Nat.le_refl _
  | succ f ih =>
    intro hf
    have h1 := ih (by omega)
    have h2 := fsum_b (hv.fd f (by omega))
    show inR w K f + (if w (130 + 11 * f) = K then fsum w f else 0) ≤ _
    split <;> omega
theorem allP_ml {m : MM} {w : Nat → Int32} (h : R0 m w) (hv : V w) {f : Nat} (hf : f < nF w) : ∀ d k n : Nat, k + d = wt w f → d < n → D_X2_allParts_7 m n (4 + f) (I (rS w f k)) (I k) = some (I (fsum w f)) := by
  have v8 := h.vc.2.2.2.2.2.2.2 f hf
  obtain ⟨-, -, ⟨n0, hn0, e4, hr⟩, -⟩ := hv.fd f hf
  have ew : wt w f = n0 := by rw [wtb, e4, I_tnc (by omega)]
  have g4 : gi m (4 + f) 4 = I (wt w f) := by
    rw [h.fd4 hf, ew]
    exact e4
  intro d
  induction d with
  | zero =>
    intro k n hi hn
    obtain ⟨n, rfl⟩ : ∃ n' : Nat, n = n' + 1 := ⟨n - 1, by omega⟩
    have hk : k = wt w f := by omega
    subst hk
    unfold D_X2_allParts_7
    rw [g4, if_pos (leT (Nat.le_refl _) (by omega))]
    rfl
  | succ d ih =>
    intro k n hi hn
    obtain ⟨n, rfl⟩ : ∃ n' : Nat, n = n' + 1 := ⟨n - 1, by omega⟩
    obtain ⟨q, hq, eq⟩ := hr k (by omega)
    have gr : gi m (4 + f + 10) k = I q := by
      rw [show 4 + f + 10 = 14 + f by omega, h.re f k hf (by omega), show 138 + 11 * f + k = 130 + 11 * f + (8 + k) by omega]
      exact eq
    have e : rS w f (k + 1) = rS w f k + q := by
      show rS w f k + (Fb w f (8 + k)).toNatClampNeg = _
      rw [eq, I_tnc (by omega)]
    have kk := ih (k + 1) n (by omega) (by omega)
    rw [e] at kk
    unfold D_X2_allParts_7
    rw [g4, if_neg (leF (by omega) (by omega)), gdI (by omega) (by omega), I_tnc (by omega), gr, bnd_s, bnd_s, ixs1, I_add]
    exact kk
theorem inR_ml {m : MM} {w : Nat → Int32} (h : R0 m w) (hv : V w) (K : Int32) : ∀ d i n : Nat, i + d = nF w → d < n → D_X6_inReels_4 m n K (I (inR w K i)) (I i) = some (I (inR w K (nF w))) := by
  obtain ⟨v1, v2, v3, v4, -⟩ := h.vc
  intro d
  induction d with
  | zero =>
    intro i n hi hn
    obtain ⟨n, rfl⟩ : ∃ n' : Nat, n = n' + 1 := ⟨n - 1, by omega⟩
    have hk : i = nF w := by omega
    subst hk
    unfold D_X6_inReels_4
    rw [h.n18 hv, if_pos (leT (Nat.le_refl _) (by omega))]
  | succ d ih =>
    intro i n hi hn
    obtain ⟨n, rfl⟩ : ∃ n' : Nat, n = n' + 1 := ⟨n - 1, by omega⟩
    have v8 := h.vc.2.2.2.2.2.2.2 i (by omega)
    have e2 : gi m (4 + i) 2 = I (rS w i 0) := by
      obtain ⟨p, hp, e2⟩ := (hv.fd i (by omega)).2.1
      rw [h.fd2 (by omega)]
      show Fb w i 2 = I (Fb w i 2).toNatClampNeg
      rw [e2, I_tnc (by omega)]
    have ea : D_X2_allParts (4 + i) m = some (I (fsum w i)) := by
      unfold D_X2_allParts
      rw [bnd_s, e2]
      exact allP_ml h hv (by omega) (wt w i) 0 FU (by omega) (by show wt w i < 5000; omega)
    have kk := ih (i + 1) n (by omega) (by omega)
    unfold D_X6_inReels_4
    rw [h.n18 hv, if_neg (leF (by omega) (by omega)), gdI (by omega) (by omega), gdI (by omega) (by omega), I_tnc (by omega), h.fd0 (by omega), ea, b1_s, bnd_s, bnd_s, bnd_s, ixs1, I_add]
    by_cases c : w (130 + 11 * i) = K
    · rw [if_pos c]
      have e : inR w K (i + 1) = inR w K i + fsum w i := by show _ + (if _ then _ else _) = _; rw [if_pos c]
      rw [e] at kk
      exact kk
    · rw [if_neg c]
      have e : inR w K (i + 1) = inR w K i := by show _ + (if _ then _ else _) = _; rw [if_neg c, Nat.add_zero]
      rw [e] at kk
      exact kk
theorem inR_m {m : MM} {w : Nat → Int32} (h : R0 m w) (hv : V w) (K : Int32) : D_X6_inReels K m = some (I (inR w K (nF w))) := inR_ml h hv K (nF w) 0 FU (by omega) (by have := h.vc.2.2.2.1; show nF w < 5000; omega)
theorem in40_x (x : MM) {w : Nat → Int32} (hv : V w) (h10 : nF w ≤ 10) (k4 : Int32 → Int32 → Int32 → Option Int32) (K : Int32) {f : Nat} (hf : f < nF w) (a : Nat) : ∀ d k n : Nat, k + d = wt w f → d < n → D_X10_inReels_40 (pw x w) k4 n K (I (a + rS w f k)) (I f) (I k) = k4 K (I (a + fsum w f)) (I (f + 1)) := by
  obtain ⟨-, -, ⟨n0, hn0, e4, hr⟩, -⟩ := hv.fd f hf
  have ew : wt w f = n0 := by rw [wtb, e4, I_tnc (by omega)]
  have g4 : w (130 + 11 * f + 4) = I (wt w f) := by rw [ew]; exact e4
  intro d
  induction d with
  | zero =>
    intro k n hi hn
    obtain ⟨n, rfl⟩ : ∃ n' : Nat, n = n' + 1 := ⟨n - 1, by omega⟩
    have hk : k = wt w f := by omega
    subst hk
    unfold D_X10_inReels_40
    rw [oFd4P (by omega), b1_s, g4, if_pos (leT (Nat.le_refl _) (by omega)), bnd_s, ixs1]
    rfl
  | succ d ih =>
    intro k n hi hn
    obtain ⟨n, rfl⟩ : ∃ n' : Nat, n = n' + 1 := ⟨n - 1, by omega⟩
    obtain ⟨q, hq, eq⟩ := hr k (by omega)
    have gr : w (138 + 11 * f + k) = I q := by
      rw [show 138 + 11 * f + k = 130 + 11 * f + (8 + k) by omega]
      exact eq
    have e : rS w f (k + 1) = rS w f k + q := by
      show rS w f k + (Fb w f (8 + k)).toNatClampNeg = _
      rw [eq, I_tnc (by omega)]
    have kk := ih (k + 1) n (by omega) (by omega)
    rw [e, ← Nat.add_assoc] at kk
    unfold D_X10_inReels_40
    rw [oFd4P (by omega), b1_s, g4, if_neg (leF (by omega) (by omega)), oReP (by omega) (by omega), b1_s, gr, bnd_s, bnd_s, ixs1, I_add]
    exact kk
theorem inR_xl (x : MM) {w : Nat → Int32} (hv : V w) (h10 : nF w ≤ 10) (h3 : ∀ f : Nat, f < nF w → wt w f ≤ 3) (K : Int32) : ∀ d i n : Nat, i + d = nF w → d < n → D_X10_inReels_4 (pw x w) n K (I (inR w K i)) (I i) = some (I (inR w K (nF w))) := by
  intro d
  induction d with
  | zero =>
    intro i n hi hn
    obtain ⟨n, rfl⟩ : ∃ n' : Nat, n = n' + 1 := ⟨n - 1, by omega⟩
    have hk : i = nF w := by omega
    subst hk
    unfold D_X10_inReels_4
    rw [giP, hv.cnt.2.2.2.1, if_pos (leT (Nat.le_refl _) (by omega))]
  | succ d ih =>
    intro i n hi hn
    obtain ⟨n, rfl⟩ : ∃ n' : Nat, n = n' + 1 := ⟨n - 1, by omega⟩
    have v8 := h3 i (by omega)
    have e2 : w (130 + 11 * i + 2) = I (rS w i 0) := by
      obtain ⟨p, hp, e2⟩ := (hv.fd i (by omega)).2.1
      show Fb w i 2 = I (Fb w i 2).toNatClampNeg
      rw [e2, I_tnc (by omega)]
    have kk := ih (i + 1) n (by omega) (by omega)
    unfold D_X10_inReels_4
    rw [giP, hv.cnt.2.2.2.1, if_neg (leF (by omega) (by omega)), oFd0P (by omega), b1_s, oFd2P (by omega), b1_s, e2, bnd_s, bnd_s, ixs1, I_add]
    by_cases c : w (130 + 11 * i) = K
    · rw [if_pos c]
      have e : inR w K (i + 1) = inR w K i + fsum w i := by show _ + (if _ then _ else _) = _; rw [if_pos c]
      rw [e] at kk
      rw [← kk]
      exact in40_x x hv h10 _ K (by omega) (inR w K i) (wt w i) 0 FU (by omega) (by show wt w i < 5000; omega)
    · rw [if_neg c]
      have e : inR w K (i + 1) = inR w K i := by show _ + (if _ then _ else _) = _; rw [if_neg c, Nat.add_zero]
      rw [e] at kk
      exact kk
theorem inR_x (x : MM) {w : Nat → Int32} (hv : V w) (h10 : nF w ≤ 10) (h3 : ∀ f : Nat, f < nF w → wt w f ≤ 3) (K : Int32) : D_X10_inReels K (pw x w) = some (I (inR w K (nF w))) := inR_xl x hv h10 h3 K (nF w) 0 FU (by omega) (by show nF w < 5000; omega)
/-- what the ledger tells -/
def tol (w : Nat → Int32) (K j : Nat) : Int32 := if j = 0 then w (90 + 5 * K) else if j = 1 then I (inR w (I K) (nF w)) else if j = 2 then I (heldC w (I K)) else w (90 + 5 * K + (j - 2))
theorem tol_m {m : MM} {w : Nat → Int32} (h : R0 m w) (hv : V w) {K j : Nat} (hK : K < 8) (hj : j < 7) : D_X6_partsOf (I K) (I j) m = some (tol w K j) := by
  have e := fun (c : Nat) (hc : c < 5) => h.bk K c hK hc
  unfold D_X6_partsOf tol
  rw [gdI (by omega) (by omega), gdI (by omega) (by omega), gdI (by omega) (by omega), gdI (by omega) (by omega), gdI (by omega) (by omega), I_tnc (by omega), inR_m h hv, held_m h hv, b1_s, b1_s]
  rcases (show j = 0 ∨ j = 1 ∨ j = 2 ∨ j = 3 ∨ j = 4 ∨ j = 5 ∨ j = 6 by omega) with q | q | q | q | q | q | q <;> subst q
  · rw [if_pos (show I 0 = 0 by decide)]
    exact congrArg some (e 0 (by decide))
  · rw [if_neg (show ¬ I 1 = 0 by decide), if_pos (show I 1 = 1 by decide)]
    rfl
  · rw [if_neg (show ¬ I 2 = 0 by decide), if_neg (show ¬ I 2 = 1 by decide), if_pos (show I 2 = 2 by decide)]
    rfl
  · rw [if_neg (show ¬ I 3 = 0 by decide), if_neg (show ¬ I 3 = 1 by decide), if_neg (show ¬ I 3 = 2 by decide), if_pos (show I 3 = 3 by decide)]
    exact congrArg some (e 1 (by decide))
  · rw [if_neg (show ¬ I 4 = 0 by decide), if_neg (show ¬ I 4 = 1 by decide), if_neg (show ¬ I 4 = 2 by decide), if_neg (show ¬ I 4 = 3 by decide), if_pos (show I 4 = 4 by decide)]
    exact congrArg some (e 2 (by decide))
  · rw [if_neg (show ¬ I 5 = 0 by decide), if_neg (show ¬ I 5 = 1 by decide), if_neg (show ¬ I 5 = 2 by decide), if_neg (show ¬ I 5 = 3 by decide), if_neg (show ¬ I 5 = 4 by decide), if_pos (show I 5 = 5 by decide)]
    exact congrArg some (e 3 (by decide))
  · rw [if_neg (show ¬ I 6 = 0 by decide), if_neg (show ¬ I 6 = 1 by decide), if_neg (show ¬ I 6 = 2 by decide), if_neg (show ¬ I 6 = 3 by decide), if_neg (show ¬ I 6 = 4 by decide), if_neg (show ¬ I 6 = 5 by decide)]
    exact congrArg some (e 4 (by decide))
theorem tol_x {m : MM} {w : Nat → Int32} (h : R0 m w) (x : MM) (hv : V w) {K j : Nat} (hK : K < 8) (hj : j < 7) : D_X10_toldOf (I K) (I j) (pw x w) = some (tol w K j) := by
  obtain ⟨v1, v2, v3, v4, v5, v6, v7, v8⟩ := h.vc
  unfold D_X10_toldOf tol
  rw [inR_x x hv v4 v8, held_x x hv v1, b1_s, b1_s, oBk0P hK, b1_s, b1_id]
  rcases (show j = 0 ∨ j = 1 ∨ j = 2 ∨ j = 3 ∨ j = 4 ∨ j = 5 ∨ j = 6 by omega) with q | q | q | q | q | q | q <;> subst q
  · rw [if_pos (show I 0 = 0 by decide)]
    rfl
  · rw [if_neg (show ¬ I 1 = 0 by decide), if_pos (show I 1 = 1 by decide)]
    rfl
  · rw [if_neg (show ¬ I 2 = 0 by decide), if_neg (show ¬ I 2 = 1 by decide), if_pos (show I 2 = 2 by decide)]
    rfl
  · rw [if_neg (show ¬ I 3 = 0 by decide), if_neg (show ¬ I 3 = 1 by decide), if_neg (show ¬ I 3 = 2 by decide), show ((1 : Int32) + I 3) - (3 : Int32) = 1 by decide, oBk1P hK]
    rfl
  · rw [if_neg (show ¬ I 4 = 0 by decide), if_neg (show ¬ I 4 = 1 by decide), if_neg (show ¬ I 4 = 2 by decide), show ((1 : Int32) + I 4) - (3 : Int32) = 2 by decide, oBk2P hK]
    rfl
  · rw [if_neg (show ¬ I 5 = 0 by decide), if_neg (show ¬ I 5 = 1 by decide), if_neg (show ¬ I 5 = 2 by decide), show ((1 : Int32) + I 5) - (3 : Int32) = 3 by decide, oBk3P hK]
    rfl
  · rw [if_neg (show ¬ I 6 = 0 by decide), if_neg (show ¬ I 6 = 1 by decide), if_neg (show ¬ I 6 = 2 by decide), show ((1 : Int32) + I 6) - (3 : Int32) = 4 by decide, oBk4P hK]
    rfl
theorem T_ledger {m : MM} {w : Nat → Int32} (hR : R m w) (x h : MM) (x1 x2 : Int32) : Ans x w 1 2 (D_X9_ledger x1 x2 h m) (D_X10_ledger x1 x2 (pw x w)) := by
  obtain ⟨v1, v2, v3, v4, v5, v6, -⟩ := hR.r0.vc
  have hv := hR.v
  unfold D_X9_ledger D_X10_ledger
  rw [hR.r0.n17 hv]
  by_cases c1 : ok x1 (nK w)
  · rw [rqi_y (by omega) c1, bX_s, nkdP_y hv v3 c1, b2_s, if00, rqr_ok (n := 7) (by decide), in_ok (n := 7) (by decide), b1_s]
    obtain ⟨s, hs, rfl⟩ := ok_ex c1
    by_cases c2 : ok x2 7
    · obtain ⟨j, hj, rfl⟩ := ok_ex c2
      rw [if_pos c2, if_pos c2, bX_s, if10, tif0P, b2_s, if00, tol_x hR.r0 _ hv (by omega) hj, b1_s, tol_m hR.r0 hv (by omega) hj, b1_s]
      exact Ans.y rfl rfl
    · rw [if_neg c2, if_neg c2, bX_x, if00, tif1P _ _ (by decide), b2_s, if10]
      exact Ans.t1 (by decide) rfl rfl
  · rw [rqi_n (by omega) c1, bX_x, nkdP_n hv v3 c1, b2_s, if10]
    exact Ans.t0 (by decide) rfl rfl
-- actions done
theorem act_rq (x1 : Int32) : (∃ a : Nat, 1 ≤ a ∧ a < 7 ∧ x1 = I a ∧ D_X9_requireRange x1 (1 : Int32) (6 : Int32) = some (.inr ()) ∧ D_X10_in x1.toInt64 (1 : Int64) (6 : Int64) = some 1) ∨ (D_X9_requireRange x1 (1 : Int32) (6 : Int32) = some (.inl 1) ∧ D_X10_in x1.toInt64 (1 : Int64) (6 : Int64) = some 0) := by
  rw [rqr_eq, in_eq, Int32.toInt_toInt64]
  have e1 : (1 : Int32).toInt = 1 := by decide
  have e6 : (6 : Int32).toInt = 6 := by decide
  have f1 : (1 : Int64).toInt = 1 := by decide
  have f6 : (6 : Int64).toInt = 6 := by decide
  rw [e1, e6, f1, f6]
  by_cases c : 1 ≤ x1.toInt ∧ x1.toInt ≤ 6
  · refine Or.inl ⟨x1.toInt.toNat, by omega, by omega, ?_, if_pos c, by rw [if_pos c]⟩
    apply Int32.toInt_inj.mp
    rw [I_toInt (by omega)]
    omega
  · exact Or.inr ⟨if_neg c, by rw [if_neg c]⟩
theorem nacP_y (x : MM) (w : Nat → Int32) {x1 : Int32} (h : D_X10_in x1.toInt64 (1 : Int64) (6 : Int64) = some 1) : D_X10_noAction x1 (pw x w) = some (0, pw (th x 0) w) := by
  unfold D_X10_noAction
  rw [zeroP, bnd_s, h, b1_s, if10, tif0P, b2_s, if_pos (Or.inl rfl)]
theorem nacP_n (x : MM) (w : Nat → Int32) {x1 : Int32} (h : D_X10_in x1.toInt64 (1 : Int64) (6 : Int64) = some 0) : D_X10_noAction x1 (pw x w) = some (1, pw (th x 1) w) := by
  unfold D_X10_noAction
  rw [zeroP, bnd_s, h, b1_s, if00, tif1P _ _ (by decide), b2_s, if_pos (Or.inr rfl)]
theorem T_done {m : MM} {w : Nat → Int32} (hR : R m w) (x h : MM) (x1 : Int32) : Ans x w 0 1 (D_X9_done x1 h m) (D_X10_done x1 (pw x w)) := by
  unfold D_X9_done D_X10_done
  rcases act_rq x1 with ⟨a, h1, h7, rfl, q1, q2⟩ | ⟨q1, q2⟩
  · rw [q1, bX_s, nacP_y x w q2, b2_s, if00, ix30, gdI (by omega) (by omega), gdI (by omega) (by omega), I_tnc (by omega), I_tnc (by omega), giP, hR.r0.dn a h7]
    exact Ans.y rfl rfl
  · rw [q1, bX_x, nacP_n x w q2, b2_s, if10]
    exact Ans.t1 (by decide) rfl rfl
theorem T_timeOf {m : MM} {w : Nat → Int32} (hR : R m w) (x h : MM) (x1 : Int32) : Ans x w 0 1 (D_X9_timeOf x1 h m) (D_X10_timeOf x1 (pw x w)) := by
  unfold D_X9_timeOf D_X10_timeOf
  rcases act_rq x1 with ⟨a, h1, h7, rfl, q1, q2⟩ | ⟨q1, q2⟩
  · rw [q1, bX_s, nacP_y x w q2, b2_s, if00, ix37, gdI (by omega) (by omega), gdI (by omega) (by omega), I_tnc (by omega), I_tnc (by omega), giP, hR.1.2 a h7]
    exact Ans.y rfl rfl
  · rw [q1, bX_x, nacP_n x w q2, b2_s, if10]
    exact Ans.t1 (by decide) rfl rfl
theorem l0 {x : Int32} (h : ¬ x = 0) : ¬ x.toInt64 = 0 := fun z => h (by
  have z2 := congrArg Int64.toInt z
  rw [Int32.toInt_toInt64] at z2
  apply Int32.toInt_inj.mp
  rw [z2]
  rfl)
theorem T_shareOf {m : MM} {w : Nat → Int32} (hR : R m w) (x h : MM) (x1 : Int32) : Ans x w 0 1 (D_X9_shareOf x1 h m) (D_X10_shareOf x1 (pw x w)) := by
  unfold D_X9_shareOf D_X10_shareOf D_X9_perMille
  rcases act_rq x1 with ⟨a, h1, h7, rfl, q1, q2⟩ | ⟨q1, q2⟩
  · rw [q1, bX_s, nacP_y x w q2, b2_s, if00, giP, ix37, gdI (by omega) (by omega), gdI (by omega) (by omega), I_tnc (by omega), I_tnc (by omega), giP, hR.1.2 a h7, hR.r0.s23]
    by_cases c : w 23 = 0
    · rw [if_pos c, if_pos c, b1_s]
      exact Ans.y rfl rfl
    · rw [if_neg c, if_neg c, if_neg (l0 c), if_neg (l0 c), b1_s]
      exact Ans.y rfl rfl
  · rw [q1, bX_x, nacP_n x w q2, b2_s, if10]
    exact Ans.t1 (by decide) rfl rfl
theorem T_logEntry {m : MM} {w : Nat → Int32} (hR : R m w) (x h : MM) (x1 x2 : Int32) : Ans x w 0 1 (D_X9_logEntry x1 x2 h m) (D_X10_logEntry x1 x2 (pw x w)) := by
  obtain ⟨v1, v2, v3, v4, v5, v6, v7, v8⟩ := hR.r0.vc
  have hv := hR.v
  unfold D_X9_logEntry D_X10_logEntry D_X10_logEntry_23
  rw [zeroP, bnd_s, rqr_ok (n := 3) (by decide), in_ok (n := 3) (by decide), b1_s]
  by_cases c2 : ok x2 3
  · obtain ⟨j, hj, rfl⟩ := ok_ex c2
    rw [if_pos c2, if_pos c2, bX_s, if10, tif0P, b2_s, if00, giP, hv.cnt.2.2.2.2.2.2, in_I (by omega), b1_s, hR.r0.s28, hv.cnt.2.2.2.2.2.2]
    by_cases c1 : ok x1 (nL w)
    · obtain ⟨i, hi, rfl⟩ := ok_ex c1
      obtain ⟨o, ho, h1, h2⟩ := hR.r0.lg
      obtain ⟨g1, g2, g3⟩ := h2 i hi
      rw [show 481 + 3 * i = 480 + 3 * i + 1 by omega] at g2
      rw [show 482 + 3 * i = 480 + 3 * i + 2 by omega] at g3
      have hlt : (o + i) % 40 < 40 := Nat.mod_lt _ (by decide)
      have ea : ((gi m 45 1 + I i) - (gi m 45 1 + I i) / (40 : Int32) * (40 : Int32)) = I ((o + i) % 40) := by
        rw [h1, I_add, mod40 _ (by omega)]
      unfold D_X4_entry
      rw [if_pos c1, if10, ix480, I_add, gdI (by omega) (by omega), I_tnc (by omega), giP, if_neg (I_nneg (by omega)), if_pos ((I_lt (by omega) (by omega)).mpr hi), bnd_s, ea, gdI (by omega) (by omega), gdI (by omega) (by omega), gdI (by omega) (by omega), I_tnc (by omega), g1, g2, g3]
      rcases (show j = 0 ∨ j = 1 ∨ j = 2 by omega) with q | q | q <;> subst q
      · rw [if_pos (show I 0 = 0 by decide), b1_s]
        exact Ans.y rfl rfl
      · rw [if_neg (show ¬ I 1 = 0 by decide), if_pos (show I 1 = 1 by decide), b1_s]
        exact Ans.y rfl rfl
      · rw [if_neg (show ¬ I 2 = 0 by decide), if_neg (show ¬ I 2 = 1 by decide), b1_s]
        exact Ans.y rfl rfl
    · rw [if_neg c1, if00]
      by_cases c3 : x1 < 0
      · rw [if_pos c3]
        exact Ans.y rfl rfl
      · rw [if_neg c3, if_neg (fun z => c1 (ok_lo (a := 0) (i32_nlt c3) z (by decide) (by omega)))]
        exact Ans.y rfl rfl
  · rw [if_neg c2, if_neg c2, bX_x, if00, tif1P _ _ (by decide), b2_s, if10]
    exact Ans.t1 (by decide) rfl rfl
