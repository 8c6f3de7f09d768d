/-! PROPERTY: what adds up -/
def accI (f : Nat → Int32) : Nat → Nat → Int32 → Int32
  | _, 0, x => x
  | a, d + 1, x => accI f (a + 1) d (x + f a)
theorem addsA_v {m : MM} {w : Nat → Int32} (hR : R m w) (h : MM) : ∀ (d a n : Nat) (x1 x2 : Int32), a + d = 7 → 1 ≤ a → d < n → D_addsA_6 h m n x1 x2 (I a) = some (accI (fun a => w (37 + a)) a d x1, accI (fun a => w (30 + a)) a d x2) := by
  intro d
  induction d with
  | zero =>
    intro a n x1 x2 ha h1 hn
    obtain ⟨n, rfl⟩ : ∃ n0 : Nat, n = n0 + 1 := ⟨n - 1, by omega⟩
    have : a = 7 := by omega
    subst this
    rw [D_addsA_6, if_pos (by decide)]
    rfl
  | succ d ih =>
    intro a n x1 x2 ha h1 hn
    obtain ⟨n, rfl⟩ : ∃ n0 : Nat, n = n0 + 1 := ⟨n - 1, by omega⟩
    rw [D_addsA_6, if_neg (show ¬ (6 : Int32) < I a from fun z => by have := (I_lt (a := 6) (by decide) (by omega)).mp z; omega), a_timeOf hR h h1 (by omega), lr_s, b1_s, bnd_s, a_done hR h h1 (by omega), lr_s, b1_s, bnd_s, bnd_s, show I a + (1 : Int32) = I (a + 1) from I_add a 1]
    exact ih (a + 1) n _ _ (by omega) (by omega) (by omega)
def anyC (w : Nat → Int32) (n : Nat) : Nat := cntP (fun s => decide (w (58 + 8 * s + 1) ≠ -1)) n
theorem rowU_gi {u : MM} {t : Nat} {v : Int32} (j : Nat) : gi (si u 0 t v) 0 j = if j = t then v else gi u 0 j := by
  rw [gi_si]
  by_cases c : j = t
  · rw [if_pos ⟨rfl, c⟩, if_pos c]
  · rw [if_neg (fun z => c z.2), if_neg c]
section ADDS
variable {N : Nat → Nat} {m : MM} {w : Nat → Int32}
theorem adds145 (hR : R m w) (hI : Inv N 0 w) (h : MM) {s : Nat} (hs : s < nS w) (kk : Int32 → Int32 → Int32 → Int32 → Int32 → MM → Option (Int32 × MM)) (x1 x2 x4 x5 : Int32) (u : MM) : D_addsB_145 h m kk x1 x2 x4 x5 (I s) u = kk x1 x2 x4 x5 (I (s + 1)) u := by
  have q2 : D_X9_spindleValue (I s) (2 : Int32) h m = some (.inr (w (58 + 8 * s + 2))) := a_spindle hR h (j := 2) hs (by decide)
  have q1 : D_X9_spindleValue (I s) (1 : Int32) h m = some (.inr (w (58 + 8 * s + 1))) := a_spindle hR h (j := 1) hs (by decide)
  have v3 := hR.r0.vc.2.2.1
  unfold D_addsB_145
  rw [q2, lr_s, b1_s]
  rcases spfits hR hI hs with ⟨z1, z2⟩ | ⟨K, hK, z1, z2⟩
  · rw [z2, if_neg (by decide), bnd_s, show I s + (1 : Int32) = I (s + 1) from I_add s 1]
  · have hp : (0 : Int32) ≤ w (58 + 8 * s + 1) := by
      rw [z1]
      exact leT (a := 0) (Nat.zero_le _) (by omega)
    by_cases c : w (58 + 8 * s + 2) = 1
    · rw [if_pos c, q1, lr_s, b1_s, if_pos hp, bnd_s, show I s + (1 : Int32) = I (s + 1) from I_add s 1]
    · rw [if_neg c, bnd_s, show I s + (1 : Int32) = I (s + 1) from I_add s 1]
theorem a_nozzle (hR : R m w) (h : MM) {K : Nat} (hK : K < nK w) : D_X9_nozzleFor (I K) h m = some (.inr (w (50 + K))) := by
  obtain ⟨v1, v2, v3, v4, v5, v6, -⟩ := hR.r0.vc
  have hv := hR.v
  have c1 : ok (I K) (nK w) := ok_I (by omega) hK
  unfold D_X9_nozzleFor
  rw [hR.r0.n17 hv, rqi_y (by omega) c1, bX_s, gdI (by omega) (by omega), I_tnc (by omega), hR.r0.nz K hK]
  rfl
theorem adds87 (hR : R m w) (hI : Inv N 0 w) (h : MM) {s : Nat} (hs : s < nS w) (kk : Int32 → Int32 → Int32 → Int32 → Int32 → MM → Option (Int32 × MM)) (x1 x2 : Int32) (u : MM) : D_addsB_87 h m kk x1 x2 (chS w s) (I (anyC w s)) (I s) (w (58 + 8 * s)) u = kk x1 x2 (chS w (s + 1)) (I (anyC w (s + 1))) (I (s + 1)) u := by
  have q5 : D_X9_spindleValue (I s) (5 : Int32) h m = some (.inr (w (58 + 8 * s + 5))) := a_spindle hR h (j := 5) hs (by decide)
  have q1 : D_X9_spindleValue (I s) (1 : Int32) h m = some (.inr (w (58 + 8 * s + 1))) := a_spindle hR h (j := 1) hs (by decide)
  have v3 := hR.r0.vc.2.2.1
  have eA : anyC w (s + 1) = anyC w s + (if decide (w (58 + 8 * s + 1) ≠ -1) = true then 1 else 0) := rfl
  unfold D_addsB_87
  rw [q5, lr_s, b1_s, bnd_s, q1, lr_s, b1_s]
  rcases spfits hR hI hs with ⟨z1, z2⟩ | ⟨K, hK, z1, z2⟩
  · rw [eA, if_neg (show ¬ decide (w (58 + 8 * s + 1) ≠ -1) = true by rw [decide_eq_true_eq]; exact fun z => z z1), Nat.add_zero]
    have e : w (58 + 8 * s + 1) < 0 := by rw [z1]; decide
    rw [if_pos e]
    unfold D_addsB_116
    rw [bnd_s, q1, lr_s, b1_s, if_pos e, Int32.add_zero]
    exact adds145 hR hI h hs kk x1 x2 _ _ u
  · have e : ¬ w (58 + 8 * s + 1) < 0 := by
      rw [z1]
      exact Int32.not_lt.mpr (leT (a := 0) (Nat.zero_le _) (by omega))
    rw [eA, if_pos (show decide (w (58 + 8 * s + 1) ≠ -1) = true by rw [decide_eq_true_eq, z1]; exact I_ne_neg (by omega)), if_neg e]
    unfold D_addsB_116
    rw [bnd_s, q1, lr_s, b1_s, if_neg e, b1_s, z1, a_nozzle hR h hK, lr_s, b1_s, if_pos z2, show I (anyC w s) + (1 : Int32) = I (anyC w s + 1) from I_add _ 1]
    exact adds145 hR hI h hs kk x1 x2 _ _ u
theorem adds180 (hR : R m w) (hI : Inv N 0 w) (h : MM) (hK : nK w = 3) (x1 x2 x4 x5 : Int32) (u : MM) {S : Nat} (hS : S ≤ N 6) (hN6 : N 6 < 2147483648) (e1 : x1 = w 23) (e2 : x2 = I S) (e3 : nL w = min 40 S) (f0 : gi u 0 0 = w 44) (f1 : gi u 0 1 = w 45) (hT : nT w = 2) (e4 : x4 = w 31) (e5 : x5 = I (anyC w (nS w))) : D_addsB_180 h m FU x1 x2 x4 x5 0 0 u = some (1, u) := by
  have hh := held_sum hR.v 3 hK (by decide) (nS w) (Nat.le_refl _)
  have hh : anyC w (nS w) = 0 + heldC w (I 0) + heldC w (I 1) + heldC w (I 2) := hh
  have b0 : D_X9_ledger (0 : Int32) 2 h m = some (.inr (I (heldC w (I 0)))) := a_booked hR h (K := 0) (by omega)
  have b1 : D_X9_ledger (1 : Int32) 2 h m = some (.inr (I (heldC w (I 1)))) := a_booked hR h (K := 1) (by omega)
  have b2 : D_X9_ledger (2 : Int32) 2 h m = some (.inr (I (heldC w (I 2)))) := a_booked hR h (K := 2) (by omega)
  have g0 : D_X9_freeNozzles (0 : Int32) h m = some (.inr (w 44)) := a_free hR h (s := 0) (by omega)
  have g1 : D_X9_freeNozzles (1 : Int32) h m = some (.inr (w 45)) := a_free hR h (s := 1) (by omega)
  have d1 : D_X9_done (1 : Int32) h m = some (.inr (w 31)) := a_done hR h (a := 1) (by omega) (by omega)
  have es : x5 = (0 : Int32) + I (heldC w (I 0)) + I (heldC w (I 1)) + I (heldC w (I 2)) := by
    rw [e5, hh, show (0 : Int32) = I 0 from rfl, I_add, I_add, I_add]
  have eL : w 28 = (if x2 < (40 : Int32) then x2 else (40 : Int32)) := by
    rw [hR.v.cnt.2.2.2.2.2.2, e3, e2]
    by_cases c : S < 40
    · rw [if_pos (show I S < (40 : Int32) from (I_lt (b := 40) (by omega) (by decide)).mpr c), Nat.min_eq_right (by omega)]
    · rw [if_neg (show ¬ I S < (40 : Int32) from fun z => c ((I_lt (b := 40) (by omega) (by decide)).mp z)), Nat.min_eq_left (by omega)]
      rfl
  rw [show FU = 4999 + 1 from rfl, D_addsB_180, if_neg (by decide), b0, lr_s, b1_s, bnd_s, bnd_s, show (0 : Int32) + 1 = 1 by decide]
  rw [show (4999 : Nat) = 4998 + 1 from rfl, D_addsB_180, if_neg (by decide), b1, lr_s, b1_s, bnd_s, bnd_s, show (1 : Int32) + 1 = 2 by decide]
  rw [show (4998 : Nat) = 4997 + 1 from rfl, D_addsB_180, if_neg (by decide), b2, lr_s, b1_s, bnd_s, bnd_s, show (2 : Int32) + 1 = 3 by decide]
  rw [show (4997 : Nat) = 4996 + 1 from rfl, D_addsB_180, if_pos (by decide), a_now hR, b1_s, if_pos e1, a_logSize hR, b1_s, bnd_s, if_pos eL, g0, lr_s, b1_s, if_pos f0, g1, lr_s, b1_s, if_pos f1, d1, lr_s, b1_s, if_pos e4, if_pos es, a_bal hR hI, b1_s, if_neg (by decide)]
theorem adds55 (hR : R m w) (hI : Inv N 0 w) (h : MM) (hK : nK w = 3) (hT : nT w = 2) (x1 x2 : Int32) {S : Nat} (hS : S ≤ N 6) (hN6 : N 6 < 2147483648) (e1 : x1 = w 23) (e2 : x2 = I S) (e3 : nL w = min 40 S) : ∀ (d s n : Nat) (u : MM), s + d = nS w → d < n → gi u 0 0 + I (nzC w 0 s) = I (N 0) → gi u 0 1 + I (nzC w 1 s) = I (N 1) → ∃ u' : MM, D_addsB_55 h m n x1 x2 (chS w s) (I (anyC w s)) (I s) u = some (1, u') := by
  have v1 := hR.r0.vc.1
  intro d
  induction d with
  | zero =>
    intro s n u hs hn h0 h1
    obtain ⟨n, rfl⟩ : ∃ n0 : Nat, n = n0 + 1 := ⟨n - 1, by omega⟩
    have : s = nS w := by omega
    subst this
    refine ⟨u, ?_⟩
    rw [D_addsB_55, a_count0 hR, lr_s, b1_s, if_pos (Int32.le_refl _)]
    have key : ∀ t : Nat, t < 2 → gi u 0 t + I (nzC w t (nS w)) = I (N t) → gi u 0 t = w (44 + t) := fun t ht hz => by
      obtain ⟨f1, f2⟩ := free_sum hI (t := t) (by omega)
      rw [f1]
      refine (Int32.add_left_inj (I (nzC w t (nS w)))).mp ?_
      rw [hz, I_add, Nat.sub_add_cancel f2]
    exact adds180 hR hI h hK x1 x2 _ _ u hS hN6 e1 e2 e3 (key 0 (by omega) h0) (key 1 (by omega) h1) hT (change_sum hI) rfl
  | succ d ih =>
    intro s n u hs hn h0 h1
    obtain ⟨n, rfl⟩ : ∃ n0 : Nat, n = n0 + 1 := ⟨n - 1, by omega⟩
    have q0 : D_X9_spindleValue (I s) (0 : Int32) h m = some (.inr (w (58 + 8 * s))) := a_spindle hR h (j := 0) (by omega) (by decide)
    rw [D_addsB_55, a_count0 hR, lr_s, b1_s, if_neg (leF (by omega) (by omega)), q0, lr_s, b1_s]
    have eN : ∀ t : Nat, nzC w t (s + 1) = nzC w t s + (if decide (w (58 + 8 * s) = I t) = true then 1 else 0) := fun t => rfl
    rcases (hR.v.sp s (by omega)).1 with q | ⟨t, ht, q⟩
    · have q : w (58 + 8 * s) = -1 := q
      rw [if_pos (show w (58 + 8 * s) < 0 by rw [q]; decide), adds87 hR hI h (by omega)]
      refine ih (s + 1) n u (by omega) (by omega) ?_ ?_
      · rw [eN, if_neg (by rw [decide_eq_true_eq, q]; decide), Nat.add_zero]
        exact h0
      · rw [eN, if_neg (by rw [decide_eq_true_eq, q]; decide), Nat.add_zero]
        exact h1
    · have q : w (58 + 8 * s) = I t := q
      have hn0 : ¬ w (58 + 8 * s) < 0 := by
        rw [q]
        exact Int32.not_lt.mpr (leT (a := 0) (Nat.zero_le _) (by omega))
      have hg : ¬ (w (58 + 8 * s) < 0 ∨ 2 ≤ (w (58 + 8 * s)).toNatClampNeg) := by
        rw [q, I_tnc (by omega)]
        rintro (z | z)
        · rw [← q] at z
          exact hn0 z
        · omega
      rw [if_neg hn0, if_neg hg, if_neg hg, bnd_s, adds87 hR hI h (by omega), q, I_tnc (by omega)]
      have up : ∀ (x c : Int32), x - 1 + (c + 1) = x + c := fun x c => by
        rw [Int32.sub_eq_add_neg, Int32.add_assoc, ← Int32.add_assoc (-1) c 1, Int32.add_comm (-1) c, Int32.add_assoc c (-1) 1, show (-1 : Int32) + 1 = 0 by decide, Int32.add_zero]
      have go : ∀ t' : Nat, t' < 2 → gi u 0 t' + I (nzC w t' s) = I (N t') → gi (si u 0 t (gi u 0 t - 1)) 0 t' + I (nzC w t' (s + 1)) = I (N t') := fun t' ht' hz => by
        rw [rowU_gi, eN]
        by_cases c : t' = t
        · subst c
          rw [if_pos rfl, if_pos (by rw [decide_eq_true_eq]; exact q), ← I_add]
          exact (up _ _).trans hz
        · rw [if_neg c, if_neg (by rw [decide_eq_true_eq, q]; exact fun z => c ((I_inj (by omega) (by omega)).mp z).symm), Nat.add_zero]
          exact hz
      exact ih (s + 1) n _ (by omega) (by omega) (go 0 (by omega) h0) (go 1 (by omega) h1)
end ADDS
theorem addsUp_v {S : Nat} {N : Nat → Nat} {m : MM} {w : Nat → Int32} (hS : Sta S N m w) (hS4 : S < 1000) (n0 : N 0 = 2) (n1 : N 1 = 1) (hN6 : N 6 < 2147483648) (h : MM) : ∃ (x1 x2 : Int32) (u' : MM), D_addsA h m = some (x1, x2) ∧ D_addsB x1 x2 h m rowU = some (1, u') := by
  obtain ⟨e1, e2, e3, e4, e5⟩ := hS.cnt hS4
  obtain ⟨hR, hI, -⟩ := hS
  have v1 := hR.r0.vc.1
  obtain ⟨D, d1, d2, d3⟩ := done_sum hI
  have hA := addsA_v hR h 6 1 FU 0 0 rfl (Nat.le_refl _) (by decide)
  obtain ⟨u', hu⟩ := adds55 hR hI h e3 e2 (accI (fun a => w (37 + a)) 1 6 0) (accI (fun a => w (30 + a)) 1 6 0) d1 hN6 (time_sum hI) d2 d3 (nS w) 0 FU rowU (by omega) (by show nS w < 5000; omega) (by rw [n0]; rfl) (by rw [n1]; rfl)
  exact ⟨_, _, u', hA, hu⟩
