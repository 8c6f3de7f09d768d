/-! PROPERTY: what the accessors answer where they do not throw -/
theorem a_spindle {m : MM} {w : Nat → Int32} (hR : R m w) (h : MM) {s j : Nat} (hs : s < nS w) (hj : j < 8) : D_X9_spindleValue (I s) (I j) h m = some (.inr (w (58 + 8 * s + j))) := by
  obtain ⟨v1, v2, v3, v4, v5, v6, -⟩ := hR.r0.vc
  have hv := hR.v
  have c1 : ok (I s) (nS w) := ok_I (by omega) hs
  have c2 : ok (I j) 8 := ok_I (by omega) hj
  unfold D_X9_spindleValue
  rw [hR.r0.n15 hv, rqi_y (by omega) c1, bX_s, rqr_ok (n := 8) (by decide), if_pos c2, bX_s, gdI (by omega) (by omega), I_tnc (by omega), spV_m hR.r0 hv hs hj, b1_s]
  rfl
theorem a_feeder {m : MM} {w : Nat → Int32} (hR : R m w) (h : MM) {s j : Nat} (hs : s < nF w) (hj : j < 8) : D_X9_feederValue (I s) (I j) h m = some (.inr (w (130 + 11 * s + j))) := by
  obtain ⟨v1, v2, v3, v4, v5, v6, -⟩ := hR.r0.vc
  have hv := hR.v
  have c1 : ok (I s) (nF w) := ok_I (by omega) hs
  have c2 : ok (I j) 8 := ok_I (by omega) hj
  unfold D_X9_feederValue
  rw [hR.r0.n18 hv, rqi_y (by omega) c1, bX_s, rqr_ok (n := 8) (by decide), if_pos c2, bX_s, gdI (by omega) (by omega), I_tnc (by omega), fdV_m hR.r0 hv hs hj, b1_s]
  rfl
theorem a_spot {m : MM} {w : Nat → Int32} (hR : R m w) (h : MM) {s j : Nat} (hs : s < nP w) (hj : j < 6) : D_X9_spotValue (I s) (I j) h m = some (.inr (w (240 + 6 * s + j))) := by
  obtain ⟨v1, v2, v3, v4, v5, v6, -⟩ := hR.r0.vc
  have hv := hR.v
  have c1 : ok (I s) (nP w) := ok_I (by omega) hs
  have c2 : ok (I j) 6 := ok_I (by omega) hj
  unfold D_X9_spotValue
  rw [hR.r0.n19 hv, rqi_y (by omega) c1, bX_s, rqr_ok (n := 6) (by decide), if_pos c2, bX_s, stV_m hR.r0 hv hs hj, b1_s]
  rfl
theorem a_free {m : MM} {w : Nat → Int32} (hR : R m w) (h : MM) {s : Nat} (hs : s < nT w) : D_X9_freeNozzles (I s) h m = some (.inr (w (44 + s))) := by
  obtain ⟨v1, v2, v3, v4, v5, v6, -⟩ := hR.r0.vc
  have c1 : ok (I s) (nT w) := ok_I (by omega) hs
  unfold D_X9_freeNozzles
  rw [hR.r0.n16 hR.v, rqi_y (by omega) c1, bX_s, gdI (by omega) (by omega), I_tnc (by omega), hR.r0.fr s hs]
  rfl
theorem a_now {m : MM} {w : Nat → Int32} (hR : R m w) (h : MM) : D_X9_now h m = some (w 23) := by
  unfold D_X9_now
  rw [hR.r0.s23]
theorem a_logSize {m : MM} {w : Nat → Int32} (hR : R m w) (h : MM) : D_X9_logSize h m = some (w 28) := by
  unfold D_X9_logSize
  rw [hR.r0.s28]
theorem a_setting {m : MM} {w : Nat → Int32} (hR : R m w) (h : MM) {s : Nat} (hs : s < 15) : D_X9_setting (I s) h m = some (.inr (w s)) := by
  have c1 : ok (I s) 15 := ok_I (by omega) hs
  unfold D_X9_setting
  rw [rqr_ok (n := 15) (by decide), if_pos c1, bX_s, gdI (by omega) (by omega), I_tnc (by omega), hR.r0.set s hs]
  rfl
theorem a_head {m : MM} {w : Nat → Int32} (hR : R m w) (h : MM) {s : Nat} (hs : s < 2) : D_X9_head (I s) h m = some (.inr (w (21 + s))) := by
  have c1 : ok (I s) 2 := ok_I (by omega) hs
  unfold D_X9_head
  rw [rqr_ok (n := 2) (by decide), if_pos c1, bX_s, hR.r0.s21, hR.r0.s22]
  rcases (show s = 0 ∨ s = 1 by omega) with q | q <;> subst q
  · rw [if_pos (by decide)]
    rfl
  · rw [if_neg (by decide)]
    rfl
theorem a_count0 {m : MM} {w : Nat → Int32} (hR : R m w) (h : MM) : D_X9_count 0 h m = some (.inr (I (nS w))) := by
  unfold D_X9_count
  rw [if_pos rfl, hR.r0.c15, hR.v.cnt.1]
  rfl
theorem a_done {m : MM} {w : Nat → Int32} (hR : R m w) (h : MM) {a : Nat} (h1 : 1 ≤ a) (h7 : a < 7) : D_X9_done (I a) h m = some (.inr (w (30 + a))) := by
  unfold D_X9_done
  rcases act_rq (I a) with ⟨b, b1', b7, e, q1, q2⟩ | ⟨q1, q2⟩
  · rw [q1, bX_s, gdI (by omega) (by omega), I_tnc (by omega), hR.r0.dn a h7]
    rfl
  · rcases (show a = 1 ∨ a = 2 ∨ a = 3 ∨ a = 4 ∨ a = 5 ∨ a = 6 by omega) with q | q | q | q | q | q <;> subst q <;> exact absurd q2 (by decide)
theorem a_timeOf {m : MM} {w : Nat → Int32} (hR : R m w) (h : MM) {a : Nat} (h1 : 1 ≤ a) (h7 : a < 7) : D_X9_timeOf (I a) h m = some (.inr (w (37 + a))) := by
  unfold D_X9_timeOf
  rcases act_rq (I a) with ⟨b, b1', b7, e, q1, q2⟩ | ⟨q1, q2⟩
  · rw [q1, bX_s, gdI (by omega) (by omega), I_tnc (by omega), hR.1.2 a h7]
    rfl
  · rcases (show a = 1 ∨ a = 2 ∨ a = 3 ∨ a = 4 ∨ a = 5 ∨ a = 6 by omega) with q | q | q | q | q | q <;> subst q <;> exact absurd q2 (by decide)
theorem a_booked {m : MM} {w : Nat → Int32} (hR : R m w) (h : MM) {K : Nat} (hK : K < nK w) : D_X9_ledger (I K) 2 h m = some (.inr (I (heldC w (I K)))) := by
  obtain ⟨v1, v2, v3, v4, v5, v6, -⟩ := hR.r0.vc
  have hv := hR.v
  have c1 : ok (I K) (nK w) := ok_I (by omega) hK
  have c2 : ok (2 : Int32) 7 := ok_I (k := 2) (by omega) (by omega)
  unfold D_X9_ledger
  rw [hR.r0.n17 hv, rqi_y (by omega) c1, bX_s, rqr_ok (n := 7) (by decide), if_pos c2, bX_s, show D_X6_partsOf (I K) 2 m = some (tol w K 2) from tol_m (j := 2) hR.r0 hv (by omega) (by omega), b1_s]
  rfl
theorem a_bal {N : Nat → Nat} {m : MM} {w : Nat → Int32} (hR : R m w) (hI : Inv N 0 w) (h : MM) : D_X9_isBalanced h m = some 1 := by
  obtain ⟨i1, i2, i4, i5, i6, i7, i8⟩ := hI
  have v3 := hR.r0.vc.2.2.1
  unfold D_X9_isBalanced
  exact (bal_m2 hR.r0 hR.v h (nK w) 0 FU (by omega) (by show nK w < 5000; omega)).1 (fun K _ hK => i7 K hK)
theorem a_blocked {m : MM} {w : Nat → Int32} (hR : R m w) (h : MM) {s : Nat} (hs : s < nP w) : ∃ G : Int64, D_X9_blockedBy (I s) h m = some (.inr G) ∧ (G = 0 ↔ ¬ blk_ w s) := by
  obtain ⟨v1, v2, v3, v4, v5, v6, -⟩ := hR.r0.vc
  have hv := hR.v
  have c1 : ok (I s) (nP w) := ok_I (by omega) hs
  obtain ⟨G, g1, g2⟩ := firsts_m hR.r0 hv ((1 : Int64) <<< ((I s).toInt64 &&& 63))
  obtain ⟨H, h1, h2, h3⟩ := ob_x m hv v5 v6 s
  have e : G &&& gl m 36 7 = H := tb_xt (fun k hk => by
    rw [tb_and, Bool.and_eq_true, g2 k hk, hR.r0.op' hk, h2 k hk]
    constructor
    · rintro ⟨⟨b, b1', b2', i, hi, q1, q2⟩, q3, q4⟩
      rw [tb_bit (by omega), decide_eq_true_iff] at b2'
      subst b2'
      exact ⟨i, hi, q2, q1, q4⟩
    · rintro ⟨i, hi, q1, q2, q3⟩
      obtain ⟨ρ, hr⟩ := hv.pr
      obtain ⟨a', b', ha', hb', f1, f2, -⟩ := hr i hi
      have ek := (I_inj (by omega) (by omega)).mp (q2.symm.trans f1)
      exact ⟨⟨s, by omega, by rw [tb_bit (by omega)]; exact decide_eq_true rfl, i, hi, q2, q1⟩, by omega, q3⟩)
  refine ⟨H, ?_, h3⟩
  unfold D_X9_blockedBy
  rw [hR.r0.n19 hv, rqi_y (by omega) c1, bX_s, g1, b1_s, e]
  rfl
theorem a_fillable {m : MM} {w : Nat → Int32} (hR : R m w) (h : MM) : ∃ G : Int64, D_X9_fillableSet h m = some G ∧ ∀ k : Nat, k < 64 → (tb G k = true ↔ k < nP w ∧ fil w k) := by
  obtain ⟨G, g1, g2⟩ := fil_m hR.r0 hR.v
  refine ⟨G, ?_, g2⟩
  unfold D_X9_fillableSet
  rw [g1, b1_s]
theorem a_filled {m : MM} {w : Nat → Int32} (hR : R m w) (h : MM) : ∃ G : Int64, D_X9_filledSet h m = some G ∧ ∀ k : Nat, k < 64 → (tb G k = true ↔ k < nP w ∧ w (240 + 6 * k + 3) = 1) := ⟨gl m 36 8, rfl, fun _ hk => hR.r0.fl' hk⟩
/-- a spot's spindle, by its state; where it is not filled its time is before all -/
theorem spot_5 {N : Nat → Nat} {m : MM} {w : Nat → Int32} (hR : R m w) (hI : Inv N 0 w) {k : Nat} (hk : k < nP w) : ((0 : Int32) ≤ w (240 + 6 * k + 5) ↔ w (240 + 6 * k + 3) = 1) ∧ (w (240 + 6 * k + 3) ≠ 1 → w (240 + 6 * k + 4) = -1) := by
  obtain ⟨i1, i2, i4, i5, i6, i7, U, i8, i9⟩ := hI
  obtain ⟨t1, t2⟩ := hR.r0.ta k hk
  rw [show 244 + 6 * k = 240 + 6 * k + 4 by omega, show 243 + 6 * k = 240 + 6 * k + 3 by omega] at t1
  rw [show 245 + 6 * k = 240 + 6 * k + 5 by omega, show 243 + 6 * k = 240 + 6 * k + 3 by omega] at t2
  by_cases c : w (240 + 6 * k + 3) = 1
  · obtain ⟨⟨s, s1, s2⟩, U', u1, u2⟩ := i9 k hk c
    refine ⟨⟨fun _ => c, fun _ => ?_⟩, fun z => absurd c z⟩
    rw [s2]
    exact (I_le (a := 0) (by omega) (by omega)).mpr (Nat.zero_le _)
  · rw [if_neg c] at t1 t2
    refine ⟨⟨fun z => ?_, fun z => absurd z c⟩, fun _ => t1⟩
    rw [t2] at z
    exact absurd z (by decide)
