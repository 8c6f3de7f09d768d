/-! PURE: calls that only read, one by one -/
theorem T_spindleValue {m : MM} {w : Nat → Int32} (hR : R m w) (x h : MM) (x1 x2 : Int32) : Ans x w 1 2 (D_X9_spindleValue x1 x2 h m) (D_X10_spindleValue x1 x2 (pw x w)) := by
  obtain ⟨v1, v2, v3, v4, v5, v6, -⟩ := hR.r0.vc
  have hv := hR.v
  unfold D_X9_spindleValue D_X10_spindleValue
  rw [hR.r0.n15 hv]
  by_cases c1 : ok x1 (nS w)
  · rw [rqi_y (by omega) c1, bX_s, nspP_y hv v1 c1, b2_s, if00, rqr_ok (n := 8) (by decide), in_ok (n := 8) (by decide), b1_s]
    obtain ⟨s, hs, rfl⟩ := ok_ex c1
    by_cases c2 : ok x2 8
    · obtain ⟨j, hj, rfl⟩ := ok_ex c2
      rw [if_pos c2, if_pos c2, bX_s, if10, tif0P, b2_s, if00, oSpG (by omega) hj, b1_s, gdI (by omega) (by omega), I_tnc (by omega), spV_m hR.r0 hv hs hj, b1_s]
      exact Ans.y rfl rfl
    · rw [if_neg c2, if_neg c2, bX_x, if00, tif1P _ _ (by decide), b2_s, if10]
      exact Ans.t1 (by decide) rfl rfl
  · rw [rqi_n (by omega) c1, bX_x, nspP_n hv v1 c1, b2_s, if10]
    exact Ans.t0 (by decide) rfl rfl
theorem T_feederValue {m : MM} {w : Nat → Int32} (hR : R m w) (x h : MM) (x1 x2 : Int32) : Ans x w 1 2 (D_X9_feederValue x1 x2 h m) (D_X10_feederValue x1 x2 (pw x w)) := by
  obtain ⟨v1, v2, v3, v4, v5, v6, -⟩ := hR.r0.vc
  have hv := hR.v
  unfold D_X9_feederValue D_X10_feederValue
  rw [hR.r0.n18 hv]
  by_cases c1 : ok x1 (nF w)
  · rw [rqi_y (by omega) c1, bX_s, nfdP_y hv v4 c1, b2_s, if00, rqr_ok (n := 8) (by decide), in_ok (n := 8) (by decide), b1_s]
    obtain ⟨s, hs, rfl⟩ := ok_ex c1
    by_cases c2 : ok x2 8
    · obtain ⟨j, hj, rfl⟩ := ok_ex c2
      rw [if_pos c2, if_pos c2, bX_s, if10, tif0P, b2_s, if00, oFdG (by omega) (by omega), b1_s, gdI (by omega) (by omega), I_tnc (by omega), fdV_m hR.r0 hv hs hj, b1_s]
      exact Ans.y rfl rfl
    · rw [if_neg c2, if_neg c2, bX_x, if00, tif1P _ _ (by decide), b2_s, if10]
      exact Ans.t1 (by decide) rfl rfl
  · rw [rqi_n (by omega) c1, bX_x, nfdP_n hv v4 c1, b2_s, if10]
    exact Ans.t0 (by decide) rfl rfl
theorem T_spotValue {m : MM} {w : Nat → Int32} (hR : R m w) (x h : MM) (x1 x2 : Int32) : Ans x w 1 2 (D_X9_spotValue x1 x2 h m) (D_X10_spotValue x1 x2 (pw x w)) := by
  obtain ⟨v1, v2, v3, v4, v5, v6, -⟩ := hR.r0.vc
  have hv := hR.v
  unfold D_X9_spotValue D_X10_spotValue
  rw [hR.r0.n19 hv]
  by_cases c1 : ok x1 (nP w)
  · rw [rqi_y (by omega) c1, bX_s, nstP_y hv v5 c1, b2_s, if00, rqr_ok (n := 6) (by decide), in_ok (n := 6) (by decide), b1_s]
    obtain ⟨s, hs, rfl⟩ := ok_ex c1
    by_cases c2 : ok x2 6
    · obtain ⟨j, hj, rfl⟩ := ok_ex c2
      rw [if_pos c2, if_pos c2, bX_s, if10, tif0P, b2_s, if00, oStG (by omega) (by omega), b1_s, stV_m hR.r0 hv hs hj, b1_s]
      exact Ans.y rfl rfl
    · rw [if_neg c2, if_neg c2, bX_x, if00, tif1P _ _ (by decide), b2_s, if10]
      exact Ans.t1 (by decide) rfl rfl
  · rw [rqi_n (by omega) c1, bX_x, nstP_n hv v5 c1, b2_s, if10]
    exact Ans.t0 (by decide) rfl rfl
theorem T_freeNozzles {m : MM} {w : Nat → Int32} (hR : R m w) (x h : MM) (x1 : Int32) : Ans x w 1 0 (D_X9_freeNozzles x1 h m) (D_X10_freeNozzles x1 (pw x w)) := by
  obtain ⟨v1, v2, v3, v4, v5, v6, -⟩ := hR.r0.vc
  have hv := hR.v
  unfold D_X9_freeNozzles D_X10_freeNozzles
  rw [hR.r0.n16 hv, fineP, b2_s, if10, ityP hv v2, b1_s]
  by_cases c1 : ok x1 (nT w)
  · obtain ⟨s, hs, rfl⟩ := ok_ex c1
    rw [rqi_y (by omega) c1, bX_s, if_pos c1, if10, tif0P, b2_s, if00, ix44, gdI (by omega) (by omega), gdI (by omega) (by omega), I_tnc (by omega), I_tnc (by omega), giP, hR.r0.fr s hs]
    exact Ans.y rfl rfl
  · rw [rqi_n (by omega) c1, bX_x, if_neg c1, if00, tif1P _ _ (by decide), b2_s, if10]
    exact Ans.t0 (by decide) rfl rfl
theorem T_nozzleFor {m : MM} {w : Nat → Int32} (hR : R m w) (x h : MM) (x1 : Int32) : Ans x w 1 0 (D_X9_nozzleFor x1 h m) (D_X10_nozzleFor x1 (pw x w)) := by
  obtain ⟨v1, v2, v3, v4, v5, v6, -⟩ := hR.r0.vc
  have hv := hR.v
  unfold D_X9_nozzleFor D_X10_nozzleFor
  rw [hR.r0.n17 hv]
  by_cases c1 : ok x1 (nK w)
  · obtain ⟨s, hs, rfl⟩ := ok_ex c1
    rw [rqi_y (by omega) c1, bX_s, nkdP_y hv v3 c1, b2_s, if00, ix50, gdI (by omega) (by omega), gdI (by omega) (by omega), I_tnc (by omega), I_tnc (by omega), giP, hR.r0.nz s hs]
    exact Ans.y rfl rfl
  · rw [rqi_n (by omega) c1, bX_x, nkdP_n hv v3 c1, b2_s, if10]
    exact Ans.t0 (by decide) rfl rfl
theorem T_nearestFeeder {m : MM} {w : Nat → Int32} (hR : R m w) (x h : MM) (x1 : Int32) : Ans x w 1 0 (D_X9_nearestFeeder x1 h m) (D_X10_nearestFeeder x1 (pw x w)) := by
  obtain ⟨v1, v2, v3, v4, v5, v6, -⟩ := hR.r0.vc
  have hv := hR.v
  unfold D_X9_nearestFeeder D_X10_nearestFeeder
  rw [hR.r0.n17 hv]
  by_cases c1 : ok x1 (nK w)
  · rw [rqi_y (by omega) c1, bX_s, nkdP_y hv v3 c1, b2_s, if00, near_m hR.r0 hv, near_x _ hv v4, b1_s, b1_s]
    exact Ans.y rfl rfl
  · rw [rqi_n (by omega) c1, bX_x, nkdP_n hv v3 c1, b2_s, if10]
    exact Ans.t0 (by decide) rfl rfl
theorem T_openSpots {m : MM} {w : Nat → Int32} (hR : R m w) (x h : MM) (x1 : Int32) : Ans x w 1 0 (D_X9_openSpots x1 h m) (D_X10_openSpots x1 (pw x w)) := by
  obtain ⟨v1, v2, v3, v4, v5, v6, -⟩ := hR.r0.vc
  have hv := hR.v
  unfold D_X9_openSpots D_X10_openSpots D_X0_openOf
  rw [hR.r0.n17 hv]
  by_cases c1 : ok x1 (nK w)
  · obtain ⟨K, hK, rfl⟩ := ok_ex c1
    rw [rqi_y (by omega) c1, bX_s, nkdP_y hv v3 c1, b2_s, if00, stC_x _ hv v5 _ _ (I_ne_neg (by omega)), gdI (by omega) (by omega), I_tnc (by omega), b1_s, bitCount_eq, b1_s, b1_s, cnt_bits (p := stP w (I K) 0) (n := nP w) (by omega) (fun k hk => by
      rw [tb_and, Bool.and_eq_true, hR.r0.op' hk, hR.r0.kd' (by omega) hk]
      unfold stP
      rw [decide_eq_true_iff]
      exact ⟨fun z => ⟨z.1.1, z.2.2, z.1.2⟩, fun z => ⟨⟨z.1, z.2.2⟩, z.1, z.2.1⟩⟩)]
    exact Ans.y rfl rfl
  · rw [rqi_n (by omega) c1, bX_x, nkdP_n hv v3 c1, b2_s, if10]
    exact Ans.t0 (by decide) rfl rfl
theorem T_setting {m : MM} {w : Nat → Int32} (hR : R m w) (x h : MM) (x1 : Int32) : Ans x w 0 1 (D_X9_setting x1 h m) (D_X10_setting x1 (pw x w)) := by
  unfold D_X9_setting D_X10_setting
  rw [rqr_ok (n := 15) (by decide), fineP, b2_s, if10, in_ok (n := 15) (by decide), b1_s]
  by_cases c1 : ok x1 15
  · obtain ⟨s, hs, rfl⟩ := ok_ex c1
    rw [if_pos c1, if_pos c1, bX_s, if10, tif0P, b2_s, if00, gdI (by omega) (by omega), gdI (by omega) (by omega), I_tnc (by omega), giP, hR.r0.set s hs]
    exact Ans.y rfl rfl
  · rw [if_neg c1, if_neg c1, bX_x, if00, tif1P _ _ (by decide), b2_s, if10]
    exact Ans.t1 (by decide) rfl rfl
theorem T_head {m : MM} {w : Nat → Int32} (hR : R m w) (x h : MM) (x1 : Int32) : Ans x w 0 1 (D_X9_head x1 h m) (D_X10_head x1 (pw x w)) := by
  unfold D_X9_head D_X10_head
  rw [rqr_ok (n := 2) (by decide), fineP, b2_s, if10, in_ok (n := 2) (by decide), b1_s]
  by_cases c1 : ok x1 2
  · obtain ⟨s, hs, rfl⟩ := ok_ex c1
    rw [if_pos c1, if_pos c1, bX_s, if10, tif0P, b2_s, if00, show (21 : Int32) + I s = I (21 + s) from I_add 21 s, gdI (by omega) (by omega), I_tnc (by omega), giP, hR.r0.s21, hR.r0.s22]
    rcases (show s = 0 ∨ s = 1 by omega) with q | q <;> subst q
    · rw [if_pos (by decide)]
      exact Ans.y rfl rfl
    · rw [if_neg (by decide)]
      exact Ans.y rfl rfl
  · rw [if_neg c1, if_neg c1, bX_x, if00, tif1P _ _ (by decide), b2_s, if10]
    exact Ans.t1 (by decide) rfl rfl
theorem T_count {m : MM} {w : Nat → Int32} (hR : R m w) (x h : MM) (x1 : Int32) : Ans x w 0 1 (D_X9_count x1 h m) (D_X10_count x1 (pw x w)) := by
  unfold D_X9_count D_X10_count
  rw [fineP, b2_s, if10, in_ok (n := 6) (by decide), b1_s]
  by_cases c1 : ok x1 6
  · obtain ⟨s, hs, rfl⟩ := ok_ex c1
    rw [if_pos c1, if10, tif0P, b2_s, if00, show (15 : Int32) + I s = I (15 + s) from I_add 15 s, gdI (by omega) (by omega), I_tnc (by omega), giP, hR.r0.c15, hR.r0.c16, hR.r0.c17, hR.r0.c18, hR.r0.c19, hR.r0.c20]
    rcases (show s = 0 ∨ s = 1 ∨ s = 2 ∨ s = 3 ∨ s = 4 ∨ s = 5 by omega) with q | q | q | q | q | q <;> subst q
    · rw [if_pos (by decide)]
      exact Ans.y rfl rfl
    · rw [if_neg (by decide), if_pos (by decide)]
      exact Ans.y rfl rfl
    · rw [if_neg (by decide), if_neg (by decide), if_pos (by decide)]
      exact Ans.y rfl rfl
    · rw [if_neg (by decide), if_neg (by decide), if_neg (by decide), if_pos (by decide)]
      exact Ans.y rfl rfl
    · rw [if_neg (by decide), if_neg (by decide), if_neg (by decide), if_neg (by decide), if_pos (by decide)]
      exact Ans.y rfl rfl
    · rw [if_neg (by decide), if_neg (by decide), if_neg (by decide), if_neg (by decide), if_neg (by decide), if_pos (by decide)]
      exact Ans.y rfl rfl
  · have ne : ∀ j : Nat, j < 6 → x1 ≠ I j := fun j hj z => c1 (by rw [z]; exact ok_I (by omega) hj)
    rw [if_neg c1, if00, tif1P _ _ (by decide), b2_s, if10, if_neg (show ¬ x1 = (0 : Int32) from ne 0 (by decide)), if_neg (show ¬ x1 = (1 : Int32) from ne 1 (by decide)), if_neg (show ¬ x1 = (2 : Int32) from ne 2 (by decide)), if_neg (show ¬ x1 = (3 : Int32) from ne 3 (by decide)), if_neg (show ¬ x1 = (4 : Int32) from ne 4 (by decide)), if_neg (show ¬ x1 = (5 : Int32) from ne 5 (by decide))]
    exact Ans.t1 (by decide) rfl rfl
