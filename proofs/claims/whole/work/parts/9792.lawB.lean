/-! PURE: the law, a call at a time -/
theorem lw_300 {L : Nat} {xs : Nat → Int32} {i T : Nat} {k : LKont} {h m f c0 c1 x u : MM} (hi : i + 3 ≤ L) (hL : L ≤ 1536) (a : Rel T h m c0 c1 x) (hT : T ≤ 400000000) (hk : Nxt k i (T + 599500)) : D_L_law_300 L xs k (I i) h m f c0 c1 x u = some () := by
  unfold D_L_law_300
  simp only [ixs1, ixs2, gdJ (show i + 1 < 2147483648 by omega) (show i + 1 < L by omega), I_tnc (show i + 1 < 2147483648 by omega), gdJ (show i + 2 < 2147483648 by omega) (show i + 2 < L by omega), I_tnc (show i + 2 < 2147483648 by omega)]
  obtain ⟨r, h', x', e1, e2, e3, e4, e5⟩ := T_append m x h (rw1 x) (((xs (i + 1)).toInt64 <<< ((32 : Int32).toInt64 &&& 63)) ||| ((xs (i + 2)).toInt64 &&& (4294967295 : Int64))) a.2.2.1
  rw [pw_self] at e2
  rw [e1, b2_s, e2, b2_s, if_pos rfl, bnd_s, ixs3]
  refine hk _ _ _ _ _ _ _ ⟨by rw [rw1_pw]; exact a.1, by rw [rw1_pw]; exact a.2.1.mono (by omega), e3.cg rfl (fun k => rfl) (gi_pw (by decide) 8) (fun k => gi_pw (by decide) k), ?_, a.2.2.2.2.cg (by omega) (fun k => e4 6 k (by omega) (by omega)) (fun q k h1 h2 => by rw [gi_pw (by omega)]; exact e5 q k (by omega) (by omega) (by omega))⟩
  rw [gi_pw (by decide), e5 0 13 (by omega) (by omega) (by omega), e4 0 2 (by omega) (by omega)]
  exact a.2.2.2.1
theorem lw_357 {L : Nat} {xs : Nat → Int32} {i T : Nat} {k : LKont} {h m f c0 c1 x u : MM} (hi : i + 3 ≤ L) (hL : L ≤ 1536) (a : Rel T h m c0 c1 x) (hT : T ≤ 400000000) (hk : Nxt k i (T + 599500)) : D_L_law_357 L xs k (I i) h m f c0 c1 x u = some () := by
  unfold D_L_law_357
  obtain ⟨v, h', m', f', x', e1, e2, e3, e4, e5, e6, e7, e8⟩ := T_load a.1 f a.2.2.1 a.2.1
  rw [e1, b4_s, e2, b2_s, if_pos rfl, bnd_s, ixs3]
  exact hk _ _ _ _ _ _ _ ⟨e3, e4.mono (by omega), e5, e6, a.2.2.2.2.cg (by omega) (fun k => e7 6 k (by omega) (by omega)) (fun q k h1 h2 => e8 q k h1)⟩
theorem lw_370 {L : Nat} {xs : Nat → Int32} {i T : Nat} {k : LKont} {h m f c0 c1 x u : MM} (hi : i + 3 ≤ L) (hL : L ≤ 1536) (a : Rel T h m c0 c1 x) (hT : T ≤ 400000000) (hk : Nxt k i (T + 599500)) : D_L_law_370 L xs k (I i) h m f c0 c1 x u = some () := by
  have hA := T_loadError (x := x) (w := rw1 x) m a.2.2.2.1
  rw [pw_self] at hA
  unfold D_L_law_370
  exact la_N a hk hA
theorem lw_383 {L : Nat} {xs : Nat → Int32} {i T : Nat} {k : LKont} {h m f c0 c1 x u : MM} (hi : i + 3 ≤ L) (hL : L ≤ 1536) (a : Rel T h m c0 c1 x) (hT : T ≤ 400000000) (hk : Nxt k i (T + 599500)) : D_L_law_383 L xs k (I i) h m f c0 c1 x u = some () := by
  have hA := T_count a.1 x h (xs (i + 1))
  rw [pw_self] at hA
  unfold D_L_law_383 D_L_count
  simp only [ixs1, gdJ (show i + 1 < 2147483648 by omega) (show i + 1 < L by omega), I_tnc (show i + 1 < 2147483648 by omega)]
  exact la_A a hk hA (fun z => absurd rfl z) (fun _ => rfl)
theorem lw_439 {L : Nat} {xs : Nat → Int32} {i T : Nat} {k : LKont} {h m f c0 c1 x u : MM} (hi : i + 3 ≤ L) (hL : L ≤ 1536) (a : Rel T h m c0 c1 x) (hT : T ≤ 400000000) (hk : Nxt k i (T + 599500)) : D_L_law_439 L xs k (I i) h m f c0 c1 x u = some () := by
  have hA := T_setting a.1 x h (xs (i + 1))
  rw [pw_self] at hA
  unfold D_L_law_439 D_L_setting
  simp only [ixs1, gdJ (show i + 1 < 2147483648 by omega) (show i + 1 < L by omega), I_tnc (show i + 1 < 2147483648 by omega)]
  exact la_A a hk hA (fun z => absurd rfl z) (fun _ => rfl)
theorem lw_495 {L : Nat} {xs : Nat → Int32} {i T : Nat} {k : LKont} {h m f c0 c1 x u : MM} (hi : i + 3 ≤ L) (hL : L ≤ 1536) (a : Rel T h m c0 c1 x) (hT : T ≤ 400000000) (hk : Nxt k i (T + 599500)) : D_L_law_495 L xs k (I i) h m f c0 c1 x u = some () := by
  have hA := T_set a.1 x h (xs (i + 1)) (xs (i + 2))
  rw [pw_self] at hA
  unfold D_L_law_495 D_L_set
  simp only [ixs1, ixs2, gdJ (show i + 1 < 2147483648 by omega) (show i + 1 < L by omega), I_tnc (show i + 1 < 2147483648 by omega), gdJ (show i + 2 < 2147483648 by omega) (show i + 2 < L by omega), I_tnc (show i + 2 < 2147483648 by omega)]
  exact la_W a hk hA (fun z => absurd rfl z) (fun _ => rfl)
theorem lw_563 {L : Nat} {xs : Nat → Int32} {i T : Nat} {k : LKont} {h m f c0 c1 x u : MM} (hi : i + 3 ≤ L) (hL : L ≤ 1536) (a : Rel T h m c0 c1 x) (hT : T ≤ 400000000) (hk : Nxt k i (T + 599500)) : D_L_law_563 L xs k (I i) h m f c0 c1 x u = some () := by
  have hA := T_spindleValue a.1 x h (xs (i + 1)) (xs (i + 2))
  rw [pw_self] at hA
  unfold D_L_law_563 D_L_spindleValue
  simp only [ixs1, ixs2, gdJ (show i + 1 < 2147483648 by omega) (show i + 1 < L by omega), I_tnc (show i + 1 < 2147483648 by omega), gdJ (show i + 2 < 2147483648 by omega) (show i + 2 < L by omega), I_tnc (show i + 2 < 2147483648 by omega)]
  exact la_A a hk hA (fun _ => rfl) (fun _ => rfl)
theorem lw_631 {L : Nat} {xs : Nat → Int32} {i T : Nat} {k : LKont} {h m f c0 c1 x u : MM} (hi : i + 3 ≤ L) (hL : L ≤ 1536) (a : Rel T h m c0 c1 x) (hT : T ≤ 400000000) (hk : Nxt k i (T + 599500)) : D_L_law_631 L xs k (I i) h m f c0 c1 x u = some () := by
  have hA := T_freeNozzles a.1 x h (xs (i + 1))
  rw [pw_self] at hA
  unfold D_L_law_631 D_L_freeNozzles
  simp only [ixs1, gdJ (show i + 1 < 2147483648 by omega) (show i + 1 < L by omega), I_tnc (show i + 1 < 2147483648 by omega)]
  exact la_A a hk hA (fun _ => rfl) (fun z => absurd rfl z)
theorem lw_687 {L : Nat} {xs : Nat → Int32} {i T : Nat} {k : LKont} {h m f c0 c1 x u : MM} (hi : i + 3 ≤ L) (hL : L ≤ 1536) (a : Rel T h m c0 c1 x) (hT : T ≤ 400000000) (hk : Nxt k i (T + 599500)) : D_L_law_687 L xs k (I i) h m f c0 c1 x u = some () := by
  have hA := T_nozzleFor a.1 x h (xs (i + 1))
  rw [pw_self] at hA
  unfold D_L_law_687 D_L_nozzleFor
  simp only [ixs1, gdJ (show i + 1 < 2147483648 by omega) (show i + 1 < L by omega), I_tnc (show i + 1 < 2147483648 by omega)]
  exact la_A a hk hA (fun _ => rfl) (fun z => absurd rfl z)
theorem lw_743 {L : Nat} {xs : Nat → Int32} {i T : Nat} {k : LKont} {h m f c0 c1 x u : MM} (hi : i + 3 ≤ L) (hL : L ≤ 1536) (a : Rel T h m c0 c1 x) (hT : T ≤ 400000000) (hk : Nxt k i (T + 599500)) : D_L_law_743 L xs k (I i) h m f c0 c1 x u = some () := by
  have hA := T_feederValue a.1 x h (xs (i + 1)) (xs (i + 2))
  rw [pw_self] at hA
  unfold D_L_law_743 D_L_feederValue
  simp only [ixs1, ixs2, gdJ (show i + 1 < 2147483648 by omega) (show i + 1 < L by omega), I_tnc (show i + 1 < 2147483648 by omega), gdJ (show i + 2 < 2147483648 by omega) (show i + 2 < L by omega), I_tnc (show i + 2 < 2147483648 by omega)]
  exact la_A a hk hA (fun _ => rfl) (fun _ => rfl)
theorem lw_811 {L : Nat} {xs : Nat → Int32} {i T : Nat} {k : LKont} {h m f c0 c1 x u : MM} (hi : i + 3 ≤ L) (hL : L ≤ 1536) (a : Rel T h m c0 c1 x) (hT : T ≤ 400000000) (hk : Nxt k i (T + 599500)) : D_L_law_811 L xs k (I i) h m f c0 c1 x u = some () := by
  have hA := T_splice a.1 x h (xs (i + 1)) (xs (i + 2))
  rw [pw_self] at hA
  unfold D_L_law_811 D_L_splice
  simp only [ixs1, ixs2, gdJ (show i + 1 < 2147483648 by omega) (show i + 1 < L by omega), I_tnc (show i + 1 < 2147483648 by omega), gdJ (show i + 2 < 2147483648 by omega) (show i + 2 < L by omega), I_tnc (show i + 2 < 2147483648 by omega)]
  exact la_W a hk hA (fun _ => rfl) (fun _ => rfl)
theorem lw_879 {L : Nat} {xs : Nat → Int32} {i T : Nat} {k : LKont} {h m f c0 c1 x u : MM} (hi : i + 3 ≤ L) (hL : L ≤ 1536) (a : Rel T h m c0 c1 x) (hT : T ≤ 400000000) (hk : Nxt k i (T + 599500)) : D_L_law_879 L xs k (I i) h m f c0 c1 x u = some () := by
  have hA := T_takeReel a.1 x h (xs (i + 1))
  rw [pw_self] at hA
  unfold D_L_law_879 D_L_takeReel
  simp only [ixs1, gdJ (show i + 1 < 2147483648 by omega) (show i + 1 < L by omega), I_tnc (show i + 1 < 2147483648 by omega)]
  exact la_W a hk hA (fun _ => rfl) (fun z => absurd rfl z)
theorem lw_935 {L : Nat} {xs : Nat → Int32} {i T : Nat} {k : LKont} {h m f c0 c1 x u : MM} (hi : i + 3 ≤ L) (hL : L ≤ 1536) (a : Rel T h m c0 c1 x) (hT : T ≤ 400000000) (hk : Nxt k i (T + 599500)) : D_L_law_935 L xs k (I i) h m f c0 c1 x u = some () := by
  have hA := T_setMiss a.1 x h (xs (i + 1)) (xs (i + 2))
  rw [pw_self] at hA
  unfold D_L_law_935 D_L_setMiss
  simp only [ixs1, ixs2, gdJ (show i + 1 < 2147483648 by omega) (show i + 1 < L by omega), I_tnc (show i + 1 < 2147483648 by omega), gdJ (show i + 2 < 2147483648 by omega) (show i + 2 < L by omega), I_tnc (show i + 2 < 2147483648 by omega)]
  exact la_W a hk hA (fun _ => rfl) (fun _ => rfl)
theorem lw_1003 {L : Nat} {xs : Nat → Int32} {i T : Nat} {k : LKont} {h m f c0 c1 x u : MM} (hi : i + 3 ≤ L) (hL : L ≤ 1536) (a : Rel T h m c0 c1 x) (hT : T ≤ 400000000) (hk : Nxt k i (T + 599500)) : D_L_law_1003 L xs k (I i) h m f c0 c1 x u = some () := by
  have hA := T_moveFeeder a.1 x h (xs (i + 1)) (xs (i + 2))
  rw [pw_self] at hA
  unfold D_L_law_1003 D_L_moveFeeder
  simp only [ixs1, ixs2, gdJ (show i + 1 < 2147483648 by omega) (show i + 1 < L by omega), I_tnc (show i + 1 < 2147483648 by omega), gdJ (show i + 2 < 2147483648 by omega) (show i + 2 < L by omega), I_tnc (show i + 2 < 2147483648 by omega)]
  exact la_W a hk hA (fun _ => rfl) (fun _ => rfl)
theorem lw_1071 {L : Nat} {xs : Nat → Int32} {i T : Nat} {k : LKont} {h m f c0 c1 x u : MM} (hi : i + 3 ≤ L) (hL : L ≤ 1536) (a : Rel T h m c0 c1 x) (hT : T ≤ 400000000) (hk : Nxt k i (T + 599500)) : D_L_law_1071 L xs k (I i) h m f c0 c1 x u = some () := by
  have hA := T_nearestFeeder a.1 x h (xs (i + 1))
  rw [pw_self] at hA
  unfold D_L_law_1071 D_L_nearestFeeder
  simp only [ixs1, gdJ (show i + 1 < 2147483648 by omega) (show i + 1 < L by omega), I_tnc (show i + 1 < 2147483648 by omega)]
  exact la_A a hk hA (fun _ => rfl) (fun z => absurd rfl z)
theorem lw_1127 {L : Nat} {xs : Nat → Int32} {i T : Nat} {k : LKont} {h m f c0 c1 x u : MM} (hi : i + 3 ≤ L) (hL : L ≤ 1536) (a : Rel T h m c0 c1 x) (hT : T ≤ 400000000) (hk : Nxt k i (T + 599500)) : D_L_law_1127 L xs k (I i) h m f c0 c1 x u = some () := by
  have hA := T_spotValue a.1 x h (xs (i + 1)) (xs (i + 2))
  rw [pw_self] at hA
  unfold D_L_law_1127 D_L_spotValue
  simp only [ixs1, ixs2, gdJ (show i + 1 < 2147483648 by omega) (show i + 1 < L by omega), I_tnc (show i + 1 < 2147483648 by omega), gdJ (show i + 2 < 2147483648 by omega) (show i + 2 < L by omega), I_tnc (show i + 2 < 2147483648 by omega)]
  exact la_A a hk hA (fun _ => rfl) (fun _ => rfl)
theorem lw_1195 {L : Nat} {xs : Nat → Int32} {i T : Nat} {k : LKont} {h m f c0 c1 x u : MM} (hi : i + 3 ≤ L) (hL : L ≤ 1536) (a : Rel T h m c0 c1 x) (hT : T ≤ 400000000) (hk : Nxt k i (T + 599500)) : D_L_law_1195 L xs k (I i) h m f c0 c1 x u = some () := by
  unfold D_L_law_1195 D_L_leaveOut
  simp only [ixs1, ixs2, gdJ (show i + 1 < 2147483648 by omega) (show i + 1 < L by omega), I_tnc (show i + 1 < 2147483648 by omega), gdJ (show i + 2 < 2147483648 by omega) (show i + 2 < L by omega), I_tnc (show i + 2 < 2147483648 by omega)]
  by_cases c : xs (i + 2) = 0
  · have hA := T_leaveOut0 a.1 x h (xs (i + 1))
    rw [pw_self] at hA
    simp only [if_pos c]
    exact la_B a hk hA (fun _ => rfl) (fun z => absurd rfl z)
  · have hA := T_leaveOut1 a.1 x h (xs (i + 1))
    rw [pw_self] at hA
    simp only [if_neg c]
    exact la_B a hk hA (fun _ => rfl) (fun z => absurd rfl z)
theorem lw_1286 {L : Nat} {xs : Nat → Int32} {i T : Nat} {k : LKont} {h m f c0 c1 x u : MM} (hi : i + 3 ≤ L) (hL : L ≤ 1536) (a : Rel T h m c0 c1 x) (hT : T ≤ 400000000) (hk : Nxt k i (T + 599500)) : D_L_law_1286 L xs k (I i) h m f c0 c1 x u = some () := by
  have hA := T_openSpots a.1 x h (xs (i + 1))
  rw [pw_self] at hA
  unfold D_L_law_1286 D_L_openSpots
  simp only [ixs1, gdJ (show i + 1 < 2147483648 by omega) (show i + 1 < L by omega), I_tnc (show i + 1 < 2147483648 by omega)]
  exact la_A a hk hA (fun _ => rfl) (fun z => absurd rfl z)
theorem lw_1342 {L : Nat} {xs : Nat → Int32} {i T : Nat} {k : LKont} {h m f c0 c1 x u : MM} (hi : i + 3 ≤ L) (hL : L ≤ 1536) (a : Rel T h m c0 c1 x) (hT : T ≤ 400000000) (hk : Nxt k i (T + 599500)) : D_L_law_1342 L xs k (I i) h m f c0 c1 x u = some () := by
  have hA := T_addBefore a.1 x h (xs (i + 1)) (xs (i + 2))
  rw [pw_self] at hA
  unfold D_L_law_1342 D_L_addBefore
  simp only [ixs1, ixs2, gdJ (show i + 1 < 2147483648 by omega) (show i + 1 < L by omega), I_tnc (show i + 1 < 2147483648 by omega), gdJ (show i + 2 < 2147483648 by omega) (show i + 2 < L by omega), I_tnc (show i + 2 < 2147483648 by omega)]
  exact la_W a hk hA (fun _ => rfl) (fun z => absurd rfl z)
theorem lw_1410 {L : Nat} {xs : Nat → Int32} {i T : Nat} {k : LKont} {h m f c0 c1 x u : MM} (hi : i + 3 ≤ L) (hL : L ≤ 1536) (a : Rel T h m c0 c1 x) (hT : T ≤ 400000000) (hk : Nxt k i (T + 599500)) : D_L_law_1410 L xs k (I i) h m f c0 c1 x u = some () := by
  have hA := T_dropBefore a.1 x h (xs (i + 1)) (xs (i + 2))
  rw [pw_self] at hA
  unfold D_L_law_1410 D_L_dropBefore
  simp only [ixs1, ixs2, gdJ (show i + 1 < 2147483648 by omega) (show i + 1 < L by omega), I_tnc (show i + 1 < 2147483648 by omega), gdJ (show i + 2 < 2147483648 by omega) (show i + 2 < L by omega), I_tnc (show i + 2 < 2147483648 by omega)]
  exact la_B a hk hA (fun _ => rfl) (fun z => absurd rfl z)
theorem lw_1485 {L : Nat} {xs : Nat → Int32} {i T : Nat} {k : LKont} {h m f c0 c1 x u : MM} (hi : i + 3 ≤ L) (hL : L ≤ 1536) (a : Rel T h m c0 c1 x) (hT : T ≤ 400000000) (hk : Nxt k i (T + 599500)) : D_L_law_1485 L xs k (I i) h m f c0 c1 x u = some () := by
  have hA := T_blockedBy a.1 x h (xs (i + 1))
  rw [pw_self] at hA
  unfold D_L_law_1485 D_L_blockedBy
  simp only [ixs1, gdJ (show i + 1 < 2147483648 by omega) (show i + 1 < L by omega), I_tnc (show i + 1 < 2147483648 by omega)]
  exact la_A64 a hk hA (fun _ => rfl) (fun z => absurd rfl z)
theorem lw_1540 {L : Nat} {xs : Nat → Int32} {i T : Nat} {k : LKont} {h m f c0 c1 x u : MM} (hi : i + 3 ≤ L) (hL : L ≤ 1536) (a : Rel T h m c0 c1 x) (hT : T ≤ 400000000) (hk : Nxt k i (T + 599500)) : D_L_law_1540 L xs k (I i) h m f c0 c1 x u = some () := by
  have hA := T_chain a.1 x h (xs (i + 1))
  rw [pw_self] at hA
  unfold D_L_law_1540 D_L_chain
  simp only [ixs1, gdJ (show i + 1 < 2147483648 by omega) (show i + 1 < L by omega), I_tnc (show i + 1 < 2147483648 by omega)]
  exact la_A a hk hA (fun _ => rfl) (fun z => absurd rfl z)
theorem lw_1596 {L : Nat} {xs : Nat → Int32} {i T : Nat} {k : LKont} {h m f c0 c1 x u : MM} (hi : i + 3 ≤ L) (hL : L ≤ 1536) (a : Rel T h m c0 c1 x) (hT : T ≤ 400000000) (hk : Nxt k i (T + 599500)) : D_L_law_1596 L xs k (I i) h m f c0 c1 x u = some () := by
  have hA := T_fillableSet a.1 x h
  rw [pw_self] at hA
  unfold D_L_law_1596
  exact la_N64 a hk hA
theorem lw_1610 {L : Nat} {xs : Nat → Int32} {i T : Nat} {k : LKont} {h m f c0 c1 x u : MM} (hi : i + 3 ≤ L) (hL : L ≤ 1536) (a : Rel T h m c0 c1 x) (hT : T ≤ 400000000) (hk : Nxt k i (T + 599500)) : D_L_law_1610 L xs k (I i) h m f c0 c1 x u = some () := by
  have hA := T_filledSet a.1 x h
  rw [pw_self] at hA
  unfold D_L_law_1610
  exact la_N64 a hk hA
theorem lw_1624 {L : Nat} {xs : Nat → Int32} {i T : Nat} {k : LKont} {h m f c0 c1 x u : MM} (hi : i + 3 ≤ L) (hL : L ≤ 1536) (a : Rel T h m c0 c1 x) (hT : T ≤ 400000000) (hk : Nxt k i (T + 599500)) : D_L_law_1624 L xs k (I i) h m f c0 c1 x u = some () := by
  obtain ⟨v, m', x', w', e1, e2, e4, e5, e6⟩ := T_newBoard a.1 x h
  rw [pw_self] at e2
  unfold D_L_law_1624
  rw [e1, b2_s, e2, b2_s, if_pos rfl, bnd_s, ixs3]
  exact hk _ _ _ _ _ _ _ (a.ac e4 e5 (HF.rf h) e6)
theorem lw_1637 {L : Nat} {xs : Nat → Int32} {i T : Nat} {k : LKont} {h m f c0 c1 x u : MM} (hi : i + 3 ≤ L) (hL : L ≤ 1536) (a : Rel T h m c0 c1 x) (hT : T ≤ 400000000) (hk : Nxt k i (T + 599500)) : D_L_law_1637 L xs k (I i) h m f c0 c1 x u = some () := by
  have hA := T_boards a.1 x h
  rw [pw_self] at hA
  unfold D_L_law_1637
  exact la_N a hk hA
theorem lw_1650 {L : Nat} {xs : Nat → Int32} {i T : Nat} {k : LKont} {h m f c0 c1 x u : MM} (hi : i + 3 ≤ L) (hL : L ≤ 1536) (a : Rel T h m c0 c1 x) (hT : T ≤ 400000000) (hk : Nxt k i (T + 599500)) : D_L_law_1650 L xs k (I i) h m f c0 c1 x u = some () := by
  have hA := T_changeNozzle a.1 x h (xs (i + 1)) (xs (i + 2))
  rw [pw_self] at hA
  unfold D_L_law_1650 D_L_changeNozzle
  simp only [ixs1, ixs2, gdJ (show i + 1 < 2147483648 by omega) (show i + 1 < L by omega), I_tnc (show i + 1 < 2147483648 by omega), gdJ (show i + 2 < 2147483648 by omega) (show i + 2 < L by omega), I_tnc (show i + 2 < 2147483648 by omega)]
  exact la_W a hk hA (fun _ => rfl) (fun z => absurd rfl z)
theorem lw_1718 {L : Nat} {xs : Nat → Int32} {i T : Nat} {k : LKont} {h m f c0 c1 x u : MM} (hi : i + 3 ≤ L) (hL : L ≤ 1536) (a : Rel T h m c0 c1 x) (hT : T ≤ 400000000) (hk : Nxt k i (T + 599500)) : D_L_law_1718 L xs k (I i) h m f c0 c1 x u = some () := by
  have hA := T_pick a.1 x h (xs (i + 1)) (xs (i + 2))
  rw [pw_self] at hA
  unfold D_L_law_1718 D_L_pick
  simp only [ixs1, ixs2, gdJ (show i + 1 < 2147483648 by omega) (show i + 1 < L by omega), I_tnc (show i + 1 < 2147483648 by omega), gdJ (show i + 2 < 2147483648 by omega) (show i + 2 < L by omega), I_tnc (show i + 2 < 2147483648 by omega)]
  exact la_W a hk hA (fun _ => rfl) (fun z => absurd rfl z)
theorem lw_1786 {L : Nat} {xs : Nat → Int32} {i T : Nat} {k : LKont} {h m f c0 c1 x u : MM} (hi : i + 3 ≤ L) (hL : L ≤ 1536) (a : Rel T h m c0 c1 x) (hT : T ≤ 400000000) (hk : Nxt k i (T + 599500)) : D_L_law_1786 L xs k (I i) h m f c0 c1 x u = some () := by
  have hA := T_look a.1 x h (xs (i + 1))
  rw [pw_self] at hA
  unfold D_L_law_1786 D_L_look
  simp only [ixs1, gdJ (show i + 1 < 2147483648 by omega) (show i + 1 < L by omega), I_tnc (show i + 1 < 2147483648 by omega)]
  exact la_W a hk hA (fun _ => rfl) (fun z => absurd rfl z)
theorem lw_1842 {L : Nat} {xs : Nat → Int32} {i T : Nat} {k : LKont} {h m f c0 c1 x u : MM} (hi : i + 3 ≤ L) (hL : L ≤ 1536) (a : Rel T h m c0 c1 x) (hT : T ≤ 400000000) (hk : Nxt k i (T + 599500)) : D_L_law_1842 L xs k (I i) h m f c0 c1 x u = some () := by
  have hA := T_place a.1 x h (xs (i + 1)) (xs (i + 2))
  rw [pw_self] at hA
  unfold D_L_law_1842 D_L_place
  simp only [ixs1, ixs2, gdJ (show i + 1 < 2147483648 by omega) (show i + 1 < L by omega), I_tnc (show i + 1 < 2147483648 by omega), gdJ (show i + 2 < 2147483648 by omega) (show i + 2 < L by omega), I_tnc (show i + 2 < 2147483648 by omega)]
  exact la_W a hk hA (fun _ => rfl) (fun z => absurd rfl z)
theorem lw_1910 {L : Nat} {xs : Nat → Int32} {i T : Nat} {k : LKont} {h m f c0 c1 x u : MM} (hi : i + 3 ≤ L) (hL : L ≤ 1536) (a : Rel T h m c0 c1 x) (hT : T ≤ 400000000) (hk : Nxt k i (T + 599500)) : D_L_law_1910 L xs k (I i) h m f c0 c1 x u = some () := by
  have hA := T_discard a.1 x h (xs (i + 1))
  rw [pw_self] at hA
  unfold D_L_law_1910 D_L_discard
  simp only [ixs1, gdJ (show i + 1 < 2147483648 by omega) (show i + 1 < L by omega), I_tnc (show i + 1 < 2147483648 by omega)]
  exact la_W a hk hA (fun _ => rfl) (fun z => absurd rfl z)
theorem lw_1966 {L : Nat} {xs : Nat → Int32} {i T : Nat} {k : LKont} {h m f c0 c1 x u : MM} (hi : i + 3 ≤ L) (hL : L ≤ 1536) (a : Rel T h m c0 c1 x) (hT : T ≤ 400000000) (hk : Nxt k i (T + 599500)) : D_L_law_1966 L xs k (I i) h m f c0 c1 x u = some () := by
  have hA := T_clean a.1 x h (xs (i + 1))
  rw [pw_self] at hA
  unfold D_L_law_1966 D_L_clean
  simp only [ixs1, gdJ (show i + 1 < 2147483648 by omega) (show i + 1 < L by omega), I_tnc (show i + 1 < 2147483648 by omega)]
  exact la_W a hk hA (fun _ => rfl) (fun z => absurd rfl z)
theorem lw_2022 {L : Nat} {xs : Nat → Int32} {i T : Nat} {k : LKont} {h m f c0 c1 x u : MM} (hi : i + 3 ≤ L) (hL : L ≤ 1536) (a : Rel T h m c0 c1 x) (hT : T ≤ 400000000) (hk : Nxt k i (T + 599500)) : D_L_law_2022 L xs k (I i) h m f c0 c1 x u = some () := by
  obtain ⟨v, h', x', e1, e2, e3, e4⟩ := T_nextAction a.1 x h
  rw [pw_self] at e2
  unfold D_L_law_2022
  rw [e1, b2_s, e2, b2_s, if_pos rfl, bnd_s, ixs3]
  exact hk _ _ _ _ _ _ _ (a.keep (by omega) a.1 (a.2.1.mono (by omega)) e3 e4)
theorem lw_2035 {L : Nat} {xs : Nat → Int32} {i T : Nat} {k : LKont} {h m f c0 c1 x u : MM} (hi : i + 3 ≤ L) (hL : L ≤ 1536) (a : Rel T h m c0 c1 x) (hT : T ≤ 400000000) (hk : Nxt k i (T + 599500)) : D_L_law_2035 L xs k (I i) h m f c0 c1 x u = some () := by
  obtain ⟨v, h', m', x', w', e1, e2, e3, e4, e5, e6⟩ := T_step a.1 x h
  rw [pw_self] at e2
  unfold D_L_law_2035
  rw [e1, b3_s, e2, b2_s, if_pos rfl, bnd_s, ixs3]
  exact hk _ _ _ _ _ _ _ (a.ac e4 e5 e3 e6)
theorem lw_2048 {L : Nat} {xs : Nat → Int32} {i T : Nat} {k : LKont} {h m f c0 c1 x u : MM} (hi : i + 3 ≤ L) (hL : L ≤ 1536) (a : Rel T h m c0 c1 x) (hT : T ≤ 400000000) (hk : Nxt k i (T + 599500)) : D_L_law_2048 L xs k (I i) h m f c0 c1 x u = some () := by
  unfold D_L_law_2048 D_L_run
  simp only [ixs1, gdJ (show i + 1 < 2147483648 by omega) (show i + 1 < L by omega), I_tnc (show i + 1 < 2147483648 by omega)]
  rcases T_run a.1 x h (xs (i + 1)) with ⟨e1, e2⟩ | ⟨v, h', m', x', w', e1, e2, e6, e3, e4, e5, fx⟩
  · rw [pw_self] at e2
    rw [e1, wL_1, b4_s, e2, b2_s, thd_eq, b1_s, gi_pw (by decide), gi_th6, if_pos rfl, if_neg (by decide), bnd_s, ixs3]
    exact hk _ _ _ _ _ _ _ (a.rd (by omega) (XK.th x 1))
  · rw [pw_self] at e2
    rw [e1, wL_r, b4_s, e2, b2_s, thd_eq, b1_s, gi_pw (by decide), e6, if_pos rfl, if_pos rfl, gl_sl_eq, if_pos rfl, bnd_s, ixs3]
    exact hk _ _ _ _ _ _ _ (a.ac e4 e5 e3 fx)
theorem lw_2104 {L : Nat} {xs : Nat → Int32} {i T : Nat} {k : LKont} {h m f c0 c1 x u : MM} (hi : i + 3 ≤ L) (hL : L ≤ 1536) (a : Rel T h m c0 c1 x) (hT : T ≤ 400000000) (hk : Nxt k i (T + 599500)) : D_L_law_2104 L xs k (I i) h m f c0 c1 x u = some () := by
  have hA := T_isHalted a.1 x h
  rw [pw_self] at hA
  unfold D_L_law_2104
  exact la_N a hk hA
theorem lw_2117 {L : Nat} {xs : Nat → Int32} {i T : Nat} {k : LKont} {h m f c0 c1 x u : MM} (hi : i + 3 ≤ L) (hL : L ≤ 1536) (a : Rel T h m c0 c1 x) (hT : T ≤ 400000000) (hk : Nxt k i (T + 599500)) : D_L_law_2117 L xs k (I i) h m f c0 c1 x u = some () := by
  obtain ⟨v, m', x', w', e1, e2, e4, e5, e6⟩ := T_resume a.1 x h
  rw [pw_self] at e2
  unfold D_L_law_2117
  rw [e1, b2_s, e2, b2_s, if_pos rfl, bnd_s, ixs3]
  exact hk _ _ _ _ _ _ _ (a.ac e4 e5 (HF.rf h) e6)
theorem lw_2130 {L : Nat} {xs : Nat → Int32} {i T : Nat} {k : LKont} {h m f c0 c1 x u : MM} (hi : i + 3 ≤ L) (hL : L ≤ 1536) (a : Rel T h m c0 c1 x) (hT : T ≤ 400000000) (hk : Nxt k i (T + 599500)) : D_L_law_2130 L xs k (I i) h m f c0 c1 x u = some () := by
  have hA := T_ledger a.1 x h (xs (i + 1)) (xs (i + 2))
  rw [pw_self] at hA
  unfold D_L_law_2130 D_L_ledger
  simp only [ixs1, ixs2, gdJ (show i + 1 < 2147483648 by omega) (show i + 1 < L by omega), I_tnc (show i + 1 < 2147483648 by omega), gdJ (show i + 2 < 2147483648 by omega) (show i + 2 < L by omega), I_tnc (show i + 2 < 2147483648 by omega)]
  exact la_A a hk hA (fun _ => rfl) (fun _ => rfl)
theorem lw_2198 {L : Nat} {xs : Nat → Int32} {i T : Nat} {k : LKont} {h m f c0 c1 x u : MM} (hi : i + 3 ≤ L) (hL : L ≤ 1536) (a : Rel T h m c0 c1 x) (hT : T ≤ 400000000) (hk : Nxt k i (T + 599500)) : D_L_law_2198 L xs k (I i) h m f c0 c1 x u = some () := by
  have hA := T_isBalanced a.1 x h
  rw [pw_self] at hA
  unfold D_L_law_2198
  exact la_N a hk hA
theorem lw_2211 {L : Nat} {xs : Nat → Int32} {i T : Nat} {k : LKont} {h m f c0 c1 x u : MM} (hi : i + 3 ≤ L) (hL : L ≤ 1536) (a : Rel T h m c0 c1 x) (hT : T ≤ 400000000) (hk : Nxt k i (T + 599500)) : D_L_law_2211 L xs k (I i) h m f c0 c1 x u = some () := by
  have hA := T_now a.1 x h
  rw [pw_self] at hA
  unfold D_L_law_2211
  exact la_N a hk hA
theorem lw_2224 {L : Nat} {xs : Nat → Int32} {i T : Nat} {k : LKont} {h m f c0 c1 x u : MM} (hi : i + 3 ≤ L) (hL : L ≤ 1536) (a : Rel T h m c0 c1 x) (hT : T ≤ 400000000) (hk : Nxt k i (T + 599500)) : D_L_law_2224 L xs k (I i) h m f c0 c1 x u = some () := by
  have hA := T_head a.1 x h (xs (i + 1))
  rw [pw_self] at hA
  unfold D_L_law_2224 D_L_head
  simp only [ixs1, gdJ (show i + 1 < 2147483648 by omega) (show i + 1 < L by omega), I_tnc (show i + 1 < 2147483648 by omega)]
  exact la_A a hk hA (fun z => absurd rfl z) (fun _ => rfl)
theorem lw_2280 {L : Nat} {xs : Nat → Int32} {i T : Nat} {k : LKont} {h m f c0 c1 x u : MM} (hi : i + 3 ≤ L) (hL : L ≤ 1536) (a : Rel T h m c0 c1 x) (hT : T ≤ 400000000) (hk : Nxt k i (T + 599500)) : D_L_law_2280 L xs k (I i) h m f c0 c1 x u = some () := by
  have hA := T_done a.1 x h (xs (i + 1))
  rw [pw_self] at hA
  unfold D_L_law_2280 D_L_done
  simp only [ixs1, gdJ (show i + 1 < 2147483648 by omega) (show i + 1 < L by omega), I_tnc (show i + 1 < 2147483648 by omega)]
  exact la_A a hk hA (fun z => absurd rfl z) (fun _ => rfl)
theorem lw_2336 {L : Nat} {xs : Nat → Int32} {i T : Nat} {k : LKont} {h m f c0 c1 x u : MM} (hi : i + 3 ≤ L) (hL : L ≤ 1536) (a : Rel T h m c0 c1 x) (hT : T ≤ 400000000) (hk : Nxt k i (T + 599500)) : D_L_law_2336 L xs k (I i) h m f c0 c1 x u = some () := by
  have hA := T_timeOf a.1 x h (xs (i + 1))
  rw [pw_self] at hA
  unfold D_L_law_2336 D_L_timeOf
  simp only [ixs1, gdJ (show i + 1 < 2147483648 by omega) (show i + 1 < L by omega), I_tnc (show i + 1 < 2147483648 by omega)]
  exact la_A a hk hA (fun z => absurd rfl z) (fun _ => rfl)
theorem lw_2392 {L : Nat} {xs : Nat → Int32} {i T : Nat} {k : LKont} {h m f c0 c1 x u : MM} (hi : i + 3 ≤ L) (hL : L ≤ 1536) (a : Rel T h m c0 c1 x) (hT : T ≤ 400000000) (hk : Nxt k i (T + 599500)) : D_L_law_2392 L xs k (I i) h m f c0 c1 x u = some () := by
  have hA := T_shareOf a.1 x h (xs (i + 1))
  rw [pw_self] at hA
  unfold D_L_law_2392 D_L_shareOf
  simp only [ixs1, gdJ (show i + 1 < 2147483648 by omega) (show i + 1 < L by omega), I_tnc (show i + 1 < 2147483648 by omega)]
  exact la_A a hk hA (fun z => absurd rfl z) (fun _ => rfl)
theorem lw_2448 {L : Nat} {xs : Nat → Int32} {i T : Nat} {k : LKont} {h m f c0 c1 x u : MM} (hi : i + 3 ≤ L) (hL : L ≤ 1536) (a : Rel T h m c0 c1 x) (hT : T ≤ 400000000) (hk : Nxt k i (T + 599500)) : D_L_law_2448 L xs k (I i) h m f c0 c1 x u = some () := by
  have hA := T_lookRate a.1 x h
  rw [pw_self] at hA
  unfold D_L_law_2448
  exact la_N a hk hA
theorem lw_2461 {L : Nat} {xs : Nat → Int32} {i T : Nat} {k : LKont} {h m f c0 c1 x u : MM} (hi : i + 3 ≤ L) (hL : L ≤ 1536) (a : Rel T h m c0 c1 x) (hT : T ≤ 400000000) (hk : Nxt k i (T + 599500)) : D_L_law_2461 L xs k (I i) h m f c0 c1 x u = some () := by
  have hA := T_logSize a.1 x h
  rw [pw_self] at hA
  unfold D_L_law_2461
  exact la_N a hk hA
theorem lw_2474 {L : Nat} {xs : Nat → Int32} {i T : Nat} {k : LKont} {h m f c0 c1 x u : MM} (hi : i + 3 ≤ L) (hL : L ≤ 1536) (a : Rel T h m c0 c1 x) (hT : T ≤ 400000000) (hk : Nxt k i (T + 599500)) : D_L_law_2474 L xs k (I i) h m f c0 c1 x u = some () := by
  have hA := T_logEntry a.1 x h (xs (i + 1)) (xs (i + 2))
  rw [pw_self] at hA
  unfold D_L_law_2474 D_L_logEntry
  simp only [ixs1, ixs2, gdJ (show i + 1 < 2147483648 by omega) (show i + 1 < L by omega), I_tnc (show i + 1 < 2147483648 by omega), gdJ (show i + 2 < 2147483648 by omega) (show i + 2 < L by omega), I_tnc (show i + 2 < 2147483648 by omega)]
  exact la_A a hk hA (fun z => absurd rfl z) (fun _ => rfl)
theorem lw_2542 {L : Nat} {xs : Nat → Int32} {i T : Nat} {k : LKont} {h m f c0 c1 x u : MM} (hi : i + 3 ≤ L) (hL : L ≤ 1536) (a : Rel T h m c0 c1 x) (hT : T ≤ 400000000) (hk : Nxt k i (T + 599500)) : D_L_law_2542 L xs k (I i) h m f c0 c1 x u = some () := by
  have hA := T_actionsToEnd a.1 x h f a.2.1 hT
  rw [pw_self] at hA
  unfold D_L_law_2542
  exact la_P a hk hA
theorem lw_2555 {L : Nat} {xs : Nat → Int32} {i T : Nat} {k : LKont} {h m f c0 c1 x u : MM} (hi : i + 3 ≤ L) (hL : L ≤ 1536) (a : Rel T h m c0 c1 x) (hT : T ≤ 400000000) (hk : Nxt k i (T + 599500)) : D_L_law_2555 L xs k (I i) h m f c0 c1 x u = some () := by
  have hA := T_timeAtEnd a.1 x h f a.2.1
  rw [pw_self] at hA
  unfold D_L_law_2555
  exact la_P a hk hA
theorem lw_2568 {L : Nat} {xs : Nat → Int32} {i T : Nat} {k : LKont} {h m f c0 c1 x u : MM} (hi : i + 3 ≤ L) (hL : L ≤ 1536) (a : Rel T h m c0 c1 x) (hT : T ≤ 400000000) (hk : Nxt k i (T + 599500)) : D_L_law_2568 L xs k (I i) h m f c0 c1 x u = some () := by
  have hA := T_filledAtEnd a.1 x h f a.2.1
  rw [pw_self] at hA
  unfold D_L_law_2568
  exact la_P a hk hA
theorem lw_2581 {L : Nat} {xs : Nat → Int32} {i T : Nat} {k : LKont} {h m f c0 c1 x u : MM} (hi : i + 3 ≤ L) (hL : L ≤ 1536) (a : Rel T h m c0 c1 x) (hT : T ≤ 400000000) (hk : Nxt k i (T + 599500)) : D_L_law_2581 L xs k (I i) h m f c0 c1 x u = some () := by
  have hA := T_shortage a.1 x h (xs (i + 1))
  rw [pw_self] at hA
  unfold D_L_law_2581 D_L_shortage
  simp only [ixs1, gdJ (show i + 1 < 2147483648 by omega) (show i + 1 < L by omega), I_tnc (show i + 1 < 2147483648 by omega)]
  exact la_A a hk hA (fun _ => rfl) (fun z => absurd rfl z)
theorem lw_2637 {L : Nat} {xs : Nat → Int32} {i T : Nat} {k : LKont} {h m f c0 c1 x u : MM} (hi : i + 3 ≤ L) (hL : L ≤ 1536) (a : Rel T h m c0 c1 x) (hT : T ≤ 400000000) (hk : Nxt k i (T + 599500)) : D_L_law_2637 L xs k (I i) h m f c0 c1 x u = some () := by
  have hA := T_shortageFor a.1 x h (xs (i + 1)) (xs (i + 2))
  rw [pw_self] at hA
  unfold D_L_law_2637 D_L_shortageFor
  simp only [ixs1, ixs2, gdJ (show i + 1 < 2147483648 by omega) (show i + 1 < L by omega), I_tnc (show i + 1 < 2147483648 by omega), gdJ (show i + 2 < 2147483648 by omega) (show i + 2 < L by omega), I_tnc (show i + 2 < 2147483648 by omega)]
  exact la_A a hk hA (fun _ => rfl) (fun _ => rfl)
theorem lw_2705 {L : Nat} {xs : Nat → Int32} {i T : Nat} {k : LKont} {h m f c0 c1 x u : MM} (hi : i + 3 ≤ L) (hL : L ≤ 1536) (a : Rel T h m c0 c1 x) (hT : T ≤ 400000000) (hk : Nxt k i (T + 599500)) : D_L_law_2705 L xs k (I i) h m f c0 c1 x u = some () := by
  have hA := T_boardsPossible a.1 x h
  rw [pw_self] at hA
  unfold D_L_law_2705
  exact la_N a hk hA
theorem lw_2718 {L : Nat} {xs : Nat → Int32} {i T : Nat} {k : LKont} {h m f c0 c1 x u : MM} (hi : i + 3 ≤ L) (hL : L ≤ 1536) (a : Rel T h m c0 c1 x) (hT : T ≤ 400000000) (hk : Nxt k i (T + 599500)) : D_L_law_2718 L xs k (I i) h m f c0 c1 x u = some () := by
  unfold D_L_law_2718 D_L_runsOut
  simp only [ixs1, gdJ (show i + 1 < 2147483648 by omega) (show i + 1 < L by omega), I_tnc (show i + 1 < 2147483648 by omega)]
  rcases T_runsOut a.1 x h f (xs (i + 1)) with ⟨v, x', e1, e6, e2, fx⟩ | ⟨v, h', f', x', w', e1, e2, e6, ew, fh, fx⟩
  · rw [pw_self] at e2
    rw [e1, wL_0, b4_s, e2, b2_s, thd_eq, b1_s, gi_pw (by decide), e6, if_pos rfl, if_neg (by decide), bnd_s, ixs3]
    exact hk _ _ _ _ _ _ _ (a.rd (by omega) fx)
  · rw [pw_self] at e2
    rw [e1, wL_r, b4_s, e2, b2_s, thd_eq, b1_s, gi_pw (by decide), e6, if_pos rfl, if_pos rfl, gl_sl_eq, if_pos rfl, bnd_s, ixs3]
    exact hk _ _ _ _ _ _ _ (a.keep (by omega) (a.1.cg ew) (by rw [ew 23 (by omega)]; exact a.2.1.mono (by omega)) fh fx)
theorem lw_2774 {L : Nat} {xs : Nat → Int32} {i T : Nat} {k : LKont} {h m f c0 c1 x u : MM} (hi : i + 3 ≤ L) (hL : L ≤ 1536) (a : Rel T h m c0 c1 x) (hT : T ≤ 400000000) (hk : Nxt k i (T + 599500)) : D_L_law_2774 L xs k (I i) h m f c0 c1 x u = some () := by
  have hA := T_splicesAhead a.1 x h f a.2.1
  rw [pw_self] at hA
  unfold D_L_law_2774
  exact la_P a hk hA
theorem lw_2787 {L : Nat} {xs : Nat → Int32} {i T : Nat} {k : LKont} {h m f c0 c1 x u : MM} (hi : i + 3 ≤ L) (hL : L ≤ 1536) (a : Rel T h m c0 c1 x) (hT : T ≤ 400000000) (hk : Nxt k i (T + 599500)) : D_L_law_2787 L xs k (I i) h m f c0 c1 x u = some () := by
  have hA := T_bestRetries a.1 x h f a.2.1
  rw [pw_self] at hA
  unfold D_L_law_2787
  exact la_P a hk hA
theorem lw_2800 {L : Nat} {xs : Nat → Int32} {i T : Nat} {k : LKont} {h m f c0 c1 x u : MM} (hi : i + 3 ≤ L) (hL : L ≤ 1536) (a : Rel T h m c0 c1 x) (hT : T ≤ 400000000) (hk : Nxt k i (T + 599500)) : D_L_law_2800 L xs k (I i) h m f c0 c1 x u = some () := by
  have hA := T_dearestSpot a.1 x h f a.2.1 hT
  rw [pw_self] at hA
  unfold D_L_law_2800
  exact la_P a hk hA
theorem lw_2813 {L : Nat} {xs : Nat → Int32} {i T : Nat} {k : LKont} {h m f c0 c1 x u : MM} (hi : i + 3 ≤ L) (hL : L ≤ 1536) (a : Rel T h m c0 c1 x) (hT : T ≤ 400000000) (hk : Nxt k i (T + 599500)) : D_L_law_2813 L xs k (I i) h m f c0 c1 x u = some () := by
  have hA := T_bestSwap a.1 x h f a.2.1
  rw [pw_self] at hA
  unfold D_L_law_2813
  exact la_P a hk hA
theorem lw_2826 {L : Nat} {xs : Nat → Int32} {i T : Nat} {k : LKont} {h m f c0 c1 x u : MM} (hi : i + 3 ≤ L) (hL : L ≤ 1536) (a : Rel T h m c0 c1 x) (hT : T ≤ 400000000) (hk : Nxt k i (T + 599500)) : D_L_law_2826 L xs k (I i) h m f c0 c1 x u = some () := by
  have hA := T_changesAhead a.1 x h f a.2.1
  rw [pw_self] at hA
  unfold D_L_law_2826
  exact la_P a hk hA
theorem lw_2839 {L : Nat} {xs : Nat → Int32} {i T : Nat} {k : LKont} {h m f c0 c1 x u : MM} (hi : i + 3 ≤ L) (hL : L ≤ 1536) (a : Rel T h m c0 c1 x) (hT : T ≤ 400000000) (hk : Nxt k i (T + 599500)) : D_L_law_2839 L xs k (I i) h m f c0 c1 x u = some () := by
  have hA := T_cleansAhead a.1 x h f a.2.1
  rw [pw_self] at hA
  unfold D_L_law_2839
  exact la_P a hk hA
theorem lw_2852 {L : Nat} {xs : Nat → Int32} {i T : Nat} {k : LKont} {h m f c0 c1 x u : MM} (hi : i + 3 ≤ L) (hL : L ≤ 1536) (a : Rel T h m c0 c1 x) (hT : T ≤ 400000000) (hk : Nxt k i (T + 599500)) : D_L_law_2852 L xs k (I i) h m f c0 c1 x u = some () := by
  unfold D_L_law_2852 D_L_saveSnapshot
  simp only [ixs1, gdJ (show i + 1 < 2147483648 by omega) (show i + 1 < L by omega), I_tnc (show i + 1 < 2147483648 by omega)]
  rcases T_save a.1 x h c0 c1 a.2.1 a.2.2.2.2 (xs (i + 1)) with ⟨v, x', e1, e2, e6, fx⟩ | ⟨v, h', c0', c1', x', e1, e2, e6, e3, e4, e5⟩
  · rw [pw_self] at e2
    rw [e1, wL_1, b5_s, e2, b2_s, thd_eq, b1_s, gi_pw (by decide), e6, if_pos rfl, if_neg (by decide), bnd_s, ixs3]
    exact hk _ _ _ _ _ _ _ (a.rd (by omega) fx)
  · rw [pw_self] at e2
    rw [e1, wL_r, b5_s, e2, b2_s, thd_eq, b1_s, gi_pw (by decide), e6, if_pos rfl, if_pos rfl, gl_sl_eq, if_pos rfl, bnd_s, ixs3]
    refine hk _ _ _ _ _ _ _ ⟨by rw [rw1_pw]; exact a.1, by rw [rw1_pw]; exact a.2.1.mono (by omega), a.2.2.1.cg (e4 0 1 (by omega)) (fun k => e4 5 k (by omega)) (by rw [gi_pw (by decide)]; exact e5 0 8 (by omega)) (fun k => by rw [gi_pw (by decide)]; exact e5 7 k (by omega)), ?_, e3.cg (by omega) (fun k => rfl) (fun q k h1 h2 => gi_pw (by omega) k)⟩
    rw [gi_pw (by decide), e5 0 13 (by omega), e4 0 2 (by omega)]
    exact a.2.2.2.1
theorem lw_2908 {L : Nat} {xs : Nat → Int32} {i T : Nat} {k : LKont} {h m f c0 c1 x u : MM} (hi : i + 3 ≤ L) (hL : L ≤ 1536) (a : Rel T h m c0 c1 x) (hT : T ≤ 400000000) (hk : Nxt k i (T + 599500)) : D_L_law_2908 L xs k (I i) h m f c0 c1 x u = some () := by
  unfold D_L_law_2908 D_L_restoreSnapshot
  simp only [ixs1, gdJ (show i + 1 < 2147483648 by omega) (show i + 1 < L by omega), I_tnc (show i + 1 < 2147483648 by omega)]
  rcases T_restore a.1 x h c0 c1 a.2.1 a.2.2.2.2 (xs (i + 1)) with ⟨v, x', e1, e2, e6, fx⟩ | ⟨v, m', x', w', e1, e2, e6, e3, e4, fx⟩
  · rw [pw_self] at e2
    rw [e1, wL_1, b3_s, e2, b2_s, thd_eq, b1_s, gi_pw (by decide), e6, if_pos rfl, if_neg (by decide), bnd_s, ixs3]
    exact hk _ _ _ _ _ _ _ (a.rd (by omega) fx)
  · rw [pw_self] at e2
    rw [e1, wL_r, b3_s, e2, b2_s, thd_eq, b1_s, gi_pw (by decide), e6, if_pos rfl, if_pos rfl, gl_sl_eq, if_pos rfl, bnd_s, ixs3]
    exact hk _ _ _ _ _ _ _ (a.keep (by omega) e3 (e4.mono (by omega)) (HF.rf h) fx)
