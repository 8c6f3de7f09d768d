/-! PURE: the law, its loop -/
theorem lw_sw {L : Nat} {xs : Nat → Int32} {i T : Nat} {k : LKont} {h m f c0 c1 x u : MM} (v : Int32) (hi : i + 3 ≤ L) (hL : L ≤ 1536) (a : Rel T h m c0 c1 x) (hT : T ≤ 400000000) (hk : Nxt k i (T + 599500)) : D_L_sw L xs k v (I i) h m f c0 c1 x u = some () := by
  have hd : bnd (I i + (3 : Int32)) (fun v1 => k v1 h m f c0 c1 x u) = some () := by
    rw [bnd_s, ixs3]
    exact hk _ _ _ _ _ _ _ (a.up (by omega))
  unfold D_L_sw
  exact (ifs_lt hd (ifs_lt hd (ifs_le (ifs_le (ifs_le (ifs_le (ifs_le (ifs_le (lw_300 hi hL a hT hk) (lw_357 hi hL a hT hk)) (ifs_le (lw_370 hi hL a hT hk) (lw_383 hi hL a hT hk))) (ifs_le (ifs_le (lw_439 hi hL a hT hk) (lw_495 hi hL a hT hk)) (ifs_le (lw_563 hi hL a hT hk) (lw_631 hi hL a hT hk)))) (ifs_le (ifs_le (ifs_le (lw_687 hi hL a hT hk) (lw_743 hi hL a hT hk)) (ifs_le (lw_811 hi hL a hT hk) (lw_879 hi hL a hT hk))) (ifs_le (ifs_le (lw_935 hi hL a hT hk) (lw_1003 hi hL a hT hk)) (ifs_le (lw_1071 hi hL a hT hk) (lw_1127 hi hL a hT hk))))) (ifs_le (ifs_le (ifs_le (ifs_le (lw_1195 hi hL a hT hk) (lw_1286 hi hL a hT hk)) (ifs_le (lw_1342 hi hL a hT hk) (lw_1410 hi hL a hT hk))) (ifs_le (ifs_le (lw_1485 hi hL a hT hk) (lw_1540 hi hL a hT hk)) (ifs_le (lw_1596 hi hL a hT hk) (lw_1610 hi hL a hT hk)))) (ifs_le (ifs_le (ifs_le (lw_1624 hi hL a hT hk) (lw_1637 hi hL a hT hk)) (ifs_le (lw_1650 hi hL a hT hk) (lw_1718 hi hL a hT hk))) (ifs_le (ifs_le (lw_1786 hi hL a hT hk) (lw_1842 hi hL a hT hk)) (lw_1910 hi hL a hT hk))))) (ifs_le (ifs_le (ifs_le (ifs_le (ifs_le (lw_1966 hi hL a hT hk) (lw_2022 hi hL a hT hk)) (ifs_le (lw_2035 hi hL a hT hk) (lw_2048 hi hL a hT hk))) (ifs_le (ifs_le (lw_2104 hi hL a hT hk) (lw_2117 hi hL a hT hk)) (ifs_le (lw_2130 hi hL a hT hk) (lw_2198 hi hL a hT hk)))) (ifs_le (ifs_le (ifs_le (lw_2211 hi hL a hT hk) (lw_2224 hi hL a hT hk)) (ifs_le (lw_2280 hi hL a hT hk) (lw_2336 hi hL a hT hk))) (ifs_le (ifs_le (lw_2392 hi hL a hT hk) (lw_2448 hi hL a hT hk)) (ifs_le (lw_2461 hi hL a hT hk) (lw_2474 hi hL a hT hk))))) (ifs_le (ifs_le (ifs_le (ifs_le (lw_2542 hi hL a hT hk) (lw_2555 hi hL a hT hk)) (ifs_le (lw_2568 hi hL a hT hk) (lw_2581 hi hL a hT hk))) (ifs_le (ifs_le (lw_2637 hi hL a hT hk) (lw_2705 hi hL a hT hk)) (ifs_le (lw_2718 hi hL a hT hk) (lw_2774 hi hL a hT hk)))) (ifs_le (ifs_le (ifs_le (lw_2787 hi hL a hT hk) (lw_2800 hi hL a hT hk)) (ifs_le (lw_2813 hi hL a hT hk) (lw_2826 hi hL a hT hk))) (ifs_le (ifs_le (lw_2839 hi hL a hT hk) (lw_2852 hi hL a hT hk)) (lw_2908 hi hL a hT hk))))))))
theorem lw_all {L : Nat} (hL : L ≤ 1536) (xs : Nat → Int32) : ∀ (n j : Nat) (h m f c0 c1 x u : MM), 3 * j ≤ L → L + 3 ≤ 3 * (j + n) → Rel (599500 * j) h m c0 c1 x → D_L_law L xs n (I (3 * j)) h m f c0 c1 x u = some () := by
  intro n
  induction n with
  | zero => intro j h m f c0 c1 x u h1 h2; omega
  | succ n ih =>
    intro j h m f c0 c1 x u h1 h2 a
    show (if Int32.ofNat L - (3 : Int32) < I (3 * j) then some () else (if I (3 * j) < 0 ∨ L ≤ (I (3 * j)).toNatClampNeg then none else (bnd ((xs (I (3 * j)).toNatClampNeg) &&& (63 : Int32)) (fun v => D_L_sw L xs (D_L_law L xs n) v (I (3 * j)) h m f c0 c1 x u)))) = some ()
    by_cases c : Int32.ofNat L - (3 : Int32) < I (3 * j)
    · rw [if_pos c]
    · have hi : 3 * j + 3 ≤ L := by
        rw [Int32.lt_iff_toInt_lt, I_toInt (by omega)] at c
        have e : (Int32.ofNat L - (3 : Int32)).toInt = (L : Int) - 3 := by
          rw [Int32.toInt_sub, show (Int32.ofNat L).toInt = (L : Int) from I_toInt (by omega)]
          exact Int.bmod_eq_of_le (by show -(2 ^ 32 / 2 : Int) ≤ (L : Int) - 3; omega) (by show (L : Int) - 3 < (2 ^ 32 + 1) / 2; omega)
        rw [e] at c
        omega
      rw [if_neg c, gdI (by omega) (by omega), bnd_s]
      refine lw_sw _ hi hL a (by omega) (fun h' m' f' c0' c1' x' u' a' => ?_)
      exact ih (j + 1) h' m' f' c0' c1' x' u' (by omega) (by omega) (by rw [show 599500 * (j + 1) = 599500 * j + 599500 by omega]; exact a')
/-- the law comes to its end with true -/
theorem whole_start {p : Program} {e : Env} {s : State} {m : MethodId} {below : List Frame} {meth : Method} {c : Code} (l : Launch) (hflags : l.flags = flags0) {b : Nat} {xs : List Int32} (hbd : xs.length ≤ 1536) (C0 : lw_At p s m meth c b xs.length (fun j => xs.getD j 0)) : W p l e room_1 s m #[Value.ref b] below meth c s.heap [] 0 0 (lw_Z below #[Value.ref b] s) (entryFrame m ([Value.ref b] : List Value).toArray 8) := by
  obtain ⟨mI, i1, i2⟩ := clear_s zM
  obtain ⟨xI, b1, b2, b3⟩ := begins_x 1 zM
  have hrow : ∀ i : Nat, i < 640 → rw1 (si (si xI 1 15 1) 1 0 10) i = if i = 15 then I 1 else if i = 0 then I 10 else wB i := fun i hi => by
    show gi (si (si xI 1 15 1) 1 0 10) 1 i = _
    by_cases e0 : i = 0
    · subst e0
      rw [gi_si_eq]
      rfl
    · rw [gi_si_ne (by omega)]
      by_cases e15 : i = 15
      · subst e15
        rw [gi_si_eq, if_pos rfl]
        rfl
      · rw [gi_si_ne (by omega), if_neg e15, if_neg e0]
        exact b2 i hi
  obtain ⟨r1, r2⟩ := init_R (m := mI) (s := 1) (v := 10) i2 (by omega) (by omega) (by omega) (by omega) hrow
  have o : ∀ q k : Nat, q ≠ 1 → gi (si (si xI 1 15 1) 1 0 10) q k = 0 := fun q k hq => by
    rw [gi_si_ne (by omega), gi_si_ne (by omega), b3 q k hq]
    rfl
  have a : Rel (599500 * 0) zM mI mI mI (si (si xI 1 15 1) 1 0 10) := by
    refine ⟨r1, by rw [r2.1]; exact Rn.z, ⟨0, by omega, rfl, o 0 8 (by omega), fun k hk => by omega⟩, (o 0 13 (by omega)).symm, ⟨(o 6 0 (by omega)).symm, (o 6 1 (by omega)).symm⟩, fun z => absurd rfl z, fun z => absurd rfl z⟩
  exact law_ends l hflags C0 i1 b1 rfl rfl (lw_all hbd _ 5000 0 zM mI mI mI mI _ zM (by omega) (by omega) a)
