/-! PROPERTY: the law's text, loaded -/
set_option maxHeartbeats 4000000 in
set_option maxRecDepth 100000 in
theorem tZ_0 (D : va_G) : tZ D = Kp [109, 97, 99, 104, 105, 110, 101] :: (Np [(1 + cv D 0 % 3), (5 + cv D 1 % 40)] ++ (Kp [59, 118, 105, 115, 105, 111, 110] :: (Np [(50 + cv D 2 % 40), 10, (cv D 3 % 3)] ++ (Kp [59, 110, 111, 122, 122, 108, 101, 115] :: (Np [2, 1] ++ (Kp [59, 107, 105, 110, 100] :: (Np [0] ++ (Kp [59, 107, 105, 110, 100] :: (Np [1] ++ (Kp [59, 107, 105, 110, 100] :: (Np [0] ++ (Kp [59, 115, 101, 101, 100] :: (Np [(cv D 4)] ++ (Kp [59, 102, 101, 101, 100, 101, 114] :: (Np [0, (cv D (5 + 0) % 1000), (cv D (8 + 0) % 8), (cv D (11 + 0) % 40)] ++ (Kp [59, 102, 101, 101, 100, 101, 114] :: (Np [1, (cv D (5 + 1) % 1000), (cv D (8 + 1) % 8), (cv D (11 + 1) % 40)] ++ (Kp [59, 102, 101, 101, 100, 101, 114] :: (Np [2, (cv D (5 + 2) % 1000), (cv D (8 + 2) % 8), (cv D (11 + 2) % 40)] ++ (Kp [59, 115, 112, 111, 116] :: (Np [0, (cv D (14 + 0) % 1000), (cv D (20 + 0) % 1000)] ++ (Kp [59, 115, 112, 111, 116] :: (Np [1, (cv D (14 + 1) % 1000), (cv D (20 + 1) % 1000)] ++ (Kp [59, 115, 112, 111, 116] :: (Np [2, (cv D (14 + 2) % 1000), (cv D (20 + 2) % 1000)] ++ (Kp [59, 115, 112, 111, 116] :: (Np [0, (cv D (14 + 3) % 1000), (cv D (20 + 3) % 1000)] ++ (Kp [59, 115, 112, 111, 116] :: (Np [1, (cv D (14 + 4) % 1000), (cv D (20 + 4) % 1000)] ++ (Kp [59, 115, 112, 111, 116] :: (Np [2, (cv D (14 + 5) % 1000), (cv D (20 + 5) % 1000)] ++ (Kp [59, 97, 108, 97, 114, 109] :: (Np [(cv D 26 % 4)] ++ (Kp [59, 119, 101, 97, 114] :: (Np [(cv D 27 % 4), 30, (cv D 28 % 30)] ++ []))))))))))))))))))))))))))))))))))) := by
  unfold tZ
  simp only [tB, foP, soP, sp16, sp17, sp18, sp19, sp20, sp21, sp22, sp23, sp24, sp25, sp26, Np, List.cons_append, List.nil_append, List.append_assoc, List.append_nil, Nat.reduceMod, Nat.reduceAdd, Nat.zero_mod]
set_option maxHeartbeats 4000000 in
set_option maxRecDepth 100000 in
theorem tZ_1 (D : va_G) : tZ D ++ sp26 = Kp [109, 97, 99, 104, 105, 110, 101] :: (Np [(1 + cv D 0 % 3), (5 + cv D 1 % 40)] ++ (Kp [59, 118, 105, 115, 105, 111, 110] :: (Np [(50 + cv D 2 % 40), 10, (cv D 3 % 3)] ++ (Kp [59, 110, 111, 122, 122, 108, 101, 115] :: (Np [2, 1] ++ (Kp [59, 107, 105, 110, 100] :: (Np [0] ++ (Kp [59, 107, 105, 110, 100] :: (Np [1] ++ (Kp [59, 107, 105, 110, 100] :: (Np [0] ++ (Kp [59, 115, 101, 101, 100] :: (Np [(cv D 4)] ++ (Kp [59, 102, 101, 101, 100, 101, 114] :: (Np [0, (cv D (5 + 0) % 1000), (cv D (8 + 0) % 8), (cv D (11 + 0) % 40)] ++ (Kp [59, 102, 101, 101, 100, 101, 114] :: (Np [1, (cv D (5 + 1) % 1000), (cv D (8 + 1) % 8), (cv D (11 + 1) % 40)] ++ (Kp [59, 102, 101, 101, 100, 101, 114] :: (Np [2, (cv D (5 + 2) % 1000), (cv D (8 + 2) % 8), (cv D (11 + 2) % 40)] ++ (Kp [59, 115, 112, 111, 116] :: (Np [0, (cv D (14 + 0) % 1000), (cv D (20 + 0) % 1000)] ++ (Kp [59, 115, 112, 111, 116] :: (Np [1, (cv D (14 + 1) % 1000), (cv D (20 + 1) % 1000)] ++ (Kp [59, 115, 112, 111, 116] :: (Np [2, (cv D (14 + 2) % 1000), (cv D (20 + 2) % 1000)] ++ (Kp [59, 115, 112, 111, 116] :: (Np [0, (cv D (14 + 3) % 1000), (cv D (20 + 3) % 1000)] ++ (Kp [59, 115, 112, 111, 116] :: (Np [1, (cv D (14 + 4) % 1000), (cv D (20 + 4) % 1000)] ++ (Kp [59, 115, 112, 111, 116] :: (Np [2, (cv D (14 + 5) % 1000), (cv D (20 + 5) % 1000)] ++ (Kp [59, 97, 108, 97, 114, 109] :: (Np [(cv D 26 % 4)] ++ (Kp [59, 119, 101, 97, 114] :: (Np [(cv D 27 % 4), 30, (cv D 28 % 30)] ++ (Kp [59, 98, 101, 102, 111, 114, 101] :: (Np [0, 4] ++ (Kp [59, 98, 101, 102, 111, 114, 101] :: (Np [4, 2] ++ []))))))))))))))))))))))))))))))))))))))) := by
  unfold tZ
  simp only [tB, foP, soP, sp16, sp17, sp18, sp19, sp20, sp21, sp22, sp23, sp24, sp25, sp26, Np, List.cons_append, List.nil_append, List.append_assoc, List.append_nil, Nat.reduceMod, Nat.reduceAdd, Nat.zero_mod]
theorem wQ_lo {w : Nat → Int32} {i : Nat} (h : i < 600) (h20 : i ≠ 20) : wQ w i = w i := by
  unfold wQ
  rw [upd_ne (by omega), upd_ne (by omega), upd_ne (by omega), upd_ne (by omega), upd_ne (by omega), upd_ne (by omega)]
theorem txt_reads {D : va_G} (hL : sL D ≤ 260) {n : Nat} {f : Nat → Int32} (h : Hst n f (txt D)) (hn : n ≤ 370) : ∃ (T : Nat → Nat) (w : Nat → Int32) (S : Nat), Tok n T ∧ (∀ j : Nat, j < n → f j = I (T j) ∧ 1 ≤ T j ∧ T j ≤ 127) ∧ (∀ x : MM, Xs n T 0 wB x → ∃ x' : MM, D_X10_readsAll x = some (1, x') ∧ Xs n T n w x') ∧ (1 ≤ S ∧ S ≤ 3) ∧ (∀ N : Nat → Nat, N 0 = 2 → N 1 = 1 → Inv N 0 w) ∧ (w 15 = I S ∧ w 16 = I 2 ∧ w 17 = I 3 ∧ w 18 = I 3 ∧ w 19 = I 6) := by
  have c : ∀ i : Nat, i < 100 → cv D i < 100000 := fun i hi => (cv_s hL (by omega)).1
  obtain ⟨T, e, ft⟩ := h
  have ht : Tok n T := ⟨by omega, fun k hk => by have := e k hk; omega⟩
  have h2 : 1 ≤ 5 + cv D 1 % 40 ∧ 5 + cv D 1 % 40 ≤ 50 := by omega
  have h3 : 50 + cv D 2 % 40 ≤ 90 := by omega
  have h4 : cv D 3 % 3 ≤ 5 := by omega
  have h5 : cv D 4 ≤ 999999 := by have := c 4 (by omega); omega
  have p1 : ∀ k : Nat, cv D (5 + k) % 1000 ≤ 999 := fun k => by omega
  have p2 : ∀ k : Nat, cv D (8 + k) % 8 ≤ 500 := fun k => by omega
  have p3 : ∀ k : Nat, cv D (11 + k) % 40 ≤ 100 := fun k => by omega
  have p4 : ∀ k : Nat, cv D (14 + k) % 1000 ≤ 999 := fun k => by omega
  have p5 : ∀ k : Nat, cv D (20 + k) % 1000 ≤ 999 := fun k => by omega
  unfold txt at ft
  by_cases c9 : cv D 29 % 2 = 0
  · rw [if_pos c9, tZ_1] at ft
    refine ⟨T, wQ (wZ (1 + cv D 0 % 3) (5 + cv D 1 % 40) (50 + cv D 2 % 40) (cv D 3 % 3) (cv D 4) (fun k => cv D (5 + k) % 1000) (fun k => cv D (8 + k) % 8) (fun k => cv D (11 + k) % 40) (fun k => cv D (14 + k) % 1000) (fun k => cv D (20 + k) % 1000) (cv D 26 % 4) (cv D 27 % 4) (cv D 28 % 30)), 1 + cv D 0 % 3, ht, e, fun x hx => ?_, by omega, fun N n0 n1 => inv_rowQ n0 n1 _ _ _ _ _ _ _ _ _ _ _ _ (by omega) (fun k _ => p2 k), ?_, ?_, ?_, ?_, wQ_19 _ _ _ _ _ _ _ _ _ _ _ _ _⟩
    · exact text_1 ht (1 + cv D 0 % 3) (5 + cv D 1 % 40) (50 + cv D 2 % 40) (cv D 3 % 3) (cv D 4) (fun k => cv D (5 + k) % 1000) (fun k => cv D (8 + k) % 8) (fun k => cv D (11 + k) % 40) (fun k => cv D (14 + k) % 1000) (fun k => cv D (20 + k) % 1000) (cv D 26 % 4) (cv D 27 % 4) (cv D 28 % 30) (by omega) h2 h3 h4 h5 p1 p2 p3 p4 p5 (by omega) (by omega) (by omega) hx ft
    · rw [wQ_lo (by omega) (by omega)]
      exact wZ_15 _ _ _ _ _ _ _ _ _ _ _ _ _
    · rw [wQ_lo (by omega) (by omega)]
      exact wZ_16 _ _ _ _ _ _ _ _ _ _ _ _ _
    · rw [wQ_lo (by omega) (by omega)]
      exact wZ_17 _ _ _ _ _ _ _ _ _ _ _ _ _
    · rw [wQ_lo (by omega) (by omega)]
      exact wZ_18 _ _ _ _ _ _ _ _ _ _ _ _ _
  · rw [if_neg c9, tZ_0] at ft
    refine ⟨T, wZ (1 + cv D 0 % 3) (5 + cv D 1 % 40) (50 + cv D 2 % 40) (cv D 3 % 3) (cv D 4) (fun k => cv D (5 + k) % 1000) (fun k => cv D (8 + k) % 8) (fun k => cv D (11 + k) % 40) (fun k => cv D (14 + k) % 1000) (fun k => cv D (20 + k) % 1000) (cv D 26 % 4) (cv D 27 % 4) (cv D 28 % 30), 1 + cv D 0 % 3, ht, e, fun x hx => ?_, by omega, fun N n0 n1 => inv_row n0 n1 _ _ _ _ _ _ _ _ _ _ _ _ (by omega) (fun k _ => p2 k), wZ_15 _ _ _ _ _ _ _ _ _ _ _ _ _, wZ_16 _ _ _ _ _ _ _ _ _ _ _ _ _, wZ_17 _ _ _ _ _ _ _ _ _ _ _ _ _, wZ_18 _ _ _ _ _ _ _ _ _ _ _ _ _, wZ_19 _ _ _ _ _ _ _ _ _ _ _ _ _⟩
    exact text_0 ht (1 + cv D 0 % 3) (5 + cv D 1 % 40) (50 + cv D 2 % 40) (cv D 3 % 3) (cv D 4) (fun k => cv D (5 + k) % 1000) (fun k => cv D (8 + k) % 8) (fun k => cv D (11 + k) % 40) (fun k => cv D (14 + k) % 1000) (fun k => cv D (20 + k) % 1000) (cv D 26 % 4) (cv D 27 % 4) (cv D 28 % 30) (by omega) h2 h3 h4 h5 p1 p2 p3 p4 p5 (by omega) (by omega) (by omega) hx ft
/-- the text is loaded -/
theorem txt_loaded {D : va_G} (hL : sL D ≤ 260) {n : Nat} {f : Nat → Int32} (h : Hst n f (txt D)) (hn : n ≤ 370) {mI fm : MM} (hI : Cq mI 1 10) : ∃ (T : Nat → Nat) (w : Nat → Int32) (S : Nat), (∀ j : Nat, j < n → f j = I (T j) ∧ 1 ≤ T j ∧ T j ≤ 127) ∧ (1 ≤ S ∧ S ≤ 3) ∧ ∀ h1 : MM, gi h1 0 1 = I n → (∀ i : Nat, i < n → gi h1 5 i = b8 (T i)) → ∃ (rr : Int32) (h' m' f' : MM), D_X9_load h1 mI fm = some (rr, h', m', f') ∧ rr = 6 ∧ ∀ N : Nat → Nat, N 0 = 2 → N 1 = 1 → Sta S N m' w := by
  obtain ⟨T, w, S, t1, t2, t3, t4, t5, t6⟩ := txt_reads hL h hn
  obtain ⟨r1, -⟩ := init_R (m := mI) (w := fun i => if i = 15 then I 1 else if i = 0 then I 10 else wB i) (s := 1) (v := 10) hI (by omega) (by omega) (by omega) (by omega) (fun i _ => rfl)
  refine ⟨T, w, S, t2, t4, fun h1 e1 e5 => ?_⟩
  obtain ⟨h', m', f', k1, k2, -⟩ := load_in_order r1 fm t1 e1 e5 t3
  exact ⟨w 19, h', m', f', k1, t6.2.2.2.2, fun N n0 n1 => ⟨k2, t5 N n0 n1, t6⟩⟩
