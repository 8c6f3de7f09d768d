/-! the builder's methods -/
theorem huJ0 : ∀ w ∈ u_ws RJ0 TJ0 4, w ∈ TBL := by decide +kernel
theorem huJ4 : ∀ w ∈ u_ws RJ4 TJ4 4, w ∈ TBL := by decide +kernel
theorem dfJ0 : ∀ j : Nat, j < 4 → defaultValue (tyJ0 j) = vp_V [.null, .int 0, .int 0, .int 0] j := fun j hj => by
  rcases (show j = 0 ∨ j = 1 ∨ j = 2 ∨ j = 3 by omega) with rfl | rfl | rfl | rfl <;> rfl
theorem dfJ4 : ∀ j : Nat, j < 4 → defaultValue (tyJ4 j) = vp_V [.null, .int 0, .int 0, .int 0] j := fun j hj => by
  rcases (show j = 0 ∨ j = 1 ∨ j = 2 ∨ j = 3 by omega) with rfl | rfl | rfl | rfl <;> rfl
theorem I_max {a b : Nat} (ha : a < 2147483648) (hb : b < 2147483648) : I (max a b) = if I a < I b then I b else I a := by
  by_cases h : a < b
  · rw [if_pos ((I_lt ha hb).mpr h), Nat.max_eq_right (by omega)]
  · rw [if_neg (fun z => h ((I_lt ha hb).mp z)), Nat.max_eq_left (by omega)]
theorem I_min {a b : Nat} (ha : a < 2147483648) (hb : b < 2147483648) (h : a ≤ b) : I a = if I b < I a then I b else I a := by
  rw [if_neg (fun z => by have := (I_lt hb ha).mp z; omega)]
theorem cap_eq {m q : Nat} (h : m < q) : sb_cap q m = m + max (q - m) (m + 2) := by
  unfold sb_cap
  rw [if_neg (by omega)]
  split <;> omega
theorem cap_le {m q : Nat} (h : m < q) (hq : q ≤ 1000) : sb_cap q m ≤ 2002 ∧ q ≤ sb_cap q m ∧ m < sb_cap q m := by
  rw [cap_eq h]
  omega
theorem sub_le0 {q m : Nat} (hq : q < 100000) (hm : m < 100000) (h : q ≤ m) : I q - I m ≤ 0 := by
  rw [Int32.le_iff_toInt_le, Int32.toInt_sub, I_toInt (by omega), I_toInt (by omega)]
  show ((q : Int) - (m : Int)).bmod (2 ^ 32) ≤ 0
  rw [Int.bmod_eq_of_le (by omega) (by omega)]
  omega
set_option maxHeartbeats 8000000 in
set_option maxRecDepth 100000 in
theorem k_J5_isLatin1_aae02 (l : Launch) {D : va_G} {cs : Nat → ClassId} (b a n m : Nat) (f : Nat → Int32) : CtG l yJ5_isLatin1_aae02 cJ5_isLatin1_aae02 1 (some .boolean) 0 0 0 0 D cs X0 [.ref b] [(b, .inr (11, [.ref a, .int 0, .int 0, .int (I n)])), (a, .inl (cs 0, m, .inl f))] (fun rv w1 => rv = some (.int 1) ∧ w1 = [(b, .inr (11, [.ref a, .int 0, .int 0, .int (I n)])), (a, .inl (cs 0, m, .inl f))]) := by
  refine CtG.ofW (by decide) (Nat.le_of_ble_eq_true rfl) ?_
  intro p e s m0 below meth c A Q ls args Fl0 hr hlocks hP hD hXs hS hA hl hmn hret
  obtain ⟨hx, hb, hml, hown, hT, hK, hSS⟩ := id Fl0
  have hown : s.vm.findClass RJ5 = some m0.cls := hown
  have hl : lv_has ls 1 [(0, .ref b)] := hl
  refine rgz hx hb hSS hS hown (hT _ tw_4_39) dJ5_isLatin1_aae02_0 ?_
  refine lv_if_eq (tgt := 17) hx hb dJ5_isLatin1_aae02_3 (by decide) (fun c => absurd c (by decide)) (fun _ => ?_)
  refine lv_aload_n hx hb dJ5_isLatin1_aae02_6 rfl (lv_at hl 0 rfl) ?_
  refine va_get (C := RJ4) (T := TJ4) (N := 4) hx hb hT huJ4 hown hK.1 hP 0 rfl rfl 1 (by decide) (hT _ tw_4_48) (fun _ h9 => h9) (v := .int 0) rfl dJ5_isLatin1_aae02_7 ?_
  refine lv_if_ne (tgt := 17) hx hb dJ5_isLatin1_aae02_10 (by decide) (fun c => absurd c (by decide)) (fun _ => ?_)
  refine lv_iconst (v := (1 : Int32)) hx hb dJ5_isLatin1_aae02_13 (by decide) ?_
  refine lv_goto (tgt := 18) hx hb dJ5_isLatin1_aae02_14 (by decide) ?_
  exact hret _ _ _ _ _ _ _ ⟨rfl, rfl⟩ hP hD hS (Nat.le_of_ble_eq_true rfl) (Nat.le_of_ble_eq_true rfl) (fun Qc hq => W.zret hx hb hr rfl hq hS.2.2 dJ5_isLatin1_aae02_18 hlocks)

set_option maxHeartbeats 8000000 in
set_option maxRecDepth 100000 in
theorem k_J5_length_8abf5 (l : Launch) {D : va_G} {cs : Nat → ClassId} (b a n m : Nat) (f : Nat → Int32) : CtG l yJ5_length_8abf5 cJ5_length_8abf5 1 (some .int) 0 0 0 0 D cs X0 [.ref b] [(b, .inr (11, [.ref a, .int 0, .int 0, .int (I n)])), (a, .inl (cs 0, m, .inl f))] (fun rv w1 => rv = some (.int (I n)) ∧ w1 = [(b, .inr (11, [.ref a, .int 0, .int 0, .int (I n)])), (a, .inl (cs 0, m, .inl f))]) := by
  refine CtG.ofW (by decide) (Nat.le_of_ble_eq_true rfl) ?_
  intro p e s m0 below meth c A Q ls args Fl0 hr hlocks hP hD hXs hS hA hl hmn hret
  obtain ⟨hx, hb, hml, hown, hT, hK, hSS⟩ := id Fl0
  have hown : s.vm.findClass RJ5 = some m0.cls := hown
  have hl : lv_has ls 1 [(0, .ref b)] := hl
  refine lv_aload_n hx hb dJ5_length_8abf5_0 rfl (lv_at hl 0 rfl) ?_
  refine va_get (C := RJ4) (T := TJ4) (N := 4) hx hb hT huJ4 hown hK.1 hP 0 rfl rfl 3 (by decide) (hT _ tw_4_50) (fun _ h9 => h9) (v := .int (I n)) rfl dJ5_length_8abf5_1 ?_
  exact hret _ _ _ _ _ _ _ ⟨rfl, rfl⟩ hP hD hS (Nat.le_of_ble_eq_true rfl) (Nat.le_of_ble_eq_true rfl) (fun Qc hq => W.iret hx hb hr hq hS.2.2 dJ5_length_8abf5_4 hlocks)

set_option maxHeartbeats 8000000 in
set_option maxRecDepth 100000 in
theorem k_J4_length_8abf5 (l : Launch) {D : va_G} {cs : Nat → ClassId} (b a n m : Nat) (f : Nat → Int32) : CtG l yJ4_length_8abf5 cJ4_length_8abf5 1 (some .int) 1 60 0 0 D cs X0 [.ref b] [(b, .inr (11, [.ref a, .int 0, .int 0, .int (I n)])), (a, .inl (cs 0, m, .inl f))] (fun rv w1 => rv = some (.int (I n)) ∧ w1 = [(b, .inr (11, [.ref a, .int 0, .int 0, .int (I n)])), (a, .inl (cs 0, m, .inl f))]) := by
  refine CtG.ofW (by decide) (Nat.le_of_ble_eq_true rfl) ?_
  intro p e s m0 below meth c A Q ls args Fl0 hr hlocks hP hD hXs hS hA hl hmn hret
  obtain ⟨hx, hb, hml, hown, hT, hK, hSS⟩ := id Fl0
  have hown : s.vm.findClass RJ4 = some m0.cls := hown
  have hl : lv_has ls 1 [(0, .ref b)] := hl
  refine lv_aload_n hx hb dJ4_length_8abf5_0 rfl (lv_at hl 0 rfl) ?_
  have hP : va_P D vwCl ([(b, .inr (11, [.ref a, .int 0, .int 0, .int (I n)])), (a, .inl (cs 0, m, .inl f))] ++ []) _ := hP
  have hD : va_D A ([(b, .inr (11, [.ref a, .int 0, .int 0, .int (I n)])), (a, .inl (cs 0, m, .inl f))] ++ []) := hD
  refine ggU2 (C := RJ4) (As := []) (rest := []) (wc := [(b, .inr (11, [.ref a, .int 0, .int 0, .int (I n)])), (a, .inl (cs 0, m, .inl f))]) (wr := []) Fl0 (hK.1.1 11 _ rfl).2 (k_J5_length_8abf5 l b a n m f) X0_fz trivial hP hD hS hA (va_recv hK.1 hP rfl (q0 := 0) rfl) tw_4_219 tw_4_218 tw_4_214 tw_4_59 tw_4_213 tw_1_13 (by decide) yd_J5_length_8abf5.2.2 ⟨(Nat.le_of_ble_eq_true rfl), (Nat.le_of_ble_eq_true rfl)⟩ ⟨(Nat.le_of_ble_eq_true rfl), (Nat.le_of_ble_eq_true rfl)⟩ rfl hl.1 rfl (Nat.le_of_ble_eq_true rfl) dJ4_length_8abf5_1 (fun H locs rv w1 hw hP hD hS => ?_)
  obtain ⟨rfl, rfl⟩ := hw
  exact hret _ _ _ _ _ _ _ ⟨rfl, rfl⟩ hP hD hS (Nat.le_of_ble_eq_true rfl) (Nat.le_of_ble_eq_true rfl) (fun Qc hq => W.iret hx hb hr hq hS.2.2 dJ4_length_8abf5_4 hlocks)

set_option maxHeartbeats 8000000 in
set_option maxRecDepth 100000 in
theorem k_J5_getValue_6d5f1 (l : Launch) {D : va_G} {cs : Nat → ClassId} (b a n m : Nat) (f : Nat → Int32) : CtG l yJ5_getValue_6d5f1 cJ5_getValue_6d5f1 1 (some (.array .byte)) 0 0 0 0 D cs X0 [.ref b] [(b, .inr (11, [.ref a, .int 0, .int 0, .int (I n)])), (a, .inl (cs 0, m, .inl f))] (fun rv w1 => rv = some (.ref a) ∧ w1 = [(b, .inr (11, [.ref a, .int 0, .int 0, .int (I n)])), (a, .inl (cs 0, m, .inl f))]) := by
  refine CtG.ofW (by decide) (Nat.le_of_ble_eq_true rfl) ?_
  intro p e s m0 below meth c A Q ls args Fl0 hr hlocks hP hD hXs hS hA hl hmn hret
  obtain ⟨hx, hb, hml, hown, hT, hK, hSS⟩ := id Fl0
  have hown : s.vm.findClass RJ5 = some m0.cls := hown
  have hl : lv_has ls 1 [(0, .ref b)] := hl
  refine lv_aload_n hx hb dJ5_getValue_6d5f1_0 rfl (lv_at hl 0 rfl) ?_
  refine va_get (C := RJ4) (T := TJ4) (N := 4) hx hb hT huJ4 hown hK.1 hP 0 rfl rfl 0 (by decide) (hT _ tw_4_47) (fun _ h9 => h9) (v := .ref a) rfl dJ5_getValue_6d5f1_1 ?_
  exact hret _ _ _ _ _ _ _ ⟨rfl, rfl⟩ hP hD hS (Nat.le_of_ble_eq_true rfl) (Nat.le_of_ble_eq_true rfl) (fun Qc hq => W.aret hx hb hr (Or.inr ⟨_, rfl⟩) (Or.inr ⟨_, rfl⟩) hq hS.2.2 dJ5_getValue_6d5f1_4 hlocks)

set_option maxHeartbeats 8000000 in
set_option maxRecDepth 100000 in
theorem k_J8_newLength_cabcc (l : Launch) {D : va_G} {cs : Nat → ClassId} (m g z : Nat) (hm : m < 10000) (hg : g < 10000) (hz : z < 10000) (h0 : 0 < g) : CtG l yJ8_newLength_cabcc cJ8_newLength_cabcc 4 (some .int) 1 60 0 0 D cs X0 [.int (I m), .int (I g), .int (I z)] [] (fun rv w1 => rv = some (.int (I (m + max g z))) ∧ w1 = []) := by
  refine CtG.ofW (by decide) (Nat.le_of_ble_eq_true rfl) ?_
  intro p e s m0 below meth c A Q ls args Fl0 hr hlocks hP hD hXs hS hA hl hmn hret
  obtain ⟨hx, hb, hml, hown, hT, hK, hSS⟩ := id Fl0
  have hown : s.vm.findClass RJ8 = some m0.cls := hown
  have hl : lv_has ls 4 [(0, .int (I m)), (1, .int (I g)), (2, .int (I z))] := hl
  refine lv_iload_n hx hb dJ8_newLength_cabcc_0 rfl (lv_at hl 0 rfl) ?_
  refine lv_iload_n hx hb dJ8_newLength_cabcc_1 rfl (lv_at hl 1 rfl) ?_
  refine lv_iload_n hx hb dJ8_newLength_cabcc_2 rfl (lv_at hl 2 rfl) ?_
  refine va_mmax hx hb (hml.trans hl.1.symm) hown (hT _ tw_4_83) (hT _ tw_4_84) (hT _ tw_1_18) (hT _ tw_4_85) (Nat.le_of_ble_eq_true rfl) (Nat.le_of_ble_eq_true rfl) (Nat.zero_le _) (Nat.zero_le _) dJ8_newLength_cabcc_3 ?_
  refine lv_nmi (y := I (max g z)) (I_max (by omega) (by omega)) ?_
  refine lv_iadd hx hb dJ8_newLength_cabcc_6 ?_
  refine lv_nmi (y := I (m + max g z)) (I_add _ _).symm ?_
  refine lv_istore_n (lv' := [(3, .int (I (m + max g z))), (0, .int (I m)), (1, .int (I g)), (2, .int (I z))]) hx hb dJ8_newLength_cabcc_7 rfl hl (by decide) rfl (fun ls hl => ?_)
  refine lv_iconst (v := (0 : Int32)) hx hb dJ8_newLength_cabcc_8 (by decide) ?_
  refine lv_iload_n hx hb dJ8_newLength_cabcc_9 rfl (lv_at hl 0 rfl) ?_
  refine lv_icmp_ge (tgt := 21) hx hb dJ8_newLength_cabcc_10 (by decide) (fun c => absurd c (fun z9 => absurd ((I_le (b := 0) (by omega) (by omega)).mp z9) (by omega))) (fun _ => ?_)
  refine lv_iload_n hx hb dJ8_newLength_cabcc_13 rfl (lv_at hl 0 rfl) ?_
  refine lv_ldc (v := (2147483639 : Int32)) hx hb hown (hT _ tw_4_86) dJ8_newLength_cabcc_14 ?_
  refine lv_icmp_gt (tgt := 21) hx hb dJ8_newLength_cabcc_16 (by decide) (fun c => absurd c (fun z9 => absurd ((I_lt (a := 2147483639) (by omega) (by omega)).mp z9) (by omega))) (fun _ => ?_)
  refine lv_iload_n hx hb dJ8_newLength_cabcc_19 rfl (lv_at hl 0 rfl) ?_
  exact hret _ _ _ _ _ _ _ ⟨rfl, rfl⟩ hP hD hS (Nat.le_of_ble_eq_true rfl) (Nat.le_of_ble_eq_true rfl) (fun Qc hq => W.iret hx hb hr hq hS.2.2 dJ8_newLength_cabcc_20 hlocks)

set_option maxHeartbeats 8000000 in
set_option maxRecDepth 100000 in
theorem k_J5_newCapacity_0f7a4 (l : Launch) {D : va_G} {cs : Nat → ClassId} (b a n m : Nat) (f : Nat → Int32) (q : Nat) (hq : m < q) (hq2 : q ≤ 1000) : CtG l yJ5_newCapacity_0f7a4 cJ5_newCapacity_0f7a4 6 (some .int) 2 120 0 0 D cs X0 [.ref b, .int (I q)] [(b, .inr (11, [.ref a, .int 0, .int 0, .int (I n)])), (a, .inl (cs 0, m, .inl f))] (fun rv w1 => rv = some (.int (I (sb_cap q m))) ∧ w1 = [(b, .inr (11, [.ref a, .int 0, .int 0, .int (I n)])), (a, .inl (cs 0, m, .inl f))]) := by
  refine CtG.ofW (by decide) (Nat.le_of_ble_eq_true rfl) ?_
  intro p e s m0 below meth c A Q ls args Fl0 hr hlocks hP hD hXs hS hA hl hmn hret
  obtain ⟨hx, hb, hml, hown, hT, hK, hSS⟩ := id Fl0
  have hown : s.vm.findClass RJ5 = some m0.cls := hown
  have hl : lv_has ls 6 [(0, .ref b), (1, .int (I q))] := hl
  have hc9 := cap_le hq hq2
  refine lv_aload_n hx hb dJ5_newCapacity_0f7a4_0 rfl (lv_at hl 0 rfl) ?_
  refine va_get (C := RJ4) (T := TJ4) (N := 4) hx hb hT huJ4 hown hK.1 hP 0 rfl rfl 0 (by decide) (hT _ tw_4_47) (fun _ h9 => h9) (v := .ref a) rfl dJ5_newCapacity_0f7a4_1 ?_
  refine va_alen (v := I m) hx hb hK.1 hP 1 0 rfl rfl rfl dJ5_newCapacity_0f7a4_4 ?_
  refine lv_istore_n (lv' := [(2, .int (I m)), (0, .ref b), (1, .int (I q))]) hx hb dJ5_newCapacity_0f7a4_5 rfl hl (by decide) rfl (fun ls hl => ?_)
  refine lv_iload_n hx hb dJ5_newCapacity_0f7a4_6 rfl (lv_at hl 2 rfl) ?_
  refine lv_aload_n hx hb dJ5_newCapacity_0f7a4_7 rfl (lv_at hl 1 rfl) ?_
  refine va_get (C := RJ4) (T := TJ4) (N := 4) hx hb hT huJ4 hown hK.1 hP 0 rfl rfl 1 (by decide) (hT _ tw_4_48) (fun _ h9 => h9) (v := .int 0) rfl dJ5_newCapacity_0f7a4_8 ?_
  refine lv_ishl hx hb dJ5_newCapacity_0f7a4_11 ?_
  refine lv_nmi (y := I q) (sb_shl0 _).symm ?_
  refine lv_istore_n (lv' := [(3, .int (I q)), (2, .int (I m)), (0, .ref b), (1, .int (I q))]) hx hb dJ5_newCapacity_0f7a4_12 rfl hl (by decide) rfl (fun ls hl => ?_)
  refine lv_iload_n hx hb dJ5_newCapacity_0f7a4_13 rfl (lv_at hl 0 rfl) ?_
  refine lv_iload_n hx hb dJ5_newCapacity_0f7a4_14 rfl (lv_at hl 1 rfl) ?_
  refine lv_isub hx hb dJ5_newCapacity_0f7a4_15 ?_
  refine lv_nmi (y := I (q - m)) (I_sub (by omega)).symm ?_
  refine lv_istore (lv' := [(4, .int (I (q - m))), (3, .int (I q)), (2, .int (I m)), (0, .ref b), (1, .int (I q))]) hx hb dJ5_newCapacity_0f7a4_16 hl (by decide) rfl (fun ls hl => ?_)
  refine lv_iload_n hx hb dJ5_newCapacity_0f7a4_18 rfl (lv_at hl 2 rfl) ?_
  refine lv_iload hx hb dJ5_newCapacity_0f7a4_19 (lv_at hl 0 rfl) ?_
  refine lv_iload_n hx hb dJ5_newCapacity_0f7a4_21 rfl (lv_at hl 2 rfl) ?_
  refine lv_iconst (v := (2 : Int32)) hx hb dJ5_newCapacity_0f7a4_22 (by decide) ?_
  refine lv_aload_n hx hb dJ5_newCapacity_0f7a4_23 rfl (lv_at hl 3 rfl) ?_
  refine va_get (C := RJ4) (T := TJ4) (N := 4) hx hb hT huJ4 hown hK.1 hP 0 rfl rfl 1 (by decide) (hT _ tw_4_48) (fun _ h9 => h9) (v := .int 0) rfl dJ5_newCapacity_0f7a4_24 ?_
  refine lv_ishl hx hb dJ5_newCapacity_0f7a4_27 ?_
  refine lv_nmi (y := (2 : Int32)) (sb_shl0 _).symm ?_
  refine lv_iadd hx hb dJ5_newCapacity_0f7a4_28 ?_
  refine lv_nmi (y := I (m + 2)) (I_add m 2).symm ?_
  have hP : va_P D vwCl ([] ++ [(b, .inr (11, [.ref a, .int 0, .int 0, .int (I n)])), (a, .inl (cs 0, m, .inl f))]) _ := hP
  have hD : va_D A ([] ++ [(b, .inr (11, [.ref a, .int 0, .int 0, .int (I n)])), (a, .inl (cs 0, m, .inl f))]) := hD
  refine ggS (As := [.int (I m), .int (I (q - m)), .int (I (m + 2))]) (rest := []) (wc := []) (wr := [(b, .inr (11, [.ref a, .int 0, .int 0, .int (I n)])), (a, .inl (cs 0, m, .inl f))]) Fl0 (k_J8_newLength_cabcc l (D := D) (cs := cs) m (q - m) (m + 2) (by omega) (by omega) (by omega) (by omega)) X0_fz trivial hP hD hS hA tw_4_82 tw_4_80 tw_4_81 tw_1_17 yd_J8_newLength_cabcc ⟨(Nat.le_of_ble_eq_true rfl), (Nat.le_of_ble_eq_true rfl)⟩ ⟨(Nat.le_of_ble_eq_true rfl), (Nat.le_of_ble_eq_true rfl)⟩ rfl hl.1 rfl (Nat.le_of_ble_eq_true rfl) dJ5_newCapacity_0f7a4_29 (fun H locs rv w1 hw hP hD hS => ?_)
  obtain ⟨rfl, rfl⟩ := hw
  have hP : va_P D vwCl [(b, .inr (11, [.ref a, .int 0, .int 0, .int (I n)])), (a, .inl (cs 0, m, .inl f))] _ := hP
  have hD : va_D A [(b, .inr (11, [.ref a, .int 0, .int 0, .int (I n)])), (a, .inl (cs 0, m, .inl f))] := hD
  refine lv_nmi (y := I (sb_cap q m)) (congrArg I (cap_eq hq)) ?_
  refine lv_istore (lv' := [(5, .int (I (sb_cap q m))), (4, .int (I (q - m))), (3, .int (I q)), (2, .int (I m)), (0, .ref b), (1, .int (I q))]) hx hb dJ5_newCapacity_0f7a4_32 hl (by decide) rfl (fun ls hl => ?_)
  refine lv_iload hx hb dJ5_newCapacity_0f7a4_34 (lv_at hl 0 rfl) ?_
  refine lv_ldc (v := (2147483647 : Int32)) hx hb hown (hT _ tw_4_90) dJ5_newCapacity_0f7a4_36 ?_
  refine lv_icmp_ne (tgt := 51) hx hb dJ5_newCapacity_0f7a4_38 (by decide) (fun _ => ?_) (fun c => absurd c (fun z9 => absurd ((I_inj (b := 2147483647) (by omega) (by omega)).mp z9) (by omega)))
  refine lv_iload hx hb dJ5_newCapacity_0f7a4_51 (lv_at hl 0 rfl) ?_
  refine lv_aload_n hx hb dJ5_newCapacity_0f7a4_53 rfl (lv_at hl 4 rfl) ?_
  refine va_get (C := RJ4) (T := TJ4) (N := 4) hx hb hT huJ4 hown hK.1 hP 0 rfl rfl 1 (by decide) (hT _ tw_4_48) (fun _ h9 => h9) (v := .int 0) rfl dJ5_newCapacity_0f7a4_54 ?_
  refine lv_ishr hx hb dJ5_newCapacity_0f7a4_57 ?_
  refine lv_nmi (y := I (sb_cap q m)) (sb_shr0 _).symm ?_
  exact hret _ _ _ _ _ _ _ ⟨rfl, rfl⟩ hP hD hS (Nat.le_of_ble_eq_true rfl) (Nat.le_of_ble_eq_true rfl) (fun Qc hq => W.iret hx hb hr hq hS.2.2 dJ5_newCapacity_0f7a4_58 hlocks)

set_option maxHeartbeats 8000000 in
set_option maxRecDepth 100000 in
theorem k_J7_copyOf_9075b (l : Launch) {D : va_G} {cs : Nat → ClassId} (a m z : Nat) (f : Nat → Int32) (hmz : m < z) (hz : z ≤ 2002) (hf : sb_Fit f) : CtG l yJ7_copyOf_9075b cJ7_copyOf_9075b 3 (some (.array .byte)) 1 80 1 2002 D cs X0 [.ref a, .int (I z)] [(a, .inl (cs 0, m, .inl f))] (fun rv w1 => ∃ q : Nat, rv = some (.ref q) ∧ w1 = [(a, .inl (cs 0, m, .inl f)), (q, .inl (cs 0, z, .inl (va_cpy f (fun _ => 0) 0 0 m)))]) := by
  refine CtG.ofW (by decide) (Nat.le_of_ble_eq_true rfl) ?_
  intro p e s m0 below meth c A Q ls args Fl0 hr hlocks hP hD hXs hS hA hl hmn hret
  obtain ⟨hx, hb, hml, hown, hT, hK, hSS⟩ := id Fl0
  have hown : s.vm.findClass RJ7 = some m0.cls := hown
  have hl : lv_has ls 3 [(0, .ref a), (1, .int (I z))] := hl
  refine lv_iload_n hx hb dJ7_copyOf_9075b_0 rfl (lv_at hl 1 rfl) ?_
  refine lv_aload_n hx hb dJ7_copyOf_9075b_1 rfl (lv_at hl 0 rfl) ?_
  refine va_alen (v := I m) hx hb hK.1 hP 0 0 rfl rfl rfl dJ7_copyOf_9075b_2 ?_
  refine lv_icmp_ne (tgt := 14) hx hb dJ7_copyOf_9075b_3 (by decide) (fun _ => ?_) (fun c => absurd c (fun z9 => absurd ((I_inj (by omega) (by omega)).mp z9) (by omega)))
  refine lv_iload_n hx hb dJ7_copyOf_9075b_14 rfl (lv_at hl 1 rfl) ?_
  refine rnB hx hb hT tw_1_85 hK hP hD hS hA z (I_nneg (by omega)) (I_tnc (by omega)) (by omega) (Nat.le_of_ble_eq_true rfl) (by show 0 + z ≤ 2002; omega) dJ7_copyOf_9075b_15 (fun q15 H hP hD => ?_)
  intro hS
  have hP : va_P D vwCl [(a, .inl (cs 0, m, .inl f)), (q15, .inl (cs 0, z, .inl (fun _ => 0)))] _ := hP
  have hD : va_D A [(a, .inl (cs 0, m, .inl f)), (q15, .inl (cs 0, z, .inl (fun _ => 0)))] := hD
  refine lv_astore_n (lv' := [(2, .ref q15), (0, .ref a), (1, .int (I z))]) hx hb dJ7_copyOf_9075b_17 rfl hl (by decide) rfl (fun ls hl => ?_)
  refine lv_aload_n hx hb dJ7_copyOf_9075b_18 rfl (lv_at hl 1 rfl) ?_
  refine lv_iconst (v := (0 : Int32)) hx hb dJ7_copyOf_9075b_19 (by decide) ?_
  refine lv_aload_n hx hb dJ7_copyOf_9075b_20 rfl (lv_at hl 0 rfl) ?_
  refine lv_iconst (v := (0 : Int32)) hx hb dJ7_copyOf_9075b_21 (by decide) ?_
  refine lv_aload_n hx hb dJ7_copyOf_9075b_22 rfl (lv_at hl 1 rfl) ?_
  refine va_alen (v := I m) hx hb hK.1 hP 0 0 rfl rfl rfl dJ7_copyOf_9075b_23 ?_
  refine lv_iload_n hx hb dJ7_copyOf_9075b_24 rfl (lv_at hl 2 rfl) ?_
  refine va_mmin hx hb (hml.trans hl.1.symm) hown (hT _ tw_4_101) (hT _ tw_3_121) (hT _ tw_1_18) (hT _ tw_3_122) (Nat.le_of_ble_eq_true rfl) (Nat.le_of_ble_eq_true rfl) (Nat.le_of_ble_eq_true rfl) (by show 0 + z ≤ 2002; omega) dJ7_copyOf_9075b_25 ?_
  refine lv_nmi (y := I m) (I_min (by omega) (by omega) (by omega)) ?_
  refine va_copyi hx hb (hml.trans hl.1.symm) hown (hT _ tw_4_102) (hT _ tw_2_47) (hT _ tw_2_46) (hT _ tw_1_8) hK.1 hP hD hS 0 1 0 0 rfl rfl rfl rfl rfl (by decide) (by decide) (I_nneg (by omega)) (by rw [I_tnc (by omega)]; show 0 + m ≤ _; omega) (by rw [I_tnc (by omega)]; show 0 + m ≤ _; omega) (fun i9 _ => hf _) (Nat.le_of_ble_eq_true rfl) (Nat.le_of_ble_eq_true rfl) dJ7_copyOf_9075b_28 (fun H locs hP hD hS => ?_)
  rw [I_tnc (by omega)] at hP hD
  have hP : va_P D vwCl [(a, .inl (cs 0, m, .inl f)), (q15, .inl (cs 0, z, .inl (va_cpy f (fun _ => 0) 0 0 m)))] _ := hP
  have hD : va_D A [(a, .inl (cs 0, m, .inl f)), (q15, .inl (cs 0, z, .inl (va_cpy f (fun _ => 0) 0 0 m)))] := hD
  refine lv_aload_n hx hb dJ7_copyOf_9075b_31 rfl (lv_at hl 0 rfl) ?_
  exact hret _ _ _ _ _ _ _ ⟨_, rfl, rfl⟩ hP hD hS (Nat.le_of_ble_eq_true rfl) (by show 0 + z ≤ 2002; omega) (fun Qc hq => W.aret hx hb hr (Or.inr ⟨_, rfl⟩) (Or.inr ⟨_, rfl⟩) hq hS.2.2 dJ7_copyOf_9075b_32 hlocks)

set_option maxHeartbeats 8000000 in
set_option maxRecDepth 100000 in
theorem k_J5_ensureCapacityInternal_d00df (l : Launch) {D : va_G} {cs : Nat → ClassId} (b a n m : Nat) (f : Nat → Int32) (q : Nat) (hnm : n ≤ m) (hm : m ≤ 2002) (hf : sb_Fit f) (hq : q ≤ 1000) : CtG l yJ5_ensureCapacityInternal_d00df cJ5_ensureCapacityInternal_d00df 3 none 3 160 1 2002 D cs X0 [.ref b, .int (I q)] [(b, .inr (11, [.ref a, .int 0, .int 0, .int (I n)])), (a, .inl (cs 0, m, .inl f))] (fun rv w1 => rv = none ∧ ∃ (a' m' : Nat) (f' : Nat → Int32), w1 = [(b, .inr (11, [.ref a', .int 0, .int 0, .int (I n)])), (a', .inl (cs 0, m', .inl f'))] ∧ q ≤ m' ∧ m ≤ m' ∧ m' ≤ 2002 ∧ sb_Fit f' ∧ ∀ j : Nat, j < m → f' j = f j) := by
  refine CtG.ofW (by decide) (Nat.le_of_ble_eq_true rfl) ?_
  intro p e s m0 below meth c A Q ls args Fl0 hr hlocks hP hD hXs hS hA hl hmn hret
  obtain ⟨hx, hb, hml, hown, hT, hK, hSS⟩ := id Fl0
  have hown : s.vm.findClass RJ5 = some m0.cls := hown
  have hl : lv_has ls 3 [(0, .ref b), (1, .int (I q))] := hl
  refine lv_aload_n hx hb dJ5_ensureCapacityInternal_d00df_0 rfl (lv_at hl 0 rfl) ?_
  refine va_get (C := RJ4) (T := TJ4) (N := 4) hx hb hT huJ4 hown hK.1 hP 0 rfl rfl 0 (by decide) (hT _ tw_4_47) (fun _ h9 => h9) (v := .ref a) rfl dJ5_ensureCapacityInternal_d00df_1 ?_
  refine va_alen (v := I m) hx hb hK.1 hP 1 0 rfl rfl rfl dJ5_ensureCapacityInternal_d00df_4 ?_
  refine lv_aload_n hx hb dJ5_ensureCapacityInternal_d00df_5 rfl (lv_at hl 0 rfl) ?_
  refine va_get (C := RJ4) (T := TJ4) (N := 4) hx hb hT huJ4 hown hK.1 hP 0 rfl rfl 1 (by decide) (hT _ tw_4_48) (fun _ h9 => h9) (v := .int 0) rfl dJ5_ensureCapacityInternal_d00df_6 ?_
  refine lv_ishr hx hb dJ5_ensureCapacityInternal_d00df_9 ?_
  refine lv_nmi (y := I m) (sb_shr0 _).symm ?_
  refine lv_istore_n (lv' := [(2, .int (I m)), (0, .ref b), (1, .int (I q))]) hx hb dJ5_ensureCapacityInternal_d00df_10 rfl hl (by decide) rfl (fun ls hl => ?_)
  refine lv_iload_n hx hb dJ5_ensureCapacityInternal_d00df_11 rfl (lv_at hl 2 rfl) ?_
  refine lv_iload_n hx hb dJ5_ensureCapacityInternal_d00df_12 rfl (lv_at hl 0 rfl) ?_
  refine lv_isub hx hb dJ5_ensureCapacityInternal_d00df_13 ?_
  refine lv_if_le (tgt := 38) hx hb dJ5_ensureCapacityInternal_d00df_14 (by decide) (fun c9 => ?_) (fun c9 => ?_)
  · have hqm : q ≤ m := by
      rcases Nat.lt_or_ge m q with z9 | z9
      · rw [I_sub (by omega)] at c9; exact absurd ((I_le (b := 0) (by omega) (by omega)).mp c9) (by omega)
      · exact z9
    exact hret _ _ _ _ _ _ _ ⟨rfl, a, m, f, rfl, hqm, Nat.le_refl _, hm, hf, fun _ _ => rfl⟩ hP hD hS (Nat.le_of_ble_eq_true rfl) (Nat.le_of_ble_eq_true rfl) (fun Qc hq => W.vret hx hb hr hq hS.2.2 dJ5_ensureCapacityInternal_d00df_38 hlocks)
  · have hqm : m < q := by
      rcases Nat.lt_or_ge m q with z9 | z9
      · exact z9
      · exact absurd (sub_le0 (by omega) (by omega) z9) c9
    have hc9 := cap_le hqm hq
    have hc8 := sb_cap_ge q m
    refine lv_aload_n hx hb dJ5_ensureCapacityInternal_d00df_17 rfl (lv_at hl 1 rfl) ?_
    refine lv_aload_n hx hb dJ5_ensureCapacityInternal_d00df_18 rfl (lv_at hl 1 rfl) ?_
    refine va_get (C := RJ4) (T := TJ4) (N := 4) hx hb hT huJ4 hown hK.1 hP 0 rfl rfl 0 (by decide) (hT _ tw_4_47) (fun _ h9 => h9) (v := .ref a) rfl dJ5_ensureCapacityInternal_d00df_19 ?_
    refine lv_aload_n hx hb dJ5_ensureCapacityInternal_d00df_22 rfl (lv_at hl 1 rfl) ?_
    refine lv_iload_n hx hb dJ5_ensureCapacityInternal_d00df_23 rfl (lv_at hl 2 rfl) ?_
    have hP : va_P D vwCl ([(b, .inr (11, [.ref a, .int 0, .int 0, .int (I n)])), (a, .inl (cs 0, m, .inl f))] ++ []) _ := hP
    have hD : va_D A ([(b, .inr (11, [.ref a, .int 0, .int 0, .int (I n)])), (a, .inl (cs 0, m, .inl f))] ++ []) := hD
    refine ggU (C := RJ4) (As := [.int (I q)]) (rest := [.ref a, .ref b]) (wc := [(b, .inr (11, [.ref a, .int 0, .int 0, .int (I n)])), (a, .inl (cs 0, m, .inl f))]) (wr := []) Fl0 (k_J5_newCapacity_0f7a4 l b a n m f q hqm hq) X0_fz trivial hP hD hS hA (va_recv hK.1 hP rfl (q0 := 0) rfl) tw_4_79 tw_4_76 tw_7_5 tw_4_78 (hT _ tsp_newCapacity) tw_1_13 yd_J5_newCapacity_0f7a4 ⟨(Nat.le_of_ble_eq_true rfl), (Nat.le_of_ble_eq_true rfl)⟩ ⟨Nat.zero_le _, Nat.zero_le _⟩ rfl hl.1 rfl (Nat.le_of_ble_eq_true rfl) dJ5_ensureCapacityInternal_d00df_24 (fun H locs rv w1 hw hP hD hS => ?_)
    obtain ⟨rfl, rfl⟩ := hw
    have hP : va_P D vwCl [(b, .inr (11, [.ref a, .int 0, .int 0, .int (I n)])), (a, .inl (cs 0, m, .inl f))] _ := hP
    have hD : va_D A [(b, .inr (11, [.ref a, .int 0, .int 0, .int (I n)])), (a, .inl (cs 0, m, .inl f))] := hD
    refine lv_aload_n hx hb dJ5_ensureCapacityInternal_d00df_27 rfl (lv_at hl 1 rfl) ?_
    refine va_get (C := RJ4) (T := TJ4) (N := 4) hx hb hT huJ4 hown hK.1 hP 0 rfl rfl 1 (by decide) (hT _ tw_4_48) (fun _ h9 => h9) (v := .int 0) rfl dJ5_ensureCapacityInternal_d00df_28 ?_
    refine lv_ishl hx hb dJ5_ensureCapacityInternal_d00df_31 ?_
    refine lv_nmi (y := I (sb_cap q m)) (sb_shl0 _).symm ?_
    have hP := hP.sub [1, 0] (ws' := [(a, .inl (cs 0, m, .inl f))] ++ [(b, .inr (11, [.ref a, .int 0, .int 0, .int (I n)]))]) rfl
    have hD := hD.sub [1, 0] (ws' := [(a, .inl (cs 0, m, .inl f))] ++ [(b, .inr (11, [.ref a, .int 0, .int 0, .int (I n)]))]) (by decide) rfl
    refine ggS (As := [.ref a, .int (I (sb_cap q m))]) (rest := [.ref b]) (wc := [(a, .inl (cs 0, m, .inl f))]) (wr := [(b, .inr (11, [.ref a, .int 0, .int 0, .int (I n)]))]) Fl0 (k_J7_copyOf_9075b l (D := D) (cs := cs) a m (sb_cap q m) f (by omega) (by omega) hf) X0_fz trivial hP hD hS hA tw_4_93 tw_4_91 tw_4_92 tw_1_9 yd_J7_copyOf_9075b ⟨(Nat.le_of_ble_eq_true rfl), (Nat.le_of_ble_eq_true rfl)⟩ ⟨(Nat.le_of_ble_eq_true rfl), (Nat.le_of_ble_eq_true rfl)⟩ rfl hl.1 rfl (Nat.le_of_ble_eq_true rfl) dJ5_ensureCapacityInternal_d00df_32 (fun H locs rv w1 hw hP hD hS => ?_)
    obtain ⟨q9, rfl, rfl⟩ := hw
    have hP : va_P D vwCl [(a, .inl (cs 0, m, .inl f)), (q9, .inl (cs 0, (sb_cap q m), .inl (va_cpy f (fun _ => 0) 0 0 m))), (b, .inr (11, [.ref a, .int 0, .int 0, .int (I n)]))] _ := hP
    have hD : va_D A [(a, .inl (cs 0, m, .inl f)), (q9, .inl (cs 0, (sb_cap q m), .inl (va_cpy f (fun _ => 0) 0 0 m))), (b, .inr (11, [.ref a, .int 0, .int 0, .int (I n)]))] := hD
    refine va_put (ci := 11) (v := .ref q9) (ty := tyJ4 0) (C := RJ4) (T := TJ4) (N := 4) hx hb hT huJ4 tyJ4 tyJ4_ok nmJ4 hown hK.1 hP hD hS 2 rfl rfl 0 (by decide) (hT _ tw_4_47) (fun _ h9 => h9) rfl (tyJ4_ok 0 (by decide)) rfl rfl (Nat.le_of_ble_eq_true rfl) dJ5_ensureCapacityInternal_d00df_35 (fun H locs hP hD hS => ?_)
    have hP : va_P D vwCl [(a, .inl (cs 0, m, .inl f)), (q9, .inl (cs 0, (sb_cap q m), .inl (va_cpy f (fun _ => 0) 0 0 m))), (b, .inr (11, [.ref q9, .int 0, .int 0, .int (I n)]))] _ := hP
    have hD : va_D A [(a, .inl (cs 0, m, .inl f)), (q9, .inl (cs 0, (sb_cap q m), .inl (va_cpy f (fun _ => 0) 0 0 m))), (b, .inr (11, [.ref q9, .int 0, .int 0, .int (I n)]))] := hD
    have hP := hP.sub [2, 1] (ws' := [(b, .inr (11, [.ref q9, .int 0, .int 0, .int (I n)])), (q9, .inl (cs 0, (sb_cap q m), .inl (va_cpy f (fun _ => 0) 0 0 m)))]) rfl
    have hD := hD.sub [2, 1] (ws' := [(b, .inr (11, [.ref q9, .int 0, .int 0, .int (I n)])), (q9, .inl (cs 0, (sb_cap q m), .inl (va_cpy f (fun _ => 0) 0 0 m)))]) (by decide) rfl
    exact hret _ _ _ _ _ _ _ ⟨rfl, q9, sb_cap q m, va_cpy f (fun _ => 0) 0 0 m, rfl, by omega, by omega, by omega, sb_fitC hf sb_fit0, fun j hj => sb_cpy0 hj⟩ hP hD hS (Nat.le_of_ble_eq_true rfl) (Nat.le_of_ble_eq_true rfl) (fun Qc hq => W.vret hx hb hr hq hS.2.2 dJ5_ensureCapacityInternal_d00df_38 hlocks)
