/-! constructors -/
def zM : MM := (fun _ _ => 0, fun _ _ => 0)
theorem dfX0 : ∀ j : Nat, j < 12 → defaultValue (tyX0 j) = vp_V [.int 0, .null, .null, .null, .null, .null, .null, .long 0, .long 0, .int 0, .null, .null] j := fun j hj => by
  rcases (show j = 0 ∨ j = 1 ∨ j = 2 ∨ j = 3 ∨ j = 4 ∨ j = 5 ∨ j = 6 ∨ j = 7 ∨ j = 8 ∨ j = 9 ∨ j = 10 ∨ j = 11 by omega) with rfl | rfl | rfl | rfl | rfl | rfl | rfl | rfl | rfl | rfl | rfl | rfl <;> rfl
theorem dfX1 : ∀ j : Nat, j < 8 → defaultValue (tyX1 j) = vp_V [.null, .null, .int 0, .int 0, .int 0, .int 0, .int 0, .int 0] j := fun j hj => by
  rcases (show j = 0 ∨ j = 1 ∨ j = 2 ∨ j = 3 ∨ j = 4 ∨ j = 5 ∨ j = 6 ∨ j = 7 by omega) with rfl | rfl | rfl | rfl | rfl | rfl | rfl | rfl <;> rfl
theorem dfX2 : ∀ j : Nat, j < 9 → defaultValue (tyX2 j) = vp_V [.int 0, .int 0, .int 0, .int 0, .int 0, .null, .int 0, .int 0, .int 0] j := fun j hj => by
  rcases (show j = 0 ∨ j = 1 ∨ j = 2 ∨ j = 3 ∨ j = 4 ∨ j = 5 ∨ j = 6 ∨ j = 7 ∨ j = 8 by omega) with rfl | rfl | rfl | rfl | rfl | rfl | rfl | rfl | rfl <;> rfl
theorem dfX3 : ∀ j : Nat, j < 5 → defaultValue (tyX3 j) = vp_V [.null, .null, .null, .int 0, .int 0] j := fun j hj => by
  rcases (show j = 0 ∨ j = 1 ∨ j = 2 ∨ j = 3 ∨ j = 4 by omega) with rfl | rfl | rfl | rfl | rfl <;> rfl
theorem dfX4 : ∀ j : Nat, j < 9 → defaultValue (tyX4 j) = vp_V [.int 0, .int 0, .null, .null, .null, .null, .null, .int 0, .int 0] j := fun j hj => by
  rcases (show j = 0 ∨ j = 1 ∨ j = 2 ∨ j = 3 ∨ j = 4 ∨ j = 5 ∨ j = 6 ∨ j = 7 ∨ j = 8 by omega) with rfl | rfl | rfl | rfl | rfl | rfl | rfl | rfl | rfl <;> rfl
theorem dfX5 : ∀ j : Nat, j < 7 → defaultValue (tyX5 j) = vp_V [.int 0, .null, .null, .null, .null, .null, .null] j := fun j hj => by
  rcases (show j = 0 ∨ j = 1 ∨ j = 2 ∨ j = 3 ∨ j = 4 ∨ j = 5 ∨ j = 6 by omega) with rfl | rfl | rfl | rfl | rfl | rfl | rfl <;> rfl
theorem dfX6 : ∀ j : Nat, j < 16 → defaultValue (tyX6 j) = vp_V [.null, .int 0, .null, .int 0, .null, .null, .int 0, .null, .null, .int 0, .null, .int 0, .int 0, .int 0, .int 0, .int 0] j := fun j hj => by
  rcases (show j = 0 ∨ j = 1 ∨ j = 2 ∨ j = 3 ∨ j = 4 ∨ j = 5 ∨ j = 6 ∨ j = 7 ∨ j = 8 ∨ j = 9 ∨ j = 10 ∨ j = 11 ∨ j = 12 ∨ j = 13 ∨ j = 14 ∨ j = 15 by omega) with rfl | rfl | rfl | rfl | rfl | rfl | rfl | rfl | rfl | rfl | rfl | rfl | rfl | rfl | rfl | rfl <;> rfl
theorem dfX7 : ∀ j : Nat, j < 4 → defaultValue (tyX7 j) = vp_V [.null, .int 0, .int 0, .int 0] j := fun j hj => by
  rcases (show j = 0 ∨ j = 1 ∨ j = 2 ∨ j = 3 by omega) with rfl | rfl | rfl | rfl <;> rfl
theorem dfX8 : ∀ j : Nat, j < 8 → defaultValue (tyX8 j) = vp_V [.int 0, .int 0, .int 0, .int 0, .int 0, .int 0, .int 0, .int 0] j := fun j hj => by
  rcases (show j = 0 ∨ j = 1 ∨ j = 2 ∨ j = 3 ∨ j = 4 ∨ j = 5 ∨ j = 6 ∨ j = 7 by omega) with rfl | rfl | rfl | rfl | rfl | rfl | rfl | rfl <;> rfl
theorem dfX9 : ∀ j : Nat, j < 10 → defaultValue (tyX9 j) = vp_V [.null, .int 0, .int 0, .null, .null, .null, .null, .null, .null, .null] j := fun j hj => by
  rcases (show j = 0 ∨ j = 1 ∨ j = 2 ∨ j = 3 ∨ j = 4 ∨ j = 5 ∨ j = 6 ∨ j = 7 ∨ j = 8 ∨ j = 9 by omega) with rfl | rfl | rfl | rfl | rfl | rfl | rfl | rfl | rfl | rfl <;> rfl
set_option maxHeartbeats 8000000 in
set_option maxRecDepth 100000 in
theorem c_X8_init (l : Launch) {D : va_G} {cs : Nat → ClassId} (a : Nat) : CtN l yX8_init cX8_init 1 1 12 0 0 D cs [.ref a] [(a, .inr (8, [.int 0, .int 0, .int 0, .int 0, .int 0, .int 0, .int 0, .int 0]))] (fun w1 => w1 = [(a, .inr (8, [.int 0, .int 0, .int 0, .int 0, .int 0, .int 0, .int 0, .int 0]))]) := by
  refine CtN.ofW (by decide) (Nat.le_of_ble_eq_true rfl) ?_
  intro p e s m0 below meth c A Q ls args hx hb hr hml hlocks hown hts hK hKI hP hD hSS hS hA hl hnm hret
  have hT : ∀ w ∈ TBL, w.before args s = true := fun w h => hts w (List.mem_cons_of_mem _ h)
  have Fl0 : Fl p m0 c cX8_init 1 s args RX8 D cs A := ⟨hx, hb, hml, hown, hT, hK, hSS⟩
  have hown : s.vm.findClass RX8 = some m0.cls := hown
  have hl : lv_has ls 1 [(0, .ref a)] := hl
  refine lv_aload_n hx hb dX8_init_0 rfl (lv_at hl 0 rfl) ?_
  refine W.objInit hx hb hown (hT _ tw_1_192) (hT _ tw_1_35) (hT _ tw_1_36) rfl (by rw [hml]; exact hl.1) rfl dX8_init_1 (Nat.le_of_ble_eq_true rfl) (Nat.le_of_ble_eq_true rfl) ?_
  refine W.eq (g2 := F0 m0 4 ls []) rfl ?_
  exact hret _ _ _ _ rfl hP hD hS (fun Qc hq => W.vret hx hb hr hq hS.2.2 dX8_init_4 hlocks)

set_option maxHeartbeats 8000000 in
set_option maxRecDepth 100000 in
theorem c_X2_init (l : Launch) {D : va_G} {cs : Nat → ClassId} (a : Nat) : CtN l yX2_init cX2_init 1 1 12 1 3 D cs [.ref a] [(a, .inr (2, [.int 0, .int 0, .int 0, .int 0, .int 0, .null, .int 0, .int 0, .int 0]))] (fun w1 => ∃ q6 : Nat, w1 = [(a, .inr (2, [.int 0, .int 0, .int 0, .int 0, .int 0, .ref q6, .int 0, .int 0, .int 0])), (q6, .inl (cs 1, 3, .inl (fun _ => 0)))]) := by
  refine CtN.ofW (by decide) (Nat.le_of_ble_eq_true rfl) ?_
  intro p e s m0 below meth c A Q ls args hx hb hr hml hlocks hown hts hK hKI hP hD hSS hS hA hl hnm hret
  have hT : ∀ w ∈ TBL, w.before args s = true := fun w h => hts w (List.mem_cons_of_mem _ h)
  have Fl0 : Fl p m0 c cX2_init 1 s args RX2 D cs A := ⟨hx, hb, hml, hown, hT, hK, hSS⟩
  have hown : s.vm.findClass RX2 = some m0.cls := hown
  have hl : lv_has ls 1 [(0, .ref a)] := hl
  refine lv_aload_n hx hb dX2_init_0 rfl (lv_at hl 0 rfl) ?_
  refine W.objInit hx hb hown (hT _ tw_1_236) (hT _ tw_1_35) (hT _ tw_1_36) rfl (by rw [hml]; exact hl.1) rfl dX2_init_1 (Nat.le_of_ble_eq_true rfl) (Nat.le_of_ble_eq_true rfl) ?_
  refine W.eq (g2 := F0 m0 4 ls []) rfl ?_
  refine lv_aload_n hx hb dX2_init_4 rfl (lv_at hl 0 rfl) ?_
  refine lv_iconst (v := (3 : Int32)) hx hb dX2_init_5 (by decide) ?_
  refine rnI hx hb hT tw_1_86 hK hP hD hS hA 3 (by decide) (by decide) (Nat.le_of_ble_eq_true rfl) (Nat.le_of_ble_eq_true rfl) (Nat.le_of_ble_eq_true rfl) dX2_init_6 (fun q6 H hP hD => ?_)
  intro hS
  have hP : va_P D vwCl [(a, .inr (2, [.int 0, .int 0, .int 0, .int 0, .int 0, .null, .int 0, .int 0, .int 0])), (q6, .inl (cs 1, 3, .inl (fun _ => 0)))] H := hP
  have hD : va_D A [(a, .inr (2, [.int 0, .int 0, .int 0, .int 0, .int 0, .null, .int 0, .int 0, .int 0])), (q6, .inl (cs 1, 3, .inl (fun _ => 0)))] := hD
  refine va_putF (ci := 2) (v := .ref q6) (ty := tyX2 5) (C := RX2) (T := TX2) (N := 9) hx hb hT hu2 tyX2 tyX2_ok nmX2 hown hK.1 hP hD hS 0 rfl rfl 5 (by decide) (hT _ tw_2_13) (fun _ h9 => h9) rfl hnm rfl (tyX2_ok 5 (by decide)) rfl rfl (Nat.le_of_ble_eq_true rfl) dX2_init_8 (fun H locs hP hD hS => ?_)
  have hP : va_P D vwCl [(a, .inr (2, [.int 0, .int 0, .int 0, .int 0, .int 0, .ref q6, .int 0, .int 0, .int 0])), (q6, .inl (cs 1, 3, .inl (fun _ => 0)))] H := hP
  have hD : va_D A [(a, .inr (2, [.int 0, .int 0, .int 0, .int 0, .int 0, .ref q6, .int 0, .int 0, .int 0])), (q6, .inl (cs 1, 3, .inl (fun _ => 0)))] := hD
  exact hret _ _ _ _ ⟨_, rfl⟩ hP hD hS (fun Qc hq => W.vret hx hb hr hq hS.2.2 dX2_init_11 hlocks)

set_option maxHeartbeats 8000000 in
set_option maxRecDepth 100000 in
theorem c_X5_init (l : Launch) {D : va_G} {cs : Nat → ClassId} (a : Nat) : CtN l yX5_init cX5_init 1 1 12 6 48 D cs [.ref a] [(a, .inr (5, [.int 0, .null, .null, .null, .null, .null, .null]))] (fun w1 => ∃ q7 q15 q23 q31 q39 q47 : Nat, w1 = [(a, .inr (5, [.int 0, .ref q7, .ref q15, .ref q23, .ref q31, .ref q39, .ref q47])), (q7, .inl (cs 1, 8, .inl (fun _ => 0))), (q15, .inl (cs 1, 8, .inl (fun _ => 0))), (q23, .inl (cs 1, 8, .inl (fun _ => 0))), (q31, .inl (cs 1, 8, .inl (fun _ => 0))), (q39, .inl (cs 1, 8, .inl (fun _ => 0))), (q47, .inl (cs 1, 8, .inl (fun _ => 0)))]) := by
  refine CtN.ofW (by decide) (Nat.le_of_ble_eq_true rfl) ?_
  intro p e s m0 below meth c A Q ls args hx hb hr hml hlocks hown hts hK hKI hP hD hSS hS hA hl hnm hret
  have hT : ∀ w ∈ TBL, w.before args s = true := fun w h => hts w (List.mem_cons_of_mem _ h)
  have Fl0 : Fl p m0 c cX5_init 1 s args RX5 D cs A := ⟨hx, hb, hml, hown, hT, hK, hSS⟩
  have hown : s.vm.findClass RX5 = some m0.cls := hown
  have hl : lv_has ls 1 [(0, .ref a)] := hl
  refine lv_aload_n hx hb dX5_init_0 rfl (lv_at hl 0 rfl) ?_
  refine W.objInit hx hb hown (hT _ tw_1_50) (hT _ tw_1_35) (hT _ tw_1_36) rfl (by rw [hml]; exact hl.1) rfl dX5_init_1 (Nat.le_of_ble_eq_true rfl) (Nat.le_of_ble_eq_true rfl) ?_
  refine W.eq (g2 := F0 m0 4 ls []) rfl ?_
  refine lv_aload_n hx hb dX5_init_4 rfl (lv_at hl 0 rfl) ?_
  refine lv_bipush (v := (8 : Int32)) hx hb dX5_init_5 (by decide) ?_
  refine rnI hx hb hT tw_1_86 hK hP hD hS hA 8 (by decide) (by decide) (Nat.le_of_ble_eq_true rfl) (Nat.le_of_ble_eq_true rfl) (Nat.le_of_ble_eq_true rfl) dX5_init_7 (fun q7 H hP hD => ?_)
  intro hS
  have hP : va_P D vwCl [(a, .inr (5, [.int 0, .null, .null, .null, .null, .null, .null])), (q7, .inl (cs 1, 8, .inl (fun _ => 0)))] H := hP
  have hD : va_D A [(a, .inr (5, [.int 0, .null, .null, .null, .null, .null, .null])), (q7, .inl (cs 1, 8, .inl (fun _ => 0)))] := hD
  refine va_putF (ci := 5) (v := .ref q7) (ty := tyX5 1) (C := RX5) (T := TX5) (N := 7) hx hb hT hu5 tyX5 tyX5_ok nmX5 hown hK.1 hP hD hS 0 rfl rfl 1 (by decide) (hT _ tw_1_55) (fun _ h9 => h9) rfl hnm rfl (tyX5_ok 1 (by decide)) rfl rfl (Nat.le_of_ble_eq_true rfl) dX5_init_9 (fun H locs hP hD hS => ?_)
  have hP : va_P D vwCl [(a, .inr (5, [.int 0, .ref q7, .null, .null, .null, .null, .null])), (q7, .inl (cs 1, 8, .inl (fun _ => 0)))] H := hP
  have hD : va_D A [(a, .inr (5, [.int 0, .ref q7, .null, .null, .null, .null, .null])), (q7, .inl (cs 1, 8, .inl (fun _ => 0)))] := hD
  refine lv_aload_n hx hb dX5_init_12 rfl (lv_at hl 0 rfl) ?_
  refine lv_bipush (v := (8 : Int32)) hx hb dX5_init_13 (by decide) ?_
  refine rnI hx hb hT tw_1_86 hK hP hD hS hA 8 (by decide) (by decide) (Nat.le_of_ble_eq_true rfl) (Nat.le_of_ble_eq_true rfl) (Nat.le_of_ble_eq_true rfl) dX5_init_15 (fun q15 H hP hD => ?_)
  intro hS
  have hP : va_P D vwCl [(a, .inr (5, [.int 0, .ref q7, .null, .null, .null, .null, .null])), (q7, .inl (cs 1, 8, .inl (fun _ => 0))), (q15, .inl (cs 1, 8, .inl (fun _ => 0)))] H := hP
  have hD : va_D A [(a, .inr (5, [.int 0, .ref q7, .null, .null, .null, .null, .null])), (q7, .inl (cs 1, 8, .inl (fun _ => 0))), (q15, .inl (cs 1, 8, .inl (fun _ => 0)))] := hD
  refine va_putF (ci := 5) (v := .ref q15) (ty := tyX5 2) (C := RX5) (T := TX5) (N := 7) hx hb hT hu5 tyX5 tyX5_ok nmX5 hown hK.1 hP hD hS 0 rfl rfl 2 (by decide) (hT _ tw_1_58) (fun _ h9 => h9) rfl hnm rfl (tyX5_ok 2 (by decide)) rfl rfl (Nat.le_of_ble_eq_true rfl) dX5_init_17 (fun H locs hP hD hS => ?_)
  have hP : va_P D vwCl [(a, .inr (5, [.int 0, .ref q7, .ref q15, .null, .null, .null, .null])), (q7, .inl (cs 1, 8, .inl (fun _ => 0))), (q15, .inl (cs 1, 8, .inl (fun _ => 0)))] H := hP
  have hD : va_D A [(a, .inr (5, [.int 0, .ref q7, .ref q15, .null, .null, .null, .null])), (q7, .inl (cs 1, 8, .inl (fun _ => 0))), (q15, .inl (cs 1, 8, .inl (fun _ => 0)))] := hD
  refine lv_aload_n hx hb dX5_init_20 rfl (lv_at hl 0 rfl) ?_
  refine lv_bipush (v := (8 : Int32)) hx hb dX5_init_21 (by decide) ?_
  refine rnI hx hb hT tw_1_86 hK hP hD hS hA 8 (by decide) (by decide) (Nat.le_of_ble_eq_true rfl) (Nat.le_of_ble_eq_true rfl) (Nat.le_of_ble_eq_true rfl) dX5_init_23 (fun q23 H hP hD => ?_)
  intro hS
  have hP : va_P D vwCl [(a, .inr (5, [.int 0, .ref q7, .ref q15, .null, .null, .null, .null])), (q7, .inl (cs 1, 8, .inl (fun _ => 0))), (q15, .inl (cs 1, 8, .inl (fun _ => 0))), (q23, .inl (cs 1, 8, .inl (fun _ => 0)))] H := hP
  have hD : va_D A [(a, .inr (5, [.int 0, .ref q7, .ref q15, .null, .null, .null, .null])), (q7, .inl (cs 1, 8, .inl (fun _ => 0))), (q15, .inl (cs 1, 8, .inl (fun _ => 0))), (q23, .inl (cs 1, 8, .inl (fun _ => 0)))] := hD
  refine va_putF (ci := 5) (v := .ref q23) (ty := tyX5 3) (C := RX5) (T := TX5) (N := 7) hx hb hT hu5 tyX5 tyX5_ok nmX5 hown hK.1 hP hD hS 0 rfl rfl 3 (by decide) (hT _ tw_1_61) (fun _ h9 => h9) rfl hnm rfl (tyX5_ok 3 (by decide)) rfl rfl (Nat.le_of_ble_eq_true rfl) dX5_init_25 (fun H locs hP hD hS => ?_)
  have hP : va_P D vwCl [(a, .inr (5, [.int 0, .ref q7, .ref q15, .ref q23, .null, .null, .null])), (q7, .inl (cs 1, 8, .inl (fun _ => 0))), (q15, .inl (cs 1, 8, .inl (fun _ => 0))), (q23, .inl (cs 1, 8, .inl (fun _ => 0)))] H := hP
  have hD : va_D A [(a, .inr (5, [.int 0, .ref q7, .ref q15, .ref q23, .null, .null, .null])), (q7, .inl (cs 1, 8, .inl (fun _ => 0))), (q15, .inl (cs 1, 8, .inl (fun _ => 0))), (q23, .inl (cs 1, 8, .inl (fun _ => 0)))] := hD
  refine lv_aload_n hx hb dX5_init_28 rfl (lv_at hl 0 rfl) ?_
  refine lv_bipush (v := (8 : Int32)) hx hb dX5_init_29 (by decide) ?_
  refine rnI hx hb hT tw_1_86 hK hP hD hS hA 8 (by decide) (by decide) (Nat.le_of_ble_eq_true rfl) (Nat.le_of_ble_eq_true rfl) (Nat.le_of_ble_eq_true rfl) dX5_init_31 (fun q31 H hP hD => ?_)
  intro hS
  have hP : va_P D vwCl [(a, .inr (5, [.int 0, .ref q7, .ref q15, .ref q23, .null, .null, .null])), (q7, .inl (cs 1, 8, .inl (fun _ => 0))), (q15, .inl (cs 1, 8, .inl (fun _ => 0))), (q23, .inl (cs 1, 8, .inl (fun _ => 0))), (q31, .inl (cs 1, 8, .inl (fun _ => 0)))] H := hP
  have hD : va_D A [(a, .inr (5, [.int 0, .ref q7, .ref q15, .ref q23, .null, .null, .null])), (q7, .inl (cs 1, 8, .inl (fun _ => 0))), (q15, .inl (cs 1, 8, .inl (fun _ => 0))), (q23, .inl (cs 1, 8, .inl (fun _ => 0))), (q31, .inl (cs 1, 8, .inl (fun _ => 0)))] := hD
  refine va_putF (ci := 5) (v := .ref q31) (ty := tyX5 4) (C := RX5) (T := TX5) (N := 7) hx hb hT hu5 tyX5 tyX5_ok nmX5 hown hK.1 hP hD hS 0 rfl rfl 4 (by decide) (hT _ tw_1_63) (fun _ h9 => h9) rfl hnm rfl (tyX5_ok 4 (by decide)) rfl rfl (Nat.le_of_ble_eq_true rfl) dX5_init_33 (fun H locs hP hD hS => ?_)
  have hP : va_P D vwCl [(a, .inr (5, [.int 0, .ref q7, .ref q15, .ref q23, .ref q31, .null, .null])), (q7, .inl (cs 1, 8, .inl (fun _ => 0))), (q15, .inl (cs 1, 8, .inl (fun _ => 0))), (q23, .inl (cs 1, 8, .inl (fun _ => 0))), (q31, .inl (cs 1, 8, .inl (fun _ => 0)))] H := hP
  have hD : va_D A [(a, .inr (5, [.int 0, .ref q7, .ref q15, .ref q23, .ref q31, .null, .null])), (q7, .inl (cs 1, 8, .inl (fun _ => 0))), (q15, .inl (cs 1, 8, .inl (fun _ => 0))), (q23, .inl (cs 1, 8, .inl (fun _ => 0))), (q31, .inl (cs 1, 8, .inl (fun _ => 0)))] := hD
  refine lv_aload_n hx hb dX5_init_36 rfl (lv_at hl 0 rfl) ?_
  refine lv_bipush (v := (8 : Int32)) hx hb dX5_init_37 (by decide) ?_
  refine rnI hx hb hT tw_1_86 hK hP hD hS hA 8 (by decide) (by decide) (Nat.le_of_ble_eq_true rfl) (Nat.le_of_ble_eq_true rfl) (Nat.le_of_ble_eq_true rfl) dX5_init_39 (fun q39 H hP hD => ?_)
  intro hS
  have hP : va_P D vwCl [(a, .inr (5, [.int 0, .ref q7, .ref q15, .ref q23, .ref q31, .null, .null])), (q7, .inl (cs 1, 8, .inl (fun _ => 0))), (q15, .inl (cs 1, 8, .inl (fun _ => 0))), (q23, .inl (cs 1, 8, .inl (fun _ => 0))), (q31, .inl (cs 1, 8, .inl (fun _ => 0))), (q39, .inl (cs 1, 8, .inl (fun _ => 0)))] H := hP
  have hD : va_D A [(a, .inr (5, [.int 0, .ref q7, .ref q15, .ref q23, .ref q31, .null, .null])), (q7, .inl (cs 1, 8, .inl (fun _ => 0))), (q15, .inl (cs 1, 8, .inl (fun _ => 0))), (q23, .inl (cs 1, 8, .inl (fun _ => 0))), (q31, .inl (cs 1, 8, .inl (fun _ => 0))), (q39, .inl (cs 1, 8, .inl (fun _ => 0)))] := hD
  refine va_putF (ci := 5) (v := .ref q39) (ty := tyX5 5) (C := RX5) (T := TX5) (N := 7) hx hb hT hu5 tyX5 tyX5_ok nmX5 hown hK.1 hP hD hS 0 rfl rfl 5 (by decide) (hT _ tw_1_65) (fun _ h9 => h9) rfl hnm rfl (tyX5_ok 5 (by decide)) rfl rfl (Nat.le_of_ble_eq_true rfl) dX5_init_41 (fun H locs hP hD hS => ?_)
  have hP : va_P D vwCl [(a, .inr (5, [.int 0, .ref q7, .ref q15, .ref q23, .ref q31, .ref q39, .null])), (q7, .inl (cs 1, 8, .inl (fun _ => 0))), (q15, .inl (cs 1, 8, .inl (fun _ => 0))), (q23, .inl (cs 1, 8, .inl (fun _ => 0))), (q31, .inl (cs 1, 8, .inl (fun _ => 0))), (q39, .inl (cs 1, 8, .inl (fun _ => 0)))] H := hP
  have hD : va_D A [(a, .inr (5, [.int 0, .ref q7, .ref q15, .ref q23, .ref q31, .ref q39, .null])), (q7, .inl (cs 1, 8, .inl (fun _ => 0))), (q15, .inl (cs 1, 8, .inl (fun _ => 0))), (q23, .inl (cs 1, 8, .inl (fun _ => 0))), (q31, .inl (cs 1, 8, .inl (fun _ => 0))), (q39, .inl (cs 1, 8, .inl (fun _ => 0)))] := hD
  refine lv_aload_n hx hb dX5_init_44 rfl (lv_at hl 0 rfl) ?_
  refine lv_bipush (v := (8 : Int32)) hx hb dX5_init_45 (by decide) ?_
  refine rnI hx hb hT tw_1_86 hK hP hD hS hA 8 (by decide) (by decide) (Nat.le_of_ble_eq_true rfl) (Nat.le_of_ble_eq_true rfl) (Nat.le_of_ble_eq_true rfl) dX5_init_47 (fun q47 H hP hD => ?_)
  intro hS
  have hP : va_P D vwCl [(a, .inr (5, [.int 0, .ref q7, .ref q15, .ref q23, .ref q31, .ref q39, .null])), (q7, .inl (cs 1, 8, .inl (fun _ => 0))), (q15, .inl (cs 1, 8, .inl (fun _ => 0))), (q23, .inl (cs 1, 8, .inl (fun _ => 0))), (q31, .inl (cs 1, 8, .inl (fun _ => 0))), (q39, .inl (cs 1, 8, .inl (fun _ => 0))), (q47, .inl (cs 1, 8, .inl (fun _ => 0)))] H := hP
  have hD : va_D A [(a, .inr (5, [.int 0, .ref q7, .ref q15, .ref q23, .ref q31, .ref q39, .null])), (q7, .inl (cs 1, 8, .inl (fun _ => 0))), (q15, .inl (cs 1, 8, .inl (fun _ => 0))), (q23, .inl (cs 1, 8, .inl (fun _ => 0))), (q31, .inl (cs 1, 8, .inl (fun _ => 0))), (q39, .inl (cs 1, 8, .inl (fun _ => 0))), (q47, .inl (cs 1, 8, .inl (fun _ => 0)))] := hD
  refine va_putF (ci := 5) (v := .ref q47) (ty := tyX5 6) (C := RX5) (T := TX5) (N := 7) hx hb hT hu5 tyX5 tyX5_ok nmX5 hown hK.1 hP hD hS 0 rfl rfl 6 (by decide) (hT _ tw_1_67) (fun _ h9 => h9) rfl hnm rfl (tyX5_ok 6 (by decide)) rfl rfl (Nat.le_of_ble_eq_true rfl) dX5_init_49 (fun H locs hP hD hS => ?_)
  have hP : va_P D vwCl [(a, .inr (5, [.int 0, .ref q7, .ref q15, .ref q23, .ref q31, .ref q39, .ref q47])), (q7, .inl (cs 1, 8, .inl (fun _ => 0))), (q15, .inl (cs 1, 8, .inl (fun _ => 0))), (q23, .inl (cs 1, 8, .inl (fun _ => 0))), (q31, .inl (cs 1, 8, .inl (fun _ => 0))), (q39, .inl (cs 1, 8, .inl (fun _ => 0))), (q47, .inl (cs 1, 8, .inl (fun _ => 0)))] H := hP
  have hD : va_D A [(a, .inr (5, [.int 0, .ref q7, .ref q15, .ref q23, .ref q31, .ref q39, .ref q47])), (q7, .inl (cs 1, 8, .inl (fun _ => 0))), (q15, .inl (cs 1, 8, .inl (fun _ => 0))), (q23, .inl (cs 1, 8, .inl (fun _ => 0))), (q31, .inl (cs 1, 8, .inl (fun _ => 0))), (q39, .inl (cs 1, 8, .inl (fun _ => 0))), (q47, .inl (cs 1, 8, .inl (fun _ => 0)))] := hD
  exact hret _ _ _ _ ⟨_, _, _, _, _, _, rfl⟩ hP hD hS (fun Qc hq => W.vret hx hb hr hq hS.2.2 dX5_init_52 hlocks)

set_option maxHeartbeats 8000000 in
set_option maxRecDepth 100000 in
theorem c_X0_init (l : Launch) {D : va_G} {cs : Nat → ClassId} (a : Nat) : CtN l yX0_init cX0_init 1 1 12 8 248 D cs [.ref a] [(a, .inr (0, [.int 0, .null, .null, .null, .null, .null, .null, .long 0, .long 0, .int 0, .null, .null]))] (fun w1 => ∃ q7 q15 q23 q31 q39 q47 q55 q63 : Nat, w1 = [(a, .inr (0, [.int 0, .ref q7, .ref q15, .ref q23, .ref q31, .ref q39, .ref q47, .long 0, .long 0, .int 0, .ref q55, .ref q63])), (q7, .inl (cs 1, 40, .inl (fun _ => 0))), (q15, .inl (cs 1, 40, .inl (fun _ => 0))), (q23, .inl (cs 1, 40, .inl (fun _ => 0))), (q31, .inl (cs 1, 40, .inl (fun _ => 0))), (q39, .inl (cs 1, 40, .inl (fun _ => 0))), (q47, .inl (cs 2, 8, .inr (.inl (fun _ => 0)))), (q55, .inl (cs 1, 20, .inl (fun _ => 0))), (q63, .inl (cs 1, 20, .inl (fun _ => 0)))]) := by
  refine CtN.ofW (by decide) (Nat.le_of_ble_eq_true rfl) ?_
  intro p e s m0 below meth c A Q ls args hx hb hr hml hlocks hown hts hK hKI hP hD hSS hS hA hl hnm hret
  have hT : ∀ w ∈ TBL, w.before args s = true := fun w h => hts w (List.mem_cons_of_mem _ h)
  have Fl0 : Fl p m0 c cX0_init 1 s args RX0 D cs A := ⟨hx, hb, hml, hown, hT, hK, hSS⟩
  have hown : s.vm.findClass RX0 = some m0.cls := hown
  have hl : lv_has ls 1 [(0, .ref a)] := hl
  refine lv_aload_n hx hb dX0_init_0 rfl (lv_at hl 0 rfl) ?_
  refine W.objInit hx hb hown (hT _ tw_1_94) (hT _ tw_1_35) (hT _ tw_1_36) rfl (by rw [hml]; exact hl.1) rfl dX0_init_1 (Nat.le_of_ble_eq_true rfl) (Nat.le_of_ble_eq_true rfl) ?_
  refine W.eq (g2 := F0 m0 4 ls []) rfl ?_
  refine lv_aload_n hx hb dX0_init_4 rfl (lv_at hl 0 rfl) ?_
  refine lv_bipush (v := (40 : Int32)) hx hb dX0_init_5 (by decide) ?_
  refine rnI hx hb hT tw_1_86 hK hP hD hS hA 40 (by decide) (by decide) (Nat.le_of_ble_eq_true rfl) (Nat.le_of_ble_eq_true rfl) (Nat.le_of_ble_eq_true rfl) dX0_init_7 (fun q7 H hP hD => ?_)
  intro hS
  have hP : va_P D vwCl [(a, .inr (0, [.int 0, .null, .null, .null, .null, .null, .null, .long 0, .long 0, .int 0, .null, .null])), (q7, .inl (cs 1, 40, .inl (fun _ => 0)))] H := hP
  have hD : va_D A [(a, .inr (0, [.int 0, .null, .null, .null, .null, .null, .null, .long 0, .long 0, .int 0, .null, .null])), (q7, .inl (cs 1, 40, .inl (fun _ => 0)))] := hD
  refine va_putF (ci := 0) (v := .ref q7) (ty := tyX0 1) (C := RX0) (T := TX0) (N := 12) hx hb hT hu0 tyX0 tyX0_ok nmX0 hown hK.1 hP hD hS 0 rfl rfl 1 (by decide) (hT _ tw_1_99) (fun _ h9 => h9) rfl hnm rfl (tyX0_ok 1 (by decide)) rfl rfl (Nat.le_of_ble_eq_true rfl) dX0_init_9 (fun H locs hP hD hS => ?_)
  have hP : va_P D vwCl [(a, .inr (0, [.int 0, .ref q7, .null, .null, .null, .null, .null, .long 0, .long 0, .int 0, .null, .null])), (q7, .inl (cs 1, 40, .inl (fun _ => 0)))] H := hP
  have hD : va_D A [(a, .inr (0, [.int 0, .ref q7, .null, .null, .null, .null, .null, .long 0, .long 0, .int 0, .null, .null])), (q7, .inl (cs 1, 40, .inl (fun _ => 0)))] := hD
  refine lv_aload_n hx hb dX0_init_12 rfl (lv_at hl 0 rfl) ?_
  refine lv_bipush (v := (40 : Int32)) hx hb dX0_init_13 (by decide) ?_
  refine rnI hx hb hT tw_1_86 hK hP hD hS hA 40 (by decide) (by decide) (Nat.le_of_ble_eq_true rfl) (Nat.le_of_ble_eq_true rfl) (Nat.le_of_ble_eq_true rfl) dX0_init_15 (fun q15 H hP hD => ?_)
  intro hS
  have hP : va_P D vwCl [(a, .inr (0, [.int 0, .ref q7, .null, .null, .null, .null, .null, .long 0, .long 0, .int 0, .null, .null])), (q7, .inl (cs 1, 40, .inl (fun _ => 0))), (q15, .inl (cs 1, 40, .inl (fun _ => 0)))] H := hP
  have hD : va_D A [(a, .inr (0, [.int 0, .ref q7, .null, .null, .null, .null, .null, .long 0, .long 0, .int 0, .null, .null])), (q7, .inl (cs 1, 40, .inl (fun _ => 0))), (q15, .inl (cs 1, 40, .inl (fun _ => 0)))] := hD
  refine va_putF (ci := 0) (v := .ref q15) (ty := tyX0 2) (C := RX0) (T := TX0) (N := 12) hx hb hT hu0 tyX0 tyX0_ok nmX0 hown hK.1 hP hD hS 0 rfl rfl 2 (by decide) (hT _ tw_1_101) (fun _ h9 => h9) rfl hnm rfl (tyX0_ok 2 (by decide)) rfl rfl (Nat.le_of_ble_eq_true rfl) dX0_init_17 (fun H locs hP hD hS => ?_)
  have hP : va_P D vwCl [(a, .inr (0, [.int 0, .ref q7, .ref q15, .null, .null, .null, .null, .long 0, .long 0, .int 0, .null, .null])), (q7, .inl (cs 1, 40, .inl (fun _ => 0))), (q15, .inl (cs 1, 40, .inl (fun _ => 0)))] H := hP
  have hD : va_D A [(a, .inr (0, [.int 0, .ref q7, .ref q15, .null, .null, .null, .null, .long 0, .long 0, .int 0, .null, .null])), (q7, .inl (cs 1, 40, .inl (fun _ => 0))), (q15, .inl (cs 1, 40, .inl (fun _ => 0)))] := hD
  refine lv_aload_n hx hb dX0_init_20 rfl (lv_at hl 0 rfl) ?_
  refine lv_bipush (v := (40 : Int32)) hx hb dX0_init_21 (by decide) ?_
  refine rnI hx hb hT tw_1_86 hK hP hD hS hA 40 (by decide) (by decide) (Nat.le_of_ble_eq_true rfl) (Nat.le_of_ble_eq_true rfl) (Nat.le_of_ble_eq_true rfl) dX0_init_23 (fun q23 H hP hD => ?_)
  intro hS
  have hP : va_P D vwCl [(a, .inr (0, [.int 0, .ref q7, .ref q15, .null, .null, .null, .null, .long 0, .long 0, .int 0, .null, .null])), (q7, .inl (cs 1, 40, .inl (fun _ => 0))), (q15, .inl (cs 1, 40, .inl (fun _ => 0))), (q23, .inl (cs 1, 40, .inl (fun _ => 0)))] H := hP
  have hD : va_D A [(a, .inr (0, [.int 0, .ref q7, .ref q15, .null, .null, .null, .null, .long 0, .long 0, .int 0, .null, .null])), (q7, .inl (cs 1, 40, .inl (fun _ => 0))), (q15, .inl (cs 1, 40, .inl (fun _ => 0))), (q23, .inl (cs 1, 40, .inl (fun _ => 0)))] := hD
  refine va_putF (ci := 0) (v := .ref q23) (ty := tyX0 3) (C := RX0) (T := TX0) (N := 12) hx hb hT hu0 tyX0 tyX0_ok nmX0 hown hK.1 hP hD hS 0 rfl rfl 3 (by decide) (hT _ tw_1_104) (fun _ h9 => h9) rfl hnm rfl (tyX0_ok 3 (by decide)) rfl rfl (Nat.le_of_ble_eq_true rfl) dX0_init_25 (fun H locs hP hD hS => ?_)
  have hP : va_P D vwCl [(a, .inr (0, [.int 0, .ref q7, .ref q15, .ref q23, .null, .null, .null, .long 0, .long 0, .int 0, .null, .null])), (q7, .inl (cs 1, 40, .inl (fun _ => 0))), (q15, .inl (cs 1, 40, .inl (fun _ => 0))), (q23, .inl (cs 1, 40, .inl (fun _ => 0)))] H := hP
  have hD : va_D A [(a, .inr (0, [.int 0, .ref q7, .ref q15, .ref q23, .null, .null, .null, .long 0, .long 0, .int 0, .null, .null])), (q7, .inl (cs 1, 40, .inl (fun _ => 0))), (q15, .inl (cs 1, 40, .inl (fun _ => 0))), (q23, .inl (cs 1, 40, .inl (fun _ => 0)))] := hD
  refine lv_aload_n hx hb dX0_init_28 rfl (lv_at hl 0 rfl) ?_
  refine lv_bipush (v := (40 : Int32)) hx hb dX0_init_29 (by decide) ?_
  refine rnI hx hb hT tw_1_86 hK hP hD hS hA 40 (by decide) (by decide) (Nat.le_of_ble_eq_true rfl) (Nat.le_of_ble_eq_true rfl) (Nat.le_of_ble_eq_true rfl) dX0_init_31 (fun q31 H hP hD => ?_)
  intro hS
  have hP : va_P D vwCl [(a, .inr (0, [.int 0, .ref q7, .ref q15, .ref q23, .null, .null, .null, .long 0, .long 0, .int 0, .null, .null])), (q7, .inl (cs 1, 40, .inl (fun _ => 0))), (q15, .inl (cs 1, 40, .inl (fun _ => 0))), (q23, .inl (cs 1, 40, .inl (fun _ => 0))), (q31, .inl (cs 1, 40, .inl (fun _ => 0)))] H := hP
  have hD : va_D A [(a, .inr (0, [.int 0, .ref q7, .ref q15, .ref q23, .null, .null, .null, .long 0, .long 0, .int 0, .null, .null])), (q7, .inl (cs 1, 40, .inl (fun _ => 0))), (q15, .inl (cs 1, 40, .inl (fun _ => 0))), (q23, .inl (cs 1, 40, .inl (fun _ => 0))), (q31, .inl (cs 1, 40, .inl (fun _ => 0)))] := hD
  refine va_putF (ci := 0) (v := .ref q31) (ty := tyX0 4) (C := RX0) (T := TX0) (N := 12) hx hb hT hu0 tyX0 tyX0_ok nmX0 hown hK.1 hP hD hS 0 rfl rfl 4 (by decide) (hT _ tw_1_107) (fun _ h9 => h9) rfl hnm rfl (tyX0_ok 4 (by decide)) rfl rfl (Nat.le_of_ble_eq_true rfl) dX0_init_33 (fun H locs hP hD hS => ?_)
  have hP : va_P D vwCl [(a, .inr (0, [.int 0, .ref q7, .ref q15, .ref q23, .ref q31, .null, .null, .long 0, .long 0, .int 0, .null, .null])), (q7, .inl (cs 1, 40, .inl (fun _ => 0))), (q15, .inl (cs 1, 40, .inl (fun _ => 0))), (q23, .inl (cs 1, 40, .inl (fun _ => 0))), (q31, .inl (cs 1, 40, .inl (fun _ => 0)))] H := hP
  have hD : va_D A [(a, .inr (0, [.int 0, .ref q7, .ref q15, .ref q23, .ref q31, .null, .null, .long 0, .long 0, .int 0, .null, .null])), (q7, .inl (cs 1, 40, .inl (fun _ => 0))), (q15, .inl (cs 1, 40, .inl (fun _ => 0))), (q23, .inl (cs 1, 40, .inl (fun _ => 0))), (q31, .inl (cs 1, 40, .inl (fun _ => 0)))] := hD
  refine lv_aload_n hx hb dX0_init_36 rfl (lv_at hl 0 rfl) ?_
  refine lv_bipush (v := (40 : Int32)) hx hb dX0_init_37 (by decide) ?_
  refine rnI hx hb hT tw_1_86 hK hP hD hS hA 40 (by decide) (by decide) (Nat.le_of_ble_eq_true rfl) (Nat.le_of_ble_eq_true rfl) (Nat.le_of_ble_eq_true rfl) dX0_init_39 (fun q39 H hP hD => ?_)
  intro hS
  have hP : va_P D vwCl [(a, .inr (0, [.int 0, .ref q7, .ref q15, .ref q23, .ref q31, .null, .null, .long 0, .long 0, .int 0, .null, .null])), (q7, .inl (cs 1, 40, .inl (fun _ => 0))), (q15, .inl (cs 1, 40, .inl (fun _ => 0))), (q23, .inl (cs 1, 40, .inl (fun _ => 0))), (q31, .inl (cs 1, 40, .inl (fun _ => 0))), (q39, .inl (cs 1, 40, .inl (fun _ => 0)))] H := hP
  have hD : va_D A [(a, .inr (0, [.int 0, .ref q7, .ref q15, .ref q23, .ref q31, .null, .null, .long 0, .long 0, .int 0, .null, .null])), (q7, .inl (cs 1, 40, .inl (fun _ => 0))), (q15, .inl (cs 1, 40, .inl (fun _ => 0))), (q23, .inl (cs 1, 40, .inl (fun _ => 0))), (q31, .inl (cs 1, 40, .inl (fun _ => 0))), (q39, .inl (cs 1, 40, .inl (fun _ => 0)))] := hD
  refine va_putF (ci := 0) (v := .ref q39) (ty := tyX0 5) (C := RX0) (T := TX0) (N := 12) hx hb hT hu0 tyX0 tyX0_ok nmX0 hown hK.1 hP hD hS 0 rfl rfl 5 (by decide) (hT _ tw_1_108) (fun _ h9 => h9) rfl hnm rfl (tyX0_ok 5 (by decide)) rfl rfl (Nat.le_of_ble_eq_true rfl) dX0_init_41 (fun H locs hP hD hS => ?_)
  have hP : va_P D vwCl [(a, .inr (0, [.int 0, .ref q7, .ref q15, .ref q23, .ref q31, .ref q39, .null, .long 0, .long 0, .int 0, .null, .null])), (q7, .inl (cs 1, 40, .inl (fun _ => 0))), (q15, .inl (cs 1, 40, .inl (fun _ => 0))), (q23, .inl (cs 1, 40, .inl (fun _ => 0))), (q31, .inl (cs 1, 40, .inl (fun _ => 0))), (q39, .inl (cs 1, 40, .inl (fun _ => 0)))] H := hP
  have hD : va_D A [(a, .inr (0, [.int 0, .ref q7, .ref q15, .ref q23, .ref q31, .ref q39, .null, .long 0, .long 0, .int 0, .null, .null])), (q7, .inl (cs 1, 40, .inl (fun _ => 0))), (q15, .inl (cs 1, 40, .inl (fun _ => 0))), (q23, .inl (cs 1, 40, .inl (fun _ => 0))), (q31, .inl (cs 1, 40, .inl (fun _ => 0))), (q39, .inl (cs 1, 40, .inl (fun _ => 0)))] := hD
  refine lv_aload_n hx hb dX0_init_44 rfl (lv_at hl 0 rfl) ?_
  refine lv_bipush (v := (8 : Int32)) hx hb dX0_init_45 (by decide) ?_
  refine rnL hx hb hT tw_1_145 hK hP hD hS hA 8 (by decide) (by decide) (Nat.le_of_ble_eq_true rfl) (Nat.le_of_ble_eq_true rfl) (Nat.le_of_ble_eq_true rfl) dX0_init_47 (fun q47 H hP hD => ?_)
  intro hS
  have hP : va_P D vwCl [(a, .inr (0, [.int 0, .ref q7, .ref q15, .ref q23, .ref q31, .ref q39, .null, .long 0, .long 0, .int 0, .null, .null])), (q7, .inl (cs 1, 40, .inl (fun _ => 0))), (q15, .inl (cs 1, 40, .inl (fun _ => 0))), (q23, .inl (cs 1, 40, .inl (fun _ => 0))), (q31, .inl (cs 1, 40, .inl (fun _ => 0))), (q39, .inl (cs 1, 40, .inl (fun _ => 0))), (q47, .inl (cs 2, 8, .inr (.inl (fun _ => 0))))] H := hP
  have hD : va_D A [(a, .inr (0, [.int 0, .ref q7, .ref q15, .ref q23, .ref q31, .ref q39, .null, .long 0, .long 0, .int 0, .null, .null])), (q7, .inl (cs 1, 40, .inl (fun _ => 0))), (q15, .inl (cs 1, 40, .inl (fun _ => 0))), (q23, .inl (cs 1, 40, .inl (fun _ => 0))), (q31, .inl (cs 1, 40, .inl (fun _ => 0))), (q39, .inl (cs 1, 40, .inl (fun _ => 0))), (q47, .inl (cs 2, 8, .inr (.inl (fun _ => 0))))] := hD
  refine va_putF (ci := 0) (v := .ref q47) (ty := tyX0 6) (C := RX0) (T := TX0) (N := 12) hx hb hT hu0 tyX0 tyX0_ok nmX0 hown hK.1 hP hD hS 0 rfl rfl 6 (by decide) (hT _ tw_1_109) (fun _ h9 => h9) rfl hnm rfl (tyX0_ok 6 (by decide)) rfl rfl (Nat.le_of_ble_eq_true rfl) dX0_init_49 (fun H locs hP hD hS => ?_)
  have hP : va_P D vwCl [(a, .inr (0, [.int 0, .ref q7, .ref q15, .ref q23, .ref q31, .ref q39, .ref q47, .long 0, .long 0, .int 0, .null, .null])), (q7, .inl (cs 1, 40, .inl (fun _ => 0))), (q15, .inl (cs 1, 40, .inl (fun _ => 0))), (q23, .inl (cs 1, 40, .inl (fun _ => 0))), (q31, .inl (cs 1, 40, .inl (fun _ => 0))), (q39, .inl (cs 1, 40, .inl (fun _ => 0))), (q47, .inl (cs 2, 8, .inr (.inl (fun _ => 0))))] H := hP
  have hD : va_D A [(a, .inr (0, [.int 0, .ref q7, .ref q15, .ref q23, .ref q31, .ref q39, .ref q47, .long 0, .long 0, .int 0, .null, .null])), (q7, .inl (cs 1, 40, .inl (fun _ => 0))), (q15, .inl (cs 1, 40, .inl (fun _ => 0))), (q23, .inl (cs 1, 40, .inl (fun _ => 0))), (q31, .inl (cs 1, 40, .inl (fun _ => 0))), (q39, .inl (cs 1, 40, .inl (fun _ => 0))), (q47, .inl (cs 2, 8, .inr (.inl (fun _ => 0))))] := hD
  refine lv_aload_n hx hb dX0_init_52 rfl (lv_at hl 0 rfl) ?_
  refine lv_bipush (v := (20 : Int32)) hx hb dX0_init_53 (by decide) ?_
  refine rnI hx hb hT tw_1_86 hK hP hD hS hA 20 (by decide) (by decide) (Nat.le_of_ble_eq_true rfl) (Nat.le_of_ble_eq_true rfl) (Nat.le_of_ble_eq_true rfl) dX0_init_55 (fun q55 H hP hD => ?_)
  intro hS
  have hP : va_P D vwCl [(a, .inr (0, [.int 0, .ref q7, .ref q15, .ref q23, .ref q31, .ref q39, .ref q47, .long 0, .long 0, .int 0, .null, .null])), (q7, .inl (cs 1, 40, .inl (fun _ => 0))), (q15, .inl (cs 1, 40, .inl (fun _ => 0))), (q23, .inl (cs 1, 40, .inl (fun _ => 0))), (q31, .inl (cs 1, 40, .inl (fun _ => 0))), (q39, .inl (cs 1, 40, .inl (fun _ => 0))), (q47, .inl (cs 2, 8, .inr (.inl (fun _ => 0)))), (q55, .inl (cs 1, 20, .inl (fun _ => 0)))] H := hP
  have hD : va_D A [(a, .inr (0, [.int 0, .ref q7, .ref q15, .ref q23, .ref q31, .ref q39, .ref q47, .long 0, .long 0, .int 0, .null, .null])), (q7, .inl (cs 1, 40, .inl (fun _ => 0))), (q15, .inl (cs 1, 40, .inl (fun _ => 0))), (q23, .inl (cs 1, 40, .inl (fun _ => 0))), (q31, .inl (cs 1, 40, .inl (fun _ => 0))), (q39, .inl (cs 1, 40, .inl (fun _ => 0))), (q47, .inl (cs 2, 8, .inr (.inl (fun _ => 0)))), (q55, .inl (cs 1, 20, .inl (fun _ => 0)))] := hD
  refine va_putF (ci := 0) (v := .ref q55) (ty := tyX0 10) (C := RX0) (T := TX0) (N := 12) hx hb hT hu0 tyX0 tyX0_ok nmX0 hown hK.1 hP hD hS 0 rfl rfl 10 (by decide) (hT _ tw_1_118) (fun _ h9 => h9) rfl hnm rfl (tyX0_ok 10 (by decide)) rfl rfl (Nat.le_of_ble_eq_true rfl) dX0_init_57 (fun H locs hP hD hS => ?_)
  have hP : va_P D vwCl [(a, .inr (0, [.int 0, .ref q7, .ref q15, .ref q23, .ref q31, .ref q39, .ref q47, .long 0, .long 0, .int 0, .ref q55, .null])), (q7, .inl (cs 1, 40, .inl (fun _ => 0))), (q15, .inl (cs 1, 40, .inl (fun _ => 0))), (q23, .inl (cs 1, 40, .inl (fun _ => 0))), (q31, .inl (cs 1, 40, .inl (fun _ => 0))), (q39, .inl (cs 1, 40, .inl (fun _ => 0))), (q47, .inl (cs 2, 8, .inr (.inl (fun _ => 0)))), (q55, .inl (cs 1, 20, .inl (fun _ => 0)))] H := hP
  have hD : va_D A [(a, .inr (0, [.int 0, .ref q7, .ref q15, .ref q23, .ref q31, .ref q39, .ref q47, .long 0, .long 0, .int 0, .ref q55, .null])), (q7, .inl (cs 1, 40, .inl (fun _ => 0))), (q15, .inl (cs 1, 40, .inl (fun _ => 0))), (q23, .inl (cs 1, 40, .inl (fun _ => 0))), (q31, .inl (cs 1, 40, .inl (fun _ => 0))), (q39, .inl (cs 1, 40, .inl (fun _ => 0))), (q47, .inl (cs 2, 8, .inr (.inl (fun _ => 0)))), (q55, .inl (cs 1, 20, .inl (fun _ => 0)))] := hD
  refine lv_aload_n hx hb dX0_init_60 rfl (lv_at hl 0 rfl) ?_
  refine lv_bipush (v := (20 : Int32)) hx hb dX0_init_61 (by decide) ?_
  refine rnI hx hb hT tw_1_86 hK hP hD hS hA 20 (by decide) (by decide) (Nat.le_of_ble_eq_true rfl) (Nat.le_of_ble_eq_true rfl) (Nat.le_of_ble_eq_true rfl) dX0_init_63 (fun q63 H hP hD => ?_)
  intro hS
  have hP : va_P D vwCl [(a, .inr (0, [.int 0, .ref q7, .ref q15, .ref q23, .ref q31, .ref q39, .ref q47, .long 0, .long 0, .int 0, .ref q55, .null])), (q7, .inl (cs 1, 40, .inl (fun _ => 0))), (q15, .inl (cs 1, 40, .inl (fun _ => 0))), (q23, .inl (cs 1, 40, .inl (fun _ => 0))), (q31, .inl (cs 1, 40, .inl (fun _ => 0))), (q39, .inl (cs 1, 40, .inl (fun _ => 0))), (q47, .inl (cs 2, 8, .inr (.inl (fun _ => 0)))), (q55, .inl (cs 1, 20, .inl (fun _ => 0))), (q63, .inl (cs 1, 20, .inl (fun _ => 0)))] H := hP
  have hD : va_D A [(a, .inr (0, [.int 0, .ref q7, .ref q15, .ref q23, .ref q31, .ref q39, .ref q47, .long 0, .long 0, .int 0, .ref q55, .null])), (q7, .inl (cs 1, 40, .inl (fun _ => 0))), (q15, .inl (cs 1, 40, .inl (fun _ => 0))), (q23, .inl (cs 1, 40, .inl (fun _ => 0))), (q31, .inl (cs 1, 40, .inl (fun _ => 0))), (q39, .inl (cs 1, 40, .inl (fun _ => 0))), (q47, .inl (cs 2, 8, .inr (.inl (fun _ => 0)))), (q55, .inl (cs 1, 20, .inl (fun _ => 0))), (q63, .inl (cs 1, 20, .inl (fun _ => 0)))] := hD
  refine va_putF (ci := 0) (v := .ref q63) (ty := tyX0 11) (C := RX0) (T := TX0) (N := 12) hx hb hT hu0 tyX0 tyX0_ok nmX0 hown hK.1 hP hD hS 0 rfl rfl 11 (by decide) (hT _ tw_1_119) (fun _ h9 => h9) rfl hnm rfl (tyX0_ok 11 (by decide)) rfl rfl (Nat.le_of_ble_eq_true rfl) dX0_init_65 (fun H locs hP hD hS => ?_)
  have hP : va_P D vwCl [(a, .inr (0, [.int 0, .ref q7, .ref q15, .ref q23, .ref q31, .ref q39, .ref q47, .long 0, .long 0, .int 0, .ref q55, .ref q63])), (q7, .inl (cs 1, 40, .inl (fun _ => 0))), (q15, .inl (cs 1, 40, .inl (fun _ => 0))), (q23, .inl (cs 1, 40, .inl (fun _ => 0))), (q31, .inl (cs 1, 40, .inl (fun _ => 0))), (q39, .inl (cs 1, 40, .inl (fun _ => 0))), (q47, .inl (cs 2, 8, .inr (.inl (fun _ => 0)))), (q55, .inl (cs 1, 20, .inl (fun _ => 0))), (q63, .inl (cs 1, 20, .inl (fun _ => 0)))] H := hP
  have hD : va_D A [(a, .inr (0, [.int 0, .ref q7, .ref q15, .ref q23, .ref q31, .ref q39, .ref q47, .long 0, .long 0, .int 0, .ref q55, .ref q63])), (q7, .inl (cs 1, 40, .inl (fun _ => 0))), (q15, .inl (cs 1, 40, .inl (fun _ => 0))), (q23, .inl (cs 1, 40, .inl (fun _ => 0))), (q31, .inl (cs 1, 40, .inl (fun _ => 0))), (q39, .inl (cs 1, 40, .inl (fun _ => 0))), (q47, .inl (cs 2, 8, .inr (.inl (fun _ => 0)))), (q55, .inl (cs 1, 20, .inl (fun _ => 0))), (q63, .inl (cs 1, 20, .inl (fun _ => 0)))] := hD
  exact hret _ _ _ _ ⟨_, _, _, _, _, _, _, _, rfl⟩ hP hD hS (fun Qc hq => W.vret hx hb hr hq hS.2.2 dX0_init_68 hlocks)

set_option maxHeartbeats 8000000 in
set_option maxRecDepth 100000 in
theorem c_X4_init (l : Launch) {D : va_G} {cs : Nat → ClassId} (a : Nat) : CtN l yX4_init cX4_init 1 1 12 5 134 D cs [.ref a] [(a, .inr (4, [.int 0, .int 0, .null, .null, .null, .null, .null, .int 0, .int 0]))] (fun w1 => ∃ q7 q15 q23 q31 q39 : Nat, w1 = [(a, .inr (4, [.int 0, .int 0, .ref q7, .ref q15, .ref q23, .ref q31, .ref q39, .int 0, .int 0])), (q7, .inl (cs 1, 40, .inl (fun _ => 0))), (q15, .inl (cs 1, 40, .inl (fun _ => 0))), (q23, .inl (cs 1, 40, .inl (fun _ => 0))), (q31, .inl (cs 1, 7, .inl (fun _ => 0))), (q39, .inl (cs 1, 7, .inl (fun _ => 0)))]) := by
  refine CtN.ofW (by decide) (Nat.le_of_ble_eq_true rfl) ?_
  intro p e s m0 below meth c A Q ls args hx hb hr hml hlocks hown hts hK hKI hP hD hSS hS hA hl hnm hret
  have hT : ∀ w ∈ TBL, w.before args s = true := fun w h => hts w (List.mem_cons_of_mem _ h)
  have Fl0 : Fl p m0 c cX4_init 1 s args RX4 D cs A := ⟨hx, hb, hml, hown, hT, hK, hSS⟩
  have hown : s.vm.findClass RX4 = some m0.cls := hown
  have hl : lv_has ls 1 [(0, .ref a)] := hl
  refine lv_aload_n hx hb dX4_init_0 rfl (lv_at hl 0 rfl) ?_
  refine W.objInit hx hb hown (hT _ tw_1_151) (hT _ tw_1_35) (hT _ tw_1_36) rfl (by rw [hml]; exact hl.1) rfl dX4_init_1 (Nat.le_of_ble_eq_true rfl) (Nat.le_of_ble_eq_true rfl) ?_
  refine W.eq (g2 := F0 m0 4 ls []) rfl ?_
  refine lv_aload_n hx hb dX4_init_4 rfl (lv_at hl 0 rfl) ?_
  refine lv_bipush (v := (40 : Int32)) hx hb dX4_init_5 (by decide) ?_
  refine rnI hx hb hT tw_1_86 hK hP hD hS hA 40 (by decide) (by decide) (Nat.le_of_ble_eq_true rfl) (Nat.le_of_ble_eq_true rfl) (Nat.le_of_ble_eq_true rfl) dX4_init_7 (fun q7 H hP hD => ?_)
  intro hS
  have hP : va_P D vwCl [(a, .inr (4, [.int 0, .int 0, .null, .null, .null, .null, .null, .int 0, .int 0])), (q7, .inl (cs 1, 40, .inl (fun _ => 0)))] H := hP
  have hD : va_D A [(a, .inr (4, [.int 0, .int 0, .null, .null, .null, .null, .null, .int 0, .int 0])), (q7, .inl (cs 1, 40, .inl (fun _ => 0)))] := hD
  refine va_putF (ci := 4) (v := .ref q7) (ty := tyX4 2) (C := RX4) (T := TX4) (N := 9) hx hb hT hu4 tyX4 tyX4_ok nmX4 hown hK.1 hP hD hS 0 rfl rfl 2 (by decide) (hT _ tw_1_155) (fun _ h9 => h9) rfl hnm rfl (tyX4_ok 2 (by decide)) rfl rfl (Nat.le_of_ble_eq_true rfl) dX4_init_9 (fun H locs hP hD hS => ?_)
  have hP : va_P D vwCl [(a, .inr (4, [.int 0, .int 0, .ref q7, .null, .null, .null, .null, .int 0, .int 0])), (q7, .inl (cs 1, 40, .inl (fun _ => 0)))] H := hP
  have hD : va_D A [(a, .inr (4, [.int 0, .int 0, .ref q7, .null, .null, .null, .null, .int 0, .int 0])), (q7, .inl (cs 1, 40, .inl (fun _ => 0)))] := hD
  refine lv_aload_n hx hb dX4_init_12 rfl (lv_at hl 0 rfl) ?_
  refine lv_bipush (v := (40 : Int32)) hx hb dX4_init_13 (by decide) ?_
  refine rnI hx hb hT tw_1_86 hK hP hD hS hA 40 (by decide) (by decide) (Nat.le_of_ble_eq_true rfl) (Nat.le_of_ble_eq_true rfl) (Nat.le_of_ble_eq_true rfl) dX4_init_15 (fun q15 H hP hD => ?_)
  intro hS
  have hP : va_P D vwCl [(a, .inr (4, [.int 0, .int 0, .ref q7, .null, .null, .null, .null, .int 0, .int 0])), (q7, .inl (cs 1, 40, .inl (fun _ => 0))), (q15, .inl (cs 1, 40, .inl (fun _ => 0)))] H := hP
  have hD : va_D A [(a, .inr (4, [.int 0, .int 0, .ref q7, .null, .null, .null, .null, .int 0, .int 0])), (q7, .inl (cs 1, 40, .inl (fun _ => 0))), (q15, .inl (cs 1, 40, .inl (fun _ => 0)))] := hD
  refine va_putF (ci := 4) (v := .ref q15) (ty := tyX4 3) (C := RX4) (T := TX4) (N := 9) hx hb hT hu4 tyX4 tyX4_ok nmX4 hown hK.1 hP hD hS 0 rfl rfl 3 (by decide) (hT _ tw_1_156) (fun _ h9 => h9) rfl hnm rfl (tyX4_ok 3 (by decide)) rfl rfl (Nat.le_of_ble_eq_true rfl) dX4_init_17 (fun H locs hP hD hS => ?_)
  have hP : va_P D vwCl [(a, .inr (4, [.int 0, .int 0, .ref q7, .ref q15, .null, .null, .null, .int 0, .int 0])), (q7, .inl (cs 1, 40, .inl (fun _ => 0))), (q15, .inl (cs 1, 40, .inl (fun _ => 0)))] H := hP
  have hD : va_D A [(a, .inr (4, [.int 0, .int 0, .ref q7, .ref q15, .null, .null, .null, .int 0, .int 0])), (q7, .inl (cs 1, 40, .inl (fun _ => 0))), (q15, .inl (cs 1, 40, .inl (fun _ => 0)))] := hD
  refine lv_aload_n hx hb dX4_init_20 rfl (lv_at hl 0 rfl) ?_
  refine lv_bipush (v := (40 : Int32)) hx hb dX4_init_21 (by decide) ?_
  refine rnI hx hb hT tw_1_86 hK hP hD hS hA 40 (by decide) (by decide) (Nat.le_of_ble_eq_true rfl) (Nat.le_of_ble_eq_true rfl) (Nat.le_of_ble_eq_true rfl) dX4_init_23 (fun q23 H hP hD => ?_)
  intro hS
  have hP : va_P D vwCl [(a, .inr (4, [.int 0, .int 0, .ref q7, .ref q15, .null, .null, .null, .int 0, .int 0])), (q7, .inl (cs 1, 40, .inl (fun _ => 0))), (q15, .inl (cs 1, 40, .inl (fun _ => 0))), (q23, .inl (cs 1, 40, .inl (fun _ => 0)))] H := hP
  have hD : va_D A [(a, .inr (4, [.int 0, .int 0, .ref q7, .ref q15, .null, .null, .null, .int 0, .int 0])), (q7, .inl (cs 1, 40, .inl (fun _ => 0))), (q15, .inl (cs 1, 40, .inl (fun _ => 0))), (q23, .inl (cs 1, 40, .inl (fun _ => 0)))] := hD
  refine va_putF (ci := 4) (v := .ref q23) (ty := tyX4 4) (C := RX4) (T := TX4) (N := 9) hx hb hT hu4 tyX4 tyX4_ok nmX4 hown hK.1 hP hD hS 0 rfl rfl 4 (by decide) (hT _ tw_1_157) (fun _ h9 => h9) rfl hnm rfl (tyX4_ok 4 (by decide)) rfl rfl (Nat.le_of_ble_eq_true rfl) dX4_init_25 (fun H locs hP hD hS => ?_)
  have hP : va_P D vwCl [(a, .inr (4, [.int 0, .int 0, .ref q7, .ref q15, .ref q23, .null, .null, .int 0, .int 0])), (q7, .inl (cs 1, 40, .inl (fun _ => 0))), (q15, .inl (cs 1, 40, .inl (fun _ => 0))), (q23, .inl (cs 1, 40, .inl (fun _ => 0)))] H := hP
  have hD : va_D A [(a, .inr (4, [.int 0, .int 0, .ref q7, .ref q15, .ref q23, .null, .null, .int 0, .int 0])), (q7, .inl (cs 1, 40, .inl (fun _ => 0))), (q15, .inl (cs 1, 40, .inl (fun _ => 0))), (q23, .inl (cs 1, 40, .inl (fun _ => 0)))] := hD
  refine lv_aload_n hx hb dX4_init_28 rfl (lv_at hl 0 rfl) ?_
  refine lv_bipush (v := (7 : Int32)) hx hb dX4_init_29 (by decide) ?_
  refine rnI hx hb hT tw_1_86 hK hP hD hS hA 7 (by decide) (by decide) (Nat.le_of_ble_eq_true rfl) (Nat.le_of_ble_eq_true rfl) (Nat.le_of_ble_eq_true rfl) dX4_init_31 (fun q31 H hP hD => ?_)
  intro hS
  have hP : va_P D vwCl [(a, .inr (4, [.int 0, .int 0, .ref q7, .ref q15, .ref q23, .null, .null, .int 0, .int 0])), (q7, .inl (cs 1, 40, .inl (fun _ => 0))), (q15, .inl (cs 1, 40, .inl (fun _ => 0))), (q23, .inl (cs 1, 40, .inl (fun _ => 0))), (q31, .inl (cs 1, 7, .inl (fun _ => 0)))] H := hP
  have hD : va_D A [(a, .inr (4, [.int 0, .int 0, .ref q7, .ref q15, .ref q23, .null, .null, .int 0, .int 0])), (q7, .inl (cs 1, 40, .inl (fun _ => 0))), (q15, .inl (cs 1, 40, .inl (fun _ => 0))), (q23, .inl (cs 1, 40, .inl (fun _ => 0))), (q31, .inl (cs 1, 7, .inl (fun _ => 0)))] := hD
  refine va_putF (ci := 4) (v := .ref q31) (ty := tyX4 5) (C := RX4) (T := TX4) (N := 9) hx hb hT hu4 tyX4 tyX4_ok nmX4 hown hK.1 hP hD hS 0 rfl rfl 5 (by decide) (hT _ tw_1_158) (fun _ h9 => h9) rfl hnm rfl (tyX4_ok 5 (by decide)) rfl rfl (Nat.le_of_ble_eq_true rfl) dX4_init_33 (fun H locs hP hD hS => ?_)
  have hP : va_P D vwCl [(a, .inr (4, [.int 0, .int 0, .ref q7, .ref q15, .ref q23, .ref q31, .null, .int 0, .int 0])), (q7, .inl (cs 1, 40, .inl (fun _ => 0))), (q15, .inl (cs 1, 40, .inl (fun _ => 0))), (q23, .inl (cs 1, 40, .inl (fun _ => 0))), (q31, .inl (cs 1, 7, .inl (fun _ => 0)))] H := hP
  have hD : va_D A [(a, .inr (4, [.int 0, .int 0, .ref q7, .ref q15, .ref q23, .ref q31, .null, .int 0, .int 0])), (q7, .inl (cs 1, 40, .inl (fun _ => 0))), (q15, .inl (cs 1, 40, .inl (fun _ => 0))), (q23, .inl (cs 1, 40, .inl (fun _ => 0))), (q31, .inl (cs 1, 7, .inl (fun _ => 0)))] := hD
  refine lv_aload_n hx hb dX4_init_36 rfl (lv_at hl 0 rfl) ?_
  refine lv_bipush (v := (7 : Int32)) hx hb dX4_init_37 (by decide) ?_
  refine rnI hx hb hT tw_1_86 hK hP hD hS hA 7 (by decide) (by decide) (Nat.le_of_ble_eq_true rfl) (Nat.le_of_ble_eq_true rfl) (Nat.le_of_ble_eq_true rfl) dX4_init_39 (fun q39 H hP hD => ?_)
  intro hS
  have hP : va_P D vwCl [(a, .inr (4, [.int 0, .int 0, .ref q7, .ref q15, .ref q23, .ref q31, .null, .int 0, .int 0])), (q7, .inl (cs 1, 40, .inl (fun _ => 0))), (q15, .inl (cs 1, 40, .inl (fun _ => 0))), (q23, .inl (cs 1, 40, .inl (fun _ => 0))), (q31, .inl (cs 1, 7, .inl (fun _ => 0))), (q39, .inl (cs 1, 7, .inl (fun _ => 0)))] H := hP
  have hD : va_D A [(a, .inr (4, [.int 0, .int 0, .ref q7, .ref q15, .ref q23, .ref q31, .null, .int 0, .int 0])), (q7, .inl (cs 1, 40, .inl (fun _ => 0))), (q15, .inl (cs 1, 40, .inl (fun _ => 0))), (q23, .inl (cs 1, 40, .inl (fun _ => 0))), (q31, .inl (cs 1, 7, .inl (fun _ => 0))), (q39, .inl (cs 1, 7, .inl (fun _ => 0)))] := hD
  refine va_putF (ci := 4) (v := .ref q39) (ty := tyX4 6) (C := RX4) (T := TX4) (N := 9) hx hb hT hu4 tyX4 tyX4_ok nmX4 hown hK.1 hP hD hS 0 rfl rfl 6 (by decide) (hT _ tw_1_161) (fun _ h9 => h9) rfl hnm rfl (tyX4_ok 6 (by decide)) rfl rfl (Nat.le_of_ble_eq_true rfl) dX4_init_41 (fun H locs hP hD hS => ?_)
  have hP : va_P D vwCl [(a, .inr (4, [.int 0, .int 0, .ref q7, .ref q15, .ref q23, .ref q31, .ref q39, .int 0, .int 0])), (q7, .inl (cs 1, 40, .inl (fun _ => 0))), (q15, .inl (cs 1, 40, .inl (fun _ => 0))), (q23, .inl (cs 1, 40, .inl (fun _ => 0))), (q31, .inl (cs 1, 7, .inl (fun _ => 0))), (q39, .inl (cs 1, 7, .inl (fun _ => 0)))] H := hP
  have hD : va_D A [(a, .inr (4, [.int 0, .int 0, .ref q7, .ref q15, .ref q23, .ref q31, .ref q39, .int 0, .int 0])), (q7, .inl (cs 1, 40, .inl (fun _ => 0))), (q15, .inl (cs 1, 40, .inl (fun _ => 0))), (q23, .inl (cs 1, 40, .inl (fun _ => 0))), (q31, .inl (cs 1, 7, .inl (fun _ => 0))), (q39, .inl (cs 1, 7, .inl (fun _ => 0)))] := hD
  exact hret _ _ _ _ ⟨_, _, _, _, _, rfl⟩ hP hD hS (fun Qc hq => W.vret hx hb hr hq hS.2.2 dX4_init_44 hlocks)

set_option maxHeartbeats 8000000 in
set_option maxRecDepth 100000 in
theorem c_X7_init (l : Launch) {D : va_G} {cs : Nat → ClassId} (a : Nat) (b : Nat) : CtN l yX7_init cX7_init 2 1 12 0 0 D cs [.ref a, .ref b] [(a, .inr (7, [.null, .int 0, .int 0, .int 0]))] (fun w1 => w1 = [(a, .inr (7, [.ref b, .int 0, .int 0, .int 0]))]) := by
  refine CtN.ofW (by decide) (Nat.le_of_ble_eq_true rfl) ?_
  intro p e s m0 below meth c A Q ls args hx hb hr hml hlocks hown hts hK hKI hP hD hSS hS hA hl hnm hret
  have hT : ∀ w ∈ TBL, w.before args s = true := fun w h => hts w (List.mem_cons_of_mem _ h)
  have Fl0 : Fl p m0 c cX7_init 2 s args RX7 D cs A := ⟨hx, hb, hml, hown, hT, hK, hSS⟩
  have hown : s.vm.findClass RX7 = some m0.cls := hown
  have hl : lv_has ls 2 [(0, .ref a), (1, .ref b)] := hl
  refine lv_aload_n hx hb dX7_init_0 rfl (lv_at hl 0 rfl) ?_
  refine W.objInit hx hb hown (hT _ tw_2_161) (hT _ tw_1_35) (hT _ tw_1_36) rfl (by rw [hml]; exact hl.1) rfl dX7_init_1 (Nat.le_of_ble_eq_true rfl) (Nat.le_of_ble_eq_true rfl) ?_
  refine W.eq (g2 := F0 m0 4 ls []) rfl ?_
  refine lv_aload_n hx hb dX7_init_4 rfl (lv_at hl 0 rfl) ?_
  refine lv_aload_n hx hb dX7_init_5 rfl (lv_at hl 1 rfl) ?_
  refine va_putF (ci := 7) (v := .ref b) (ty := tyX7 0) (C := RX7) (T := TX7) (N := 4) hx hb hT hu7 tyX7 tyX7_ok nmX7 hown hK.1 hP hD hS 0 rfl rfl 0 (by decide) (hT _ tw_2_162) (fun _ h9 => h9) rfl hnm rfl (tyX7_ok 0 (by decide)) rfl rfl (Nat.le_of_ble_eq_true rfl) dX7_init_6 (fun H locs hP hD hS => ?_)
  have hP : va_P D vwCl [(a, .inr (7, [.ref b, .int 0, .int 0, .int 0]))] H := hP
  have hD : va_D A [(a, .inr (7, [.ref b, .int 0, .int 0, .int 0]))] := hD
  exact hret _ _ _ _ rfl hP hD hS (fun Qc hq => W.vret hx hb hr hq hS.2.2 dX7_init_9 hlocks)

set_option maxHeartbeats 8000000 in
set_option maxRecDepth 100000 in
theorem c_X1_init (l : Launch) {D : va_G} {cs : Nat → ClassId} (a : Nat) (b : Nat) (b2 : Nat) : CtN l yX1_init cX1_init 3 1 12 0 0 D cs [.ref a, .ref b, .ref b2] [(a, .inr (1, [.null, .null, .int 0, .int 0, .int 0, .int 0, .int 0, .int 0]))] (fun w1 => w1 = [(a, .inr (1, [.ref b, .ref b2, .int 0, .int 0, .int 0, .int 0, .int 0, .int 0]))]) := by
  refine CtN.ofW (by decide) (Nat.le_of_ble_eq_true rfl) ?_
  intro p e s m0 below meth c A Q ls args hx hb hr hml hlocks hown hts hK hKI hP hD hSS hS hA hl hnm hret
  have hT : ∀ w ∈ TBL, w.before args s = true := fun w h => hts w (List.mem_cons_of_mem _ h)
  have Fl0 : Fl p m0 c cX1_init 3 s args RX1 D cs A := ⟨hx, hb, hml, hown, hT, hK, hSS⟩
  have hown : s.vm.findClass RX1 = some m0.cls := hown
  have hl : lv_has ls 3 [(0, .ref a), (1, .ref b), (2, .ref b2)] := hl
  refine lv_aload_n hx hb dX1_init_0 rfl (lv_at hl 0 rfl) ?_
  refine W.objInit hx hb hown (hT _ tw_2_212) (hT _ tw_1_35) (hT _ tw_1_36) rfl (by rw [hml]; exact hl.1) rfl dX1_init_1 (Nat.le_of_ble_eq_true rfl) (Nat.le_of_ble_eq_true rfl) ?_
  refine W.eq (g2 := F0 m0 4 ls []) rfl ?_
  refine lv_aload_n hx hb dX1_init_4 rfl (lv_at hl 0 rfl) ?_
  refine lv_aload_n hx hb dX1_init_5 rfl (lv_at hl 1 rfl) ?_
  refine va_putF (ci := 1) (v := .ref b) (ty := tyX1 0) (C := RX1) (T := TX1) (N := 8) hx hb hT hu1 tyX1 tyX1_ok nmX1 hown hK.1 hP hD hS 0 rfl rfl 0 (by decide) (hT _ tw_2_213) (fun _ h9 => h9) rfl hnm rfl (tyX1_ok 0 (by decide)) rfl rfl (Nat.le_of_ble_eq_true rfl) dX1_init_6 (fun H locs hP hD hS => ?_)
  have hP : va_P D vwCl [(a, .inr (1, [.ref b, .null, .int 0, .int 0, .int 0, .int 0, .int 0, .int 0]))] H := hP
  have hD : va_D A [(a, .inr (1, [.ref b, .null, .int 0, .int 0, .int 0, .int 0, .int 0, .int 0]))] := hD
  refine lv_aload_n hx hb dX1_init_9 rfl (lv_at hl 0 rfl) ?_
  refine lv_aload_n hx hb dX1_init_10 rfl (lv_at hl 2 rfl) ?_
  refine va_putF (ci := 1) (v := .ref b2) (ty := tyX1 1) (C := RX1) (T := TX1) (N := 8) hx hb hT hu1 tyX1 tyX1_ok nmX1 hown hK.1 hP hD hS 0 rfl rfl 1 (by decide) (hT _ tw_2_214) (fun _ h9 => h9) rfl hnm rfl (tyX1_ok 1 (by decide)) rfl rfl (Nat.le_of_ble_eq_true rfl) dX1_init_11 (fun H locs hP hD hS => ?_)
  have hP : va_P D vwCl [(a, .inr (1, [.ref b, .ref b2, .int 0, .int 0, .int 0, .int 0, .int 0, .int 0]))] H := hP
  have hD : va_D A [(a, .inr (1, [.ref b, .ref b2, .int 0, .int 0, .int 0, .int 0, .int 0, .int 0]))] := hD
  exact hret _ _ _ _ rfl hP hD hS (fun Qc hq => W.vret hx hb hr hq hS.2.2 dX1_init_14 hlocks)

set_option maxHeartbeats 8000000 in
set_option maxRecDepth 100000 in
theorem c_X3_init (l : Launch) {D : va_G} {cs : Nat → ClassId} (a : Nat) (b : Nat) (b2 : Nat) : CtN l yX3_init cX3_init 3 2 33 1 4 D cs [.ref a, .ref b, .ref b2] [(a, .inr (3, [.null, .null, .null, .int 0, .int 0]))] (fun w1 => ∃ q15 : Nat, w1 = [(a, .inr (3, [.ref b, .ref b2, .ref q15, .int 0, .int 0])), (q15, .inr (7, [.ref b2, .int 0, .int 0, .int 0]))]) := by
  refine CtN.ofW (by decide) (Nat.le_of_ble_eq_true rfl) ?_
  intro p e s m0 below meth c A Q ls args hx hb hr hml hlocks hown hts hK hKI hP hD hSS hS hA hl hnm hret
  have hT : ∀ w ∈ TBL, w.before args s = true := fun w h => hts w (List.mem_cons_of_mem _ h)
  have Fl0 : Fl p m0 c cX3_init 3 s args RX3 D cs A := ⟨hx, hb, hml, hown, hT, hK, hSS⟩
  have hown : s.vm.findClass RX3 = some m0.cls := hown
  have hl : lv_has ls 3 [(0, .ref a), (1, .ref b), (2, .ref b2)] := hl
  refine lv_aload_n hx hb dX3_init_0 rfl (lv_at hl 0 rfl) ?_
  refine W.objInit hx hb hown (hT _ tw_2_186) (hT _ tw_1_35) (hT _ tw_1_36) rfl (by rw [hml]; exact hl.1) rfl dX3_init_1 (Nat.le_of_ble_eq_true rfl) (Nat.le_of_ble_eq_true rfl) ?_
  refine W.eq (g2 := F0 m0 4 ls []) rfl ?_
  refine lv_aload_n hx hb dX3_init_4 rfl (lv_at hl 0 rfl) ?_
  refine lv_aload_n hx hb dX3_init_5 rfl (lv_at hl 1 rfl) ?_
  refine va_putF (ci := 3) (v := .ref b) (ty := tyX3 0) (C := RX3) (T := TX3) (N := 5) hx hb hT hu3 tyX3 tyX3_ok nmX3 hown hK.1 hP hD hS 0 rfl rfl 0 (by decide) (hT _ tw_2_189) (fun _ h9 => h9) rfl hnm rfl (tyX3_ok 0 (by decide)) rfl rfl (Nat.le_of_ble_eq_true rfl) dX3_init_6 (fun H locs hP hD hS => ?_)
  have hP : va_P D vwCl [(a, .inr (3, [.ref b, .null, .null, .int 0, .int 0]))] H := hP
  have hD : va_D A [(a, .inr (3, [.ref b, .null, .null, .int 0, .int 0]))] := hD
  refine lv_aload_n hx hb dX3_init_9 rfl (lv_at hl 0 rfl) ?_
  refine lv_aload_n hx hb dX3_init_10 rfl (lv_at hl 2 rfl) ?_
  refine va_putF (ci := 3) (v := .ref b2) (ty := tyX3 1) (C := RX3) (T := TX3) (N := 5) hx hb hT hu3 tyX3 tyX3_ok nmX3 hown hK.1 hP hD hS 0 rfl rfl 1 (by decide) (hT _ tw_2_190) (fun _ h9 => h9) rfl hnm rfl (tyX3_ok 1 (by decide)) rfl rfl (Nat.le_of_ble_eq_true rfl) dX3_init_11 (fun H locs hP hD hS => ?_)
  have hP : va_P D vwCl [(a, .inr (3, [.ref b, .ref b2, .null, .int 0, .int 0]))] H := hP
  have hD : va_D A [(a, .inr (3, [.ref b, .ref b2, .null, .int 0, .int 0]))] := hD
  refine lv_aload_n hx hb dX3_init_14 rfl (lv_at hl 0 rfl) ?_
  refine va_new (ci := 7) (fs := [.null, .int 0, .int 0, .int 0]) (C := RX7) (T := TX7) (N := 4) hx hb hT hu7 tyX7 tyX7_ok hown (hT _ tw_2_187) (hT _ tw_2_157) (hT _ tw_1_10) hK.1 hP hD hS hA rfl dfX7 (Nat.le_of_ble_eq_true rfl) (Nat.le_of_ble_eq_true rfl) dX3_init_15 (fun q15 H hP hD hS => ?_)
  have hP : va_P D vwCl [(a, .inr (3, [.ref b, .ref b2, .null, .int 0, .int 0])), (q15, .inr (7, [.null, .int 0, .int 0, .int 0]))] H := hP
  have hD : va_D A [(a, .inr (3, [.ref b, .ref b2, .null, .int 0, .int 0])), (q15, .inr (7, [.null, .int 0, .int 0, .int 0]))] := hD
  refine lv_dup hx hb dX3_init_18 rfl ?_
  refine lv_aload_n hx hb dX3_init_19 rfl (lv_at hl 2 rfl) ?_
  refine rcI (X := [(a, .inr (3, [.ref b, .ref b2, .null, .int 0, .int 0])), (q15, .inr (7, [.null, .int 0, .int 0, .int 0]))]) (pl := []) (wc := [(q15, .inr (7, [.null, .int 0, .int 0, .int 0]))]) (wr := [(a, .inr (3, [.ref b, .ref b2, .null, .int 0, .int 0]))]) (As := [.ref b2]) (rest := [.ref q15, .ref a]) Fl0 hKI (c_X7_init l q15 b2) (by rw [List.append_nil]; exact hP) (by rw [List.append_nil]; exact hD) hS hA [1] [0] rfl rfl rfl rfl (by decide) tw_2_160 tw_2_188 tw_2_159 tw_1_10 yi_X7_init rfl ⟨(Nat.le_of_ble_eq_true rfl), (Nat.le_of_ble_eq_true rfl)⟩ ⟨(Nat.le_of_ble_eq_true rfl), (Nat.le_of_ble_eq_true rfl)⟩ rfl hl.1 rfl (Nat.le_of_ble_eq_true rfl) dX3_init_20 (fun H locs w1 hw hPn hDn hSn => ?_)
  subst hw
  rw [List.append_nil] at hPn hDn
  have hS := hSn
  have hP := hPn
  have hD := hDn
  have hP : va_P D vwCl [(a, .inr (3, [.ref b, .ref b2, .null, .int 0, .int 0])), (q15, .inr (7, [.ref b2, .int 0, .int 0, .int 0]))] H := hP
  have hD : va_D A [(a, .inr (3, [.ref b, .ref b2, .null, .int 0, .int 0])), (q15, .inr (7, [.ref b2, .int 0, .int 0, .int 0]))] := hD
  refine va_putF (ci := 3) (v := .ref q15) (ty := tyX3 2) (C := RX3) (T := TX3) (N := 5) hx hb hT hu3 tyX3 tyX3_ok nmX3 hown hK.1 hP hD hS 0 rfl rfl 2 (by decide) (hT _ tw_2_191) (fun _ h9 => h9) rfl hnm rfl (tyX3_ok 2 (by decide)) rfl rfl (Nat.le_of_ble_eq_true rfl) dX3_init_23 (fun H locs hP hD hS => ?_)
  have hP : va_P D vwCl [(a, .inr (3, [.ref b, .ref b2, .ref q15, .int 0, .int 0])), (q15, .inr (7, [.ref b2, .int 0, .int 0, .int 0]))] H := hP
  have hD : va_D A [(a, .inr (3, [.ref b, .ref b2, .ref q15, .int 0, .int 0])), (q15, .inr (7, [.ref b2, .int 0, .int 0, .int 0]))] := hD
  exact hret _ _ _ _ ⟨_, rfl⟩ hP hD hS (fun Qc hq => W.vret hx hb hr hq hS.2.2 dX3_init_26 hlocks)
