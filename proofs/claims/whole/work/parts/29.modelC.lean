/-! the reference's methods -/
noncomputable def D_X10_wayTo (x1 : Int32) (x2 : Int32) (x : MM) : Option Int32 := bnd (if 0 ≤ (x1 - (gi x 1 21)) then (x1 - (gi x 1 21)) else 0 - (x1 - (gi x 1 21))) (fun v1 => bnd (if 0 ≤ (x2 - (gi x 1 22)) then (x2 - (gi x 1 22)) else 0 - (x2 - (gi x 1 22))) (fun v2 => bnd (if v1 < v2 then v2 else v1) (fun v3 => if (gi x 1 0) = 0 then none else some ((((v3 + (gi x 1 0)) - (1 : Int32)) / (gi x 1 0))))))
set_option maxHeartbeats 4000000 in
set_option maxRecDepth 100000 in
theorem c_X10_wayTo (l : Launch) {D : va_G} {cs : Nat → ClassId} {adx : Nat → Nat} {Wf : MM → va_W} (hLx : Ln 9 adx (xsh cs adx) Wf) (hAd : ∀ a0_ b0_ : MM, (Wf a0_).map (fun q => q.1) = (Wf b0_).map (fun q => q.1)) (x : MM) (x1 : Int32) (x2 : Int32) {rr : Int32} (hD : D_X10_wayTo x1 x2 x = some (rr)) : Ct l yX10_wayTo cX10_wayTo 4 (some .int) 1 24 D cs [.ref (adx 0), .int x1, .int x2] (Wf x) (Wf x) (some (.int rr)) := by
  refine Ct.ofW (by decide) (Nat.le_of_ble_eq_true rfl) rfl ?_
  intro p e s m0 below meth c A Q ls args hx hb hr hml hlocks hown hts hK hP hD1 hSS hS hA1 hl hret
  have hT : ∀ w ∈ TBL, w.before args s = true := fun w h => hts w (List.mem_cons_of_mem _ h)
  have Fx0 : Fx p l m0 c cX10_wayTo 4 s args yX10_wayTo cX10_wayTo 4 (some .int) D cs A := ⟨hx, hb, hml, hown, hts, hK, hSS⟩
  have hown : s.vm.findClass RX10 = some m0.cls := hown
  have hl : lv_has ls 4 [(0, .ref (adx 0)), (1, .int x1), (2, .int x2)] := hl
  unfold D_X10_wayTo at hD
  refine lv_iload_n hx hb dX10_wayTo_0 rfl (lv_at hl 1 rfl) ?_
  refine lv_aload_n hx hb dX10_wayTo_1 rfl (lv_at hl 0 rfl) ?_
  refine rg  hx hb hT hu10 hown hK hP hLx 0 0 (Nat.le_of_ble_eq_true rfl) (xs0 _ _) rfl (Nat.le_of_ble_eq_true rfl) (Fx0.T tw_6_215) rfl (v := .ref (adx 1)) rfl dX10_wayTo_2 ?_
  refine lv_bipush (v := (21 : Int32)) hx hb dX10_wayTo_5 (by decide) ?_
  refine riald  hx hb hK hP hLx 1 (Nat.le_of_ble_eq_true rfl) (xs1 _ _) (by decide) (j := 21) (by decide) dX10_wayTo_7 ?_
  refine lv_isub hx hb dX10_wayTo_8 ?_
  refine va_mabs hx hb (hml.trans hl.1.symm) hown (Fx0.T tw_8_26) (Fx0.T tw_4_75) (Fx0.T tw_1_14) (Fx0.T tw_4_76) (Nat.le_of_ble_eq_true rfl) (Nat.le_of_ble_eq_true rfl) (Nat.le_refl _) (Nat.le_refl _) dX10_wayTo_9 ?_
  obtain ⟨v1, ev1, hD⟩ := bnd_el hD
  refine lv_nmi ev1 ?_
  refine lv_iload_n hx hb dX10_wayTo_12 rfl (lv_at hl 2 rfl) ?_
  refine lv_aload_n hx hb dX10_wayTo_13 rfl (lv_at hl 0 rfl) ?_
  refine rg  hx hb hT hu10 hown hK hP hLx 0 0 (Nat.le_of_ble_eq_true rfl) (xs0 _ _) rfl (Nat.le_of_ble_eq_true rfl) (Fx0.T tw_6_215) rfl (v := .ref (adx 1)) rfl dX10_wayTo_14 ?_
  refine lv_bipush (v := (22 : Int32)) hx hb dX10_wayTo_17 (by decide) ?_
  refine riald  hx hb hK hP hLx 1 (Nat.le_of_ble_eq_true rfl) (xs1 _ _) (by decide) (j := 22) (by decide) dX10_wayTo_19 ?_
  refine lv_isub hx hb dX10_wayTo_20 ?_
  refine va_mabs hx hb (hml.trans hl.1.symm) hown (Fx0.T tw_8_26) (Fx0.T tw_4_75) (Fx0.T tw_1_14) (Fx0.T tw_4_76) (Nat.le_of_ble_eq_true rfl) (Nat.le_of_ble_eq_true rfl) (Nat.le_refl _) (Nat.le_refl _) dX10_wayTo_21 ?_
  obtain ⟨v2, ev2, hD⟩ := bnd_el hD
  refine lv_nmi ev2 ?_
  refine va_mmax hx hb (hml.trans hl.1.symm) hown (Fx0.T tw_8_75) (Fx0.T tw_4_94) (Fx0.T tw_1_14) (Fx0.T tw_4_95) (Nat.le_of_ble_eq_true rfl) (Nat.le_of_ble_eq_true rfl) (Nat.le_refl _) (Nat.le_refl _) dX10_wayTo_24 ?_
  obtain ⟨v3, ev3, hD⟩ := bnd_el hD
  refine lv_nmi ev3 ?_
  refine lv_istore_n (lv' := [(3, .int v3), (0, .ref (adx 0)), (1, .int x1), (2, .int x2)]) hx hb dX10_wayTo_27 rfl hl (by decide) rfl (fun ls hl => ?_)
  refine lv_iload_n hx hb dX10_wayTo_28 rfl (lv_at hl 0 rfl) ?_
  refine lv_aload_n hx hb dX10_wayTo_29 rfl (lv_at hl 1 rfl) ?_
  refine rg  hx hb hT hu10 hown hK hP hLx 0 0 (Nat.le_of_ble_eq_true rfl) (xs0 _ _) rfl (Nat.le_of_ble_eq_true rfl) (Fx0.T tw_6_215) rfl (v := .ref (adx 1)) rfl dX10_wayTo_30 ?_
  refine lv_iconst (v := (0 : Int32)) hx hb dX10_wayTo_33 (by decide) ?_
  refine riald  hx hb hK hP hLx 1 (Nat.le_of_ble_eq_true rfl) (xs1 _ _) (by decide) (j := 0) (by decide) dX10_wayTo_34 ?_
  refine lv_iadd hx hb dX10_wayTo_35 ?_
  refine lv_iconst (v := (1 : Int32)) hx hb dX10_wayTo_36 (by decide) ?_
  refine lv_isub hx hb dX10_wayTo_37 ?_
  refine lv_aload_n hx hb dX10_wayTo_38 rfl (lv_at hl 1 rfl) ?_
  refine rg  hx hb hT hu10 hown hK hP hLx 0 0 (Nat.le_of_ble_eq_true rfl) (xs0 _ _) rfl (Nat.le_of_ble_eq_true rfl) (Fx0.T tw_6_215) rfl (v := .ref (adx 1)) rfl dX10_wayTo_39 ?_
  refine lv_iconst (v := (0 : Int32)) hx hb dX10_wayTo_42 (by decide) ?_
  refine riald  hx hb hK hP hLx 1 (Nat.le_of_ble_eq_true rfl) (xs1 _ _) (by decide) (j := 0) (by decide) dX10_wayTo_43 ?_
  obtain ⟨h4, hD⟩ := gd_el hD
  refine lv_idiv hx hb dX10_wayTo_44 h4 ?_
  obtain rfl := es1 hD
  exact hret _ _ _ hP hS (fun Qc hq => W.iret hx hb hr hq hS.2.2 dX10_wayTo_45 hlocks)

noncomputable def D_X10_goes (x1 : Int32) (x2 : Int32) (x3 : Int32) (x4 : Int32) (x : MM) : Option MM := b1 (D_X10_wayTo x2 x3 x) (fun v1 => bnd ((v1 + x4)) (fun v3 => bnd (si x 1 21 x2) (fun m4 => bnd (si m4 1 22 x3) (fun m5 => bnd (si m5 1 23 ((gi m5 1 23) + v3)) (fun m6 => bnd (((37 : Int32) + x1)) (fun v7 => if v7 < 0 ∨ 640 ≤ v7.toNatClampNeg then none else (if v7 < 0 ∨ 640 ≤ v7.toNatClampNeg then none else (bnd (si m6 1 v7.toNatClampNeg ((gi m6 1 v7.toNatClampNeg) + v3)) (fun m10 => some (m10))))))))))
set_option maxHeartbeats 4000000 in
set_option maxRecDepth 100000 in
theorem c_X10_goes (l : Launch) {D : va_G} {cs : Nat → ClassId} {adx : Nat → Nat} {Wf : MM → va_W} (hLx : Ln 9 adx (xsh cs adx) Wf) (hAd : ∀ a0_ b0_ : MM, (Wf a0_).map (fun q => q.1) = (Wf b0_).map (fun q => q.1)) (x : MM) (x1 : Int32) (x2 : Int32) (x3 : Int32) (x4 : Int32) {x' : MM} (hD : D_X10_goes x1 x2 x3 x4 x = some (x')) : Ct l yX10_goes cX10_goes 6 none 2 47 D cs [.ref (adx 0), .int x1, .int x2, .int x3, .int x4] (Wf x) (Wf x') (none) := by
  refine Ct.ofW (by decide) (Nat.le_of_ble_eq_true rfl) (hAd _ _) ?_
  intro p e s m0 below meth c A Q ls args hx hb hr hml hlocks hown hts hK hP hD1 hSS hS hA1 hl hret
  have hT : ∀ w ∈ TBL, w.before args s = true := fun w h => hts w (List.mem_cons_of_mem _ h)
  have Fx0 : Fx p l m0 c cX10_goes 6 s args yX10_goes cX10_goes 6 none D cs A := ⟨hx, hb, hml, hown, hts, hK, hSS⟩
  have hown : s.vm.findClass RX10 = some m0.cls := hown
  have hl : lv_has ls 6 [(0, .ref (adx 0)), (1, .int x1), (2, .int x2), (3, .int x3), (4, .int x4)] := hl
  unfold D_X10_goes at hD
  refine lv_aload_n hx hb dX10_goes_0 rfl (lv_at hl 0 rfl) ?_
  refine lv_iload_n hx hb dX10_goes_1 rfl (lv_at hl 2 rfl) ?_
  refine lv_iload_n hx hb dX10_goes_2 rfl (lv_at hl 3 rfl) ?_
  obtain ⟨v1, z2, hD⟩ := b1_el hD
  refine rcV  (As := [.int x2, .int x3]) (rest := []) Fx0 (c_X10_wayTo l hLx hAd x x2 x3 z2) hP (hD1 _ (hAd _ _)) hS (hA1 _ _ (hAd _ _) hS.1) hLx (Nat.le_of_ble_eq_true rfl) (xs0 _ _) rfl tw_8_119 tw_8_116 tw_8_118 ts_129 tw_1_13 yd_X10_wayTo ⟨(Nat.le_of_ble_eq_true rfl), (Nat.le_of_ble_eq_true rfl)⟩ rfl hl.1 rfl (Nat.le_of_ble_eq_true rfl) dX10_goes_3 (fun H locs hP hS => ?_)
  refine lv_iload hx hb dX10_goes_6 (lv_at hl 4 rfl) ?_
  refine lv_iadd hx hb dX10_goes_8 ?_
  obtain ⟨v3, ev3, hD⟩ := bnd_el hD
  refine lv_nmi ev3 ?_
  refine lv_istore (lv' := [(5, .int v3), (0, .ref (adx 0)), (1, .int x1), (2, .int x2), (3, .int x3), (4, .int x4)]) hx hb dX10_goes_9 hl (by decide) rfl (fun ls hl => ?_)
  refine lv_aload_n hx hb dX10_goes_11 rfl (lv_at hl 1 rfl) ?_
  refine rg  hx hb hT hu10 hown hK hP hLx 0 0 (Nat.le_of_ble_eq_true rfl) (xs0 _ _) rfl (Nat.le_of_ble_eq_true rfl) (Fx0.T tw_6_215) rfl (v := .ref (adx 1)) rfl dX10_goes_12 ?_
  refine lv_bipush (v := (21 : Int32)) hx hb dX10_goes_15 (by decide) ?_
  refine lv_iload_n hx hb dX10_goes_17 rfl (lv_at hl 3 rfl) ?_
  obtain ⟨m4, em4, hD⟩ := bnd_el hD
  refine riast  hx hb hK hP (hD1 _ (hAd _ _)) hS hLx 1 (Nat.le_of_ble_eq_true rfl) (fun _ => xs1 _ _) (by decide) (j := 21) (by decide) dX10_goes_18 em4 (fun H locs hP hS => ?_)
  refine lv_aload_n hx hb dX10_goes_19 rfl (lv_at hl 1 rfl) ?_
  refine rg  hx hb hT hu10 hown hK hP hLx 0 0 (Nat.le_of_ble_eq_true rfl) (xs0 _ _) rfl (Nat.le_of_ble_eq_true rfl) (Fx0.T tw_6_215) rfl (v := .ref (adx 1)) rfl dX10_goes_20 ?_
  refine lv_bipush (v := (22 : Int32)) hx hb dX10_goes_23 (by decide) ?_
  refine lv_iload_n hx hb dX10_goes_25 rfl (lv_at hl 4 rfl) ?_
  obtain ⟨m5, em5, hD⟩ := bnd_el hD
  refine riast  hx hb hK hP (hD1 _ (hAd _ _)) hS hLx 1 (Nat.le_of_ble_eq_true rfl) (fun _ => xs1 _ _) (by decide) (j := 22) (by decide) dX10_goes_26 em5 (fun H locs hP hS => ?_)
  refine lv_aload_n hx hb dX10_goes_27 rfl (lv_at hl 1 rfl) ?_
  refine rg  hx hb hT hu10 hown hK hP hLx 0 0 (Nat.le_of_ble_eq_true rfl) (xs0 _ _) rfl (Nat.le_of_ble_eq_true rfl) (Fx0.T tw_6_215) rfl (v := .ref (adx 1)) rfl dX10_goes_28 ?_
  refine lv_bipush (v := (23 : Int32)) hx hb dX10_goes_31 (by decide) ?_
  refine lv_dup2_11 hx hb dX10_goes_33 rfl rfl ?_
  refine riald  hx hb hK hP hLx 1 (Nat.le_of_ble_eq_true rfl) (xs1 _ _) (by decide) (j := 23) (by decide) dX10_goes_34 ?_
  refine lv_iload hx hb dX10_goes_35 (lv_at hl 0 rfl) ?_
  refine lv_iadd hx hb dX10_goes_37 ?_
  obtain ⟨m6, em6, hD⟩ := bnd_el hD
  refine riast  hx hb hK hP (hD1 _ (hAd _ _)) hS hLx 1 (Nat.le_of_ble_eq_true rfl) (fun _ => xs1 _ _) (by decide) (j := 23) (by decide) dX10_goes_38 em6 (fun H locs hP hS => ?_)
  refine lv_aload_n hx hb dX10_goes_39 rfl (lv_at hl 1 rfl) ?_
  refine rg  hx hb hT hu10 hown hK hP hLx 0 0 (Nat.le_of_ble_eq_true rfl) (xs0 _ _) rfl (Nat.le_of_ble_eq_true rfl) (Fx0.T tw_6_215) rfl (v := .ref (adx 1)) rfl dX10_goes_40 ?_
  refine lv_bipush (v := (37 : Int32)) hx hb dX10_goes_43 (by decide) ?_
  refine lv_iload_n hx hb dX10_goes_45 rfl (lv_at hl 2 rfl) ?_
  refine lv_iadd hx hb dX10_goes_46 ?_
  obtain ⟨v7, ev7, hD⟩ := bnd_el hD
  refine lv_nmi ev7 ?_
  refine lv_dup2_11 hx hb dX10_goes_47 rfl rfl ?_
  obtain ⟨h8, hD⟩ := gd_el hD
  refine riald  hx hb hK hP hLx 1 (Nat.le_of_ble_eq_true rfl) (xs1 _ _) h8 rfl dX10_goes_48 ?_
  refine lv_iload hx hb dX10_goes_49 (lv_at hl 0 rfl) ?_
  refine lv_iadd hx hb dX10_goes_51 ?_
  obtain ⟨h9, hD⟩ := gd_el hD
  obtain ⟨m10, em10, hD⟩ := bnd_el hD
  refine riast  hx hb hK hP (hD1 _ (hAd _ _)) hS hLx 1 (Nat.le_of_ble_eq_true rfl) (fun _ => xs1 _ _) h9 rfl dX10_goes_52 em10 (fun H locs hP hS => ?_)
  obtain rfl := es1 hD
  exact hret _ _ _ hP hS (fun Qc hq => W.vret hx hb hr hq hS.2.2 dX10_goes_53 hlocks)

noncomputable def D_X10_notes_71 (x1 : Int32) (x2 : Int32) (x3 : Int32) (x4 : Int32) (x : MM) : Option (Int32 × MM) := bnd (((480 : Int32) + ((3 : Int32) * (gi x 1 28)))) (fun v5 => if v5 < 0 ∨ 640 ≤ v5.toNatClampNeg then none else (bnd (si x 1 v5.toNatClampNeg ((((10000 : Int32) * x1) + ((100 : Int32) * x2)) + x3)) (fun m7 => if (v5 + (1 : Int32)) < 0 ∨ 640 ≤ (v5 + (1 : Int32)).toNatClampNeg then none else (bnd (si m7 1 ((v5 + (1 : Int32)).toNatClampNeg) x4) (fun m9 => if (v5 + (2 : Int32)) < 0 ∨ 640 ≤ (v5 + (2 : Int32)).toNatClampNeg then none else (bnd (si m9 1 ((v5 + (2 : Int32)).toNatClampNeg) (gi m9 1 23)) (fun m11 => bnd (si m11 1 28 ((gi m11 1 28) + (1 : Int32))) (fun m12 => some (x4, m12)))))))))
noncomputable def D_X10_notes_30 : Nat → Int32 → Int32 → Int32 → Int32 → Int32 → MM → Option (Int32 × MM)
  | 0, _, _, _, _, _, _ => none
  | n + 1, x1, x2, x3, x4, x5, x => if (597 : Int32) ≤ x5 then (bnd (si x 1 28 ((gi x 1 28) - (1 : Int32))) (fun m13 => D_X10_notes_71 x1 x2 x3 x4 m13)) else (if (x5 + (3 : Int32)) < 0 ∨ 640 ≤ (x5 + (3 : Int32)).toNatClampNeg then none else (if x5 < 0 ∨ 640 ≤ x5.toNatClampNeg then none else (bnd (si x 1 x5.toNatClampNeg (gi x 1 ((x5 + (3 : Int32)).toNatClampNeg))) (fun m16 => bnd (x5 + (1 : Int32)) (fun v17 => D_X10_notes_30 n x1 x2 x3 x4 v17 m16)))))
noncomputable def D_X10_notes (x1 : Int32) (x2 : Int32) (x3 : Int32) (x4 : Int32) (x : MM) : Option (Int32 × MM) := bnd (((30 : Int32) + x1)) (fun v1 => if v1 < 0 ∨ 640 ≤ v1.toNatClampNeg then none else (if v1 < 0 ∨ 640 ≤ v1.toNatClampNeg then none else (bnd (si x 1 v1.toNatClampNeg ((gi x 1 v1.toNatClampNeg) + (1 : Int32))) (fun m4 => if (gi m4 1 28) = (40 : Int32) then (D_X10_notes_30 FU x1 x2 x3 x4 (480 : Int32) m4) else (D_X10_notes_71 x1 x2 x3 x4 m4)))))
set_option maxHeartbeats 4000000 in
set_option maxRecDepth 100000 in
theorem c_X10_notes (l : Launch) {D : va_G} {cs : Nat → ClassId} {adx : Nat → Nat} {Wf : MM → va_W} (hLx : Ln 9 adx (xsh cs adx) Wf) (hAd : ∀ a0_ b0_ : MM, (Wf a0_).map (fun q => q.1) = (Wf b0_).map (fun q => q.1)) (x : MM) (x1 : Int32) (x2 : Int32) (x3 : Int32) (x4 : Int32) {rr : Int32} {x' : MM} (hD : D_X10_notes x1 x2 x3 x4 x = some (rr, x')) : Ct l yX10_notes cX10_notes 6 (some .int) 0 0 D cs [.ref (adx 0), .int x1, .int x2, .int x3, .int x4] (Wf x) (Wf x') (some (.int rr)) := by
  refine Ct.ofW (by decide) (Nat.le_of_ble_eq_true rfl) (hAd _ _) ?_
  intro p e s m0 below meth c A Q ls args hx hb hr hml hlocks hown hts hK hP hD1 hSS hS hA1 hl hret
  have hT : ∀ w ∈ TBL, w.before args s = true := fun w h => hts w (List.mem_cons_of_mem _ h)
  have Fx0 : Fx p l m0 c cX10_notes 6 s args yX10_notes cX10_notes 6 (some .int) D cs A := ⟨hx, hb, hml, hown, hts, hK, hSS⟩
  have hown : s.vm.findClass RX10 = some m0.cls := hown
  have hl : lv_has ls 6 [(0, .ref (adx 0)), (1, .int x1), (2, .int x2), (3, .int x3), (4, .int x4)] := hl
  unfold D_X10_notes at hD
  have c_71 : ∀ (x1 : Int32) (x2 : Int32) (x3 : Int32) (x4 : Int32) (x : MM) (H : Heap) (locs : List Loc) (ls : Array Slot), D_X10_notes_71 x1 x2 x3 x4 x = some (rr, x') → va_P D vwCl (Wf x) H → va_S A s.heap H locs → lv_has ls 6 [(0, .ref (adx 0)), (1, .int x1), (2, .int x2), (3, .int x3), (4, .int x4)] → W p l e ({ frames := 0, cells := 0, slots := 0, locals := 0 } : Room) s m0 args below meth c H locs 0 0 Q (F0 m0 71 ls []) := by
    intro x1 x2 x3 x4 x H locs ls hD hP hS hl
    unfold D_X10_notes_71 at hD
    refine lv_sipush (v := (480 : Int32)) hx hb dX10_notes_71 (by decide) ?_
    refine lv_iconst (v := (3 : Int32)) hx hb dX10_notes_74 (by decide) ?_
    refine lv_aload_n hx hb dX10_notes_75 rfl (lv_at hl 0 rfl) ?_
    refine rg  hx hb hT hu10 hown hK hP hLx 0 0 (Nat.le_of_ble_eq_true rfl) (xs0 _ _) rfl (Nat.le_of_ble_eq_true rfl) (Fx0.T tw_6_215) rfl (v := .ref (adx 1)) rfl dX10_notes_76 ?_
    refine lv_bipush (v := (28 : Int32)) hx hb dX10_notes_79 (by decide) ?_
    refine riald  hx hb hK hP hLx 1 (Nat.le_of_ble_eq_true rfl) (xs1 _ _) (by decide) (j := 28) (by decide) dX10_notes_81 ?_
    refine lv_imul hx hb dX10_notes_82 ?_
    refine lv_iadd hx hb dX10_notes_83 ?_
    obtain ⟨v5, ev5, hD⟩ := bnd_el hD
    refine lv_nmi ev5 ?_
    refine lv_istore (lv' := [(5, .int v5), (0, .ref (adx 0)), (1, .int x1), (2, .int x2), (3, .int x3), (4, .int x4)]) hx hb dX10_notes_84 hl (by decide) rfl (fun ls hl => ?_)
    refine lv_aload_n hx hb dX10_notes_86 rfl (lv_at hl 1 rfl) ?_
    refine rg  hx hb hT hu10 hown hK hP hLx 0 0 (Nat.le_of_ble_eq_true rfl) (xs0 _ _) rfl (Nat.le_of_ble_eq_true rfl) (Fx0.T tw_6_215) rfl (v := .ref (adx 1)) rfl dX10_notes_87 ?_
    refine lv_iload hx hb dX10_notes_90 (lv_at hl 0 rfl) ?_
    refine lv_sipush (v := (10000 : Int32)) hx hb dX10_notes_92 (by decide) ?_
    refine lv_iload_n hx hb dX10_notes_95 rfl (lv_at hl 2 rfl) ?_
    refine lv_imul hx hb dX10_notes_96 ?_
    refine lv_bipush (v := (100 : Int32)) hx hb dX10_notes_97 (by decide) ?_
    refine lv_iload_n hx hb dX10_notes_99 rfl (lv_at hl 3 rfl) ?_
    refine lv_imul hx hb dX10_notes_100 ?_
    refine lv_iadd hx hb dX10_notes_101 ?_
    refine lv_iload_n hx hb dX10_notes_102 rfl (lv_at hl 4 rfl) ?_
    refine lv_iadd hx hb dX10_notes_103 ?_
    obtain ⟨h6, hD⟩ := gd_el hD
    obtain ⟨m7, em7, hD⟩ := bnd_el hD
    refine riast  hx hb hK hP (hD1 _ (hAd _ _)) hS hLx 1 (Nat.le_of_ble_eq_true rfl) (fun _ => xs1 _ _) h6 rfl dX10_notes_104 em7 (fun H locs hP hS => ?_)
    refine lv_aload_n hx hb dX10_notes_105 rfl (lv_at hl 1 rfl) ?_
    refine rg  hx hb hT hu10 hown hK hP hLx 0 0 (Nat.le_of_ble_eq_true rfl) (xs0 _ _) rfl (Nat.le_of_ble_eq_true rfl) (Fx0.T tw_6_215) rfl (v := .ref (adx 1)) rfl dX10_notes_106 ?_
    refine lv_iload hx hb dX10_notes_109 (lv_at hl 0 rfl) ?_
    refine lv_iconst (v := (1 : Int32)) hx hb dX10_notes_111 (by decide) ?_
    refine lv_iadd hx hb dX10_notes_112 ?_
    refine lv_iload hx hb dX10_notes_113 (lv_at hl 5 rfl) ?_
    obtain ⟨h8, hD⟩ := gd_el hD
    obtain ⟨m9, em9, hD⟩ := bnd_el hD
    refine riast  hx hb hK hP (hD1 _ (hAd _ _)) hS hLx 1 (Nat.le_of_ble_eq_true rfl) (fun _ => xs1 _ _) h8 rfl dX10_notes_115 em9 (fun H locs hP hS => ?_)
    refine lv_aload_n hx hb dX10_notes_116 rfl (lv_at hl 1 rfl) ?_
    refine rg  hx hb hT hu10 hown hK hP hLx 0 0 (Nat.le_of_ble_eq_true rfl) (xs0 _ _) rfl (Nat.le_of_ble_eq_true rfl) (Fx0.T tw_6_215) rfl (v := .ref (adx 1)) rfl dX10_notes_117 ?_
    refine lv_iload hx hb dX10_notes_120 (lv_at hl 0 rfl) ?_
    refine lv_iconst (v := (2 : Int32)) hx hb dX10_notes_122 (by decide) ?_
    refine lv_iadd hx hb dX10_notes_123 ?_
    refine lv_aload_n hx hb dX10_notes_124 rfl (lv_at hl 1 rfl) ?_
    refine rg  hx hb hT hu10 hown hK hP hLx 0 0 (Nat.le_of_ble_eq_true rfl) (xs0 _ _) rfl (Nat.le_of_ble_eq_true rfl) (Fx0.T tw_6_215) rfl (v := .ref (adx 1)) rfl dX10_notes_125 ?_
    refine lv_bipush (v := (23 : Int32)) hx hb dX10_notes_128 (by decide) ?_
    refine riald  hx hb hK hP hLx 1 (Nat.le_of_ble_eq_true rfl) (xs1 _ _) (by decide) (j := 23) (by decide) dX10_notes_130 ?_
    obtain ⟨h10, hD⟩ := gd_el hD
    obtain ⟨m11, em11, hD⟩ := bnd_el hD
    refine riast  hx hb hK hP (hD1 _ (hAd _ _)) hS hLx 1 (Nat.le_of_ble_eq_true rfl) (fun _ => xs1 _ _) h10 rfl dX10_notes_131 em11 (fun H locs hP hS => ?_)
    refine lv_aload_n hx hb dX10_notes_132 rfl (lv_at hl 1 rfl) ?_
    refine rg  hx hb hT hu10 hown hK hP hLx 0 0 (Nat.le_of_ble_eq_true rfl) (xs0 _ _) rfl (Nat.le_of_ble_eq_true rfl) (Fx0.T tw_6_215) rfl (v := .ref (adx 1)) rfl dX10_notes_133 ?_
    refine lv_bipush (v := (28 : Int32)) hx hb dX10_notes_136 (by decide) ?_
    refine lv_dup2_11 hx hb dX10_notes_138 rfl rfl ?_
    refine riald  hx hb hK hP hLx 1 (Nat.le_of_ble_eq_true rfl) (xs1 _ _) (by decide) (j := 28) (by decide) dX10_notes_139 ?_
    refine lv_iconst (v := (1 : Int32)) hx hb dX10_notes_140 (by decide) ?_
    refine lv_iadd hx hb dX10_notes_141 ?_
    obtain ⟨m12, em12, hD⟩ := bnd_el hD
    refine riast  hx hb hK hP (hD1 _ (hAd _ _)) hS hLx 1 (Nat.le_of_ble_eq_true rfl) (fun _ => xs1 _ _) (by decide) (j := 28) (by decide) dX10_notes_142 em12 (fun H locs hP hS => ?_)
    refine lv_iload hx hb dX10_notes_143 (lv_at hl 5 rfl) ?_
    obtain ⟨rfl, rfl⟩ := es2 hD
    exact hret _ _ _ hP hS (fun Qc hq => W.iret hx hb hr hq hS.2.2 dX10_notes_145 hlocks)
  have c_30 : ∀ (n : Nat), ∀ (x1 : Int32) (x2 : Int32) (x3 : Int32) (x4 : Int32) (x5 : Int32) (x : MM) (H : Heap) (locs : List Loc) (ls : Array Slot), D_X10_notes_30 n x1 x2 x3 x4 x5 x = some (rr, x') → va_P D vwCl (Wf x) H → va_S A s.heap H locs → lv_has ls 6 [(0, .ref (adx 0)), (1, .int x1), (2, .int x2), (3, .int x3), (4, .int x4), (5, .int x5)] → W p l e ({ frames := 0, cells := 0, slots := 0, locals := 0 } : Room) s m0 args below meth c H locs 0 0 Q (F0 m0 30 ls []) := by
    intro n
    induction n with
    | zero =>
      intro x1 x2 x3 x4 x5 x H locs ls hD hP hS hl
      exact nn_el hD
    | succ n ih =>
      intro x1 x2 x3 x4 x5 x H locs ls hD hP hS hl
      rw [D_X10_notes_30] at hD
      refine lv_iload hx hb dX10_notes_30 (lv_at hl 5 rfl) ?_
      refine lv_sipush (v := (597 : Int32)) hx hb dX10_notes_32 (by decide) ?_
      refine lv_icmp_ge (tgt := 60) hx hb dX10_notes_35 (by decide) (fun c => ?_) (fun c => ?_)
      · have hD := ifp hD c
        refine lv_aload_n hx hb dX10_notes_60 rfl (lv_at hl 0 rfl) ?_
        refine rg  hx hb hT hu10 hown hK hP hLx 0 0 (Nat.le_of_ble_eq_true rfl) (xs0 _ _) rfl (Nat.le_of_ble_eq_true rfl) (Fx0.T tw_6_215) rfl (v := .ref (adx 1)) rfl dX10_notes_61 ?_
        refine lv_bipush (v := (28 : Int32)) hx hb dX10_notes_64 (by decide) ?_
        refine lv_dup2_11 hx hb dX10_notes_66 rfl rfl ?_
        refine riald  hx hb hK hP hLx 1 (Nat.le_of_ble_eq_true rfl) (xs1 _ _) (by decide) (j := 28) (by decide) dX10_notes_67 ?_
        refine lv_iconst (v := (1 : Int32)) hx hb dX10_notes_68 (by decide) ?_
        refine lv_isub hx hb dX10_notes_69 ?_
        obtain ⟨m13, em13, hD⟩ := bnd_el hD
        refine riast  hx hb hK hP (hD1 _ (hAd _ _)) hS hLx 1 (Nat.le_of_ble_eq_true rfl) (fun _ => xs1 _ _) (by decide) (j := 28) (by decide) dX10_notes_70 em13 (fun H locs hP hS => ?_)
        exact c_71 _ _ _ _ _ _ _ _ hD hP hS (lv_sub hl [0, 1, 2, 3, 4] rfl)
      · have hD := ifn hD c
        refine lv_aload_n hx hb dX10_notes_38 rfl (lv_at hl 0 rfl) ?_
        refine rg  hx hb hT hu10 hown hK hP hLx 0 0 (Nat.le_of_ble_eq_true rfl) (xs0 _ _) rfl (Nat.le_of_ble_eq_true rfl) (Fx0.T tw_6_215) rfl (v := .ref (adx 1)) rfl dX10_notes_39 ?_
        refine lv_iload hx hb dX10_notes_42 (lv_at hl 5 rfl) ?_
        refine lv_aload_n hx hb dX10_notes_44 rfl (lv_at hl 0 rfl) ?_
        refine rg  hx hb hT hu10 hown hK hP hLx 0 0 (Nat.le_of_ble_eq_true rfl) (xs0 _ _) rfl (Nat.le_of_ble_eq_true rfl) (Fx0.T tw_6_215) rfl (v := .ref (adx 1)) rfl dX10_notes_45 ?_
        refine lv_iload hx hb dX10_notes_48 (lv_at hl 5 rfl) ?_
        refine lv_iconst (v := (3 : Int32)) hx hb dX10_notes_50 (by decide) ?_
        refine lv_iadd hx hb dX10_notes_51 ?_
        obtain ⟨h14, hD⟩ := gd_el hD
        refine riald  hx hb hK hP hLx 1 (Nat.le_of_ble_eq_true rfl) (xs1 _ _) h14 rfl dX10_notes_52 ?_
        obtain ⟨h15, hD⟩ := gd_el hD
        obtain ⟨m16, em16, hD⟩ := bnd_el hD
        refine riast  hx hb hK hP (hD1 _ (hAd _ _)) hS hLx 1 (Nat.le_of_ble_eq_true rfl) (fun _ => xs1 _ _) h15 rfl dX10_notes_53 em16 (fun H locs hP hS => ?_)
        obtain ⟨v17, ev17, hD⟩ := bnd_el hD
        refine lv_iinc (v := v17) (lv' := [(5, .int v17), (0, .ref (adx 0)), (1, .int x1), (2, .int x2), (3, .int x3), (4, .int x4)]) hx hb dX10_notes_54 hl (k := 5) rfl (by rw [ev17]; rfl) (by decide) rfl (fun ls hl => ?_)
        refine lv_goto (tgt := 30) hx hb dX10_notes_57 (by decide) ?_
        exact ih _ _ _ _ _ _ _ _ _ hD hP hS (lv_sub hl [1, 2, 3, 4, 5, 0] rfl)
  refine lv_aload_n hx hb dX10_notes_0 rfl (lv_at hl 0 rfl) ?_
  refine rg  hx hb hT hu10 hown hK hP hLx 0 0 (Nat.le_of_ble_eq_true rfl) (xs0 _ _) rfl (Nat.le_of_ble_eq_true rfl) (Fx0.T tw_6_215) rfl (v := .ref (adx 1)) rfl dX10_notes_1 ?_
  refine lv_bipush (v := (30 : Int32)) hx hb dX10_notes_4 (by decide) ?_
  refine lv_iload_n hx hb dX10_notes_6 rfl (lv_at hl 1 rfl) ?_
  refine lv_iadd hx hb dX10_notes_7 ?_
  obtain ⟨v1, ev1, hD⟩ := bnd_el hD
  refine lv_nmi ev1 ?_
  refine lv_dup2_11 hx hb dX10_notes_8 rfl rfl ?_
  obtain ⟨h2, hD⟩ := gd_el hD
  refine riald  hx hb hK hP hLx 1 (Nat.le_of_ble_eq_true rfl) (xs1 _ _) h2 rfl dX10_notes_9 ?_
  refine lv_iconst (v := (1 : Int32)) hx hb dX10_notes_10 (by decide) ?_
  refine lv_iadd hx hb dX10_notes_11 ?_
  obtain ⟨h3, hD⟩ := gd_el hD
  obtain ⟨m4, em4, hD⟩ := bnd_el hD
  refine riast  hx hb hK hP (hD1 _ (hAd _ _)) hS hLx 1 (Nat.le_of_ble_eq_true rfl) (fun _ => xs1 _ _) h3 rfl dX10_notes_12 em4 (fun H locs hP hS => ?_)
  refine lv_aload_n hx hb dX10_notes_13 rfl (lv_at hl 0 rfl) ?_
  refine rg  hx hb hT hu10 hown hK hP hLx 0 0 (Nat.le_of_ble_eq_true rfl) (xs0 _ _) rfl (Nat.le_of_ble_eq_true rfl) (Fx0.T tw_6_215) rfl (v := .ref (adx 1)) rfl dX10_notes_14 ?_
  refine lv_bipush (v := (28 : Int32)) hx hb dX10_notes_17 (by decide) ?_
  refine riald  hx hb hK hP hLx 1 (Nat.le_of_ble_eq_true rfl) (xs1 _ _) (by decide) (j := 28) (by decide) dX10_notes_19 ?_
  refine lv_bipush (v := (40 : Int32)) hx hb dX10_notes_20 (by decide) ?_
  refine lv_icmp_ne (tgt := 71) hx hb dX10_notes_22 (by decide) (fun c => ?_) (fun c => ?_)
  · have hD := ifn hD c
    exact c_71 _ _ _ _ _ _ _ _ hD hP hS (lv_sub hl [0, 1, 2, 3, 4] rfl)
  · have hD := ifp hD c
    refine lv_sipush (v := (480 : Int32)) hx hb dX10_notes_25 (by decide) ?_
    refine lv_istore (lv' := [(5, .int (480 : Int32)), (0, .ref (adx 0)), (1, .int x1), (2, .int x2), (3, .int x3), (4, .int x4)]) hx hb dX10_notes_28 hl (by decide) rfl (fun ls hl => ?_)
    exact c_30 FU _ _ _ _ _ _ _ _ _ hD hP hS (lv_sub hl [1, 2, 3, 4, 5, 0] rfl)

noncomputable def D_X10_draw (x : MM) : Option (Int32 × MM) := bnd (si x 1 10 (((((gi x 1 10).toInt64 * (1103515245 : Int64)) + (12345 : Int64)) - (((gi x 1 10).toInt64 * (1103515245 : Int64)) + (12345 : Int64)) / (2147483648 : Int64) * (2147483648 : Int64)).toInt32)) (fun m1 => some ((((gi m1 1 10) / (65536 : Int32)) - ((gi m1 1 10) / (65536 : Int32)) / (100 : Int32) * (100 : Int32)), m1))
set_option maxHeartbeats 4000000 in
set_option maxRecDepth 100000 in
theorem c_X10_draw (l : Launch) {D : va_G} {cs : Nat → ClassId} {adx : Nat → Nat} {Wf : MM → va_W} (hLx : Ln 9 adx (xsh cs adx) Wf) (hAd : ∀ a0_ b0_ : MM, (Wf a0_).map (fun q => q.1) = (Wf b0_).map (fun q => q.1)) (x : MM) {rr : Int32} {x' : MM} (hD : D_X10_draw x = some (rr, x')) : Ct l yX10_draw cX10_draw 1 (some .int) 0 0 D cs [.ref (adx 0)] (Wf x) (Wf x') (some (.int rr)) := by
  refine Ct.ofW (by decide) (Nat.le_of_ble_eq_true rfl) (hAd _ _) ?_
  intro p e s m0 below meth c A Q ls args hx hb hr hml hlocks hown hts hK hP hD1 hSS hS hA1 hl hret
  have hT : ∀ w ∈ TBL, w.before args s = true := fun w h => hts w (List.mem_cons_of_mem _ h)
  have Fx0 : Fx p l m0 c cX10_draw 1 s args yX10_draw cX10_draw 1 (some .int) D cs A := ⟨hx, hb, hml, hown, hts, hK, hSS⟩
  have hown : s.vm.findClass RX10 = some m0.cls := hown
  have hl : lv_has ls 1 [(0, .ref (adx 0))] := hl
  unfold D_X10_draw at hD
  refine lv_aload_n hx hb dX10_draw_0 rfl (lv_at hl 0 rfl) ?_
  refine rg  hx hb hT hu10 hown hK hP hLx 0 0 (Nat.le_of_ble_eq_true rfl) (xs0 _ _) rfl (Nat.le_of_ble_eq_true rfl) (Fx0.T tw_6_215) rfl (v := .ref (adx 1)) rfl dX10_draw_1 ?_
  refine lv_bipush (v := (10 : Int32)) hx hb dX10_draw_4 (by decide) ?_
  refine lv_aload_n hx hb dX10_draw_6 rfl (lv_at hl 0 rfl) ?_
  refine rg  hx hb hT hu10 hown hK hP hLx 0 0 (Nat.le_of_ble_eq_true rfl) (xs0 _ _) rfl (Nat.le_of_ble_eq_true rfl) (Fx0.T tw_6_215) rfl (v := .ref (adx 1)) rfl dX10_draw_7 ?_
  refine lv_bipush (v := (10 : Int32)) hx hb dX10_draw_10 (by decide) ?_
  refine riald  hx hb hK hP hLx 1 (Nat.le_of_ble_eq_true rfl) (xs1 _ _) (by decide) (j := 10) (by decide) dX10_draw_12 ?_
  refine lv_i2l (v := (gi x 1 10).toInt64) hx hb dX10_draw_13 rfl ?_
  refine lv_ldc2 (v := (1103515245 : Int64)) hx hb hown (Fx0.T tw_8_144) dX10_draw_14 ?_
  refine lv_lmul hx hb dX10_draw_17 ?_
  refine lv_ldc2 (v := (12345 : Int64)) hx hb hown (Fx0.T tw_8_145) dX10_draw_18 ?_
  refine lv_ladd hx hb dX10_draw_21 ?_
  refine lv_ldc2 (v := (2147483648 : Int64)) hx hb hown (Fx0.T tw_8_146) dX10_draw_22 ?_
  refine lv_lrem hx hb dX10_draw_25 (by decide) ?_
  refine lv_l2i (v := ((((gi x 1 10).toInt64 * (1103515245 : Int64)) + (12345 : Int64)) - (((gi x 1 10).toInt64 * (1103515245 : Int64)) + (12345 : Int64)) / (2147483648 : Int64) * (2147483648 : Int64)).toInt32) hx hb dX10_draw_26 rfl ?_
  obtain ⟨m1, em1, hD⟩ := bnd_el hD
  refine riast  hx hb hK hP (hD1 _ (hAd _ _)) hS hLx 1 (Nat.le_of_ble_eq_true rfl) (fun _ => xs1 _ _) (by decide) (j := 10) (by decide) dX10_draw_27 em1 (fun H locs hP hS => ?_)
  refine lv_aload_n hx hb dX10_draw_28 rfl (lv_at hl 0 rfl) ?_
  refine rg  hx hb hT hu10 hown hK hP hLx 0 0 (Nat.le_of_ble_eq_true rfl) (xs0 _ _) rfl (Nat.le_of_ble_eq_true rfl) (Fx0.T tw_6_215) rfl (v := .ref (adx 1)) rfl dX10_draw_29 ?_
  refine lv_bipush (v := (10 : Int32)) hx hb dX10_draw_32 (by decide) ?_
  refine riald  hx hb hK hP hLx 1 (Nat.le_of_ble_eq_true rfl) (xs1 _ _) (by decide) (j := 10) (by decide) dX10_draw_34 ?_
  refine lv_ldcw (v := (65536 : Int32)) hx hb hown (Fx0.T tw_8_147) dX10_draw_35 ?_
  refine lv_idiv hx hb dX10_draw_38 (by decide) ?_
  refine lv_bipush (v := (100 : Int32)) hx hb dX10_draw_39 (by decide) ?_
  refine lv_irem hx hb dX10_draw_41 (by decide) ?_
  obtain ⟨rfl, rfl⟩ := es2 hD
  exact hret _ _ _ hP hS (fun Qc hq => W.iret hx hb hr hq hS.2.2 dX10_draw_42 hlocks)

noncomputable def D_X10_changes_74 (x1 : Int32) (x2 : Int32) (x : MM) : Option (Int32 × MM) := bnd (((44 : Int32) + x2)) (fun v8 => if v8 < 0 ∨ 640 ≤ v8.toNatClampNeg then none else (if v8 < 0 ∨ 640 ≤ v8.toNatClampNeg then none else (bnd (si x 1 v8.toNatClampNeg ((gi x 1 v8.toNatClampNeg) - (1 : Int32))) (fun m11 => b1 (D_X10_putSpindle x1 (0 : Int32) x2 m11) (fun m12 => b1 (D_X10_putSpindle x1 (7 : Int32) (0 : Int32) m12) (fun m14 => b1 (D_X10_ofSpindle x1 (5 : Int32) m14) (fun v16 => b1 (D_X10_putSpindle x1 (5 : Int32) (v16 + (1 : Int32)) m14) (fun m18 => b2 (D_X10_notes (1 : Int32) x1 x2 (1 : Int32) m18) (fun v20 m21 => some (v20, m21))))))))))
noncomputable def D_X10_changes (x1 : Int32) (x2 : Int32) (x : MM) : Option (Int32 × MM) := b1 (D_X10_ofSpindle x1 (1 : Int32) x) (fun v1 => if v1 = (-1 : Int32) then (b1 (D_X10_ofSpindle x1 (0 : Int32) x) (fun v3 => if v3 = x2 then (some ((-5 : Int32), x)) else (if ((44 : Int32) + x2) < 0 ∨ 640 ≤ ((44 : Int32) + x2).toNatClampNeg then none else (if (gi x 1 (((44 : Int32) + x2).toNatClampNeg)) = 0 then (some ((-4 : Int32), x)) else (b1 (D_X10_goes (1 : Int32) (0 : Int32) (0 : Int32) (gi x 1 1) x) (fun m6 => if v3 = (-1 : Int32) then (D_X10_changes_74 x1 x2 m6) else (bnd (((44 : Int32) + v3)) (fun v23 => if v23 < 0 ∨ 640 ≤ v23.toNatClampNeg then none else (if v23 < 0 ∨ 640 ≤ v23.toNatClampNeg then none else (bnd (si m6 1 v23.toNatClampNeg ((gi m6 1 v23.toNatClampNeg) + (1 : Int32))) (fun m26 => D_X10_changes_74 x1 x2 m26))))))))))) else (some ((-3 : Int32), x)))
set_option maxHeartbeats 4000000 in
set_option maxRecDepth 100000 in
theorem c_X10_changes (l : Launch) {D : va_G} {cs : Nat → ClassId} {adx : Nat → Nat} {Wf : MM → va_W} (hLx : Ln 9 adx (xsh cs adx) Wf) (hAd : ∀ a0_ b0_ : MM, (Wf a0_).map (fun q => q.1) = (Wf b0_).map (fun q => q.1)) (x : MM) (x1 : Int32) (x2 : Int32) {rr : Int32} {x' : MM} (hD : D_X10_changes x1 x2 x = some (rr, x')) : Ct l yX10_changes cX10_changes 4 (some .int) 3 72 D cs [.ref (adx 0), .int x1, .int x2] (Wf x) (Wf x') (some (.int rr)) := by
  refine Ct.ofW (by decide) (Nat.le_of_ble_eq_true rfl) (hAd _ _) ?_
  intro p e s m0 below meth c A Q ls args hx hb hr hml hlocks hown hts hK hP hD1 hSS hS hA1 hl hret
  have hT : ∀ w ∈ TBL, w.before args s = true := fun w h => hts w (List.mem_cons_of_mem _ h)
  have Fx0 : Fx p l m0 c cX10_changes 4 s args yX10_changes cX10_changes 4 (some .int) D cs A := ⟨hx, hb, hml, hown, hts, hK, hSS⟩
  have hown : s.vm.findClass RX10 = some m0.cls := hown
  have hl : lv_has ls 4 [(0, .ref (adx 0)), (1, .int x1), (2, .int x2)] := hl
  unfold D_X10_changes at hD
  have c_74 : ∀ (x1 : Int32) (x2 : Int32) (x : MM) (H : Heap) (locs : List Loc) (ls : Array Slot), D_X10_changes_74 x1 x2 x = some (rr, x') → va_P D vwCl (Wf x) H → va_S A s.heap H locs → lv_has ls 4 [(0, .ref (adx 0)), (1, .int x1), (2, .int x2)] → W p l e ({ frames := 3, cells := 0, slots := 0, locals := 72 } : Room) s m0 args below meth c H locs 0 0 Q (F0 m0 74 ls []) := by
    intro x1 x2 x H locs ls hD hP hS hl
    unfold D_X10_changes_74 at hD
    refine lv_aload_n hx hb dX10_changes_74 rfl (lv_at hl 0 rfl) ?_
    refine rg  hx hb hT hu10 hown hK hP hLx 0 0 (Nat.le_of_ble_eq_true rfl) (xs0 _ _) rfl (Nat.le_of_ble_eq_true rfl) (Fx0.T tw_6_215) rfl (v := .ref (adx 1)) rfl dX10_changes_75 ?_
    refine lv_bipush (v := (44 : Int32)) hx hb dX10_changes_78 (by decide) ?_
    refine lv_iload_n hx hb dX10_changes_80 rfl (lv_at hl 2 rfl) ?_
    refine lv_iadd hx hb dX10_changes_81 ?_
    obtain ⟨v8, ev8, hD⟩ := bnd_el hD
    refine lv_nmi ev8 ?_
    refine lv_dup2_11 hx hb dX10_changes_82 rfl rfl ?_
    obtain ⟨h9, hD⟩ := gd_el hD
    refine riald  hx hb hK hP hLx 1 (Nat.le_of_ble_eq_true rfl) (xs1 _ _) h9 rfl dX10_changes_83 ?_
    refine lv_iconst (v := (1 : Int32)) hx hb dX10_changes_84 (by decide) ?_
    refine lv_isub hx hb dX10_changes_85 ?_
    obtain ⟨h10, hD⟩ := gd_el hD
    obtain ⟨m11, em11, hD⟩ := bnd_el hD
    refine riast  hx hb hK hP (hD1 _ (hAd _ _)) hS hLx 1 (Nat.le_of_ble_eq_true rfl) (fun _ => xs1 _ _) h10 rfl dX10_changes_86 em11 (fun H locs hP hS => ?_)
    refine lv_aload_n hx hb dX10_changes_87 rfl (lv_at hl 0 rfl) ?_
    refine lv_iload_n hx hb dX10_changes_88 rfl (lv_at hl 1 rfl) ?_
    refine lv_iconst (v := (0 : Int32)) hx hb dX10_changes_89 (by decide) ?_
    refine lv_iload_n hx hb dX10_changes_90 rfl (lv_at hl 2 rfl) ?_
    obtain ⟨m12, z13, hD⟩ := b1_el hD
    refine rcV  (As := [.int x1, .int (0 : Int32), .int x2]) (rest := []) Fx0 (c_X10_putSpindle l hLx hAd m11 x1 (0 : Int32) x2 z13) hP (hD1 _ (hAd _ _)) hS (hA1 _ _ (hAd _ _) hS.1) hLx (Nat.le_of_ble_eq_true rfl) (xs0 _ _) rfl tw_8_123 tw_8_120 tw_8_122 ts_130 tw_1_13 yd_X10_putSpindle ⟨(Nat.le_of_ble_eq_true rfl), (Nat.le_of_ble_eq_true rfl)⟩ rfl hl.1 rfl (Nat.le_of_ble_eq_true rfl) dX10_changes_91 (fun H locs hP hS => ?_)
    refine lv_aload_n hx hb dX10_changes_94 rfl (lv_at hl 0 rfl) ?_
    refine lv_iload_n hx hb dX10_changes_95 rfl (lv_at hl 1 rfl) ?_
    refine lv_bipush (v := (7 : Int32)) hx hb dX10_changes_96 (by decide) ?_
    refine lv_iconst (v := (0 : Int32)) hx hb dX10_changes_98 (by decide) ?_
    obtain ⟨m14, z15, hD⟩ := b1_el hD
    refine rcV  (As := [.int x1, .int (7 : Int32), .int (0 : Int32)]) (rest := []) Fx0 (c_X10_putSpindle l hLx hAd m12 x1 (7 : Int32) (0 : Int32) z15) hP (hD1 _ (hAd _ _)) hS (hA1 _ _ (hAd _ _) hS.1) hLx (Nat.le_of_ble_eq_true rfl) (xs0 _ _) rfl tw_8_123 tw_8_120 tw_8_122 ts_130 tw_1_13 yd_X10_putSpindle ⟨(Nat.le_of_ble_eq_true rfl), (Nat.le_of_ble_eq_true rfl)⟩ rfl hl.1 rfl (Nat.le_of_ble_eq_true rfl) dX10_changes_99 (fun H locs hP hS => ?_)
    refine lv_aload_n hx hb dX10_changes_102 rfl (lv_at hl 0 rfl) ?_
    refine lv_iload_n hx hb dX10_changes_103 rfl (lv_at hl 1 rfl) ?_
    refine lv_iconst (v := (5 : Int32)) hx hb dX10_changes_104 (by decide) ?_
    refine lv_aload_n hx hb dX10_changes_105 rfl (lv_at hl 0 rfl) ?_
    refine lv_iload_n hx hb dX10_changes_106 rfl (lv_at hl 1 rfl) ?_
    refine lv_iconst (v := (5 : Int32)) hx hb dX10_changes_107 (by decide) ?_
    obtain ⟨v16, z17, hD⟩ := b1_el hD
    refine rcV  (As := [.int x1, .int (5 : Int32)]) (rest := [.int (5 : Int32), .int x1, .ref (adx 0)]) Fx0 (c_X10_ofSpindle l hLx hAd m14 x1 (5 : Int32) z17) hP (hD1 _ (hAd _ _)) hS (hA1 _ _ (hAd _ _) hS.1) hLx (Nat.le_of_ble_eq_true rfl) (xs0 _ _) rfl tw_7_190 tw_7_187 tw_7_189 ts_108 tw_1_13 yd_X10_ofSpindle ⟨(Nat.le_of_ble_eq_true rfl), (Nat.le_of_ble_eq_true rfl)⟩ rfl hl.1 rfl (Nat.le_of_ble_eq_true rfl) dX10_changes_108 (fun H locs hP hS => ?_)
    refine lv_iconst (v := (1 : Int32)) hx hb dX10_changes_111 (by decide) ?_
    refine lv_iadd hx hb dX10_changes_112 ?_
    obtain ⟨m18, z19, hD⟩ := b1_el hD
    refine rcV  (As := [.int x1, .int (5 : Int32), .int (v16 + (1 : Int32))]) (rest := []) Fx0 (c_X10_putSpindle l hLx hAd m14 x1 (5 : Int32) (v16 + (1 : Int32)) z19) hP (hD1 _ (hAd _ _)) hS (hA1 _ _ (hAd _ _) hS.1) hLx (Nat.le_of_ble_eq_true rfl) (xs0 _ _) rfl tw_8_123 tw_8_120 tw_8_122 ts_130 tw_1_13 yd_X10_putSpindle ⟨(Nat.le_of_ble_eq_true rfl), (Nat.le_of_ble_eq_true rfl)⟩ rfl hl.1 rfl (Nat.le_of_ble_eq_true rfl) dX10_changes_113 (fun H locs hP hS => ?_)
    refine lv_aload_n hx hb dX10_changes_116 rfl (lv_at hl 0 rfl) ?_
    refine lv_iconst (v := (1 : Int32)) hx hb dX10_changes_117 (by decide) ?_
    refine lv_iload_n hx hb dX10_changes_118 rfl (lv_at hl 1 rfl) ?_
    refine lv_iload_n hx hb dX10_changes_119 rfl (lv_at hl 2 rfl) ?_
    refine lv_iconst (v := (1 : Int32)) hx hb dX10_changes_120 (by decide) ?_
    obtain ⟨v20, m21, z22, hD⟩ := b2_el hD
    refine rcV  (As := [.int (1 : Int32), .int x1, .int x2, .int (1 : Int32)]) (rest := []) Fx0 (c_X10_notes l hLx hAd m18 (1 : Int32) x1 x2 (1 : Int32) z22) hP (hD1 _ (hAd _ _)) hS (hA1 _ _ (hAd _ _) hS.1) hLx (Nat.le_of_ble_eq_true rfl) (xs0 _ _) rfl tw_8_127 tw_8_124 tw_8_126 ts_131 tw_1_13 yd_X10_notes ⟨(Nat.le_of_ble_eq_true rfl), (Nat.le_of_ble_eq_true rfl)⟩ rfl hl.1 rfl (Nat.le_of_ble_eq_true rfl) dX10_changes_121 (fun H locs hP hS => ?_)
    obtain ⟨rfl, rfl⟩ := es2 hD
    exact hret _ _ _ hP hS (fun Qc hq => W.iret hx hb hr hq hS.2.2 dX10_changes_124 hlocks)
  refine lv_aload_n hx hb dX10_changes_0 rfl (lv_at hl 0 rfl) ?_
  refine lv_iload_n hx hb dX10_changes_1 rfl (lv_at hl 1 rfl) ?_
  refine lv_iconst (v := (1 : Int32)) hx hb dX10_changes_2 (by decide) ?_
  obtain ⟨v1, z2, hD⟩ := b1_el hD
  refine rcV  (As := [.int x1, .int (1 : Int32)]) (rest := []) Fx0 (c_X10_ofSpindle l hLx hAd x x1 (1 : Int32) z2) hP (hD1 _ (hAd _ _)) hS (hA1 _ _ (hAd _ _) hS.1) hLx (Nat.le_of_ble_eq_true rfl) (xs0 _ _) rfl tw_7_190 tw_7_187 tw_7_189 ts_108 tw_1_13 yd_X10_ofSpindle ⟨(Nat.le_of_ble_eq_true rfl), (Nat.le_of_ble_eq_true rfl)⟩ rfl hl.1 rfl (Nat.le_of_ble_eq_true rfl) dX10_changes_3 (fun H locs hP hS => ?_)
  refine lv_iconst (v := (-1 : Int32)) hx hb dX10_changes_6 (by decide) ?_
  refine lv_icmp_eq (tgt := 13) hx hb dX10_changes_7 (by decide) (fun c => ?_) (fun c => ?_)
  · have hD := ifp hD c
    refine lv_aload_n hx hb dX10_changes_13 rfl (lv_at hl 0 rfl) ?_
    refine lv_iload_n hx hb dX10_changes_14 rfl (lv_at hl 1 rfl) ?_
    refine lv_iconst (v := (0 : Int32)) hx hb dX10_changes_15 (by decide) ?_
    obtain ⟨v3, z4, hD⟩ := b1_el hD
    refine rcV  (As := [.int x1, .int (0 : Int32)]) (rest := []) Fx0 (c_X10_ofSpindle l hLx hAd x x1 (0 : Int32) z4) hP (hD1 _ (hAd _ _)) hS (hA1 _ _ (hAd _ _) hS.1) hLx (Nat.le_of_ble_eq_true rfl) (xs0 _ _) rfl tw_7_190 tw_7_187 tw_7_189 ts_108 tw_1_13 yd_X10_ofSpindle ⟨(Nat.le_of_ble_eq_true rfl), (Nat.le_of_ble_eq_true rfl)⟩ rfl hl.1 rfl (Nat.le_of_ble_eq_true rfl) dX10_changes_16 (fun H locs hP hS => ?_)
    refine lv_istore_n (lv' := [(3, .int v3), (0, .ref (adx 0)), (1, .int x1), (2, .int x2)]) hx hb dX10_changes_19 rfl hl (by decide) rfl (fun ls hl => ?_)
    refine lv_iload_n hx hb dX10_changes_20 rfl (lv_at hl 0 rfl) ?_
    refine lv_iload_n hx hb dX10_changes_21 rfl (lv_at hl 3 rfl) ?_
    refine lv_icmp_ne (tgt := 28) hx hb dX10_changes_22 (by decide) (fun c => ?_) (fun c => ?_)
    · have hD := ifn hD c
      refine lv_aload_n hx hb dX10_changes_28 rfl (lv_at hl 1 rfl) ?_
      refine rg  hx hb hT hu10 hown hK hP hLx 0 0 (Nat.le_of_ble_eq_true rfl) (xs0 _ _) rfl (Nat.le_of_ble_eq_true rfl) (Fx0.T tw_6_215) rfl (v := .ref (adx 1)) rfl dX10_changes_29 ?_
      refine lv_bipush (v := (44 : Int32)) hx hb dX10_changes_32 (by decide) ?_
      refine lv_iload_n hx hb dX10_changes_34 rfl (lv_at hl 3 rfl) ?_
      refine lv_iadd hx hb dX10_changes_35 ?_
      obtain ⟨h5, hD⟩ := gd_el hD
      refine riald  hx hb hK hP hLx 1 (Nat.le_of_ble_eq_true rfl) (xs1 _ _) h5 rfl dX10_changes_36 ?_
      refine lv_if_ne (tgt := 43) hx hb dX10_changes_37 (by decide) (fun c => ?_) (fun c => ?_)
      · have hD := ifn hD c
        refine lv_aload_n hx hb dX10_changes_43 rfl (lv_at hl 1 rfl) ?_
        refine lv_iconst (v := (1 : Int32)) hx hb dX10_changes_44 (by decide) ?_
        refine lv_iconst (v := (0 : Int32)) hx hb dX10_changes_45 (by decide) ?_
        refine lv_iconst (v := (0 : Int32)) hx hb dX10_changes_46 (by decide) ?_
        refine lv_aload_n hx hb dX10_changes_47 rfl (lv_at hl 1 rfl) ?_
        refine rg  hx hb hT hu10 hown hK hP hLx 0 0 (Nat.le_of_ble_eq_true rfl) (xs0 _ _) rfl (Nat.le_of_ble_eq_true rfl) (Fx0.T tw_6_215) rfl (v := .ref (adx 1)) rfl dX10_changes_48 ?_
        refine lv_iconst (v := (1 : Int32)) hx hb dX10_changes_51 (by decide) ?_
        refine riald  hx hb hK hP hLx 1 (Nat.le_of_ble_eq_true rfl) (xs1 _ _) (by decide) (j := 1) (by decide) dX10_changes_52 ?_
        obtain ⟨m6, z7, hD⟩ := b1_el hD
        refine rcV  (As := [.int (1 : Int32), .int (0 : Int32), .int (0 : Int32), .int (gi x 1 1)]) (rest := []) Fx0 (c_X10_goes l hLx hAd x (1 : Int32) (0 : Int32) (0 : Int32) (gi x 1 1) z7) hP (hD1 _ (hAd _ _)) hS (hA1 _ _ (hAd _ _) hS.1) hLx (Nat.le_of_ble_eq_true rfl) (xs0 _ _) rfl tw_8_115 tw_8_112 tw_8_114 ts_128 tw_1_13 yd_X10_goes ⟨(Nat.le_of_ble_eq_true rfl), (Nat.le_of_ble_eq_true rfl)⟩ rfl hl.1 rfl (Nat.le_of_ble_eq_true rfl) dX10_changes_53 (fun H locs hP hS => ?_)
        refine lv_iload_n hx hb dX10_changes_56 rfl (lv_at hl 0 rfl) ?_
        refine lv_iconst (v := (-1 : Int32)) hx hb dX10_changes_57 (by decide) ?_
        refine lv_icmp_eq (tgt := 74) hx hb dX10_changes_58 (by decide) (fun c => ?_) (fun c => ?_)
        · have hD := ifp hD c
          exact c_74 _ _ _ _ _ _ hD hP hS (lv_sub hl [1, 2, 3] rfl)
        · have hD := ifn hD c
          refine lv_aload_n hx hb dX10_changes_61 rfl (lv_at hl 1 rfl) ?_
          refine rg  hx hb hT hu10 hown hK hP hLx 0 0 (Nat.le_of_ble_eq_true rfl) (xs0 _ _) rfl (Nat.le_of_ble_eq_true rfl) (Fx0.T tw_6_215) rfl (v := .ref (adx 1)) rfl dX10_changes_62 ?_
          refine lv_bipush (v := (44 : Int32)) hx hb dX10_changes_65 (by decide) ?_
          refine lv_iload_n hx hb dX10_changes_67 rfl (lv_at hl 0 rfl) ?_
          refine lv_iadd hx hb dX10_changes_68 ?_
          obtain ⟨v23, ev23, hD⟩ := bnd_el hD
          refine lv_nmi ev23 ?_
          refine lv_dup2_11 hx hb dX10_changes_69 rfl rfl ?_
          obtain ⟨h24, hD⟩ := gd_el hD
          refine riald  hx hb hK hP hLx 1 (Nat.le_of_ble_eq_true rfl) (xs1 _ _) h24 rfl dX10_changes_70 ?_
          refine lv_iconst (v := (1 : Int32)) hx hb dX10_changes_71 (by decide) ?_
          refine lv_iadd hx hb dX10_changes_72 ?_
          obtain ⟨h25, hD⟩ := gd_el hD
          obtain ⟨m26, em26, hD⟩ := bnd_el hD
          refine riast  hx hb hK hP (hD1 _ (hAd _ _)) hS hLx 1 (Nat.le_of_ble_eq_true rfl) (fun _ => xs1 _ _) h25 rfl dX10_changes_73 em26 (fun H locs hP hS => ?_)
          exact c_74 _ _ _ _ _ _ hD hP hS (lv_sub hl [1, 2, 3] rfl)
      · have hD := ifp hD c
        refine lv_bipush (v := (-4 : Int32)) hx hb dX10_changes_40 (by decide) ?_
        obtain ⟨rfl, rfl⟩ := es2 hD
        exact hret _ _ _ hP hS (fun Qc hq => W.iret hx hb hr hq hS.2.2 dX10_changes_42 hlocks)
    · have hD := ifp hD c
      refine lv_bipush (v := (-5 : Int32)) hx hb dX10_changes_25 (by decide) ?_
      obtain ⟨rfl, rfl⟩ := es2 hD
      exact hret _ _ _ hP hS (fun Qc hq => W.iret hx hb hr hq hS.2.2 dX10_changes_27 hlocks)
  · have hD := ifn hD c
    refine lv_bipush (v := (-3 : Int32)) hx hb dX10_changes_10 (by decide) ?_
    obtain ⟨rfl, rfl⟩ := es2 hD
    exact hret _ _ _ hP hS (fun Qc hq => W.iret hx hb hr hq hS.2.2 dX10_changes_12 hlocks)

noncomputable def D_X10_isWorn (x1 : Int32) (x : MM) : Option Int32 := if (gi x 1 12) ≤ 0 then (some ((0 : Int32))) else (b1 (D_X10_ofSpindle x1 (7 : Int32) x) (fun v1 => if v1 < (gi x 1 12) then (some ((0 : Int32))) else (some ((1 : Int32)))))
set_option maxHeartbeats 4000000 in
set_option maxRecDepth 100000 in
theorem c_X10_isWorn (l : Launch) {D : va_G} {cs : Nat → ClassId} {adx : Nat → Nat} {Wf : MM → va_W} (hLx : Ln 9 adx (xsh cs adx) Wf) (hAd : ∀ a0_ b0_ : MM, (Wf a0_).map (fun q => q.1) = (Wf b0_).map (fun q => q.1)) (x : MM) (x1 : Int32) {rr : Int32} (hD : D_X10_isWorn x1 x = some (rr)) : Ct l yX10_isWorn cX10_isWorn 2 (some .boolean) 1 22 D cs [.ref (adx 0), .int x1] (Wf x) (Wf x) (some (.int rr)) := by
  refine Ct.ofW (by decide) (Nat.le_of_ble_eq_true rfl) rfl ?_
  intro p e s m0 below meth c A Q ls args hx hb hr hml hlocks hown hts hK hP hD1 hSS hS hA1 hl hret
  have hT : ∀ w ∈ TBL, w.before args s = true := fun w h => hts w (List.mem_cons_of_mem _ h)
  have Fx0 : Fx p l m0 c cX10_isWorn 2 s args yX10_isWorn cX10_isWorn 2 (some .boolean) D cs A := ⟨hx, hb, hml, hown, hts, hK, hSS⟩
  have hown : s.vm.findClass RX10 = some m0.cls := hown
  have hl : lv_has ls 2 [(0, .ref (adx 0)), (1, .int x1)] := hl
  unfold D_X10_isWorn at hD
  refine lv_aload_n hx hb dX10_isWorn_0 rfl (lv_at hl 0 rfl) ?_
  refine rg  hx hb hT hu10 hown hK hP hLx 0 0 (Nat.le_of_ble_eq_true rfl) (xs0 _ _) rfl (Nat.le_of_ble_eq_true rfl) (Fx0.T tw_6_215) rfl (v := .ref (adx 1)) rfl dX10_isWorn_1 ?_
  refine lv_bipush (v := (12 : Int32)) hx hb dX10_isWorn_4 (by decide) ?_
  refine riald  hx hb hK hP hLx 1 (Nat.le_of_ble_eq_true rfl) (xs1 _ _) (by decide) (j := 12) (by decide) dX10_isWorn_6 ?_
  refine lv_if_le (tgt := 31) hx hb dX10_isWorn_7 (by decide) (fun c => ?_) (fun c => ?_)
  · have hD := ifp hD c
    refine lv_iconst (v := (0 : Int32)) hx hb dX10_isWorn_31 (by decide) ?_
    obtain rfl := es1 hD
    exact hret _ _ _ hP hS (fun Qc hq => W.zret hx hb hr rfl hq hS.2.2 dX10_isWorn_32 hlocks)
  · have hD := ifn hD c
    refine lv_aload_n hx hb dX10_isWorn_10 rfl (lv_at hl 0 rfl) ?_
    refine lv_iload_n hx hb dX10_isWorn_11 rfl (lv_at hl 1 rfl) ?_
    refine lv_bipush (v := (7 : Int32)) hx hb dX10_isWorn_12 (by decide) ?_
    obtain ⟨v1, z2, hD⟩ := b1_el hD
    refine rcV  (As := [.int x1, .int (7 : Int32)]) (rest := []) Fx0 (c_X10_ofSpindle l hLx hAd x x1 (7 : Int32) z2) hP (hD1 _ (hAd _ _)) hS (hA1 _ _ (hAd _ _) hS.1) hLx (Nat.le_of_ble_eq_true rfl) (xs0 _ _) rfl tw_7_190 tw_7_187 tw_7_189 ts_108 tw_1_13 yd_X10_ofSpindle ⟨(Nat.le_of_ble_eq_true rfl), (Nat.le_of_ble_eq_true rfl)⟩ rfl hl.1 rfl (Nat.le_of_ble_eq_true rfl) dX10_isWorn_14 (fun H locs hP hS => ?_)
    refine lv_aload_n hx hb dX10_isWorn_17 rfl (lv_at hl 0 rfl) ?_
    refine rg  hx hb hT hu10 hown hK hP hLx 0 0 (Nat.le_of_ble_eq_true rfl) (xs0 _ _) rfl (Nat.le_of_ble_eq_true rfl) (Fx0.T tw_6_215) rfl (v := .ref (adx 1)) rfl dX10_isWorn_18 ?_
    refine lv_bipush (v := (12 : Int32)) hx hb dX10_isWorn_21 (by decide) ?_
    refine riald  hx hb hK hP hLx 1 (Nat.le_of_ble_eq_true rfl) (xs1 _ _) (by decide) (j := 12) (by decide) dX10_isWorn_23 ?_
    refine lv_icmp_lt (tgt := 31) hx hb dX10_isWorn_24 (by decide) (fun c => ?_) (fun c => ?_)
    · have hD := ifp hD c
      refine lv_iconst (v := (0 : Int32)) hx hb dX10_isWorn_31 (by decide) ?_
      obtain rfl := es1 hD
      exact hret _ _ _ hP hS (fun Qc hq => W.zret hx hb hr rfl hq hS.2.2 dX10_isWorn_32 hlocks)
    · have hD := ifn hD c
      refine lv_iconst (v := (1 : Int32)) hx hb dX10_isWorn_27 (by decide) ?_
      refine lv_goto (tgt := 32) hx hb dX10_isWorn_28 (by decide) ?_
      obtain rfl := es1 hD
      exact hret _ _ _ hP hS (fun Qc hq => W.zret hx hb hr rfl hq hS.2.2 dX10_isWorn_32 hlocks)

noncomputable def D_X10_cleans (x1 : Int32) (x : MM) : Option (Int32 × MM) := b1 (D_X10_ofSpindle x1 (1 : Int32) x) (fun v1 => if v1 = (-1 : Int32) then (b1 (D_X10_ofSpindle x1 (0 : Int32) x) (fun v3 => if v3 = (-1 : Int32) then (some ((-4 : Int32), x)) else (b1 (D_X10_goes (6 : Int32) (0 : Int32) (0 : Int32) (gi x 1 14) x) (fun m5 => b1 (D_X10_putSpindle x1 (7 : Int32) (0 : Int32) m5) (fun m7 => b2 (D_X10_notes (6 : Int32) x1 (0 : Int32) (1 : Int32) m7) (fun v9 m10 => some (v9, m10))))))) else (some ((-3 : Int32), x)))
set_option maxHeartbeats 4000000 in
set_option maxRecDepth 100000 in
theorem c_X10_cleans (l : Launch) {D : va_G} {cs : Nat → ClassId} {adx : Nat → Nat} {Wf : MM → va_W} (hLx : Ln 9 adx (xsh cs adx) Wf) (hAd : ∀ a0_ b0_ : MM, (Wf a0_).map (fun q => q.1) = (Wf b0_).map (fun q => q.1)) (x : MM) (x1 : Int32) {rr : Int32} {x' : MM} (hD : D_X10_cleans x1 x = some (rr, x')) : Ct l yX10_cleans cX10_cleans 2 (some .int) 3 72 D cs [.ref (adx 0), .int x1] (Wf x) (Wf x') (some (.int rr)) := by
  refine Ct.ofW (by decide) (Nat.le_of_ble_eq_true rfl) (hAd _ _) ?_
  intro p e s m0 below meth c A Q ls args hx hb hr hml hlocks hown hts hK hP hD1 hSS hS hA1 hl hret
  have hT : ∀ w ∈ TBL, w.before args s = true := fun w h => hts w (List.mem_cons_of_mem _ h)
  have Fx0 : Fx p l m0 c cX10_cleans 2 s args yX10_cleans cX10_cleans 2 (some .int) D cs A := ⟨hx, hb, hml, hown, hts, hK, hSS⟩
  have hown : s.vm.findClass RX10 = some m0.cls := hown
  have hl : lv_has ls 2 [(0, .ref (adx 0)), (1, .int x1)] := hl
  unfold D_X10_cleans at hD
  refine lv_aload_n hx hb dX10_cleans_0 rfl (lv_at hl 0 rfl) ?_
  refine lv_iload_n hx hb dX10_cleans_1 rfl (lv_at hl 1 rfl) ?_
  refine lv_iconst (v := (1 : Int32)) hx hb dX10_cleans_2 (by decide) ?_
  obtain ⟨v1, z2, hD⟩ := b1_el hD
  refine rcV  (As := [.int x1, .int (1 : Int32)]) (rest := []) Fx0 (c_X10_ofSpindle l hLx hAd x x1 (1 : Int32) z2) hP (hD1 _ (hAd _ _)) hS (hA1 _ _ (hAd _ _) hS.1) hLx (Nat.le_of_ble_eq_true rfl) (xs0 _ _) rfl tw_7_190 tw_7_187 tw_7_189 ts_108 tw_1_13 yd_X10_ofSpindle ⟨(Nat.le_of_ble_eq_true rfl), (Nat.le_of_ble_eq_true rfl)⟩ rfl hl.1 rfl (Nat.le_of_ble_eq_true rfl) dX10_cleans_3 (fun H locs hP hS => ?_)
  refine lv_iconst (v := (-1 : Int32)) hx hb dX10_cleans_6 (by decide) ?_
  refine lv_icmp_eq (tgt := 13) hx hb dX10_cleans_7 (by decide) (fun c => ?_) (fun c => ?_)
  · have hD := ifp hD c
    refine lv_aload_n hx hb dX10_cleans_13 rfl (lv_at hl 0 rfl) ?_
    refine lv_iload_n hx hb dX10_cleans_14 rfl (lv_at hl 1 rfl) ?_
    refine lv_iconst (v := (0 : Int32)) hx hb dX10_cleans_15 (by decide) ?_
    obtain ⟨v3, z4, hD⟩ := b1_el hD
    refine rcV  (As := [.int x1, .int (0 : Int32)]) (rest := []) Fx0 (c_X10_ofSpindle l hLx hAd x x1 (0 : Int32) z4) hP (hD1 _ (hAd _ _)) hS (hA1 _ _ (hAd _ _) hS.1) hLx (Nat.le_of_ble_eq_true rfl) (xs0 _ _) rfl tw_7_190 tw_7_187 tw_7_189 ts_108 tw_1_13 yd_X10_ofSpindle ⟨(Nat.le_of_ble_eq_true rfl), (Nat.le_of_ble_eq_true rfl)⟩ rfl hl.1 rfl (Nat.le_of_ble_eq_true rfl) dX10_cleans_16 (fun H locs hP hS => ?_)
    refine lv_iconst (v := (-1 : Int32)) hx hb dX10_cleans_19 (by decide) ?_
    refine lv_icmp_ne (tgt := 26) hx hb dX10_cleans_20 (by decide) (fun c => ?_) (fun c => ?_)
    · have hD := ifn hD c
      refine lv_aload_n hx hb dX10_cleans_26 rfl (lv_at hl 0 rfl) ?_
      refine lv_bipush (v := (6 : Int32)) hx hb dX10_cleans_27 (by decide) ?_
      refine lv_iconst (v := (0 : Int32)) hx hb dX10_cleans_29 (by decide) ?_
      refine lv_iconst (v := (0 : Int32)) hx hb dX10_cleans_30 (by decide) ?_
      refine lv_aload_n hx hb dX10_cleans_31 rfl (lv_at hl 0 rfl) ?_
      refine rg  hx hb hT hu10 hown hK hP hLx 0 0 (Nat.le_of_ble_eq_true rfl) (xs0 _ _) rfl (Nat.le_of_ble_eq_true rfl) (Fx0.T tw_6_215) rfl (v := .ref (adx 1)) rfl dX10_cleans_32 ?_
      refine lv_bipush (v := (14 : Int32)) hx hb dX10_cleans_35 (by decide) ?_
      refine riald  hx hb hK hP hLx 1 (Nat.le_of_ble_eq_true rfl) (xs1 _ _) (by decide) (j := 14) (by decide) dX10_cleans_37 ?_
      obtain ⟨m5, z6, hD⟩ := b1_el hD
      refine rcV  (As := [.int (6 : Int32), .int (0 : Int32), .int (0 : Int32), .int (gi x 1 14)]) (rest := []) Fx0 (c_X10_goes l hLx hAd x (6 : Int32) (0 : Int32) (0 : Int32) (gi x 1 14) z6) hP (hD1 _ (hAd _ _)) hS (hA1 _ _ (hAd _ _) hS.1) hLx (Nat.le_of_ble_eq_true rfl) (xs0 _ _) rfl tw_8_115 tw_8_112 tw_8_114 ts_128 tw_1_13 yd_X10_goes ⟨(Nat.le_of_ble_eq_true rfl), (Nat.le_of_ble_eq_true rfl)⟩ rfl hl.1 rfl (Nat.le_of_ble_eq_true rfl) dX10_cleans_38 (fun H locs hP hS => ?_)
      refine lv_aload_n hx hb dX10_cleans_41 rfl (lv_at hl 0 rfl) ?_
      refine lv_iload_n hx hb dX10_cleans_42 rfl (lv_at hl 1 rfl) ?_
      refine lv_bipush (v := (7 : Int32)) hx hb dX10_cleans_43 (by decide) ?_
      refine lv_iconst (v := (0 : Int32)) hx hb dX10_cleans_45 (by decide) ?_
      obtain ⟨m7, z8, hD⟩ := b1_el hD
      refine rcV  (As := [.int x1, .int (7 : Int32), .int (0 : Int32)]) (rest := []) Fx0 (c_X10_putSpindle l hLx hAd m5 x1 (7 : Int32) (0 : Int32) z8) hP (hD1 _ (hAd _ _)) hS (hA1 _ _ (hAd _ _) hS.1) hLx (Nat.le_of_ble_eq_true rfl) (xs0 _ _) rfl tw_8_123 tw_8_120 tw_8_122 ts_130 tw_1_13 yd_X10_putSpindle ⟨(Nat.le_of_ble_eq_true rfl), (Nat.le_of_ble_eq_true rfl)⟩ rfl hl.1 rfl (Nat.le_of_ble_eq_true rfl) dX10_cleans_46 (fun H locs hP hS => ?_)
      refine lv_aload_n hx hb dX10_cleans_49 rfl (lv_at hl 0 rfl) ?_
      refine lv_bipush (v := (6 : Int32)) hx hb dX10_cleans_50 (by decide) ?_
      refine lv_iload_n hx hb dX10_cleans_52 rfl (lv_at hl 1 rfl) ?_
      refine lv_iconst (v := (0 : Int32)) hx hb dX10_cleans_53 (by decide) ?_
      refine lv_iconst (v := (1 : Int32)) hx hb dX10_cleans_54 (by decide) ?_
      obtain ⟨v9, m10, z11, hD⟩ := b2_el hD
      refine rcV  (As := [.int (6 : Int32), .int x1, .int (0 : Int32), .int (1 : Int32)]) (rest := []) Fx0 (c_X10_notes l hLx hAd m7 (6 : Int32) x1 (0 : Int32) (1 : Int32) z11) hP (hD1 _ (hAd _ _)) hS (hA1 _ _ (hAd _ _) hS.1) hLx (Nat.le_of_ble_eq_true rfl) (xs0 _ _) rfl tw_8_127 tw_8_124 tw_8_126 ts_131 tw_1_13 yd_X10_notes ⟨(Nat.le_of_ble_eq_true rfl), (Nat.le_of_ble_eq_true rfl)⟩ rfl hl.1 rfl (Nat.le_of_ble_eq_true rfl) dX10_cleans_55 (fun H locs hP hS => ?_)
      obtain ⟨rfl, rfl⟩ := es2 hD
      exact hret _ _ _ hP hS (fun Qc hq => W.iret hx hb hr hq hS.2.2 dX10_cleans_58 hlocks)
    · have hD := ifp hD c
      refine lv_bipush (v := (-4 : Int32)) hx hb dX10_cleans_23 (by decide) ?_
      obtain ⟨rfl, rfl⟩ := es2 hD
      exact hret _ _ _ hP hS (fun Qc hq => W.iret hx hb hr hq hS.2.2 dX10_cleans_25 hlocks)
  · have hD := ifn hD c
    refine lv_bipush (v := (-3 : Int32)) hx hb dX10_cleans_10 (by decide) ?_
    obtain ⟨rfl, rfl⟩ := es2 hD
    exact hret _ _ _ hP hS (fun Qc hq => W.iret hx hb hr hq hS.2.2 dX10_cleans_12 hlocks)

noncomputable def D_X10_takesPart_59 (x1 : Int32) (x2 : Int32) (x3 : Int32) (xt0 : Int32) (x : MM) : Option (Int32 × MM) := b1 (D_X10_ofSpindle x1 (7 : Int32) x) (fun v10 => b1 (D_X10_putSpindle x1 (7 : Int32) (v10 + (1 : Int32)) x) (fun m12 => b1 (D_X10_ofFeeder x2 (2 : Int32) m12) (fun v14 => b1 (D_X10_putFeeder x2 (2 : Int32) (v14 - (1 : Int32)) m12) (fun m16 => if xt0 = 0 then (b1 (D_X10_ofFeeder x2 (5 : Int32) m16) (fun v18 => b1 (D_X10_putFeeder x2 (5 : Int32) (v18 + (1 : Int32)) m16) (fun m20 => b1 (D_X10_putSpindle x1 (1 : Int32) x3 m20) (fun m22 => b1 (D_X10_putSpindle x1 (2 : Int32) (0 : Int32) m22) (fun m24 => b1 (D_X10_putSpindle x1 (3 : Int32) (0 : Int32) m24) (fun m26 => b1 (D_X10_splices x2 m26) (fun m28 => if xt0 = 0 then (some ((1 : Int32), m28)) else (some ((0 : Int32), m28))))))))) else (b1 (D_X10_ofFeeder x2 (6 : Int32) m16) (fun v30 => b1 (D_X10_putFeeder x2 (6 : Int32) (v30 + (1 : Int32)) m16) (fun m32 => b1 (D_X10_books x3 (3 : Int32) (1 : Int32) m32) (fun m34 => b1 (D_X10_splices x2 m34) (fun m36 => if xt0 = 0 then (some ((1 : Int32), m36)) else (some ((0 : Int32), m36)))))))))))
noncomputable def D_X10_takesPart (x1 : Int32) (x2 : Int32) (x3 : Int32) (x : MM) : Option (Int32 × MM) := b1 (D_X10_ofFeeder x2 (7 : Int32) x) (fun v1 => if v1 = (1 : Int32) then (b1 (D_X10_putFeeder x2 (7 : Int32) (0 : Int32) x) (fun m38 => some ((0 : Int32), m38))) else (b2 (D_X10_draw x) (fun v3 m4 => b1 (D_X10_ofFeeder x2 (3 : Int32) m4) (fun v6 => b1 (D_X10_isWorn x1 m4) (fun v8 => if v8 = 0 then (if (v6 + (0 : Int32)) ≤ v3 then (D_X10_takesPart_59 x1 x2 x3 (0 : Int32) m4) else (D_X10_takesPart_59 x1 x2 x3 (1 : Int32) m4)) else (if (v6 + (gi m4 1 13)) ≤ v3 then (D_X10_takesPart_59 x1 x2 x3 (0 : Int32) m4) else (D_X10_takesPart_59 x1 x2 x3 (1 : Int32) m4)))))))
set_option maxHeartbeats 4000000 in
set_option maxRecDepth 100000 in
theorem c_X10_takesPart (l : Launch) {D : va_G} {cs : Nat → ClassId} {adx : Nat → Nat} {Wf : MM → va_W} (hLx : Ln 9 adx (xsh cs adx) Wf) (hAd : ∀ a0_ b0_ : MM, (Wf a0_).map (fun q => q.1) = (Wf b0_).map (fun q => q.1)) (x : MM) (x1 : Int32) (x2 : Int32) (x3 : Int32) {rr : Int32} {x' : MM} (hD : D_X10_takesPart x1 x2 x3 x = some (rr, x')) : Ct l yX10_takesPart cX10_takesPart 5 (some .boolean) 2 45 D cs [.ref (adx 0), .int x1, .int x2, .int x3] (Wf x) (Wf x') (some (.int rr)) := by
  refine Ct.ofW (by decide) (Nat.le_of_ble_eq_true rfl) (hAd _ _) ?_
  intro p e s m0 below meth c A Q ls args hx hb hr hml hlocks hown hts hK hP hD1 hSS hS hA1 hl hret
  have hT : ∀ w ∈ TBL, w.before args s = true := fun w h => hts w (List.mem_cons_of_mem _ h)
  have Fx0 : Fx p l m0 c cX10_takesPart 5 s args yX10_takesPart cX10_takesPart 5 (some .boolean) D cs A := ⟨hx, hb, hml, hown, hts, hK, hSS⟩
  have hown : s.vm.findClass RX10 = some m0.cls := hown
  have hl : lv_has ls 5 [(0, .ref (adx 0)), (1, .int x1), (2, .int x2), (3, .int x3)] := hl
  unfold D_X10_takesPart at hD
  have c_59 : ∀ (x1 : Int32) (x2 : Int32) (x3 : Int32) (xt0 : Int32) (x : MM) (H : Heap) (locs : List Loc) (ls : Array Slot), D_X10_takesPart_59 x1 x2 x3 xt0 x = some (rr, x') → va_P D vwCl (Wf x) H → va_S A s.heap H locs → lv_has ls 5 [(0, .ref (adx 0)), (1, .int x1), (2, .int x2), (3, .int x3)] → W p l e ({ frames := 2, cells := 0, slots := 0, locals := 45 } : Room) s m0 args below meth c H locs 0 0 Q (F0 m0 59 ls [.int xt0]) := by
    intro x1 x2 x3 xt0 x H locs ls hD hP hS hl
    unfold D_X10_takesPart_59 at hD
    refine lv_istore (lv' := [(4, .int xt0), (0, .ref (adx 0)), (1, .int x1), (2, .int x2), (3, .int x3)]) hx hb dX10_takesPart_59 hl (by decide) rfl (fun ls hl => ?_)
    refine lv_aload_n hx hb dX10_takesPart_61 rfl (lv_at hl 1 rfl) ?_
    refine lv_iload_n hx hb dX10_takesPart_62 rfl (lv_at hl 2 rfl) ?_
    refine lv_bipush (v := (7 : Int32)) hx hb dX10_takesPart_63 (by decide) ?_
    refine lv_aload_n hx hb dX10_takesPart_65 rfl (lv_at hl 1 rfl) ?_
    refine lv_iload_n hx hb dX10_takesPart_66 rfl (lv_at hl 2 rfl) ?_
    refine lv_bipush (v := (7 : Int32)) hx hb dX10_takesPart_67 (by decide) ?_
    obtain ⟨v10, z11, hD⟩ := b1_el hD
    refine rcV  (As := [.int x1, .int (7 : Int32)]) (rest := [.int (7 : Int32), .int x1, .ref (adx 0)]) Fx0 (c_X10_ofSpindle l hLx hAd x x1 (7 : Int32) z11) hP (hD1 _ (hAd _ _)) hS (hA1 _ _ (hAd _ _) hS.1) hLx (Nat.le_of_ble_eq_true rfl) (xs0 _ _) rfl tw_7_190 tw_7_187 tw_7_189 ts_108 tw_1_13 yd_X10_ofSpindle ⟨(Nat.le_of_ble_eq_true rfl), (Nat.le_of_ble_eq_true rfl)⟩ rfl hl.1 rfl (Nat.le_of_ble_eq_true rfl) dX10_takesPart_69 (fun H locs hP hS => ?_)
    refine lv_iconst (v := (1 : Int32)) hx hb dX10_takesPart_72 (by decide) ?_
    refine lv_iadd hx hb dX10_takesPart_73 ?_
    obtain ⟨m12, z13, hD⟩ := b1_el hD
    refine rcV  (As := [.int x1, .int (7 : Int32), .int (v10 + (1 : Int32))]) (rest := []) Fx0 (c_X10_putSpindle l hLx hAd x x1 (7 : Int32) (v10 + (1 : Int32)) z13) hP (hD1 _ (hAd _ _)) hS (hA1 _ _ (hAd _ _) hS.1) hLx (Nat.le_of_ble_eq_true rfl) (xs0 _ _) rfl tw_8_123 tw_8_120 tw_8_122 ts_130 tw_1_13 yd_X10_putSpindle ⟨(Nat.le_of_ble_eq_true rfl), (Nat.le_of_ble_eq_true rfl)⟩ rfl hl.1 rfl (Nat.le_of_ble_eq_true rfl) dX10_takesPart_74 (fun H locs hP hS => ?_)
    refine lv_aload_n hx hb dX10_takesPart_77 rfl (lv_at hl 1 rfl) ?_
    refine lv_iload_n hx hb dX10_takesPart_78 rfl (lv_at hl 3 rfl) ?_
    refine lv_iconst (v := (2 : Int32)) hx hb dX10_takesPart_79 (by decide) ?_
    refine lv_aload_n hx hb dX10_takesPart_80 rfl (lv_at hl 1 rfl) ?_
    refine lv_iload_n hx hb dX10_takesPart_81 rfl (lv_at hl 3 rfl) ?_
    refine lv_iconst (v := (2 : Int32)) hx hb dX10_takesPart_82 (by decide) ?_
    obtain ⟨v14, z15, hD⟩ := b1_el hD
    refine rcV  (As := [.int x2, .int (2 : Int32)]) (rest := [.int (2 : Int32), .int x2, .ref (adx 0)]) Fx0 (c_X10_ofFeeder l hLx hAd m12 x2 (2 : Int32) z15) hP (hD1 _ (hAd _ _)) hS (hA1 _ _ (hAd _ _) hS.1) hLx (Nat.le_of_ble_eq_true rfl) (xs0 _ _) rfl tw_7_222 tw_7_219 tw_7_221 ts_113 tw_1_13 yd_X10_ofFeeder ⟨(Nat.le_of_ble_eq_true rfl), (Nat.le_of_ble_eq_true rfl)⟩ rfl hl.1 rfl (Nat.le_of_ble_eq_true rfl) dX10_takesPart_83 (fun H locs hP hS => ?_)
    refine lv_iconst (v := (1 : Int32)) hx hb dX10_takesPart_86 (by decide) ?_
    refine lv_isub hx hb dX10_takesPart_87 ?_
    obtain ⟨m16, z17, hD⟩ := b1_el hD
    refine rcV  (As := [.int x2, .int (2 : Int32), .int (v14 - (1 : Int32))]) (rest := []) Fx0 (c_X10_putFeeder l hLx hAd m12 x2 (2 : Int32) (v14 - (1 : Int32)) z17) hP (hD1 _ (hAd _ _)) hS (hA1 _ _ (hAd _ _) hS.1) hLx (Nat.le_of_ble_eq_true rfl) (xs0 _ _) rfl tw_7_231 tw_7_228 tw_7_230 ts_114 tw_1_13 yd_X10_putFeeder ⟨(Nat.le_of_ble_eq_true rfl), (Nat.le_of_ble_eq_true rfl)⟩ rfl hl.1 rfl (Nat.le_of_ble_eq_true rfl) dX10_takesPart_88 (fun H locs hP hS => ?_)
    refine lv_iload hx hb dX10_takesPart_91 (lv_at hl 0 rfl) ?_
    refine lv_if_eq (tgt := 122) hx hb dX10_takesPart_93 (by decide) (fun c => ?_) (fun c => ?_)
    · have hD := ifp hD c
      refine lv_aload_n hx hb dX10_takesPart_122 rfl (lv_at hl 1 rfl) ?_
      refine lv_iload_n hx hb dX10_takesPart_123 rfl (lv_at hl 3 rfl) ?_
      refine lv_iconst (v := (5 : Int32)) hx hb dX10_takesPart_124 (by decide) ?_
      refine lv_aload_n hx hb dX10_takesPart_125 rfl (lv_at hl 1 rfl) ?_
      refine lv_iload_n hx hb dX10_takesPart_126 rfl (lv_at hl 3 rfl) ?_
      refine lv_iconst (v := (5 : Int32)) hx hb dX10_takesPart_127 (by decide) ?_
      obtain ⟨v18, z19, hD⟩ := b1_el hD
      refine rcV  (As := [.int x2, .int (5 : Int32)]) (rest := [.int (5 : Int32), .int x2, .ref (adx 0)]) Fx0 (c_X10_ofFeeder l hLx hAd m16 x2 (5 : Int32) z19) hP (hD1 _ (hAd _ _)) hS (hA1 _ _ (hAd _ _) hS.1) hLx (Nat.le_of_ble_eq_true rfl) (xs0 _ _) rfl tw_7_222 tw_7_219 tw_7_221 ts_113 tw_1_13 yd_X10_ofFeeder ⟨(Nat.le_of_ble_eq_true rfl), (Nat.le_of_ble_eq_true rfl)⟩ rfl hl.1 rfl (Nat.le_of_ble_eq_true rfl) dX10_takesPart_128 (fun H locs hP hS => ?_)
      refine lv_iconst (v := (1 : Int32)) hx hb dX10_takesPart_131 (by decide) ?_
      refine lv_iadd hx hb dX10_takesPart_132 ?_
      obtain ⟨m20, z21, hD⟩ := b1_el hD
      refine rcV  (As := [.int x2, .int (5 : Int32), .int (v18 + (1 : Int32))]) (rest := []) Fx0 (c_X10_putFeeder l hLx hAd m16 x2 (5 : Int32) (v18 + (1 : Int32)) z21) hP (hD1 _ (hAd _ _)) hS (hA1 _ _ (hAd _ _) hS.1) hLx (Nat.le_of_ble_eq_true rfl) (xs0 _ _) rfl tw_7_231 tw_7_228 tw_7_230 ts_114 tw_1_13 yd_X10_putFeeder ⟨(Nat.le_of_ble_eq_true rfl), (Nat.le_of_ble_eq_true rfl)⟩ rfl hl.1 rfl (Nat.le_of_ble_eq_true rfl) dX10_takesPart_133 (fun H locs hP hS => ?_)
      refine lv_aload_n hx hb dX10_takesPart_136 rfl (lv_at hl 1 rfl) ?_
      refine lv_iload_n hx hb dX10_takesPart_137 rfl (lv_at hl 2 rfl) ?_
      refine lv_iconst (v := (1 : Int32)) hx hb dX10_takesPart_138 (by decide) ?_
      refine lv_iload_n hx hb dX10_takesPart_139 rfl (lv_at hl 4 rfl) ?_
      obtain ⟨m22, z23, hD⟩ := b1_el hD
      refine rcV  (As := [.int x1, .int (1 : Int32), .int x3]) (rest := []) Fx0 (c_X10_putSpindle l hLx hAd m20 x1 (1 : Int32) x3 z23) hP (hD1 _ (hAd _ _)) hS (hA1 _ _ (hAd _ _) hS.1) hLx (Nat.le_of_ble_eq_true rfl) (xs0 _ _) rfl tw_8_123 tw_8_120 tw_8_122 ts_130 tw_1_13 yd_X10_putSpindle ⟨(Nat.le_of_ble_eq_true rfl), (Nat.le_of_ble_eq_true rfl)⟩ rfl hl.1 rfl (Nat.le_of_ble_eq_true rfl) dX10_takesPart_140 (fun H locs hP hS => ?_)
      refine lv_aload_n hx hb dX10_takesPart_143 rfl (lv_at hl 1 rfl) ?_
      refine lv_iload_n hx hb dX10_takesPart_144 rfl (lv_at hl 2 rfl) ?_
      refine lv_iconst (v := (2 : Int32)) hx hb dX10_takesPart_145 (by decide) ?_
      refine lv_iconst (v := (0 : Int32)) hx hb dX10_takesPart_146 (by decide) ?_
      obtain ⟨m24, z25, hD⟩ := b1_el hD
      refine rcV  (As := [.int x1, .int (2 : Int32), .int (0 : Int32)]) (rest := []) Fx0 (c_X10_putSpindle l hLx hAd m22 x1 (2 : Int32) (0 : Int32) z25) hP (hD1 _ (hAd _ _)) hS (hA1 _ _ (hAd _ _) hS.1) hLx (Nat.le_of_ble_eq_true rfl) (xs0 _ _) rfl tw_8_123 tw_8_120 tw_8_122 ts_130 tw_1_13 yd_X10_putSpindle ⟨(Nat.le_of_ble_eq_true rfl), (Nat.le_of_ble_eq_true rfl)⟩ rfl hl.1 rfl (Nat.le_of_ble_eq_true rfl) dX10_takesPart_147 (fun H locs hP hS => ?_)
      refine lv_aload_n hx hb dX10_takesPart_150 rfl (lv_at hl 1 rfl) ?_
      refine lv_iload_n hx hb dX10_takesPart_151 rfl (lv_at hl 2 rfl) ?_
      refine lv_iconst (v := (3 : Int32)) hx hb dX10_takesPart_152 (by decide) ?_
      refine lv_iconst (v := (0 : Int32)) hx hb dX10_takesPart_153 (by decide) ?_
      obtain ⟨m26, z27, hD⟩ := b1_el hD
      refine rcV  (As := [.int x1, .int (3 : Int32), .int (0 : Int32)]) (rest := []) Fx0 (c_X10_putSpindle l hLx hAd m24 x1 (3 : Int32) (0 : Int32) z27) hP (hD1 _ (hAd _ _)) hS (hA1 _ _ (hAd _ _) hS.1) hLx (Nat.le_of_ble_eq_true rfl) (xs0 _ _) rfl tw_8_123 tw_8_120 tw_8_122 ts_130 tw_1_13 yd_X10_putSpindle ⟨(Nat.le_of_ble_eq_true rfl), (Nat.le_of_ble_eq_true rfl)⟩ rfl hl.1 rfl (Nat.le_of_ble_eq_true rfl) dX10_takesPart_154 (fun H locs hP hS => ?_)
      refine lv_aload_n hx hb dX10_takesPart_157 rfl (lv_at hl 1 rfl) ?_
      refine lv_iload_n hx hb dX10_takesPart_158 rfl (lv_at hl 3 rfl) ?_
      obtain ⟨m28, z29, hD⟩ := b1_el hD
      refine rcV  (As := [.int x2]) (rest := []) Fx0 (c_X10_splices l hLx hAd m26 x2 z29) hP (hD1 _ (hAd _ _)) hS (hA1 _ _ (hAd _ _) hS.1) hLx (Nat.le_of_ble_eq_true rfl) (xs0 _ _) rfl tw_7_239 tw_7_236 tw_7_238 ts_116 tw_1_13 yd_X10_splices ⟨(Nat.le_of_ble_eq_true rfl), (Nat.le_of_ble_eq_true rfl)⟩ rfl hl.1 rfl (Nat.le_of_ble_eq_true rfl) dX10_takesPart_159 (fun H locs hP hS => ?_)
      refine lv_iload hx hb dX10_takesPart_162 (lv_at hl 0 rfl) ?_
      refine lv_if_ne (tgt := 171) hx hb dX10_takesPart_164 (by decide) (fun c => ?_) (fun c => ?_)
      · have hD := ifn hD c
        refine lv_iconst (v := (0 : Int32)) hx hb dX10_takesPart_171 (by decide) ?_
        obtain ⟨rfl, rfl⟩ := es2 hD
        exact hret _ _ _ hP hS (fun Qc hq => W.zret hx hb hr rfl hq hS.2.2 dX10_takesPart_172 hlocks)
      · have hD := ifp hD c
        refine lv_iconst (v := (1 : Int32)) hx hb dX10_takesPart_167 (by decide) ?_
        refine lv_goto (tgt := 172) hx hb dX10_takesPart_168 (by decide) ?_
        obtain ⟨rfl, rfl⟩ := es2 hD
        exact hret _ _ _ hP hS (fun Qc hq => W.zret hx hb hr rfl hq hS.2.2 dX10_takesPart_172 hlocks)
    · have hD := ifn hD c
      refine lv_aload_n hx hb dX10_takesPart_96 rfl (lv_at hl 1 rfl) ?_
      refine lv_iload_n hx hb dX10_takesPart_97 rfl (lv_at hl 3 rfl) ?_
      refine lv_bipush (v := (6 : Int32)) hx hb dX10_takesPart_98 (by decide) ?_
      refine lv_aload_n hx hb dX10_takesPart_100 rfl (lv_at hl 1 rfl) ?_
      refine lv_iload_n hx hb dX10_takesPart_101 rfl (lv_at hl 3 rfl) ?_
      refine lv_bipush (v := (6 : Int32)) hx hb dX10_takesPart_102 (by decide) ?_
      obtain ⟨v30, z31, hD⟩ := b1_el hD
      refine rcV  (As := [.int x2, .int (6 : Int32)]) (rest := [.int (6 : Int32), .int x2, .ref (adx 0)]) Fx0 (c_X10_ofFeeder l hLx hAd m16 x2 (6 : Int32) z31) hP (hD1 _ (hAd _ _)) hS (hA1 _ _ (hAd _ _) hS.1) hLx (Nat.le_of_ble_eq_true rfl) (xs0 _ _) rfl tw_7_222 tw_7_219 tw_7_221 ts_113 tw_1_13 yd_X10_ofFeeder ⟨(Nat.le_of_ble_eq_true rfl), (Nat.le_of_ble_eq_true rfl)⟩ rfl hl.1 rfl (Nat.le_of_ble_eq_true rfl) dX10_takesPart_104 (fun H locs hP hS => ?_)
      refine lv_iconst (v := (1 : Int32)) hx hb dX10_takesPart_107 (by decide) ?_
      refine lv_iadd hx hb dX10_takesPart_108 ?_
      obtain ⟨m32, z33, hD⟩ := b1_el hD
      refine rcV  (As := [.int x2, .int (6 : Int32), .int (v30 + (1 : Int32))]) (rest := []) Fx0 (c_X10_putFeeder l hLx hAd m16 x2 (6 : Int32) (v30 + (1 : Int32)) z33) hP (hD1 _ (hAd _ _)) hS (hA1 _ _ (hAd _ _) hS.1) hLx (Nat.le_of_ble_eq_true rfl) (xs0 _ _) rfl tw_7_231 tw_7_228 tw_7_230 ts_114 tw_1_13 yd_X10_putFeeder ⟨(Nat.le_of_ble_eq_true rfl), (Nat.le_of_ble_eq_true rfl)⟩ rfl hl.1 rfl (Nat.le_of_ble_eq_true rfl) dX10_takesPart_109 (fun H locs hP hS => ?_)
      refine lv_aload_n hx hb dX10_takesPart_112 rfl (lv_at hl 1 rfl) ?_
      refine lv_iload_n hx hb dX10_takesPart_113 rfl (lv_at hl 4 rfl) ?_
      refine lv_iconst (v := (3 : Int32)) hx hb dX10_takesPart_114 (by decide) ?_
      refine lv_iconst (v := (1 : Int32)) hx hb dX10_takesPart_115 (by decide) ?_
      obtain ⟨m34, z35, hD⟩ := b1_el hD
      refine rcV  (As := [.int x3, .int (3 : Int32), .int (1 : Int32)]) (rest := []) Fx0 (c_X10_books l hLx hAd m32 x3 (3 : Int32) (1 : Int32) z35) hP (hD1 _ (hAd _ _)) hS (hA1 _ _ (hAd _ _) hS.1) hLx (Nat.le_of_ble_eq_true rfl) (xs0 _ _) rfl tw_7_235 tw_7_232 tw_7_234 ts_115 tw_1_13 yd_X10_books ⟨(Nat.le_of_ble_eq_true rfl), (Nat.le_of_ble_eq_true rfl)⟩ rfl hl.1 rfl (Nat.le_of_ble_eq_true rfl) dX10_takesPart_116 (fun H locs hP hS => ?_)
      refine lv_goto (tgt := 157) hx hb dX10_takesPart_119 (by decide) ?_
      refine lv_aload_n hx hb dX10_takesPart_157 rfl (lv_at hl 1 rfl) ?_
      refine lv_iload_n hx hb dX10_takesPart_158 rfl (lv_at hl 3 rfl) ?_
      obtain ⟨m36, z37, hD⟩ := b1_el hD
      refine rcV  (As := [.int x2]) (rest := []) Fx0 (c_X10_splices l hLx hAd m34 x2 z37) hP (hD1 _ (hAd _ _)) hS (hA1 _ _ (hAd _ _) hS.1) hLx (Nat.le_of_ble_eq_true rfl) (xs0 _ _) rfl tw_7_239 tw_7_236 tw_7_238 ts_116 tw_1_13 yd_X10_splices ⟨(Nat.le_of_ble_eq_true rfl), (Nat.le_of_ble_eq_true rfl)⟩ rfl hl.1 rfl (Nat.le_of_ble_eq_true rfl) dX10_takesPart_159 (fun H locs hP hS => ?_)
      refine lv_iload hx hb dX10_takesPart_162 (lv_at hl 0 rfl) ?_
      refine lv_if_ne (tgt := 171) hx hb dX10_takesPart_164 (by decide) (fun c => ?_) (fun c => ?_)
      · have hD := ifn hD c
        refine lv_iconst (v := (0 : Int32)) hx hb dX10_takesPart_171 (by decide) ?_
        obtain ⟨rfl, rfl⟩ := es2 hD
        exact hret _ _ _ hP hS (fun Qc hq => W.zret hx hb hr rfl hq hS.2.2 dX10_takesPart_172 hlocks)
      · have hD := ifp hD c
        refine lv_iconst (v := (1 : Int32)) hx hb dX10_takesPart_167 (by decide) ?_
        refine lv_goto (tgt := 172) hx hb dX10_takesPart_168 (by decide) ?_
        obtain ⟨rfl, rfl⟩ := es2 hD
        exact hret _ _ _ hP hS (fun Qc hq => W.zret hx hb hr rfl hq hS.2.2 dX10_takesPart_172 hlocks)
  refine lv_aload_n hx hb dX10_takesPart_0 rfl (lv_at hl 0 rfl) ?_
  refine lv_iload_n hx hb dX10_takesPart_1 rfl (lv_at hl 2 rfl) ?_
  refine lv_bipush (v := (7 : Int32)) hx hb dX10_takesPart_2 (by decide) ?_
  obtain ⟨v1, z2, hD⟩ := b1_el hD
  refine rcV  (As := [.int x2, .int (7 : Int32)]) (rest := []) Fx0 (c_X10_ofFeeder l hLx hAd x x2 (7 : Int32) z2) hP (hD1 _ (hAd _ _)) hS (hA1 _ _ (hAd _ _) hS.1) hLx (Nat.le_of_ble_eq_true rfl) (xs0 _ _) rfl tw_7_222 tw_7_219 tw_7_221 ts_113 tw_1_13 yd_X10_ofFeeder ⟨(Nat.le_of_ble_eq_true rfl), (Nat.le_of_ble_eq_true rfl)⟩ rfl hl.1 rfl (Nat.le_of_ble_eq_true rfl) dX10_takesPart_4 (fun H locs hP hS => ?_)
  refine lv_iconst (v := (1 : Int32)) hx hb dX10_takesPart_7 (by decide) ?_
  refine lv_icmp_ne (tgt := 21) hx hb dX10_takesPart_8 (by decide) (fun c => ?_) (fun c => ?_)
  · have hD := ifn hD c
    refine lv_aload_n hx hb dX10_takesPart_21 rfl (lv_at hl 0 rfl) ?_
    obtain ⟨v3, m4, z5, hD⟩ := b2_el hD
    refine rcV  (As := []) (rest := []) Fx0 (c_X10_draw l hLx hAd x z5) hP (hD1 _ (hAd _ _)) hS (hA1 _ _ (hAd _ _) hS.1) hLx (Nat.le_of_ble_eq_true rfl) (xs0 _ _) rfl tw_8_143 tw_8_140 tw_8_142 ts_134 tw_1_13 yd_X10_draw ⟨(Nat.le_of_ble_eq_true rfl), (Nat.le_of_ble_eq_true rfl)⟩ rfl hl.1 rfl (Nat.le_of_ble_eq_true rfl) dX10_takesPart_22 (fun H locs hP hS => ?_)
    refine lv_aload_n hx hb dX10_takesPart_25 rfl (lv_at hl 0 rfl) ?_
    refine lv_iload_n hx hb dX10_takesPart_26 rfl (lv_at hl 2 rfl) ?_
    refine lv_iconst (v := (3 : Int32)) hx hb dX10_takesPart_27 (by decide) ?_
    obtain ⟨v6, z7, hD⟩ := b1_el hD
    refine rcV  (As := [.int x2, .int (3 : Int32)]) (rest := [.int v3]) Fx0 (c_X10_ofFeeder l hLx hAd m4 x2 (3 : Int32) z7) hP (hD1 _ (hAd _ _)) hS (hA1 _ _ (hAd _ _) hS.1) hLx (Nat.le_of_ble_eq_true rfl) (xs0 _ _) rfl tw_7_222 tw_7_219 tw_7_221 ts_113 tw_1_13 yd_X10_ofFeeder ⟨(Nat.le_of_ble_eq_true rfl), (Nat.le_of_ble_eq_true rfl)⟩ rfl hl.1 rfl (Nat.le_of_ble_eq_true rfl) dX10_takesPart_28 (fun H locs hP hS => ?_)
    refine lv_aload_n hx hb dX10_takesPart_31 rfl (lv_at hl 0 rfl) ?_
    refine lv_iload_n hx hb dX10_takesPart_32 rfl (lv_at hl 1 rfl) ?_
    obtain ⟨v8, z9, hD⟩ := b1_el hD
    refine rcV  (As := [.int x1]) (rest := [.int v6, .int v3]) Fx0 (c_X10_isWorn l hLx hAd m4 x1 z9) hP (hD1 _ (hAd _ _)) hS (hA1 _ _ (hAd _ _) hS.1) hLx (Nat.le_of_ble_eq_true rfl) (xs0 _ _) rfl tw_8_151 tw_8_148 tw_8_150 ts_135 tw_1_13 yd_X10_isWorn ⟨(Nat.le_of_ble_eq_true rfl), (Nat.le_of_ble_eq_true rfl)⟩ rfl hl.1 rfl (Nat.le_of_ble_eq_true rfl) dX10_takesPart_33 (fun H locs hP hS => ?_)
    refine lv_if_eq (tgt := 49) hx hb dX10_takesPart_36 (by decide) (fun c => ?_) (fun c => ?_)
    · have hD := ifp hD c
      refine lv_iconst (v := (0 : Int32)) hx hb dX10_takesPart_49 (by decide) ?_
      refine lv_iadd hx hb dX10_takesPart_50 ?_
      refine lv_icmp_ge (tgt := 58) hx hb dX10_takesPart_51 (by decide) (fun c => ?_) (fun c => ?_)
      · have hD := ifp hD c
        refine lv_iconst (v := (0 : Int32)) hx hb dX10_takesPart_58 (by decide) ?_
        exact c_59 _ _ _ _ _ _ _ _ hD hP hS (lv_sub hl [0, 1, 2, 3] rfl)
      · have hD := ifn hD c
        refine lv_iconst (v := (1 : Int32)) hx hb dX10_takesPart_54 (by decide) ?_
        refine lv_goto (tgt := 59) hx hb dX10_takesPart_55 (by decide) ?_
        exact c_59 _ _ _ _ _ _ _ _ hD hP hS (lv_sub hl [0, 1, 2, 3] rfl)
    · have hD := ifn hD c
      refine lv_aload_n hx hb dX10_takesPart_39 rfl (lv_at hl 0 rfl) ?_
      refine rg  hx hb hT hu10 hown hK hP hLx 0 0 (Nat.le_of_ble_eq_true rfl) (xs0 _ _) rfl (Nat.le_of_ble_eq_true rfl) (Fx0.T tw_6_215) rfl (v := .ref (adx 1)) rfl dX10_takesPart_40 ?_
      refine lv_bipush (v := (13 : Int32)) hx hb dX10_takesPart_43 (by decide) ?_
      refine riald  hx hb hK hP hLx 1 (Nat.le_of_ble_eq_true rfl) (xs1 _ _) (by decide) (j := 13) (by decide) dX10_takesPart_45 ?_
      refine lv_goto (tgt := 50) hx hb dX10_takesPart_46 (by decide) ?_
      refine lv_iadd hx hb dX10_takesPart_50 ?_
      refine lv_icmp_ge (tgt := 58) hx hb dX10_takesPart_51 (by decide) (fun c => ?_) (fun c => ?_)
      · have hD := ifp hD c
        refine lv_iconst (v := (0 : Int32)) hx hb dX10_takesPart_58 (by decide) ?_
        exact c_59 _ _ _ _ _ _ _ _ hD hP hS (lv_sub hl [0, 1, 2, 3] rfl)
      · have hD := ifn hD c
        refine lv_iconst (v := (1 : Int32)) hx hb dX10_takesPart_54 (by decide) ?_
        refine lv_goto (tgt := 59) hx hb dX10_takesPart_55 (by decide) ?_
        exact c_59 _ _ _ _ _ _ _ _ hD hP hS (lv_sub hl [0, 1, 2, 3] rfl)
  · have hD := ifp hD c
    refine lv_aload_n hx hb dX10_takesPart_11 rfl (lv_at hl 0 rfl) ?_
    refine lv_iload_n hx hb dX10_takesPart_12 rfl (lv_at hl 2 rfl) ?_
    refine lv_bipush (v := (7 : Int32)) hx hb dX10_takesPart_13 (by decide) ?_
    refine lv_iconst (v := (0 : Int32)) hx hb dX10_takesPart_15 (by decide) ?_
    obtain ⟨m38, z39, hD⟩ := b1_el hD
    refine rcV  (As := [.int x2, .int (7 : Int32), .int (0 : Int32)]) (rest := []) Fx0 (c_X10_putFeeder l hLx hAd x x2 (7 : Int32) (0 : Int32) z39) hP (hD1 _ (hAd _ _)) hS (hA1 _ _ (hAd _ _) hS.1) hLx (Nat.le_of_ble_eq_true rfl) (xs0 _ _) rfl tw_7_231 tw_7_228 tw_7_230 ts_114 tw_1_13 yd_X10_putFeeder ⟨(Nat.le_of_ble_eq_true rfl), (Nat.le_of_ble_eq_true rfl)⟩ rfl hl.1 rfl (Nat.le_of_ble_eq_true rfl) dX10_takesPart_16 (fun H locs hP hS => ?_)
    refine lv_iconst (v := (0 : Int32)) hx hb dX10_takesPart_19 (by decide) ?_
    obtain ⟨rfl, rfl⟩ := es2 hD
    exact hret _ _ _ hP hS (fun Qc hq => W.zret hx hb hr rfl hq hS.2.2 dX10_takesPart_20 hlocks)

noncomputable def D_X10_picks (x1 : Int32) (x2 : Int32) (x : MM) : Option (Int32 × MM) := b1 (D_X10_ofFeeder x2 (0 : Int32) x) (fun v1 => b1 (D_X10_ofSpindle x1 (1 : Int32) x) (fun v3 => if v3 = (-1 : Int32) then (b1 (D_X10_ofSpindle x1 (0 : Int32) x) (fun v5 => if ((50 : Int32) + v1) < 0 ∨ 640 ≤ ((50 : Int32) + v1).toNatClampNeg then none else (if v5 = (gi x 1 (((50 : Int32) + v1).toNatClampNeg)) then (b1 (D_X10_ofFeeder x2 (2 : Int32) x) (fun v8 => if v8 = 0 then (some ((-4 : Int32), x)) else (b1 (D_X10_ofFeeder x2 (1 : Int32) x) (fun v10 => b1 (D_X10_goes (2 : Int32) v10 (0 : Int32) (gi x 1 2) x) (fun m12 => b2 (D_X10_takesPart x1 x2 v1 m12) (fun v14 m15 => if v14 = 0 then (b2 (D_X10_notes (2 : Int32) x1 x2 (0 : Int32) m15) (fun v17 m18 => some (v17, m18))) else (b2 (D_X10_notes (2 : Int32) x1 x2 (1 : Int32) m15) (fun v20 m21 => some (v20, m21))))))))) else (some ((-5 : Int32), x))))) else (some ((-3 : Int32), x))))
set_option maxHeartbeats 4000000 in
set_option maxRecDepth 100000 in
theorem c_X10_picks (l : Launch) {D : va_G} {cs : Nat → ClassId} {adx : Nat → Nat} {Wf : MM → va_W} (hLx : Ln 9 adx (xsh cs adx) Wf) (hAd : ∀ a0_ b0_ : MM, (Wf a0_).map (fun q => q.1) = (Wf b0_).map (fun q => q.1)) (x : MM) (x1 : Int32) (x2 : Int32) {rr : Int32} {x' : MM} (hD : D_X10_picks x1 x2 x = some (rr, x')) : Ct l yX10_picks cX10_picks 4 (some .int) 3 72 D cs [.ref (adx 0), .int x1, .int x2] (Wf x) (Wf x') (some (.int rr)) := by
  refine Ct.ofW (by decide) (Nat.le_of_ble_eq_true rfl) (hAd _ _) ?_
  intro p e s m0 below meth c A Q ls args hx hb hr hml hlocks hown hts hK hP hD1 hSS hS hA1 hl hret
  have hT : ∀ w ∈ TBL, w.before args s = true := fun w h => hts w (List.mem_cons_of_mem _ h)
  have Fx0 : Fx p l m0 c cX10_picks 4 s args yX10_picks cX10_picks 4 (some .int) D cs A := ⟨hx, hb, hml, hown, hts, hK, hSS⟩
  have hown : s.vm.findClass RX10 = some m0.cls := hown
  have hl : lv_has ls 4 [(0, .ref (adx 0)), (1, .int x1), (2, .int x2)] := hl
  unfold D_X10_picks at hD
  refine lv_aload_n hx hb dX10_picks_0 rfl (lv_at hl 0 rfl) ?_
  refine lv_iload_n hx hb dX10_picks_1 rfl (lv_at hl 2 rfl) ?_
  refine lv_iconst (v := (0 : Int32)) hx hb dX10_picks_2 (by decide) ?_
  obtain ⟨v1, z2, hD⟩ := b1_el hD
  refine rcV  (As := [.int x2, .int (0 : Int32)]) (rest := []) Fx0 (c_X10_ofFeeder l hLx hAd x x2 (0 : Int32) z2) hP (hD1 _ (hAd _ _)) hS (hA1 _ _ (hAd _ _) hS.1) hLx (Nat.le_of_ble_eq_true rfl) (xs0 _ _) rfl tw_7_222 tw_7_219 tw_7_221 ts_113 tw_1_13 yd_X10_ofFeeder ⟨(Nat.le_of_ble_eq_true rfl), (Nat.le_of_ble_eq_true rfl)⟩ rfl hl.1 rfl (Nat.le_of_ble_eq_true rfl) dX10_picks_3 (fun H locs hP hS => ?_)
  refine lv_istore_n (lv' := [(3, .int v1), (0, .ref (adx 0)), (1, .int x1), (2, .int x2)]) hx hb dX10_picks_6 rfl hl (by decide) rfl (fun ls hl => ?_)
  refine lv_aload_n hx hb dX10_picks_7 rfl (lv_at hl 1 rfl) ?_
  refine lv_iload_n hx hb dX10_picks_8 rfl (lv_at hl 2 rfl) ?_
  refine lv_iconst (v := (1 : Int32)) hx hb dX10_picks_9 (by decide) ?_
  obtain ⟨v3, z4, hD⟩ := b1_el hD
  refine rcV  (As := [.int x1, .int (1 : Int32)]) (rest := []) Fx0 (c_X10_ofSpindle l hLx hAd x x1 (1 : Int32) z4) hP (hD1 _ (hAd _ _)) hS (hA1 _ _ (hAd _ _) hS.1) hLx (Nat.le_of_ble_eq_true rfl) (xs0 _ _) rfl tw_7_190 tw_7_187 tw_7_189 ts_108 tw_1_13 yd_X10_ofSpindle ⟨(Nat.le_of_ble_eq_true rfl), (Nat.le_of_ble_eq_true rfl)⟩ rfl hl.1 rfl (Nat.le_of_ble_eq_true rfl) dX10_picks_10 (fun H locs hP hS => ?_)
  refine lv_iconst (v := (-1 : Int32)) hx hb dX10_picks_13 (by decide) ?_
  refine lv_icmp_eq (tgt := 20) hx hb dX10_picks_14 (by decide) (fun c => ?_) (fun c => ?_)
  · have hD := ifp hD c
    refine lv_aload_n hx hb dX10_picks_20 rfl (lv_at hl 1 rfl) ?_
    refine lv_iload_n hx hb dX10_picks_21 rfl (lv_at hl 2 rfl) ?_
    refine lv_iconst (v := (0 : Int32)) hx hb dX10_picks_22 (by decide) ?_
    obtain ⟨v5, z6, hD⟩ := b1_el hD
    refine rcV  (As := [.int x1, .int (0 : Int32)]) (rest := []) Fx0 (c_X10_ofSpindle l hLx hAd x x1 (0 : Int32) z6) hP (hD1 _ (hAd _ _)) hS (hA1 _ _ (hAd _ _) hS.1) hLx (Nat.le_of_ble_eq_true rfl) (xs0 _ _) rfl tw_7_190 tw_7_187 tw_7_189 ts_108 tw_1_13 yd_X10_ofSpindle ⟨(Nat.le_of_ble_eq_true rfl), (Nat.le_of_ble_eq_true rfl)⟩ rfl hl.1 rfl (Nat.le_of_ble_eq_true rfl) dX10_picks_23 (fun H locs hP hS => ?_)
    refine lv_aload_n hx hb dX10_picks_26 rfl (lv_at hl 1 rfl) ?_
    refine rg  hx hb hT hu10 hown hK hP hLx 0 0 (Nat.le_of_ble_eq_true rfl) (xs0 _ _) rfl (Nat.le_of_ble_eq_true rfl) (Fx0.T tw_6_215) rfl (v := .ref (adx 1)) rfl dX10_picks_27 ?_
    refine lv_bipush (v := (50 : Int32)) hx hb dX10_picks_30 (by decide) ?_
    refine lv_iload_n hx hb dX10_picks_32 rfl (lv_at hl 0 rfl) ?_
    refine lv_iadd hx hb dX10_picks_33 ?_
    obtain ⟨h7, hD⟩ := gd_el hD
    refine riald  hx hb hK hP hLx 1 (Nat.le_of_ble_eq_true rfl) (xs1 _ _) h7 rfl dX10_picks_34 ?_
    refine lv_icmp_eq (tgt := 41) hx hb dX10_picks_35 (by decide) (fun c => ?_) (fun c => ?_)
    · have hD := ifp hD c
      refine lv_aload_n hx hb dX10_picks_41 rfl (lv_at hl 1 rfl) ?_
      refine lv_iload_n hx hb dX10_picks_42 rfl (lv_at hl 3 rfl) ?_
      refine lv_iconst (v := (2 : Int32)) hx hb dX10_picks_43 (by decide) ?_
      obtain ⟨v8, z9, hD⟩ := b1_el hD
      refine rcV  (As := [.int x2, .int (2 : Int32)]) (rest := []) Fx0 (c_X10_ofFeeder l hLx hAd x x2 (2 : Int32) z9) hP (hD1 _ (hAd _ _)) hS (hA1 _ _ (hAd _ _) hS.1) hLx (Nat.le_of_ble_eq_true rfl) (xs0 _ _) rfl tw_7_222 tw_7_219 tw_7_221 ts_113 tw_1_13 yd_X10_ofFeeder ⟨(Nat.le_of_ble_eq_true rfl), (Nat.le_of_ble_eq_true rfl)⟩ rfl hl.1 rfl (Nat.le_of_ble_eq_true rfl) dX10_picks_44 (fun H locs hP hS => ?_)
      refine lv_if_ne (tgt := 53) hx hb dX10_picks_47 (by decide) (fun c => ?_) (fun c => ?_)
      · have hD := ifn hD c
        refine lv_aload_n hx hb dX10_picks_53 rfl (lv_at hl 1 rfl) ?_
        refine lv_iconst (v := (2 : Int32)) hx hb dX10_picks_54 (by decide) ?_
        refine lv_aload_n hx hb dX10_picks_55 rfl (lv_at hl 1 rfl) ?_
        refine lv_iload_n hx hb dX10_picks_56 rfl (lv_at hl 3 rfl) ?_
        refine lv_iconst (v := (1 : Int32)) hx hb dX10_picks_57 (by decide) ?_
        obtain ⟨v10, z11, hD⟩ := b1_el hD
        refine rcV  (As := [.int x2, .int (1 : Int32)]) (rest := [.int (2 : Int32), .ref (adx 0)]) Fx0 (c_X10_ofFeeder l hLx hAd x x2 (1 : Int32) z11) hP (hD1 _ (hAd _ _)) hS (hA1 _ _ (hAd _ _) hS.1) hLx (Nat.le_of_ble_eq_true rfl) (xs0 _ _) rfl tw_7_222 tw_7_219 tw_7_221 ts_113 tw_1_13 yd_X10_ofFeeder ⟨(Nat.le_of_ble_eq_true rfl), (Nat.le_of_ble_eq_true rfl)⟩ rfl hl.1 rfl (Nat.le_of_ble_eq_true rfl) dX10_picks_58 (fun H locs hP hS => ?_)
        refine lv_iconst (v := (0 : Int32)) hx hb dX10_picks_61 (by decide) ?_
        refine lv_aload_n hx hb dX10_picks_62 rfl (lv_at hl 1 rfl) ?_
        refine rg  hx hb hT hu10 hown hK hP hLx 0 0 (Nat.le_of_ble_eq_true rfl) (xs0 _ _) rfl (Nat.le_of_ble_eq_true rfl) (Fx0.T tw_6_215) rfl (v := .ref (adx 1)) rfl dX10_picks_63 ?_
        refine lv_iconst (v := (2 : Int32)) hx hb dX10_picks_66 (by decide) ?_
        refine riald  hx hb hK hP hLx 1 (Nat.le_of_ble_eq_true rfl) (xs1 _ _) (by decide) (j := 2) (by decide) dX10_picks_67 ?_
        obtain ⟨m12, z13, hD⟩ := b1_el hD
        refine rcV  (As := [.int (2 : Int32), .int v10, .int (0 : Int32), .int (gi x 1 2)]) (rest := []) Fx0 (c_X10_goes l hLx hAd x (2 : Int32) v10 (0 : Int32) (gi x 1 2) z13) hP (hD1 _ (hAd _ _)) hS (hA1 _ _ (hAd _ _) hS.1) hLx (Nat.le_of_ble_eq_true rfl) (xs0 _ _) rfl tw_8_115 tw_8_112 tw_8_114 ts_128 tw_1_13 yd_X10_goes ⟨(Nat.le_of_ble_eq_true rfl), (Nat.le_of_ble_eq_true rfl)⟩ rfl hl.1 rfl (Nat.le_of_ble_eq_true rfl) dX10_picks_68 (fun H locs hP hS => ?_)
        refine lv_aload_n hx hb dX10_picks_71 rfl (lv_at hl 1 rfl) ?_
        refine lv_iconst (v := (2 : Int32)) hx hb dX10_picks_72 (by decide) ?_
        refine lv_iload_n hx hb dX10_picks_73 rfl (lv_at hl 2 rfl) ?_
        refine lv_iload_n hx hb dX10_picks_74 rfl (lv_at hl 3 rfl) ?_
        refine lv_aload_n hx hb dX10_picks_75 rfl (lv_at hl 1 rfl) ?_
        refine lv_iload_n hx hb dX10_picks_76 rfl (lv_at hl 2 rfl) ?_
        refine lv_iload_n hx hb dX10_picks_77 rfl (lv_at hl 3 rfl) ?_
        refine lv_iload_n hx hb dX10_picks_78 rfl (lv_at hl 0 rfl) ?_
        obtain ⟨v14, m15, z16, hD⟩ := b2_el hD
        refine rcV  (As := [.int x1, .int x2, .int v1]) (rest := [.int x2, .int x1, .int (2 : Int32), .ref (adx 0)]) Fx0 (c_X10_takesPart l hLx hAd m12 x1 x2 v1 z16) hP (hD1 _ (hAd _ _)) hS (hA1 _ _ (hAd _ _) hS.1) hLx (Nat.le_of_ble_eq_true rfl) (xs0 _ _) rfl tw_8_139 tw_8_136 tw_8_138 ts_133 tw_1_13 yd_X10_takesPart ⟨(Nat.le_of_ble_eq_true rfl), (Nat.le_of_ble_eq_true rfl)⟩ rfl hl.1 rfl (Nat.le_of_ble_eq_true rfl) dX10_picks_79 (fun H locs hP hS => ?_)
        refine lv_if_eq (tgt := 89) hx hb dX10_picks_82 (by decide) (fun c => ?_) (fun c => ?_)
        · have hD := ifp hD c
          refine lv_iconst (v := (0 : Int32)) hx hb dX10_picks_89 (by decide) ?_
          obtain ⟨v17, m18, z19, hD⟩ := b2_el hD
          refine rcV  (As := [.int (2 : Int32), .int x1, .int x2, .int (0 : Int32)]) (rest := []) Fx0 (c_X10_notes l hLx hAd m15 (2 : Int32) x1 x2 (0 : Int32) z19) hP (hD1 _ (hAd _ _)) hS (hA1 _ _ (hAd _ _) hS.1) hLx (Nat.le_of_ble_eq_true rfl) (xs0 _ _) rfl tw_8_127 tw_8_124 tw_8_126 ts_131 tw_1_13 yd_X10_notes ⟨(Nat.le_of_ble_eq_true rfl), (Nat.le_of_ble_eq_true rfl)⟩ rfl hl.1 rfl (Nat.le_of_ble_eq_true rfl) dX10_picks_90 (fun H locs hP hS => ?_)
          obtain ⟨rfl, rfl⟩ := es2 hD
          exact hret _ _ _ hP hS (fun Qc hq => W.iret hx hb hr hq hS.2.2 dX10_picks_93 hlocks)
        · have hD := ifn hD c
          refine lv_iconst (v := (1 : Int32)) hx hb dX10_picks_85 (by decide) ?_
          refine lv_goto (tgt := 90) hx hb dX10_picks_86 (by decide) ?_
          obtain ⟨v20, m21, z22, hD⟩ := b2_el hD
          refine rcV  (As := [.int (2 : Int32), .int x1, .int x2, .int (1 : Int32)]) (rest := []) Fx0 (c_X10_notes l hLx hAd m15 (2 : Int32) x1 x2 (1 : Int32) z22) hP (hD1 _ (hAd _ _)) hS (hA1 _ _ (hAd _ _) hS.1) hLx (Nat.le_of_ble_eq_true rfl) (xs0 _ _) rfl tw_8_127 tw_8_124 tw_8_126 ts_131 tw_1_13 yd_X10_notes ⟨(Nat.le_of_ble_eq_true rfl), (Nat.le_of_ble_eq_true rfl)⟩ rfl hl.1 rfl (Nat.le_of_ble_eq_true rfl) dX10_picks_90 (fun H locs hP hS => ?_)
          obtain ⟨rfl, rfl⟩ := es2 hD
          exact hret _ _ _ hP hS (fun Qc hq => W.iret hx hb hr hq hS.2.2 dX10_picks_93 hlocks)
      · have hD := ifp hD c
        refine lv_bipush (v := (-4 : Int32)) hx hb dX10_picks_50 (by decide) ?_
        obtain ⟨rfl, rfl⟩ := es2 hD
        exact hret _ _ _ hP hS (fun Qc hq => W.iret hx hb hr hq hS.2.2 dX10_picks_52 hlocks)
    · have hD := ifn hD c
      refine lv_bipush (v := (-5 : Int32)) hx hb dX10_picks_38 (by decide) ?_
      obtain ⟨rfl, rfl⟩ := es2 hD
      exact hret _ _ _ hP hS (fun Qc hq => W.iret hx hb hr hq hS.2.2 dX10_picks_40 hlocks)
  · have hD := ifn hD c
    refine lv_bipush (v := (-3 : Int32)) hx hb dX10_picks_17 (by decide) ?_
    obtain ⟨rfl, rfl⟩ := es2 hD
    exact hret _ _ _ hP hS (fun Qc hq => W.iret hx hb hr hq hS.2.2 dX10_picks_19 hlocks)

noncomputable def D_X10_frees (x1 : Int32) (x : MM) : Option MM := b1 (D_X10_putSpindle x1 (1 : Int32) (-1 : Int32) x) (fun m1 => b1 (D_X10_putSpindle x1 (2 : Int32) (0 : Int32) m1) (fun m3 => b1 (D_X10_putSpindle x1 (3 : Int32) (0 : Int32) m3) (fun m5 => some (m5))))
set_option maxHeartbeats 4000000 in
set_option maxRecDepth 100000 in
theorem c_X10_frees (l : Launch) {D : va_G} {cs : Nat → ClassId} {adx : Nat → Nat} {Wf : MM → va_W} (hLx : Ln 9 adx (xsh cs adx) Wf) (hAd : ∀ a0_ b0_ : MM, (Wf a0_).map (fun q => q.1) = (Wf b0_).map (fun q => q.1)) (x : MM) (x1 : Int32) {x' : MM} (hD : D_X10_frees x1 x = some (x')) : Ct l yX10_frees cX10_frees 2 none 1 23 D cs [.ref (adx 0), .int x1] (Wf x) (Wf x') (none) := by
  refine Ct.ofW (by decide) (Nat.le_of_ble_eq_true rfl) (hAd _ _) ?_
  intro p e s m0 below meth c A Q ls args hx hb hr hml hlocks hown hts hK hP hD1 hSS hS hA1 hl hret
  have hT : ∀ w ∈ TBL, w.before args s = true := fun w h => hts w (List.mem_cons_of_mem _ h)
  have Fx0 : Fx p l m0 c cX10_frees 2 s args yX10_frees cX10_frees 2 none D cs A := ⟨hx, hb, hml, hown, hts, hK, hSS⟩
  have hown : s.vm.findClass RX10 = some m0.cls := hown
  have hl : lv_has ls 2 [(0, .ref (adx 0)), (1, .int x1)] := hl
  unfold D_X10_frees at hD
  refine lv_aload_n hx hb dX10_frees_0 rfl (lv_at hl 0 rfl) ?_
  refine lv_iload_n hx hb dX10_frees_1 rfl (lv_at hl 1 rfl) ?_
  refine lv_iconst (v := (1 : Int32)) hx hb dX10_frees_2 (by decide) ?_
  refine lv_iconst (v := (-1 : Int32)) hx hb dX10_frees_3 (by decide) ?_
  obtain ⟨m1, z2, hD⟩ := b1_el hD
  refine rcV  (As := [.int x1, .int (1 : Int32), .int (-1 : Int32)]) (rest := []) Fx0 (c_X10_putSpindle l hLx hAd x x1 (1 : Int32) (-1 : Int32) z2) hP (hD1 _ (hAd _ _)) hS (hA1 _ _ (hAd _ _) hS.1) hLx (Nat.le_of_ble_eq_true rfl) (xs0 _ _) rfl tw_8_123 tw_8_120 tw_8_122 ts_130 tw_1_13 yd_X10_putSpindle ⟨(Nat.le_of_ble_eq_true rfl), (Nat.le_of_ble_eq_true rfl)⟩ rfl hl.1 rfl (Nat.le_of_ble_eq_true rfl) dX10_frees_4 (fun H locs hP hS => ?_)
  refine lv_aload_n hx hb dX10_frees_7 rfl (lv_at hl 0 rfl) ?_
  refine lv_iload_n hx hb dX10_frees_8 rfl (lv_at hl 1 rfl) ?_
  refine lv_iconst (v := (2 : Int32)) hx hb dX10_frees_9 (by decide) ?_
  refine lv_iconst (v := (0 : Int32)) hx hb dX10_frees_10 (by decide) ?_
  obtain ⟨m3, z4, hD⟩ := b1_el hD
  refine rcV  (As := [.int x1, .int (2 : Int32), .int (0 : Int32)]) (rest := []) Fx0 (c_X10_putSpindle l hLx hAd m1 x1 (2 : Int32) (0 : Int32) z4) hP (hD1 _ (hAd _ _)) hS (hA1 _ _ (hAd _ _) hS.1) hLx (Nat.le_of_ble_eq_true rfl) (xs0 _ _) rfl tw_8_123 tw_8_120 tw_8_122 ts_130 tw_1_13 yd_X10_putSpindle ⟨(Nat.le_of_ble_eq_true rfl), (Nat.le_of_ble_eq_true rfl)⟩ rfl hl.1 rfl (Nat.le_of_ble_eq_true rfl) dX10_frees_11 (fun H locs hP hS => ?_)
  refine lv_aload_n hx hb dX10_frees_14 rfl (lv_at hl 0 rfl) ?_
  refine lv_iload_n hx hb dX10_frees_15 rfl (lv_at hl 1 rfl) ?_
  refine lv_iconst (v := (3 : Int32)) hx hb dX10_frees_16 (by decide) ?_
  refine lv_iconst (v := (0 : Int32)) hx hb dX10_frees_17 (by decide) ?_
  obtain ⟨m5, z6, hD⟩ := b1_el hD
  refine rcV  (As := [.int x1, .int (3 : Int32), .int (0 : Int32)]) (rest := []) Fx0 (c_X10_putSpindle l hLx hAd m3 x1 (3 : Int32) (0 : Int32) z6) hP (hD1 _ (hAd _ _)) hS (hA1 _ _ (hAd _ _) hS.1) hLx (Nat.le_of_ble_eq_true rfl) (xs0 _ _) rfl tw_8_123 tw_8_120 tw_8_122 ts_130 tw_1_13 yd_X10_putSpindle ⟨(Nat.le_of_ble_eq_true rfl), (Nat.le_of_ble_eq_true rfl)⟩ rfl hl.1 rfl (Nat.le_of_ble_eq_true rfl) dX10_frees_18 (fun H locs hP hS => ?_)
  obtain rfl := es1 hD
  exact hret _ _ _ hP hS (fun Qc hq => W.vret hx hb hr hq hS.2.2 dX10_frees_21 hlocks)

noncomputable def D_X10_rejects (x1 : Int32) (x : MM) : Option MM := b1 (D_X10_ofSpindle x1 (1 : Int32) x) (fun v1 => b1 (D_X10_books v1 (2 : Int32) (1 : Int32) x) (fun m3 => b1 (D_X10_ofSpindle x1 (6 : Int32) m3) (fun v5 => b1 (D_X10_putSpindle x1 (6 : Int32) (v5 + (1 : Int32)) m3) (fun m7 => b1 (D_X10_frees x1 m7) (fun m9 => some (m9))))))
set_option maxHeartbeats 4000000 in
set_option maxRecDepth 100000 in
theorem c_X10_rejects (l : Launch) {D : va_G} {cs : Nat → ClassId} {adx : Nat → Nat} {Wf : MM → va_W} (hLx : Ln 9 adx (xsh cs adx) Wf) (hAd : ∀ a0_ b0_ : MM, (Wf a0_).map (fun q => q.1) = (Wf b0_).map (fun q => q.1)) (x : MM) (x1 : Int32) {x' : MM} (hD : D_X10_rejects x1 x = some (x')) : Ct l yX10_rejects cX10_rejects 2 none 2 44 D cs [.ref (adx 0), .int x1] (Wf x) (Wf x') (none) := by
  refine Ct.ofW (by decide) (Nat.le_of_ble_eq_true rfl) (hAd _ _) ?_
  intro p e s m0 below meth c A Q ls args hx hb hr hml hlocks hown hts hK hP hD1 hSS hS hA1 hl hret
  have hT : ∀ w ∈ TBL, w.before args s = true := fun w h => hts w (List.mem_cons_of_mem _ h)
  have Fx0 : Fx p l m0 c cX10_rejects 2 s args yX10_rejects cX10_rejects 2 none D cs A := ⟨hx, hb, hml, hown, hts, hK, hSS⟩
  have hown : s.vm.findClass RX10 = some m0.cls := hown
  have hl : lv_has ls 2 [(0, .ref (adx 0)), (1, .int x1)] := hl
  unfold D_X10_rejects at hD
  refine lv_aload_n hx hb dX10_rejects_0 rfl (lv_at hl 0 rfl) ?_
  refine lv_aload_n hx hb dX10_rejects_1 rfl (lv_at hl 0 rfl) ?_
  refine lv_iload_n hx hb dX10_rejects_2 rfl (lv_at hl 1 rfl) ?_
  refine lv_iconst (v := (1 : Int32)) hx hb dX10_rejects_3 (by decide) ?_
  obtain ⟨v1, z2, hD⟩ := b1_el hD
  refine rcV  (As := [.int x1, .int (1 : Int32)]) (rest := [.ref (adx 0)]) Fx0 (c_X10_ofSpindle l hLx hAd x x1 (1 : Int32) z2) hP (hD1 _ (hAd _ _)) hS (hA1 _ _ (hAd _ _) hS.1) hLx (Nat.le_of_ble_eq_true rfl) (xs0 _ _) rfl tw_7_190 tw_7_187 tw_7_189 ts_108 tw_1_13 yd_X10_ofSpindle ⟨(Nat.le_of_ble_eq_true rfl), (Nat.le_of_ble_eq_true rfl)⟩ rfl hl.1 rfl (Nat.le_of_ble_eq_true rfl) dX10_rejects_4 (fun H locs hP hS => ?_)
  refine lv_iconst (v := (2 : Int32)) hx hb dX10_rejects_7 (by decide) ?_
  refine lv_iconst (v := (1 : Int32)) hx hb dX10_rejects_8 (by decide) ?_
  obtain ⟨m3, z4, hD⟩ := b1_el hD
  refine rcV  (As := [.int v1, .int (2 : Int32), .int (1 : Int32)]) (rest := []) Fx0 (c_X10_books l hLx hAd x v1 (2 : Int32) (1 : Int32) z4) hP (hD1 _ (hAd _ _)) hS (hA1 _ _ (hAd _ _) hS.1) hLx (Nat.le_of_ble_eq_true rfl) (xs0 _ _) rfl tw_7_235 tw_7_232 tw_7_234 ts_115 tw_1_13 yd_X10_books ⟨(Nat.le_of_ble_eq_true rfl), (Nat.le_of_ble_eq_true rfl)⟩ rfl hl.1 rfl (Nat.le_of_ble_eq_true rfl) dX10_rejects_9 (fun H locs hP hS => ?_)
  refine lv_aload_n hx hb dX10_rejects_12 rfl (lv_at hl 0 rfl) ?_
  refine lv_iload_n hx hb dX10_rejects_13 rfl (lv_at hl 1 rfl) ?_
  refine lv_bipush (v := (6 : Int32)) hx hb dX10_rejects_14 (by decide) ?_
  refine lv_aload_n hx hb dX10_rejects_16 rfl (lv_at hl 0 rfl) ?_
  refine lv_iload_n hx hb dX10_rejects_17 rfl (lv_at hl 1 rfl) ?_
  refine lv_bipush (v := (6 : Int32)) hx hb dX10_rejects_18 (by decide) ?_
  obtain ⟨v5, z6, hD⟩ := b1_el hD
  refine rcV  (As := [.int x1, .int (6 : Int32)]) (rest := [.int (6 : Int32), .int x1, .ref (adx 0)]) Fx0 (c_X10_ofSpindle l hLx hAd m3 x1 (6 : Int32) z6) hP (hD1 _ (hAd _ _)) hS (hA1 _ _ (hAd _ _) hS.1) hLx (Nat.le_of_ble_eq_true rfl) (xs0 _ _) rfl tw_7_190 tw_7_187 tw_7_189 ts_108 tw_1_13 yd_X10_ofSpindle ⟨(Nat.le_of_ble_eq_true rfl), (Nat.le_of_ble_eq_true rfl)⟩ rfl hl.1 rfl (Nat.le_of_ble_eq_true rfl) dX10_rejects_20 (fun H locs hP hS => ?_)
  refine lv_iconst (v := (1 : Int32)) hx hb dX10_rejects_23 (by decide) ?_
  refine lv_iadd hx hb dX10_rejects_24 ?_
  obtain ⟨m7, z8, hD⟩ := b1_el hD
  refine rcV  (As := [.int x1, .int (6 : Int32), .int (v5 + (1 : Int32))]) (rest := []) Fx0 (c_X10_putSpindle l hLx hAd m3 x1 (6 : Int32) (v5 + (1 : Int32)) z8) hP (hD1 _ (hAd _ _)) hS (hA1 _ _ (hAd _ _) hS.1) hLx (Nat.le_of_ble_eq_true rfl) (xs0 _ _) rfl tw_8_123 tw_8_120 tw_8_122 ts_130 tw_1_13 yd_X10_putSpindle ⟨(Nat.le_of_ble_eq_true rfl), (Nat.le_of_ble_eq_true rfl)⟩ rfl hl.1 rfl (Nat.le_of_ble_eq_true rfl) dX10_rejects_25 (fun H locs hP hS => ?_)
  refine lv_aload_n hx hb dX10_rejects_28 rfl (lv_at hl 0 rfl) ?_
  refine lv_iload_n hx hb dX10_rejects_29 rfl (lv_at hl 1 rfl) ?_
  obtain ⟨m9, z10, hD⟩ := b1_el hD
  refine rcV  (As := [.int x1]) (rest := []) Fx0 (c_X10_frees l hLx hAd m7 x1 z10) hP (hD1 _ (hAd _ _)) hS (hA1 _ _ (hAd _ _) hS.1) hLx (Nat.le_of_ble_eq_true rfl) (xs0 _ _) rfl tw_8_167 tw_8_164 tw_8_166 ts_138 tw_1_13 yd_X10_frees ⟨(Nat.le_of_ble_eq_true rfl), (Nat.le_of_ble_eq_true rfl)⟩ rfl hl.1 rfl (Nat.le_of_ble_eq_true rfl) dX10_rejects_30 (fun H locs hP hS => ?_)
  obtain rfl := es1 hD
  exact hret _ _ _ hP hS (fun Qc hq => W.vret hx hb hr hq hS.2.2 dX10_rejects_33 hlocks)

noncomputable def D_X10_looks_152 (x1 : Int32) (x : MM) : Option (Int32 × MM) := b1 (D_X10_rejects x1 x) (fun m15 => bnd (si m15 1 25 ((gi m15 1 25) + (1 : Int32))) (fun m17 => if (gi m17 1 11) ≤ 0 then (b2 (D_X10_notes (3 : Int32) x1 (0 : Int32) (2 : Int32) m17) (fun v18 m19 => some (v18, m19))) else (if (gi m17 1 25) < (gi m17 1 11) then (b2 (D_X10_notes (3 : Int32) x1 (0 : Int32) (2 : Int32) m17) (fun v21 m22 => some (v21, m22))) else (bnd (si m17 1 29 (1 : Int32)) (fun m24 => b2 (D_X10_notes (3 : Int32) x1 (0 : Int32) (2 : Int32) m24) (fun v25 m26 => some (v25, m26)))))))
noncomputable def D_X10_looks (x1 : Int32) (x : MM) : Option (Int32 × MM) := b1 (D_X10_ofSpindle x1 (1 : Int32) x) (fun v1 => if v1 = (-1 : Int32) then (some ((-3 : Int32), x)) else (b1 (D_X10_ofSpindle x1 (2 : Int32) x) (fun v3 => if v3 = (1 : Int32) then (some ((-3 : Int32), x)) else (b1 (D_X10_goes (3 : Int32) (gi x 1 8) (gi x 1 9) (gi x 1 3) x) (fun m5 => b2 (D_X10_draw m5) (fun v7 m8 => b1 (D_X10_ofSpindle x1 (3 : Int32) m8) (fun v10 => bnd ((v10 + (1 : Int32))) (fun v12 => b1 (D_X10_putSpindle x1 (3 : Int32) v12 m8) (fun m13 => if (gi m13 1 5) ≤ v7 then (if ((gi m13 1 5) + (gi m13 1 6)) ≤ v7 then (D_X10_looks_152 x1 m13) else (if (gi m13 1 7) < v12 then (D_X10_looks_152 x1 m13) else (b2 (D_X10_notes (3 : Int32) x1 (0 : Int32) (0 : Int32) m13) (fun v28 m29 => some (v28, m29))))) else (b1 (D_X10_putSpindle x1 (2 : Int32) (1 : Int32) m13) (fun m31 => bnd (si m31 1 25 (0 : Int32)) (fun m33 => bnd (si m33 1 26 ((gi m33 1 26) + (1 : Int32))) (fun m34 => b2 (D_X10_notes (3 : Int32) x1 (0 : Int32) (1 : Int32) m34) (fun v35 m36 => some (v35, m36)))))))))))))))
set_option maxHeartbeats 4000000 in
set_option maxRecDepth 100000 in
theorem c_X10_looks (l : Launch) {D : va_G} {cs : Nat → ClassId} {adx : Nat → Nat} {Wf : MM → va_W} (hLx : Ln 9 adx (xsh cs adx) Wf) (hAd : ∀ a0_ b0_ : MM, (Wf a0_).map (fun q => q.1) = (Wf b0_).map (fun q => q.1)) (x : MM) (x1 : Int32) {rr : Int32} {x' : MM} (hD : D_X10_looks x1 x = some (rr, x')) : Ct l yX10_looks cX10_looks 4 (some .int) 3 72 D cs [.ref (adx 0), .int x1] (Wf x) (Wf x') (some (.int rr)) := by
  refine Ct.ofW (by decide) (Nat.le_of_ble_eq_true rfl) (hAd _ _) ?_
  intro p e s m0 below meth c A Q ls args hx hb hr hml hlocks hown hts hK hP hD1 hSS hS hA1 hl hret
  have hT : ∀ w ∈ TBL, w.before args s = true := fun w h => hts w (List.mem_cons_of_mem _ h)
  have Fx0 : Fx p l m0 c cX10_looks 4 s args yX10_looks cX10_looks 4 (some .int) D cs A := ⟨hx, hb, hml, hown, hts, hK, hSS⟩
  have hown : s.vm.findClass RX10 = some m0.cls := hown
  have hl : lv_has ls 4 [(0, .ref (adx 0)), (1, .int x1)] := hl
  unfold D_X10_looks at hD
  have c_152 : ∀ (x1 : Int32) (x : MM) (H : Heap) (locs : List Loc) (ls : Array Slot), D_X10_looks_152 x1 x = some (rr, x') → va_P D vwCl (Wf x) H → va_S A s.heap H locs → lv_has ls 4 [(0, .ref (adx 0)), (1, .int x1)] → W p l e ({ frames := 3, cells := 0, slots := 0, locals := 72 } : Room) s m0 args below meth c H locs 0 0 Q (F0 m0 152 ls []) := by
    intro x1 x H locs ls hD hP hS hl
    unfold D_X10_looks_152 at hD
    refine lv_aload_n hx hb dX10_looks_152 rfl (lv_at hl 0 rfl) ?_
    refine lv_iload_n hx hb dX10_looks_153 rfl (lv_at hl 1 rfl) ?_
    obtain ⟨m15, z16, hD⟩ := b1_el hD
    refine rcV  (As := [.int x1]) (rest := []) Fx0 (c_X10_rejects l hLx hAd x x1 z16) hP (hD1 _ (hAd _ _)) hS (hA1 _ _ (hAd _ _) hS.1) hLx (Nat.le_of_ble_eq_true rfl) (xs0 _ _) rfl tw_8_163 tw_8_160 tw_8_162 ts_137 tw_1_13 yd_X10_rejects ⟨(Nat.le_of_ble_eq_true rfl), (Nat.le_of_ble_eq_true rfl)⟩ rfl hl.1 rfl (Nat.le_of_ble_eq_true rfl) dX10_looks_154 (fun H locs hP hS => ?_)
    refine lv_aload_n hx hb dX10_looks_157 rfl (lv_at hl 0 rfl) ?_
    refine rg  hx hb hT hu10 hown hK hP hLx 0 0 (Nat.le_of_ble_eq_true rfl) (xs0 _ _) rfl (Nat.le_of_ble_eq_true rfl) (Fx0.T tw_6_215) rfl (v := .ref (adx 1)) rfl dX10_looks_158 ?_
    refine lv_bipush (v := (25 : Int32)) hx hb dX10_looks_161 (by decide) ?_
    refine lv_dup2_11 hx hb dX10_looks_163 rfl rfl ?_
    refine riald  hx hb hK hP hLx 1 (Nat.le_of_ble_eq_true rfl) (xs1 _ _) (by decide) (j := 25) (by decide) dX10_looks_164 ?_
    refine lv_iconst (v := (1 : Int32)) hx hb dX10_looks_165 (by decide) ?_
    refine lv_iadd hx hb dX10_looks_166 ?_
    obtain ⟨m17, em17, hD⟩ := bnd_el hD
    refine riast  hx hb hK hP (hD1 _ (hAd _ _)) hS hLx 1 (Nat.le_of_ble_eq_true rfl) (fun _ => xs1 _ _) (by decide) (j := 25) (by decide) dX10_looks_167 em17 (fun H locs hP hS => ?_)
    refine lv_aload_n hx hb dX10_looks_168 rfl (lv_at hl 0 rfl) ?_
    refine rg  hx hb hT hu10 hown hK hP hLx 0 0 (Nat.le_of_ble_eq_true rfl) (xs0 _ _) rfl (Nat.le_of_ble_eq_true rfl) (Fx0.T tw_6_215) rfl (v := .ref (adx 1)) rfl dX10_looks_169 ?_
    refine lv_bipush (v := (11 : Int32)) hx hb dX10_looks_172 (by decide) ?_
    refine riald  hx hb hK hP hLx 1 (Nat.le_of_ble_eq_true rfl) (xs1 _ _) (by decide) (j := 11) (by decide) dX10_looks_174 ?_
    refine lv_if_le (tgt := 203) hx hb dX10_looks_175 (by decide) (fun c => ?_) (fun c => ?_)
    · have hD := ifp hD c
      refine lv_aload_n hx hb dX10_looks_203 rfl (lv_at hl 0 rfl) ?_
      refine lv_iconst (v := (3 : Int32)) hx hb dX10_looks_204 (by decide) ?_
      refine lv_iload_n hx hb dX10_looks_205 rfl (lv_at hl 1 rfl) ?_
      refine lv_iconst (v := (0 : Int32)) hx hb dX10_looks_206 (by decide) ?_
      refine lv_iconst (v := (2 : Int32)) hx hb dX10_looks_207 (by decide) ?_
      obtain ⟨v18, m19, z20, hD⟩ := b2_el hD
      refine rcV  (As := [.int (3 : Int32), .int x1, .int (0 : Int32), .int (2 : Int32)]) (rest := []) Fx0 (c_X10_notes l hLx hAd m17 (3 : Int32) x1 (0 : Int32) (2 : Int32) z20) hP (hD1 _ (hAd _ _)) hS (hA1 _ _ (hAd _ _) hS.1) hLx (Nat.le_of_ble_eq_true rfl) (xs0 _ _) rfl tw_8_127 tw_8_124 tw_8_126 ts_131 tw_1_13 yd_X10_notes ⟨(Nat.le_of_ble_eq_true rfl), (Nat.le_of_ble_eq_true rfl)⟩ rfl hl.1 rfl (Nat.le_of_ble_eq_true rfl) dX10_looks_208 (fun H locs hP hS => ?_)
      obtain ⟨rfl, rfl⟩ := es2 hD
      exact hret _ _ _ hP hS (fun Qc hq => W.iret hx hb hr hq hS.2.2 dX10_looks_211 hlocks)
    · have hD := ifn hD c
      refine lv_aload_n hx hb dX10_looks_178 rfl (lv_at hl 0 rfl) ?_
      refine rg  hx hb hT hu10 hown hK hP hLx 0 0 (Nat.le_of_ble_eq_true rfl) (xs0 _ _) rfl (Nat.le_of_ble_eq_true rfl) (Fx0.T tw_6_215) rfl (v := .ref (adx 1)) rfl dX10_looks_179 ?_
      refine lv_bipush (v := (25 : Int32)) hx hb dX10_looks_182 (by decide) ?_
      refine riald  hx hb hK hP hLx 1 (Nat.le_of_ble_eq_true rfl) (xs1 _ _) (by decide) (j := 25) (by decide) dX10_looks_184 ?_
      refine lv_aload_n hx hb dX10_looks_185 rfl (lv_at hl 0 rfl) ?_
      refine rg  hx hb hT hu10 hown hK hP hLx 0 0 (Nat.le_of_ble_eq_true rfl) (xs0 _ _) rfl (Nat.le_of_ble_eq_true rfl) (Fx0.T tw_6_215) rfl (v := .ref (adx 1)) rfl dX10_looks_186 ?_
      refine lv_bipush (v := (11 : Int32)) hx hb dX10_looks_189 (by decide) ?_
      refine riald  hx hb hK hP hLx 1 (Nat.le_of_ble_eq_true rfl) (xs1 _ _) (by decide) (j := 11) (by decide) dX10_looks_191 ?_
      refine lv_icmp_lt (tgt := 203) hx hb dX10_looks_192 (by decide) (fun c => ?_) (fun c => ?_)
      · have hD := ifp hD c
        refine lv_aload_n hx hb dX10_looks_203 rfl (lv_at hl 0 rfl) ?_
        refine lv_iconst (v := (3 : Int32)) hx hb dX10_looks_204 (by decide) ?_
        refine lv_iload_n hx hb dX10_looks_205 rfl (lv_at hl 1 rfl) ?_
        refine lv_iconst (v := (0 : Int32)) hx hb dX10_looks_206 (by decide) ?_
        refine lv_iconst (v := (2 : Int32)) hx hb dX10_looks_207 (by decide) ?_
        obtain ⟨v21, m22, z23, hD⟩ := b2_el hD
        refine rcV  (As := [.int (3 : Int32), .int x1, .int (0 : Int32), .int (2 : Int32)]) (rest := []) Fx0 (c_X10_notes l hLx hAd m17 (3 : Int32) x1 (0 : Int32) (2 : Int32) z23) hP (hD1 _ (hAd _ _)) hS (hA1 _ _ (hAd _ _) hS.1) hLx (Nat.le_of_ble_eq_true rfl) (xs0 _ _) rfl tw_8_127 tw_8_124 tw_8_126 ts_131 tw_1_13 yd_X10_notes ⟨(Nat.le_of_ble_eq_true rfl), (Nat.le_of_ble_eq_true rfl)⟩ rfl hl.1 rfl (Nat.le_of_ble_eq_true rfl) dX10_looks_208 (fun H locs hP hS => ?_)
        obtain ⟨rfl, rfl⟩ := es2 hD
        exact hret _ _ _ hP hS (fun Qc hq => W.iret hx hb hr hq hS.2.2 dX10_looks_211 hlocks)
      · have hD := ifn hD c
        refine lv_aload_n hx hb dX10_looks_195 rfl (lv_at hl 0 rfl) ?_
        refine rg  hx hb hT hu10 hown hK hP hLx 0 0 (Nat.le_of_ble_eq_true rfl) (xs0 _ _) rfl (Nat.le_of_ble_eq_true rfl) (Fx0.T tw_6_215) rfl (v := .ref (adx 1)) rfl dX10_looks_196 ?_
        refine lv_bipush (v := (29 : Int32)) hx hb dX10_looks_199 (by decide) ?_
        refine lv_iconst (v := (1 : Int32)) hx hb dX10_looks_201 (by decide) ?_
        obtain ⟨m24, em24, hD⟩ := bnd_el hD
        refine riast  hx hb hK hP (hD1 _ (hAd _ _)) hS hLx 1 (Nat.le_of_ble_eq_true rfl) (fun _ => xs1 _ _) (by decide) (j := 29) (by decide) dX10_looks_202 em24 (fun H locs hP hS => ?_)
        refine lv_aload_n hx hb dX10_looks_203 rfl (lv_at hl 0 rfl) ?_
        refine lv_iconst (v := (3 : Int32)) hx hb dX10_looks_204 (by decide) ?_
        refine lv_iload_n hx hb dX10_looks_205 rfl (lv_at hl 1 rfl) ?_
        refine lv_iconst (v := (0 : Int32)) hx hb dX10_looks_206 (by decide) ?_
        refine lv_iconst (v := (2 : Int32)) hx hb dX10_looks_207 (by decide) ?_
        obtain ⟨v25, m26, z27, hD⟩ := b2_el hD
        refine rcV  (As := [.int (3 : Int32), .int x1, .int (0 : Int32), .int (2 : Int32)]) (rest := []) Fx0 (c_X10_notes l hLx hAd m24 (3 : Int32) x1 (0 : Int32) (2 : Int32) z27) hP (hD1 _ (hAd _ _)) hS (hA1 _ _ (hAd _ _) hS.1) hLx (Nat.le_of_ble_eq_true rfl) (xs0 _ _) rfl tw_8_127 tw_8_124 tw_8_126 ts_131 tw_1_13 yd_X10_notes ⟨(Nat.le_of_ble_eq_true rfl), (Nat.le_of_ble_eq_true rfl)⟩ rfl hl.1 rfl (Nat.le_of_ble_eq_true rfl) dX10_looks_208 (fun H locs hP hS => ?_)
        obtain ⟨rfl, rfl⟩ := es2 hD
        exact hret _ _ _ hP hS (fun Qc hq => W.iret hx hb hr hq hS.2.2 dX10_looks_211 hlocks)
  refine lv_aload_n hx hb dX10_looks_0 rfl (lv_at hl 0 rfl) ?_
  refine lv_iload_n hx hb dX10_looks_1 rfl (lv_at hl 1 rfl) ?_
  refine lv_iconst (v := (1 : Int32)) hx hb dX10_looks_2 (by decide) ?_
  obtain ⟨v1, z2, hD⟩ := b1_el hD
  refine rcV  (As := [.int x1, .int (1 : Int32)]) (rest := []) Fx0 (c_X10_ofSpindle l hLx hAd x x1 (1 : Int32) z2) hP (hD1 _ (hAd _ _)) hS (hA1 _ _ (hAd _ _) hS.1) hLx (Nat.le_of_ble_eq_true rfl) (xs0 _ _) rfl tw_7_190 tw_7_187 tw_7_189 ts_108 tw_1_13 yd_X10_ofSpindle ⟨(Nat.le_of_ble_eq_true rfl), (Nat.le_of_ble_eq_true rfl)⟩ rfl hl.1 rfl (Nat.le_of_ble_eq_true rfl) dX10_looks_3 (fun H locs hP hS => ?_)
  refine lv_iconst (v := (-1 : Int32)) hx hb dX10_looks_6 (by decide) ?_
  refine lv_icmp_eq (tgt := 20) hx hb dX10_looks_7 (by decide) (fun c => ?_) (fun c => ?_)
  · have hD := ifp hD c
    refine lv_bipush (v := (-3 : Int32)) hx hb dX10_looks_20 (by decide) ?_
    obtain ⟨rfl, rfl⟩ := es2 hD
    exact hret _ _ _ hP hS (fun Qc hq => W.iret hx hb hr hq hS.2.2 dX10_looks_22 hlocks)
  · have hD := ifn hD c
    refine lv_aload_n hx hb dX10_looks_10 rfl (lv_at hl 0 rfl) ?_
    refine lv_iload_n hx hb dX10_looks_11 rfl (lv_at hl 1 rfl) ?_
    refine lv_iconst (v := (2 : Int32)) hx hb dX10_looks_12 (by decide) ?_
    obtain ⟨v3, z4, hD⟩ := b1_el hD
    refine rcV  (As := [.int x1, .int (2 : Int32)]) (rest := []) Fx0 (c_X10_ofSpindle l hLx hAd x x1 (2 : Int32) z4) hP (hD1 _ (hAd _ _)) hS (hA1 _ _ (hAd _ _) hS.1) hLx (Nat.le_of_ble_eq_true rfl) (xs0 _ _) rfl tw_7_190 tw_7_187 tw_7_189 ts_108 tw_1_13 yd_X10_ofSpindle ⟨(Nat.le_of_ble_eq_true rfl), (Nat.le_of_ble_eq_true rfl)⟩ rfl hl.1 rfl (Nat.le_of_ble_eq_true rfl) dX10_looks_13 (fun H locs hP hS => ?_)
    refine lv_iconst (v := (1 : Int32)) hx hb dX10_looks_16 (by decide) ?_
    refine lv_icmp_ne (tgt := 23) hx hb dX10_looks_17 (by decide) (fun c => ?_) (fun c => ?_)
    · have hD := ifn hD c
      refine lv_aload_n hx hb dX10_looks_23 rfl (lv_at hl 0 rfl) ?_
      refine lv_iconst (v := (3 : Int32)) hx hb dX10_looks_24 (by decide) ?_
      refine lv_aload_n hx hb dX10_looks_25 rfl (lv_at hl 0 rfl) ?_
      refine rg  hx hb hT hu10 hown hK hP hLx 0 0 (Nat.le_of_ble_eq_true rfl) (xs0 _ _) rfl (Nat.le_of_ble_eq_true rfl) (Fx0.T tw_6_215) rfl (v := .ref (adx 1)) rfl dX10_looks_26 ?_
      refine lv_bipush (v := (8 : Int32)) hx hb dX10_looks_29 (by decide) ?_
      refine riald  hx hb hK hP hLx 1 (Nat.le_of_ble_eq_true rfl) (xs1 _ _) (by decide) (j := 8) (by decide) dX10_looks_31 ?_
      refine lv_aload_n hx hb dX10_looks_32 rfl (lv_at hl 0 rfl) ?_
      refine rg  hx hb hT hu10 hown hK hP hLx 0 0 (Nat.le_of_ble_eq_true rfl) (xs0 _ _) rfl (Nat.le_of_ble_eq_true rfl) (Fx0.T tw_6_215) rfl (v := .ref (adx 1)) rfl dX10_looks_33 ?_
      refine lv_bipush (v := (9 : Int32)) hx hb dX10_looks_36 (by decide) ?_
      refine riald  hx hb hK hP hLx 1 (Nat.le_of_ble_eq_true rfl) (xs1 _ _) (by decide) (j := 9) (by decide) dX10_looks_38 ?_
      refine lv_aload_n hx hb dX10_looks_39 rfl (lv_at hl 0 rfl) ?_
      refine rg  hx hb hT hu10 hown hK hP hLx 0 0 (Nat.le_of_ble_eq_true rfl) (xs0 _ _) rfl (Nat.le_of_ble_eq_true rfl) (Fx0.T tw_6_215) rfl (v := .ref (adx 1)) rfl dX10_looks_40 ?_
      refine lv_iconst (v := (3 : Int32)) hx hb dX10_looks_43 (by decide) ?_
      refine riald  hx hb hK hP hLx 1 (Nat.le_of_ble_eq_true rfl) (xs1 _ _) (by decide) (j := 3) (by decide) dX10_looks_44 ?_
      obtain ⟨m5, z6, hD⟩ := b1_el hD
      refine rcV  (As := [.int (3 : Int32), .int (gi x 1 8), .int (gi x 1 9), .int (gi x 1 3)]) (rest := []) Fx0 (c_X10_goes l hLx hAd x (3 : Int32) (gi x 1 8) (gi x 1 9) (gi x 1 3) z6) hP (hD1 _ (hAd _ _)) hS (hA1 _ _ (hAd _ _) hS.1) hLx (Nat.le_of_ble_eq_true rfl) (xs0 _ _) rfl tw_8_115 tw_8_112 tw_8_114 ts_128 tw_1_13 yd_X10_goes ⟨(Nat.le_of_ble_eq_true rfl), (Nat.le_of_ble_eq_true rfl)⟩ rfl hl.1 rfl (Nat.le_of_ble_eq_true rfl) dX10_looks_45 (fun H locs hP hS => ?_)
      refine lv_aload_n hx hb dX10_looks_48 rfl (lv_at hl 0 rfl) ?_
      obtain ⟨v7, m8, z9, hD⟩ := b2_el hD
      refine rcV  (As := []) (rest := []) Fx0 (c_X10_draw l hLx hAd m5 z9) hP (hD1 _ (hAd _ _)) hS (hA1 _ _ (hAd _ _) hS.1) hLx (Nat.le_of_ble_eq_true rfl) (xs0 _ _) rfl tw_8_143 tw_8_140 tw_8_142 ts_134 tw_1_13 yd_X10_draw ⟨(Nat.le_of_ble_eq_true rfl), (Nat.le_of_ble_eq_true rfl)⟩ rfl hl.1 rfl (Nat.le_of_ble_eq_true rfl) dX10_looks_49 (fun H locs hP hS => ?_)
      refine lv_istore_n (lv' := [(2, .int v7), (0, .ref (adx 0)), (1, .int x1)]) hx hb dX10_looks_52 rfl hl (by decide) rfl (fun ls hl => ?_)
      refine lv_aload_n hx hb dX10_looks_53 rfl (lv_at hl 1 rfl) ?_
      refine lv_iload_n hx hb dX10_looks_54 rfl (lv_at hl 2 rfl) ?_
      refine lv_iconst (v := (3 : Int32)) hx hb dX10_looks_55 (by decide) ?_
      obtain ⟨v10, z11, hD⟩ := b1_el hD
      refine rcV  (As := [.int x1, .int (3 : Int32)]) (rest := []) Fx0 (c_X10_ofSpindle l hLx hAd m8 x1 (3 : Int32) z11) hP (hD1 _ (hAd _ _)) hS (hA1 _ _ (hAd _ _) hS.1) hLx (Nat.le_of_ble_eq_true rfl) (xs0 _ _) rfl tw_7_190 tw_7_187 tw_7_189 ts_108 tw_1_13 yd_X10_ofSpindle ⟨(Nat.le_of_ble_eq_true rfl), (Nat.le_of_ble_eq_true rfl)⟩ rfl hl.1 rfl (Nat.le_of_ble_eq_true rfl) dX10_looks_56 (fun H locs hP hS => ?_)
      refine lv_iconst (v := (1 : Int32)) hx hb dX10_looks_59 (by decide) ?_
      refine lv_iadd hx hb dX10_looks_60 ?_
      obtain ⟨v12, ev12, hD⟩ := bnd_el hD
      refine lv_nmi ev12 ?_
      refine lv_istore_n (lv' := [(3, .int v12), (2, .int v7), (0, .ref (adx 0)), (1, .int x1)]) hx hb dX10_looks_61 rfl hl (by decide) rfl (fun ls hl => ?_)
      refine lv_aload_n hx hb dX10_looks_62 rfl (lv_at hl 2 rfl) ?_
      refine lv_iload_n hx hb dX10_looks_63 rfl (lv_at hl 3 rfl) ?_
      refine lv_iconst (v := (3 : Int32)) hx hb dX10_looks_64 (by decide) ?_
      refine lv_iload_n hx hb dX10_looks_65 rfl (lv_at hl 0 rfl) ?_
      obtain ⟨m13, z14, hD⟩ := b1_el hD
      refine rcV  (As := [.int x1, .int (3 : Int32), .int v12]) (rest := []) Fx0 (c_X10_putSpindle l hLx hAd m8 x1 (3 : Int32) v12 z14) hP (hD1 _ (hAd _ _)) hS (hA1 _ _ (hAd _ _) hS.1) hLx (Nat.le_of_ble_eq_true rfl) (xs0 _ _) rfl tw_8_123 tw_8_120 tw_8_122 ts_130 tw_1_13 yd_X10_putSpindle ⟨(Nat.le_of_ble_eq_true rfl), (Nat.le_of_ble_eq_true rfl)⟩ rfl hl.1 rfl (Nat.le_of_ble_eq_true rfl) dX10_looks_66 (fun H locs hP hS => ?_)
      refine lv_iload_n hx hb dX10_looks_69 rfl (lv_at hl 1 rfl) ?_
      refine lv_aload_n hx hb dX10_looks_70 rfl (lv_at hl 2 rfl) ?_
      refine rg  hx hb hT hu10 hown hK hP hLx 0 0 (Nat.le_of_ble_eq_true rfl) (xs0 _ _) rfl (Nat.le_of_ble_eq_true rfl) (Fx0.T tw_6_215) rfl (v := .ref (adx 1)) rfl dX10_looks_71 ?_
      refine lv_iconst (v := (5 : Int32)) hx hb dX10_looks_74 (by decide) ?_
      refine riald  hx hb hK hP hLx 1 (Nat.le_of_ble_eq_true rfl) (xs1 _ _) (by decide) (j := 5) (by decide) dX10_looks_75 ?_
      refine lv_icmp_ge (tgt := 114) hx hb dX10_looks_76 (by decide) (fun c => ?_) (fun c => ?_)
      · have hD := ifp hD c
        refine lv_iload_n hx hb dX10_looks_114 rfl (lv_at hl 1 rfl) ?_
        refine lv_aload_n hx hb dX10_looks_115 rfl (lv_at hl 2 rfl) ?_
        refine rg  hx hb hT hu10 hown hK hP hLx 0 0 (Nat.le_of_ble_eq_true rfl) (xs0 _ _) rfl (Nat.le_of_ble_eq_true rfl) (Fx0.T tw_6_215) rfl (v := .ref (adx 1)) rfl dX10_looks_116 ?_
        refine lv_iconst (v := (5 : Int32)) hx hb dX10_looks_119 (by decide) ?_
        refine riald  hx hb hK hP hLx 1 (Nat.le_of_ble_eq_true rfl) (xs1 _ _) (by decide) (j := 5) (by decide) dX10_looks_120 ?_
        refine lv_aload_n hx hb dX10_looks_121 rfl (lv_at hl 2 rfl) ?_
        refine rg  hx hb hT hu10 hown hK hP hLx 0 0 (Nat.le_of_ble_eq_true rfl) (xs0 _ _) rfl (Nat.le_of_ble_eq_true rfl) (Fx0.T tw_6_215) rfl (v := .ref (adx 1)) rfl dX10_looks_122 ?_
        refine lv_bipush (v := (6 : Int32)) hx hb dX10_looks_125 (by decide) ?_
        refine riald  hx hb hK hP hLx 1 (Nat.le_of_ble_eq_true rfl) (xs1 _ _) (by decide) (j := 6) (by decide) dX10_looks_127 ?_
        refine lv_iadd hx hb dX10_looks_128 ?_
        refine lv_icmp_ge (tgt := 152) hx hb dX10_looks_129 (by decide) (fun c => ?_) (fun c => ?_)
        · have hD := ifp hD c
          exact c_152 _ _ _ _ _ hD hP hS (lv_sub hl [2, 3] rfl)
        · have hD := ifn hD c
          refine lv_iload_n hx hb dX10_looks_132 rfl (lv_at hl 0 rfl) ?_
          refine lv_aload_n hx hb dX10_looks_133 rfl (lv_at hl 2 rfl) ?_
          refine rg  hx hb hT hu10 hown hK hP hLx 0 0 (Nat.le_of_ble_eq_true rfl) (xs0 _ _) rfl (Nat.le_of_ble_eq_true rfl) (Fx0.T tw_6_215) rfl (v := .ref (adx 1)) rfl dX10_looks_134 ?_
          refine lv_bipush (v := (7 : Int32)) hx hb dX10_looks_137 (by decide) ?_
          refine riald  hx hb hK hP hLx 1 (Nat.le_of_ble_eq_true rfl) (xs1 _ _) (by decide) (j := 7) (by decide) dX10_looks_139 ?_
          refine lv_icmp_gt (tgt := 152) hx hb dX10_looks_140 (by decide) (fun c => ?_) (fun c => ?_)
          · have hD := ifp hD c
            exact c_152 _ _ _ _ _ hD hP hS (lv_sub hl [2, 3] rfl)
          · have hD := ifn hD c
            refine lv_aload_n hx hb dX10_looks_143 rfl (lv_at hl 2 rfl) ?_
            refine lv_iconst (v := (3 : Int32)) hx hb dX10_looks_144 (by decide) ?_
            refine lv_iload_n hx hb dX10_looks_145 rfl (lv_at hl 3 rfl) ?_
            refine lv_iconst (v := (0 : Int32)) hx hb dX10_looks_146 (by decide) ?_
            refine lv_iconst (v := (0 : Int32)) hx hb dX10_looks_147 (by decide) ?_
            obtain ⟨v28, m29, z30, hD⟩ := b2_el hD
            refine rcV  (As := [.int (3 : Int32), .int x1, .int (0 : Int32), .int (0 : Int32)]) (rest := []) Fx0 (c_X10_notes l hLx hAd m13 (3 : Int32) x1 (0 : Int32) (0 : Int32) z30) hP (hD1 _ (hAd _ _)) hS (hA1 _ _ (hAd _ _) hS.1) hLx (Nat.le_of_ble_eq_true rfl) (xs0 _ _) rfl tw_8_127 tw_8_124 tw_8_126 ts_131 tw_1_13 yd_X10_notes ⟨(Nat.le_of_ble_eq_true rfl), (Nat.le_of_ble_eq_true rfl)⟩ rfl hl.1 rfl (Nat.le_of_ble_eq_true rfl) dX10_looks_148 (fun H locs hP hS => ?_)
            obtain ⟨rfl, rfl⟩ := es2 hD
            exact hret _ _ _ hP hS (fun Qc hq => W.iret hx hb hr hq hS.2.2 dX10_looks_151 hlocks)
      · have hD := ifn hD c
        refine lv_aload_n hx hb dX10_looks_79 rfl (lv_at hl 2 rfl) ?_
        refine lv_iload_n hx hb dX10_looks_80 rfl (lv_at hl 3 rfl) ?_
        refine lv_iconst (v := (2 : Int32)) hx hb dX10_looks_81 (by decide) ?_
        refine lv_iconst (v := (1 : Int32)) hx hb dX10_looks_82 (by decide) ?_
        obtain ⟨m31, z32, hD⟩ := b1_el hD
        refine rcV  (As := [.int x1, .int (2 : Int32), .int (1 : Int32)]) (rest := []) Fx0 (c_X10_putSpindle l hLx hAd m13 x1 (2 : Int32) (1 : Int32) z32) hP (hD1 _ (hAd _ _)) hS (hA1 _ _ (hAd _ _) hS.1) hLx (Nat.le_of_ble_eq_true rfl) (xs0 _ _) rfl tw_8_123 tw_8_120 tw_8_122 ts_130 tw_1_13 yd_X10_putSpindle ⟨(Nat.le_of_ble_eq_true rfl), (Nat.le_of_ble_eq_true rfl)⟩ rfl hl.1 rfl (Nat.le_of_ble_eq_true rfl) dX10_looks_83 (fun H locs hP hS => ?_)
        refine lv_aload_n hx hb dX10_looks_86 rfl (lv_at hl 2 rfl) ?_
        refine rg  hx hb hT hu10 hown hK hP hLx 0 0 (Nat.le_of_ble_eq_true rfl) (xs0 _ _) rfl (Nat.le_of_ble_eq_true rfl) (Fx0.T tw_6_215) rfl (v := .ref (adx 1)) rfl dX10_looks_87 ?_
        refine lv_bipush (v := (25 : Int32)) hx hb dX10_looks_90 (by decide) ?_
        refine lv_iconst (v := (0 : Int32)) hx hb dX10_looks_92 (by decide) ?_
        obtain ⟨m33, em33, hD⟩ := bnd_el hD
        refine riast  hx hb hK hP (hD1 _ (hAd _ _)) hS hLx 1 (Nat.le_of_ble_eq_true rfl) (fun _ => xs1 _ _) (by decide) (j := 25) (by decide) dX10_looks_93 em33 (fun H locs hP hS => ?_)
        refine lv_aload_n hx hb dX10_looks_94 rfl (lv_at hl 2 rfl) ?_
        refine rg  hx hb hT hu10 hown hK hP hLx 0 0 (Nat.le_of_ble_eq_true rfl) (xs0 _ _) rfl (Nat.le_of_ble_eq_true rfl) (Fx0.T tw_6_215) rfl (v := .ref (adx 1)) rfl dX10_looks_95 ?_
        refine lv_bipush (v := (26 : Int32)) hx hb dX10_looks_98 (by decide) ?_
        refine lv_dup2_11 hx hb dX10_looks_100 rfl rfl ?_
        refine riald  hx hb hK hP hLx 1 (Nat.le_of_ble_eq_true rfl) (xs1 _ _) (by decide) (j := 26) (by decide) dX10_looks_101 ?_
        refine lv_iconst (v := (1 : Int32)) hx hb dX10_looks_102 (by decide) ?_
        refine lv_iadd hx hb dX10_looks_103 ?_
        obtain ⟨m34, em34, hD⟩ := bnd_el hD
        refine riast  hx hb hK hP (hD1 _ (hAd _ _)) hS hLx 1 (Nat.le_of_ble_eq_true rfl) (fun _ => xs1 _ _) (by decide) (j := 26) (by decide) dX10_looks_104 em34 (fun H locs hP hS => ?_)
        refine lv_aload_n hx hb dX10_looks_105 rfl (lv_at hl 2 rfl) ?_
        refine lv_iconst (v := (3 : Int32)) hx hb dX10_looks_106 (by decide) ?_
        refine lv_iload_n hx hb dX10_looks_107 rfl (lv_at hl 3 rfl) ?_
        refine lv_iconst (v := (0 : Int32)) hx hb dX10_looks_108 (by decide) ?_
        refine lv_iconst (v := (1 : Int32)) hx hb dX10_looks_109 (by decide) ?_
        obtain ⟨v35, m36, z37, hD⟩ := b2_el hD
        refine rcV  (As := [.int (3 : Int32), .int x1, .int (0 : Int32), .int (1 : Int32)]) (rest := []) Fx0 (c_X10_notes l hLx hAd m34 (3 : Int32) x1 (0 : Int32) (1 : Int32) z37) hP (hD1 _ (hAd _ _)) hS (hA1 _ _ (hAd _ _) hS.1) hLx (Nat.le_of_ble_eq_true rfl) (xs0 _ _) rfl tw_8_127 tw_8_124 tw_8_126 ts_131 tw_1_13 yd_X10_notes ⟨(Nat.le_of_ble_eq_true rfl), (Nat.le_of_ble_eq_true rfl)⟩ rfl hl.1 rfl (Nat.le_of_ble_eq_true rfl) dX10_looks_110 (fun H locs hP hS => ?_)
        obtain ⟨rfl, rfl⟩ := es2 hD
        exact hret _ _ _ hP hS (fun Qc hq => W.iret hx hb hr hq hS.2.2 dX10_looks_113 hlocks)
    · have hD := ifp hD c
      refine lv_bipush (v := (-3 : Int32)) hx hb dX10_looks_20 (by decide) ?_
      obtain ⟨rfl, rfl⟩ := es2 hD
      exact hret _ _ _ hP hS (fun Qc hq => W.iret hx hb hr hq hS.2.2 dX10_looks_22 hlocks)

noncomputable def D_X10_places (x1 : Int32) (x2 : Int32) (x : MM) : Option (Int32 × MM) := b1 (D_X10_ofSpindle x1 (1 : Int32) x) (fun v1 => if v1 = (-1 : Int32) then (some ((-3 : Int32), x)) else (b1 (D_X10_ofSpindle x1 (2 : Int32) x) (fun v3 => if v3 = 0 then (some ((-3 : Int32), x)) else (b1 (D_X10_ofSpot x2 (3 : Int32) x) (fun v5 => if v5 = 0 then (b1 (D_X10_ofSpot x2 (0 : Int32) x) (fun v7 => if v7 = v1 then (b1 (D_X10_openBefore x2 x) (fun v9 => if v9 = (0 : Int64) then (b1 (D_X10_ofSpot x2 (1 : Int32) x) (fun v11 => b1 (D_X10_ofSpot x2 (2 : Int32) x) (fun v13 => b1 (D_X10_goes (4 : Int32) v11 v13 (gi x 1 4) x) (fun m15 => b1 (D_X10_putSpot x2 (3 : Int32) (1 : Int32) m15) (fun m17 => b1 (D_X10_putSpot x2 (4 : Int32) (gi m17 1 23) m17) (fun m19 => b1 (D_X10_putSpot x2 (5 : Int32) x1 m19) (fun m21 => b1 (D_X10_books v1 (1 : Int32) (1 : Int32) m21) (fun m23 => b1 (D_X10_ofSpindle x1 (4 : Int32) m23) (fun v25 => b1 (D_X10_putSpindle x1 (4 : Int32) (v25 + (1 : Int32)) m23) (fun m27 => b1 (D_X10_frees x1 m27) (fun m29 => b2 (D_X10_notes (4 : Int32) x1 x2 (1 : Int32) m29) (fun v31 m32 => some (v31, m32))))))))))))) else (some ((-6 : Int32), x)))) else (some ((-5 : Int32), x)))) else (some ((-3 : Int32), x)))))))
set_option maxHeartbeats 4000000 in
set_option maxRecDepth 100000 in
theorem c_X10_places (l : Launch) {D : va_G} {cs : Nat → ClassId} {adx : Nat → Nat} {Wf : MM → va_W} (hLx : Ln 9 adx (xsh cs adx) Wf) (hAd : ∀ a0_ b0_ : MM, (Wf a0_).map (fun q => q.1) = (Wf b0_).map (fun q => q.1)) (x : MM) (x1 : Int32) (x2 : Int32) {rr : Int32} {x' : MM} (hD : D_X10_places x1 x2 x = some (rr, x')) : Ct l yX10_places cX10_places 4 (some .int) 3 72 D cs [.ref (adx 0), .int x1, .int x2] (Wf x) (Wf x') (some (.int rr)) := by
  refine Ct.ofW (by decide) (Nat.le_of_ble_eq_true rfl) (hAd _ _) ?_
  intro p e s m0 below meth c A Q ls args hx hb hr hml hlocks hown hts hK hP hD1 hSS hS hA1 hl hret
  have hT : ∀ w ∈ TBL, w.before args s = true := fun w h => hts w (List.mem_cons_of_mem _ h)
  have Fx0 : Fx p l m0 c cX10_places 4 s args yX10_places cX10_places 4 (some .int) D cs A := ⟨hx, hb, hml, hown, hts, hK, hSS⟩
  have hown : s.vm.findClass RX10 = some m0.cls := hown
  have hl : lv_has ls 4 [(0, .ref (adx 0)), (1, .int x1), (2, .int x2)] := hl
  unfold D_X10_places at hD
  refine lv_aload_n hx hb dX10_places_0 rfl (lv_at hl 0 rfl) ?_
  refine lv_iload_n hx hb dX10_places_1 rfl (lv_at hl 1 rfl) ?_
  refine lv_iconst (v := (1 : Int32)) hx hb dX10_places_2 (by decide) ?_
  obtain ⟨v1, z2, hD⟩ := b1_el hD
  refine rcV  (As := [.int x1, .int (1 : Int32)]) (rest := []) Fx0 (c_X10_ofSpindle l hLx hAd x x1 (1 : Int32) z2) hP (hD1 _ (hAd _ _)) hS (hA1 _ _ (hAd _ _) hS.1) hLx (Nat.le_of_ble_eq_true rfl) (xs0 _ _) rfl tw_7_190 tw_7_187 tw_7_189 ts_108 tw_1_13 yd_X10_ofSpindle ⟨(Nat.le_of_ble_eq_true rfl), (Nat.le_of_ble_eq_true rfl)⟩ rfl hl.1 rfl (Nat.le_of_ble_eq_true rfl) dX10_places_3 (fun H locs hP hS => ?_)
  refine lv_istore_n (lv' := [(3, .int v1), (0, .ref (adx 0)), (1, .int x1), (2, .int x2)]) hx hb dX10_places_6 rfl hl (by decide) rfl (fun ls hl => ?_)
  refine lv_iload_n hx hb dX10_places_7 rfl (lv_at hl 0 rfl) ?_
  refine lv_iconst (v := (-1 : Int32)) hx hb dX10_places_8 (by decide) ?_
  refine lv_icmp_eq (tgt := 30) hx hb dX10_places_9 (by decide) (fun c => ?_) (fun c => ?_)
  · have hD := ifp hD c
    refine lv_bipush (v := (-3 : Int32)) hx hb dX10_places_30 (by decide) ?_
    obtain ⟨rfl, rfl⟩ := es2 hD
    exact hret _ _ _ hP hS (fun Qc hq => W.iret hx hb hr hq hS.2.2 dX10_places_32 hlocks)
  · have hD := ifn hD c
    refine lv_aload_n hx hb dX10_places_12 rfl (lv_at hl 1 rfl) ?_
    refine lv_iload_n hx hb dX10_places_13 rfl (lv_at hl 2 rfl) ?_
    refine lv_iconst (v := (2 : Int32)) hx hb dX10_places_14 (by decide) ?_
    obtain ⟨v3, z4, hD⟩ := b1_el hD
    refine rcV  (As := [.int x1, .int (2 : Int32)]) (rest := []) Fx0 (c_X10_ofSpindle l hLx hAd x x1 (2 : Int32) z4) hP (hD1 _ (hAd _ _)) hS (hA1 _ _ (hAd _ _) hS.1) hLx (Nat.le_of_ble_eq_true rfl) (xs0 _ _) rfl tw_7_190 tw_7_187 tw_7_189 ts_108 tw_1_13 yd_X10_ofSpindle ⟨(Nat.le_of_ble_eq_true rfl), (Nat.le_of_ble_eq_true rfl)⟩ rfl hl.1 rfl (Nat.le_of_ble_eq_true rfl) dX10_places_15 (fun H locs hP hS => ?_)
    refine lv_if_eq (tgt := 30) hx hb dX10_places_18 (by decide) (fun c => ?_) (fun c => ?_)
    · have hD := ifp hD c
      refine lv_bipush (v := (-3 : Int32)) hx hb dX10_places_30 (by decide) ?_
      obtain ⟨rfl, rfl⟩ := es2 hD
      exact hret _ _ _ hP hS (fun Qc hq => W.iret hx hb hr hq hS.2.2 dX10_places_32 hlocks)
    · have hD := ifn hD c
      refine lv_aload_n hx hb dX10_places_21 rfl (lv_at hl 1 rfl) ?_
      refine lv_iload_n hx hb dX10_places_22 rfl (lv_at hl 3 rfl) ?_
      refine lv_iconst (v := (3 : Int32)) hx hb dX10_places_23 (by decide) ?_
      obtain ⟨v5, z6, hD⟩ := b1_el hD
      refine rcV  (As := [.int x2, .int (3 : Int32)]) (rest := []) Fx0 (c_X10_ofSpot l hLx hAd x x2 (3 : Int32) z6) hP (hD1 _ (hAd _ _)) hS (hA1 _ _ (hAd _ _) hS.1) hLx (Nat.le_of_ble_eq_true rfl) (xs0 _ _) rfl tw_8_42 tw_8_39 tw_8_41 ts_121 tw_1_13 yd_X10_ofSpot ⟨(Nat.le_of_ble_eq_true rfl), (Nat.le_of_ble_eq_true rfl)⟩ rfl hl.1 rfl (Nat.le_of_ble_eq_true rfl) dX10_places_24 (fun H locs hP hS => ?_)
      refine lv_if_eq (tgt := 33) hx hb dX10_places_27 (by decide) (fun c => ?_) (fun c => ?_)
      · have hD := ifp hD c
        refine lv_aload_n hx hb dX10_places_33 rfl (lv_at hl 1 rfl) ?_
        refine lv_iload_n hx hb dX10_places_34 rfl (lv_at hl 3 rfl) ?_
        refine lv_iconst (v := (0 : Int32)) hx hb dX10_places_35 (by decide) ?_
        obtain ⟨v7, z8, hD⟩ := b1_el hD
        refine rcV  (As := [.int x2, .int (0 : Int32)]) (rest := []) Fx0 (c_X10_ofSpot l hLx hAd x x2 (0 : Int32) z8) hP (hD1 _ (hAd _ _)) hS (hA1 _ _ (hAd _ _) hS.1) hLx (Nat.le_of_ble_eq_true rfl) (xs0 _ _) rfl tw_8_42 tw_8_39 tw_8_41 ts_121 tw_1_13 yd_X10_ofSpot ⟨(Nat.le_of_ble_eq_true rfl), (Nat.le_of_ble_eq_true rfl)⟩ rfl hl.1 rfl (Nat.le_of_ble_eq_true rfl) dX10_places_36 (fun H locs hP hS => ?_)
        refine lv_iload_n hx hb dX10_places_39 rfl (lv_at hl 0 rfl) ?_
        refine lv_icmp_eq (tgt := 46) hx hb dX10_places_40 (by decide) (fun c => ?_) (fun c => ?_)
        · have hD := ifp hD c
          refine lv_aload_n hx hb dX10_places_46 rfl (lv_at hl 1 rfl) ?_
          refine lv_iload_n hx hb dX10_places_47 rfl (lv_at hl 3 rfl) ?_
          obtain ⟨v9, z10, hD⟩ := b1_el hD
          refine rcV  (As := [.int x2]) (rest := []) Fx0 (c_X10_openBefore l hLx hAd x x2 z10) hP (hD1 _ (hAd _ _)) hS (hA1 _ _ (hAd _ _) hS.1) hLx (Nat.le_of_ble_eq_true rfl) (xs0 _ _) rfl tw_8_66 tw_8_63 tw_8_65 ts_123 tw_1_13 yd_X10_openBefore ⟨(Nat.le_of_ble_eq_true rfl), (Nat.le_of_ble_eq_true rfl)⟩ rfl hl.1 rfl (Nat.le_of_ble_eq_true rfl) dX10_places_48 (fun H locs hP hS => ?_)
          refine lv_lconst (v := (0 : Int64)) hx hb dX10_places_51 (by decide) ?_
          refine rlc_eq (tgt := 59) hx hb dX10_places_52 dX10_places_53 (by decide) (fun c => ?_) (fun c => ?_)
          · have hD := ifp hD c
            refine lv_aload_n hx hb dX10_places_59 rfl (lv_at hl 1 rfl) ?_
            refine lv_iconst (v := (4 : Int32)) hx hb dX10_places_60 (by decide) ?_
            refine lv_aload_n hx hb dX10_places_61 rfl (lv_at hl 1 rfl) ?_
            refine lv_iload_n hx hb dX10_places_62 rfl (lv_at hl 3 rfl) ?_
            refine lv_iconst (v := (1 : Int32)) hx hb dX10_places_63 (by decide) ?_
            obtain ⟨v11, z12, hD⟩ := b1_el hD
            refine rcV  (As := [.int x2, .int (1 : Int32)]) (rest := [.int (4 : Int32), .ref (adx 0)]) Fx0 (c_X10_ofSpot l hLx hAd x x2 (1 : Int32) z12) hP (hD1 _ (hAd _ _)) hS (hA1 _ _ (hAd _ _) hS.1) hLx (Nat.le_of_ble_eq_true rfl) (xs0 _ _) rfl tw_8_42 tw_8_39 tw_8_41 ts_121 tw_1_13 yd_X10_ofSpot ⟨(Nat.le_of_ble_eq_true rfl), (Nat.le_of_ble_eq_true rfl)⟩ rfl hl.1 rfl (Nat.le_of_ble_eq_true rfl) dX10_places_64 (fun H locs hP hS => ?_)
            refine lv_aload_n hx hb dX10_places_67 rfl (lv_at hl 1 rfl) ?_
            refine lv_iload_n hx hb dX10_places_68 rfl (lv_at hl 3 rfl) ?_
            refine lv_iconst (v := (2 : Int32)) hx hb dX10_places_69 (by decide) ?_
            obtain ⟨v13, z14, hD⟩ := b1_el hD
            refine rcV  (As := [.int x2, .int (2 : Int32)]) (rest := [.int v11, .int (4 : Int32), .ref (adx 0)]) Fx0 (c_X10_ofSpot l hLx hAd x x2 (2 : Int32) z14) hP (hD1 _ (hAd _ _)) hS (hA1 _ _ (hAd _ _) hS.1) hLx (Nat.le_of_ble_eq_true rfl) (xs0 _ _) rfl tw_8_42 tw_8_39 tw_8_41 ts_121 tw_1_13 yd_X10_ofSpot ⟨(Nat.le_of_ble_eq_true rfl), (Nat.le_of_ble_eq_true rfl)⟩ rfl hl.1 rfl (Nat.le_of_ble_eq_true rfl) dX10_places_70 (fun H locs hP hS => ?_)
            refine lv_aload_n hx hb dX10_places_73 rfl (lv_at hl 1 rfl) ?_
            refine rg  hx hb hT hu10 hown hK hP hLx 0 0 (Nat.le_of_ble_eq_true rfl) (xs0 _ _) rfl (Nat.le_of_ble_eq_true rfl) (Fx0.T tw_6_215) rfl (v := .ref (adx 1)) rfl dX10_places_74 ?_
            refine lv_iconst (v := (4 : Int32)) hx hb dX10_places_77 (by decide) ?_
            refine riald  hx hb hK hP hLx 1 (Nat.le_of_ble_eq_true rfl) (xs1 _ _) (by decide) (j := 4) (by decide) dX10_places_78 ?_
            obtain ⟨m15, z16, hD⟩ := b1_el hD
            refine rcV  (As := [.int (4 : Int32), .int v11, .int v13, .int (gi x 1 4)]) (rest := []) Fx0 (c_X10_goes l hLx hAd x (4 : Int32) v11 v13 (gi x 1 4) z16) hP (hD1 _ (hAd _ _)) hS (hA1 _ _ (hAd _ _) hS.1) hLx (Nat.le_of_ble_eq_true rfl) (xs0 _ _) rfl tw_8_115 tw_8_112 tw_8_114 ts_128 tw_1_13 yd_X10_goes ⟨(Nat.le_of_ble_eq_true rfl), (Nat.le_of_ble_eq_true rfl)⟩ rfl hl.1 rfl (Nat.le_of_ble_eq_true rfl) dX10_places_79 (fun H locs hP hS => ?_)
            refine lv_aload_n hx hb dX10_places_82 rfl (lv_at hl 1 rfl) ?_
            refine lv_iload_n hx hb dX10_places_83 rfl (lv_at hl 3 rfl) ?_
            refine lv_iconst (v := (3 : Int32)) hx hb dX10_places_84 (by decide) ?_
            refine lv_iconst (v := (1 : Int32)) hx hb dX10_places_85 (by decide) ?_
            obtain ⟨m17, z18, hD⟩ := b1_el hD
            refine rcV  (As := [.int x2, .int (3 : Int32), .int (1 : Int32)]) (rest := []) Fx0 (c_X10_putSpot l hLx hAd m15 x2 (3 : Int32) (1 : Int32) z18) hP (hD1 _ (hAd _ _)) hS (hA1 _ _ (hAd _ _) hS.1) hLx (Nat.le_of_ble_eq_true rfl) (xs0 _ _) rfl tw_8_50 tw_8_47 tw_8_49 ts_122 tw_1_13 yd_X10_putSpot ⟨(Nat.le_of_ble_eq_true rfl), (Nat.le_of_ble_eq_true rfl)⟩ rfl hl.1 rfl (Nat.le_of_ble_eq_true rfl) dX10_places_86 (fun H locs hP hS => ?_)
            refine lv_aload_n hx hb dX10_places_89 rfl (lv_at hl 1 rfl) ?_
            refine lv_iload_n hx hb dX10_places_90 rfl (lv_at hl 3 rfl) ?_
            refine lv_iconst (v := (4 : Int32)) hx hb dX10_places_91 (by decide) ?_
            refine lv_aload_n hx hb dX10_places_92 rfl (lv_at hl 1 rfl) ?_
            refine rg  hx hb hT hu10 hown hK hP hLx 0 0 (Nat.le_of_ble_eq_true rfl) (xs0 _ _) rfl (Nat.le_of_ble_eq_true rfl) (Fx0.T tw_6_215) rfl (v := .ref (adx 1)) rfl dX10_places_93 ?_
            refine lv_bipush (v := (23 : Int32)) hx hb dX10_places_96 (by decide) ?_
            refine riald  hx hb hK hP hLx 1 (Nat.le_of_ble_eq_true rfl) (xs1 _ _) (by decide) (j := 23) (by decide) dX10_places_98 ?_
            obtain ⟨m19, z20, hD⟩ := b1_el hD
            refine rcV  (As := [.int x2, .int (4 : Int32), .int (gi m17 1 23)]) (rest := []) Fx0 (c_X10_putSpot l hLx hAd m17 x2 (4 : Int32) (gi m17 1 23) z20) hP (hD1 _ (hAd _ _)) hS (hA1 _ _ (hAd _ _) hS.1) hLx (Nat.le_of_ble_eq_true rfl) (xs0 _ _) rfl tw_8_50 tw_8_47 tw_8_49 ts_122 tw_1_13 yd_X10_putSpot ⟨(Nat.le_of_ble_eq_true rfl), (Nat.le_of_ble_eq_true rfl)⟩ rfl hl.1 rfl (Nat.le_of_ble_eq_true rfl) dX10_places_99 (fun H locs hP hS => ?_)
            refine lv_aload_n hx hb dX10_places_102 rfl (lv_at hl 1 rfl) ?_
            refine lv_iload_n hx hb dX10_places_103 rfl (lv_at hl 3 rfl) ?_
            refine lv_iconst (v := (5 : Int32)) hx hb dX10_places_104 (by decide) ?_
            refine lv_iload_n hx hb dX10_places_105 rfl (lv_at hl 2 rfl) ?_
            obtain ⟨m21, z22, hD⟩ := b1_el hD
            refine rcV  (As := [.int x2, .int (5 : Int32), .int x1]) (rest := []) Fx0 (c_X10_putSpot l hLx hAd m19 x2 (5 : Int32) x1 z22) hP (hD1 _ (hAd _ _)) hS (hA1 _ _ (hAd _ _) hS.1) hLx (Nat.le_of_ble_eq_true rfl) (xs0 _ _) rfl tw_8_50 tw_8_47 tw_8_49 ts_122 tw_1_13 yd_X10_putSpot ⟨(Nat.le_of_ble_eq_true rfl), (Nat.le_of_ble_eq_true rfl)⟩ rfl hl.1 rfl (Nat.le_of_ble_eq_true rfl) dX10_places_106 (fun H locs hP hS => ?_)
            refine lv_aload_n hx hb dX10_places_109 rfl (lv_at hl 1 rfl) ?_
            refine lv_iload_n hx hb dX10_places_110 rfl (lv_at hl 0 rfl) ?_
            refine lv_iconst (v := (1 : Int32)) hx hb dX10_places_111 (by decide) ?_
            refine lv_iconst (v := (1 : Int32)) hx hb dX10_places_112 (by decide) ?_
            obtain ⟨m23, z24, hD⟩ := b1_el hD
            refine rcV  (As := [.int v1, .int (1 : Int32), .int (1 : Int32)]) (rest := []) Fx0 (c_X10_books l hLx hAd m21 v1 (1 : Int32) (1 : Int32) z24) hP (hD1 _ (hAd _ _)) hS (hA1 _ _ (hAd _ _) hS.1) hLx (Nat.le_of_ble_eq_true rfl) (xs0 _ _) rfl tw_7_235 tw_7_232 tw_7_234 ts_115 tw_1_13 yd_X10_books ⟨(Nat.le_of_ble_eq_true rfl), (Nat.le_of_ble_eq_true rfl)⟩ rfl hl.1 rfl (Nat.le_of_ble_eq_true rfl) dX10_places_113 (fun H locs hP hS => ?_)
            refine lv_aload_n hx hb dX10_places_116 rfl (lv_at hl 1 rfl) ?_
            refine lv_iload_n hx hb dX10_places_117 rfl (lv_at hl 2 rfl) ?_
            refine lv_iconst (v := (4 : Int32)) hx hb dX10_places_118 (by decide) ?_
            refine lv_aload_n hx hb dX10_places_119 rfl (lv_at hl 1 rfl) ?_
            refine lv_iload_n hx hb dX10_places_120 rfl (lv_at hl 2 rfl) ?_
            refine lv_iconst (v := (4 : Int32)) hx hb dX10_places_121 (by decide) ?_
            obtain ⟨v25, z26, hD⟩ := b1_el hD
            refine rcV  (As := [.int x1, .int (4 : Int32)]) (rest := [.int (4 : Int32), .int x1, .ref (adx 0)]) Fx0 (c_X10_ofSpindle l hLx hAd m23 x1 (4 : Int32) z26) hP (hD1 _ (hAd _ _)) hS (hA1 _ _ (hAd _ _) hS.1) hLx (Nat.le_of_ble_eq_true rfl) (xs0 _ _) rfl tw_7_190 tw_7_187 tw_7_189 ts_108 tw_1_13 yd_X10_ofSpindle ⟨(Nat.le_of_ble_eq_true rfl), (Nat.le_of_ble_eq_true rfl)⟩ rfl hl.1 rfl (Nat.le_of_ble_eq_true rfl) dX10_places_122 (fun H locs hP hS => ?_)
            refine lv_iconst (v := (1 : Int32)) hx hb dX10_places_125 (by decide) ?_
            refine lv_iadd hx hb dX10_places_126 ?_
            obtain ⟨m27, z28, hD⟩ := b1_el hD
            refine rcV  (As := [.int x1, .int (4 : Int32), .int (v25 + (1 : Int32))]) (rest := []) Fx0 (c_X10_putSpindle l hLx hAd m23 x1 (4 : Int32) (v25 + (1 : Int32)) z28) hP (hD1 _ (hAd _ _)) hS (hA1 _ _ (hAd _ _) hS.1) hLx (Nat.le_of_ble_eq_true rfl) (xs0 _ _) rfl tw_8_123 tw_8_120 tw_8_122 ts_130 tw_1_13 yd_X10_putSpindle ⟨(Nat.le_of_ble_eq_true rfl), (Nat.le_of_ble_eq_true rfl)⟩ rfl hl.1 rfl (Nat.le_of_ble_eq_true rfl) dX10_places_127 (fun H locs hP hS => ?_)
            refine lv_aload_n hx hb dX10_places_130 rfl (lv_at hl 1 rfl) ?_
            refine lv_iload_n hx hb dX10_places_131 rfl (lv_at hl 2 rfl) ?_
            obtain ⟨m29, z30, hD⟩ := b1_el hD
            refine rcV  (As := [.int x1]) (rest := []) Fx0 (c_X10_frees l hLx hAd m27 x1 z30) hP (hD1 _ (hAd _ _)) hS (hA1 _ _ (hAd _ _) hS.1) hLx (Nat.le_of_ble_eq_true rfl) (xs0 _ _) rfl tw_8_167 tw_8_164 tw_8_166 ts_138 tw_1_13 yd_X10_frees ⟨(Nat.le_of_ble_eq_true rfl), (Nat.le_of_ble_eq_true rfl)⟩ rfl hl.1 rfl (Nat.le_of_ble_eq_true rfl) dX10_places_132 (fun H locs hP hS => ?_)
            refine lv_aload_n hx hb dX10_places_135 rfl (lv_at hl 1 rfl) ?_
            refine lv_iconst (v := (4 : Int32)) hx hb dX10_places_136 (by decide) ?_
            refine lv_iload_n hx hb dX10_places_137 rfl (lv_at hl 2 rfl) ?_
            refine lv_iload_n hx hb dX10_places_138 rfl (lv_at hl 3 rfl) ?_
            refine lv_iconst (v := (1 : Int32)) hx hb dX10_places_139 (by decide) ?_
            obtain ⟨v31, m32, z33, hD⟩ := b2_el hD
            refine rcV  (As := [.int (4 : Int32), .int x1, .int x2, .int (1 : Int32)]) (rest := []) Fx0 (c_X10_notes l hLx hAd m29 (4 : Int32) x1 x2 (1 : Int32) z33) hP (hD1 _ (hAd _ _)) hS (hA1 _ _ (hAd _ _) hS.1) hLx (Nat.le_of_ble_eq_true rfl) (xs0 _ _) rfl tw_8_127 tw_8_124 tw_8_126 ts_131 tw_1_13 yd_X10_notes ⟨(Nat.le_of_ble_eq_true rfl), (Nat.le_of_ble_eq_true rfl)⟩ rfl hl.1 rfl (Nat.le_of_ble_eq_true rfl) dX10_places_140 (fun H locs hP hS => ?_)
            obtain ⟨rfl, rfl⟩ := es2 hD
            exact hret _ _ _ hP hS (fun Qc hq => W.iret hx hb hr hq hS.2.2 dX10_places_143 hlocks)
          · have hD := ifn hD c
            refine lv_bipush (v := (-6 : Int32)) hx hb dX10_places_56 (by decide) ?_
            obtain ⟨rfl, rfl⟩ := es2 hD
            exact hret _ _ _ hP hS (fun Qc hq => W.iret hx hb hr hq hS.2.2 dX10_places_58 hlocks)
        · have hD := ifn hD c
          refine lv_bipush (v := (-5 : Int32)) hx hb dX10_places_43 (by decide) ?_
          obtain ⟨rfl, rfl⟩ := es2 hD
          exact hret _ _ _ hP hS (fun Qc hq => W.iret hx hb hr hq hS.2.2 dX10_places_45 hlocks)
      · have hD := ifn hD c
        refine lv_bipush (v := (-3 : Int32)) hx hb dX10_places_30 (by decide) ?_
        obtain ⟨rfl, rfl⟩ := es2 hD
        exact hret _ _ _ hP hS (fun Qc hq => W.iret hx hb hr hq hS.2.2 dX10_places_32 hlocks)

noncomputable def D_X10_discards (x1 : Int32) (x : MM) : Option (Int32 × MM) := b1 (D_X10_ofSpindle x1 (1 : Int32) x) (fun v1 => if v1 = (-1 : Int32) then (some ((-3 : Int32), x)) else (b1 (D_X10_rejects x1 x) (fun m3 => b2 (D_X10_notes (5 : Int32) x1 (0 : Int32) (1 : Int32) m3) (fun v5 m6 => some (v5, m6)))))
set_option maxHeartbeats 4000000 in
set_option maxRecDepth 100000 in
theorem c_X10_discards (l : Launch) {D : va_G} {cs : Nat → ClassId} {adx : Nat → Nat} {Wf : MM → va_W} (hLx : Ln 9 adx (xsh cs adx) Wf) (hAd : ∀ a0_ b0_ : MM, (Wf a0_).map (fun q => q.1) = (Wf b0_).map (fun q => q.1)) (x : MM) (x1 : Int32) {rr : Int32} {x' : MM} (hD : D_X10_discards x1 x = some (rr, x')) : Ct l yX10_discards cX10_discards 2 (some .int) 3 65 D cs [.ref (adx 0), .int x1] (Wf x) (Wf x') (some (.int rr)) := by
  refine Ct.ofW (by decide) (Nat.le_of_ble_eq_true rfl) (hAd _ _) ?_
  intro p e s m0 below meth c A Q ls args hx hb hr hml hlocks hown hts hK hP hD1 hSS hS hA1 hl hret
  have hT : ∀ w ∈ TBL, w.before args s = true := fun w h => hts w (List.mem_cons_of_mem _ h)
  have Fx0 : Fx p l m0 c cX10_discards 2 s args yX10_discards cX10_discards 2 (some .int) D cs A := ⟨hx, hb, hml, hown, hts, hK, hSS⟩
  have hown : s.vm.findClass RX10 = some m0.cls := hown
  have hl : lv_has ls 2 [(0, .ref (adx 0)), (1, .int x1)] := hl
  unfold D_X10_discards at hD
  refine lv_aload_n hx hb dX10_discards_0 rfl (lv_at hl 0 rfl) ?_
  refine lv_iload_n hx hb dX10_discards_1 rfl (lv_at hl 1 rfl) ?_
  refine lv_iconst (v := (1 : Int32)) hx hb dX10_discards_2 (by decide) ?_
  obtain ⟨v1, z2, hD⟩ := b1_el hD
  refine rcV  (As := [.int x1, .int (1 : Int32)]) (rest := []) Fx0 (c_X10_ofSpindle l hLx hAd x x1 (1 : Int32) z2) hP (hD1 _ (hAd _ _)) hS (hA1 _ _ (hAd _ _) hS.1) hLx (Nat.le_of_ble_eq_true rfl) (xs0 _ _) rfl tw_7_190 tw_7_187 tw_7_189 ts_108 tw_1_13 yd_X10_ofSpindle ⟨(Nat.le_of_ble_eq_true rfl), (Nat.le_of_ble_eq_true rfl)⟩ rfl hl.1 rfl (Nat.le_of_ble_eq_true rfl) dX10_discards_3 (fun H locs hP hS => ?_)
  refine lv_iconst (v := (-1 : Int32)) hx hb dX10_discards_6 (by decide) ?_
  refine lv_icmp_ne (tgt := 13) hx hb dX10_discards_7 (by decide) (fun c => ?_) (fun c => ?_)
  · have hD := ifn hD c
    refine lv_aload_n hx hb dX10_discards_13 rfl (lv_at hl 0 rfl) ?_
    refine lv_iload_n hx hb dX10_discards_14 rfl (lv_at hl 1 rfl) ?_
    obtain ⟨m3, z4, hD⟩ := b1_el hD
    refine rcV  (As := [.int x1]) (rest := []) Fx0 (c_X10_rejects l hLx hAd x x1 z4) hP (hD1 _ (hAd _ _)) hS (hA1 _ _ (hAd _ _) hS.1) hLx (Nat.le_of_ble_eq_true rfl) (xs0 _ _) rfl tw_8_163 tw_8_160 tw_8_162 ts_137 tw_1_13 yd_X10_rejects ⟨(Nat.le_of_ble_eq_true rfl), (Nat.le_of_ble_eq_true rfl)⟩ rfl hl.1 rfl (Nat.le_of_ble_eq_true rfl) dX10_discards_15 (fun H locs hP hS => ?_)
    refine lv_aload_n hx hb dX10_discards_18 rfl (lv_at hl 0 rfl) ?_
    refine lv_iconst (v := (5 : Int32)) hx hb dX10_discards_19 (by decide) ?_
    refine lv_iload_n hx hb dX10_discards_20 rfl (lv_at hl 1 rfl) ?_
    refine lv_iconst (v := (0 : Int32)) hx hb dX10_discards_21 (by decide) ?_
    refine lv_iconst (v := (1 : Int32)) hx hb dX10_discards_22 (by decide) ?_
    obtain ⟨v5, m6, z7, hD⟩ := b2_el hD
    refine rcV  (As := [.int (5 : Int32), .int x1, .int (0 : Int32), .int (1 : Int32)]) (rest := []) Fx0 (c_X10_notes l hLx hAd m3 (5 : Int32) x1 (0 : Int32) (1 : Int32) z7) hP (hD1 _ (hAd _ _)) hS (hA1 _ _ (hAd _ _) hS.1) hLx (Nat.le_of_ble_eq_true rfl) (xs0 _ _) rfl tw_8_127 tw_8_124 tw_8_126 ts_131 tw_1_13 yd_X10_notes ⟨(Nat.le_of_ble_eq_true rfl), (Nat.le_of_ble_eq_true rfl)⟩ rfl hl.1 rfl (Nat.le_of_ble_eq_true rfl) dX10_discards_23 (fun H locs hP hS => ?_)
    obtain ⟨rfl, rfl⟩ := es2 hD
    exact hret _ _ _ hP hS (fun Qc hq => W.iret hx hb hr hq hS.2.2 dX10_discards_26 hlocks)
  · have hD := ifp hD c
    refine lv_bipush (v := (-3 : Int32)) hx hb dX10_discards_10 (by decide) ?_
    obtain ⟨rfl, rfl⟩ := es2 hD
    exact hret _ _ _ hP hS (fun Qc hq => W.iret hx hb hr hq hS.2.2 dX10_discards_12 hlocks)

noncomputable def D_X10_changeNozzle (x1 : Int32) (x2 : Int32) (x : MM) : Option (Int32 × MM) := b2 (D_X10_noSpindle x1 x) (fun v1 m2 => if v1 = 0 then (b1 (D_X10_isType x2 m2) (fun v4 => if v4 = 0 then (b2 (D_X10_throwsIf (1 : Int32) (1 : Int32) m2) (fun v12 m13 => if v12 = 0 then (b2 (D_X10_changes x1 x2 m13) (fun v15 m16 => some (v15, m16))) else (some ((0 : Int32), m13)))) else (b2 (D_X10_throwsIf (0 : Int32) (1 : Int32) m2) (fun v6 m7 => if v6 = 0 then (b2 (D_X10_changes x1 x2 m7) (fun v9 m10 => some (v9, m10))) else (some ((0 : Int32), m7)))))) else (some ((0 : Int32), m2)))
set_option maxHeartbeats 4000000 in
set_option maxRecDepth 100000 in
theorem c_X10_changeNozzle (l : Launch) {D : va_G} {cs : Nat → ClassId} {adx : Nat → Nat} {Wf : MM → va_W} (hLx : Ln 9 adx (xsh cs adx) Wf) (hAd : ∀ a0_ b0_ : MM, (Wf a0_).map (fun q => q.1) = (Wf b0_).map (fun q => q.1)) (x : MM) (x1 : Int32) (x2 : Int32) {rr : Int32} {x' : MM} (hD : D_X10_changeNozzle x1 x2 x = some (rr, x')) : Ct l yX10_changeNozzle cX10_changeNozzle 3 (some .int) 4 95 D cs [.ref (adx 0), .int x1, .int x2] (Wf x) (Wf x') (some (.int rr)) := by
  refine Ct.ofW (by decide) (Nat.le_of_ble_eq_true rfl) (hAd _ _) ?_
  intro p e s m0 below meth c A Q ls args hx hb hr hml hlocks hown hts hK hP hD1 hSS hS hA1 hl hret
  have hT : ∀ w ∈ TBL, w.before args s = true := fun w h => hts w (List.mem_cons_of_mem _ h)
  have Fx0 : Fx p l m0 c cX10_changeNozzle 3 s args yX10_changeNozzle cX10_changeNozzle 3 (some .int) D cs A := ⟨hx, hb, hml, hown, hts, hK, hSS⟩
  have hown : s.vm.findClass RX10 = some m0.cls := hown
  have hl : lv_has ls 3 [(0, .ref (adx 0)), (1, .int x1), (2, .int x2)] := hl
  unfold D_X10_changeNozzle at hD
  refine lv_aload_n hx hb dX10_changeNozzle_0 rfl (lv_at hl 0 rfl) ?_
  refine lv_iload_n hx hb dX10_changeNozzle_1 rfl (lv_at hl 1 rfl) ?_
  obtain ⟨v1, m2, z3, hD⟩ := b2_el hD
  refine rcV  (As := [.int x1]) (rest := []) Fx0 (c_X10_noSpindle l hLx hAd x x1 z3) hP (hD1 _ (hAd _ _)) hS (hA1 _ _ (hAd _ _) hS.1) hLx (Nat.le_of_ble_eq_true rfl) (xs0 _ _) rfl tw_7_186 tw_7_183 tw_7_185 ts_107 tw_1_13 yd_X10_noSpindle ⟨(Nat.le_of_ble_eq_true rfl), (Nat.le_of_ble_eq_true rfl)⟩ rfl hl.1 rfl (Nat.le_of_ble_eq_true rfl) dX10_changeNozzle_2 (fun H locs hP hS => ?_)
  refine lv_if_ne (tgt := 29) hx hb dX10_changeNozzle_5 (by decide) (fun c => ?_) (fun c => ?_)
  · have hD := ifn hD c
    refine lv_iconst (v := (0 : Int32)) hx hb dX10_changeNozzle_29 (by decide) ?_
    refine lv_goto (tgt := 39) hx hb dX10_changeNozzle_30 (by decide) ?_
    obtain ⟨rfl, rfl⟩ := es2 hD
    exact hret _ _ _ hP hS (fun Qc hq => W.iret hx hb hr hq hS.2.2 dX10_changeNozzle_39 hlocks)
  · have hD := ifp hD c
    refine lv_aload_n hx hb dX10_changeNozzle_8 rfl (lv_at hl 0 rfl) ?_
    refine lv_aload_n hx hb dX10_changeNozzle_9 rfl (lv_at hl 0 rfl) ?_
    refine lv_iload_n hx hb dX10_changeNozzle_10 rfl (lv_at hl 2 rfl) ?_
    obtain ⟨v4, z5, hD⟩ := b1_el hD
    refine rcV  (As := [.int x2]) (rest := [.ref (adx 0)]) Fx0 (c_X10_isType l hLx hAd m2 x2 z5) hP (hD1 _ (hAd _ _)) hS (hA1 _ _ (hAd _ _) hS.1) hLx (Nat.le_of_ble_eq_true rfl) (xs0 _ _) rfl tw_7_198 tw_7_195 tw_7_197 ts_109 tw_1_13 yd_X10_isType ⟨(Nat.le_of_ble_eq_true rfl), (Nat.le_of_ble_eq_true rfl)⟩ rfl hl.1 rfl (Nat.le_of_ble_eq_true rfl) dX10_changeNozzle_11 (fun H locs hP hS => ?_)
    refine lv_if_ne (tgt := 21) hx hb dX10_changeNozzle_14 (by decide) (fun c => ?_) (fun c => ?_)
    · have hD := ifn hD c
      refine lv_iconst (v := (0 : Int32)) hx hb dX10_changeNozzle_21 (by decide) ?_
      refine lv_iconst (v := (1 : Int32)) hx hb dX10_changeNozzle_22 (by decide) ?_
      obtain ⟨v6, m7, z8, hD⟩ := b2_el hD
      refine rcV  (As := [.int (0 : Int32), .int (1 : Int32)]) (rest := []) Fx0 (c_X10_throwsIf l hLx hAd m2 (0 : Int32) (1 : Int32) z8) hP (hD1 _ (hAd _ _)) hS (hA1 _ _ (hAd _ _) hS.1) hLx (Nat.le_of_ble_eq_true rfl) (xs0 _ _) rfl tw_7_163 tw_7_160 tw_7_162 ts_105 tw_1_13 yd_X10_throwsIf ⟨(Nat.le_of_ble_eq_true rfl), (Nat.le_of_ble_eq_true rfl)⟩ rfl hl.1 rfl (Nat.le_of_ble_eq_true rfl) dX10_changeNozzle_23 (fun H locs hP hS => ?_)
      refine lv_if_eq (tgt := 33) hx hb dX10_changeNozzle_26 (by decide) (fun c => ?_) (fun c => ?_)
      · have hD := ifp hD c
        refine lv_aload_n hx hb dX10_changeNozzle_33 rfl (lv_at hl 0 rfl) ?_
        refine lv_iload_n hx hb dX10_changeNozzle_34 rfl (lv_at hl 1 rfl) ?_
        refine lv_iload_n hx hb dX10_changeNozzle_35 rfl (lv_at hl 2 rfl) ?_
        obtain ⟨v9, m10, z11, hD⟩ := b2_el hD
        refine rcV  (As := [.int x1, .int x2]) (rest := []) Fx0 (c_X10_changes l hLx hAd m7 x1 x2 z11) hP (hD1 _ (hAd _ _)) hS (hA1 _ _ (hAd _ _) hS.1) hLx (Nat.le_of_ble_eq_true rfl) (xs0 _ _) rfl tw_8_111 tw_8_108 tw_8_110 ts_127 tw_1_13 yd_X10_changes ⟨(Nat.le_of_ble_eq_true rfl), (Nat.le_of_ble_eq_true rfl)⟩ rfl hl.1 rfl (Nat.le_of_ble_eq_true rfl) dX10_changeNozzle_36 (fun H locs hP hS => ?_)
        obtain ⟨rfl, rfl⟩ := es2 hD
        exact hret _ _ _ hP hS (fun Qc hq => W.iret hx hb hr hq hS.2.2 dX10_changeNozzle_39 hlocks)
      · have hD := ifn hD c
        refine lv_iconst (v := (0 : Int32)) hx hb dX10_changeNozzle_29 (by decide) ?_
        refine lv_goto (tgt := 39) hx hb dX10_changeNozzle_30 (by decide) ?_
        obtain ⟨rfl, rfl⟩ := es2 hD
        exact hret _ _ _ hP hS (fun Qc hq => W.iret hx hb hr hq hS.2.2 dX10_changeNozzle_39 hlocks)
    · have hD := ifp hD c
      refine lv_iconst (v := (1 : Int32)) hx hb dX10_changeNozzle_17 (by decide) ?_
      refine lv_goto (tgt := 22) hx hb dX10_changeNozzle_18 (by decide) ?_
      refine lv_iconst (v := (1 : Int32)) hx hb dX10_changeNozzle_22 (by decide) ?_
      obtain ⟨v12, m13, z14, hD⟩ := b2_el hD
      refine rcV  (As := [.int (1 : Int32), .int (1 : Int32)]) (rest := []) Fx0 (c_X10_throwsIf l hLx hAd m2 (1 : Int32) (1 : Int32) z14) hP (hD1 _ (hAd _ _)) hS (hA1 _ _ (hAd _ _) hS.1) hLx (Nat.le_of_ble_eq_true rfl) (xs0 _ _) rfl tw_7_163 tw_7_160 tw_7_162 ts_105 tw_1_13 yd_X10_throwsIf ⟨(Nat.le_of_ble_eq_true rfl), (Nat.le_of_ble_eq_true rfl)⟩ rfl hl.1 rfl (Nat.le_of_ble_eq_true rfl) dX10_changeNozzle_23 (fun H locs hP hS => ?_)
      refine lv_if_eq (tgt := 33) hx hb dX10_changeNozzle_26 (by decide) (fun c => ?_) (fun c => ?_)
      · have hD := ifp hD c
        refine lv_aload_n hx hb dX10_changeNozzle_33 rfl (lv_at hl 0 rfl) ?_
        refine lv_iload_n hx hb dX10_changeNozzle_34 rfl (lv_at hl 1 rfl) ?_
        refine lv_iload_n hx hb dX10_changeNozzle_35 rfl (lv_at hl 2 rfl) ?_
        obtain ⟨v15, m16, z17, hD⟩ := b2_el hD
        refine rcV  (As := [.int x1, .int x2]) (rest := []) Fx0 (c_X10_changes l hLx hAd m13 x1 x2 z17) hP (hD1 _ (hAd _ _)) hS (hA1 _ _ (hAd _ _) hS.1) hLx (Nat.le_of_ble_eq_true rfl) (xs0 _ _) rfl tw_8_111 tw_8_108 tw_8_110 ts_127 tw_1_13 yd_X10_changes ⟨(Nat.le_of_ble_eq_true rfl), (Nat.le_of_ble_eq_true rfl)⟩ rfl hl.1 rfl (Nat.le_of_ble_eq_true rfl) dX10_changeNozzle_36 (fun H locs hP hS => ?_)
        obtain ⟨rfl, rfl⟩ := es2 hD
        exact hret _ _ _ hP hS (fun Qc hq => W.iret hx hb hr hq hS.2.2 dX10_changeNozzle_39 hlocks)
      · have hD := ifn hD c
        refine lv_iconst (v := (0 : Int32)) hx hb dX10_changeNozzle_29 (by decide) ?_
        refine lv_goto (tgt := 39) hx hb dX10_changeNozzle_30 (by decide) ?_
        obtain ⟨rfl, rfl⟩ := es2 hD
        exact hret _ _ _ hP hS (fun Qc hq => W.iret hx hb hr hq hS.2.2 dX10_changeNozzle_39 hlocks)

noncomputable def D_X10_pick (x1 : Int32) (x2 : Int32) (x : MM) : Option (Int32 × MM) := b2 (D_X10_noSpindle x1 x) (fun v1 m2 => if v1 = 0 then (b1 (D_X10_isFeeder x2 m2) (fun v4 => if v4 = 0 then (b2 (D_X10_throwsIf (1 : Int32) (1 : Int32) m2) (fun v12 m13 => if v12 = 0 then (b2 (D_X10_picks x1 x2 m13) (fun v15 m16 => some (v15, m16))) else (some ((0 : Int32), m13)))) else (b2 (D_X10_throwsIf (0 : Int32) (1 : Int32) m2) (fun v6 m7 => if v6 = 0 then (b2 (D_X10_picks x1 x2 m7) (fun v9 m10 => some (v9, m10))) else (some ((0 : Int32), m7)))))) else (some ((0 : Int32), m2)))
set_option maxHeartbeats 4000000 in
set_option maxRecDepth 100000 in
theorem c_X10_pick (l : Launch) {D : va_G} {cs : Nat → ClassId} {adx : Nat → Nat} {Wf : MM → va_W} (hLx : Ln 9 adx (xsh cs adx) Wf) (hAd : ∀ a0_ b0_ : MM, (Wf a0_).map (fun q => q.1) = (Wf b0_).map (fun q => q.1)) (x : MM) (x1 : Int32) (x2 : Int32) {rr : Int32} {x' : MM} (hD : D_X10_pick x1 x2 x = some (rr, x')) : Ct l yX10_pick cX10_pick 3 (some .int) 4 95 D cs [.ref (adx 0), .int x1, .int x2] (Wf x) (Wf x') (some (.int rr)) := by
  refine Ct.ofW (by decide) (Nat.le_of_ble_eq_true rfl) (hAd _ _) ?_
  intro p e s m0 below meth c A Q ls args hx hb hr hml hlocks hown hts hK hP hD1 hSS hS hA1 hl hret
  have hT : ∀ w ∈ TBL, w.before args s = true := fun w h => hts w (List.mem_cons_of_mem _ h)
  have Fx0 : Fx p l m0 c cX10_pick 3 s args yX10_pick cX10_pick 3 (some .int) D cs A := ⟨hx, hb, hml, hown, hts, hK, hSS⟩
  have hown : s.vm.findClass RX10 = some m0.cls := hown
  have hl : lv_has ls 3 [(0, .ref (adx 0)), (1, .int x1), (2, .int x2)] := hl
  unfold D_X10_pick at hD
  refine lv_aload_n hx hb dX10_pick_0 rfl (lv_at hl 0 rfl) ?_
  refine lv_iload_n hx hb dX10_pick_1 rfl (lv_at hl 1 rfl) ?_
  obtain ⟨v1, m2, z3, hD⟩ := b2_el hD
  refine rcV  (As := [.int x1]) (rest := []) Fx0 (c_X10_noSpindle l hLx hAd x x1 z3) hP (hD1 _ (hAd _ _)) hS (hA1 _ _ (hAd _ _) hS.1) hLx (Nat.le_of_ble_eq_true rfl) (xs0 _ _) rfl tw_7_186 tw_7_183 tw_7_185 ts_107 tw_1_13 yd_X10_noSpindle ⟨(Nat.le_of_ble_eq_true rfl), (Nat.le_of_ble_eq_true rfl)⟩ rfl hl.1 rfl (Nat.le_of_ble_eq_true rfl) dX10_pick_2 (fun H locs hP hS => ?_)
  refine lv_if_ne (tgt := 29) hx hb dX10_pick_5 (by decide) (fun c => ?_) (fun c => ?_)
  · have hD := ifn hD c
    refine lv_iconst (v := (0 : Int32)) hx hb dX10_pick_29 (by decide) ?_
    refine lv_goto (tgt := 39) hx hb dX10_pick_30 (by decide) ?_
    obtain ⟨rfl, rfl⟩ := es2 hD
    exact hret _ _ _ hP hS (fun Qc hq => W.iret hx hb hr hq hS.2.2 dX10_pick_39 hlocks)
  · have hD := ifp hD c
    refine lv_aload_n hx hb dX10_pick_8 rfl (lv_at hl 0 rfl) ?_
    refine lv_aload_n hx hb dX10_pick_9 rfl (lv_at hl 0 rfl) ?_
    refine lv_iload_n hx hb dX10_pick_10 rfl (lv_at hl 2 rfl) ?_
    obtain ⟨v4, z5, hD⟩ := b1_el hD
    refine rcV  (As := [.int x2]) (rest := [.ref (adx 0)]) Fx0 (c_X10_isFeeder l hLx hAd m2 x2 z5) hP (hD1 _ (hAd _ _)) hS (hA1 _ _ (hAd _ _) hS.1) hLx (Nat.le_of_ble_eq_true rfl) (xs0 _ _) rfl tw_7_218 tw_7_215 tw_7_217 ts_112 tw_1_13 yd_X10_isFeeder ⟨(Nat.le_of_ble_eq_true rfl), (Nat.le_of_ble_eq_true rfl)⟩ rfl hl.1 rfl (Nat.le_of_ble_eq_true rfl) dX10_pick_11 (fun H locs hP hS => ?_)
    refine lv_if_ne (tgt := 21) hx hb dX10_pick_14 (by decide) (fun c => ?_) (fun c => ?_)
    · have hD := ifn hD c
      refine lv_iconst (v := (0 : Int32)) hx hb dX10_pick_21 (by decide) ?_
      refine lv_iconst (v := (1 : Int32)) hx hb dX10_pick_22 (by decide) ?_
      obtain ⟨v6, m7, z8, hD⟩ := b2_el hD
      refine rcV  (As := [.int (0 : Int32), .int (1 : Int32)]) (rest := []) Fx0 (c_X10_throwsIf l hLx hAd m2 (0 : Int32) (1 : Int32) z8) hP (hD1 _ (hAd _ _)) hS (hA1 _ _ (hAd _ _) hS.1) hLx (Nat.le_of_ble_eq_true rfl) (xs0 _ _) rfl tw_7_163 tw_7_160 tw_7_162 ts_105 tw_1_13 yd_X10_throwsIf ⟨(Nat.le_of_ble_eq_true rfl), (Nat.le_of_ble_eq_true rfl)⟩ rfl hl.1 rfl (Nat.le_of_ble_eq_true rfl) dX10_pick_23 (fun H locs hP hS => ?_)
      refine lv_if_eq (tgt := 33) hx hb dX10_pick_26 (by decide) (fun c => ?_) (fun c => ?_)
      · have hD := ifp hD c
        refine lv_aload_n hx hb dX10_pick_33 rfl (lv_at hl 0 rfl) ?_
        refine lv_iload_n hx hb dX10_pick_34 rfl (lv_at hl 1 rfl) ?_
        refine lv_iload_n hx hb dX10_pick_35 rfl (lv_at hl 2 rfl) ?_
        obtain ⟨v9, m10, z11, hD⟩ := b2_el hD
        refine rcV  (As := [.int x1, .int x2]) (rest := []) Fx0 (c_X10_picks l hLx hAd m7 x1 x2 z11) hP (hD1 _ (hAd _ _)) hS (hA1 _ _ (hAd _ _) hS.1) hLx (Nat.le_of_ble_eq_true rfl) (xs0 _ _) rfl tw_8_135 tw_8_132 tw_8_134 ts_132 tw_1_13 yd_X10_picks ⟨(Nat.le_of_ble_eq_true rfl), (Nat.le_of_ble_eq_true rfl)⟩ rfl hl.1 rfl (Nat.le_of_ble_eq_true rfl) dX10_pick_36 (fun H locs hP hS => ?_)
        obtain ⟨rfl, rfl⟩ := es2 hD
        exact hret _ _ _ hP hS (fun Qc hq => W.iret hx hb hr hq hS.2.2 dX10_pick_39 hlocks)
      · have hD := ifn hD c
        refine lv_iconst (v := (0 : Int32)) hx hb dX10_pick_29 (by decide) ?_
        refine lv_goto (tgt := 39) hx hb dX10_pick_30 (by decide) ?_
        obtain ⟨rfl, rfl⟩ := es2 hD
        exact hret _ _ _ hP hS (fun Qc hq => W.iret hx hb hr hq hS.2.2 dX10_pick_39 hlocks)
    · have hD := ifp hD c
      refine lv_iconst (v := (1 : Int32)) hx hb dX10_pick_17 (by decide) ?_
      refine lv_goto (tgt := 22) hx hb dX10_pick_18 (by decide) ?_
      refine lv_iconst (v := (1 : Int32)) hx hb dX10_pick_22 (by decide) ?_
      obtain ⟨v12, m13, z14, hD⟩ := b2_el hD
      refine rcV  (As := [.int (1 : Int32), .int (1 : Int32)]) (rest := []) Fx0 (c_X10_throwsIf l hLx hAd m2 (1 : Int32) (1 : Int32) z14) hP (hD1 _ (hAd _ _)) hS (hA1 _ _ (hAd _ _) hS.1) hLx (Nat.le_of_ble_eq_true rfl) (xs0 _ _) rfl tw_7_163 tw_7_160 tw_7_162 ts_105 tw_1_13 yd_X10_throwsIf ⟨(Nat.le_of_ble_eq_true rfl), (Nat.le_of_ble_eq_true rfl)⟩ rfl hl.1 rfl (Nat.le_of_ble_eq_true rfl) dX10_pick_23 (fun H locs hP hS => ?_)
      refine lv_if_eq (tgt := 33) hx hb dX10_pick_26 (by decide) (fun c => ?_) (fun c => ?_)
      · have hD := ifp hD c
        refine lv_aload_n hx hb dX10_pick_33 rfl (lv_at hl 0 rfl) ?_
        refine lv_iload_n hx hb dX10_pick_34 rfl (lv_at hl 1 rfl) ?_
        refine lv_iload_n hx hb dX10_pick_35 rfl (lv_at hl 2 rfl) ?_
        obtain ⟨v15, m16, z17, hD⟩ := b2_el hD
        refine rcV  (As := [.int x1, .int x2]) (rest := []) Fx0 (c_X10_picks l hLx hAd m13 x1 x2 z17) hP (hD1 _ (hAd _ _)) hS (hA1 _ _ (hAd _ _) hS.1) hLx (Nat.le_of_ble_eq_true rfl) (xs0 _ _) rfl tw_8_135 tw_8_132 tw_8_134 ts_132 tw_1_13 yd_X10_picks ⟨(Nat.le_of_ble_eq_true rfl), (Nat.le_of_ble_eq_true rfl)⟩ rfl hl.1 rfl (Nat.le_of_ble_eq_true rfl) dX10_pick_36 (fun H locs hP hS => ?_)
        obtain ⟨rfl, rfl⟩ := es2 hD
        exact hret _ _ _ hP hS (fun Qc hq => W.iret hx hb hr hq hS.2.2 dX10_pick_39 hlocks)
      · have hD := ifn hD c
        refine lv_iconst (v := (0 : Int32)) hx hb dX10_pick_29 (by decide) ?_
        refine lv_goto (tgt := 39) hx hb dX10_pick_30 (by decide) ?_
        obtain ⟨rfl, rfl⟩ := es2 hD
        exact hret _ _ _ hP hS (fun Qc hq => W.iret hx hb hr hq hS.2.2 dX10_pick_39 hlocks)

noncomputable def D_X10_look (x1 : Int32) (x : MM) : Option (Int32 × MM) := b2 (D_X10_noSpindle x1 x) (fun v1 m2 => if v1 = 0 then (b2 (D_X10_looks x1 m2) (fun v4 m5 => some (v4, m5))) else (some ((0 : Int32), m2)))
set_option maxHeartbeats 4000000 in
set_option maxRecDepth 100000 in
theorem c_X10_look (l : Launch) {D : va_G} {cs : Nat → ClassId} {adx : Nat → Nat} {Wf : MM → va_W} (hLx : Ln 9 adx (xsh cs adx) Wf) (hAd : ∀ a0_ b0_ : MM, (Wf a0_).map (fun q => q.1) = (Wf b0_).map (fun q => q.1)) (x : MM) (x1 : Int32) {rr : Int32} {x' : MM} (hD : D_X10_look x1 x = some (rr, x')) : Ct l yX10_look cX10_look 2 (some .int) 4 95 D cs [.ref (adx 0), .int x1] (Wf x) (Wf x') (some (.int rr)) := by
  refine Ct.ofW (by decide) (Nat.le_of_ble_eq_true rfl) (hAd _ _) ?_
  intro p e s m0 below meth c A Q ls args hx hb hr hml hlocks hown hts hK hP hD1 hSS hS hA1 hl hret
  have hT : ∀ w ∈ TBL, w.before args s = true := fun w h => hts w (List.mem_cons_of_mem _ h)
  have Fx0 : Fx p l m0 c cX10_look 2 s args yX10_look cX10_look 2 (some .int) D cs A := ⟨hx, hb, hml, hown, hts, hK, hSS⟩
  have hown : s.vm.findClass RX10 = some m0.cls := hown
  have hl : lv_has ls 2 [(0, .ref (adx 0)), (1, .int x1)] := hl
  unfold D_X10_look at hD
  refine lv_aload_n hx hb dX10_look_0 rfl (lv_at hl 0 rfl) ?_
  refine lv_iload_n hx hb dX10_look_1 rfl (lv_at hl 1 rfl) ?_
  obtain ⟨v1, m2, z3, hD⟩ := b2_el hD
  refine rcV  (As := [.int x1]) (rest := []) Fx0 (c_X10_noSpindle l hLx hAd x x1 z3) hP (hD1 _ (hAd _ _)) hS (hA1 _ _ (hAd _ _) hS.1) hLx (Nat.le_of_ble_eq_true rfl) (xs0 _ _) rfl tw_7_186 tw_7_183 tw_7_185 ts_107 tw_1_13 yd_X10_noSpindle ⟨(Nat.le_of_ble_eq_true rfl), (Nat.le_of_ble_eq_true rfl)⟩ rfl hl.1 rfl (Nat.le_of_ble_eq_true rfl) dX10_look_2 (fun H locs hP hS => ?_)
  refine lv_if_eq (tgt := 12) hx hb dX10_look_5 (by decide) (fun c => ?_) (fun c => ?_)
  · have hD := ifp hD c
    refine lv_aload_n hx hb dX10_look_12 rfl (lv_at hl 0 rfl) ?_
    refine lv_iload_n hx hb dX10_look_13 rfl (lv_at hl 1 rfl) ?_
    obtain ⟨v4, m5, z6, hD⟩ := b2_el hD
    refine rcV  (As := [.int x1]) (rest := []) Fx0 (c_X10_looks l hLx hAd m2 x1 z6) hP (hD1 _ (hAd _ _)) hS (hA1 _ _ (hAd _ _) hS.1) hLx (Nat.le_of_ble_eq_true rfl) (xs0 _ _) rfl tw_8_159 tw_8_156 tw_8_158 ts_136 tw_1_13 yd_X10_looks ⟨(Nat.le_of_ble_eq_true rfl), (Nat.le_of_ble_eq_true rfl)⟩ rfl hl.1 rfl (Nat.le_of_ble_eq_true rfl) dX10_look_14 (fun H locs hP hS => ?_)
    obtain ⟨rfl, rfl⟩ := es2 hD
    exact hret _ _ _ hP hS (fun Qc hq => W.iret hx hb hr hq hS.2.2 dX10_look_17 hlocks)
  · have hD := ifn hD c
    refine lv_iconst (v := (0 : Int32)) hx hb dX10_look_8 (by decide) ?_
    refine lv_goto (tgt := 17) hx hb dX10_look_9 (by decide) ?_
    obtain ⟨rfl, rfl⟩ := es2 hD
    exact hret _ _ _ hP hS (fun Qc hq => W.iret hx hb hr hq hS.2.2 dX10_look_17 hlocks)

noncomputable def D_X10_place (x1 : Int32) (x2 : Int32) (x : MM) : Option (Int32 × MM) := b2 (D_X10_noSpindle x1 x) (fun v1 m2 => if v1 = 0 then (b1 (D_X10_isSpot x2 m2) (fun v4 => if v4 = 0 then (b2 (D_X10_throwsIf (1 : Int32) (1 : Int32) m2) (fun v12 m13 => if v12 = 0 then (b2 (D_X10_places x1 x2 m13) (fun v15 m16 => some (v15, m16))) else (some ((0 : Int32), m13)))) else (b2 (D_X10_throwsIf (0 : Int32) (1 : Int32) m2) (fun v6 m7 => if v6 = 0 then (b2 (D_X10_places x1 x2 m7) (fun v9 m10 => some (v9, m10))) else (some ((0 : Int32), m7)))))) else (some ((0 : Int32), m2)))
set_option maxHeartbeats 4000000 in
set_option maxRecDepth 100000 in
theorem c_X10_place (l : Launch) {D : va_G} {cs : Nat → ClassId} {adx : Nat → Nat} {Wf : MM → va_W} (hLx : Ln 9 adx (xsh cs adx) Wf) (hAd : ∀ a0_ b0_ : MM, (Wf a0_).map (fun q => q.1) = (Wf b0_).map (fun q => q.1)) (x : MM) (x1 : Int32) (x2 : Int32) {rr : Int32} {x' : MM} (hD : D_X10_place x1 x2 x = some (rr, x')) : Ct l yX10_place cX10_place 3 (some .int) 4 95 D cs [.ref (adx 0), .int x1, .int x2] (Wf x) (Wf x') (some (.int rr)) := by
  refine Ct.ofW (by decide) (Nat.le_of_ble_eq_true rfl) (hAd _ _) ?_
  intro p e s m0 below meth c A Q ls args hx hb hr hml hlocks hown hts hK hP hD1 hSS hS hA1 hl hret
  have hT : ∀ w ∈ TBL, w.before args s = true := fun w h => hts w (List.mem_cons_of_mem _ h)
  have Fx0 : Fx p l m0 c cX10_place 3 s args yX10_place cX10_place 3 (some .int) D cs A := ⟨hx, hb, hml, hown, hts, hK, hSS⟩
  have hown : s.vm.findClass RX10 = some m0.cls := hown
  have hl : lv_has ls 3 [(0, .ref (adx 0)), (1, .int x1), (2, .int x2)] := hl
  unfold D_X10_place at hD
  refine lv_aload_n hx hb dX10_place_0 rfl (lv_at hl 0 rfl) ?_
  refine lv_iload_n hx hb dX10_place_1 rfl (lv_at hl 1 rfl) ?_
  obtain ⟨v1, m2, z3, hD⟩ := b2_el hD
  refine rcV  (As := [.int x1]) (rest := []) Fx0 (c_X10_noSpindle l hLx hAd x x1 z3) hP (hD1 _ (hAd _ _)) hS (hA1 _ _ (hAd _ _) hS.1) hLx (Nat.le_of_ble_eq_true rfl) (xs0 _ _) rfl tw_7_186 tw_7_183 tw_7_185 ts_107 tw_1_13 yd_X10_noSpindle ⟨(Nat.le_of_ble_eq_true rfl), (Nat.le_of_ble_eq_true rfl)⟩ rfl hl.1 rfl (Nat.le_of_ble_eq_true rfl) dX10_place_2 (fun H locs hP hS => ?_)
  refine lv_if_ne (tgt := 29) hx hb dX10_place_5 (by decide) (fun c => ?_) (fun c => ?_)
  · have hD := ifn hD c
    refine lv_iconst (v := (0 : Int32)) hx hb dX10_place_29 (by decide) ?_
    refine lv_goto (tgt := 39) hx hb dX10_place_30 (by decide) ?_
    obtain ⟨rfl, rfl⟩ := es2 hD
    exact hret _ _ _ hP hS (fun Qc hq => W.iret hx hb hr hq hS.2.2 dX10_place_39 hlocks)
  · have hD := ifp hD c
    refine lv_aload_n hx hb dX10_place_8 rfl (lv_at hl 0 rfl) ?_
    refine lv_aload_n hx hb dX10_place_9 rfl (lv_at hl 0 rfl) ?_
    refine lv_iload_n hx hb dX10_place_10 rfl (lv_at hl 2 rfl) ?_
    obtain ⟨v4, z5, hD⟩ := b1_el hD
    refine rcV  (As := [.int x2]) (rest := [.ref (adx 0)]) Fx0 (c_X10_isSpot l hLx hAd m2 x2 z5) hP (hD1 _ (hAd _ _)) hS (hA1 _ _ (hAd _ _) hS.1) hLx (Nat.le_of_ble_eq_true rfl) (xs0 _ _) rfl tw_8_38 tw_8_35 tw_8_37 ts_120 tw_1_13 yd_X10_isSpot ⟨(Nat.le_of_ble_eq_true rfl), (Nat.le_of_ble_eq_true rfl)⟩ rfl hl.1 rfl (Nat.le_of_ble_eq_true rfl) dX10_place_11 (fun H locs hP hS => ?_)
    refine lv_if_ne (tgt := 21) hx hb dX10_place_14 (by decide) (fun c => ?_) (fun c => ?_)
    · have hD := ifn hD c
      refine lv_iconst (v := (0 : Int32)) hx hb dX10_place_21 (by decide) ?_
      refine lv_iconst (v := (1 : Int32)) hx hb dX10_place_22 (by decide) ?_
      obtain ⟨v6, m7, z8, hD⟩ := b2_el hD
      refine rcV  (As := [.int (0 : Int32), .int (1 : Int32)]) (rest := []) Fx0 (c_X10_throwsIf l hLx hAd m2 (0 : Int32) (1 : Int32) z8) hP (hD1 _ (hAd _ _)) hS (hA1 _ _ (hAd _ _) hS.1) hLx (Nat.le_of_ble_eq_true rfl) (xs0 _ _) rfl tw_7_163 tw_7_160 tw_7_162 ts_105 tw_1_13 yd_X10_throwsIf ⟨(Nat.le_of_ble_eq_true rfl), (Nat.le_of_ble_eq_true rfl)⟩ rfl hl.1 rfl (Nat.le_of_ble_eq_true rfl) dX10_place_23 (fun H locs hP hS => ?_)
      refine lv_if_eq (tgt := 33) hx hb dX10_place_26 (by decide) (fun c => ?_) (fun c => ?_)
      · have hD := ifp hD c
        refine lv_aload_n hx hb dX10_place_33 rfl (lv_at hl 0 rfl) ?_
        refine lv_iload_n hx hb dX10_place_34 rfl (lv_at hl 1 rfl) ?_
        refine lv_iload_n hx hb dX10_place_35 rfl (lv_at hl 2 rfl) ?_
        obtain ⟨v9, m10, z11, hD⟩ := b2_el hD
        refine rcV  (As := [.int x1, .int x2]) (rest := []) Fx0 (c_X10_places l hLx hAd m7 x1 x2 z11) hP (hD1 _ (hAd _ _)) hS (hA1 _ _ (hAd _ _) hS.1) hLx (Nat.le_of_ble_eq_true rfl) (xs0 _ _) rfl tw_8_175 tw_8_172 tw_8_174 ts_139 tw_1_13 yd_X10_places ⟨(Nat.le_of_ble_eq_true rfl), (Nat.le_of_ble_eq_true rfl)⟩ rfl hl.1 rfl (Nat.le_of_ble_eq_true rfl) dX10_place_36 (fun H locs hP hS => ?_)
        obtain ⟨rfl, rfl⟩ := es2 hD
        exact hret _ _ _ hP hS (fun Qc hq => W.iret hx hb hr hq hS.2.2 dX10_place_39 hlocks)
      · have hD := ifn hD c
        refine lv_iconst (v := (0 : Int32)) hx hb dX10_place_29 (by decide) ?_
        refine lv_goto (tgt := 39) hx hb dX10_place_30 (by decide) ?_
        obtain ⟨rfl, rfl⟩ := es2 hD
        exact hret _ _ _ hP hS (fun Qc hq => W.iret hx hb hr hq hS.2.2 dX10_place_39 hlocks)
    · have hD := ifp hD c
      refine lv_iconst (v := (1 : Int32)) hx hb dX10_place_17 (by decide) ?_
      refine lv_goto (tgt := 22) hx hb dX10_place_18 (by decide) ?_
      refine lv_iconst (v := (1 : Int32)) hx hb dX10_place_22 (by decide) ?_
      obtain ⟨v12, m13, z14, hD⟩ := b2_el hD
      refine rcV  (As := [.int (1 : Int32), .int (1 : Int32)]) (rest := []) Fx0 (c_X10_throwsIf l hLx hAd m2 (1 : Int32) (1 : Int32) z14) hP (hD1 _ (hAd _ _)) hS (hA1 _ _ (hAd _ _) hS.1) hLx (Nat.le_of_ble_eq_true rfl) (xs0 _ _) rfl tw_7_163 tw_7_160 tw_7_162 ts_105 tw_1_13 yd_X10_throwsIf ⟨(Nat.le_of_ble_eq_true rfl), (Nat.le_of_ble_eq_true rfl)⟩ rfl hl.1 rfl (Nat.le_of_ble_eq_true rfl) dX10_place_23 (fun H locs hP hS => ?_)
      refine lv_if_eq (tgt := 33) hx hb dX10_place_26 (by decide) (fun c => ?_) (fun c => ?_)
      · have hD := ifp hD c
        refine lv_aload_n hx hb dX10_place_33 rfl (lv_at hl 0 rfl) ?_
        refine lv_iload_n hx hb dX10_place_34 rfl (lv_at hl 1 rfl) ?_
        refine lv_iload_n hx hb dX10_place_35 rfl (lv_at hl 2 rfl) ?_
        obtain ⟨v15, m16, z17, hD⟩ := b2_el hD
        refine rcV  (As := [.int x1, .int x2]) (rest := []) Fx0 (c_X10_places l hLx hAd m13 x1 x2 z17) hP (hD1 _ (hAd _ _)) hS (hA1 _ _ (hAd _ _) hS.1) hLx (Nat.le_of_ble_eq_true rfl) (xs0 _ _) rfl tw_8_175 tw_8_172 tw_8_174 ts_139 tw_1_13 yd_X10_places ⟨(Nat.le_of_ble_eq_true rfl), (Nat.le_of_ble_eq_true rfl)⟩ rfl hl.1 rfl (Nat.le_of_ble_eq_true rfl) dX10_place_36 (fun H locs hP hS => ?_)
        obtain ⟨rfl, rfl⟩ := es2 hD
        exact hret _ _ _ hP hS (fun Qc hq => W.iret hx hb hr hq hS.2.2 dX10_place_39 hlocks)
      · have hD := ifn hD c
        refine lv_iconst (v := (0 : Int32)) hx hb dX10_place_29 (by decide) ?_
        refine lv_goto (tgt := 39) hx hb dX10_place_30 (by decide) ?_
        obtain ⟨rfl, rfl⟩ := es2 hD
        exact hret _ _ _ hP hS (fun Qc hq => W.iret hx hb hr hq hS.2.2 dX10_place_39 hlocks)

noncomputable def D_X10_discard (x1 : Int32) (x : MM) : Option (Int32 × MM) := b2 (D_X10_noSpindle x1 x) (fun v1 m2 => if v1 = 0 then (b2 (D_X10_discards x1 m2) (fun v4 m5 => some (v4, m5))) else (some ((0 : Int32), m2)))
set_option maxHeartbeats 4000000 in
set_option maxRecDepth 100000 in
theorem c_X10_discard (l : Launch) {D : va_G} {cs : Nat → ClassId} {adx : Nat → Nat} {Wf : MM → va_W} (hLx : Ln 9 adx (xsh cs adx) Wf) (hAd : ∀ a0_ b0_ : MM, (Wf a0_).map (fun q => q.1) = (Wf b0_).map (fun q => q.1)) (x : MM) (x1 : Int32) {rr : Int32} {x' : MM} (hD : D_X10_discard x1 x = some (rr, x')) : Ct l yX10_discard cX10_discard 2 (some .int) 4 86 D cs [.ref (adx 0), .int x1] (Wf x) (Wf x') (some (.int rr)) := by
  refine Ct.ofW (by decide) (Nat.le_of_ble_eq_true rfl) (hAd _ _) ?_
  intro p e s m0 below meth c A Q ls args hx hb hr hml hlocks hown hts hK hP hD1 hSS hS hA1 hl hret
  have hT : ∀ w ∈ TBL, w.before args s = true := fun w h => hts w (List.mem_cons_of_mem _ h)
  have Fx0 : Fx p l m0 c cX10_discard 2 s args yX10_discard cX10_discard 2 (some .int) D cs A := ⟨hx, hb, hml, hown, hts, hK, hSS⟩
  have hown : s.vm.findClass RX10 = some m0.cls := hown
  have hl : lv_has ls 2 [(0, .ref (adx 0)), (1, .int x1)] := hl
  unfold D_X10_discard at hD
  refine lv_aload_n hx hb dX10_discard_0 rfl (lv_at hl 0 rfl) ?_
  refine lv_iload_n hx hb dX10_discard_1 rfl (lv_at hl 1 rfl) ?_
  obtain ⟨v1, m2, z3, hD⟩ := b2_el hD
  refine rcV  (As := [.int x1]) (rest := []) Fx0 (c_X10_noSpindle l hLx hAd x x1 z3) hP (hD1 _ (hAd _ _)) hS (hA1 _ _ (hAd _ _) hS.1) hLx (Nat.le_of_ble_eq_true rfl) (xs0 _ _) rfl tw_7_186 tw_7_183 tw_7_185 ts_107 tw_1_13 yd_X10_noSpindle ⟨(Nat.le_of_ble_eq_true rfl), (Nat.le_of_ble_eq_true rfl)⟩ rfl hl.1 rfl (Nat.le_of_ble_eq_true rfl) dX10_discard_2 (fun H locs hP hS => ?_)
  refine lv_if_eq (tgt := 12) hx hb dX10_discard_5 (by decide) (fun c => ?_) (fun c => ?_)
  · have hD := ifp hD c
    refine lv_aload_n hx hb dX10_discard_12 rfl (lv_at hl 0 rfl) ?_
    refine lv_iload_n hx hb dX10_discard_13 rfl (lv_at hl 1 rfl) ?_
    obtain ⟨v4, m5, z6, hD⟩ := b2_el hD
    refine rcV  (As := [.int x1]) (rest := []) Fx0 (c_X10_discards l hLx hAd m2 x1 z6) hP (hD1 _ (hAd _ _)) hS (hA1 _ _ (hAd _ _) hS.1) hLx (Nat.le_of_ble_eq_true rfl) (xs0 _ _) rfl tw_8_183 tw_8_180 tw_8_182 ts_140 tw_1_13 yd_X10_discards ⟨(Nat.le_of_ble_eq_true rfl), (Nat.le_of_ble_eq_true rfl)⟩ rfl hl.1 rfl (Nat.le_of_ble_eq_true rfl) dX10_discard_14 (fun H locs hP hS => ?_)
    obtain ⟨rfl, rfl⟩ := es2 hD
    exact hret _ _ _ hP hS (fun Qc hq => W.iret hx hb hr hq hS.2.2 dX10_discard_17 hlocks)
  · have hD := ifn hD c
    refine lv_iconst (v := (0 : Int32)) hx hb dX10_discard_8 (by decide) ?_
    refine lv_goto (tgt := 17) hx hb dX10_discard_9 (by decide) ?_
    obtain ⟨rfl, rfl⟩ := es2 hD
    exact hret _ _ _ hP hS (fun Qc hq => W.iret hx hb hr hq hS.2.2 dX10_discard_17 hlocks)

noncomputable def D_X10_clean (x1 : Int32) (x : MM) : Option (Int32 × MM) := b2 (D_X10_noSpindle x1 x) (fun v1 m2 => if v1 = 0 then (b2 (D_X10_cleans x1 m2) (fun v4 m5 => some (v4, m5))) else (some ((0 : Int32), m2)))
set_option maxHeartbeats 4000000 in
set_option maxRecDepth 100000 in
theorem c_X10_clean (l : Launch) {D : va_G} {cs : Nat → ClassId} {adx : Nat → Nat} {Wf : MM → va_W} (hLx : Ln 9 adx (xsh cs adx) Wf) (hAd : ∀ a0_ b0_ : MM, (Wf a0_).map (fun q => q.1) = (Wf b0_).map (fun q => q.1)) (x : MM) (x1 : Int32) {rr : Int32} {x' : MM} (hD : D_X10_clean x1 x = some (rr, x')) : Ct l yX10_clean cX10_clean 2 (some .int) 4 93 D cs [.ref (adx 0), .int x1] (Wf x) (Wf x') (some (.int rr)) := by
  refine Ct.ofW (by decide) (Nat.le_of_ble_eq_true rfl) (hAd _ _) ?_
  intro p e s m0 below meth c A Q ls args hx hb hr hml hlocks hown hts hK hP hD1 hSS hS hA1 hl hret
  have hT : ∀ w ∈ TBL, w.before args s = true := fun w h => hts w (List.mem_cons_of_mem _ h)
  have Fx0 : Fx p l m0 c cX10_clean 2 s args yX10_clean cX10_clean 2 (some .int) D cs A := ⟨hx, hb, hml, hown, hts, hK, hSS⟩
  have hown : s.vm.findClass RX10 = some m0.cls := hown
  have hl : lv_has ls 2 [(0, .ref (adx 0)), (1, .int x1)] := hl
  unfold D_X10_clean at hD
  refine lv_aload_n hx hb dX10_clean_0 rfl (lv_at hl 0 rfl) ?_
  refine lv_iload_n hx hb dX10_clean_1 rfl (lv_at hl 1 rfl) ?_
  obtain ⟨v1, m2, z3, hD⟩ := b2_el hD
  refine rcV  (As := [.int x1]) (rest := []) Fx0 (c_X10_noSpindle l hLx hAd x x1 z3) hP (hD1 _ (hAd _ _)) hS (hA1 _ _ (hAd _ _) hS.1) hLx (Nat.le_of_ble_eq_true rfl) (xs0 _ _) rfl tw_7_186 tw_7_183 tw_7_185 ts_107 tw_1_13 yd_X10_noSpindle ⟨(Nat.le_of_ble_eq_true rfl), (Nat.le_of_ble_eq_true rfl)⟩ rfl hl.1 rfl (Nat.le_of_ble_eq_true rfl) dX10_clean_2 (fun H locs hP hS => ?_)
  refine lv_if_eq (tgt := 12) hx hb dX10_clean_5 (by decide) (fun c => ?_) (fun c => ?_)
  · have hD := ifp hD c
    refine lv_aload_n hx hb dX10_clean_12 rfl (lv_at hl 0 rfl) ?_
    refine lv_iload_n hx hb dX10_clean_13 rfl (lv_at hl 1 rfl) ?_
    obtain ⟨v4, m5, z6, hD⟩ := b2_el hD
    refine rcV  (As := [.int x1]) (rest := []) Fx0 (c_X10_cleans l hLx hAd m2 x1 z6) hP (hD1 _ (hAd _ _)) hS (hA1 _ _ (hAd _ _) hS.1) hLx (Nat.le_of_ble_eq_true rfl) (xs0 _ _) rfl tw_8_191 tw_8_188 tw_8_190 ts_141 tw_1_13 yd_X10_cleans ⟨(Nat.le_of_ble_eq_true rfl), (Nat.le_of_ble_eq_true rfl)⟩ rfl hl.1 rfl (Nat.le_of_ble_eq_true rfl) dX10_clean_14 (fun H locs hP hS => ?_)
    obtain ⟨rfl, rfl⟩ := es2 hD
    exact hret _ _ _ hP hS (fun Qc hq => W.iret hx hb hr hq hS.2.2 dX10_clean_17 hlocks)
  · have hD := ifn hD c
    refine lv_iconst (v := (0 : Int32)) hx hb dX10_clean_8 (by decide) ?_
    refine lv_goto (tgt := 17) hx hb dX10_clean_9 (by decide) ?_
    obtain ⟨rfl, rfl⟩ := es2 hD
    exact hret _ _ _ hP hS (fun Qc hq => W.iret hx hb hr hq hS.2.2 dX10_clean_17 hlocks)

noncomputable def D_X10_halts (x : MM) : Option Int32 := if (gi x 1 29) = (1 : Int32) then (some ((1 : Int32))) else (some ((0 : Int32)))
set_option maxHeartbeats 4000000 in
set_option maxRecDepth 100000 in
theorem c_X10_halts (l : Launch) {D : va_G} {cs : Nat → ClassId} {adx : Nat → Nat} {Wf : MM → va_W} (hLx : Ln 9 adx (xsh cs adx) Wf) (hAd : ∀ a0_ b0_ : MM, (Wf a0_).map (fun q => q.1) = (Wf b0_).map (fun q => q.1)) (x : MM) {rr : Int32} (hD : D_X10_halts x = some (rr)) : Ct l yX10_halts cX10_halts 1 (some .boolean) 0 0 D cs [.ref (adx 0)] (Wf x) (Wf x) (some (.int rr)) := by
  refine Ct.ofW (by decide) (Nat.le_of_ble_eq_true rfl) rfl ?_
  intro p e s m0 below meth c A Q ls args hx hb hr hml hlocks hown hts hK hP hD1 hSS hS hA1 hl hret
  have hT : ∀ w ∈ TBL, w.before args s = true := fun w h => hts w (List.mem_cons_of_mem _ h)
  have Fx0 : Fx p l m0 c cX10_halts 1 s args yX10_halts cX10_halts 1 (some .boolean) D cs A := ⟨hx, hb, hml, hown, hts, hK, hSS⟩
  have hown : s.vm.findClass RX10 = some m0.cls := hown
  have hl : lv_has ls 1 [(0, .ref (adx 0))] := hl
  unfold D_X10_halts at hD
  refine lv_aload_n hx hb dX10_halts_0 rfl (lv_at hl 0 rfl) ?_
  refine rg  hx hb hT hu10 hown hK hP hLx 0 0 (Nat.le_of_ble_eq_true rfl) (xs0 _ _) rfl (Nat.le_of_ble_eq_true rfl) (Fx0.T tw_6_215) rfl (v := .ref (adx 1)) rfl dX10_halts_1 ?_
  refine lv_bipush (v := (29 : Int32)) hx hb dX10_halts_4 (by decide) ?_
  refine riald  hx hb hK hP hLx 1 (Nat.le_of_ble_eq_true rfl) (xs1 _ _) (by decide) (j := 29) (by decide) dX10_halts_6 ?_
  refine lv_iconst (v := (1 : Int32)) hx hb dX10_halts_7 (by decide) ?_
  refine lv_icmp_ne (tgt := 15) hx hb dX10_halts_8 (by decide) (fun c => ?_) (fun c => ?_)
  · have hD := ifn hD c
    refine lv_iconst (v := (0 : Int32)) hx hb dX10_halts_15 (by decide) ?_
    obtain rfl := es1 hD
    exact hret _ _ _ hP hS (fun Qc hq => W.zret hx hb hr rfl hq hS.2.2 dX10_halts_16 hlocks)
  · have hD := ifp hD c
    refine lv_iconst (v := (1 : Int32)) hx hb dX10_halts_11 (by decide) ?_
    refine lv_goto (tgt := 16) hx hb dX10_halts_12 (by decide) ?_
    obtain rfl := es1 hD
    exact hret _ _ _ hP hS (fun Qc hq => W.zret hx hb hr rfl hq hS.2.2 dX10_halts_16 hlocks)

noncomputable def D_X10_held_4 (x : MM) : Nat → Int32 → Int32 → Int32 → Option Int32
  | 0, _, _, _ => none
  | n + 1, x1, x2, x3 => if (gi x 1 15) ≤ x3 then (some (x2)) else (b1 (D_X10_ofSpindle x3 (1 : Int32) x) (fun v1 => if v1 = x1 then (bnd ((x2 + (1 : Int32))) (fun v5 => bnd (x3 + (1 : Int32)) (fun v6 => D_X10_held_4 x n x1 v5 v6))) else (bnd ((x2 + (0 : Int32))) (fun v3 => bnd (x3 + (1 : Int32)) (fun v4 => D_X10_held_4 x n x1 v3 v4)))))
noncomputable def D_X10_held (x1 : Int32) (x : MM) : Option Int32 := D_X10_held_4 x FU x1 (0 : Int32) (0 : Int32)
set_option maxHeartbeats 4000000 in
set_option maxRecDepth 100000 in
theorem c_X10_held (l : Launch) {D : va_G} {cs : Nat → ClassId} {adx : Nat → Nat} {Wf : MM → va_W} (hLx : Ln 9 adx (xsh cs adx) Wf) (hAd : ∀ a0_ b0_ : MM, (Wf a0_).map (fun q => q.1) = (Wf b0_).map (fun q => q.1)) (x : MM) (x1 : Int32) {rr : Int32} (hD : D_X10_held x1 x = some (rr)) : Ct l yX10_held cX10_held 4 (some .int) 1 22 D cs [.ref (adx 0), .int x1] (Wf x) (Wf x) (some (.int rr)) := by
  refine Ct.ofW (by decide) (Nat.le_of_ble_eq_true rfl) rfl ?_
  intro p e s m0 below meth c A Q ls args hx hb hr hml hlocks hown hts hK hP hD1 hSS hS hA1 hl hret
  have hT : ∀ w ∈ TBL, w.before args s = true := fun w h => hts w (List.mem_cons_of_mem _ h)
  have Fx0 : Fx p l m0 c cX10_held 4 s args yX10_held cX10_held 4 (some .int) D cs A := ⟨hx, hb, hml, hown, hts, hK, hSS⟩
  have hown : s.vm.findClass RX10 = some m0.cls := hown
  have hl : lv_has ls 4 [(0, .ref (adx 0)), (1, .int x1)] := hl
  unfold D_X10_held at hD
  have c_4 : ∀ (n : Nat), ∀ (x1 : Int32) (x2 : Int32) (x3 : Int32) (H : Heap) (locs : List Loc) (ls : Array Slot), D_X10_held_4 x n x1 x2 x3 = some (rr) → va_P D vwCl (Wf x) H → va_S A s.heap H locs → lv_has ls 4 [(0, .ref (adx 0)), (1, .int x1), (2, .int x2), (3, .int x3)] → W p l e ({ frames := 1, cells := 0, slots := 0, locals := 22 } : Room) s m0 args below meth c H locs 0 0 Q (F0 m0 4 ls []) := by
    intro n
    induction n with
    | zero =>
      intro x1 x2 x3 H locs ls hD hP hS hl
      exact nn_el hD
    | succ n ih =>
      intro x1 x2 x3 H locs ls hD hP hS hl
      rw [D_X10_held_4] at hD
      refine lv_iload_n hx hb dX10_held_4 rfl (lv_at hl 3 rfl) ?_
      refine lv_aload_n hx hb dX10_held_5 rfl (lv_at hl 0 rfl) ?_
      refine rg  hx hb hT hu10 hown hK hP hLx 0 0 (Nat.le_of_ble_eq_true rfl) (xs0 _ _) rfl (Nat.le_of_ble_eq_true rfl) (Fx0.T tw_6_215) rfl (v := .ref (adx 1)) rfl dX10_held_6 ?_
      refine lv_bipush (v := (15 : Int32)) hx hb dX10_held_9 (by decide) ?_
      refine riald  hx hb hK hP hLx 1 (Nat.le_of_ble_eq_true rfl) (xs1 _ _) (by decide) (j := 15) (by decide) dX10_held_11 ?_
      refine lv_icmp_ge (tgt := 39) hx hb dX10_held_12 (by decide) (fun c => ?_) (fun c => ?_)
      · have hD := ifp hD c
        refine lv_iload_n hx hb dX10_held_39 rfl (lv_at hl 2 rfl) ?_
        obtain rfl := es1 hD
        exact hret _ _ _ hP hS (fun Qc hq => W.iret hx hb hr hq hS.2.2 dX10_held_40 hlocks)
      · have hD := ifn hD c
        refine lv_iload_n hx hb dX10_held_15 rfl (lv_at hl 2 rfl) ?_
        refine lv_aload_n hx hb dX10_held_16 rfl (lv_at hl 0 rfl) ?_
        refine lv_iload_n hx hb dX10_held_17 rfl (lv_at hl 3 rfl) ?_
        refine lv_iconst (v := (1 : Int32)) hx hb dX10_held_18 (by decide) ?_
        obtain ⟨v1, z2, hD⟩ := b1_el hD
        refine rcV  (As := [.int x3, .int (1 : Int32)]) (rest := [.int x2]) Fx0 (c_X10_ofSpindle l hLx hAd x x3 (1 : Int32) z2) hP (hD1 _ (hAd _ _)) hS (hA1 _ _ (hAd _ _) hS.1) hLx (Nat.le_of_ble_eq_true rfl) (xs0 _ _) rfl tw_7_190 tw_7_187 tw_7_189 ts_108 tw_1_13 yd_X10_ofSpindle ⟨(Nat.le_of_ble_eq_true rfl), (Nat.le_of_ble_eq_true rfl)⟩ rfl hl.1 rfl (Nat.le_of_ble_eq_true rfl) dX10_held_19 (fun H locs hP hS => ?_)
        refine lv_iload_n hx hb dX10_held_22 rfl (lv_at hl 1 rfl) ?_
        refine lv_icmp_ne (tgt := 30) hx hb dX10_held_23 (by decide) (fun c => ?_) (fun c => ?_)
        · have hD := ifn hD c
          refine lv_iconst (v := (0 : Int32)) hx hb dX10_held_30 (by decide) ?_
          refine lv_iadd hx hb dX10_held_31 ?_
          obtain ⟨v3, ev3, hD⟩ := bnd_el hD
          refine lv_nmi ev3 ?_
          refine lv_istore_n (lv' := [(2, .int v3), (0, .ref (adx 0)), (1, .int x1), (3, .int x3)]) hx hb dX10_held_32 rfl hl (by decide) rfl (fun ls hl => ?_)
          obtain ⟨v4, ev4, hD⟩ := bnd_el hD
          refine lv_iinc (v := v4) (lv' := [(3, .int v4), (2, .int v3), (0, .ref (adx 0)), (1, .int x1)]) hx hb dX10_held_33 hl (k := 3) rfl (by rw [ev4]; rfl) (by decide) rfl (fun ls hl => ?_)
          refine lv_goto (tgt := 4) hx hb dX10_held_36 (by decide) ?_
          exact ih _ _ _ _ _ _ hD hP hS (lv_sub hl [2, 3, 1, 0] rfl)
        · have hD := ifp hD c
          refine lv_iconst (v := (1 : Int32)) hx hb dX10_held_26 (by decide) ?_
          refine lv_goto (tgt := 31) hx hb dX10_held_27 (by decide) ?_
          refine lv_iadd hx hb dX10_held_31 ?_
          obtain ⟨v5, ev5, hD⟩ := bnd_el hD
          refine lv_nmi ev5 ?_
          refine lv_istore_n (lv' := [(2, .int v5), (0, .ref (adx 0)), (1, .int x1), (3, .int x3)]) hx hb dX10_held_32 rfl hl (by decide) rfl (fun ls hl => ?_)
          obtain ⟨v6, ev6, hD⟩ := bnd_el hD
          refine lv_iinc (v := v6) (lv' := [(3, .int v6), (2, .int v5), (0, .ref (adx 0)), (1, .int x1)]) hx hb dX10_held_33 hl (k := 3) rfl (by rw [ev6]; rfl) (by decide) rfl (fun ls hl => ?_)
          refine lv_goto (tgt := 4) hx hb dX10_held_36 (by decide) ?_
          exact ih _ _ _ _ _ _ hD hP hS (lv_sub hl [2, 3, 1, 0] rfl)
  refine lv_iconst (v := (0 : Int32)) hx hb dX10_held_0 (by decide) ?_
  refine lv_istore_n (lv' := [(2, .int (0 : Int32)), (0, .ref (adx 0)), (1, .int x1)]) hx hb dX10_held_1 rfl hl (by decide) rfl (fun ls hl => ?_)
  refine lv_iconst (v := (0 : Int32)) hx hb dX10_held_2 (by decide) ?_
  refine lv_istore_n (lv' := [(3, .int (0 : Int32)), (2, .int (0 : Int32)), (0, .ref (adx 0)), (1, .int x1)]) hx hb dX10_held_3 rfl hl (by decide) rfl (fun ls hl => ?_)
  exact c_4 FU _ _ _ _ _ _ hD hP hS (lv_sub hl [2, 3, 1, 0] rfl)

noncomputable def D_X10_isDue (x1 : Int32) (x : MM) : Option Int32 := b1 (D_X10_nearest x1 x) (fun v1 => if v1 = (-1 : Int32) then (some ((0 : Int32))) else (b1 (D_X10_fillable x1 x) (fun v3 => b1 (D_X10_held x1 x) (fun v5 => if v3 ≤ v5 then (some ((0 : Int32))) else (some ((1 : Int32)))))))
set_option maxHeartbeats 4000000 in
set_option maxRecDepth 100000 in
theorem c_X10_isDue (l : Launch) {D : va_G} {cs : Nat → ClassId} {adx : Nat → Nat} {Wf : MM → va_W} (hLx : Ln 9 adx (xsh cs adx) Wf) (hAd : ∀ a0_ b0_ : MM, (Wf a0_).map (fun q => q.1) = (Wf b0_).map (fun q => q.1)) (x : MM) (x1 : Int32) {rr : Int32} (hD : D_X10_isDue x1 x = some (rr)) : Ct l yX10_isDue cX10_isDue 2 (some .boolean) 5 111 D cs [.ref (adx 0), .int x1] (Wf x) (Wf x) (some (.int rr)) := by
  refine Ct.ofW (by decide) (Nat.le_of_ble_eq_true rfl) rfl ?_
  intro p e s m0 below meth c A Q ls args hx hb hr hml hlocks hown hts hK hP hD1 hSS hS hA1 hl hret
  have hT : ∀ w ∈ TBL, w.before args s = true := fun w h => hts w (List.mem_cons_of_mem _ h)
  have Fx0 : Fx p l m0 c cX10_isDue 2 s args yX10_isDue cX10_isDue 2 (some .boolean) D cs A := ⟨hx, hb, hml, hown, hts, hK, hSS⟩
  have hown : s.vm.findClass RX10 = some m0.cls := hown
  have hl : lv_has ls 2 [(0, .ref (adx 0)), (1, .int x1)] := hl
  unfold D_X10_isDue at hD
  refine lv_aload_n hx hb dX10_isDue_0 rfl (lv_at hl 0 rfl) ?_
  refine lv_iload_n hx hb dX10_isDue_1 rfl (lv_at hl 1 rfl) ?_
  obtain ⟨v1, z2, hD⟩ := b1_el hD
  refine rcV  (As := [.int x1]) (rest := []) Fx0 (c_X10_nearest l hLx hAd x x1 z2) hP (hD1 _ (hAd _ _)) hS (hA1 _ _ (hAd _ _) hS.1) hLx (Nat.le_of_ble_eq_true rfl) (xs0 _ _) rfl tw_8_25 tw_8_22 tw_8_24 ts_118 tw_1_13 yd_X10_nearest ⟨(Nat.le_of_ble_eq_true rfl), (Nat.le_of_ble_eq_true rfl)⟩ rfl hl.1 rfl (Nat.le_of_ble_eq_true rfl) dX10_isDue_2 (fun H locs hP hS => ?_)
  refine lv_iconst (v := (-1 : Int32)) hx hb dX10_isDue_5 (by decide) ?_
  refine lv_icmp_eq (tgt := 26) hx hb dX10_isDue_6 (by decide) (fun c => ?_) (fun c => ?_)
  · have hD := ifp hD c
    refine lv_iconst (v := (0 : Int32)) hx hb dX10_isDue_26 (by decide) ?_
    obtain rfl := es1 hD
    exact hret _ _ _ hP hS (fun Qc hq => W.zret hx hb hr rfl hq hS.2.2 dX10_isDue_27 hlocks)
  · have hD := ifn hD c
    refine lv_aload_n hx hb dX10_isDue_9 rfl (lv_at hl 0 rfl) ?_
    refine lv_iload_n hx hb dX10_isDue_10 rfl (lv_at hl 1 rfl) ?_
    obtain ⟨v3, z4, hD⟩ := b1_el hD
    refine rcV  (As := [.int x1]) (rest := []) Fx0 (c_X10_fillable l hLx hAd x x1 z4) hP (hD1 _ (hAd _ _)) hS (hA1 _ _ (hAd _ _) hS.1) hLx (Nat.le_of_ble_eq_true rfl) (xs0 _ _) rfl tw_8_215 tw_8_212 tw_8_214 ts_146 tw_1_13 yd_X10_fillable ⟨(Nat.le_of_ble_eq_true rfl), (Nat.le_of_ble_eq_true rfl)⟩ rfl hl.1 rfl (Nat.le_of_ble_eq_true rfl) dX10_isDue_11 (fun H locs hP hS => ?_)
    refine lv_aload_n hx hb dX10_isDue_14 rfl (lv_at hl 0 rfl) ?_
    refine lv_iload_n hx hb dX10_isDue_15 rfl (lv_at hl 1 rfl) ?_
    obtain ⟨v5, z6, hD⟩ := b1_el hD
    refine rcV  (As := [.int x1]) (rest := [.int v3]) Fx0 (c_X10_held l hLx hAd x x1 z6) hP (hD1 _ (hAd _ _)) hS (hA1 _ _ (hAd _ _) hS.1) hLx (Nat.le_of_ble_eq_true rfl) (xs0 _ _) rfl tw_8_219 tw_8_216 tw_8_218 ts_147 tw_1_13 yd_X10_held ⟨(Nat.le_of_ble_eq_true rfl), (Nat.le_of_ble_eq_true rfl)⟩ rfl hl.1 rfl (Nat.le_of_ble_eq_true rfl) dX10_isDue_16 (fun H locs hP hS => ?_)
    refine lv_icmp_le (tgt := 26) hx hb dX10_isDue_19 (by decide) (fun c => ?_) (fun c => ?_)
    · have hD := ifp hD c
      refine lv_iconst (v := (0 : Int32)) hx hb dX10_isDue_26 (by decide) ?_
      obtain rfl := es1 hD
      exact hret _ _ _ hP hS (fun Qc hq => W.zret hx hb hr rfl hq hS.2.2 dX10_isDue_27 hlocks)
    · have hD := ifn hD c
      refine lv_iconst (v := (1 : Int32)) hx hb dX10_isDue_22 (by decide) ?_
      refine lv_goto (tgt := 27) hx hb dX10_isDue_23 (by decide) ?_
      obtain rfl := es1 hD
      exact hret _ _ _ hP hS (fun Qc hq => W.zret hx hb hr rfl hq hS.2.2 dX10_isDue_27 hlocks)

noncomputable def D_X10_loads_81 (x : MM) : Nat → Int32 → Int32 → Option Int32
  | 0, _, _ => none
  | n + 1, x1, x2 => if (gi x 1 17) ≤ x2 then (some ((-1 : Int32))) else (if ((50 : Int32) + x2) < 0 ∨ 640 ≤ ((50 : Int32) + x2).toNatClampNeg then none else (if ((44 : Int32) + (gi x 1 (((50 : Int32) + x2).toNatClampNeg))) < 0 ∨ 640 ≤ ((44 : Int32) + (gi x 1 (((50 : Int32) + x2).toNatClampNeg))).toNatClampNeg then none else (if (gi x 1 (((44 : Int32) + (gi x 1 (((50 : Int32) + x2).toNatClampNeg))).toNatClampNeg)) ≤ 0 then (bnd (x2 + (1 : Int32)) (fun v3 => D_X10_loads_81 x n x1 v3)) else (b1 (D_X10_isDue x2 x) (fun v4 => if v4 = 0 then (bnd (x2 + (1 : Int32)) (fun v6 => D_X10_loads_81 x n x1 v6)) else (if ((50 : Int32) + x2) < 0 ∨ 640 ≤ ((50 : Int32) + x2).toNatClampNeg then none else (some ((((10000 : Int32) + ((100 : Int32) * x1)) + (gi x 1 (((50 : Int32) + x2).toNatClampNeg)))))))))))
noncomputable def D_X10_loads_2 (x : MM) : Nat → Int32 → Int32 → Option Int32
  | 0, _, _ => none
  | n + 1, x1, x2 => if (gi x 1 17) ≤ x2 then (D_X10_loads_81 x FU x1 (0 : Int32)) else (if ((50 : Int32) + x2) < 0 ∨ 640 ≤ ((50 : Int32) + x2).toNatClampNeg then none else (b1 (D_X10_ofSpindle x1 (0 : Int32) x) (fun v9 => if (gi x 1 (((50 : Int32) + x2).toNatClampNeg)) = v9 then (b1 (D_X10_isDue x2 x) (fun v12 => if v12 = 0 then (bnd (x2 + (1 : Int32)) (fun v14 => D_X10_loads_2 x n x1 v14)) else (b1 (D_X10_isWorn x1 x) (fun v15 => if v15 = 0 then (b1 (D_X10_nearest x2 x) (fun v17 => some ((((20000 : Int32) + ((100 : Int32) * x1)) + v17)))) else (some (((60000 : Int32) + ((100 : Int32) * x1)))))))) else (bnd (x2 + (1 : Int32)) (fun v11 => D_X10_loads_2 x n x1 v11)))))
noncomputable def D_X10_loads (x1 : Int32) (x : MM) : Option Int32 := D_X10_loads_2 x FU x1 (0 : Int32)
set_option maxHeartbeats 4000000 in
set_option maxRecDepth 100000 in
theorem c_X10_loads (l : Launch) {D : va_G} {cs : Nat → ClassId} {adx : Nat → Nat} {Wf : MM → va_W} (hLx : Ln 9 adx (xsh cs adx) Wf) (hAd : ∀ a0_ b0_ : MM, (Wf a0_).map (fun q => q.1) = (Wf b0_).map (fun q => q.1)) (x : MM) (x1 : Int32) {rr : Int32} (hD : D_X10_loads x1 x = some (rr)) : Ct l yX10_loads cX10_loads 3 (some .int) 6 132 D cs [.ref (adx 0), .int x1] (Wf x) (Wf x) (some (.int rr)) := by
  refine Ct.ofW (by decide) (Nat.le_of_ble_eq_true rfl) rfl ?_
  intro p e s m0 below meth c A Q ls args hx hb hr hml hlocks hown hts hK hP hD1 hSS hS hA1 hl hret
  have hT : ∀ w ∈ TBL, w.before args s = true := fun w h => hts w (List.mem_cons_of_mem _ h)
  have Fx0 : Fx p l m0 c cX10_loads 3 s args yX10_loads cX10_loads 3 (some .int) D cs A := ⟨hx, hb, hml, hown, hts, hK, hSS⟩
  have hown : s.vm.findClass RX10 = some m0.cls := hown
  have hl : lv_has ls 3 [(0, .ref (adx 0)), (1, .int x1)] := hl
  unfold D_X10_loads at hD
  have c_81 : ∀ (n : Nat), ∀ (x1 : Int32) (x2 : Int32) (H : Heap) (locs : List Loc) (ls : Array Slot), D_X10_loads_81 x n x1 x2 = some (rr) → va_P D vwCl (Wf x) H → va_S A s.heap H locs → lv_has ls 3 [(0, .ref (adx 0)), (1, .int x1), (2, .int x2)] → W p l e ({ frames := 6, cells := 0, slots := 0, locals := 132 } : Room) s m0 args below meth c H locs 0 0 Q (F0 m0 81 ls []) := by
    intro n
    induction n with
    | zero =>
      intro x1 x2 H locs ls hD hP hS hl
      exact nn_el hD
    | succ n ih =>
      intro x1 x2 H locs ls hD hP hS hl
      rw [D_X10_loads_81] at hD
      refine lv_iload_n hx hb dX10_loads_81 rfl (lv_at hl 2 rfl) ?_
      refine lv_aload_n hx hb dX10_loads_82 rfl (lv_at hl 0 rfl) ?_
      refine rg  hx hb hT hu10 hown hK hP hLx 0 0 (Nat.le_of_ble_eq_true rfl) (xs0 _ _) rfl (Nat.le_of_ble_eq_true rfl) (Fx0.T tw_6_215) rfl (v := .ref (adx 1)) rfl dX10_loads_83 ?_
      refine lv_bipush (v := (17 : Int32)) hx hb dX10_loads_86 (by decide) ?_
      refine riald  hx hb hK hP hLx 1 (Nat.le_of_ble_eq_true rfl) (xs1 _ _) (by decide) (j := 17) (by decide) dX10_loads_88 ?_
      refine lv_icmp_ge (tgt := 145) hx hb dX10_loads_89 (by decide) (fun c => ?_) (fun c => ?_)
      · have hD := ifp hD c
        refine lv_iconst (v := (-1 : Int32)) hx hb dX10_loads_145 (by decide) ?_
        obtain rfl := es1 hD
        exact hret _ _ _ hP hS (fun Qc hq => W.iret hx hb hr hq hS.2.2 dX10_loads_146 hlocks)
      · have hD := ifn hD c
        refine lv_aload_n hx hb dX10_loads_92 rfl (lv_at hl 0 rfl) ?_
        refine rg  hx hb hT hu10 hown hK hP hLx 0 0 (Nat.le_of_ble_eq_true rfl) (xs0 _ _) rfl (Nat.le_of_ble_eq_true rfl) (Fx0.T tw_6_215) rfl (v := .ref (adx 1)) rfl dX10_loads_93 ?_
        refine lv_bipush (v := (44 : Int32)) hx hb dX10_loads_96 (by decide) ?_
        refine lv_aload_n hx hb dX10_loads_98 rfl (lv_at hl 0 rfl) ?_
        refine rg  hx hb hT hu10 hown hK hP hLx 0 0 (Nat.le_of_ble_eq_true rfl) (xs0 _ _) rfl (Nat.le_of_ble_eq_true rfl) (Fx0.T tw_6_215) rfl (v := .ref (adx 1)) rfl dX10_loads_99 ?_
        refine lv_bipush (v := (50 : Int32)) hx hb dX10_loads_102 (by decide) ?_
        refine lv_iload_n hx hb dX10_loads_104 rfl (lv_at hl 2 rfl) ?_
        refine lv_iadd hx hb dX10_loads_105 ?_
        obtain ⟨h1, hD⟩ := gd_el hD
        refine riald  hx hb hK hP hLx 1 (Nat.le_of_ble_eq_true rfl) (xs1 _ _) h1 rfl dX10_loads_106 ?_
        refine lv_iadd hx hb dX10_loads_107 ?_
        obtain ⟨h2, hD⟩ := gd_el hD
        refine riald  hx hb hK hP hLx 1 (Nat.le_of_ble_eq_true rfl) (xs1 _ _) h2 rfl dX10_loads_108 ?_
        refine lv_if_le (tgt := 139) hx hb dX10_loads_109 (by decide) (fun c => ?_) (fun c => ?_)
        · have hD := ifp hD c
          obtain ⟨v3, ev3, hD⟩ := bnd_el hD
          refine lv_iinc (v := v3) (lv' := [(2, .int v3), (0, .ref (adx 0)), (1, .int x1)]) hx hb dX10_loads_139 hl (k := 2) rfl (by rw [ev3]; rfl) (by decide) rfl (fun ls hl => ?_)
          refine lv_goto (tgt := 81) hx hb dX10_loads_142 (by decide) ?_
          exact ih _ _ _ _ _ hD hP hS (lv_sub hl [1, 2, 0] rfl)
        · have hD := ifn hD c
          refine lv_aload_n hx hb dX10_loads_112 rfl (lv_at hl 0 rfl) ?_
          refine lv_iload_n hx hb dX10_loads_113 rfl (lv_at hl 2 rfl) ?_
          obtain ⟨v4, z5, hD⟩ := b1_el hD
          refine rcV  (As := [.int x2]) (rest := []) Fx0 (c_X10_isDue l hLx hAd x x2 z5) hP (hD1 _ (hAd _ _)) hS (hA1 _ _ (hAd _ _) hS.1) hLx (Nat.le_of_ble_eq_true rfl) (xs0 _ _) rfl tw_8_211 tw_8_208 tw_8_210 ts_145 tw_1_13 yd_X10_isDue ⟨(Nat.le_of_ble_eq_true rfl), (Nat.le_of_ble_eq_true rfl)⟩ rfl hl.1 rfl (Nat.le_of_ble_eq_true rfl) dX10_loads_114 (fun H locs hP hS => ?_)
          refine lv_if_eq (tgt := 139) hx hb dX10_loads_117 (by decide) (fun c => ?_) (fun c => ?_)
          · have hD := ifp hD c
            obtain ⟨v6, ev6, hD⟩ := bnd_el hD
            refine lv_iinc (v := v6) (lv' := [(2, .int v6), (0, .ref (adx 0)), (1, .int x1)]) hx hb dX10_loads_139 hl (k := 2) rfl (by rw [ev6]; rfl) (by decide) rfl (fun ls hl => ?_)
            refine lv_goto (tgt := 81) hx hb dX10_loads_142 (by decide) ?_
            exact ih _ _ _ _ _ hD hP hS (lv_sub hl [1, 2, 0] rfl)
          · have hD := ifn hD c
            refine lv_sipush (v := (10000 : Int32)) hx hb dX10_loads_120 (by decide) ?_
            refine lv_bipush (v := (100 : Int32)) hx hb dX10_loads_123 (by decide) ?_
            refine lv_iload_n hx hb dX10_loads_125 rfl (lv_at hl 1 rfl) ?_
            refine lv_imul hx hb dX10_loads_126 ?_
            refine lv_iadd hx hb dX10_loads_127 ?_
            refine lv_aload_n hx hb dX10_loads_128 rfl (lv_at hl 0 rfl) ?_
            refine rg  hx hb hT hu10 hown hK hP hLx 0 0 (Nat.le_of_ble_eq_true rfl) (xs0 _ _) rfl (Nat.le_of_ble_eq_true rfl) (Fx0.T tw_6_215) rfl (v := .ref (adx 1)) rfl dX10_loads_129 ?_
            refine lv_bipush (v := (50 : Int32)) hx hb dX10_loads_132 (by decide) ?_
            refine lv_iload_n hx hb dX10_loads_134 rfl (lv_at hl 2 rfl) ?_
            refine lv_iadd hx hb dX10_loads_135 ?_
            obtain ⟨h7, hD⟩ := gd_el hD
            refine riald  hx hb hK hP hLx 1 (Nat.le_of_ble_eq_true rfl) (xs1 _ _) h7 rfl dX10_loads_136 ?_
            refine lv_iadd hx hb dX10_loads_137 ?_
            obtain rfl := es1 hD
            exact hret _ _ _ hP hS (fun Qc hq => W.iret hx hb hr hq hS.2.2 dX10_loads_138 hlocks)
  have c_2 : ∀ (n : Nat), ∀ (x1 : Int32) (x2 : Int32) (H : Heap) (locs : List Loc) (ls : Array Slot), D_X10_loads_2 x n x1 x2 = some (rr) → va_P D vwCl (Wf x) H → va_S A s.heap H locs → lv_has ls 3 [(0, .ref (adx 0)), (1, .int x1), (2, .int x2)] → W p l e ({ frames := 6, cells := 0, slots := 0, locals := 132 } : Room) s m0 args below meth c H locs 0 0 Q (F0 m0 2 ls []) := by
    intro n
    induction n with
    | zero =>
      intro x1 x2 H locs ls hD hP hS hl
      exact nn_el hD
    | succ n ih =>
      intro x1 x2 H locs ls hD hP hS hl
      rw [D_X10_loads_2] at hD
      refine lv_iload_n hx hb dX10_loads_2 rfl (lv_at hl 2 rfl) ?_
      refine lv_aload_n hx hb dX10_loads_3 rfl (lv_at hl 0 rfl) ?_
      refine rg  hx hb hT hu10 hown hK hP hLx 0 0 (Nat.le_of_ble_eq_true rfl) (xs0 _ _) rfl (Nat.le_of_ble_eq_true rfl) (Fx0.T tw_6_215) rfl (v := .ref (adx 1)) rfl dX10_loads_4 ?_
      refine lv_bipush (v := (17 : Int32)) hx hb dX10_loads_7 (by decide) ?_
      refine riald  hx hb hK hP hLx 1 (Nat.le_of_ble_eq_true rfl) (xs1 _ _) (by decide) (j := 17) (by decide) dX10_loads_9 ?_
      refine lv_icmp_ge (tgt := 79) hx hb dX10_loads_10 (by decide) (fun c => ?_) (fun c => ?_)
      · have hD := ifp hD c
        refine lv_iconst (v := (0 : Int32)) hx hb dX10_loads_79 (by decide) ?_
        refine lv_istore_n (lv' := [(2, .int (0 : Int32)), (0, .ref (adx 0)), (1, .int x1)]) hx hb dX10_loads_80 rfl hl (by decide) rfl (fun ls hl => ?_)
        exact c_81 FU _ _ _ _ _ hD hP hS (lv_sub hl [1, 2, 0] rfl)
      · have hD := ifn hD c
        refine lv_aload_n hx hb dX10_loads_13 rfl (lv_at hl 0 rfl) ?_
        refine rg  hx hb hT hu10 hown hK hP hLx 0 0 (Nat.le_of_ble_eq_true rfl) (xs0 _ _) rfl (Nat.le_of_ble_eq_true rfl) (Fx0.T tw_6_215) rfl (v := .ref (adx 1)) rfl dX10_loads_14 ?_
        refine lv_bipush (v := (50 : Int32)) hx hb dX10_loads_17 (by decide) ?_
        refine lv_iload_n hx hb dX10_loads_19 rfl (lv_at hl 2 rfl) ?_
        refine lv_iadd hx hb dX10_loads_20 ?_
        obtain ⟨h8, hD⟩ := gd_el hD
        refine riald  hx hb hK hP hLx 1 (Nat.le_of_ble_eq_true rfl) (xs1 _ _) h8 rfl dX10_loads_21 ?_
        refine lv_aload_n hx hb dX10_loads_22 rfl (lv_at hl 0 rfl) ?_
        refine lv_iload_n hx hb dX10_loads_23 rfl (lv_at hl 1 rfl) ?_
        refine lv_iconst (v := (0 : Int32)) hx hb dX10_loads_24 (by decide) ?_
        obtain ⟨v9, z10, hD⟩ := b1_el hD
        refine rcV  (As := [.int x1, .int (0 : Int32)]) (rest := [.int (gi x 1 (((50 : Int32) + x2).toNatClampNeg))]) Fx0 (c_X10_ofSpindle l hLx hAd x x1 (0 : Int32) z10) hP (hD1 _ (hAd _ _)) hS (hA1 _ _ (hAd _ _) hS.1) hLx (Nat.le_of_ble_eq_true rfl) (xs0 _ _) rfl tw_7_190 tw_7_187 tw_7_189 ts_108 tw_1_13 yd_X10_ofSpindle ⟨(Nat.le_of_ble_eq_true rfl), (Nat.le_of_ble_eq_true rfl)⟩ rfl hl.1 rfl (Nat.le_of_ble_eq_true rfl) dX10_loads_25 (fun H locs hP hS => ?_)
        refine lv_icmp_ne (tgt := 73) hx hb dX10_loads_28 (by decide) (fun c => ?_) (fun c => ?_)
        · have hD := ifn hD c
          obtain ⟨v11, ev11, hD⟩ := bnd_el hD
          refine lv_iinc (v := v11) (lv' := [(2, .int v11), (0, .ref (adx 0)), (1, .int x1)]) hx hb dX10_loads_73 hl (k := 2) rfl (by rw [ev11]; rfl) (by decide) rfl (fun ls hl => ?_)
          refine lv_goto (tgt := 2) hx hb dX10_loads_76 (by decide) ?_
          exact ih _ _ _ _ _ hD hP hS (lv_sub hl [1, 2, 0] rfl)
        · have hD := ifp hD c
          refine lv_aload_n hx hb dX10_loads_31 rfl (lv_at hl 0 rfl) ?_
          refine lv_iload_n hx hb dX10_loads_32 rfl (lv_at hl 2 rfl) ?_
          obtain ⟨v12, z13, hD⟩ := b1_el hD
          refine rcV  (As := [.int x2]) (rest := []) Fx0 (c_X10_isDue l hLx hAd x x2 z13) hP (hD1 _ (hAd _ _)) hS (hA1 _ _ (hAd _ _) hS.1) hLx (Nat.le_of_ble_eq_true rfl) (xs0 _ _) rfl tw_8_211 tw_8_208 tw_8_210 ts_145 tw_1_13 yd_X10_isDue ⟨(Nat.le_of_ble_eq_true rfl), (Nat.le_of_ble_eq_true rfl)⟩ rfl hl.1 rfl (Nat.le_of_ble_eq_true rfl) dX10_loads_33 (fun H locs hP hS => ?_)
          refine lv_if_eq (tgt := 73) hx hb dX10_loads_36 (by decide) (fun c => ?_) (fun c => ?_)
          · have hD := ifp hD c
            obtain ⟨v14, ev14, hD⟩ := bnd_el hD
            refine lv_iinc (v := v14) (lv' := [(2, .int v14), (0, .ref (adx 0)), (1, .int x1)]) hx hb dX10_loads_73 hl (k := 2) rfl (by rw [ev14]; rfl) (by decide) rfl (fun ls hl => ?_)
            refine lv_goto (tgt := 2) hx hb dX10_loads_76 (by decide) ?_
            exact ih _ _ _ _ _ hD hP hS (lv_sub hl [1, 2, 0] rfl)
          · have hD := ifn hD c
            refine lv_aload_n hx hb dX10_loads_39 rfl (lv_at hl 0 rfl) ?_
            refine lv_iload_n hx hb dX10_loads_40 rfl (lv_at hl 1 rfl) ?_
            obtain ⟨v15, z16, hD⟩ := b1_el hD
            refine rcV  (As := [.int x1]) (rest := []) Fx0 (c_X10_isWorn l hLx hAd x x1 z16) hP (hD1 _ (hAd _ _)) hS (hA1 _ _ (hAd _ _) hS.1) hLx (Nat.le_of_ble_eq_true rfl) (xs0 _ _) rfl tw_8_151 tw_8_148 tw_8_150 ts_135 tw_1_13 yd_X10_isWorn ⟨(Nat.le_of_ble_eq_true rfl), (Nat.le_of_ble_eq_true rfl)⟩ rfl hl.1 rfl (Nat.le_of_ble_eq_true rfl) dX10_loads_41 (fun H locs hP hS => ?_)
            refine lv_if_eq (tgt := 58) hx hb dX10_loads_44 (by decide) (fun c => ?_) (fun c => ?_)
            · have hD := ifp hD c
              refine lv_sipush (v := (20000 : Int32)) hx hb dX10_loads_58 (by decide) ?_
              refine lv_bipush (v := (100 : Int32)) hx hb dX10_loads_61 (by decide) ?_
              refine lv_iload_n hx hb dX10_loads_63 rfl (lv_at hl 1 rfl) ?_
              refine lv_imul hx hb dX10_loads_64 ?_
              refine lv_iadd hx hb dX10_loads_65 ?_
              refine lv_aload_n hx hb dX10_loads_66 rfl (lv_at hl 0 rfl) ?_
              refine lv_iload_n hx hb dX10_loads_67 rfl (lv_at hl 2 rfl) ?_
              obtain ⟨v17, z18, hD⟩ := b1_el hD
              refine rcV  (As := [.int x2]) (rest := [.int ((20000 : Int32) + ((100 : Int32) * x1))]) Fx0 (c_X10_nearest l hLx hAd x x2 z18) hP (hD1 _ (hAd _ _)) hS (hA1 _ _ (hAd _ _) hS.1) hLx (Nat.le_of_ble_eq_true rfl) (xs0 _ _) rfl tw_8_25 tw_8_22 tw_8_24 ts_118 tw_1_13 yd_X10_nearest ⟨(Nat.le_of_ble_eq_true rfl), (Nat.le_of_ble_eq_true rfl)⟩ rfl hl.1 rfl (Nat.le_of_ble_eq_true rfl) dX10_loads_68 (fun H locs hP hS => ?_)
              refine lv_iadd hx hb dX10_loads_71 ?_
              obtain rfl := es1 hD
              exact hret _ _ _ hP hS (fun Qc hq => W.iret hx hb hr hq hS.2.2 dX10_loads_72 hlocks)
            · have hD := ifn hD c
              refine lv_ldcw (v := (60000 : Int32)) hx hb hown (Fx0.T tw_8_220) dX10_loads_47 ?_
              refine lv_bipush (v := (100 : Int32)) hx hb dX10_loads_50 (by decide) ?_
              refine lv_iload_n hx hb dX10_loads_52 rfl (lv_at hl 1 rfl) ?_
              refine lv_imul hx hb dX10_loads_53 ?_
              refine lv_iadd hx hb dX10_loads_54 ?_
              refine lv_goto (tgt := 72) hx hb dX10_loads_55 (by decide) ?_
              obtain rfl := es1 hD
              exact hret _ _ _ hP hS (fun Qc hq => W.iret hx hb hr hq hS.2.2 dX10_loads_72 hlocks)
  refine lv_iconst (v := (0 : Int32)) hx hb dX10_loads_0 (by decide) ?_
  refine lv_istore_n (lv' := [(2, .int (0 : Int32)), (0, .ref (adx 0)), (1, .int x1)]) hx hb dX10_loads_1 rfl hl (by decide) rfl (fun ls hl => ?_)
  exact c_2 FU _ _ _ _ _ hD hP hS (lv_sub hl [1, 2, 0] rfl)

noncomputable def D_X10_bestSpot_7 (x : MM) : Nat → Int32 → Int32 → Int32 → Int32 → Option Int32
  | 0, _, _, _, _ => none
  | n + 1, x1, x2, x3, x4 => if (gi x 1 19) ≤ x4 then (some (x2)) else (b1 (D_X10_ofSpot x4 (0 : Int32) x) (fun v1 => if v1 = x1 then (b1 (D_X10_isFillable x4 x) (fun v4 => if v4 = 0 then (bnd (x4 + (1 : Int32)) (fun v15 => D_X10_bestSpot_7 x n x1 x2 x3 v15)) else (b1 (D_X10_ofSpot x4 (1 : Int32) x) (fun v6 => b1 (D_X10_ofSpot x4 (2 : Int32) x) (fun v8 => b1 (D_X10_wayTo v6 v8 x) (fun v10 => if x2 = (-1 : Int32) then (bnd (x4 + (1 : Int32)) (fun v12 => D_X10_bestSpot_7 x n x1 x4 v10 v12)) else (if v10 < x3 then (bnd (x4 + (1 : Int32)) (fun v13 => D_X10_bestSpot_7 x n x1 x4 v10 v13)) else (bnd (x4 + (1 : Int32)) (fun v14 => D_X10_bestSpot_7 x n x1 x2 x3 v14))))))))) else (bnd (x4 + (1 : Int32)) (fun v3 => D_X10_bestSpot_7 x n x1 x2 x3 v3))))
noncomputable def D_X10_bestSpot (x1 : Int32) (x : MM) : Option Int32 := D_X10_bestSpot_7 x FU x1 (-1 : Int32) (0 : Int32) (0 : Int32)
set_option maxHeartbeats 4000000 in
set_option maxRecDepth 100000 in
theorem c_X10_bestSpot (l : Launch) {D : va_G} {cs : Nat → ClassId} {adx : Nat → Nat} {Wf : MM → va_W} (hLx : Ln 9 adx (xsh cs adx) Wf) (hAd : ∀ a0_ b0_ : MM, (Wf a0_).map (fun q => q.1) = (Wf b0_).map (fun q => q.1)) (x : MM) (x1 : Int32) {rr : Int32} (hD : D_X10_bestSpot x1 x = some (rr)) : Ct l yX10_bestSpot cX10_bestSpot 6 (some .int) 4 88 D cs [.ref (adx 0), .int x1] (Wf x) (Wf x) (some (.int rr)) := by
  refine Ct.ofW (by decide) (Nat.le_of_ble_eq_true rfl) rfl ?_
  intro p e s m0 below meth c A Q ls args hx hb hr hml hlocks hown hts hK hP hD1 hSS hS hA1 hl hret
  have hT : ∀ w ∈ TBL, w.before args s = true := fun w h => hts w (List.mem_cons_of_mem _ h)
  have Fx0 : Fx p l m0 c cX10_bestSpot 6 s args yX10_bestSpot cX10_bestSpot 6 (some .int) D cs A := ⟨hx, hb, hml, hown, hts, hK, hSS⟩
  have hown : s.vm.findClass RX10 = some m0.cls := hown
  have hl : lv_has ls 6 [(0, .ref (adx 0)), (1, .int x1)] := hl
  unfold D_X10_bestSpot at hD
  have c_7 : ∀ (n : Nat), ∀ (x1 : Int32) (x2 : Int32) (x3 : Int32) (x4 : Int32) (H : Heap) (locs : List Loc) (ls : Array Slot), D_X10_bestSpot_7 x n x1 x2 x3 x4 = some (rr) → va_P D vwCl (Wf x) H → va_S A s.heap H locs → lv_has ls 6 [(0, .ref (adx 0)), (1, .int x1), (2, .int x2), (3, .int x3), (4, .int x4)] → W p l e ({ frames := 4, cells := 0, slots := 0, locals := 88 } : Room) s m0 args below meth c H locs 0 0 Q (F0 m0 7 ls []) := by
    intro n
    induction n with
    | zero =>
      intro x1 x2 x3 x4 H locs ls hD hP hS hl
      exact nn_el hD
    | succ n ih =>
      intro x1 x2 x3 x4 H locs ls hD hP hS hl
      rw [D_X10_bestSpot_7] at hD
      refine lv_iload hx hb dX10_bestSpot_7 (lv_at hl 4 rfl) ?_
      refine lv_aload_n hx hb dX10_bestSpot_9 rfl (lv_at hl 0 rfl) ?_
      refine rg  hx hb hT hu10 hown hK hP hLx 0 0 (Nat.le_of_ble_eq_true rfl) (xs0 _ _) rfl (Nat.le_of_ble_eq_true rfl) (Fx0.T tw_6_215) rfl (v := .ref (adx 1)) rfl dX10_bestSpot_10 ?_
      refine lv_bipush (v := (19 : Int32)) hx hb dX10_bestSpot_13 (by decide) ?_
      refine riald  hx hb hK hP hLx 1 (Nat.le_of_ble_eq_true rfl) (xs1 _ _) (by decide) (j := 19) (by decide) dX10_bestSpot_15 ?_
      refine lv_icmp_ge (tgt := 88) hx hb dX10_bestSpot_16 (by decide) (fun c => ?_) (fun c => ?_)
      · have hD := ifp hD c
        refine lv_iload_n hx hb dX10_bestSpot_88 rfl (lv_at hl 2 rfl) ?_
        obtain rfl := es1 hD
        exact hret _ _ _ hP hS (fun Qc hq => W.iret hx hb hr hq hS.2.2 dX10_bestSpot_89 hlocks)
      · have hD := ifn hD c
        refine lv_aload_n hx hb dX10_bestSpot_19 rfl (lv_at hl 0 rfl) ?_
        refine lv_iload hx hb dX10_bestSpot_20 (lv_at hl 4 rfl) ?_
        refine lv_iconst (v := (0 : Int32)) hx hb dX10_bestSpot_22 (by decide) ?_
        obtain ⟨v1, z2, hD⟩ := b1_el hD
        refine rcV  (As := [.int x4, .int (0 : Int32)]) (rest := []) Fx0 (c_X10_ofSpot l hLx hAd x x4 (0 : Int32) z2) hP (hD1 _ (hAd _ _)) hS (hA1 _ _ (hAd _ _) hS.1) hLx (Nat.le_of_ble_eq_true rfl) (xs0 _ _) rfl tw_8_42 tw_8_39 tw_8_41 ts_121 tw_1_13 yd_X10_ofSpot ⟨(Nat.le_of_ble_eq_true rfl), (Nat.le_of_ble_eq_true rfl)⟩ rfl hl.1 rfl (Nat.le_of_ble_eq_true rfl) dX10_bestSpot_23 (fun H locs hP hS => ?_)
        refine lv_iload_n hx hb dX10_bestSpot_26 rfl (lv_at hl 1 rfl) ?_
        refine lv_icmp_ne (tgt := 82) hx hb dX10_bestSpot_27 (by decide) (fun c => ?_) (fun c => ?_)
        · have hD := ifn hD c
          obtain ⟨v3, ev3, hD⟩ := bnd_el hD
          refine lv_iinc (v := v3) (lv' := [(4, .int v3), (0, .ref (adx 0)), (1, .int x1), (2, .int x2), (3, .int x3)]) hx hb dX10_bestSpot_82 hl (k := 4) rfl (by rw [ev3]; rfl) (by decide) rfl (fun ls hl => ?_)
          refine lv_goto (tgt := 7) hx hb dX10_bestSpot_85 (by decide) ?_
          exact ih _ _ _ _ _ _ _ hD hP hS (lv_sub hl [1, 2, 3, 4, 0] rfl)
        · have hD := ifp hD c
          refine lv_aload_n hx hb dX10_bestSpot_30 rfl (lv_at hl 0 rfl) ?_
          refine lv_iload hx hb dX10_bestSpot_31 (lv_at hl 4 rfl) ?_
          obtain ⟨v4, z5, hD⟩ := b1_el hD
          refine rcV  (As := [.int x4]) (rest := []) Fx0 (c_X10_isFillable l hLx hAd x x4 z5) hP (hD1 _ (hAd _ _)) hS (hA1 _ _ (hAd _ _) hS.1) hLx (Nat.le_of_ble_eq_true rfl) (xs0 _ _) rfl tw_8_83 tw_8_80 tw_8_82 ts_125 tw_1_13 yd_X10_isFillable ⟨(Nat.le_of_ble_eq_true rfl), (Nat.le_of_ble_eq_true rfl)⟩ rfl hl.1 rfl (Nat.le_of_ble_eq_true rfl) dX10_bestSpot_33 (fun H locs hP hS => ?_)
          refine lv_if_ne (tgt := 42) hx hb dX10_bestSpot_36 (by decide) (fun c => ?_) (fun c => ?_)
          · have hD := ifn hD c
            refine lv_aload_n hx hb dX10_bestSpot_42 rfl (lv_at hl 0 rfl) ?_
            refine lv_aload_n hx hb dX10_bestSpot_43 rfl (lv_at hl 0 rfl) ?_
            refine lv_iload hx hb dX10_bestSpot_44 (lv_at hl 4 rfl) ?_
            refine lv_iconst (v := (1 : Int32)) hx hb dX10_bestSpot_46 (by decide) ?_
            obtain ⟨v6, z7, hD⟩ := b1_el hD
            refine rcV  (As := [.int x4, .int (1 : Int32)]) (rest := [.ref (adx 0)]) Fx0 (c_X10_ofSpot l hLx hAd x x4 (1 : Int32) z7) hP (hD1 _ (hAd _ _)) hS (hA1 _ _ (hAd _ _) hS.1) hLx (Nat.le_of_ble_eq_true rfl) (xs0 _ _) rfl tw_8_42 tw_8_39 tw_8_41 ts_121 tw_1_13 yd_X10_ofSpot ⟨(Nat.le_of_ble_eq_true rfl), (Nat.le_of_ble_eq_true rfl)⟩ rfl hl.1 rfl (Nat.le_of_ble_eq_true rfl) dX10_bestSpot_47 (fun H locs hP hS => ?_)
            refine lv_aload_n hx hb dX10_bestSpot_50 rfl (lv_at hl 0 rfl) ?_
            refine lv_iload hx hb dX10_bestSpot_51 (lv_at hl 4 rfl) ?_
            refine lv_iconst (v := (2 : Int32)) hx hb dX10_bestSpot_53 (by decide) ?_
            obtain ⟨v8, z9, hD⟩ := b1_el hD
            refine rcV  (As := [.int x4, .int (2 : Int32)]) (rest := [.int v6, .ref (adx 0)]) Fx0 (c_X10_ofSpot l hLx hAd x x4 (2 : Int32) z9) hP (hD1 _ (hAd _ _)) hS (hA1 _ _ (hAd _ _) hS.1) hLx (Nat.le_of_ble_eq_true rfl) (xs0 _ _) rfl tw_8_42 tw_8_39 tw_8_41 ts_121 tw_1_13 yd_X10_ofSpot ⟨(Nat.le_of_ble_eq_true rfl), (Nat.le_of_ble_eq_true rfl)⟩ rfl hl.1 rfl (Nat.le_of_ble_eq_true rfl) dX10_bestSpot_54 (fun H locs hP hS => ?_)
            obtain ⟨v10, z11, hD⟩ := b1_el hD
            refine rcV  (As := [.int v6, .int v8]) (rest := []) Fx0 (c_X10_wayTo l hLx hAd x v6 v8 z11) hP (hD1 _ (hAd _ _)) hS (hA1 _ _ (hAd _ _) hS.1) hLx (Nat.le_of_ble_eq_true rfl) (xs0 _ _) rfl tw_8_119 tw_8_116 tw_8_118 ts_129 tw_1_13 yd_X10_wayTo ⟨(Nat.le_of_ble_eq_true rfl), (Nat.le_of_ble_eq_true rfl)⟩ rfl hl.1 rfl (Nat.le_of_ble_eq_true rfl) dX10_bestSpot_57 (fun H locs hP hS => ?_)
            refine lv_istore (lv' := [(5, .int v10), (0, .ref (adx 0)), (1, .int x1), (2, .int x2), (3, .int x3), (4, .int x4)]) hx hb dX10_bestSpot_60 hl (by decide) rfl (fun ls hl => ?_)
            refine lv_iload_n hx hb dX10_bestSpot_62 rfl (lv_at hl 3 rfl) ?_
            refine lv_iconst (v := (-1 : Int32)) hx hb dX10_bestSpot_63 (by decide) ?_
            refine lv_icmp_eq (tgt := 76) hx hb dX10_bestSpot_64 (by decide) (fun c => ?_) (fun c => ?_)
            · have hD := ifp hD c
              refine lv_iload hx hb dX10_bestSpot_76 (lv_at hl 5 rfl) ?_
              refine lv_istore_n (lv' := [(2, .int x4), (5, .int v10), (0, .ref (adx 0)), (1, .int x1), (3, .int x3), (4, .int x4)]) hx hb dX10_bestSpot_78 rfl hl (by decide) rfl (fun ls hl => ?_)
              refine lv_iload hx hb dX10_bestSpot_79 (lv_at hl 1 rfl) ?_
              refine lv_istore_n (lv' := [(3, .int v10), (2, .int x4), (5, .int v10), (0, .ref (adx 0)), (1, .int x1), (4, .int x4)]) hx hb dX10_bestSpot_81 rfl hl (by decide) rfl (fun ls hl => ?_)
              obtain ⟨v12, ev12, hD⟩ := bnd_el hD
              refine lv_iinc (v := v12) (lv' := [(4, .int v12), (3, .int v10), (2, .int x4), (5, .int v10), (0, .ref (adx 0)), (1, .int x1)]) hx hb dX10_bestSpot_82 hl (k := 5) rfl (by rw [ev12]; rfl) (by decide) rfl (fun ls hl => ?_)
              refine lv_goto (tgt := 7) hx hb dX10_bestSpot_85 (by decide) ?_
              exact ih _ _ _ _ _ _ _ hD hP hS (lv_sub hl [4, 5, 2, 1, 0] rfl)
            · have hD := ifn hD c
              refine lv_iload hx hb dX10_bestSpot_67 (lv_at hl 0 rfl) ?_
              refine lv_iload_n hx hb dX10_bestSpot_69 rfl (lv_at hl 4 rfl) ?_
              refine lv_icmp_lt (tgt := 76) hx hb dX10_bestSpot_70 (by decide) (fun c => ?_) (fun c => ?_)
              · have hD := ifp hD c
                refine lv_iload hx hb dX10_bestSpot_76 (lv_at hl 5 rfl) ?_
                refine lv_istore_n (lv' := [(2, .int x4), (5, .int v10), (0, .ref (adx 0)), (1, .int x1), (3, .int x3), (4, .int x4)]) hx hb dX10_bestSpot_78 rfl hl (by decide) rfl (fun ls hl => ?_)
                refine lv_iload hx hb dX10_bestSpot_79 (lv_at hl 1 rfl) ?_
                refine lv_istore_n (lv' := [(3, .int v10), (2, .int x4), (5, .int v10), (0, .ref (adx 0)), (1, .int x1), (4, .int x4)]) hx hb dX10_bestSpot_81 rfl hl (by decide) rfl (fun ls hl => ?_)
                obtain ⟨v13, ev13, hD⟩ := bnd_el hD
                refine lv_iinc (v := v13) (lv' := [(4, .int v13), (3, .int v10), (2, .int x4), (5, .int v10), (0, .ref (adx 0)), (1, .int x1)]) hx hb dX10_bestSpot_82 hl (k := 5) rfl (by rw [ev13]; rfl) (by decide) rfl (fun ls hl => ?_)
                refine lv_goto (tgt := 7) hx hb dX10_bestSpot_85 (by decide) ?_
                exact ih _ _ _ _ _ _ _ hD hP hS (lv_sub hl [4, 5, 2, 1, 0] rfl)
              · have hD := ifn hD c
                refine lv_goto (tgt := 82) hx hb dX10_bestSpot_73 (by decide) ?_
                obtain ⟨v14, ev14, hD⟩ := bnd_el hD
                refine lv_iinc (v := v14) (lv' := [(4, .int v14), (5, .int v10), (0, .ref (adx 0)), (1, .int x1), (2, .int x2), (3, .int x3)]) hx hb dX10_bestSpot_82 hl (k := 5) rfl (by rw [ev14]; rfl) (by decide) rfl (fun ls hl => ?_)
                refine lv_goto (tgt := 7) hx hb dX10_bestSpot_85 (by decide) ?_
                exact ih _ _ _ _ _ _ _ hD hP hS (lv_sub hl [2, 3, 4, 5, 0] rfl)
          · have hD := ifp hD c
            refine lv_goto (tgt := 82) hx hb dX10_bestSpot_39 (by decide) ?_
            obtain ⟨v15, ev15, hD⟩ := bnd_el hD
            refine lv_iinc (v := v15) (lv' := [(4, .int v15), (0, .ref (adx 0)), (1, .int x1), (2, .int x2), (3, .int x3)]) hx hb dX10_bestSpot_82 hl (k := 4) rfl (by rw [ev15]; rfl) (by decide) rfl (fun ls hl => ?_)
            refine lv_goto (tgt := 7) hx hb dX10_bestSpot_85 (by decide) ?_
            exact ih _ _ _ _ _ _ _ hD hP hS (lv_sub hl [1, 2, 3, 4, 0] rfl)
  refine lv_iconst (v := (-1 : Int32)) hx hb dX10_bestSpot_0 (by decide) ?_
  refine lv_istore_n (lv' := [(2, .int (-1 : Int32)), (0, .ref (adx 0)), (1, .int x1)]) hx hb dX10_bestSpot_1 rfl hl (by decide) rfl (fun ls hl => ?_)
  refine lv_iconst (v := (0 : Int32)) hx hb dX10_bestSpot_2 (by decide) ?_
  refine lv_istore_n (lv' := [(3, .int (0 : Int32)), (2, .int (-1 : Int32)), (0, .ref (adx 0)), (1, .int x1)]) hx hb dX10_bestSpot_3 rfl hl (by decide) rfl (fun ls hl => ?_)
  refine lv_iconst (v := (0 : Int32)) hx hb dX10_bestSpot_4 (by decide) ?_
  refine lv_istore (lv' := [(4, .int (0 : Int32)), (3, .int (0 : Int32)), (2, .int (-1 : Int32)), (0, .ref (adx 0)), (1, .int x1)]) hx hb dX10_bestSpot_5 hl (by decide) rfl (fun ls hl => ?_)
  exact c_7 FU _ _ _ _ _ _ _ hD hP hS (lv_sub hl [3, 4, 2, 1, 0] rfl)

noncomputable def D_X10_next_104 (x : MM) : Nat → Int32 → Option Int32
  | 0, _ => none
  | n + 1, x1 => if (gi x 1 15) ≤ x1 then (some ((-1 : Int32))) else (b1 (D_X10_ofSpindle x1 (1 : Int32) x) (fun v3 => if v3 = (-1 : Int32) then (bnd (x1 + (1 : Int32)) (fun v9 => D_X10_next_104 x n v9)) else (b1 (D_X10_ofSpindle x1 (1 : Int32) x) (fun v5 => b1 (D_X10_bestSpot v5 x) (fun v7 => if v7 = (-1 : Int32) then (some (((50000 : Int32) + ((100 : Int32) * x1)))) else (some ((((40000 : Int32) + ((100 : Int32) * x1)) + v7))))))))
noncomputable def D_X10_next_57 (x : MM) : Nat → Int32 → Option Int32
  | 0, _ => none
  | n + 1, x1 => if (gi x 1 15) ≤ x1 then (D_X10_next_104 x FU (0 : Int32)) else (b1 (D_X10_ofSpindle x1 (1 : Int32) x) (fun v10 => if v10 = (-1 : Int32) then (bnd (x1 + (1 : Int32)) (fun v12 => D_X10_next_57 x n v12)) else (b1 (D_X10_ofSpindle x1 (2 : Int32) x) (fun v13 => if v13 = 0 then (some (((30000 : Int32) + ((100 : Int32) * x1)))) else (bnd (x1 + (1 : Int32)) (fun v15 => D_X10_next_57 x n v15))))))
noncomputable def D_X10_next_11 (x : MM) : Nat → Int32 → Option Int32
  | 0, _ => none
  | n + 1, x1 => if (gi x 1 15) ≤ x1 then (D_X10_next_57 x FU (0 : Int32)) else (b1 (D_X10_ofSpindle x1 (1 : Int32) x) (fun v16 => if v16 = (-1 : Int32) then (b1 (D_X10_loads x1 x) (fun v19 => if v19 = (-1 : Int32) then (bnd (x1 + (1 : Int32)) (fun v21 => D_X10_next_11 x n v21)) else (some (v19)))) else (bnd (x1 + (1 : Int32)) (fun v18 => D_X10_next_11 x n v18))))
noncomputable def D_X10_next (x : MM) : Option Int32 := b1 (D_X10_halts x) (fun v1 => if v1 = 0 then (D_X10_next_11 x FU (0 : Int32)) else (some ((-1 : Int32))))
set_option maxHeartbeats 4000000 in
set_option maxRecDepth 100000 in
theorem c_X10_next (l : Launch) {D : va_G} {cs : Nat → ClassId} {adx : Nat → Nat} {Wf : MM → va_W} (hLx : Ln 9 adx (xsh cs adx) Wf) (hAd : ∀ a0_ b0_ : MM, (Wf a0_).map (fun q => q.1) = (Wf b0_).map (fun q => q.1)) (x : MM) {rr : Int32} (hD : D_X10_next x = some (rr)) : Ct l yX10_next cX10_next 3 (some .int) 7 154 D cs [.ref (adx 0)] (Wf x) (Wf x) (some (.int rr)) := by
  refine Ct.ofW (by decide) (Nat.le_of_ble_eq_true rfl) rfl ?_
  intro p e s m0 below meth c A Q ls args hx hb hr hml hlocks hown hts hK hP hD1 hSS hS hA1 hl hret
  have hT : ∀ w ∈ TBL, w.before args s = true := fun w h => hts w (List.mem_cons_of_mem _ h)
  have Fx0 : Fx p l m0 c cX10_next 3 s args yX10_next cX10_next 3 (some .int) D cs A := ⟨hx, hb, hml, hown, hts, hK, hSS⟩
  have hown : s.vm.findClass RX10 = some m0.cls := hown
  have hl : lv_has ls 3 [(0, .ref (adx 0))] := hl
  unfold D_X10_next at hD
  have c_104 : ∀ (n : Nat), ∀ (x1 : Int32) (H : Heap) (locs : List Loc) (ls : Array Slot), D_X10_next_104 x n x1 = some (rr) → va_P D vwCl (Wf x) H → va_S A s.heap H locs → lv_has ls 3 [(0, .ref (adx 0)), (1, .int x1)] → W p l e ({ frames := 7, cells := 0, slots := 0, locals := 154 } : Room) s m0 args below meth c H locs 0 0 Q (F0 m0 104 ls []) := by
    intro n
    induction n with
    | zero =>
      intro x1 H locs ls hD hP hS hl
      exact nn_el hD
    | succ n ih =>
      intro x1 H locs ls hD hP hS hl
      rw [D_X10_next_104] at hD
      refine lv_iload_n hx hb dX10_next_104 rfl (lv_at hl 1 rfl) ?_
      refine lv_aload_n hx hb dX10_next_105 rfl (lv_at hl 0 rfl) ?_
      refine rg  hx hb hT hu10 hown hK hP hLx 0 0 (Nat.le_of_ble_eq_true rfl) (xs0 _ _) rfl (Nat.le_of_ble_eq_true rfl) (Fx0.T tw_6_215) rfl (v := .ref (adx 1)) rfl dX10_next_106 ?_
      refine lv_bipush (v := (15 : Int32)) hx hb dX10_next_109 (by decide) ?_
      refine riald  hx hb hK hP hLx 1 (Nat.le_of_ble_eq_true rfl) (xs1 _ _) (by decide) (j := 15) (by decide) dX10_next_111 ?_
      refine lv_icmp_ge (tgt := 172) hx hb dX10_next_112 (by decide) (fun c => ?_) (fun c => ?_)
      · have hD := ifp hD c
        refine lv_iconst (v := (-1 : Int32)) hx hb dX10_next_172 (by decide) ?_
        obtain rfl := es1 hD
        exact hret _ _ _ hP hS (fun Qc hq => W.iret hx hb hr hq hS.2.2 dX10_next_173 hlocks)
      · have hD := ifn hD c
        refine lv_aload_n hx hb dX10_next_115 rfl (lv_at hl 0 rfl) ?_
        refine lv_iload_n hx hb dX10_next_116 rfl (lv_at hl 1 rfl) ?_
        refine lv_iconst (v := (1 : Int32)) hx hb dX10_next_117 (by decide) ?_
        obtain ⟨v3, z4, hD⟩ := b1_el hD
        refine rcV  (As := [.int x1, .int (1 : Int32)]) (rest := []) Fx0 (c_X10_ofSpindle l hLx hAd x x1 (1 : Int32) z4) hP (hD1 _ (hAd _ _)) hS (hA1 _ _ (hAd _ _) hS.1) hLx (Nat.le_of_ble_eq_true rfl) (xs0 _ _) rfl tw_7_190 tw_7_187 tw_7_189 ts_108 tw_1_13 yd_X10_ofSpindle ⟨(Nat.le_of_ble_eq_true rfl), (Nat.le_of_ble_eq_true rfl)⟩ rfl hl.1 rfl (Nat.le_of_ble_eq_true rfl) dX10_next_118 (fun H locs hP hS => ?_)
        refine lv_iconst (v := (-1 : Int32)) hx hb dX10_next_121 (by decide) ?_
        refine lv_icmp_ne (tgt := 128) hx hb dX10_next_122 (by decide) (fun c => ?_) (fun c => ?_)
        · have hD := ifn hD c
          refine lv_aload_n hx hb dX10_next_128 rfl (lv_at hl 0 rfl) ?_
          refine lv_aload_n hx hb dX10_next_129 rfl (lv_at hl 0 rfl) ?_
          refine lv_iload_n hx hb dX10_next_130 rfl (lv_at hl 1 rfl) ?_
          refine lv_iconst (v := (1 : Int32)) hx hb dX10_next_131 (by decide) ?_
          obtain ⟨v5, z6, hD⟩ := b1_el hD
          refine rcV  (As := [.int x1, .int (1 : Int32)]) (rest := [.ref (adx 0)]) Fx0 (c_X10_ofSpindle l hLx hAd x x1 (1 : Int32) z6) hP (hD1 _ (hAd _ _)) hS (hA1 _ _ (hAd _ _) hS.1) hLx (Nat.le_of_ble_eq_true rfl) (xs0 _ _) rfl tw_7_190 tw_7_187 tw_7_189 ts_108 tw_1_13 yd_X10_ofSpindle ⟨(Nat.le_of_ble_eq_true rfl), (Nat.le_of_ble_eq_true rfl)⟩ rfl hl.1 rfl (Nat.le_of_ble_eq_true rfl) dX10_next_132 (fun H locs hP hS => ?_)
          obtain ⟨v7, z8, hD⟩ := b1_el hD
          refine rcV  (As := [.int v5]) (rest := []) Fx0 (c_X10_bestSpot l hLx hAd x v5 z8) hP (hD1 _ (hAd _ _)) hS (hA1 _ _ (hAd _ _) hS.1) hLx (Nat.le_of_ble_eq_true rfl) (xs0 _ _) rfl tw_8_224 tw_8_221 tw_8_223 ts_148 tw_1_13 yd_X10_bestSpot ⟨(Nat.le_of_ble_eq_true rfl), (Nat.le_of_ble_eq_true rfl)⟩ rfl hl.1 rfl (Nat.le_of_ble_eq_true rfl) dX10_next_135 (fun H locs hP hS => ?_)
          refine lv_istore_n (lv' := [(2, .int v7), (0, .ref (adx 0)), (1, .int x1)]) hx hb dX10_next_138 rfl hl (by decide) rfl (fun ls hl => ?_)
          refine lv_iload_n hx hb dX10_next_139 rfl (lv_at hl 0 rfl) ?_
          refine lv_iconst (v := (-1 : Int32)) hx hb dX10_next_140 (by decide) ?_
          refine lv_icmp_ne (tgt := 155) hx hb dX10_next_141 (by decide) (fun c => ?_) (fun c => ?_)
          · have hD := ifn hD c
            refine lv_ldcw (v := (40000 : Int32)) hx hb hown (Fx0.T tw_8_226) dX10_next_155 ?_
            refine lv_bipush (v := (100 : Int32)) hx hb dX10_next_158 (by decide) ?_
            refine lv_iload_n hx hb dX10_next_160 rfl (lv_at hl 2 rfl) ?_
            refine lv_imul hx hb dX10_next_161 ?_
            refine lv_iadd hx hb dX10_next_162 ?_
            refine lv_iload_n hx hb dX10_next_163 rfl (lv_at hl 0 rfl) ?_
            refine lv_iadd hx hb dX10_next_164 ?_
            obtain rfl := es1 hD
            exact hret _ _ _ hP hS (fun Qc hq => W.iret hx hb hr hq hS.2.2 dX10_next_165 hlocks)
          · have hD := ifp hD c
            refine lv_ldcw (v := (50000 : Int32)) hx hb hown (Fx0.T tw_8_225) dX10_next_144 ?_
            refine lv_bipush (v := (100 : Int32)) hx hb dX10_next_147 (by decide) ?_
            refine lv_iload_n hx hb dX10_next_149 rfl (lv_at hl 2 rfl) ?_
            refine lv_imul hx hb dX10_next_150 ?_
            refine lv_iadd hx hb dX10_next_151 ?_
            refine lv_goto (tgt := 165) hx hb dX10_next_152 (by decide) ?_
            obtain rfl := es1 hD
            exact hret _ _ _ hP hS (fun Qc hq => W.iret hx hb hr hq hS.2.2 dX10_next_165 hlocks)
        · have hD := ifp hD c
          refine lv_goto (tgt := 166) hx hb dX10_next_125 (by decide) ?_
          obtain ⟨v9, ev9, hD⟩ := bnd_el hD
          refine lv_iinc (v := v9) (lv' := [(1, .int v9), (0, .ref (adx 0))]) hx hb dX10_next_166 hl (k := 1) rfl (by rw [ev9]; rfl) (by decide) rfl (fun ls hl => ?_)
          refine lv_goto (tgt := 104) hx hb dX10_next_169 (by decide) ?_
          exact ih _ _ _ _ hD hP hS (lv_sub hl [1, 0] rfl)
  have c_57 : ∀ (n : Nat), ∀ (x1 : Int32) (H : Heap) (locs : List Loc) (ls : Array Slot), D_X10_next_57 x n x1 = some (rr) → va_P D vwCl (Wf x) H → va_S A s.heap H locs → lv_has ls 3 [(0, .ref (adx 0)), (1, .int x1)] → W p l e ({ frames := 7, cells := 0, slots := 0, locals := 154 } : Room) s m0 args below meth c H locs 0 0 Q (F0 m0 57 ls []) := by
    intro n
    induction n with
    | zero =>
      intro x1 H locs ls hD hP hS hl
      exact nn_el hD
    | succ n ih =>
      intro x1 H locs ls hD hP hS hl
      rw [D_X10_next_57] at hD
      refine lv_iload_n hx hb dX10_next_57 rfl (lv_at hl 1 rfl) ?_
      refine lv_aload_n hx hb dX10_next_58 rfl (lv_at hl 0 rfl) ?_
      refine rg  hx hb hT hu10 hown hK hP hLx 0 0 (Nat.le_of_ble_eq_true rfl) (xs0 _ _) rfl (Nat.le_of_ble_eq_true rfl) (Fx0.T tw_6_215) rfl (v := .ref (adx 1)) rfl dX10_next_59 ?_
      refine lv_bipush (v := (15 : Int32)) hx hb dX10_next_62 (by decide) ?_
      refine riald  hx hb hK hP hLx 1 (Nat.le_of_ble_eq_true rfl) (xs1 _ _) (by decide) (j := 15) (by decide) dX10_next_64 ?_
      refine lv_icmp_ge (tgt := 102) hx hb dX10_next_65 (by decide) (fun c => ?_) (fun c => ?_)
      · have hD := ifp hD c
        refine lv_iconst (v := (0 : Int32)) hx hb dX10_next_102 (by decide) ?_
        refine lv_istore_n (lv' := [(1, .int (0 : Int32)), (0, .ref (adx 0))]) hx hb dX10_next_103 rfl hl (by decide) rfl (fun ls hl => ?_)
        exact c_104 FU _ _ _ _ hD hP hS (lv_sub hl [1, 0] rfl)
      · have hD := ifn hD c
        refine lv_aload_n hx hb dX10_next_68 rfl (lv_at hl 0 rfl) ?_
        refine lv_iload_n hx hb dX10_next_69 rfl (lv_at hl 1 rfl) ?_
        refine lv_iconst (v := (1 : Int32)) hx hb dX10_next_70 (by decide) ?_
        obtain ⟨v10, z11, hD⟩ := b1_el hD
        refine rcV  (As := [.int x1, .int (1 : Int32)]) (rest := []) Fx0 (c_X10_ofSpindle l hLx hAd x x1 (1 : Int32) z11) hP (hD1 _ (hAd _ _)) hS (hA1 _ _ (hAd _ _) hS.1) hLx (Nat.le_of_ble_eq_true rfl) (xs0 _ _) rfl tw_7_190 tw_7_187 tw_7_189 ts_108 tw_1_13 yd_X10_ofSpindle ⟨(Nat.le_of_ble_eq_true rfl), (Nat.le_of_ble_eq_true rfl)⟩ rfl hl.1 rfl (Nat.le_of_ble_eq_true rfl) dX10_next_71 (fun H locs hP hS => ?_)
        refine lv_iconst (v := (-1 : Int32)) hx hb dX10_next_74 (by decide) ?_
        refine lv_icmp_eq (tgt := 96) hx hb dX10_next_75 (by decide) (fun c => ?_) (fun c => ?_)
        · have hD := ifp hD c
          obtain ⟨v12, ev12, hD⟩ := bnd_el hD
          refine lv_iinc (v := v12) (lv' := [(1, .int v12), (0, .ref (adx 0))]) hx hb dX10_next_96 hl (k := 1) rfl (by rw [ev12]; rfl) (by decide) rfl (fun ls hl => ?_)
          refine lv_goto (tgt := 57) hx hb dX10_next_99 (by decide) ?_
          exact ih _ _ _ _ hD hP hS (lv_sub hl [1, 0] rfl)
        · have hD := ifn hD c
          refine lv_aload_n hx hb dX10_next_78 rfl (lv_at hl 0 rfl) ?_
          refine lv_iload_n hx hb dX10_next_79 rfl (lv_at hl 1 rfl) ?_
          refine lv_iconst (v := (2 : Int32)) hx hb dX10_next_80 (by decide) ?_
          obtain ⟨v13, z14, hD⟩ := b1_el hD
          refine rcV  (As := [.int x1, .int (2 : Int32)]) (rest := []) Fx0 (c_X10_ofSpindle l hLx hAd x x1 (2 : Int32) z14) hP (hD1 _ (hAd _ _)) hS (hA1 _ _ (hAd _ _) hS.1) hLx (Nat.le_of_ble_eq_true rfl) (xs0 _ _) rfl tw_7_190 tw_7_187 tw_7_189 ts_108 tw_1_13 yd_X10_ofSpindle ⟨(Nat.le_of_ble_eq_true rfl), (Nat.le_of_ble_eq_true rfl)⟩ rfl hl.1 rfl (Nat.le_of_ble_eq_true rfl) dX10_next_81 (fun H locs hP hS => ?_)
          refine lv_if_ne (tgt := 96) hx hb dX10_next_84 (by decide) (fun c => ?_) (fun c => ?_)
          · have hD := ifn hD c
            obtain ⟨v15, ev15, hD⟩ := bnd_el hD
            refine lv_iinc (v := v15) (lv' := [(1, .int v15), (0, .ref (adx 0))]) hx hb dX10_next_96 hl (k := 1) rfl (by rw [ev15]; rfl) (by decide) rfl (fun ls hl => ?_)
            refine lv_goto (tgt := 57) hx hb dX10_next_99 (by decide) ?_
            exact ih _ _ _ _ hD hP hS (lv_sub hl [1, 0] rfl)
          · have hD := ifp hD c
            refine lv_sipush (v := (30000 : Int32)) hx hb dX10_next_87 (by decide) ?_
            refine lv_bipush (v := (100 : Int32)) hx hb dX10_next_90 (by decide) ?_
            refine lv_iload_n hx hb dX10_next_92 rfl (lv_at hl 1 rfl) ?_
            refine lv_imul hx hb dX10_next_93 ?_
            refine lv_iadd hx hb dX10_next_94 ?_
            obtain rfl := es1 hD
            exact hret _ _ _ hP hS (fun Qc hq => W.iret hx hb hr hq hS.2.2 dX10_next_95 hlocks)
  have c_11 : ∀ (n : Nat), ∀ (x1 : Int32) (H : Heap) (locs : List Loc) (ls : Array Slot), D_X10_next_11 x n x1 = some (rr) → va_P D vwCl (Wf x) H → va_S A s.heap H locs → lv_has ls 3 [(0, .ref (adx 0)), (1, .int x1)] → W p l e ({ frames := 7, cells := 0, slots := 0, locals := 154 } : Room) s m0 args below meth c H locs 0 0 Q (F0 m0 11 ls []) := by
    intro n
    induction n with
    | zero =>
      intro x1 H locs ls hD hP hS hl
      exact nn_el hD
    | succ n ih =>
      intro x1 H locs ls hD hP hS hl
      rw [D_X10_next_11] at hD
      refine lv_iload_n hx hb dX10_next_11 rfl (lv_at hl 1 rfl) ?_
      refine lv_aload_n hx hb dX10_next_12 rfl (lv_at hl 0 rfl) ?_
      refine rg  hx hb hT hu10 hown hK hP hLx 0 0 (Nat.le_of_ble_eq_true rfl) (xs0 _ _) rfl (Nat.le_of_ble_eq_true rfl) (Fx0.T tw_6_215) rfl (v := .ref (adx 1)) rfl dX10_next_13 ?_
      refine lv_bipush (v := (15 : Int32)) hx hb dX10_next_16 (by decide) ?_
      refine riald  hx hb hK hP hLx 1 (Nat.le_of_ble_eq_true rfl) (xs1 _ _) (by decide) (j := 15) (by decide) dX10_next_18 ?_
      refine lv_icmp_ge (tgt := 55) hx hb dX10_next_19 (by decide) (fun c => ?_) (fun c => ?_)
      · have hD := ifp hD c
        refine lv_iconst (v := (0 : Int32)) hx hb dX10_next_55 (by decide) ?_
        refine lv_istore_n (lv' := [(1, .int (0 : Int32)), (0, .ref (adx 0))]) hx hb dX10_next_56 rfl hl (by decide) rfl (fun ls hl => ?_)
        exact c_57 FU _ _ _ _ hD hP hS (lv_sub hl [1, 0] rfl)
      · have hD := ifn hD c
        refine lv_aload_n hx hb dX10_next_22 rfl (lv_at hl 0 rfl) ?_
        refine lv_iload_n hx hb dX10_next_23 rfl (lv_at hl 1 rfl) ?_
        refine lv_iconst (v := (1 : Int32)) hx hb dX10_next_24 (by decide) ?_
        obtain ⟨v16, z17, hD⟩ := b1_el hD
        refine rcV  (As := [.int x1, .int (1 : Int32)]) (rest := []) Fx0 (c_X10_ofSpindle l hLx hAd x x1 (1 : Int32) z17) hP (hD1 _ (hAd _ _)) hS (hA1 _ _ (hAd _ _) hS.1) hLx (Nat.le_of_ble_eq_true rfl) (xs0 _ _) rfl tw_7_190 tw_7_187 tw_7_189 ts_108 tw_1_13 yd_X10_ofSpindle ⟨(Nat.le_of_ble_eq_true rfl), (Nat.le_of_ble_eq_true rfl)⟩ rfl hl.1 rfl (Nat.le_of_ble_eq_true rfl) dX10_next_25 (fun H locs hP hS => ?_)
        refine lv_iconst (v := (-1 : Int32)) hx hb dX10_next_28 (by decide) ?_
        refine lv_icmp_ne (tgt := 40) hx hb dX10_next_29 (by decide) (fun c => ?_) (fun c => ?_)
        · have hD := ifn hD c
          refine lv_iconst (v := (-1 : Int32)) hx hb dX10_next_40 (by decide) ?_
          refine lv_istore_n (lv' := [(2, .int (-1 : Int32)), (0, .ref (adx 0)), (1, .int x1)]) hx hb dX10_next_41 rfl hl (by decide) rfl (fun ls hl => ?_)
          refine lv_iload_n hx hb dX10_next_42 rfl (lv_at hl 0 rfl) ?_
          refine lv_iconst (v := (-1 : Int32)) hx hb dX10_next_43 (by decide) ?_
          refine lv_icmp_eq (tgt := 49) hx hb dX10_next_44 (by decide) (fun _ => ?_) (fun c => absurd c (by decide))
          obtain ⟨v18, ev18, hD⟩ := bnd_el hD
          refine lv_iinc (v := v18) (lv' := [(1, .int v18), (2, .int (-1 : Int32)), (0, .ref (adx 0))]) hx hb dX10_next_49 hl (k := 2) rfl (by rw [ev18]; rfl) (by decide) rfl (fun ls hl => ?_)
          refine lv_goto (tgt := 11) hx hb dX10_next_52 (by decide) ?_
          exact ih _ _ _ _ hD hP hS (lv_sub hl [2, 0] rfl)
        · have hD := ifp hD c
          refine lv_aload_n hx hb dX10_next_32 rfl (lv_at hl 0 rfl) ?_
          refine lv_iload_n hx hb dX10_next_33 rfl (lv_at hl 1 rfl) ?_
          obtain ⟨v19, z20, hD⟩ := b1_el hD
          refine rcV  (As := [.int x1]) (rest := []) Fx0 (c_X10_loads l hLx hAd x x1 z20) hP (hD1 _ (hAd _ _)) hS (hA1 _ _ (hAd _ _) hS.1) hLx (Nat.le_of_ble_eq_true rfl) (xs0 _ _) rfl tw_8_207 tw_8_204 tw_8_206 ts_144 tw_1_13 yd_X10_loads ⟨(Nat.le_of_ble_eq_true rfl), (Nat.le_of_ble_eq_true rfl)⟩ rfl hl.1 rfl (Nat.le_of_ble_eq_true rfl) dX10_next_34 (fun H locs hP hS => ?_)
          refine lv_goto (tgt := 41) hx hb dX10_next_37 (by decide) ?_
          refine lv_istore_n (lv' := [(2, .int v19), (0, .ref (adx 0)), (1, .int x1)]) hx hb dX10_next_41 rfl hl (by decide) rfl (fun ls hl => ?_)
          refine lv_iload_n hx hb dX10_next_42 rfl (lv_at hl 0 rfl) ?_
          refine lv_iconst (v := (-1 : Int32)) hx hb dX10_next_43 (by decide) ?_
          refine lv_icmp_eq (tgt := 49) hx hb dX10_next_44 (by decide) (fun c => ?_) (fun c => ?_)
          · have hD := ifp hD c
            obtain ⟨v21, ev21, hD⟩ := bnd_el hD
            refine lv_iinc (v := v21) (lv' := [(1, .int v21), (2, .int v19), (0, .ref (adx 0))]) hx hb dX10_next_49 hl (k := 2) rfl (by rw [ev21]; rfl) (by decide) rfl (fun ls hl => ?_)
            refine lv_goto (tgt := 11) hx hb dX10_next_52 (by decide) ?_
            exact ih _ _ _ _ hD hP hS (lv_sub hl [2, 0] rfl)
          · have hD := ifn hD c
            refine lv_iload_n hx hb dX10_next_47 rfl (lv_at hl 0 rfl) ?_
            obtain rfl := es1 hD
            exact hret _ _ _ hP hS (fun Qc hq => W.iret hx hb hr hq hS.2.2 dX10_next_48 hlocks)
  refine lv_aload_n hx hb dX10_next_0 rfl (lv_at hl 0 rfl) ?_
  obtain ⟨v1, z2, hD⟩ := b1_el hD
  refine rcV  (As := []) (rest := []) Fx0 (c_X10_halts l hLx hAd x z2) hP (hD1 _ (hAd _ _)) hS (hA1 _ _ (hAd _ _) hS.1) hLx (Nat.le_of_ble_eq_true rfl) (xs0 _ _) rfl tw_8_203 tw_8_200 tw_8_202 ts_143 tw_1_13 yd_X10_halts ⟨(Nat.le_of_ble_eq_true rfl), (Nat.le_of_ble_eq_true rfl)⟩ rfl hl.1 rfl (Nat.le_of_ble_eq_true rfl) dX10_next_1 (fun H locs hP hS => ?_)
  refine lv_if_eq (tgt := 9) hx hb dX10_next_4 (by decide) (fun c => ?_) (fun c => ?_)
  · have hD := ifp hD c
    refine lv_iconst (v := (0 : Int32)) hx hb dX10_next_9 (by decide) ?_
    refine lv_istore_n (lv' := [(1, .int (0 : Int32)), (0, .ref (adx 0))]) hx hb dX10_next_10 rfl hl (by decide) rfl (fun ls hl => ?_)
    exact c_11 FU _ _ _ _ hD hP hS (lv_sub hl [1, 0] rfl)
  · have hD := ifn hD c
    refine lv_iconst (v := (-1 : Int32)) hx hb dX10_next_7 (by decide) ?_
    obtain rfl := es1 hD
    exact hret _ _ _ hP hS (fun Qc hq => W.iret hx hb hr hq hS.2.2 dX10_next_8 hlocks)

noncomputable def D_X10_does (x1 : Int32) (x : MM) : Option (Int32 × MM) := bnd (((x1 / (100 : Int32)) - (x1 / (100 : Int32)) / (100 : Int32) * (100 : Int32))) (fun v1 => bnd ((x1 - x1 / (100 : Int32) * (100 : Int32))) (fun v2 => if (x1 / (10000 : Int32)) = (1 : Int32) then (b2 (D_X10_changes v1 v2 x) (fun v3 m4 => some (v3, m4))) else (if (x1 / (10000 : Int32)) = (2 : Int32) then (b2 (D_X10_picks v1 v2 x) (fun v6 m7 => some (v6, m7))) else (if (x1 / (10000 : Int32)) = (3 : Int32) then (b2 (D_X10_looks v1 x) (fun v9 m10 => some (v9, m10))) else (if (x1 / (10000 : Int32)) = (4 : Int32) then (b2 (D_X10_places v1 v2 x) (fun v12 m13 => some (v12, m13))) else (if (x1 / (10000 : Int32)) = (5 : Int32) then (b2 (D_X10_discards v1 x) (fun v15 m16 => some (v15, m16))) else (if (x1 / (10000 : Int32)) = (6 : Int32) then (b2 (D_X10_cleans v1 x) (fun v18 m19 => some (v18, m19))) else (b2 (D_X10_discards v1 x) (fun v21 m22 => some (v21, m22))))))))))
set_option maxHeartbeats 4000000 in
set_option maxRecDepth 100000 in
theorem c_X10_does (l : Launch) {D : va_G} {cs : Nat → ClassId} {adx : Nat → Nat} {Wf : MM → va_W} (hLx : Ln 9 adx (xsh cs adx) Wf) (hAd : ∀ a0_ b0_ : MM, (Wf a0_).map (fun q => q.1) = (Wf b0_).map (fun q => q.1)) (x : MM) (x1 : Int32) {rr : Int32} {x' : MM} (hD : D_X10_does x1 x = some (rr, x')) : Ct l yX10_does cX10_does 4 (some .int) 4 95 D cs [.ref (adx 0), .int x1] (Wf x) (Wf x') (some (.int rr)) := by
  refine Ct.ofW (by decide) (Nat.le_of_ble_eq_true rfl) (hAd _ _) ?_
  intro p e s m0 below meth c A Q ls args hx hb hr hml hlocks hown hts hK hP hD1 hSS hS hA1 hl hret
  have hT : ∀ w ∈ TBL, w.before args s = true := fun w h => hts w (List.mem_cons_of_mem _ h)
  have Fx0 : Fx p l m0 c cX10_does 4 s args yX10_does cX10_does 4 (some .int) D cs A := ⟨hx, hb, hml, hown, hts, hK, hSS⟩
  have hown : s.vm.findClass RX10 = some m0.cls := hown
  have hl : lv_has ls 4 [(0, .ref (adx 0)), (1, .int x1)] := hl
  unfold D_X10_does at hD
  refine lv_iload_n hx hb dX10_does_0 rfl (lv_at hl 1 rfl) ?_
  refine lv_bipush (v := (100 : Int32)) hx hb dX10_does_1 (by decide) ?_
  refine lv_idiv hx hb dX10_does_3 (by decide) ?_
  refine lv_bipush (v := (100 : Int32)) hx hb dX10_does_4 (by decide) ?_
  refine lv_irem hx hb dX10_does_6 (by decide) ?_
  obtain ⟨v1, ev1, hD⟩ := bnd_el hD
  refine lv_nmi ev1 ?_
  refine lv_istore_n (lv' := [(2, .int v1), (0, .ref (adx 0)), (1, .int x1)]) hx hb dX10_does_7 rfl hl (by decide) rfl (fun ls hl => ?_)
  refine lv_iload_n hx hb dX10_does_8 rfl (lv_at hl 2 rfl) ?_
  refine lv_bipush (v := (100 : Int32)) hx hb dX10_does_9 (by decide) ?_
  refine lv_irem hx hb dX10_does_11 (by decide) ?_
  obtain ⟨v2, ev2, hD⟩ := bnd_el hD
  refine lv_nmi ev2 ?_
  refine lv_istore_n (lv' := [(3, .int v2), (2, .int v1), (0, .ref (adx 0)), (1, .int x1)]) hx hb dX10_does_12 rfl hl (by decide) rfl (fun ls hl => ?_)
  refine lv_iload_n hx hb dX10_does_13 rfl (lv_at hl 3 rfl) ?_
  refine lv_sipush (v := (10000 : Int32)) hx hb dX10_does_14 (by decide) ?_
  refine lv_idiv hx hb dX10_does_17 (by decide) ?_
  by_cases sw18_1 : (x1 / (10000 : Int32)) = (1 : Int32)
  · have hD := ifp hD sw18_1
    refine lv_tableIn (off := 38) (tgt := 56) hx hb dX10_does_18 (by rw [sw18_1]; decide) (by rw [sw18_1]; decide) (by rw [sw18_1]; rfl) (by decide) ?_
    refine lv_aload_n hx hb dX10_does_56 rfl (lv_at hl 2 rfl) ?_
    refine lv_iload_n hx hb dX10_does_57 rfl (lv_at hl 1 rfl) ?_
    refine lv_iload_n hx hb dX10_does_58 rfl (lv_at hl 0 rfl) ?_
    obtain ⟨v3, m4, z5, hD⟩ := b2_el hD
    refine rcV  (As := [.int v1, .int v2]) (rest := []) Fx0 (c_X10_changes l hLx hAd x v1 v2 z5) hP (hD1 _ (hAd _ _)) hS (hA1 _ _ (hAd _ _) hS.1) hLx (Nat.le_of_ble_eq_true rfl) (xs0 _ _) rfl tw_8_111 tw_8_108 tw_8_110 ts_127 tw_1_13 yd_X10_changes ⟨(Nat.le_of_ble_eq_true rfl), (Nat.le_of_ble_eq_true rfl)⟩ rfl hl.1 rfl (Nat.le_of_ble_eq_true rfl) dX10_does_59 (fun H locs hP hS => ?_)
    obtain ⟨rfl, rfl⟩ := es2 hD
    exact hret _ _ _ hP hS (fun Qc hq => W.iret hx hb hr hq hS.2.2 dX10_does_62 hlocks)
  · have hD := ifn hD sw18_1
    by_cases sw18_2 : (x1 / (10000 : Int32)) = (2 : Int32)
    · have hD := ifp hD sw18_2
      refine lv_tableIn (off := 45) (tgt := 63) hx hb dX10_does_18 (by rw [sw18_2]; decide) (by rw [sw18_2]; decide) (by rw [sw18_2]; rfl) (by decide) ?_
      refine lv_aload_n hx hb dX10_does_63 rfl (lv_at hl 2 rfl) ?_
      refine lv_iload_n hx hb dX10_does_64 rfl (lv_at hl 1 rfl) ?_
      refine lv_iload_n hx hb dX10_does_65 rfl (lv_at hl 0 rfl) ?_
      obtain ⟨v6, m7, z8, hD⟩ := b2_el hD
      refine rcV  (As := [.int v1, .int v2]) (rest := []) Fx0 (c_X10_picks l hLx hAd x v1 v2 z8) hP (hD1 _ (hAd _ _)) hS (hA1 _ _ (hAd _ _) hS.1) hLx (Nat.le_of_ble_eq_true rfl) (xs0 _ _) rfl tw_8_135 tw_8_132 tw_8_134 ts_132 tw_1_13 yd_X10_picks ⟨(Nat.le_of_ble_eq_true rfl), (Nat.le_of_ble_eq_true rfl)⟩ rfl hl.1 rfl (Nat.le_of_ble_eq_true rfl) dX10_does_66 (fun H locs hP hS => ?_)
      obtain ⟨rfl, rfl⟩ := es2 hD
      exact hret _ _ _ hP hS (fun Qc hq => W.iret hx hb hr hq hS.2.2 dX10_does_69 hlocks)
    · have hD := ifn hD sw18_2
      by_cases sw18_3 : (x1 / (10000 : Int32)) = (3 : Int32)
      · have hD := ifp hD sw18_3
        refine lv_tableIn (off := 52) (tgt := 70) hx hb dX10_does_18 (by rw [sw18_3]; decide) (by rw [sw18_3]; decide) (by rw [sw18_3]; rfl) (by decide) ?_
        refine lv_aload_n hx hb dX10_does_70 rfl (lv_at hl 2 rfl) ?_
        refine lv_iload_n hx hb dX10_does_71 rfl (lv_at hl 1 rfl) ?_
        obtain ⟨v9, m10, z11, hD⟩ := b2_el hD
        refine rcV  (As := [.int v1]) (rest := []) Fx0 (c_X10_looks l hLx hAd x v1 z11) hP (hD1 _ (hAd _ _)) hS (hA1 _ _ (hAd _ _) hS.1) hLx (Nat.le_of_ble_eq_true rfl) (xs0 _ _) rfl tw_8_159 tw_8_156 tw_8_158 ts_136 tw_1_13 yd_X10_looks ⟨(Nat.le_of_ble_eq_true rfl), (Nat.le_of_ble_eq_true rfl)⟩ rfl hl.1 rfl (Nat.le_of_ble_eq_true rfl) dX10_does_72 (fun H locs hP hS => ?_)
        obtain ⟨rfl, rfl⟩ := es2 hD
        exact hret _ _ _ hP hS (fun Qc hq => W.iret hx hb hr hq hS.2.2 dX10_does_75 hlocks)
      · have hD := ifn hD sw18_3
        by_cases sw18_4 : (x1 / (10000 : Int32)) = (4 : Int32)
        · have hD := ifp hD sw18_4
          refine lv_tableIn (off := 58) (tgt := 76) hx hb dX10_does_18 (by rw [sw18_4]; decide) (by rw [sw18_4]; decide) (by rw [sw18_4]; rfl) (by decide) ?_
          refine lv_aload_n hx hb dX10_does_76 rfl (lv_at hl 2 rfl) ?_
          refine lv_iload_n hx hb dX10_does_77 rfl (lv_at hl 1 rfl) ?_
          refine lv_iload_n hx hb dX10_does_78 rfl (lv_at hl 0 rfl) ?_
          obtain ⟨v12, m13, z14, hD⟩ := b2_el hD
          refine rcV  (As := [.int v1, .int v2]) (rest := []) Fx0 (c_X10_places l hLx hAd x v1 v2 z14) hP (hD1 _ (hAd _ _)) hS (hA1 _ _ (hAd _ _) hS.1) hLx (Nat.le_of_ble_eq_true rfl) (xs0 _ _) rfl tw_8_175 tw_8_172 tw_8_174 ts_139 tw_1_13 yd_X10_places ⟨(Nat.le_of_ble_eq_true rfl), (Nat.le_of_ble_eq_true rfl)⟩ rfl hl.1 rfl (Nat.le_of_ble_eq_true rfl) dX10_does_79 (fun H locs hP hS => ?_)
          obtain ⟨rfl, rfl⟩ := es2 hD
          exact hret _ _ _ hP hS (fun Qc hq => W.iret hx hb hr hq hS.2.2 dX10_does_82 hlocks)
        · have hD := ifn hD sw18_4
          by_cases sw18_5 : (x1 / (10000 : Int32)) = (5 : Int32)
          · have hD := ifp hD sw18_5
            refine lv_tableIn (off := 71) (tgt := 89) hx hb dX10_does_18 (by rw [sw18_5]; decide) (by rw [sw18_5]; decide) (by rw [sw18_5]; rfl) (by decide) ?_
            refine lv_aload_n hx hb dX10_does_89 rfl (lv_at hl 2 rfl) ?_
            refine lv_iload_n hx hb dX10_does_90 rfl (lv_at hl 1 rfl) ?_
            obtain ⟨v15, m16, z17, hD⟩ := b2_el hD
            refine rcV  (As := [.int v1]) (rest := []) Fx0 (c_X10_discards l hLx hAd x v1 z17) hP (hD1 _ (hAd _ _)) hS (hA1 _ _ (hAd _ _) hS.1) hLx (Nat.le_of_ble_eq_true rfl) (xs0 _ _) rfl tw_8_183 tw_8_180 tw_8_182 ts_140 tw_1_13 yd_X10_discards ⟨(Nat.le_of_ble_eq_true rfl), (Nat.le_of_ble_eq_true rfl)⟩ rfl hl.1 rfl (Nat.le_of_ble_eq_true rfl) dX10_does_91 (fun H locs hP hS => ?_)
            obtain ⟨rfl, rfl⟩ := es2 hD
            exact hret _ _ _ hP hS (fun Qc hq => W.iret hx hb hr hq hS.2.2 dX10_does_94 hlocks)
          · have hD := ifn hD sw18_5
            by_cases sw18_6 : (x1 / (10000 : Int32)) = (6 : Int32)
            · have hD := ifp hD sw18_6
              refine lv_tableIn (off := 65) (tgt := 83) hx hb dX10_does_18 (by rw [sw18_6]; decide) (by rw [sw18_6]; decide) (by rw [sw18_6]; rfl) (by decide) ?_
              refine lv_aload_n hx hb dX10_does_83 rfl (lv_at hl 2 rfl) ?_
              refine lv_iload_n hx hb dX10_does_84 rfl (lv_at hl 1 rfl) ?_
              obtain ⟨v18, m19, z20, hD⟩ := b2_el hD
              refine rcV  (As := [.int v1]) (rest := []) Fx0 (c_X10_cleans l hLx hAd x v1 z20) hP (hD1 _ (hAd _ _)) hS (hA1 _ _ (hAd _ _) hS.1) hLx (Nat.le_of_ble_eq_true rfl) (xs0 _ _) rfl tw_8_191 tw_8_188 tw_8_190 ts_141 tw_1_13 yd_X10_cleans ⟨(Nat.le_of_ble_eq_true rfl), (Nat.le_of_ble_eq_true rfl)⟩ rfl hl.1 rfl (Nat.le_of_ble_eq_true rfl) dX10_does_85 (fun H locs hP hS => ?_)
              obtain ⟨rfl, rfl⟩ := es2 hD
              exact hret _ _ _ hP hS (fun Qc hq => W.iret hx hb hr hq hS.2.2 dX10_does_88 hlocks)
            · have hD := ifn hD sw18_6
              refine lv_tableOut (tgt := 89) hx hb dX10_does_18 (swo 1 6 (fun k h1 h2 e => ?_)) (by decide) ?_
              · have h3 : k = 1 ∨ k = 2 ∨ k = 3 ∨ k = 4 ∨ k = 5 ∨ k = 6 ∨ False := by omega
                rcases h3 with rfl | rfl | rfl | rfl | rfl | rfl | h3
                · exact absurd e sw18_1
                · exact absurd e sw18_2
                · exact absurd e sw18_3
                · exact absurd e sw18_4
                · exact absurd e sw18_5
                · exact absurd e sw18_6
                · exact h3
              refine lv_aload_n hx hb dX10_does_89 rfl (lv_at hl 2 rfl) ?_
              refine lv_iload_n hx hb dX10_does_90 rfl (lv_at hl 1 rfl) ?_
              obtain ⟨v21, m22, z23, hD⟩ := b2_el hD
              refine rcV  (As := [.int v1]) (rest := []) Fx0 (c_X10_discards l hLx hAd x v1 z23) hP (hD1 _ (hAd _ _)) hS (hA1 _ _ (hAd _ _) hS.1) hLx (Nat.le_of_ble_eq_true rfl) (xs0 _ _) rfl tw_8_183 tw_8_180 tw_8_182 ts_140 tw_1_13 yd_X10_discards ⟨(Nat.le_of_ble_eq_true rfl), (Nat.le_of_ble_eq_true rfl)⟩ rfl hl.1 rfl (Nat.le_of_ble_eq_true rfl) dX10_does_91 (fun H locs hP hS => ?_)
              obtain ⟨rfl, rfl⟩ := es2 hD
              exact hret _ _ _ hP hS (fun Qc hq => W.iret hx hb hr hq hS.2.2 dX10_does_94 hlocks)

noncomputable def D_X10_nextAction (x : MM) : Option (Int32 × MM) := bnd (si x 0 6 (0 : Int32)) (fun m1 => b1 (D_X10_next m1) (fun v2 => some (v2, m1)))
set_option maxHeartbeats 4000000 in
set_option maxRecDepth 100000 in
theorem c_X10_nextAction (l : Launch) {D : va_G} {cs : Nat → ClassId} {adx : Nat → Nat} {Wf : MM → va_W} (hLx : Ln 9 adx (xsh cs adx) Wf) (hAd : ∀ a0_ b0_ : MM, (Wf a0_).map (fun q => q.1) = (Wf b0_).map (fun q => q.1)) (x : MM) {rr : Int32} {x' : MM} (hD : D_X10_nextAction x = some (rr, x')) : Ct l yX10_nextAction cX10_nextAction 1 (some .int) 8 176 D cs [.ref (adx 0)] (Wf x) (Wf x') (some (.int rr)) := by
  refine Ct.ofW (by decide) (Nat.le_of_ble_eq_true rfl) (hAd _ _) ?_
  intro p e s m0 below meth c A Q ls args hx hb hr hml hlocks hown hts hK hP hD1 hSS hS hA1 hl hret
  have hT : ∀ w ∈ TBL, w.before args s = true := fun w h => hts w (List.mem_cons_of_mem _ h)
  have Fx0 : Fx p l m0 c cX10_nextAction 1 s args yX10_nextAction cX10_nextAction 1 (some .int) D cs A := ⟨hx, hb, hml, hown, hts, hK, hSS⟩
  have hown : s.vm.findClass RX10 = some m0.cls := hown
  have hl : lv_has ls 1 [(0, .ref (adx 0))] := hl
  unfold D_X10_nextAction at hD
  refine lv_aload_n hx hb dX10_nextAction_0 rfl (lv_at hl 0 rfl) ?_
  refine lv_iconst (v := (0 : Int32)) hx hb dX10_nextAction_1 (by decide) ?_
  obtain ⟨m1, em1, hD⟩ := bnd_el hD
  refine rp  hx hb hT hu10 tyX10_ok nmX10 hown hK hP (hD1 _ (hAd _ _)) hS hLx 0 6 (Nat.le_of_ble_eq_true rfl) (xs0 _ _) (xs0 _ _) rfl (Nat.le_of_ble_eq_true rfl) (Fx0.T tw_6_221) rfl rfl rfl rfl (Nat.le_of_ble_eq_true rfl) dX10_nextAction_2 em1 (fun H locs hP hS => ?_)
  refine lv_aload_n hx hb dX10_nextAction_5 rfl (lv_at hl 0 rfl) ?_
  obtain ⟨v2, z3, hD⟩ := b1_el hD
  refine rcV  (As := []) (rest := []) Fx0 (c_X10_next l hLx hAd m1 z3) hP (hD1 _ (hAd _ _)) hS (hA1 _ _ (hAd _ _) hS.1) hLx (Nat.le_of_ble_eq_true rfl) (xs0 _ _) rfl tw_8_199 tw_8_196 tw_8_198 ts_142 tw_1_13 yd_X10_next ⟨(Nat.le_of_ble_eq_true rfl), (Nat.le_of_ble_eq_true rfl)⟩ rfl hl.1 rfl (Nat.le_of_ble_eq_true rfl) dX10_nextAction_6 (fun H locs hP hS => ?_)
  obtain ⟨rfl, rfl⟩ := es2 hD
  exact hret _ _ _ hP hS (fun Qc hq => W.iret hx hb hr hq hS.2.2 dX10_nextAction_9 hlocks)

noncomputable def D_X10_step (x : MM) : Option (Int32 × MM) := bnd (si x 0 6 (0 : Int32)) (fun m1 => b1 (D_X10_next m1) (fun v2 => if v2 = (-1 : Int32) then (some ((-1 : Int32), m1)) else (b2 (D_X10_does v2 m1) (fun v4 m5 => some (v4, m5)))))
set_option maxHeartbeats 4000000 in
set_option maxRecDepth 100000 in
theorem c_X10_step (l : Launch) {D : va_G} {cs : Nat → ClassId} {adx : Nat → Nat} {Wf : MM → va_W} (hLx : Ln 9 adx (xsh cs adx) Wf) (hAd : ∀ a0_ b0_ : MM, (Wf a0_).map (fun q => q.1) = (Wf b0_).map (fun q => q.1)) (x : MM) {rr : Int32} {x' : MM} (hD : D_X10_step x = some (rr, x')) : Ct l yX10_step cX10_step 2 (some .int) 8 176 D cs [.ref (adx 0)] (Wf x) (Wf x') (some (.int rr)) := by
  refine Ct.ofW (by decide) (Nat.le_of_ble_eq_true rfl) (hAd _ _) ?_
  intro p e s m0 below meth c A Q ls args hx hb hr hml hlocks hown hts hK hP hD1 hSS hS hA1 hl hret
  have hT : ∀ w ∈ TBL, w.before args s = true := fun w h => hts w (List.mem_cons_of_mem _ h)
  have Fx0 : Fx p l m0 c cX10_step 2 s args yX10_step cX10_step 2 (some .int) D cs A := ⟨hx, hb, hml, hown, hts, hK, hSS⟩
  have hown : s.vm.findClass RX10 = some m0.cls := hown
  have hl : lv_has ls 2 [(0, .ref (adx 0))] := hl
  unfold D_X10_step at hD
  refine lv_aload_n hx hb dX10_step_0 rfl (lv_at hl 0 rfl) ?_
  refine lv_iconst (v := (0 : Int32)) hx hb dX10_step_1 (by decide) ?_
  obtain ⟨m1, em1, hD⟩ := bnd_el hD
  refine rp  hx hb hT hu10 tyX10_ok nmX10 hown hK hP (hD1 _ (hAd _ _)) hS hLx 0 6 (Nat.le_of_ble_eq_true rfl) (xs0 _ _) (xs0 _ _) rfl (Nat.le_of_ble_eq_true rfl) (Fx0.T tw_6_221) rfl rfl rfl rfl (Nat.le_of_ble_eq_true rfl) dX10_step_2 em1 (fun H locs hP hS => ?_)
  refine lv_aload_n hx hb dX10_step_5 rfl (lv_at hl 0 rfl) ?_
  obtain ⟨v2, z3, hD⟩ := b1_el hD
  refine rcV  (As := []) (rest := []) Fx0 (c_X10_next l hLx hAd m1 z3) hP (hD1 _ (hAd _ _)) hS (hA1 _ _ (hAd _ _) hS.1) hLx (Nat.le_of_ble_eq_true rfl) (xs0 _ _) rfl tw_8_199 tw_8_196 tw_8_198 ts_142 tw_1_13 yd_X10_next ⟨(Nat.le_of_ble_eq_true rfl), (Nat.le_of_ble_eq_true rfl)⟩ rfl hl.1 rfl (Nat.le_of_ble_eq_true rfl) dX10_step_6 (fun H locs hP hS => ?_)
  refine lv_istore_n (lv' := [(1, .int v2), (0, .ref (adx 0))]) hx hb dX10_step_9 rfl hl (by decide) rfl (fun ls hl => ?_)
  refine lv_iload_n hx hb dX10_step_10 rfl (lv_at hl 0 rfl) ?_
  refine lv_iconst (v := (-1 : Int32)) hx hb dX10_step_11 (by decide) ?_
  refine lv_icmp_ne (tgt := 19) hx hb dX10_step_12 (by decide) (fun c => ?_) (fun c => ?_)
  · have hD := ifn hD c
    refine lv_aload_n hx hb dX10_step_19 rfl (lv_at hl 1 rfl) ?_
    refine lv_iload_n hx hb dX10_step_20 rfl (lv_at hl 0 rfl) ?_
    obtain ⟨v4, m5, z6, hD⟩ := b2_el hD
    refine rcV  (As := [.int v2]) (rest := []) Fx0 (c_X10_does l hLx hAd m1 v2 z6) hP (hD1 _ (hAd _ _)) hS (hA1 _ _ (hAd _ _) hS.1) hLx (Nat.le_of_ble_eq_true rfl) (xs0 _ _) rfl tw_8_234 tw_8_231 tw_8_233 ts_149 tw_1_13 yd_X10_does ⟨(Nat.le_of_ble_eq_true rfl), (Nat.le_of_ble_eq_true rfl)⟩ rfl hl.1 rfl (Nat.le_of_ble_eq_true rfl) dX10_step_21 (fun H locs hP hS => ?_)
    obtain ⟨rfl, rfl⟩ := es2 hD
    exact hret _ _ _ hP hS (fun Qc hq => W.iret hx hb hr hq hS.2.2 dX10_step_24 hlocks)
  · have hD := ifp hD c
    refine lv_iconst (v := (-1 : Int32)) hx hb dX10_step_15 (by decide) ?_
    refine lv_goto (tgt := 24) hx hb dX10_step_16 (by decide) ?_
    obtain ⟨rfl, rfl⟩ := es2 hD
    exact hret _ _ _ hP hS (fun Qc hq => W.iret hx hb hr hq hS.2.2 dX10_step_24 hlocks)

noncomputable def D_X10_runs_16 : Nat → Int32 → Int32 → Int32 → MM → Option (Int32 × MM)
  | 0, _, _, _, _ => none
  | n + 1, x1, x2, x3, x => if x3 = (-1 : Int32) then (some (x2, x)) else (b2 (D_X10_does x3 x) (fun v1 m2 => bnd (si m2 0 16 v1) (fun m4 => bnd (x2 + (1 : Int32)) (fun v5 => if x1 ≤ v5 then (D_X10_runs_16 n x1 v5 (-1 : Int32) m4) else (b1 (D_X10_next m4) (fun v6 => D_X10_runs_16 n x1 v5 v6 m4))))))
noncomputable def D_X10_runs (x1 : Int32) (x : MM) : Option (Int32 × MM) := if x1 ≤ (0 : Int32) then (D_X10_runs_16 FU x1 (0 : Int32) (-1 : Int32) x) else (b1 (D_X10_next x) (fun v8 => D_X10_runs_16 FU x1 (0 : Int32) v8 x))
set_option maxHeartbeats 4000000 in
set_option maxRecDepth 100000 in
theorem c_X10_runs (l : Launch) {D : va_G} {cs : Nat → ClassId} {adx : Nat → Nat} {Wf : MM → va_W} (hLx : Ln 9 adx (xsh cs adx) Wf) (hAd : ∀ a0_ b0_ : MM, (Wf a0_).map (fun q => q.1) = (Wf b0_).map (fun q => q.1)) (x : MM) (x1 : Int32) {rr : Int32} {x' : MM} (hD : D_X10_runs x1 x = some (rr, x')) : Ct l yX10_runs cX10_runs 4 (some .int) 8 176 D cs [.ref (adx 0), .int x1] (Wf x) (Wf x') (some (.int rr)) := by
  refine Ct.ofW (by decide) (Nat.le_of_ble_eq_true rfl) (hAd _ _) ?_
  intro p e s m0 below meth c A Q ls args hx hb hr hml hlocks hown hts hK hP hD1 hSS hS hA1 hl hret
  have hT : ∀ w ∈ TBL, w.before args s = true := fun w h => hts w (List.mem_cons_of_mem _ h)
  have Fx0 : Fx p l m0 c cX10_runs 4 s args yX10_runs cX10_runs 4 (some .int) D cs A := ⟨hx, hb, hml, hown, hts, hK, hSS⟩
  have hown : s.vm.findClass RX10 = some m0.cls := hown
  have hl : lv_has ls 4 [(0, .ref (adx 0)), (1, .int x1)] := hl
  unfold D_X10_runs at hD
  have c_16 : ∀ (n : Nat), ∀ (x1 : Int32) (x2 : Int32) (x3 : Int32) (x : MM) (H : Heap) (locs : List Loc) (ls : Array Slot), D_X10_runs_16 n x1 x2 x3 x = some (rr, x') → va_P D vwCl (Wf x) H → va_S A s.heap H locs → lv_has ls 4 [(0, .ref (adx 0)), (1, .int x1), (2, .int x2), (3, .int x3)] → W p l e ({ frames := 8, cells := 0, slots := 0, locals := 176 } : Room) s m0 args below meth c H locs 0 0 Q (F0 m0 16 ls []) := by
    intro n
    induction n with
    | zero =>
      intro x1 x2 x3 x H locs ls hD hP hS hl
      exact nn_el hD
    | succ n ih =>
      intro x1 x2 x3 x H locs ls hD hP hS hl
      rw [D_X10_runs_16] at hD
      refine lv_iload_n hx hb dX10_runs_16 rfl (lv_at hl 3 rfl) ?_
      refine lv_iconst (v := (-1 : Int32)) hx hb dX10_runs_17 (by decide) ?_
      refine lv_icmp_eq (tgt := 50) hx hb dX10_runs_18 (by decide) (fun c => ?_) (fun c => ?_)
      · have hD := ifp hD c
        refine lv_iload_n hx hb dX10_runs_50 rfl (lv_at hl 2 rfl) ?_
        obtain ⟨rfl, rfl⟩ := es2 hD
        exact hret _ _ _ hP hS (fun Qc hq => W.iret hx hb hr hq hS.2.2 dX10_runs_51 hlocks)
      · have hD := ifn hD c
        refine lv_aload_n hx hb dX10_runs_21 rfl (lv_at hl 0 rfl) ?_
        refine lv_aload_n hx hb dX10_runs_22 rfl (lv_at hl 0 rfl) ?_
        refine lv_iload_n hx hb dX10_runs_23 rfl (lv_at hl 3 rfl) ?_
        obtain ⟨v1, m2, z3, hD⟩ := b2_el hD
        refine rcV  (As := [.int x3]) (rest := [.ref (adx 0)]) Fx0 (c_X10_does l hLx hAd x x3 z3) hP (hD1 _ (hAd _ _)) hS (hA1 _ _ (hAd _ _) hS.1) hLx (Nat.le_of_ble_eq_true rfl) (xs0 _ _) rfl tw_8_234 tw_8_231 tw_8_233 ts_149 tw_1_13 yd_X10_does ⟨(Nat.le_of_ble_eq_true rfl), (Nat.le_of_ble_eq_true rfl)⟩ rfl hl.1 rfl (Nat.le_of_ble_eq_true rfl) dX10_runs_24 (fun H locs hP hS => ?_)
        obtain ⟨m4, em4, hD⟩ := bnd_el hD
        refine rp  hx hb hT hu10 tyX10_ok nmX10 hown hK hP (hD1 _ (hAd _ _)) hS hLx 0 16 (Nat.le_of_ble_eq_true rfl) (xs0 _ _) (xs0 _ _) rfl (Nat.le_of_ble_eq_true rfl) (Fx0.T tw_6_231) rfl rfl rfl rfl (Nat.le_of_ble_eq_true rfl) dX10_runs_27 em4 (fun H locs hP hS => ?_)
        obtain ⟨v5, ev5, hD⟩ := bnd_el hD
        refine lv_iinc (v := v5) (lv' := [(2, .int v5), (0, .ref (adx 0)), (1, .int x1), (3, .int x3)]) hx hb dX10_runs_30 hl (k := 2) rfl (by rw [ev5]; rfl) (by decide) rfl (fun ls hl => ?_)
        refine lv_iload_n hx hb dX10_runs_33 rfl (lv_at hl 0 rfl) ?_
        refine lv_iload_n hx hb dX10_runs_34 rfl (lv_at hl 2 rfl) ?_
        refine lv_icmp_ge (tgt := 45) hx hb dX10_runs_35 (by decide) (fun c => ?_) (fun c => ?_)
        · have hD := ifp hD c
          refine lv_iconst (v := (-1 : Int32)) hx hb dX10_runs_45 (by decide) ?_
          refine lv_istore_n (lv' := [(3, .int (-1 : Int32)), (2, .int v5), (0, .ref (adx 0)), (1, .int x1)]) hx hb dX10_runs_46 rfl hl (by decide) rfl (fun ls hl => ?_)
          refine lv_goto (tgt := 16) hx hb dX10_runs_47 (by decide) ?_
          exact ih _ _ _ _ _ _ _ hD hP hS (lv_sub hl [2, 3, 1, 0] rfl)
        · have hD := ifn hD c
          refine lv_aload_n hx hb dX10_runs_38 rfl (lv_at hl 1 rfl) ?_
          obtain ⟨v6, z7, hD⟩ := b1_el hD
          refine rcV  (As := []) (rest := []) Fx0 (c_X10_next l hLx hAd m4 z7) hP (hD1 _ (hAd _ _)) hS (hA1 _ _ (hAd _ _) hS.1) hLx (Nat.le_of_ble_eq_true rfl) (xs0 _ _) rfl tw_8_199 tw_8_196 tw_8_198 ts_142 tw_1_13 yd_X10_next ⟨(Nat.le_of_ble_eq_true rfl), (Nat.le_of_ble_eq_true rfl)⟩ rfl hl.1 rfl (Nat.le_of_ble_eq_true rfl) dX10_runs_39 (fun H locs hP hS => ?_)
          refine lv_goto (tgt := 46) hx hb dX10_runs_42 (by decide) ?_
          refine lv_istore_n (lv' := [(3, .int v6), (2, .int v5), (0, .ref (adx 0)), (1, .int x1)]) hx hb dX10_runs_46 rfl hl (by decide) rfl (fun ls hl => ?_)
          refine lv_goto (tgt := 16) hx hb dX10_runs_47 (by decide) ?_
          exact ih _ _ _ _ _ _ _ hD hP hS (lv_sub hl [2, 3, 1, 0] rfl)
  refine lv_iconst (v := (0 : Int32)) hx hb dX10_runs_0 (by decide) ?_
  refine lv_istore_n (lv' := [(2, .int (0 : Int32)), (0, .ref (adx 0)), (1, .int x1)]) hx hb dX10_runs_1 rfl hl (by decide) rfl (fun ls hl => ?_)
  refine lv_iload_n hx hb dX10_runs_2 rfl (lv_at hl 0 rfl) ?_
  refine lv_iload_n hx hb dX10_runs_3 rfl (lv_at hl 2 rfl) ?_
  refine lv_icmp_ge (tgt := 14) hx hb dX10_runs_4 (by decide) (fun c => ?_) (fun c => ?_)
  · have hD := ifp hD c
    refine lv_iconst (v := (-1 : Int32)) hx hb dX10_runs_14 (by decide) ?_
    refine lv_istore_n (lv' := [(3, .int (-1 : Int32)), (2, .int (0 : Int32)), (0, .ref (adx 0)), (1, .int x1)]) hx hb dX10_runs_15 rfl hl (by decide) rfl (fun ls hl => ?_)
    exact c_16 FU _ _ _ _ _ _ _ hD hP hS (lv_sub hl [2, 3, 1, 0] rfl)
  · have hD := ifn hD c
    refine lv_aload_n hx hb dX10_runs_7 rfl (lv_at hl 1 rfl) ?_
    obtain ⟨v8, z9, hD⟩ := b1_el hD
    refine rcV  (As := []) (rest := []) Fx0 (c_X10_next l hLx hAd x z9) hP (hD1 _ (hAd _ _)) hS (hA1 _ _ (hAd _ _) hS.1) hLx (Nat.le_of_ble_eq_true rfl) (xs0 _ _) rfl tw_8_199 tw_8_196 tw_8_198 ts_142 tw_1_13 yd_X10_next ⟨(Nat.le_of_ble_eq_true rfl), (Nat.le_of_ble_eq_true rfl)⟩ rfl hl.1 rfl (Nat.le_of_ble_eq_true rfl) dX10_runs_8 (fun H locs hP hS => ?_)
    refine lv_goto (tgt := 15) hx hb dX10_runs_11 (by decide) ?_
    refine lv_istore_n (lv' := [(3, .int v8), (2, .int (0 : Int32)), (0, .ref (adx 0)), (1, .int x1)]) hx hb dX10_runs_15 rfl hl (by decide) rfl (fun ls hl => ?_)
    exact c_16 FU _ _ _ _ _ _ _ hD hP hS (lv_sub hl [2, 3, 1, 0] rfl)

noncomputable def D_X10_run (x1 : Int32) (x : MM) : Option (Int32 × MM) := b2 (D_X10_fine x) (fun v1 m2 => if v1 = 0 then (b2 (D_X10_runs x1 m2) (fun v4 m5 => some (v4, m5))) else (b1 (D_X10_in x1.toInt64 (1 : Int64) (500 : Int64)) (fun v7 => if v7 = 0 then (b2 (D_X10_throwsIf (1 : Int32) (1 : Int32) m2) (fun v15 m16 => if v15 = 0 then (b2 (D_X10_runs x1 m16) (fun v18 m19 => some (v18, m19))) else (some ((0 : Int32), m16)))) else (b2 (D_X10_throwsIf (0 : Int32) (1 : Int32) m2) (fun v9 m10 => if v9 = 0 then (b2 (D_X10_runs x1 m10) (fun v12 m13 => some (v12, m13))) else (some ((0 : Int32), m10)))))))
set_option maxHeartbeats 4000000 in
set_option maxRecDepth 100000 in
theorem c_X10_run (l : Launch) {D : va_G} {cs : Nat → ClassId} {adx : Nat → Nat} {Wf : MM → va_W} (hLx : Ln 9 adx (xsh cs adx) Wf) (hAd : ∀ a0_ b0_ : MM, (Wf a0_).map (fun q => q.1) = (Wf b0_).map (fun q => q.1)) (x : MM) (x1 : Int32) {rr : Int32} {x' : MM} (hD : D_X10_run x1 x = some (rr, x')) : Ct l yX10_run cX10_run 2 (some .int) 9 199 D cs [.ref (adx 0), .int x1] (Wf x) (Wf x') (some (.int rr)) := by
  refine Ct.ofW (by decide) (Nat.le_of_ble_eq_true rfl) (hAd _ _) ?_
  intro p e s m0 below meth c A Q ls args hx hb hr hml hlocks hown hts hK hP hD1 hSS hS hA1 hl hret
  have hT : ∀ w ∈ TBL, w.before args s = true := fun w h => hts w (List.mem_cons_of_mem _ h)
  have Fx0 : Fx p l m0 c cX10_run 2 s args yX10_run cX10_run 2 (some .int) D cs A := ⟨hx, hb, hml, hown, hts, hK, hSS⟩
  have hown : s.vm.findClass RX10 = some m0.cls := hown
  have hl : lv_has ls 2 [(0, .ref (adx 0)), (1, .int x1)] := hl
  unfold D_X10_run at hD
  refine lv_aload_n hx hb dX10_run_0 rfl (lv_at hl 0 rfl) ?_
  obtain ⟨v1, m2, z3, hD⟩ := b2_el hD
  refine rcV  (As := []) (rest := []) Fx0 (c_X10_fine l hLx hAd x z3) hP (hD1 _ (hAd _ _)) hS (hA1 _ _ (hAd _ _) hS.1) hLx (Nat.le_of_ble_eq_true rfl) (xs0 _ _) rfl tw_7_158 tw_7_155 tw_7_157 ts_104 tw_1_13 yd_X10_fine ⟨(Nat.le_of_ble_eq_true rfl), (Nat.le_of_ble_eq_true rfl)⟩ rfl hl.1 rfl (Nat.le_of_ble_eq_true rfl) dX10_run_1 (fun H locs hP hS => ?_)
  refine lv_if_eq (tgt := 36) hx hb dX10_run_4 (by decide) (fun c => ?_) (fun c => ?_)
  · have hD := ifp hD c
    refine lv_aload_n hx hb dX10_run_36 rfl (lv_at hl 0 rfl) ?_
    refine lv_iload_n hx hb dX10_run_37 rfl (lv_at hl 1 rfl) ?_
    obtain ⟨v4, m5, z6, hD⟩ := b2_el hD
    refine rcV  (As := [.int x1]) (rest := []) Fx0 (c_X10_runs l hLx hAd m2 x1 z6) hP (hD1 _ (hAd _ _)) hS (hA1 _ _ (hAd _ _) hS.1) hLx (Nat.le_of_ble_eq_true rfl) (xs0 _ _) rfl tw_9_2 tw_8_239 tw_9_1 ts_150 tw_1_13 yd_X10_runs ⟨(Nat.le_of_ble_eq_true rfl), (Nat.le_of_ble_eq_true rfl)⟩ rfl hl.1 rfl (Nat.le_of_ble_eq_true rfl) dX10_run_38 (fun H locs hP hS => ?_)
    obtain ⟨rfl, rfl⟩ := es2 hD
    exact hret _ _ _ hP hS (fun Qc hq => W.iret hx hb hr hq hS.2.2 dX10_run_41 hlocks)
  · have hD := ifn hD c
    refine lv_aload_n hx hb dX10_run_7 rfl (lv_at hl 0 rfl) ?_
    refine lv_iload_n hx hb dX10_run_8 rfl (lv_at hl 1 rfl) ?_
    refine lv_i2l (v := x1.toInt64) hx hb dX10_run_9 rfl ?_
    refine lv_lconst (v := (1 : Int64)) hx hb dX10_run_10 (by decide) ?_
    refine lv_ldc2 (v := (500 : Int64)) hx hb hown (Fx0.T tw_7_227) dX10_run_11 ?_
    obtain ⟨v7, z8, hD⟩ := b1_el hD
    refine rcS (As := [.long x1.toInt64, .long (1 : Int64), .long (500 : Int64)]) (rest := [.ref (adx 0)]) Fx0 (c_X10_in l x1.toInt64 (1 : Int64) (500 : Int64) z8) hP (hD1 _ (hAd _ _)) hS (hA1 _ _ (hAd _ _) hS.1) tw_7_69 tw_7_67 tw_7_68 tw_1_13 yd_X10_in ⟨(Nat.le_of_ble_eq_true rfl), (Nat.le_of_ble_eq_true rfl)⟩ rfl hl.1 rfl (Nat.le_of_ble_eq_true rfl) dX10_run_14 (fun H locs hP hS => ?_)
    refine lv_if_ne (tgt := 24) hx hb dX10_run_17 (by decide) (fun c => ?_) (fun c => ?_)
    · have hD := ifn hD c
      refine lv_iconst (v := (0 : Int32)) hx hb dX10_run_24 (by decide) ?_
      refine lv_iconst (v := (1 : Int32)) hx hb dX10_run_25 (by decide) ?_
      obtain ⟨v9, m10, z11, hD⟩ := b2_el hD
      refine rcV  (As := [.int (0 : Int32), .int (1 : Int32)]) (rest := []) Fx0 (c_X10_throwsIf l hLx hAd m2 (0 : Int32) (1 : Int32) z11) hP (hD1 _ (hAd _ _)) hS (hA1 _ _ (hAd _ _) hS.1) hLx (Nat.le_of_ble_eq_true rfl) (xs0 _ _) rfl tw_7_163 tw_7_160 tw_7_162 ts_105 tw_1_13 yd_X10_throwsIf ⟨(Nat.le_of_ble_eq_true rfl), (Nat.le_of_ble_eq_true rfl)⟩ rfl hl.1 rfl (Nat.le_of_ble_eq_true rfl) dX10_run_26 (fun H locs hP hS => ?_)
      refine lv_if_eq (tgt := 36) hx hb dX10_run_29 (by decide) (fun c => ?_) (fun c => ?_)
      · have hD := ifp hD c
        refine lv_aload_n hx hb dX10_run_36 rfl (lv_at hl 0 rfl) ?_
        refine lv_iload_n hx hb dX10_run_37 rfl (lv_at hl 1 rfl) ?_
        obtain ⟨v12, m13, z14, hD⟩ := b2_el hD
        refine rcV  (As := [.int x1]) (rest := []) Fx0 (c_X10_runs l hLx hAd m10 x1 z14) hP (hD1 _ (hAd _ _)) hS (hA1 _ _ (hAd _ _) hS.1) hLx (Nat.le_of_ble_eq_true rfl) (xs0 _ _) rfl tw_9_2 tw_8_239 tw_9_1 ts_150 tw_1_13 yd_X10_runs ⟨(Nat.le_of_ble_eq_true rfl), (Nat.le_of_ble_eq_true rfl)⟩ rfl hl.1 rfl (Nat.le_of_ble_eq_true rfl) dX10_run_38 (fun H locs hP hS => ?_)
        obtain ⟨rfl, rfl⟩ := es2 hD
        exact hret _ _ _ hP hS (fun Qc hq => W.iret hx hb hr hq hS.2.2 dX10_run_41 hlocks)
      · have hD := ifn hD c
        refine lv_iconst (v := (0 : Int32)) hx hb dX10_run_32 (by decide) ?_
        refine lv_goto (tgt := 41) hx hb dX10_run_33 (by decide) ?_
        obtain ⟨rfl, rfl⟩ := es2 hD
        exact hret _ _ _ hP hS (fun Qc hq => W.iret hx hb hr hq hS.2.2 dX10_run_41 hlocks)
    · have hD := ifp hD c
      refine lv_iconst (v := (1 : Int32)) hx hb dX10_run_20 (by decide) ?_
      refine lv_goto (tgt := 25) hx hb dX10_run_21 (by decide) ?_
      refine lv_iconst (v := (1 : Int32)) hx hb dX10_run_25 (by decide) ?_
      obtain ⟨v15, m16, z17, hD⟩ := b2_el hD
      refine rcV  (As := [.int (1 : Int32), .int (1 : Int32)]) (rest := []) Fx0 (c_X10_throwsIf l hLx hAd m2 (1 : Int32) (1 : Int32) z17) hP (hD1 _ (hAd _ _)) hS (hA1 _ _ (hAd _ _) hS.1) hLx (Nat.le_of_ble_eq_true rfl) (xs0 _ _) rfl tw_7_163 tw_7_160 tw_7_162 ts_105 tw_1_13 yd_X10_throwsIf ⟨(Nat.le_of_ble_eq_true rfl), (Nat.le_of_ble_eq_true rfl)⟩ rfl hl.1 rfl (Nat.le_of_ble_eq_true rfl) dX10_run_26 (fun H locs hP hS => ?_)
      refine lv_if_eq (tgt := 36) hx hb dX10_run_29 (by decide) (fun c => ?_) (fun c => ?_)
      · have hD := ifp hD c
        refine lv_aload_n hx hb dX10_run_36 rfl (lv_at hl 0 rfl) ?_
        refine lv_iload_n hx hb dX10_run_37 rfl (lv_at hl 1 rfl) ?_
        obtain ⟨v18, m19, z20, hD⟩ := b2_el hD
        refine rcV  (As := [.int x1]) (rest := []) Fx0 (c_X10_runs l hLx hAd m16 x1 z20) hP (hD1 _ (hAd _ _)) hS (hA1 _ _ (hAd _ _) hS.1) hLx (Nat.le_of_ble_eq_true rfl) (xs0 _ _) rfl tw_9_2 tw_8_239 tw_9_1 ts_150 tw_1_13 yd_X10_runs ⟨(Nat.le_of_ble_eq_true rfl), (Nat.le_of_ble_eq_true rfl)⟩ rfl hl.1 rfl (Nat.le_of_ble_eq_true rfl) dX10_run_38 (fun H locs hP hS => ?_)
        obtain ⟨rfl, rfl⟩ := es2 hD
        exact hret _ _ _ hP hS (fun Qc hq => W.iret hx hb hr hq hS.2.2 dX10_run_41 hlocks)
      · have hD := ifn hD c
        refine lv_iconst (v := (0 : Int32)) hx hb dX10_run_32 (by decide) ?_
        refine lv_goto (tgt := 41) hx hb dX10_run_33 (by decide) ?_
        obtain ⟨rfl, rfl⟩ := es2 hD
        exact hret _ _ _ hP hS (fun Qc hq => W.iret hx hb hr hq hS.2.2 dX10_run_41 hlocks)

noncomputable def D_X10_isHalted (x : MM) : Option (Int32 × MM) := b2 (D_X10_fine x) (fun v1 m2 => if v1 = 0 then (some ((0 : Int32), m2)) else (b1 (D_X10_halts m2) (fun v4 => if v4 = 0 then (some ((0 : Int32), m2)) else (some ((1 : Int32), m2)))))
set_option maxHeartbeats 4000000 in
set_option maxRecDepth 100000 in
theorem c_X10_isHalted (l : Launch) {D : va_G} {cs : Nat → ClassId} {adx : Nat → Nat} {Wf : MM → va_W} (hLx : Ln 9 adx (xsh cs adx) Wf) (hAd : ∀ a0_ b0_ : MM, (Wf a0_).map (fun q => q.1) = (Wf b0_).map (fun q => q.1)) (x : MM) {rr : Int32} {x' : MM} (hD : D_X10_isHalted x = some (rr, x')) : Ct l yX10_isHalted cX10_isHalted 1 (some .boolean) 1 20 D cs [.ref (adx 0)] (Wf x) (Wf x') (some (.int rr)) := by
  refine Ct.ofW (by decide) (Nat.le_of_ble_eq_true rfl) (hAd _ _) ?_
  intro p e s m0 below meth c A Q ls args hx hb hr hml hlocks hown hts hK hP hD1 hSS hS hA1 hl hret
  have hT : ∀ w ∈ TBL, w.before args s = true := fun w h => hts w (List.mem_cons_of_mem _ h)
  have Fx0 : Fx p l m0 c cX10_isHalted 1 s args yX10_isHalted cX10_isHalted 1 (some .boolean) D cs A := ⟨hx, hb, hml, hown, hts, hK, hSS⟩
  have hown : s.vm.findClass RX10 = some m0.cls := hown
  have hl : lv_has ls 1 [(0, .ref (adx 0))] := hl
  unfold D_X10_isHalted at hD
  refine lv_aload_n hx hb dX10_isHalted_0 rfl (lv_at hl 0 rfl) ?_
  obtain ⟨v1, m2, z3, hD⟩ := b2_el hD
  refine rcV  (As := []) (rest := []) Fx0 (c_X10_fine l hLx hAd x z3) hP (hD1 _ (hAd _ _)) hS (hA1 _ _ (hAd _ _) hS.1) hLx (Nat.le_of_ble_eq_true rfl) (xs0 _ _) rfl tw_7_158 tw_7_155 tw_7_157 ts_104 tw_1_13 yd_X10_fine ⟨(Nat.le_of_ble_eq_true rfl), (Nat.le_of_ble_eq_true rfl)⟩ rfl hl.1 rfl (Nat.le_of_ble_eq_true rfl) dX10_isHalted_1 (fun H locs hP hS => ?_)
  refine lv_if_eq (tgt := 18) hx hb dX10_isHalted_4 (by decide) (fun c => ?_) (fun c => ?_)
  · have hD := ifp hD c
    refine lv_iconst (v := (0 : Int32)) hx hb dX10_isHalted_18 (by decide) ?_
    obtain ⟨rfl, rfl⟩ := es2 hD
    exact hret _ _ _ hP hS (fun Qc hq => W.zret hx hb hr rfl hq hS.2.2 dX10_isHalted_19 hlocks)
  · have hD := ifn hD c
    refine lv_aload_n hx hb dX10_isHalted_7 rfl (lv_at hl 0 rfl) ?_
    obtain ⟨v4, z5, hD⟩ := b1_el hD
    refine rcV  (As := []) (rest := []) Fx0 (c_X10_halts l hLx hAd m2 z5) hP (hD1 _ (hAd _ _)) hS (hA1 _ _ (hAd _ _) hS.1) hLx (Nat.le_of_ble_eq_true rfl) (xs0 _ _) rfl tw_8_203 tw_8_200 tw_8_202 ts_143 tw_1_13 yd_X10_halts ⟨(Nat.le_of_ble_eq_true rfl), (Nat.le_of_ble_eq_true rfl)⟩ rfl hl.1 rfl (Nat.le_of_ble_eq_true rfl) dX10_isHalted_8 (fun H locs hP hS => ?_)
    refine lv_if_eq (tgt := 18) hx hb dX10_isHalted_11 (by decide) (fun c => ?_) (fun c => ?_)
    · have hD := ifp hD c
      refine lv_iconst (v := (0 : Int32)) hx hb dX10_isHalted_18 (by decide) ?_
      obtain ⟨rfl, rfl⟩ := es2 hD
      exact hret _ _ _ hP hS (fun Qc hq => W.zret hx hb hr rfl hq hS.2.2 dX10_isHalted_19 hlocks)
    · have hD := ifn hD c
      refine lv_iconst (v := (1 : Int32)) hx hb dX10_isHalted_14 (by decide) ?_
      refine lv_goto (tgt := 19) hx hb dX10_isHalted_15 (by decide) ?_
      obtain ⟨rfl, rfl⟩ := es2 hD
      exact hret _ _ _ hP hS (fun Qc hq => W.zret hx hb hr rfl hq hS.2.2 dX10_isHalted_19 hlocks)

noncomputable def D_X10_resume (x : MM) : Option (Int32 × MM) := bnd (si x 0 6 (0 : Int32)) (fun m1 => b1 (D_X10_halts m1) (fun v2 => bnd (si m1 1 25 (0 : Int32)) (fun m4 => bnd (si m4 1 29 (0 : Int32)) (fun m5 => if v2 = 0 ∨ v2 = 1 then some (v2, m5) else none))))
set_option maxHeartbeats 4000000 in
set_option maxRecDepth 100000 in
theorem c_X10_resume (l : Launch) {D : va_G} {cs : Nat → ClassId} {adx : Nat → Nat} {Wf : MM → va_W} (hLx : Ln 9 adx (xsh cs adx) Wf) (hAd : ∀ a0_ b0_ : MM, (Wf a0_).map (fun q => q.1) = (Wf b0_).map (fun q => q.1)) (x : MM) {rr : Int32} {x' : MM} (hD : D_X10_resume x = some (rr, x')) : Ct l yX10_resume cX10_resume 2 (some .boolean) 1 20 D cs [.ref (adx 0)] (Wf x) (Wf x') (some (.int rr)) := by
  refine Ct.ofW (by decide) (Nat.le_of_ble_eq_true rfl) (hAd _ _) ?_
  intro p e s m0 below meth c A Q ls args hx hb hr hml hlocks hown hts hK hP hD1 hSS hS hA1 hl hret
  have hT : ∀ w ∈ TBL, w.before args s = true := fun w h => hts w (List.mem_cons_of_mem _ h)
  have Fx0 : Fx p l m0 c cX10_resume 2 s args yX10_resume cX10_resume 2 (some .boolean) D cs A := ⟨hx, hb, hml, hown, hts, hK, hSS⟩
  have hown : s.vm.findClass RX10 = some m0.cls := hown
  have hl : lv_has ls 2 [(0, .ref (adx 0))] := hl
  unfold D_X10_resume at hD
  refine lv_aload_n hx hb dX10_resume_0 rfl (lv_at hl 0 rfl) ?_
  refine lv_iconst (v := (0 : Int32)) hx hb dX10_resume_1 (by decide) ?_
  obtain ⟨m1, em1, hD⟩ := bnd_el hD
  refine rp  hx hb hT hu10 tyX10_ok nmX10 hown hK hP (hD1 _ (hAd _ _)) hS hLx 0 6 (Nat.le_of_ble_eq_true rfl) (xs0 _ _) (xs0 _ _) rfl (Nat.le_of_ble_eq_true rfl) (Fx0.T tw_6_221) rfl rfl rfl rfl (Nat.le_of_ble_eq_true rfl) dX10_resume_2 em1 (fun H locs hP hS => ?_)
  refine lv_aload_n hx hb dX10_resume_5 rfl (lv_at hl 0 rfl) ?_
  obtain ⟨v2, z3, hD⟩ := b1_el hD
  refine rcV  (As := []) (rest := []) Fx0 (c_X10_halts l hLx hAd m1 z3) hP (hD1 _ (hAd _ _)) hS (hA1 _ _ (hAd _ _) hS.1) hLx (Nat.le_of_ble_eq_true rfl) (xs0 _ _) rfl tw_8_203 tw_8_200 tw_8_202 ts_143 tw_1_13 yd_X10_halts ⟨(Nat.le_of_ble_eq_true rfl), (Nat.le_of_ble_eq_true rfl)⟩ rfl hl.1 rfl (Nat.le_of_ble_eq_true rfl) dX10_resume_6 (fun H locs hP hS => ?_)
  refine lv_istore_n (lv' := [(1, .int v2), (0, .ref (adx 0))]) hx hb dX10_resume_9 rfl hl (by decide) rfl (fun ls hl => ?_)
  refine lv_aload_n hx hb dX10_resume_10 rfl (lv_at hl 1 rfl) ?_
  refine rg  hx hb hT hu10 hown hK hP hLx 0 0 (Nat.le_of_ble_eq_true rfl) (xs0 _ _) rfl (Nat.le_of_ble_eq_true rfl) (Fx0.T tw_6_215) rfl (v := .ref (adx 1)) rfl dX10_resume_11 ?_
  refine lv_bipush (v := (25 : Int32)) hx hb dX10_resume_14 (by decide) ?_
  refine lv_iconst (v := (0 : Int32)) hx hb dX10_resume_16 (by decide) ?_
  obtain ⟨m4, em4, hD⟩ := bnd_el hD
  refine riast  hx hb hK hP (hD1 _ (hAd _ _)) hS hLx 1 (Nat.le_of_ble_eq_true rfl) (fun _ => xs1 _ _) (by decide) (j := 25) (by decide) dX10_resume_17 em4 (fun H locs hP hS => ?_)
  refine lv_aload_n hx hb dX10_resume_18 rfl (lv_at hl 1 rfl) ?_
  refine rg  hx hb hT hu10 hown hK hP hLx 0 0 (Nat.le_of_ble_eq_true rfl) (xs0 _ _) rfl (Nat.le_of_ble_eq_true rfl) (Fx0.T tw_6_215) rfl (v := .ref (adx 1)) rfl dX10_resume_19 ?_
  refine lv_bipush (v := (29 : Int32)) hx hb dX10_resume_22 (by decide) ?_
  refine lv_iconst (v := (0 : Int32)) hx hb dX10_resume_24 (by decide) ?_
  obtain ⟨m5, em5, hD⟩ := bnd_el hD
  refine riast  hx hb hK hP (hD1 _ (hAd _ _)) hS hLx 1 (Nat.le_of_ble_eq_true rfl) (fun _ => xs1 _ _) (by decide) (j := 29) (by decide) dX10_resume_25 em5 (fun H locs hP hS => ?_)
  refine lv_iload_n hx hb dX10_resume_26 rfl (lv_at hl 0 rfl) ?_
  obtain ⟨h6, hD⟩ := gb_el hD
  obtain ⟨rfl, rfl⟩ := es2 hD
  exact hret _ _ _ hP hS (fun Qc hq => W.zret hx hb hr (nbz h6).1 hq hS.2.2 dX10_resume_27 hlocks)

noncomputable def D_X10_inReels_40 (x : MM) (k4 : Int32 → Int32 → Int32 → Option Int32) : Nat → Int32 → Int32 → Int32 → Int32 → Option Int32
  | 0, _, _, _, _ => none
  | n + 1, x1, x2, x3, x4 => b1 (D_X10_ofFeeder x3 (4 : Int32) x) (fun v6 => if v6 ≤ x4 then (bnd (x3 + (1 : Int32)) (fun v8 => k4 x1 x2 v8)) else (b1 (D_X10_ofFeeder x3 ((8 : Int32) + x4) x) (fun v9 => bnd ((x2 + v9)) (fun v11 => bnd (x4 + (1 : Int32)) (fun v12 => D_X10_inReels_40 x k4 n x1 v11 x3 v12)))))
noncomputable def D_X10_inReels_4 (x : MM) : Nat → Int32 → Int32 → Int32 → Option Int32
  | 0, _, _, _ => none
  | n + 1, x1, x2, x3 => if (gi x 1 18) ≤ x3 then (some (x2)) else (b1 (D_X10_ofFeeder x3 (0 : Int32) x) (fun v1 => if v1 = x1 then (b1 (D_X10_ofFeeder x3 (2 : Int32) x) (fun v3 => bnd ((x2 + v3)) (fun v5 => D_X10_inReels_40 x (D_X10_inReels_4 x n) FU x1 v5 x3 (0 : Int32)))) else (bnd (x3 + (1 : Int32)) (fun v13 => D_X10_inReels_4 x n x1 x2 v13))))
noncomputable def D_X10_inReels (x1 : Int32) (x : MM) : Option Int32 := D_X10_inReels_4 x FU x1 (0 : Int32) (0 : Int32)
set_option maxHeartbeats 4000000 in
set_option maxRecDepth 100000 in
theorem c_X10_inReels (l : Launch) {D : va_G} {cs : Nat → ClassId} {adx : Nat → Nat} {Wf : MM → va_W} (hLx : Ln 9 adx (xsh cs adx) Wf) (hAd : ∀ a0_ b0_ : MM, (Wf a0_).map (fun q => q.1) = (Wf b0_).map (fun q => q.1)) (x : MM) (x1 : Int32) {rr : Int32} (hD : D_X10_inReels x1 x = some (rr)) : Ct l yX10_inReels cX10_inReels 5 (some .int) 1 22 D cs [.ref (adx 0), .int x1] (Wf x) (Wf x) (some (.int rr)) := by
  refine Ct.ofW (by decide) (Nat.le_of_ble_eq_true rfl) rfl ?_
  intro p e s m0 below meth c A Q ls args hx hb hr hml hlocks hown hts hK hP hD1 hSS hS hA1 hl hret
  have hT : ∀ w ∈ TBL, w.before args s = true := fun w h => hts w (List.mem_cons_of_mem _ h)
  have Fx0 : Fx p l m0 c cX10_inReels 5 s args yX10_inReels cX10_inReels 5 (some .int) D cs A := ⟨hx, hb, hml, hown, hts, hK, hSS⟩
  have hown : s.vm.findClass RX10 = some m0.cls := hown
  have hl : lv_has ls 5 [(0, .ref (adx 0)), (1, .int x1)] := hl
  unfold D_X10_inReels at hD
  have c_40 : ∀ (k4 : Int32 → Int32 → Int32 → Option Int32) (hk4 : ∀ (x1 : Int32) (x2 : Int32) (x3 : Int32) (H : Heap) (locs : List Loc) (ls : Array Slot), k4 x1 x2 x3 = some (rr) → va_P D vwCl (Wf x) H → va_S A s.heap H locs → lv_has ls 5 [(0, .ref (adx 0)), (1, .int x1), (2, .int x2), (3, .int x3)] → W p l e ({ frames := 1, cells := 0, slots := 0, locals := 22 } : Room) s m0 args below meth c H locs 0 0 Q (F0 m0 4 ls [])) (n : Nat), ∀ (x1 : Int32) (x2 : Int32) (x3 : Int32) (x4 : Int32) (H : Heap) (locs : List Loc) (ls : Array Slot), D_X10_inReels_40 x k4 n x1 x2 x3 x4 = some (rr) → va_P D vwCl (Wf x) H → va_S A s.heap H locs → lv_has ls 5 [(0, .ref (adx 0)), (1, .int x1), (2, .int x2), (3, .int x3), (4, .int x4)] → W p l e ({ frames := 1, cells := 0, slots := 0, locals := 22 } : Room) s m0 args below meth c H locs 0 0 Q (F0 m0 40 ls []) := by
    intro k4 hk4 n
    induction n with
    | zero =>
      intro x1 x2 x3 x4 H locs ls hD hP hS hl
      exact nn_el hD
    | succ n ih =>
      intro x1 x2 x3 x4 H locs ls hD hP hS hl
      rw [D_X10_inReels_40] at hD
      refine lv_iload hx hb dX10_inReels_40 (lv_at hl 4 rfl) ?_
      refine lv_aload_n hx hb dX10_inReels_42 rfl (lv_at hl 0 rfl) ?_
      refine lv_iload_n hx hb dX10_inReels_43 rfl (lv_at hl 3 rfl) ?_
      refine lv_iconst (v := (4 : Int32)) hx hb dX10_inReels_44 (by decide) ?_
      obtain ⟨v6, z7, hD⟩ := b1_el hD
      refine rcV  (As := [.int x3, .int (4 : Int32)]) (rest := [.int x4]) Fx0 (c_X10_ofFeeder l hLx hAd x x3 (4 : Int32) z7) hP (hD1 _ (hAd _ _)) hS (hA1 _ _ (hAd _ _) hS.1) hLx (Nat.le_of_ble_eq_true rfl) (xs0 _ _) rfl tw_7_222 tw_7_219 tw_7_221 ts_113 tw_1_13 yd_X10_ofFeeder ⟨(Nat.le_of_ble_eq_true rfl), (Nat.le_of_ble_eq_true rfl)⟩ rfl hl.1 rfl (Nat.le_of_ble_eq_true rfl) dX10_inReels_45 (fun H locs hP hS => ?_)
      refine lv_icmp_ge (tgt := 70) hx hb dX10_inReels_48 (by decide) (fun c => ?_) (fun c => ?_)
      · have hD := ifp hD c
        obtain ⟨v8, ev8, hD⟩ := bnd_el hD
        refine lv_iinc (v := v8) (lv' := [(3, .int v8), (0, .ref (adx 0)), (1, .int x1), (2, .int x2), (4, .int x4)]) hx hb dX10_inReels_70 hl (k := 3) rfl (by rw [ev8]; rfl) (by decide) rfl (fun ls hl => ?_)
        refine lv_goto (tgt := 4) hx hb dX10_inReels_73 (by decide) ?_
        exact hk4 _ _ _ _ _ _ hD hP hS (lv_sub hl [1, 2, 3, 0] rfl)
      · have hD := ifn hD c
        refine lv_iload_n hx hb dX10_inReels_51 rfl (lv_at hl 2 rfl) ?_
        refine lv_aload_n hx hb dX10_inReels_52 rfl (lv_at hl 0 rfl) ?_
        refine lv_iload_n hx hb dX10_inReels_53 rfl (lv_at hl 3 rfl) ?_
        refine lv_bipush (v := (8 : Int32)) hx hb dX10_inReels_54 (by decide) ?_
        refine lv_iload hx hb dX10_inReels_56 (lv_at hl 4 rfl) ?_
        refine lv_iadd hx hb dX10_inReels_58 ?_
        obtain ⟨v9, z10, hD⟩ := b1_el hD
        refine rcV  (As := [.int x3, .int ((8 : Int32) + x4)]) (rest := [.int x2]) Fx0 (c_X10_ofFeeder l hLx hAd x x3 ((8 : Int32) + x4) z10) hP (hD1 _ (hAd _ _)) hS (hA1 _ _ (hAd _ _) hS.1) hLx (Nat.le_of_ble_eq_true rfl) (xs0 _ _) rfl tw_7_222 tw_7_219 tw_7_221 ts_113 tw_1_13 yd_X10_ofFeeder ⟨(Nat.le_of_ble_eq_true rfl), (Nat.le_of_ble_eq_true rfl)⟩ rfl hl.1 rfl (Nat.le_of_ble_eq_true rfl) dX10_inReels_59 (fun H locs hP hS => ?_)
        refine lv_iadd hx hb dX10_inReels_62 ?_
        obtain ⟨v11, ev11, hD⟩ := bnd_el hD
        refine lv_nmi ev11 ?_
        refine lv_istore_n (lv' := [(2, .int v11), (0, .ref (adx 0)), (1, .int x1), (3, .int x3), (4, .int x4)]) hx hb dX10_inReels_63 rfl hl (by decide) rfl (fun ls hl => ?_)
        obtain ⟨v12, ev12, hD⟩ := bnd_el hD
        refine lv_iinc (v := v12) (lv' := [(4, .int v12), (2, .int v11), (0, .ref (adx 0)), (1, .int x1), (3, .int x3)]) hx hb dX10_inReels_64 hl (k := 4) rfl (by rw [ev12]; rfl) (by decide) rfl (fun ls hl => ?_)
        refine lv_goto (tgt := 40) hx hb dX10_inReels_67 (by decide) ?_
        exact ih _ _ _ _ _ _ _ hD hP hS (lv_sub hl [2, 3, 1, 4, 0] rfl)
  have c_4 : ∀ (n : Nat), ∀ (x1 : Int32) (x2 : Int32) (x3 : Int32) (H : Heap) (locs : List Loc) (ls : Array Slot), D_X10_inReels_4 x n x1 x2 x3 = some (rr) → va_P D vwCl (Wf x) H → va_S A s.heap H locs → lv_has ls 5 [(0, .ref (adx 0)), (1, .int x1), (2, .int x2), (3, .int x3)] → W p l e ({ frames := 1, cells := 0, slots := 0, locals := 22 } : Room) s m0 args below meth c H locs 0 0 Q (F0 m0 4 ls []) := by
    intro n
    induction n with
    | zero =>
      intro x1 x2 x3 H locs ls hD hP hS hl
      exact nn_el hD
    | succ n ih =>
      intro x1 x2 x3 H locs ls hD hP hS hl
      rw [D_X10_inReels_4] at hD
      refine lv_iload_n hx hb dX10_inReels_4 rfl (lv_at hl 3 rfl) ?_
      refine lv_aload_n hx hb dX10_inReels_5 rfl (lv_at hl 0 rfl) ?_
      refine rg  hx hb hT hu10 hown hK hP hLx 0 0 (Nat.le_of_ble_eq_true rfl) (xs0 _ _) rfl (Nat.le_of_ble_eq_true rfl) (Fx0.T tw_6_215) rfl (v := .ref (adx 1)) rfl dX10_inReels_6 ?_
      refine lv_bipush (v := (18 : Int32)) hx hb dX10_inReels_9 (by decide) ?_
      refine riald  hx hb hK hP hLx 1 (Nat.le_of_ble_eq_true rfl) (xs1 _ _) (by decide) (j := 18) (by decide) dX10_inReels_11 ?_
      refine lv_icmp_ge (tgt := 76) hx hb dX10_inReels_12 (by decide) (fun c => ?_) (fun c => ?_)
      · have hD := ifp hD c
        refine lv_iload_n hx hb dX10_inReels_76 rfl (lv_at hl 2 rfl) ?_
        obtain rfl := es1 hD
        exact hret _ _ _ hP hS (fun Qc hq => W.iret hx hb hr hq hS.2.2 dX10_inReels_77 hlocks)
      · have hD := ifn hD c
        refine lv_aload_n hx hb dX10_inReels_15 rfl (lv_at hl 0 rfl) ?_
        refine lv_iload_n hx hb dX10_inReels_16 rfl (lv_at hl 3 rfl) ?_
        refine lv_iconst (v := (0 : Int32)) hx hb dX10_inReels_17 (by decide) ?_
        obtain ⟨v1, z2, hD⟩ := b1_el hD
        refine rcV  (As := [.int x3, .int (0 : Int32)]) (rest := []) Fx0 (c_X10_ofFeeder l hLx hAd x x3 (0 : Int32) z2) hP (hD1 _ (hAd _ _)) hS (hA1 _ _ (hAd _ _) hS.1) hLx (Nat.le_of_ble_eq_true rfl) (xs0 _ _) rfl tw_7_222 tw_7_219 tw_7_221 ts_113 tw_1_13 yd_X10_ofFeeder ⟨(Nat.le_of_ble_eq_true rfl), (Nat.le_of_ble_eq_true rfl)⟩ rfl hl.1 rfl (Nat.le_of_ble_eq_true rfl) dX10_inReels_18 (fun H locs hP hS => ?_)
        refine lv_iload_n hx hb dX10_inReels_21 rfl (lv_at hl 1 rfl) ?_
        refine lv_icmp_eq (tgt := 28) hx hb dX10_inReels_22 (by decide) (fun c => ?_) (fun c => ?_)
        · have hD := ifp hD c
          refine lv_iload_n hx hb dX10_inReels_28 rfl (lv_at hl 2 rfl) ?_
          refine lv_aload_n hx hb dX10_inReels_29 rfl (lv_at hl 0 rfl) ?_
          refine lv_iload_n hx hb dX10_inReels_30 rfl (lv_at hl 3 rfl) ?_
          refine lv_iconst (v := (2 : Int32)) hx hb dX10_inReels_31 (by decide) ?_
          obtain ⟨v3, z4, hD⟩ := b1_el hD
          refine rcV  (As := [.int x3, .int (2 : Int32)]) (rest := [.int x2]) Fx0 (c_X10_ofFeeder l hLx hAd x x3 (2 : Int32) z4) hP (hD1 _ (hAd _ _)) hS (hA1 _ _ (hAd _ _) hS.1) hLx (Nat.le_of_ble_eq_true rfl) (xs0 _ _) rfl tw_7_222 tw_7_219 tw_7_221 ts_113 tw_1_13 yd_X10_ofFeeder ⟨(Nat.le_of_ble_eq_true rfl), (Nat.le_of_ble_eq_true rfl)⟩ rfl hl.1 rfl (Nat.le_of_ble_eq_true rfl) dX10_inReels_32 (fun H locs hP hS => ?_)
          refine lv_iadd hx hb dX10_inReels_35 ?_
          obtain ⟨v5, ev5, hD⟩ := bnd_el hD
          refine lv_nmi ev5 ?_
          refine lv_istore_n (lv' := [(2, .int v5), (0, .ref (adx 0)), (1, .int x1), (3, .int x3)]) hx hb dX10_inReels_36 rfl hl (by decide) rfl (fun ls hl => ?_)
          refine lv_iconst (v := (0 : Int32)) hx hb dX10_inReels_37 (by decide) ?_
          refine lv_istore (lv' := [(4, .int (0 : Int32)), (2, .int v5), (0, .ref (adx 0)), (1, .int x1), (3, .int x3)]) hx hb dX10_inReels_38 hl (by decide) rfl (fun ls hl => ?_)
          exact c_40 _ ih FU _ _ _ _ _ _ _ hD hP hS (lv_sub hl [2, 3, 1, 4, 0] rfl)
        · have hD := ifn hD c
          refine lv_goto (tgt := 70) hx hb dX10_inReels_25 (by decide) ?_
          obtain ⟨v13, ev13, hD⟩ := bnd_el hD
          refine lv_iinc (v := v13) (lv' := [(3, .int v13), (0, .ref (adx 0)), (1, .int x1), (2, .int x2)]) hx hb dX10_inReels_70 hl (k := 3) rfl (by rw [ev13]; rfl) (by decide) rfl (fun ls hl => ?_)
          refine lv_goto (tgt := 4) hx hb dX10_inReels_73 (by decide) ?_
          exact ih _ _ _ _ _ _ hD hP hS (lv_sub hl [1, 2, 3, 0] rfl)
  refine lv_iconst (v := (0 : Int32)) hx hb dX10_inReels_0 (by decide) ?_
  refine lv_istore_n (lv' := [(2, .int (0 : Int32)), (0, .ref (adx 0)), (1, .int x1)]) hx hb dX10_inReels_1 rfl hl (by decide) rfl (fun ls hl => ?_)
  refine lv_iconst (v := (0 : Int32)) hx hb dX10_inReels_2 (by decide) ?_
  refine lv_istore_n (lv' := [(3, .int (0 : Int32)), (2, .int (0 : Int32)), (0, .ref (adx 0)), (1, .int x1)]) hx hb dX10_inReels_3 rfl hl (by decide) rfl (fun ls hl => ?_)
  exact c_4 FU _ _ _ _ _ _ hD hP hS (lv_sub hl [2, 3, 1, 0] rfl)

noncomputable def D_X10_toldOf (x1 : Int32) (x2 : Int32) (x : MM) : Option Int32 := if x2 = (0 : Int32) then (b1 (D_X10_booked x1 (0 : Int32) x) (fun v1 => some (v1))) else (if x2 = (1 : Int32) then (b1 (D_X10_inReels x1 x) (fun v3 => some (v3))) else (if x2 = (2 : Int32) then (b1 (D_X10_held x1 x) (fun v5 => some (v5))) else (b1 (D_X10_booked x1 (((1 : Int32) + x2) - (3 : Int32)) x) (fun v7 => some (v7)))))
set_option maxHeartbeats 4000000 in
set_option maxRecDepth 100000 in
theorem c_X10_toldOf (l : Launch) {D : va_G} {cs : Nat → ClassId} {adx : Nat → Nat} {Wf : MM → va_W} (hLx : Ln 9 adx (xsh cs adx) Wf) (hAd : ∀ a0_ b0_ : MM, (Wf a0_).map (fun q => q.1) = (Wf b0_).map (fun q => q.1)) (x : MM) (x1 : Int32) (x2 : Int32) {rr : Int32} (hD : D_X10_toldOf x1 x2 x = some (rr)) : Ct l yX10_toldOf cX10_toldOf 3 (some .int) 2 46 D cs [.ref (adx 0), .int x1, .int x2] (Wf x) (Wf x) (some (.int rr)) := by
  refine Ct.ofW (by decide) (Nat.le_of_ble_eq_true rfl) rfl ?_
  intro p e s m0 below meth c A Q ls args hx hb hr hml hlocks hown hts hK hP hD1 hSS hS hA1 hl hret
  have hT : ∀ w ∈ TBL, w.before args s = true := fun w h => hts w (List.mem_cons_of_mem _ h)
  have Fx0 : Fx p l m0 c cX10_toldOf 3 s args yX10_toldOf cX10_toldOf 3 (some .int) D cs A := ⟨hx, hb, hml, hown, hts, hK, hSS⟩
  have hown : s.vm.findClass RX10 = some m0.cls := hown
  have hl : lv_has ls 3 [(0, .ref (adx 0)), (1, .int x1), (2, .int x2)] := hl
  unfold D_X10_toldOf at hD
  refine lv_iload_n hx hb dX10_toldOf_0 rfl (lv_at hl 2 rfl) ?_
  by_cases sw1_0 : x2 = (0 : Int32)
  · have hD := ifp hD sw1_0
    refine lv_tableIn (off := 27) (tgt := 28) hx hb dX10_toldOf_1 (by rw [sw1_0]; decide) (by rw [sw1_0]; decide) (by rw [sw1_0]; rfl) (by decide) ?_
    refine lv_aload_n hx hb dX10_toldOf_28 rfl (lv_at hl 0 rfl) ?_
    refine lv_iload_n hx hb dX10_toldOf_29 rfl (lv_at hl 1 rfl) ?_
    refine lv_iconst (v := (0 : Int32)) hx hb dX10_toldOf_30 (by decide) ?_
    obtain ⟨v1, z2, hD⟩ := b1_el hD
    refine rcV  (As := [.int x1, .int (0 : Int32)]) (rest := []) Fx0 (c_X10_booked l hLx hAd x x1 (0 : Int32) z2) hP (hD1 _ (hAd _ _)) hS (hA1 _ _ (hAd _ _) hS.1) hLx (Nat.le_of_ble_eq_true rfl) (xs0 _ _) rfl tw_9_23 tw_9_20 tw_9_22 ts_152 tw_1_13 yd_X10_booked ⟨(Nat.le_of_ble_eq_true rfl), (Nat.le_of_ble_eq_true rfl)⟩ rfl hl.1 rfl (Nat.le_of_ble_eq_true rfl) dX10_toldOf_31 (fun H locs hP hS => ?_)
    obtain rfl := es1 hD
    exact hret _ _ _ hP hS (fun Qc hq => W.iret hx hb hr hq hS.2.2 dX10_toldOf_34 hlocks)
  · have hD := ifn hD sw1_0
    by_cases sw1_1 : x2 = (1 : Int32)
    · have hD := ifp hD sw1_1
      refine lv_tableIn (off := 34) (tgt := 35) hx hb dX10_toldOf_1 (by rw [sw1_1]; decide) (by rw [sw1_1]; decide) (by rw [sw1_1]; rfl) (by decide) ?_
      refine lv_aload_n hx hb dX10_toldOf_35 rfl (lv_at hl 0 rfl) ?_
      refine lv_iload_n hx hb dX10_toldOf_36 rfl (lv_at hl 1 rfl) ?_
      obtain ⟨v3, z4, hD⟩ := b1_el hD
      refine rcV  (As := [.int x1]) (rest := []) Fx0 (c_X10_inReels l hLx hAd x x1 z4) hP (hD1 _ (hAd _ _)) hS (hA1 _ _ (hAd _ _) hS.1) hLx (Nat.le_of_ble_eq_true rfl) (xs0 _ _) rfl tw_9_27 tw_9_24 tw_9_26 ts_153 tw_1_13 yd_X10_inReels ⟨(Nat.le_of_ble_eq_true rfl), (Nat.le_of_ble_eq_true rfl)⟩ rfl hl.1 rfl (Nat.le_of_ble_eq_true rfl) dX10_toldOf_37 (fun H locs hP hS => ?_)
      obtain rfl := es1 hD
      exact hret _ _ _ hP hS (fun Qc hq => W.iret hx hb hr hq hS.2.2 dX10_toldOf_40 hlocks)
    · have hD := ifn hD sw1_1
      by_cases sw1_2 : x2 = (2 : Int32)
      · have hD := ifp hD sw1_2
        refine lv_tableIn (off := 40) (tgt := 41) hx hb dX10_toldOf_1 (by rw [sw1_2]; decide) (by rw [sw1_2]; decide) (by rw [sw1_2]; rfl) (by decide) ?_
        refine lv_aload_n hx hb dX10_toldOf_41 rfl (lv_at hl 0 rfl) ?_
        refine lv_iload_n hx hb dX10_toldOf_42 rfl (lv_at hl 1 rfl) ?_
        obtain ⟨v5, z6, hD⟩ := b1_el hD
        refine rcV  (As := [.int x1]) (rest := []) Fx0 (c_X10_held l hLx hAd x x1 z6) hP (hD1 _ (hAd _ _)) hS (hA1 _ _ (hAd _ _) hS.1) hLx (Nat.le_of_ble_eq_true rfl) (xs0 _ _) rfl tw_8_219 tw_8_216 tw_8_218 ts_147 tw_1_13 yd_X10_held ⟨(Nat.le_of_ble_eq_true rfl), (Nat.le_of_ble_eq_true rfl)⟩ rfl hl.1 rfl (Nat.le_of_ble_eq_true rfl) dX10_toldOf_43 (fun H locs hP hS => ?_)
        obtain rfl := es1 hD
        exact hret _ _ _ hP hS (fun Qc hq => W.iret hx hb hr hq hS.2.2 dX10_toldOf_46 hlocks)
      · have hD := ifn hD sw1_2
        refine lv_tableOut (tgt := 47) hx hb dX10_toldOf_1 (swo 0 2 (fun k h1 h2 e => ?_)) (by decide) ?_
        · have h3 : k = 0 ∨ k = 1 ∨ k = 2 ∨ False := by omega
          rcases h3 with rfl | rfl | rfl | h3
          · exact absurd e sw1_0
          · exact absurd e sw1_1
          · exact absurd e sw1_2
          · exact h3
        refine lv_aload_n hx hb dX10_toldOf_47 rfl (lv_at hl 0 rfl) ?_
        refine lv_iload_n hx hb dX10_toldOf_48 rfl (lv_at hl 1 rfl) ?_
        refine lv_iconst (v := (1 : Int32)) hx hb dX10_toldOf_49 (by decide) ?_
        refine lv_iload_n hx hb dX10_toldOf_50 rfl (lv_at hl 2 rfl) ?_
        refine lv_iadd hx hb dX10_toldOf_51 ?_
        refine lv_iconst (v := (3 : Int32)) hx hb dX10_toldOf_52 (by decide) ?_
        refine lv_isub hx hb dX10_toldOf_53 ?_
        obtain ⟨v7, z8, hD⟩ := b1_el hD
        refine rcV  (As := [.int x1, .int (((1 : Int32) + x2) - (3 : Int32))]) (rest := []) Fx0 (c_X10_booked l hLx hAd x x1 (((1 : Int32) + x2) - (3 : Int32)) z8) hP (hD1 _ (hAd _ _)) hS (hA1 _ _ (hAd _ _) hS.1) hLx (Nat.le_of_ble_eq_true rfl) (xs0 _ _) rfl tw_9_23 tw_9_20 tw_9_22 ts_152 tw_1_13 yd_X10_booked ⟨(Nat.le_of_ble_eq_true rfl), (Nat.le_of_ble_eq_true rfl)⟩ rfl hl.1 rfl (Nat.le_of_ble_eq_true rfl) dX10_toldOf_54 (fun H locs hP hS => ?_)
        obtain rfl := es1 hD
        exact hret _ _ _ hP hS (fun Qc hq => W.iret hx hb hr hq hS.2.2 dX10_toldOf_57 hlocks)

noncomputable def D_X10_ledger (x1 : Int32) (x2 : Int32) (x : MM) : Option (Int32 × MM) := b2 (D_X10_noKind x1 x) (fun v1 m2 => if v1 = 0 then (b1 (D_X10_in x2.toInt64 (0 : Int64) (6 : Int64)) (fun v4 => if v4 = 0 then (b2 (D_X10_throwsIf (1 : Int32) (2 : Int32) m2) (fun v11 m12 => if v11 = 0 then (b1 (D_X10_toldOf x1 x2 m12) (fun v14 => some (v14, m12))) else (some ((0 : Int32), m12)))) else (b2 (D_X10_throwsIf (0 : Int32) (2 : Int32) m2) (fun v6 m7 => if v6 = 0 then (b1 (D_X10_toldOf x1 x2 m7) (fun v9 => some (v9, m7))) else (some ((0 : Int32), m7)))))) else (some ((0 : Int32), m2)))
set_option maxHeartbeats 4000000 in
set_option maxRecDepth 100000 in
theorem c_X10_ledger (l : Launch) {D : va_G} {cs : Nat → ClassId} {adx : Nat → Nat} {Wf : MM → va_W} (hLx : Ln 9 adx (xsh cs adx) Wf) (hAd : ∀ a0_ b0_ : MM, (Wf a0_).map (fun q => q.1) = (Wf b0_).map (fun q => q.1)) (x : MM) (x1 : Int32) (x2 : Int32) {rr : Int32} {x' : MM} (hD : D_X10_ledger x1 x2 x = some (rr, x')) : Ct l yX10_ledger cX10_ledger 3 (some .int) 3 68 D cs [.ref (adx 0), .int x1, .int x2] (Wf x) (Wf x') (some (.int rr)) := by
  refine Ct.ofW (by decide) (Nat.le_of_ble_eq_true rfl) (hAd _ _) ?_
  intro p e s m0 below meth c A Q ls args hx hb hr hml hlocks hown hts hK hP hD1 hSS hS hA1 hl hret
  have hT : ∀ w ∈ TBL, w.before args s = true := fun w h => hts w (List.mem_cons_of_mem _ h)
  have Fx0 : Fx p l m0 c cX10_ledger 3 s args yX10_ledger cX10_ledger 3 (some .int) D cs A := ⟨hx, hb, hml, hown, hts, hK, hSS⟩
  have hown : s.vm.findClass RX10 = some m0.cls := hown
  have hl : lv_has ls 3 [(0, .ref (adx 0)), (1, .int x1), (2, .int x2)] := hl
  unfold D_X10_ledger at hD
  refine lv_aload_n hx hb dX10_ledger_0 rfl (lv_at hl 0 rfl) ?_
  refine lv_iload_n hx hb dX10_ledger_1 rfl (lv_at hl 1 rfl) ?_
  obtain ⟨v1, m2, z3, hD⟩ := b2_el hD
  refine rcV  (As := [.int x1]) (rest := []) Fx0 (c_X10_noKind l hLx hAd x x1 z3) hP (hD1 _ (hAd _ _)) hS (hA1 _ _ (hAd _ _) hS.1) hLx (Nat.le_of_ble_eq_true rfl) (xs0 _ _) rfl tw_7_206 tw_7_203 tw_7_205 ts_110 tw_1_13 yd_X10_noKind ⟨(Nat.le_of_ble_eq_true rfl), (Nat.le_of_ble_eq_true rfl)⟩ rfl hl.1 rfl (Nat.le_of_ble_eq_true rfl) dX10_ledger_2 (fun H locs hP hS => ?_)
  refine lv_if_ne (tgt := 33) hx hb dX10_ledger_5 (by decide) (fun c => ?_) (fun c => ?_)
  · have hD := ifn hD c
    refine lv_iconst (v := (0 : Int32)) hx hb dX10_ledger_33 (by decide) ?_
    refine lv_goto (tgt := 43) hx hb dX10_ledger_34 (by decide) ?_
    obtain ⟨rfl, rfl⟩ := es2 hD
    exact hret _ _ _ hP hS (fun Qc hq => W.iret hx hb hr hq hS.2.2 dX10_ledger_43 hlocks)
  · have hD := ifp hD c
    refine lv_aload_n hx hb dX10_ledger_8 rfl (lv_at hl 0 rfl) ?_
    refine lv_iload_n hx hb dX10_ledger_9 rfl (lv_at hl 2 rfl) ?_
    refine lv_i2l (v := x2.toInt64) hx hb dX10_ledger_10 rfl ?_
    refine lv_lconst (v := (0 : Int64)) hx hb dX10_ledger_11 (by decide) ?_
    refine lv_ldc2 (v := (6 : Int64)) hx hb hown (Fx0.T tw_9_15) dX10_ledger_12 ?_
    obtain ⟨v4, z5, hD⟩ := b1_el hD
    refine rcS (As := [.long x2.toInt64, .long (0 : Int64), .long (6 : Int64)]) (rest := [.ref (adx 0)]) Fx0 (c_X10_in l x2.toInt64 (0 : Int64) (6 : Int64) z5) hP (hD1 _ (hAd _ _)) hS (hA1 _ _ (hAd _ _) hS.1) tw_7_69 tw_7_67 tw_7_68 tw_1_13 yd_X10_in ⟨(Nat.le_of_ble_eq_true rfl), (Nat.le_of_ble_eq_true rfl)⟩ rfl hl.1 rfl (Nat.le_of_ble_eq_true rfl) dX10_ledger_15 (fun H locs hP hS => ?_)
    refine lv_if_ne (tgt := 25) hx hb dX10_ledger_18 (by decide) (fun c => ?_) (fun c => ?_)
    · have hD := ifn hD c
      refine lv_iconst (v := (0 : Int32)) hx hb dX10_ledger_25 (by decide) ?_
      refine lv_iconst (v := (2 : Int32)) hx hb dX10_ledger_26 (by decide) ?_
      obtain ⟨v6, m7, z8, hD⟩ := b2_el hD
      refine rcV  (As := [.int (0 : Int32), .int (2 : Int32)]) (rest := []) Fx0 (c_X10_throwsIf l hLx hAd m2 (0 : Int32) (2 : Int32) z8) hP (hD1 _ (hAd _ _)) hS (hA1 _ _ (hAd _ _) hS.1) hLx (Nat.le_of_ble_eq_true rfl) (xs0 _ _) rfl tw_7_163 tw_7_160 tw_7_162 ts_105 tw_1_13 yd_X10_throwsIf ⟨(Nat.le_of_ble_eq_true rfl), (Nat.le_of_ble_eq_true rfl)⟩ rfl hl.1 rfl (Nat.le_of_ble_eq_true rfl) dX10_ledger_27 (fun H locs hP hS => ?_)
      refine lv_if_eq (tgt := 37) hx hb dX10_ledger_30 (by decide) (fun c => ?_) (fun c => ?_)
      · have hD := ifp hD c
        refine lv_aload_n hx hb dX10_ledger_37 rfl (lv_at hl 0 rfl) ?_
        refine lv_iload_n hx hb dX10_ledger_38 rfl (lv_at hl 1 rfl) ?_
        refine lv_iload_n hx hb dX10_ledger_39 rfl (lv_at hl 2 rfl) ?_
        obtain ⟨v9, z10, hD⟩ := b1_el hD
        refine rcV  (As := [.int x1, .int x2]) (rest := []) Fx0 (c_X10_toldOf l hLx hAd m7 x1 x2 z10) hP (hD1 _ (hAd _ _)) hS (hA1 _ _ (hAd _ _) hS.1) hLx (Nat.le_of_ble_eq_true rfl) (xs0 _ _) rfl tw_9_19 tw_9_16 tw_9_18 ts_151 tw_1_13 yd_X10_toldOf ⟨(Nat.le_of_ble_eq_true rfl), (Nat.le_of_ble_eq_true rfl)⟩ rfl hl.1 rfl (Nat.le_of_ble_eq_true rfl) dX10_ledger_40 (fun H locs hP hS => ?_)
        obtain ⟨rfl, rfl⟩ := es2 hD
        exact hret _ _ _ hP hS (fun Qc hq => W.iret hx hb hr hq hS.2.2 dX10_ledger_43 hlocks)
      · have hD := ifn hD c
        refine lv_iconst (v := (0 : Int32)) hx hb dX10_ledger_33 (by decide) ?_
        refine lv_goto (tgt := 43) hx hb dX10_ledger_34 (by decide) ?_
        obtain ⟨rfl, rfl⟩ := es2 hD
        exact hret _ _ _ hP hS (fun Qc hq => W.iret hx hb hr hq hS.2.2 dX10_ledger_43 hlocks)
    · have hD := ifp hD c
      refine lv_iconst (v := (1 : Int32)) hx hb dX10_ledger_21 (by decide) ?_
      refine lv_goto (tgt := 26) hx hb dX10_ledger_22 (by decide) ?_
      refine lv_iconst (v := (2 : Int32)) hx hb dX10_ledger_26 (by decide) ?_
      obtain ⟨v11, m12, z13, hD⟩ := b2_el hD
      refine rcV  (As := [.int (1 : Int32), .int (2 : Int32)]) (rest := []) Fx0 (c_X10_throwsIf l hLx hAd m2 (1 : Int32) (2 : Int32) z13) hP (hD1 _ (hAd _ _)) hS (hA1 _ _ (hAd _ _) hS.1) hLx (Nat.le_of_ble_eq_true rfl) (xs0 _ _) rfl tw_7_163 tw_7_160 tw_7_162 ts_105 tw_1_13 yd_X10_throwsIf ⟨(Nat.le_of_ble_eq_true rfl), (Nat.le_of_ble_eq_true rfl)⟩ rfl hl.1 rfl (Nat.le_of_ble_eq_true rfl) dX10_ledger_27 (fun H locs hP hS => ?_)
      refine lv_if_eq (tgt := 37) hx hb dX10_ledger_30 (by decide) (fun c => ?_) (fun c => ?_)
      · have hD := ifp hD c
        refine lv_aload_n hx hb dX10_ledger_37 rfl (lv_at hl 0 rfl) ?_
        refine lv_iload_n hx hb dX10_ledger_38 rfl (lv_at hl 1 rfl) ?_
        refine lv_iload_n hx hb dX10_ledger_39 rfl (lv_at hl 2 rfl) ?_
        obtain ⟨v14, z15, hD⟩ := b1_el hD
        refine rcV  (As := [.int x1, .int x2]) (rest := []) Fx0 (c_X10_toldOf l hLx hAd m12 x1 x2 z15) hP (hD1 _ (hAd _ _)) hS (hA1 _ _ (hAd _ _) hS.1) hLx (Nat.le_of_ble_eq_true rfl) (xs0 _ _) rfl tw_9_19 tw_9_16 tw_9_18 ts_151 tw_1_13 yd_X10_toldOf ⟨(Nat.le_of_ble_eq_true rfl), (Nat.le_of_ble_eq_true rfl)⟩ rfl hl.1 rfl (Nat.le_of_ble_eq_true rfl) dX10_ledger_40 (fun H locs hP hS => ?_)
        obtain ⟨rfl, rfl⟩ := es2 hD
        exact hret _ _ _ hP hS (fun Qc hq => W.iret hx hb hr hq hS.2.2 dX10_ledger_43 hlocks)
      · have hD := ifn hD c
        refine lv_iconst (v := (0 : Int32)) hx hb dX10_ledger_33 (by decide) ?_
        refine lv_goto (tgt := 43) hx hb dX10_ledger_34 (by decide) ?_
        obtain ⟨rfl, rfl⟩ := es2 hD
        exact hret _ _ _ hP hS (fun Qc hq => W.iret hx hb hr hq hS.2.2 dX10_ledger_43 hlocks)

noncomputable def D_X10_isBalanced_25 (k9 : Int32 → Int32 → MM → Option (Int32 × MM)) : Nat → Int32 → Int32 → Int32 → Int32 → MM → Option (Int32 × MM)
  | 0, _, _, _, _, _ => none
  | n + 1, x1, x2, x3, x4, x => if (6 : Int32) < x4 then (if x1 = 0 then (bnd (x2 + (1 : Int32)) (fun v3 => k9 (0 : Int32) v3 x)) else (b1 (D_X10_toldOf x2 (0 : Int32) x) (fun v4 => if x3 = v4 then (bnd (x2 + (1 : Int32)) (fun v7 => k9 (1 : Int32) v7 x)) else (bnd (x2 + (1 : Int32)) (fun v6 => k9 (0 : Int32) v6 x))))) else (b1 (D_X10_toldOf x2 x4 x) (fun v8 => bnd ((x3 + v8)) (fun v10 => bnd (x4 + (1 : Int32)) (fun v11 => D_X10_isBalanced_25 k9 n x1 x2 v10 v11 x))))
noncomputable def D_X10_isBalanced_9 : Nat → Int32 → Int32 → MM → Option (Int32 × MM)
  | 0, _, _, _ => none
  | n + 1, x1, x2, x => if (gi x 1 17) ≤ x2 then (if x1 = 0 ∨ x1 = 1 then some (x1, x) else none) else (D_X10_isBalanced_25 (D_X10_isBalanced_9 n) FU x1 x2 (0 : Int32) (1 : Int32) x)
noncomputable def D_X10_isBalanced (x : MM) : Option (Int32 × MM) := bnd (si x 0 6 (0 : Int32)) (fun m1 => D_X10_isBalanced_9 FU (1 : Int32) (0 : Int32) m1)
set_option maxHeartbeats 4000000 in
set_option maxRecDepth 100000 in
theorem c_X10_isBalanced (l : Launch) {D : va_G} {cs : Nat → ClassId} {adx : Nat → Nat} {Wf : MM → va_W} (hLx : Ln 9 adx (xsh cs adx) Wf) (hAd : ∀ a0_ b0_ : MM, (Wf a0_).map (fun q => q.1) = (Wf b0_).map (fun q => q.1)) (x : MM) {rr : Int32} {x' : MM} (hD : D_X10_isBalanced x = some (rr, x')) : Ct l yX10_isBalanced cX10_isBalanced 5 (some .boolean) 3 68 D cs [.ref (adx 0)] (Wf x) (Wf x') (some (.int rr)) := by
  refine Ct.ofW (by decide) (Nat.le_of_ble_eq_true rfl) (hAd _ _) ?_
  intro p e s m0 below meth c A Q ls args hx hb hr hml hlocks hown hts hK hP hD1 hSS hS hA1 hl hret
  have hT : ∀ w ∈ TBL, w.before args s = true := fun w h => hts w (List.mem_cons_of_mem _ h)
  have Fx0 : Fx p l m0 c cX10_isBalanced 5 s args yX10_isBalanced cX10_isBalanced 5 (some .boolean) D cs A := ⟨hx, hb, hml, hown, hts, hK, hSS⟩
  have hown : s.vm.findClass RX10 = some m0.cls := hown
  have hl : lv_has ls 5 [(0, .ref (adx 0))] := hl
  unfold D_X10_isBalanced at hD
  have c_25 : ∀ (k9 : Int32 → Int32 → MM → Option (Int32 × MM)) (hk9 : ∀ (x1 : Int32) (x2 : Int32) (x : MM) (H : Heap) (locs : List Loc) (ls : Array Slot), k9 x1 x2 x = some (rr, x') → va_P D vwCl (Wf x) H → va_S A s.heap H locs → lv_has ls 5 [(0, .ref (adx 0)), (1, .int x1), (2, .int x2)] → W p l e ({ frames := 3, cells := 0, slots := 0, locals := 68 } : Room) s m0 args below meth c H locs 0 0 Q (F0 m0 9 ls [])) (n : Nat), ∀ (x1 : Int32) (x2 : Int32) (x3 : Int32) (x4 : Int32) (x : MM) (H : Heap) (locs : List Loc) (ls : Array Slot), D_X10_isBalanced_25 k9 n x1 x2 x3 x4 x = some (rr, x') → va_P D vwCl (Wf x) H → va_S A s.heap H locs → lv_has ls 5 [(0, .ref (adx 0)), (1, .int x1), (2, .int x2), (3, .int x3), (4, .int x4)] → W p l e ({ frames := 3, cells := 0, slots := 0, locals := 68 } : Room) s m0 args below meth c H locs 0 0 Q (F0 m0 25 ls []) := by
    intro k9 hk9 n
    induction n with
    | zero =>
      intro x1 x2 x3 x4 x H locs ls hD hP hS hl
      exact nn_el hD
    | succ n ih =>
      intro x1 x2 x3 x4 x H locs ls hD hP hS hl
      rw [D_X10_isBalanced_25] at hD
      refine lv_iload hx hb dX10_isBalanced_25 (lv_at hl 4 rfl) ?_
      refine lv_bipush (v := (6 : Int32)) hx hb dX10_isBalanced_27 (by decide) ?_
      refine lv_icmp_gt (tgt := 48) hx hb dX10_isBalanced_29 (by decide) (fun c => ?_) (fun c => ?_)
      · have hD := ifp hD c
        refine lv_iload_n hx hb dX10_isBalanced_48 rfl (lv_at hl 1 rfl) ?_
        refine lv_if_eq (tgt := 66) hx hb dX10_isBalanced_49 (by decide) (fun c => ?_) (fun c => ?_)
        · have hD := ifp hD c
          refine lv_iconst (v := (0 : Int32)) hx hb dX10_isBalanced_66 (by decide) ?_
          refine lv_istore_n (lv' := [(1, .int (0 : Int32)), (0, .ref (adx 0)), (2, .int x2), (3, .int x3), (4, .int x4)]) hx hb dX10_isBalanced_67 rfl hl (by decide) rfl (fun ls hl => ?_)
          obtain ⟨v3, ev3, hD⟩ := bnd_el hD
          refine lv_iinc (v := v3) (lv' := [(2, .int v3), (1, .int (0 : Int32)), (0, .ref (adx 0)), (3, .int x3), (4, .int x4)]) hx hb dX10_isBalanced_68 hl (k := 2) rfl (by rw [ev3]; rfl) (by decide) rfl (fun ls hl => ?_)
          refine lv_goto (tgt := 9) hx hb dX10_isBalanced_71 (by decide) ?_
          exact hk9 _ _ _ _ _ _ hD hP hS (lv_sub hl [2, 1, 0] rfl)
        · have hD := ifn hD c
          refine lv_iload_n hx hb dX10_isBalanced_52 rfl (lv_at hl 3 rfl) ?_
          refine lv_aload_n hx hb dX10_isBalanced_53 rfl (lv_at hl 0 rfl) ?_
          refine lv_iload_n hx hb dX10_isBalanced_54 rfl (lv_at hl 2 rfl) ?_
          refine lv_iconst (v := (0 : Int32)) hx hb dX10_isBalanced_55 (by decide) ?_
          obtain ⟨v4, z5, hD⟩ := b1_el hD
          refine rcV  (As := [.int x2, .int (0 : Int32)]) (rest := [.int x3]) Fx0 (c_X10_toldOf l hLx hAd x x2 (0 : Int32) z5) hP (hD1 _ (hAd _ _)) hS (hA1 _ _ (hAd _ _) hS.1) hLx (Nat.le_of_ble_eq_true rfl) (xs0 _ _) rfl tw_9_19 tw_9_16 tw_9_18 ts_151 tw_1_13 yd_X10_toldOf ⟨(Nat.le_of_ble_eq_true rfl), (Nat.le_of_ble_eq_true rfl)⟩ rfl hl.1 rfl (Nat.le_of_ble_eq_true rfl) dX10_isBalanced_56 (fun H locs hP hS => ?_)
          refine lv_icmp_ne (tgt := 66) hx hb dX10_isBalanced_59 (by decide) (fun c => ?_) (fun c => ?_)
          · have hD := ifn hD c
            refine lv_iconst (v := (0 : Int32)) hx hb dX10_isBalanced_66 (by decide) ?_
            refine lv_istore_n (lv' := [(1, .int (0 : Int32)), (0, .ref (adx 0)), (2, .int x2), (3, .int x3), (4, .int x4)]) hx hb dX10_isBalanced_67 rfl hl (by decide) rfl (fun ls hl => ?_)
            obtain ⟨v6, ev6, hD⟩ := bnd_el hD
            refine lv_iinc (v := v6) (lv' := [(2, .int v6), (1, .int (0 : Int32)), (0, .ref (adx 0)), (3, .int x3), (4, .int x4)]) hx hb dX10_isBalanced_68 hl (k := 2) rfl (by rw [ev6]; rfl) (by decide) rfl (fun ls hl => ?_)
            refine lv_goto (tgt := 9) hx hb dX10_isBalanced_71 (by decide) ?_
            exact hk9 _ _ _ _ _ _ hD hP hS (lv_sub hl [2, 1, 0] rfl)
          · have hD := ifp hD c
            refine lv_iconst (v := (1 : Int32)) hx hb dX10_isBalanced_62 (by decide) ?_
            refine lv_goto (tgt := 67) hx hb dX10_isBalanced_63 (by decide) ?_
            refine lv_istore_n (lv' := [(1, .int (1 : Int32)), (0, .ref (adx 0)), (2, .int x2), (3, .int x3), (4, .int x4)]) hx hb dX10_isBalanced_67 rfl hl (by decide) rfl (fun ls hl => ?_)
            obtain ⟨v7, ev7, hD⟩ := bnd_el hD
            refine lv_iinc (v := v7) (lv' := [(2, .int v7), (1, .int (1 : Int32)), (0, .ref (adx 0)), (3, .int x3), (4, .int x4)]) hx hb dX10_isBalanced_68 hl (k := 2) rfl (by rw [ev7]; rfl) (by decide) rfl (fun ls hl => ?_)
            refine lv_goto (tgt := 9) hx hb dX10_isBalanced_71 (by decide) ?_
            exact hk9 _ _ _ _ _ _ hD hP hS (lv_sub hl [2, 1, 0] rfl)
      · have hD := ifn hD c
        refine lv_iload_n hx hb dX10_isBalanced_32 rfl (lv_at hl 3 rfl) ?_
        refine lv_aload_n hx hb dX10_isBalanced_33 rfl (lv_at hl 0 rfl) ?_
        refine lv_iload_n hx hb dX10_isBalanced_34 rfl (lv_at hl 2 rfl) ?_
        refine lv_iload hx hb dX10_isBalanced_35 (lv_at hl 4 rfl) ?_
        obtain ⟨v8, z9, hD⟩ := b1_el hD
        refine rcV  (As := [.int x2, .int x4]) (rest := [.int x3]) Fx0 (c_X10_toldOf l hLx hAd x x2 x4 z9) hP (hD1 _ (hAd _ _)) hS (hA1 _ _ (hAd _ _) hS.1) hLx (Nat.le_of_ble_eq_true rfl) (xs0 _ _) rfl tw_9_19 tw_9_16 tw_9_18 ts_151 tw_1_13 yd_X10_toldOf ⟨(Nat.le_of_ble_eq_true rfl), (Nat.le_of_ble_eq_true rfl)⟩ rfl hl.1 rfl (Nat.le_of_ble_eq_true rfl) dX10_isBalanced_37 (fun H locs hP hS => ?_)
        refine lv_iadd hx hb dX10_isBalanced_40 ?_
        obtain ⟨v10, ev10, hD⟩ := bnd_el hD
        refine lv_nmi ev10 ?_
        refine lv_istore_n (lv' := [(3, .int v10), (0, .ref (adx 0)), (1, .int x1), (2, .int x2), (4, .int x4)]) hx hb dX10_isBalanced_41 rfl hl (by decide) rfl (fun ls hl => ?_)
        obtain ⟨v11, ev11, hD⟩ := bnd_el hD
        refine lv_iinc (v := v11) (lv' := [(4, .int v11), (3, .int v10), (0, .ref (adx 0)), (1, .int x1), (2, .int x2)]) hx hb dX10_isBalanced_42 hl (k := 4) rfl (by rw [ev11]; rfl) (by decide) rfl (fun ls hl => ?_)
        refine lv_goto (tgt := 25) hx hb dX10_isBalanced_45 (by decide) ?_
        exact ih _ _ _ _ _ _ _ _ hD hP hS (lv_sub hl [2, 3, 4, 1, 0] rfl)
  have c_9 : ∀ (n : Nat), ∀ (x1 : Int32) (x2 : Int32) (x : MM) (H : Heap) (locs : List Loc) (ls : Array Slot), D_X10_isBalanced_9 n x1 x2 x = some (rr, x') → va_P D vwCl (Wf x) H → va_S A s.heap H locs → lv_has ls 5 [(0, .ref (adx 0)), (1, .int x1), (2, .int x2)] → W p l e ({ frames := 3, cells := 0, slots := 0, locals := 68 } : Room) s m0 args below meth c H locs 0 0 Q (F0 m0 9 ls []) := by
    intro n
    induction n with
    | zero =>
      intro x1 x2 x H locs ls hD hP hS hl
      exact nn_el hD
    | succ n ih =>
      intro x1 x2 x H locs ls hD hP hS hl
      rw [D_X10_isBalanced_9] at hD
      refine lv_iload_n hx hb dX10_isBalanced_9 rfl (lv_at hl 2 rfl) ?_
      refine lv_aload_n hx hb dX10_isBalanced_10 rfl (lv_at hl 0 rfl) ?_
      refine rg  hx hb hT hu10 hown hK hP hLx 0 0 (Nat.le_of_ble_eq_true rfl) (xs0 _ _) rfl (Nat.le_of_ble_eq_true rfl) (Fx0.T tw_6_215) rfl (v := .ref (adx 1)) rfl dX10_isBalanced_11 ?_
      refine lv_bipush (v := (17 : Int32)) hx hb dX10_isBalanced_14 (by decide) ?_
      refine riald  hx hb hK hP hLx 1 (Nat.le_of_ble_eq_true rfl) (xs1 _ _) (by decide) (j := 17) (by decide) dX10_isBalanced_16 ?_
      refine lv_icmp_ge (tgt := 74) hx hb dX10_isBalanced_17 (by decide) (fun c => ?_) (fun c => ?_)
      · have hD := ifp hD c
        refine lv_iload_n hx hb dX10_isBalanced_74 rfl (lv_at hl 1 rfl) ?_
        obtain ⟨h2, hD⟩ := gb_el hD
        obtain ⟨rfl, rfl⟩ := es2 hD
        exact hret _ _ _ hP hS (fun Qc hq => W.zret hx hb hr (nbz h2).1 hq hS.2.2 dX10_isBalanced_75 hlocks)
      · have hD := ifn hD c
        refine lv_iconst (v := (0 : Int32)) hx hb dX10_isBalanced_20 (by decide) ?_
        refine lv_istore_n (lv' := [(3, .int (0 : Int32)), (0, .ref (adx 0)), (1, .int x1), (2, .int x2)]) hx hb dX10_isBalanced_21 rfl hl (by decide) rfl (fun ls hl => ?_)
        refine lv_iconst (v := (1 : Int32)) hx hb dX10_isBalanced_22 (by decide) ?_
        refine lv_istore (lv' := [(4, .int (1 : Int32)), (3, .int (0 : Int32)), (0, .ref (adx 0)), (1, .int x1), (2, .int x2)]) hx hb dX10_isBalanced_23 hl (by decide) rfl (fun ls hl => ?_)
        exact c_25 _ ih FU _ _ _ _ _ _ _ _ hD hP hS (lv_sub hl [2, 3, 4, 1, 0] rfl)
  refine lv_aload_n hx hb dX10_isBalanced_0 rfl (lv_at hl 0 rfl) ?_
  refine lv_iconst (v := (0 : Int32)) hx hb dX10_isBalanced_1 (by decide) ?_
  obtain ⟨m1, em1, hD⟩ := bnd_el hD
  refine rp  hx hb hT hu10 tyX10_ok nmX10 hown hK hP (hD1 _ (hAd _ _)) hS hLx 0 6 (Nat.le_of_ble_eq_true rfl) (xs0 _ _) (xs0 _ _) rfl (Nat.le_of_ble_eq_true rfl) (Fx0.T tw_6_221) rfl rfl rfl rfl (Nat.le_of_ble_eq_true rfl) dX10_isBalanced_2 em1 (fun H locs hP hS => ?_)
  refine lv_iconst (v := (1 : Int32)) hx hb dX10_isBalanced_5 (by decide) ?_
  refine lv_istore_n (lv' := [(1, .int (1 : Int32)), (0, .ref (adx 0))]) hx hb dX10_isBalanced_6 rfl hl (by decide) rfl (fun ls hl => ?_)
  refine lv_iconst (v := (0 : Int32)) hx hb dX10_isBalanced_7 (by decide) ?_
  refine lv_istore_n (lv' := [(2, .int (0 : Int32)), (1, .int (1 : Int32)), (0, .ref (adx 0))]) hx hb dX10_isBalanced_8 rfl hl (by decide) rfl (fun ls hl => ?_)
  exact c_9 FU _ _ _ _ _ _ hD hP hS (lv_sub hl [2, 1, 0] rfl)

noncomputable def D_X10_now (x : MM) : Option (Int32 × MM) := bnd (si x 0 6 (0 : Int32)) (fun m1 => some ((gi m1 1 23), m1))
set_option maxHeartbeats 4000000 in
set_option maxRecDepth 100000 in
theorem c_X10_now (l : Launch) {D : va_G} {cs : Nat → ClassId} {adx : Nat → Nat} {Wf : MM → va_W} (hLx : Ln 9 adx (xsh cs adx) Wf) (hAd : ∀ a0_ b0_ : MM, (Wf a0_).map (fun q => q.1) = (Wf b0_).map (fun q => q.1)) (x : MM) {rr : Int32} {x' : MM} (hD : D_X10_now x = some (rr, x')) : Ct l yX10_now cX10_now 1 (some .int) 0 0 D cs [.ref (adx 0)] (Wf x) (Wf x') (some (.int rr)) := by
  refine Ct.ofW (by decide) (Nat.le_of_ble_eq_true rfl) (hAd _ _) ?_
  intro p e s m0 below meth c A Q ls args hx hb hr hml hlocks hown hts hK hP hD1 hSS hS hA1 hl hret
  have hT : ∀ w ∈ TBL, w.before args s = true := fun w h => hts w (List.mem_cons_of_mem _ h)
  have Fx0 : Fx p l m0 c cX10_now 1 s args yX10_now cX10_now 1 (some .int) D cs A := ⟨hx, hb, hml, hown, hts, hK, hSS⟩
  have hown : s.vm.findClass RX10 = some m0.cls := hown
  have hl : lv_has ls 1 [(0, .ref (adx 0))] := hl
  unfold D_X10_now at hD
  refine lv_aload_n hx hb dX10_now_0 rfl (lv_at hl 0 rfl) ?_
  refine lv_iconst (v := (0 : Int32)) hx hb dX10_now_1 (by decide) ?_
  obtain ⟨m1, em1, hD⟩ := bnd_el hD
  refine rp  hx hb hT hu10 tyX10_ok nmX10 hown hK hP (hD1 _ (hAd _ _)) hS hLx 0 6 (Nat.le_of_ble_eq_true rfl) (xs0 _ _) (xs0 _ _) rfl (Nat.le_of_ble_eq_true rfl) (Fx0.T tw_6_221) rfl rfl rfl rfl (Nat.le_of_ble_eq_true rfl) dX10_now_2 em1 (fun H locs hP hS => ?_)
  refine lv_aload_n hx hb dX10_now_5 rfl (lv_at hl 0 rfl) ?_
  refine rg  hx hb hT hu10 hown hK hP hLx 0 0 (Nat.le_of_ble_eq_true rfl) (xs0 _ _) rfl (Nat.le_of_ble_eq_true rfl) (Fx0.T tw_6_215) rfl (v := .ref (adx 1)) rfl dX10_now_6 ?_
  refine lv_bipush (v := (23 : Int32)) hx hb dX10_now_9 (by decide) ?_
  refine riald  hx hb hK hP hLx 1 (Nat.le_of_ble_eq_true rfl) (xs1 _ _) (by decide) (j := 23) (by decide) dX10_now_11 ?_
  obtain ⟨rfl, rfl⟩ := es2 hD
  exact hret _ _ _ hP hS (fun Qc hq => W.iret hx hb hr hq hS.2.2 dX10_now_12 hlocks)

noncomputable def D_X10_head (x1 : Int32) (x : MM) : Option (Int32 × MM) := b2 (D_X10_fine x) (fun v1 m2 => if v1 = 0 then (if ((21 : Int32) + x1) < 0 ∨ 640 ≤ ((21 : Int32) + x1).toNatClampNeg then none else (some ((gi m2 1 (((21 : Int32) + x1).toNatClampNeg)), m2))) else (b1 (D_X10_in x1.toInt64 (0 : Int64) (1 : Int64)) (fun v5 => if v5 = 0 then (b2 (D_X10_throwsIf (1 : Int32) (1 : Int32) m2) (fun v11 m12 => if v11 = 0 then (if ((21 : Int32) + x1) < 0 ∨ 640 ≤ ((21 : Int32) + x1).toNatClampNeg then none else (some ((gi m12 1 (((21 : Int32) + x1).toNatClampNeg)), m12))) else (some ((0 : Int32), m12)))) else (b2 (D_X10_throwsIf (0 : Int32) (1 : Int32) m2) (fun v7 m8 => if v7 = 0 then (if ((21 : Int32) + x1) < 0 ∨ 640 ≤ ((21 : Int32) + x1).toNatClampNeg then none else (some ((gi m8 1 (((21 : Int32) + x1).toNatClampNeg)), m8))) else (some ((0 : Int32), m8)))))))
set_option maxHeartbeats 4000000 in
set_option maxRecDepth 100000 in
theorem c_X10_head (l : Launch) {D : va_G} {cs : Nat → ClassId} {adx : Nat → Nat} {Wf : MM → va_W} (hLx : Ln 9 adx (xsh cs adx) Wf) (hAd : ∀ a0_ b0_ : MM, (Wf a0_).map (fun q => q.1) = (Wf b0_).map (fun q => q.1)) (x : MM) (x1 : Int32) {rr : Int32} {x' : MM} (hD : D_X10_head x1 x = some (rr, x')) : Ct l yX10_head cX10_head 2 (some .int) 1 25 D cs [.ref (adx 0), .int x1] (Wf x) (Wf x') (some (.int rr)) := by
  refine Ct.ofW (by decide) (Nat.le_of_ble_eq_true rfl) (hAd _ _) ?_
  intro p e s m0 below meth c A Q ls args hx hb hr hml hlocks hown hts hK hP hD1 hSS hS hA1 hl hret
  have hT : ∀ w ∈ TBL, w.before args s = true := fun w h => hts w (List.mem_cons_of_mem _ h)
  have Fx0 : Fx p l m0 c cX10_head 2 s args yX10_head cX10_head 2 (some .int) D cs A := ⟨hx, hb, hml, hown, hts, hK, hSS⟩
  have hown : s.vm.findClass RX10 = some m0.cls := hown
  have hl : lv_has ls 2 [(0, .ref (adx 0)), (1, .int x1)] := hl
  unfold D_X10_head at hD
  refine lv_aload_n hx hb dX10_head_0 rfl (lv_at hl 0 rfl) ?_
  obtain ⟨v1, m2, z3, hD⟩ := b2_el hD
  refine rcV  (As := []) (rest := []) Fx0 (c_X10_fine l hLx hAd x z3) hP (hD1 _ (hAd _ _)) hS (hA1 _ _ (hAd _ _) hS.1) hLx (Nat.le_of_ble_eq_true rfl) (xs0 _ _) rfl tw_7_158 tw_7_155 tw_7_157 ts_104 tw_1_13 yd_X10_fine ⟨(Nat.le_of_ble_eq_true rfl), (Nat.le_of_ble_eq_true rfl)⟩ rfl hl.1 rfl (Nat.le_of_ble_eq_true rfl) dX10_head_1 (fun H locs hP hS => ?_)
  refine lv_if_eq (tgt := 34) hx hb dX10_head_4 (by decide) (fun c => ?_) (fun c => ?_)
  · have hD := ifp hD c
    refine lv_aload_n hx hb dX10_head_34 rfl (lv_at hl 0 rfl) ?_
    refine rg  hx hb hT hu10 hown hK hP hLx 0 0 (Nat.le_of_ble_eq_true rfl) (xs0 _ _) rfl (Nat.le_of_ble_eq_true rfl) (Fx0.T tw_6_215) rfl (v := .ref (adx 1)) rfl dX10_head_35 ?_
    refine lv_bipush (v := (21 : Int32)) hx hb dX10_head_38 (by decide) ?_
    refine lv_iload_n hx hb dX10_head_40 rfl (lv_at hl 1 rfl) ?_
    refine lv_iadd hx hb dX10_head_41 ?_
    obtain ⟨h4, hD⟩ := gd_el hD
    refine riald  hx hb hK hP hLx 1 (Nat.le_of_ble_eq_true rfl) (xs1 _ _) h4 rfl dX10_head_42 ?_
    obtain ⟨rfl, rfl⟩ := es2 hD
    exact hret _ _ _ hP hS (fun Qc hq => W.iret hx hb hr hq hS.2.2 dX10_head_43 hlocks)
  · have hD := ifn hD c
    refine lv_aload_n hx hb dX10_head_7 rfl (lv_at hl 0 rfl) ?_
    refine lv_iload_n hx hb dX10_head_8 rfl (lv_at hl 1 rfl) ?_
    refine lv_i2l (v := x1.toInt64) hx hb dX10_head_9 rfl ?_
    refine lv_lconst (v := (0 : Int64)) hx hb dX10_head_10 (by decide) ?_
    refine lv_lconst (v := (1 : Int64)) hx hb dX10_head_11 (by decide) ?_
    obtain ⟨v5, z6, hD⟩ := b1_el hD
    refine rcS (As := [.long x1.toInt64, .long (0 : Int64), .long (1 : Int64)]) (rest := [.ref (adx 0)]) Fx0 (c_X10_in l x1.toInt64 (0 : Int64) (1 : Int64) z6) hP (hD1 _ (hAd _ _)) hS (hA1 _ _ (hAd _ _) hS.1) tw_7_69 tw_7_67 tw_7_68 tw_1_13 yd_X10_in ⟨(Nat.le_of_ble_eq_true rfl), (Nat.le_of_ble_eq_true rfl)⟩ rfl hl.1 rfl (Nat.le_of_ble_eq_true rfl) dX10_head_12 (fun H locs hP hS => ?_)
    refine lv_if_ne (tgt := 22) hx hb dX10_head_15 (by decide) (fun c => ?_) (fun c => ?_)
    · have hD := ifn hD c
      refine lv_iconst (v := (0 : Int32)) hx hb dX10_head_22 (by decide) ?_
      refine lv_iconst (v := (1 : Int32)) hx hb dX10_head_23 (by decide) ?_
      obtain ⟨v7, m8, z9, hD⟩ := b2_el hD
      refine rcV  (As := [.int (0 : Int32), .int (1 : Int32)]) (rest := []) Fx0 (c_X10_throwsIf l hLx hAd m2 (0 : Int32) (1 : Int32) z9) hP (hD1 _ (hAd _ _)) hS (hA1 _ _ (hAd _ _) hS.1) hLx (Nat.le_of_ble_eq_true rfl) (xs0 _ _) rfl tw_7_163 tw_7_160 tw_7_162 ts_105 tw_1_13 yd_X10_throwsIf ⟨(Nat.le_of_ble_eq_true rfl), (Nat.le_of_ble_eq_true rfl)⟩ rfl hl.1 rfl (Nat.le_of_ble_eq_true rfl) dX10_head_24 (fun H locs hP hS => ?_)
      refine lv_if_eq (tgt := 34) hx hb dX10_head_27 (by decide) (fun c => ?_) (fun c => ?_)
      · have hD := ifp hD c
        refine lv_aload_n hx hb dX10_head_34 rfl (lv_at hl 0 rfl) ?_
        refine rg  hx hb hT hu10 hown hK hP hLx 0 0 (Nat.le_of_ble_eq_true rfl) (xs0 _ _) rfl (Nat.le_of_ble_eq_true rfl) (Fx0.T tw_6_215) rfl (v := .ref (adx 1)) rfl dX10_head_35 ?_
        refine lv_bipush (v := (21 : Int32)) hx hb dX10_head_38 (by decide) ?_
        refine lv_iload_n hx hb dX10_head_40 rfl (lv_at hl 1 rfl) ?_
        refine lv_iadd hx hb dX10_head_41 ?_
        obtain ⟨h10, hD⟩ := gd_el hD
        refine riald  hx hb hK hP hLx 1 (Nat.le_of_ble_eq_true rfl) (xs1 _ _) h10 rfl dX10_head_42 ?_
        obtain ⟨rfl, rfl⟩ := es2 hD
        exact hret _ _ _ hP hS (fun Qc hq => W.iret hx hb hr hq hS.2.2 dX10_head_43 hlocks)
      · have hD := ifn hD c
        refine lv_iconst (v := (0 : Int32)) hx hb dX10_head_30 (by decide) ?_
        refine lv_goto (tgt := 43) hx hb dX10_head_31 (by decide) ?_
        obtain ⟨rfl, rfl⟩ := es2 hD
        exact hret _ _ _ hP hS (fun Qc hq => W.iret hx hb hr hq hS.2.2 dX10_head_43 hlocks)
    · have hD := ifp hD c
      refine lv_iconst (v := (1 : Int32)) hx hb dX10_head_18 (by decide) ?_
      refine lv_goto (tgt := 23) hx hb dX10_head_19 (by decide) ?_
      refine lv_iconst (v := (1 : Int32)) hx hb dX10_head_23 (by decide) ?_
      obtain ⟨v11, m12, z13, hD⟩ := b2_el hD
      refine rcV  (As := [.int (1 : Int32), .int (1 : Int32)]) (rest := []) Fx0 (c_X10_throwsIf l hLx hAd m2 (1 : Int32) (1 : Int32) z13) hP (hD1 _ (hAd _ _)) hS (hA1 _ _ (hAd _ _) hS.1) hLx (Nat.le_of_ble_eq_true rfl) (xs0 _ _) rfl tw_7_163 tw_7_160 tw_7_162 ts_105 tw_1_13 yd_X10_throwsIf ⟨(Nat.le_of_ble_eq_true rfl), (Nat.le_of_ble_eq_true rfl)⟩ rfl hl.1 rfl (Nat.le_of_ble_eq_true rfl) dX10_head_24 (fun H locs hP hS => ?_)
      refine lv_if_eq (tgt := 34) hx hb dX10_head_27 (by decide) (fun c => ?_) (fun c => ?_)
      · have hD := ifp hD c
        refine lv_aload_n hx hb dX10_head_34 rfl (lv_at hl 0 rfl) ?_
        refine rg  hx hb hT hu10 hown hK hP hLx 0 0 (Nat.le_of_ble_eq_true rfl) (xs0 _ _) rfl (Nat.le_of_ble_eq_true rfl) (Fx0.T tw_6_215) rfl (v := .ref (adx 1)) rfl dX10_head_35 ?_
        refine lv_bipush (v := (21 : Int32)) hx hb dX10_head_38 (by decide) ?_
        refine lv_iload_n hx hb dX10_head_40 rfl (lv_at hl 1 rfl) ?_
        refine lv_iadd hx hb dX10_head_41 ?_
        obtain ⟨h14, hD⟩ := gd_el hD
        refine riald  hx hb hK hP hLx 1 (Nat.le_of_ble_eq_true rfl) (xs1 _ _) h14 rfl dX10_head_42 ?_
        obtain ⟨rfl, rfl⟩ := es2 hD
        exact hret _ _ _ hP hS (fun Qc hq => W.iret hx hb hr hq hS.2.2 dX10_head_43 hlocks)
      · have hD := ifn hD c
        refine lv_iconst (v := (0 : Int32)) hx hb dX10_head_30 (by decide) ?_
        refine lv_goto (tgt := 43) hx hb dX10_head_31 (by decide) ?_
        obtain ⟨rfl, rfl⟩ := es2 hD
        exact hret _ _ _ hP hS (fun Qc hq => W.iret hx hb hr hq hS.2.2 dX10_head_43 hlocks)

noncomputable def D_X10_noAction (x1 : Int32) (x : MM) : Option (Int32 × MM) := bnd (si x 0 6 (0 : Int32)) (fun m1 => b1 (D_X10_in x1.toInt64 (1 : Int64) (6 : Int64)) (fun v2 => if v2 = 0 then (b2 (D_X10_throwsIf (1 : Int32) (1 : Int32) m1) (fun v8 m9 => if v8 = 0 ∨ v8 = 1 then some (v8, m9) else none)) else (b2 (D_X10_throwsIf (0 : Int32) (1 : Int32) m1) (fun v4 m5 => if v4 = 0 ∨ v4 = 1 then some (v4, m5) else none))))
set_option maxHeartbeats 4000000 in
set_option maxRecDepth 100000 in
theorem c_X10_noAction (l : Launch) {D : va_G} {cs : Nat → ClassId} {adx : Nat → Nat} {Wf : MM → va_W} (hLx : Ln 9 adx (xsh cs adx) Wf) (hAd : ∀ a0_ b0_ : MM, (Wf a0_).map (fun q => q.1) = (Wf b0_).map (fun q => q.1)) (x : MM) (x1 : Int32) {rr : Int32} {x' : MM} (hD : D_X10_noAction x1 x = some (rr, x')) : Ct l yX10_noAction cX10_noAction 2 (some .boolean) 1 25 D cs [.ref (adx 0), .int x1] (Wf x) (Wf x') (some (.int rr)) := by
  refine Ct.ofW (by decide) (Nat.le_of_ble_eq_true rfl) (hAd _ _) ?_
  intro p e s m0 below meth c A Q ls args hx hb hr hml hlocks hown hts hK hP hD1 hSS hS hA1 hl hret
  have hT : ∀ w ∈ TBL, w.before args s = true := fun w h => hts w (List.mem_cons_of_mem _ h)
  have Fx0 : Fx p l m0 c cX10_noAction 2 s args yX10_noAction cX10_noAction 2 (some .boolean) D cs A := ⟨hx, hb, hml, hown, hts, hK, hSS⟩
  have hown : s.vm.findClass RX10 = some m0.cls := hown
  have hl : lv_has ls 2 [(0, .ref (adx 0)), (1, .int x1)] := hl
  unfold D_X10_noAction at hD
  refine lv_aload_n hx hb dX10_noAction_0 rfl (lv_at hl 0 rfl) ?_
  refine lv_iconst (v := (0 : Int32)) hx hb dX10_noAction_1 (by decide) ?_
  obtain ⟨m1, em1, hD⟩ := bnd_el hD
  refine rp  hx hb hT hu10 tyX10_ok nmX10 hown hK hP (hD1 _ (hAd _ _)) hS hLx 0 6 (Nat.le_of_ble_eq_true rfl) (xs0 _ _) (xs0 _ _) rfl (Nat.le_of_ble_eq_true rfl) (Fx0.T tw_6_221) rfl rfl rfl rfl (Nat.le_of_ble_eq_true rfl) dX10_noAction_2 em1 (fun H locs hP hS => ?_)
  refine lv_aload_n hx hb dX10_noAction_5 rfl (lv_at hl 0 rfl) ?_
  refine lv_iload_n hx hb dX10_noAction_6 rfl (lv_at hl 1 rfl) ?_
  refine lv_i2l (v := x1.toInt64) hx hb dX10_noAction_7 rfl ?_
  refine lv_lconst (v := (1 : Int64)) hx hb dX10_noAction_8 (by decide) ?_
  refine lv_ldc2 (v := (6 : Int64)) hx hb hown (Fx0.T tw_9_15) dX10_noAction_9 ?_
  obtain ⟨v2, z3, hD⟩ := b1_el hD
  refine rcS (As := [.long x1.toInt64, .long (1 : Int64), .long (6 : Int64)]) (rest := [.ref (adx 0)]) Fx0 (c_X10_in l x1.toInt64 (1 : Int64) (6 : Int64) z3) hP (hD1 _ (hAd _ _)) hS (hA1 _ _ (hAd _ _) hS.1) tw_7_69 tw_7_67 tw_7_68 tw_1_13 yd_X10_in ⟨(Nat.le_of_ble_eq_true rfl), (Nat.le_of_ble_eq_true rfl)⟩ rfl hl.1 rfl (Nat.le_of_ble_eq_true rfl) dX10_noAction_12 (fun H locs hP hS => ?_)
  refine lv_if_ne (tgt := 22) hx hb dX10_noAction_15 (by decide) (fun c => ?_) (fun c => ?_)
  · have hD := ifn hD c
    refine lv_iconst (v := (0 : Int32)) hx hb dX10_noAction_22 (by decide) ?_
    refine lv_iconst (v := (1 : Int32)) hx hb dX10_noAction_23 (by decide) ?_
    obtain ⟨v4, m5, z6, hD⟩ := b2_el hD
    refine rcV  (As := [.int (0 : Int32), .int (1 : Int32)]) (rest := []) Fx0 (c_X10_throwsIf l hLx hAd m1 (0 : Int32) (1 : Int32) z6) hP (hD1 _ (hAd _ _)) hS (hA1 _ _ (hAd _ _) hS.1) hLx (Nat.le_of_ble_eq_true rfl) (xs0 _ _) rfl tw_7_163 tw_7_160 tw_7_162 ts_105 tw_1_13 yd_X10_throwsIf ⟨(Nat.le_of_ble_eq_true rfl), (Nat.le_of_ble_eq_true rfl)⟩ rfl hl.1 rfl (Nat.le_of_ble_eq_true rfl) dX10_noAction_24 (fun H locs hP hS => ?_)
    obtain ⟨h7, hD⟩ := gb_el hD
    obtain ⟨rfl, rfl⟩ := es2 hD
    exact hret _ _ _ hP hS (fun Qc hq => W.zret hx hb hr (nbz h7).1 hq hS.2.2 dX10_noAction_27 hlocks)
  · have hD := ifp hD c
    refine lv_iconst (v := (1 : Int32)) hx hb dX10_noAction_18 (by decide) ?_
    refine lv_goto (tgt := 23) hx hb dX10_noAction_19 (by decide) ?_
    refine lv_iconst (v := (1 : Int32)) hx hb dX10_noAction_23 (by decide) ?_
    obtain ⟨v8, m9, z10, hD⟩ := b2_el hD
    refine rcV  (As := [.int (1 : Int32), .int (1 : Int32)]) (rest := []) Fx0 (c_X10_throwsIf l hLx hAd m1 (1 : Int32) (1 : Int32) z10) hP (hD1 _ (hAd _ _)) hS (hA1 _ _ (hAd _ _) hS.1) hLx (Nat.le_of_ble_eq_true rfl) (xs0 _ _) rfl tw_7_163 tw_7_160 tw_7_162 ts_105 tw_1_13 yd_X10_throwsIf ⟨(Nat.le_of_ble_eq_true rfl), (Nat.le_of_ble_eq_true rfl)⟩ rfl hl.1 rfl (Nat.le_of_ble_eq_true rfl) dX10_noAction_24 (fun H locs hP hS => ?_)
    obtain ⟨h11, hD⟩ := gb_el hD
    obtain ⟨rfl, rfl⟩ := es2 hD
    exact hret _ _ _ hP hS (fun Qc hq => W.zret hx hb hr (nbz h11).1 hq hS.2.2 dX10_noAction_27 hlocks)

noncomputable def D_X10_done (x1 : Int32) (x : MM) : Option (Int32 × MM) := b2 (D_X10_noAction x1 x) (fun v1 m2 => if v1 = 0 then (if ((30 : Int32) + x1) < 0 ∨ 640 ≤ ((30 : Int32) + x1).toNatClampNeg then none else (some ((gi m2 1 (((30 : Int32) + x1).toNatClampNeg)), m2))) else (some ((0 : Int32), m2)))
set_option maxHeartbeats 4000000 in
set_option maxRecDepth 100000 in
theorem c_X10_done (l : Launch) {D : va_G} {cs : Nat → ClassId} {adx : Nat → Nat} {Wf : MM → va_W} (hLx : Ln 9 adx (xsh cs adx) Wf) (hAd : ∀ a0_ b0_ : MM, (Wf a0_).map (fun q => q.1) = (Wf b0_).map (fun q => q.1)) (x : MM) (x1 : Int32) {rr : Int32} {x' : MM} (hD : D_X10_done x1 x = some (rr, x')) : Ct l yX10_done cX10_done 2 (some .int) 2 46 D cs [.ref (adx 0), .int x1] (Wf x) (Wf x') (some (.int rr)) := by
  refine Ct.ofW (by decide) (Nat.le_of_ble_eq_true rfl) (hAd _ _) ?_
  intro p e s m0 below meth c A Q ls args hx hb hr hml hlocks hown hts hK hP hD1 hSS hS hA1 hl hret
  have hT : ∀ w ∈ TBL, w.before args s = true := fun w h => hts w (List.mem_cons_of_mem _ h)
  have Fx0 : Fx p l m0 c cX10_done 2 s args yX10_done cX10_done 2 (some .int) D cs A := ⟨hx, hb, hml, hown, hts, hK, hSS⟩
  have hown : s.vm.findClass RX10 = some m0.cls := hown
  have hl : lv_has ls 2 [(0, .ref (adx 0)), (1, .int x1)] := hl
  unfold D_X10_done at hD
  refine lv_aload_n hx hb dX10_done_0 rfl (lv_at hl 0 rfl) ?_
  refine lv_iload_n hx hb dX10_done_1 rfl (lv_at hl 1 rfl) ?_
  obtain ⟨v1, m2, z3, hD⟩ := b2_el hD
  refine rcV  (As := [.int x1]) (rest := []) Fx0 (c_X10_noAction l hLx hAd x x1 z3) hP (hD1 _ (hAd _ _)) hS (hA1 _ _ (hAd _ _) hS.1) hLx (Nat.le_of_ble_eq_true rfl) (xs0 _ _) rfl tw_9_47 tw_9_44 tw_9_46 ts_154 tw_1_13 yd_X10_noAction ⟨(Nat.le_of_ble_eq_true rfl), (Nat.le_of_ble_eq_true rfl)⟩ rfl hl.1 rfl (Nat.le_of_ble_eq_true rfl) dX10_done_2 (fun H locs hP hS => ?_)
  refine lv_if_eq (tgt := 12) hx hb dX10_done_5 (by decide) (fun c => ?_) (fun c => ?_)
  · have hD := ifp hD c
    refine lv_aload_n hx hb dX10_done_12 rfl (lv_at hl 0 rfl) ?_
    refine rg  hx hb hT hu10 hown hK hP hLx 0 0 (Nat.le_of_ble_eq_true rfl) (xs0 _ _) rfl (Nat.le_of_ble_eq_true rfl) (Fx0.T tw_6_215) rfl (v := .ref (adx 1)) rfl dX10_done_13 ?_
    refine lv_bipush (v := (30 : Int32)) hx hb dX10_done_16 (by decide) ?_
    refine lv_iload_n hx hb dX10_done_18 rfl (lv_at hl 1 rfl) ?_
    refine lv_iadd hx hb dX10_done_19 ?_
    obtain ⟨h4, hD⟩ := gd_el hD
    refine riald  hx hb hK hP hLx 1 (Nat.le_of_ble_eq_true rfl) (xs1 _ _) h4 rfl dX10_done_20 ?_
    obtain ⟨rfl, rfl⟩ := es2 hD
    exact hret _ _ _ hP hS (fun Qc hq => W.iret hx hb hr hq hS.2.2 dX10_done_21 hlocks)
  · have hD := ifn hD c
    refine lv_iconst (v := (0 : Int32)) hx hb dX10_done_8 (by decide) ?_
    refine lv_goto (tgt := 21) hx hb dX10_done_9 (by decide) ?_
    obtain ⟨rfl, rfl⟩ := es2 hD
    exact hret _ _ _ hP hS (fun Qc hq => W.iret hx hb hr hq hS.2.2 dX10_done_21 hlocks)

noncomputable def D_X10_timeOf (x1 : Int32) (x : MM) : Option (Int32 × MM) := b2 (D_X10_noAction x1 x) (fun v1 m2 => if v1 = 0 then (if ((37 : Int32) + x1) < 0 ∨ 640 ≤ ((37 : Int32) + x1).toNatClampNeg then none else (some ((gi m2 1 (((37 : Int32) + x1).toNatClampNeg)), m2))) else (some ((0 : Int32), m2)))
set_option maxHeartbeats 4000000 in
set_option maxRecDepth 100000 in
theorem c_X10_timeOf (l : Launch) {D : va_G} {cs : Nat → ClassId} {adx : Nat → Nat} {Wf : MM → va_W} (hLx : Ln 9 adx (xsh cs adx) Wf) (hAd : ∀ a0_ b0_ : MM, (Wf a0_).map (fun q => q.1) = (Wf b0_).map (fun q => q.1)) (x : MM) (x1 : Int32) {rr : Int32} {x' : MM} (hD : D_X10_timeOf x1 x = some (rr, x')) : Ct l yX10_timeOf cX10_timeOf 2 (some .int) 2 46 D cs [.ref (adx 0), .int x1] (Wf x) (Wf x') (some (.int rr)) := by
  refine Ct.ofW (by decide) (Nat.le_of_ble_eq_true rfl) (hAd _ _) ?_
  intro p e s m0 below meth c A Q ls args hx hb hr hml hlocks hown hts hK hP hD1 hSS hS hA1 hl hret
  have hT : ∀ w ∈ TBL, w.before args s = true := fun w h => hts w (List.mem_cons_of_mem _ h)
  have Fx0 : Fx p l m0 c cX10_timeOf 2 s args yX10_timeOf cX10_timeOf 2 (some .int) D cs A := ⟨hx, hb, hml, hown, hts, hK, hSS⟩
  have hown : s.vm.findClass RX10 = some m0.cls := hown
  have hl : lv_has ls 2 [(0, .ref (adx 0)), (1, .int x1)] := hl
  unfold D_X10_timeOf at hD
  refine lv_aload_n hx hb dX10_timeOf_0 rfl (lv_at hl 0 rfl) ?_
  refine lv_iload_n hx hb dX10_timeOf_1 rfl (lv_at hl 1 rfl) ?_
  obtain ⟨v1, m2, z3, hD⟩ := b2_el hD
  refine rcV  (As := [.int x1]) (rest := []) Fx0 (c_X10_noAction l hLx hAd x x1 z3) hP (hD1 _ (hAd _ _)) hS (hA1 _ _ (hAd _ _) hS.1) hLx (Nat.le_of_ble_eq_true rfl) (xs0 _ _) rfl tw_9_47 tw_9_44 tw_9_46 ts_154 tw_1_13 yd_X10_noAction ⟨(Nat.le_of_ble_eq_true rfl), (Nat.le_of_ble_eq_true rfl)⟩ rfl hl.1 rfl (Nat.le_of_ble_eq_true rfl) dX10_timeOf_2 (fun H locs hP hS => ?_)
  refine lv_if_eq (tgt := 12) hx hb dX10_timeOf_5 (by decide) (fun c => ?_) (fun c => ?_)
  · have hD := ifp hD c
    refine lv_aload_n hx hb dX10_timeOf_12 rfl (lv_at hl 0 rfl) ?_
    refine rg  hx hb hT hu10 hown hK hP hLx 0 0 (Nat.le_of_ble_eq_true rfl) (xs0 _ _) rfl (Nat.le_of_ble_eq_true rfl) (Fx0.T tw_6_215) rfl (v := .ref (adx 1)) rfl dX10_timeOf_13 ?_
    refine lv_bipush (v := (37 : Int32)) hx hb dX10_timeOf_16 (by decide) ?_
    refine lv_iload_n hx hb dX10_timeOf_18 rfl (lv_at hl 1 rfl) ?_
    refine lv_iadd hx hb dX10_timeOf_19 ?_
    obtain ⟨h4, hD⟩ := gd_el hD
    refine riald  hx hb hK hP hLx 1 (Nat.le_of_ble_eq_true rfl) (xs1 _ _) h4 rfl dX10_timeOf_20 ?_
    obtain ⟨rfl, rfl⟩ := es2 hD
    exact hret _ _ _ hP hS (fun Qc hq => W.iret hx hb hr hq hS.2.2 dX10_timeOf_21 hlocks)
  · have hD := ifn hD c
    refine lv_iconst (v := (0 : Int32)) hx hb dX10_timeOf_8 (by decide) ?_
    refine lv_goto (tgt := 21) hx hb dX10_timeOf_9 (by decide) ?_
    obtain ⟨rfl, rfl⟩ := es2 hD
    exact hret _ _ _ hP hS (fun Qc hq => W.iret hx hb hr hq hS.2.2 dX10_timeOf_21 hlocks)

noncomputable def D_X10_shareOf (x1 : Int32) (x : MM) : Option (Int32 × MM) := b2 (D_X10_noAction x1 x) (fun v1 m2 => if v1 = 0 then (if (gi m2 1 23) = 0 then (some ((-1 : Int32), m2)) else (if ((37 : Int32) + x1) < 0 ∨ 640 ≤ ((37 : Int32) + x1).toNatClampNeg then none else (if (gi m2 1 23).toInt64 = 0 then none else some ((((1000 : Int64) * (gi m2 1 (((37 : Int32) + x1).toNatClampNeg)).toInt64) / (gi m2 1 23).toInt64).toInt32, m2)))) else (some ((0 : Int32), m2)))
set_option maxHeartbeats 4000000 in
set_option maxRecDepth 100000 in
theorem c_X10_shareOf (l : Launch) {D : va_G} {cs : Nat → ClassId} {adx : Nat → Nat} {Wf : MM → va_W} (hLx : Ln 9 adx (xsh cs adx) Wf) (hAd : ∀ a0_ b0_ : MM, (Wf a0_).map (fun q => q.1) = (Wf b0_).map (fun q => q.1)) (x : MM) (x1 : Int32) {rr : Int32} {x' : MM} (hD : D_X10_shareOf x1 x = some (rr, x')) : Ct l yX10_shareOf cX10_shareOf 2 (some .int) 2 46 D cs [.ref (adx 0), .int x1] (Wf x) (Wf x') (some (.int rr)) := by
  refine Ct.ofW (by decide) (Nat.le_of_ble_eq_true rfl) (hAd _ _) ?_
  intro p e s m0 below meth c A Q ls args hx hb hr hml hlocks hown hts hK hP hD1 hSS hS hA1 hl hret
  have hT : ∀ w ∈ TBL, w.before args s = true := fun w h => hts w (List.mem_cons_of_mem _ h)
  have Fx0 : Fx p l m0 c cX10_shareOf 2 s args yX10_shareOf cX10_shareOf 2 (some .int) D cs A := ⟨hx, hb, hml, hown, hts, hK, hSS⟩
  have hown : s.vm.findClass RX10 = some m0.cls := hown
  have hl : lv_has ls 2 [(0, .ref (adx 0)), (1, .int x1)] := hl
  unfold D_X10_shareOf at hD
  refine lv_aload_n hx hb dX10_shareOf_0 rfl (lv_at hl 0 rfl) ?_
  refine lv_iload_n hx hb dX10_shareOf_1 rfl (lv_at hl 1 rfl) ?_
  obtain ⟨v1, m2, z3, hD⟩ := b2_el hD
  refine rcV  (As := [.int x1]) (rest := []) Fx0 (c_X10_noAction l hLx hAd x x1 z3) hP (hD1 _ (hAd _ _)) hS (hA1 _ _ (hAd _ _) hS.1) hLx (Nat.le_of_ble_eq_true rfl) (xs0 _ _) rfl tw_9_47 tw_9_44 tw_9_46 ts_154 tw_1_13 yd_X10_noAction ⟨(Nat.le_of_ble_eq_true rfl), (Nat.le_of_ble_eq_true rfl)⟩ rfl hl.1 rfl (Nat.le_of_ble_eq_true rfl) dX10_shareOf_2 (fun H locs hP hS => ?_)
  refine lv_if_eq (tgt := 10) hx hb dX10_shareOf_5 (by decide) (fun c => ?_) (fun c => ?_)
  · have hD := ifp hD c
    refine lv_aload_n hx hb dX10_shareOf_10 rfl (lv_at hl 0 rfl) ?_
    refine rg  hx hb hT hu10 hown hK hP hLx 0 0 (Nat.le_of_ble_eq_true rfl) (xs0 _ _) rfl (Nat.le_of_ble_eq_true rfl) (Fx0.T tw_6_215) rfl (v := .ref (adx 1)) rfl dX10_shareOf_11 ?_
    refine lv_bipush (v := (23 : Int32)) hx hb dX10_shareOf_14 (by decide) ?_
    refine riald  hx hb hK hP hLx 1 (Nat.le_of_ble_eq_true rfl) (xs1 _ _) (by decide) (j := 23) (by decide) dX10_shareOf_16 ?_
    refine lv_if_ne (tgt := 24) hx hb dX10_shareOf_17 (by decide) (fun c => ?_) (fun c => ?_)
    · have hD := ifn hD c
      refine lv_ldc2 (v := (1000 : Int64)) hx hb hown (Fx0.T tw_9_56) dX10_shareOf_24 ?_
      refine lv_aload_n hx hb dX10_shareOf_27 rfl (lv_at hl 0 rfl) ?_
      refine rg  hx hb hT hu10 hown hK hP hLx 0 0 (Nat.le_of_ble_eq_true rfl) (xs0 _ _) rfl (Nat.le_of_ble_eq_true rfl) (Fx0.T tw_6_215) rfl (v := .ref (adx 1)) rfl dX10_shareOf_28 ?_
      refine lv_bipush (v := (37 : Int32)) hx hb dX10_shareOf_31 (by decide) ?_
      refine lv_iload_n hx hb dX10_shareOf_33 rfl (lv_at hl 1 rfl) ?_
      refine lv_iadd hx hb dX10_shareOf_34 ?_
      obtain ⟨h4, hD⟩ := gd_el hD
      refine riald  hx hb hK hP hLx 1 (Nat.le_of_ble_eq_true rfl) (xs1 _ _) h4 rfl dX10_shareOf_35 ?_
      refine lv_i2l (v := (gi m2 1 (((37 : Int32) + x1).toNatClampNeg)).toInt64) hx hb dX10_shareOf_36 rfl ?_
      refine lv_lmul hx hb dX10_shareOf_37 ?_
      refine lv_aload_n hx hb dX10_shareOf_38 rfl (lv_at hl 0 rfl) ?_
      refine rg  hx hb hT hu10 hown hK hP hLx 0 0 (Nat.le_of_ble_eq_true rfl) (xs0 _ _) rfl (Nat.le_of_ble_eq_true rfl) (Fx0.T tw_6_215) rfl (v := .ref (adx 1)) rfl dX10_shareOf_39 ?_
      refine lv_bipush (v := (23 : Int32)) hx hb dX10_shareOf_42 (by decide) ?_
      refine riald  hx hb hK hP hLx 1 (Nat.le_of_ble_eq_true rfl) (xs1 _ _) (by decide) (j := 23) (by decide) dX10_shareOf_44 ?_
      refine lv_i2l (v := (gi m2 1 23).toInt64) hx hb dX10_shareOf_45 rfl ?_
      obtain ⟨h5, hD⟩ := gd_el hD
      refine lv_ldiv hx hb dX10_shareOf_46 h5 ?_
      refine lv_l2i (v := (((1000 : Int64) * (gi m2 1 (((37 : Int32) + x1).toNatClampNeg)).toInt64) / (gi m2 1 23).toInt64).toInt32) hx hb dX10_shareOf_47 rfl ?_
      obtain ⟨rfl, rfl⟩ := es2 hD
      exact hret _ _ _ hP hS (fun Qc hq => W.iret hx hb hr hq hS.2.2 dX10_shareOf_48 hlocks)
    · have hD := ifp hD c
      refine lv_iconst (v := (-1 : Int32)) hx hb dX10_shareOf_20 (by decide) ?_
      refine lv_goto (tgt := 48) hx hb dX10_shareOf_21 (by decide) ?_
      obtain ⟨rfl, rfl⟩ := es2 hD
      exact hret _ _ _ hP hS (fun Qc hq => W.iret hx hb hr hq hS.2.2 dX10_shareOf_48 hlocks)
  · have hD := ifn hD c
    refine lv_iconst (v := (0 : Int32)) hx hb dX10_shareOf_8 (by decide) ?_
    obtain ⟨rfl, rfl⟩ := es2 hD
    exact hret _ _ _ hP hS (fun Qc hq => W.iret hx hb hr hq hS.2.2 dX10_shareOf_9 hlocks)

noncomputable def D_X10_lookRate (x : MM) : Option (Int32 × MM) := bnd (si x 0 6 (0 : Int32)) (fun m1 => if (gi m1 1 33) = 0 then (some ((-1 : Int32), m1)) else (if (gi m1 1 33).toInt64 = 0 then none else some ((((1000 : Int64) * (gi m1 1 26).toInt64) / (gi m1 1 33).toInt64).toInt32, m1)))
set_option maxHeartbeats 4000000 in
set_option maxRecDepth 100000 in
theorem c_X10_lookRate (l : Launch) {D : va_G} {cs : Nat → ClassId} {adx : Nat → Nat} {Wf : MM → va_W} (hLx : Ln 9 adx (xsh cs adx) Wf) (hAd : ∀ a0_ b0_ : MM, (Wf a0_).map (fun q => q.1) = (Wf b0_).map (fun q => q.1)) (x : MM) {rr : Int32} {x' : MM} (hD : D_X10_lookRate x = some (rr, x')) : Ct l yX10_lookRate cX10_lookRate 1 (some .int) 0 0 D cs [.ref (adx 0)] (Wf x) (Wf x') (some (.int rr)) := by
  refine Ct.ofW (by decide) (Nat.le_of_ble_eq_true rfl) (hAd _ _) ?_
  intro p e s m0 below meth c A Q ls args hx hb hr hml hlocks hown hts hK hP hD1 hSS hS hA1 hl hret
  have hT : ∀ w ∈ TBL, w.before args s = true := fun w h => hts w (List.mem_cons_of_mem _ h)
  have Fx0 : Fx p l m0 c cX10_lookRate 1 s args yX10_lookRate cX10_lookRate 1 (some .int) D cs A := ⟨hx, hb, hml, hown, hts, hK, hSS⟩
  have hown : s.vm.findClass RX10 = some m0.cls := hown
  have hl : lv_has ls 1 [(0, .ref (adx 0))] := hl
  unfold D_X10_lookRate at hD
  refine lv_aload_n hx hb dX10_lookRate_0 rfl (lv_at hl 0 rfl) ?_
  refine lv_iconst (v := (0 : Int32)) hx hb dX10_lookRate_1 (by decide) ?_
  obtain ⟨m1, em1, hD⟩ := bnd_el hD
  refine rp  hx hb hT hu10 tyX10_ok nmX10 hown hK hP (hD1 _ (hAd _ _)) hS hLx 0 6 (Nat.le_of_ble_eq_true rfl) (xs0 _ _) (xs0 _ _) rfl (Nat.le_of_ble_eq_true rfl) (Fx0.T tw_6_221) rfl rfl rfl rfl (Nat.le_of_ble_eq_true rfl) dX10_lookRate_2 em1 (fun H locs hP hS => ?_)
  refine lv_aload_n hx hb dX10_lookRate_5 rfl (lv_at hl 0 rfl) ?_
  refine rg  hx hb hT hu10 hown hK hP hLx 0 0 (Nat.le_of_ble_eq_true rfl) (xs0 _ _) rfl (Nat.le_of_ble_eq_true rfl) (Fx0.T tw_6_215) rfl (v := .ref (adx 1)) rfl dX10_lookRate_6 ?_
  refine lv_bipush (v := (33 : Int32)) hx hb dX10_lookRate_9 (by decide) ?_
  refine riald  hx hb hK hP hLx 1 (Nat.le_of_ble_eq_true rfl) (xs1 _ _) (by decide) (j := 33) (by decide) dX10_lookRate_11 ?_
  refine lv_if_ne (tgt := 19) hx hb dX10_lookRate_12 (by decide) (fun c => ?_) (fun c => ?_)
  · have hD := ifn hD c
    refine lv_ldc2 (v := (1000 : Int64)) hx hb hown (Fx0.T tw_9_56) dX10_lookRate_19 ?_
    refine lv_aload_n hx hb dX10_lookRate_22 rfl (lv_at hl 0 rfl) ?_
    refine rg  hx hb hT hu10 hown hK hP hLx 0 0 (Nat.le_of_ble_eq_true rfl) (xs0 _ _) rfl (Nat.le_of_ble_eq_true rfl) (Fx0.T tw_6_215) rfl (v := .ref (adx 1)) rfl dX10_lookRate_23 ?_
    refine lv_bipush (v := (26 : Int32)) hx hb dX10_lookRate_26 (by decide) ?_
    refine riald  hx hb hK hP hLx 1 (Nat.le_of_ble_eq_true rfl) (xs1 _ _) (by decide) (j := 26) (by decide) dX10_lookRate_28 ?_
    refine lv_i2l (v := (gi m1 1 26).toInt64) hx hb dX10_lookRate_29 rfl ?_
    refine lv_lmul hx hb dX10_lookRate_30 ?_
    refine lv_aload_n hx hb dX10_lookRate_31 rfl (lv_at hl 0 rfl) ?_
    refine rg  hx hb hT hu10 hown hK hP hLx 0 0 (Nat.le_of_ble_eq_true rfl) (xs0 _ _) rfl (Nat.le_of_ble_eq_true rfl) (Fx0.T tw_6_215) rfl (v := .ref (adx 1)) rfl dX10_lookRate_32 ?_
    refine lv_bipush (v := (33 : Int32)) hx hb dX10_lookRate_35 (by decide) ?_
    refine riald  hx hb hK hP hLx 1 (Nat.le_of_ble_eq_true rfl) (xs1 _ _) (by decide) (j := 33) (by decide) dX10_lookRate_37 ?_
    refine lv_i2l (v := (gi m1 1 33).toInt64) hx hb dX10_lookRate_38 rfl ?_
    obtain ⟨h2, hD⟩ := gd_el hD
    refine lv_ldiv hx hb dX10_lookRate_39 h2 ?_
    refine lv_l2i (v := (((1000 : Int64) * (gi m1 1 26).toInt64) / (gi m1 1 33).toInt64).toInt32) hx hb dX10_lookRate_40 rfl ?_
    obtain ⟨rfl, rfl⟩ := es2 hD
    exact hret _ _ _ hP hS (fun Qc hq => W.iret hx hb hr hq hS.2.2 dX10_lookRate_41 hlocks)
  · have hD := ifp hD c
    refine lv_iconst (v := (-1 : Int32)) hx hb dX10_lookRate_15 (by decide) ?_
    refine lv_goto (tgt := 41) hx hb dX10_lookRate_16 (by decide) ?_
    obtain ⟨rfl, rfl⟩ := es2 hD
    exact hret _ _ _ hP hS (fun Qc hq => W.iret hx hb hr hq hS.2.2 dX10_lookRate_41 hlocks)

noncomputable def D_X10_logSize (x : MM) : Option (Int32 × MM) := bnd (si x 0 6 (0 : Int32)) (fun m1 => some ((gi m1 1 28), m1))
set_option maxHeartbeats 4000000 in
set_option maxRecDepth 100000 in
theorem c_X10_logSize (l : Launch) {D : va_G} {cs : Nat → ClassId} {adx : Nat → Nat} {Wf : MM → va_W} (hLx : Ln 9 adx (xsh cs adx) Wf) (hAd : ∀ a0_ b0_ : MM, (Wf a0_).map (fun q => q.1) = (Wf b0_).map (fun q => q.1)) (x : MM) {rr : Int32} {x' : MM} (hD : D_X10_logSize x = some (rr, x')) : Ct l yX10_logSize cX10_logSize 1 (some .int) 0 0 D cs [.ref (adx 0)] (Wf x) (Wf x') (some (.int rr)) := by
  refine Ct.ofW (by decide) (Nat.le_of_ble_eq_true rfl) (hAd _ _) ?_
  intro p e s m0 below meth c A Q ls args hx hb hr hml hlocks hown hts hK hP hD1 hSS hS hA1 hl hret
  have hT : ∀ w ∈ TBL, w.before args s = true := fun w h => hts w (List.mem_cons_of_mem _ h)
  have Fx0 : Fx p l m0 c cX10_logSize 1 s args yX10_logSize cX10_logSize 1 (some .int) D cs A := ⟨hx, hb, hml, hown, hts, hK, hSS⟩
  have hown : s.vm.findClass RX10 = some m0.cls := hown
  have hl : lv_has ls 1 [(0, .ref (adx 0))] := hl
  unfold D_X10_logSize at hD
  refine lv_aload_n hx hb dX10_logSize_0 rfl (lv_at hl 0 rfl) ?_
  refine lv_iconst (v := (0 : Int32)) hx hb dX10_logSize_1 (by decide) ?_
  obtain ⟨m1, em1, hD⟩ := bnd_el hD
  refine rp  hx hb hT hu10 tyX10_ok nmX10 hown hK hP (hD1 _ (hAd _ _)) hS hLx 0 6 (Nat.le_of_ble_eq_true rfl) (xs0 _ _) (xs0 _ _) rfl (Nat.le_of_ble_eq_true rfl) (Fx0.T tw_6_221) rfl rfl rfl rfl (Nat.le_of_ble_eq_true rfl) dX10_logSize_2 em1 (fun H locs hP hS => ?_)
  refine lv_aload_n hx hb dX10_logSize_5 rfl (lv_at hl 0 rfl) ?_
  refine rg  hx hb hT hu10 hown hK hP hLx 0 0 (Nat.le_of_ble_eq_true rfl) (xs0 _ _) rfl (Nat.le_of_ble_eq_true rfl) (Fx0.T tw_6_215) rfl (v := .ref (adx 1)) rfl dX10_logSize_6 ?_
  refine lv_bipush (v := (28 : Int32)) hx hb dX10_logSize_9 (by decide) ?_
  refine riald  hx hb hK hP hLx 1 (Nat.le_of_ble_eq_true rfl) (xs1 _ _) (by decide) (j := 28) (by decide) dX10_logSize_11 ?_
  obtain ⟨rfl, rfl⟩ := es2 hD
  exact hret _ _ _ hP hS (fun Qc hq => W.iret hx hb hr hq hS.2.2 dX10_logSize_12 hlocks)

noncomputable def D_X10_logEntry_23 (x1 : Int32) (x2 : Int32) (xt0 : Int32) (x : MM) : Option (Int32 × MM) := b2 (D_X10_throwsIf xt0 (1 : Int32) x) (fun v4 m5 => if v4 = 0 then (b1 (D_X10_in x1.toInt64 (0 : Int64) (((gi m5 1 28) - (1 : Int32)).toInt64)) (fun v7 => if v7 = 0 then (some ((-1 : Int32), m5)) else (if (((480 : Int32) + ((3 : Int32) * x1)) + x2) < 0 ∨ 640 ≤ (((480 : Int32) + ((3 : Int32) * x1)) + x2).toNatClampNeg then none else (some ((gi m5 1 ((((480 : Int32) + ((3 : Int32) * x1)) + x2).toNatClampNeg)), m5))))) else (some ((0 : Int32), m5)))
noncomputable def D_X10_logEntry (x1 : Int32) (x2 : Int32) (x : MM) : Option (Int32 × MM) := bnd (si x 0 6 (0 : Int32)) (fun m1 => b1 (D_X10_in x2.toInt64 (0 : Int64) (2 : Int64)) (fun v2 => if v2 = 0 then (D_X10_logEntry_23 x1 x2 (1 : Int32) m1) else (D_X10_logEntry_23 x1 x2 (0 : Int32) m1)))
set_option maxHeartbeats 4000000 in
set_option maxRecDepth 100000 in
theorem c_X10_logEntry (l : Launch) {D : va_G} {cs : Nat → ClassId} {adx : Nat → Nat} {Wf : MM → va_W} (hLx : Ln 9 adx (xsh cs adx) Wf) (hAd : ∀ a0_ b0_ : MM, (Wf a0_).map (fun q => q.1) = (Wf b0_).map (fun q => q.1)) (x : MM) (x1 : Int32) (x2 : Int32) {rr : Int32} {x' : MM} (hD : D_X10_logEntry x1 x2 x = some (rr, x')) : Ct l yX10_logEntry cX10_logEntry 3 (some .int) 1 25 D cs [.ref (adx 0), .int x1, .int x2] (Wf x) (Wf x') (some (.int rr)) := by
  refine Ct.ofW (by decide) (Nat.le_of_ble_eq_true rfl) (hAd _ _) ?_
  intro p e s m0 below meth c A Q ls args hx hb hr hml hlocks hown hts hK hP hD1 hSS hS hA1 hl hret
  have hT : ∀ w ∈ TBL, w.before args s = true := fun w h => hts w (List.mem_cons_of_mem _ h)
  have Fx0 : Fx p l m0 c cX10_logEntry 3 s args yX10_logEntry cX10_logEntry 3 (some .int) D cs A := ⟨hx, hb, hml, hown, hts, hK, hSS⟩
  have hown : s.vm.findClass RX10 = some m0.cls := hown
  have hl : lv_has ls 3 [(0, .ref (adx 0)), (1, .int x1), (2, .int x2)] := hl
  unfold D_X10_logEntry at hD
  have c_23 : ∀ (x1 : Int32) (x2 : Int32) (xt0 : Int32) (x : MM) (H : Heap) (locs : List Loc) (ls : Array Slot), D_X10_logEntry_23 x1 x2 xt0 x = some (rr, x') → va_P D vwCl (Wf x) H → va_S A s.heap H locs → lv_has ls 3 [(0, .ref (adx 0)), (1, .int x1), (2, .int x2)] → W p l e ({ frames := 1, cells := 0, slots := 0, locals := 25 } : Room) s m0 args below meth c H locs 0 0 Q (F0 m0 23 ls [.int xt0, .ref (adx 0)]) := by
    intro x1 x2 xt0 x H locs ls hD hP hS hl
    unfold D_X10_logEntry_23 at hD
    refine lv_iconst (v := (1 : Int32)) hx hb dX10_logEntry_23 (by decide) ?_
    obtain ⟨v4, m5, z6, hD⟩ := b2_el hD
    refine rcV  (As := [.int xt0, .int (1 : Int32)]) (rest := []) Fx0 (c_X10_throwsIf l hLx hAd x xt0 (1 : Int32) z6) hP (hD1 _ (hAd _ _)) hS (hA1 _ _ (hAd _ _) hS.1) hLx (Nat.le_of_ble_eq_true rfl) (xs0 _ _) rfl tw_7_163 tw_7_160 tw_7_162 ts_105 tw_1_13 yd_X10_throwsIf ⟨(Nat.le_of_ble_eq_true rfl), (Nat.le_of_ble_eq_true rfl)⟩ rfl hl.1 rfl (Nat.le_of_ble_eq_true rfl) dX10_logEntry_24 (fun H locs hP hS => ?_)
    refine lv_if_eq (tgt := 32) hx hb dX10_logEntry_27 (by decide) (fun c => ?_) (fun c => ?_)
    · have hD := ifp hD c
      refine lv_iload_n hx hb dX10_logEntry_32 rfl (lv_at hl 1 rfl) ?_
      refine lv_i2l (v := x1.toInt64) hx hb dX10_logEntry_33 rfl ?_
      refine lv_lconst (v := (0 : Int64)) hx hb dX10_logEntry_34 (by decide) ?_
      refine lv_aload_n hx hb dX10_logEntry_35 rfl (lv_at hl 0 rfl) ?_
      refine rg  hx hb hT hu10 hown hK hP hLx 0 0 (Nat.le_of_ble_eq_true rfl) (xs0 _ _) rfl (Nat.le_of_ble_eq_true rfl) (Fx0.T tw_6_215) rfl (v := .ref (adx 1)) rfl dX10_logEntry_36 ?_
      refine lv_bipush (v := (28 : Int32)) hx hb dX10_logEntry_39 (by decide) ?_
      refine riald  hx hb hK hP hLx 1 (Nat.le_of_ble_eq_true rfl) (xs1 _ _) (by decide) (j := 28) (by decide) dX10_logEntry_41 ?_
      refine lv_iconst (v := (1 : Int32)) hx hb dX10_logEntry_42 (by decide) ?_
      refine lv_isub hx hb dX10_logEntry_43 ?_
      refine lv_i2l (v := ((gi m5 1 28) - (1 : Int32)).toInt64) hx hb dX10_logEntry_44 rfl ?_
      obtain ⟨v7, z8, hD⟩ := b1_el hD
      refine rcS (As := [.long x1.toInt64, .long (0 : Int64), .long (((gi m5 1 28) - (1 : Int32)).toInt64)]) (rest := []) Fx0 (c_X10_in l x1.toInt64 (0 : Int64) (((gi m5 1 28) - (1 : Int32)).toInt64) z8) hP (hD1 _ (hAd _ _)) hS (hA1 _ _ (hAd _ _) hS.1) tw_7_69 tw_7_67 tw_7_68 tw_1_13 yd_X10_in ⟨(Nat.le_of_ble_eq_true rfl), (Nat.le_of_ble_eq_true rfl)⟩ rfl hl.1 rfl (Nat.le_of_ble_eq_true rfl) dX10_logEntry_45 (fun H locs hP hS => ?_)
      refine lv_if_eq (tgt := 68) hx hb dX10_logEntry_48 (by decide) (fun c => ?_) (fun c => ?_)
      · have hD := ifp hD c
        refine lv_iconst (v := (-1 : Int32)) hx hb dX10_logEntry_68 (by decide) ?_
        obtain ⟨rfl, rfl⟩ := es2 hD
        exact hret _ _ _ hP hS (fun Qc hq => W.iret hx hb hr hq hS.2.2 dX10_logEntry_69 hlocks)
      · have hD := ifn hD c
        refine lv_aload_n hx hb dX10_logEntry_51 rfl (lv_at hl 0 rfl) ?_
        refine rg  hx hb hT hu10 hown hK hP hLx 0 0 (Nat.le_of_ble_eq_true rfl) (xs0 _ _) rfl (Nat.le_of_ble_eq_true rfl) (Fx0.T tw_6_215) rfl (v := .ref (adx 1)) rfl dX10_logEntry_52 ?_
        refine lv_sipush (v := (480 : Int32)) hx hb dX10_logEntry_55 (by decide) ?_
        refine lv_iconst (v := (3 : Int32)) hx hb dX10_logEntry_58 (by decide) ?_
        refine lv_iload_n hx hb dX10_logEntry_59 rfl (lv_at hl 1 rfl) ?_
        refine lv_imul hx hb dX10_logEntry_60 ?_
        refine lv_iadd hx hb dX10_logEntry_61 ?_
        refine lv_iload_n hx hb dX10_logEntry_62 rfl (lv_at hl 2 rfl) ?_
        refine lv_iadd hx hb dX10_logEntry_63 ?_
        obtain ⟨h9, hD⟩ := gd_el hD
        refine riald  hx hb hK hP hLx 1 (Nat.le_of_ble_eq_true rfl) (xs1 _ _) h9 rfl dX10_logEntry_64 ?_
        refine lv_goto (tgt := 69) hx hb dX10_logEntry_65 (by decide) ?_
        obtain ⟨rfl, rfl⟩ := es2 hD
        exact hret _ _ _ hP hS (fun Qc hq => W.iret hx hb hr hq hS.2.2 dX10_logEntry_69 hlocks)
    · have hD := ifn hD c
      refine lv_iconst (v := (0 : Int32)) hx hb dX10_logEntry_30 (by decide) ?_
      obtain ⟨rfl, rfl⟩ := es2 hD
      exact hret _ _ _ hP hS (fun Qc hq => W.iret hx hb hr hq hS.2.2 dX10_logEntry_31 hlocks)
  refine lv_aload_n hx hb dX10_logEntry_0 rfl (lv_at hl 0 rfl) ?_
  refine lv_iconst (v := (0 : Int32)) hx hb dX10_logEntry_1 (by decide) ?_
  obtain ⟨m1, em1, hD⟩ := bnd_el hD
  refine rp  hx hb hT hu10 tyX10_ok nmX10 hown hK hP (hD1 _ (hAd _ _)) hS hLx 0 6 (Nat.le_of_ble_eq_true rfl) (xs0 _ _) (xs0 _ _) rfl (Nat.le_of_ble_eq_true rfl) (Fx0.T tw_6_221) rfl rfl rfl rfl (Nat.le_of_ble_eq_true rfl) dX10_logEntry_2 em1 (fun H locs hP hS => ?_)
  refine lv_aload_n hx hb dX10_logEntry_5 rfl (lv_at hl 0 rfl) ?_
  refine lv_iload_n hx hb dX10_logEntry_6 rfl (lv_at hl 2 rfl) ?_
  refine lv_i2l (v := x2.toInt64) hx hb dX10_logEntry_7 rfl ?_
  refine lv_lconst (v := (0 : Int64)) hx hb dX10_logEntry_8 (by decide) ?_
  refine lv_ldc2 (v := (2 : Int64)) hx hb hown (Fx0.T tw_9_69) dX10_logEntry_9 ?_
  obtain ⟨v2, z3, hD⟩ := b1_el hD
  refine rcS (As := [.long x2.toInt64, .long (0 : Int64), .long (2 : Int64)]) (rest := [.ref (adx 0)]) Fx0 (c_X10_in l x2.toInt64 (0 : Int64) (2 : Int64) z3) hP (hD1 _ (hAd _ _)) hS (hA1 _ _ (hAd _ _) hS.1) tw_7_69 tw_7_67 tw_7_68 tw_1_13 yd_X10_in ⟨(Nat.le_of_ble_eq_true rfl), (Nat.le_of_ble_eq_true rfl)⟩ rfl hl.1 rfl (Nat.le_of_ble_eq_true rfl) dX10_logEntry_12 (fun H locs hP hS => ?_)
  refine lv_if_ne (tgt := 22) hx hb dX10_logEntry_15 (by decide) (fun c => ?_) (fun c => ?_)
  · have hD := ifn hD c
    refine lv_iconst (v := (0 : Int32)) hx hb dX10_logEntry_22 (by decide) ?_
    exact c_23 _ _ _ _ _ _ _ hD hP hS (lv_sub hl [0, 1, 2] rfl)
  · have hD := ifp hD c
    refine lv_iconst (v := (1 : Int32)) hx hb dX10_logEntry_18 (by decide) ?_
    refine lv_goto (tgt := 23) hx hb dX10_logEntry_19 (by decide) ?_
    exact c_23 _ _ _ _ _ _ _ hD hP hS (lv_sub hl [0, 1, 2] rfl)
