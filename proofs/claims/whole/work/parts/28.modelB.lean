/-! the reference's methods -/
noncomputable def D_X10_count (x1 : Int32) (x : MM) : Option (Int32 × MM) := b2 (D_X10_fine x) (fun v1 m2 => if v1 = 0 then (if ((15 : Int32) + x1) < 0 ∨ 640 ≤ ((15 : Int32) + x1).toNatClampNeg then none else (some ((gi m2 1 (((15 : Int32) + x1).toNatClampNeg)), m2))) else (b1 (D_X10_in x1.toInt64 (0 : Int64) (5 : Int64)) (fun v5 => if v5 = 0 then (b2 (D_X10_throwsIf (1 : Int32) (1 : Int32) m2) (fun v11 m12 => if v11 = 0 then (if ((15 : Int32) + x1) < 0 ∨ 640 ≤ ((15 : Int32) + x1).toNatClampNeg then none else (some ((gi m12 1 (((15 : Int32) + x1).toNatClampNeg)), m12))) else (some ((0 : Int32), m12)))) else (b2 (D_X10_throwsIf (0 : Int32) (1 : Int32) m2) (fun v7 m8 => if v7 = 0 then (if ((15 : Int32) + x1) < 0 ∨ 640 ≤ ((15 : Int32) + x1).toNatClampNeg then none else (some ((gi m8 1 (((15 : Int32) + x1).toNatClampNeg)), m8))) else (some ((0 : Int32), m8)))))))
set_option maxHeartbeats 4000000 in
set_option maxRecDepth 100000 in
theorem c_X10_count (l : Launch) {D : va_G} {cs : Nat → ClassId} {adx : Nat → Nat} {Wf : MM → va_W} (hLx : Ln 9 adx (xsh cs adx) Wf) (hAd : ∀ a0_ b0_ : MM, (Wf a0_).map (fun q => q.1) = (Wf b0_).map (fun q => q.1)) (x : MM) (x1 : Int32) {rr : Int32} {x' : MM} (hD : D_X10_count x1 x = some (rr, x')) : Ct l yX10_count cX10_count 2 (some .int) 1 25 D cs [.ref (adx 0), .int x1] (Wf x) (Wf x') (some (.int rr)) := by
  refine Ct.ofW (by decide) (Nat.le_of_ble_eq_true rfl) (hAd _ _) ?_
  intro p e s m0 below meth c A Q ls args hx hb hr hml hlocks hown hts hK hP hD1 hSS hS hA1 hl hret
  have hT : ∀ w ∈ TBL, w.before args s = true := fun w h => hts w (List.mem_cons_of_mem _ h)
  have Fx0 : Fx p l m0 c cX10_count 2 s args yX10_count cX10_count 2 (some .int) D cs A := ⟨hx, hb, hml, hown, hts, hK, hSS⟩
  have hown : s.vm.findClass RX10 = some m0.cls := hown
  have hl : lv_has ls 2 [(0, .ref (adx 0)), (1, .int x1)] := hl
  unfold D_X10_count at hD
  refine lv_aload_n hx hb dX10_count_0 rfl (lv_at hl 0 rfl) ?_
  obtain ⟨v1, m2, z3, hD⟩ := b2_el hD
  refine rcV  (As := []) (rest := []) Fx0 (c_X10_fine l hLx hAd x z3) hP (hD1 _ (hAd _ _)) hS (hA1 _ _ (hAd _ _) hS.1) hLx (Nat.le_of_ble_eq_true rfl) (xs0 _ _) rfl tw_7_158 tw_7_155 tw_7_157 ts_104 tw_1_13 yd_X10_fine ⟨(Nat.le_of_ble_eq_true rfl), (Nat.le_of_ble_eq_true rfl)⟩ rfl hl.1 rfl (Nat.le_of_ble_eq_true rfl) dX10_count_1 (fun H locs hP hS => ?_)
  refine lv_if_eq (tgt := 36) hx hb dX10_count_4 (by decide) (fun c => ?_) (fun c => ?_)
  · have hD := ifp hD c
    refine lv_aload_n hx hb dX10_count_36 rfl (lv_at hl 0 rfl) ?_
    refine rg  hx hb hT hu10 hown hK hP hLx 0 0 (Nat.le_of_ble_eq_true rfl) (xs0 _ _) rfl (Nat.le_of_ble_eq_true rfl) (Fx0.T tw_6_215) rfl (v := .ref (adx 1)) rfl dX10_count_37 ?_
    refine lv_bipush (v := (15 : Int32)) hx hb dX10_count_40 (by decide) ?_
    refine lv_iload_n hx hb dX10_count_42 rfl (lv_at hl 1 rfl) ?_
    refine lv_iadd hx hb dX10_count_43 ?_
    obtain ⟨h4, hD⟩ := gd_el hD
    refine riald  hx hb hK hP hLx 1 (Nat.le_of_ble_eq_true rfl) (xs1 _ _) h4 rfl dX10_count_44 ?_
    obtain ⟨rfl, rfl⟩ := es2 hD
    exact hret _ _ _ hP hS (fun Qc hq => W.iret hx hb hr hq hS.2.2 dX10_count_45 hlocks)
  · have hD := ifn hD c
    refine lv_aload_n hx hb dX10_count_7 rfl (lv_at hl 0 rfl) ?_
    refine lv_iload_n hx hb dX10_count_8 rfl (lv_at hl 1 rfl) ?_
    refine lv_i2l (v := x1.toInt64) hx hb dX10_count_9 rfl ?_
    refine lv_lconst (v := (0 : Int64)) hx hb dX10_count_10 (by decide) ?_
    refine lv_ldc2 (v := (5 : Int64)) hx hb hown (Fx0.T tw_7_159) dX10_count_11 ?_
    obtain ⟨v5, z6, hD⟩ := b1_el hD
    refine rcS (As := [.long x1.toInt64, .long (0 : Int64), .long (5 : Int64)]) (rest := [.ref (adx 0)]) Fx0 (c_X10_in l x1.toInt64 (0 : Int64) (5 : Int64) z6) hP (hD1 _ (hAd _ _)) hS (hA1 _ _ (hAd _ _) hS.1) tw_7_69 tw_7_67 tw_7_68 tw_1_13 yd_X10_in ⟨(Nat.le_of_ble_eq_true rfl), (Nat.le_of_ble_eq_true rfl)⟩ rfl hl.1 rfl (Nat.le_of_ble_eq_true rfl) dX10_count_14 (fun H locs hP hS => ?_)
    refine lv_if_ne (tgt := 24) hx hb dX10_count_17 (by decide) (fun c => ?_) (fun c => ?_)
    · have hD := ifn hD c
      refine lv_iconst (v := (0 : Int32)) hx hb dX10_count_24 (by decide) ?_
      refine lv_iconst (v := (1 : Int32)) hx hb dX10_count_25 (by decide) ?_
      obtain ⟨v7, m8, z9, hD⟩ := b2_el hD
      refine rcV  (As := [.int (0 : Int32), .int (1 : Int32)]) (rest := []) Fx0 (c_X10_throwsIf l hLx hAd m2 (0 : Int32) (1 : Int32) z9) hP (hD1 _ (hAd _ _)) hS (hA1 _ _ (hAd _ _) hS.1) hLx (Nat.le_of_ble_eq_true rfl) (xs0 _ _) rfl tw_7_163 tw_7_160 tw_7_162 ts_105 tw_1_13 yd_X10_throwsIf ⟨(Nat.le_of_ble_eq_true rfl), (Nat.le_of_ble_eq_true rfl)⟩ rfl hl.1 rfl (Nat.le_of_ble_eq_true rfl) dX10_count_26 (fun H locs hP hS => ?_)
      refine lv_if_eq (tgt := 36) hx hb dX10_count_29 (by decide) (fun c => ?_) (fun c => ?_)
      · have hD := ifp hD c
        refine lv_aload_n hx hb dX10_count_36 rfl (lv_at hl 0 rfl) ?_
        refine rg  hx hb hT hu10 hown hK hP hLx 0 0 (Nat.le_of_ble_eq_true rfl) (xs0 _ _) rfl (Nat.le_of_ble_eq_true rfl) (Fx0.T tw_6_215) rfl (v := .ref (adx 1)) rfl dX10_count_37 ?_
        refine lv_bipush (v := (15 : Int32)) hx hb dX10_count_40 (by decide) ?_
        refine lv_iload_n hx hb dX10_count_42 rfl (lv_at hl 1 rfl) ?_
        refine lv_iadd hx hb dX10_count_43 ?_
        obtain ⟨h10, hD⟩ := gd_el hD
        refine riald  hx hb hK hP hLx 1 (Nat.le_of_ble_eq_true rfl) (xs1 _ _) h10 rfl dX10_count_44 ?_
        obtain ⟨rfl, rfl⟩ := es2 hD
        exact hret _ _ _ hP hS (fun Qc hq => W.iret hx hb hr hq hS.2.2 dX10_count_45 hlocks)
      · have hD := ifn hD c
        refine lv_iconst (v := (0 : Int32)) hx hb dX10_count_32 (by decide) ?_
        refine lv_goto (tgt := 45) hx hb dX10_count_33 (by decide) ?_
        obtain ⟨rfl, rfl⟩ := es2 hD
        exact hret _ _ _ hP hS (fun Qc hq => W.iret hx hb hr hq hS.2.2 dX10_count_45 hlocks)
    · have hD := ifp hD c
      refine lv_iconst (v := (1 : Int32)) hx hb dX10_count_20 (by decide) ?_
      refine lv_goto (tgt := 25) hx hb dX10_count_21 (by decide) ?_
      refine lv_iconst (v := (1 : Int32)) hx hb dX10_count_25 (by decide) ?_
      obtain ⟨v11, m12, z13, hD⟩ := b2_el hD
      refine rcV  (As := [.int (1 : Int32), .int (1 : Int32)]) (rest := []) Fx0 (c_X10_throwsIf l hLx hAd m2 (1 : Int32) (1 : Int32) z13) hP (hD1 _ (hAd _ _)) hS (hA1 _ _ (hAd _ _) hS.1) hLx (Nat.le_of_ble_eq_true rfl) (xs0 _ _) rfl tw_7_163 tw_7_160 tw_7_162 ts_105 tw_1_13 yd_X10_throwsIf ⟨(Nat.le_of_ble_eq_true rfl), (Nat.le_of_ble_eq_true rfl)⟩ rfl hl.1 rfl (Nat.le_of_ble_eq_true rfl) dX10_count_26 (fun H locs hP hS => ?_)
      refine lv_if_eq (tgt := 36) hx hb dX10_count_29 (by decide) (fun c => ?_) (fun c => ?_)
      · have hD := ifp hD c
        refine lv_aload_n hx hb dX10_count_36 rfl (lv_at hl 0 rfl) ?_
        refine rg  hx hb hT hu10 hown hK hP hLx 0 0 (Nat.le_of_ble_eq_true rfl) (xs0 _ _) rfl (Nat.le_of_ble_eq_true rfl) (Fx0.T tw_6_215) rfl (v := .ref (adx 1)) rfl dX10_count_37 ?_
        refine lv_bipush (v := (15 : Int32)) hx hb dX10_count_40 (by decide) ?_
        refine lv_iload_n hx hb dX10_count_42 rfl (lv_at hl 1 rfl) ?_
        refine lv_iadd hx hb dX10_count_43 ?_
        obtain ⟨h14, hD⟩ := gd_el hD
        refine riald  hx hb hK hP hLx 1 (Nat.le_of_ble_eq_true rfl) (xs1 _ _) h14 rfl dX10_count_44 ?_
        obtain ⟨rfl, rfl⟩ := es2 hD
        exact hret _ _ _ hP hS (fun Qc hq => W.iret hx hb hr hq hS.2.2 dX10_count_45 hlocks)
      · have hD := ifn hD c
        refine lv_iconst (v := (0 : Int32)) hx hb dX10_count_32 (by decide) ?_
        refine lv_goto (tgt := 45) hx hb dX10_count_33 (by decide) ?_
        obtain ⟨rfl, rfl⟩ := es2 hD
        exact hret _ _ _ hP hS (fun Qc hq => W.iret hx hb hr hq hS.2.2 dX10_count_45 hlocks)

noncomputable def D_X10_setting (x1 : Int32) (x : MM) : Option (Int32 × MM) := b2 (D_X10_fine x) (fun v1 m2 => if v1 = 0 then (if x1 < 0 ∨ 640 ≤ x1.toNatClampNeg then none else (some ((gi m2 1 x1.toNatClampNeg), m2))) else (b1 (D_X10_in x1.toInt64 (0 : Int64) (14 : Int64)) (fun v5 => if v5 = 0 then (b2 (D_X10_throwsIf (1 : Int32) (1 : Int32) m2) (fun v11 m12 => if v11 = 0 then (if x1 < 0 ∨ 640 ≤ x1.toNatClampNeg then none else (some ((gi m12 1 x1.toNatClampNeg), m12))) else (some ((0 : Int32), m12)))) else (b2 (D_X10_throwsIf (0 : Int32) (1 : Int32) m2) (fun v7 m8 => if v7 = 0 then (if x1 < 0 ∨ 640 ≤ x1.toNatClampNeg then none else (some ((gi m8 1 x1.toNatClampNeg), m8))) else (some ((0 : Int32), m8)))))))
set_option maxHeartbeats 4000000 in
set_option maxRecDepth 100000 in
theorem c_X10_setting (l : Launch) {D : va_G} {cs : Nat → ClassId} {adx : Nat → Nat} {Wf : MM → va_W} (hLx : Ln 9 adx (xsh cs adx) Wf) (hAd : ∀ a0_ b0_ : MM, (Wf a0_).map (fun q => q.1) = (Wf b0_).map (fun q => q.1)) (x : MM) (x1 : Int32) {rr : Int32} {x' : MM} (hD : D_X10_setting x1 x = some (rr, x')) : Ct l yX10_setting cX10_setting 2 (some .int) 1 25 D cs [.ref (adx 0), .int x1] (Wf x) (Wf x') (some (.int rr)) := by
  refine Ct.ofW (by decide) (Nat.le_of_ble_eq_true rfl) (hAd _ _) ?_
  intro p e s m0 below meth c A Q ls args hx hb hr hml hlocks hown hts hK hP hD1 hSS hS hA1 hl hret
  have hT : ∀ w ∈ TBL, w.before args s = true := fun w h => hts w (List.mem_cons_of_mem _ h)
  have Fx0 : Fx p l m0 c cX10_setting 2 s args yX10_setting cX10_setting 2 (some .int) D cs A := ⟨hx, hb, hml, hown, hts, hK, hSS⟩
  have hown : s.vm.findClass RX10 = some m0.cls := hown
  have hl : lv_has ls 2 [(0, .ref (adx 0)), (1, .int x1)] := hl
  unfold D_X10_setting at hD
  refine lv_aload_n hx hb dX10_setting_0 rfl (lv_at hl 0 rfl) ?_
  obtain ⟨v1, m2, z3, hD⟩ := b2_el hD
  refine rcV  (As := []) (rest := []) Fx0 (c_X10_fine l hLx hAd x z3) hP (hD1 _ (hAd _ _)) hS (hA1 _ _ (hAd _ _) hS.1) hLx (Nat.le_of_ble_eq_true rfl) (xs0 _ _) rfl tw_7_158 tw_7_155 tw_7_157 ts_104 tw_1_13 yd_X10_fine ⟨(Nat.le_of_ble_eq_true rfl), (Nat.le_of_ble_eq_true rfl)⟩ rfl hl.1 rfl (Nat.le_of_ble_eq_true rfl) dX10_setting_1 (fun H locs hP hS => ?_)
  refine lv_if_eq (tgt := 36) hx hb dX10_setting_4 (by decide) (fun c => ?_) (fun c => ?_)
  · have hD := ifp hD c
    refine lv_aload_n hx hb dX10_setting_36 rfl (lv_at hl 0 rfl) ?_
    refine rg  hx hb hT hu10 hown hK hP hLx 0 0 (Nat.le_of_ble_eq_true rfl) (xs0 _ _) rfl (Nat.le_of_ble_eq_true rfl) (Fx0.T tw_6_215) rfl (v := .ref (adx 1)) rfl dX10_setting_37 ?_
    refine lv_iload_n hx hb dX10_setting_40 rfl (lv_at hl 1 rfl) ?_
    obtain ⟨h4, hD⟩ := gd_el hD
    refine riald  hx hb hK hP hLx 1 (Nat.le_of_ble_eq_true rfl) (xs1 _ _) h4 rfl dX10_setting_41 ?_
    obtain ⟨rfl, rfl⟩ := es2 hD
    exact hret _ _ _ hP hS (fun Qc hq => W.iret hx hb hr hq hS.2.2 dX10_setting_42 hlocks)
  · have hD := ifn hD c
    refine lv_aload_n hx hb dX10_setting_7 rfl (lv_at hl 0 rfl) ?_
    refine lv_iload_n hx hb dX10_setting_8 rfl (lv_at hl 1 rfl) ?_
    refine lv_i2l (v := x1.toInt64) hx hb dX10_setting_9 rfl ?_
    refine lv_lconst (v := (0 : Int64)) hx hb dX10_setting_10 (by decide) ?_
    refine lv_ldc2 (v := (14 : Int64)) hx hb hown (Fx0.T tw_7_168) dX10_setting_11 ?_
    obtain ⟨v5, z6, hD⟩ := b1_el hD
    refine rcS (As := [.long x1.toInt64, .long (0 : Int64), .long (14 : Int64)]) (rest := [.ref (adx 0)]) Fx0 (c_X10_in l x1.toInt64 (0 : Int64) (14 : Int64) z6) hP (hD1 _ (hAd _ _)) hS (hA1 _ _ (hAd _ _) hS.1) tw_7_69 tw_7_67 tw_7_68 tw_1_13 yd_X10_in ⟨(Nat.le_of_ble_eq_true rfl), (Nat.le_of_ble_eq_true rfl)⟩ rfl hl.1 rfl (Nat.le_of_ble_eq_true rfl) dX10_setting_14 (fun H locs hP hS => ?_)
    refine lv_if_ne (tgt := 24) hx hb dX10_setting_17 (by decide) (fun c => ?_) (fun c => ?_)
    · have hD := ifn hD c
      refine lv_iconst (v := (0 : Int32)) hx hb dX10_setting_24 (by decide) ?_
      refine lv_iconst (v := (1 : Int32)) hx hb dX10_setting_25 (by decide) ?_
      obtain ⟨v7, m8, z9, hD⟩ := b2_el hD
      refine rcV  (As := [.int (0 : Int32), .int (1 : Int32)]) (rest := []) Fx0 (c_X10_throwsIf l hLx hAd m2 (0 : Int32) (1 : Int32) z9) hP (hD1 _ (hAd _ _)) hS (hA1 _ _ (hAd _ _) hS.1) hLx (Nat.le_of_ble_eq_true rfl) (xs0 _ _) rfl tw_7_163 tw_7_160 tw_7_162 ts_105 tw_1_13 yd_X10_throwsIf ⟨(Nat.le_of_ble_eq_true rfl), (Nat.le_of_ble_eq_true rfl)⟩ rfl hl.1 rfl (Nat.le_of_ble_eq_true rfl) dX10_setting_26 (fun H locs hP hS => ?_)
      refine lv_if_eq (tgt := 36) hx hb dX10_setting_29 (by decide) (fun c => ?_) (fun c => ?_)
      · have hD := ifp hD c
        refine lv_aload_n hx hb dX10_setting_36 rfl (lv_at hl 0 rfl) ?_
        refine rg  hx hb hT hu10 hown hK hP hLx 0 0 (Nat.le_of_ble_eq_true rfl) (xs0 _ _) rfl (Nat.le_of_ble_eq_true rfl) (Fx0.T tw_6_215) rfl (v := .ref (adx 1)) rfl dX10_setting_37 ?_
        refine lv_iload_n hx hb dX10_setting_40 rfl (lv_at hl 1 rfl) ?_
        obtain ⟨h10, hD⟩ := gd_el hD
        refine riald  hx hb hK hP hLx 1 (Nat.le_of_ble_eq_true rfl) (xs1 _ _) h10 rfl dX10_setting_41 ?_
        obtain ⟨rfl, rfl⟩ := es2 hD
        exact hret _ _ _ hP hS (fun Qc hq => W.iret hx hb hr hq hS.2.2 dX10_setting_42 hlocks)
      · have hD := ifn hD c
        refine lv_iconst (v := (0 : Int32)) hx hb dX10_setting_32 (by decide) ?_
        refine lv_goto (tgt := 42) hx hb dX10_setting_33 (by decide) ?_
        obtain ⟨rfl, rfl⟩ := es2 hD
        exact hret _ _ _ hP hS (fun Qc hq => W.iret hx hb hr hq hS.2.2 dX10_setting_42 hlocks)
    · have hD := ifp hD c
      refine lv_iconst (v := (1 : Int32)) hx hb dX10_setting_20 (by decide) ?_
      refine lv_goto (tgt := 25) hx hb dX10_setting_21 (by decide) ?_
      refine lv_iconst (v := (1 : Int32)) hx hb dX10_setting_25 (by decide) ?_
      obtain ⟨v11, m12, z13, hD⟩ := b2_el hD
      refine rcV  (As := [.int (1 : Int32), .int (1 : Int32)]) (rest := []) Fx0 (c_X10_throwsIf l hLx hAd m2 (1 : Int32) (1 : Int32) z13) hP (hD1 _ (hAd _ _)) hS (hA1 _ _ (hAd _ _) hS.1) hLx (Nat.le_of_ble_eq_true rfl) (xs0 _ _) rfl tw_7_163 tw_7_160 tw_7_162 ts_105 tw_1_13 yd_X10_throwsIf ⟨(Nat.le_of_ble_eq_true rfl), (Nat.le_of_ble_eq_true rfl)⟩ rfl hl.1 rfl (Nat.le_of_ble_eq_true rfl) dX10_setting_26 (fun H locs hP hS => ?_)
      refine lv_if_eq (tgt := 36) hx hb dX10_setting_29 (by decide) (fun c => ?_) (fun c => ?_)
      · have hD := ifp hD c
        refine lv_aload_n hx hb dX10_setting_36 rfl (lv_at hl 0 rfl) ?_
        refine rg  hx hb hT hu10 hown hK hP hLx 0 0 (Nat.le_of_ble_eq_true rfl) (xs0 _ _) rfl (Nat.le_of_ble_eq_true rfl) (Fx0.T tw_6_215) rfl (v := .ref (adx 1)) rfl dX10_setting_37 ?_
        refine lv_iload_n hx hb dX10_setting_40 rfl (lv_at hl 1 rfl) ?_
        obtain ⟨h14, hD⟩ := gd_el hD
        refine riald  hx hb hK hP hLx 1 (Nat.le_of_ble_eq_true rfl) (xs1 _ _) h14 rfl dX10_setting_41 ?_
        obtain ⟨rfl, rfl⟩ := es2 hD
        exact hret _ _ _ hP hS (fun Qc hq => W.iret hx hb hr hq hS.2.2 dX10_setting_42 hlocks)
      · have hD := ifn hD c
        refine lv_iconst (v := (0 : Int32)) hx hb dX10_setting_32 (by decide) ?_
        refine lv_goto (tgt := 42) hx hb dX10_setting_33 (by decide) ?_
        obtain ⟨rfl, rfl⟩ := es2 hD
        exact hret _ _ _ hP hS (fun Qc hq => W.iret hx hb hr hq hS.2.2 dX10_setting_42 hlocks)

noncomputable def D_X10_highest (x1 : Int32) (x : MM) : Option Int32 := if x1 = (0 : Int32) then (some ((50 : Int32))) else (if x1 = (1 : Int32) then (some ((200 : Int32))) else (if x1 = (2 : Int32) then (some ((200 : Int32))) else (if x1 = (3 : Int32) then (some ((200 : Int32))) else (if x1 = (4 : Int32) then (some ((200 : Int32))) else (if x1 = (5 : Int32) then (some (((100 : Int32) - (gi x 1 6)))) else (if x1 = (6 : Int32) then (some (((100 : Int32) - (gi x 1 5)))) else (if x1 = (7 : Int32) then (some ((5 : Int32))) else (if x1 = (8 : Int32) then (some ((200 : Int32))) else (if x1 = (9 : Int32) then (some ((200 : Int32))) else (if x1 = (10 : Int32) then (some ((200 : Int32))) else (if x1 = (11 : Int32) then (some ((20 : Int32))) else (if x1 = (12 : Int32) then (some ((200 : Int32))) else (if x1 = (13 : Int32) then (some ((100 : Int32))) else (some ((200 : Int32))))))))))))))))
set_option maxHeartbeats 4000000 in
set_option maxRecDepth 100000 in
theorem c_X10_highest (l : Launch) {D : va_G} {cs : Nat → ClassId} {adx : Nat → Nat} {Wf : MM → va_W} (hLx : Ln 9 adx (xsh cs adx) Wf) (hAd : ∀ a0_ b0_ : MM, (Wf a0_).map (fun q => q.1) = (Wf b0_).map (fun q => q.1)) (x : MM) (x1 : Int32) {rr : Int32} (hD : D_X10_highest x1 x = some (rr)) : Ct l yX10_highest cX10_highest 2 (some .int) 0 0 D cs [.ref (adx 0), .int x1] (Wf x) (Wf x) (some (.int rr)) := by
  refine Ct.ofW (by decide) (Nat.le_of_ble_eq_true rfl) rfl ?_
  intro p e s m0 below meth c A Q ls args hx hb hr hml hlocks hown hts hK hP hD1 hSS hS hA1 hl hret
  have hT : ∀ w ∈ TBL, w.before args s = true := fun w h => hts w (List.mem_cons_of_mem _ h)
  have Fx0 : Fx p l m0 c cX10_highest 2 s args yX10_highest cX10_highest 2 (some .int) D cs A := ⟨hx, hb, hml, hown, hts, hK, hSS⟩
  have hown : s.vm.findClass RX10 = some m0.cls := hown
  have hl : lv_has ls 2 [(0, .ref (adx 0)), (1, .int x1)] := hl
  unfold D_X10_highest at hD
  refine lv_iload_n hx hb dX10_highest_0 rfl (lv_at hl 1 rfl) ?_
  by_cases sw1_0 : x1 = (0 : Int32)
  · have hD := ifp hD sw1_0
    refine lv_tableIn (off := 71) (tgt := 72) hx hb dX10_highest_1 (by rw [sw1_0]; decide) (by rw [sw1_0]; decide) (by rw [sw1_0]; rfl) (by decide) ?_
    refine lv_bipush (v := (50 : Int32)) hx hb dX10_highest_72 (by decide) ?_
    obtain rfl := es1 hD
    exact hret _ _ _ hP hS (fun Qc hq => W.iret hx hb hr hq hS.2.2 dX10_highest_74 hlocks)
  · have hD := ifn hD sw1_0
    by_cases sw1_1 : x1 = (1 : Int32)
    · have hD := ifp hD sw1_1
      refine lv_tableIn (off := 103) (tgt := 104) hx hb dX10_highest_1 (by rw [sw1_1]; decide) (by rw [sw1_1]; decide) (by rw [sw1_1]; rfl) (by decide) ?_
      refine lv_sipush (v := (200 : Int32)) hx hb dX10_highest_104 (by decide) ?_
      obtain rfl := es1 hD
      exact hret _ _ _ hP hS (fun Qc hq => W.iret hx hb hr hq hS.2.2 dX10_highest_107 hlocks)
    · have hD := ifn hD sw1_1
      by_cases sw1_2 : x1 = (2 : Int32)
      · have hD := ifp hD sw1_2
        refine lv_tableIn (off := 103) (tgt := 104) hx hb dX10_highest_1 (by rw [sw1_2]; decide) (by rw [sw1_2]; decide) (by rw [sw1_2]; rfl) (by decide) ?_
        refine lv_sipush (v := (200 : Int32)) hx hb dX10_highest_104 (by decide) ?_
        obtain rfl := es1 hD
        exact hret _ _ _ hP hS (fun Qc hq => W.iret hx hb hr hq hS.2.2 dX10_highest_107 hlocks)
      · have hD := ifn hD sw1_2
        by_cases sw1_3 : x1 = (3 : Int32)
        · have hD := ifp hD sw1_3
          refine lv_tableIn (off := 103) (tgt := 104) hx hb dX10_highest_1 (by rw [sw1_3]; decide) (by rw [sw1_3]; decide) (by rw [sw1_3]; rfl) (by decide) ?_
          refine lv_sipush (v := (200 : Int32)) hx hb dX10_highest_104 (by decide) ?_
          obtain rfl := es1 hD
          exact hret _ _ _ hP hS (fun Qc hq => W.iret hx hb hr hq hS.2.2 dX10_highest_107 hlocks)
        · have hD := ifn hD sw1_3
          by_cases sw1_4 : x1 = (4 : Int32)
          · have hD := ifp hD sw1_4
            refine lv_tableIn (off := 103) (tgt := 104) hx hb dX10_highest_1 (by rw [sw1_4]; decide) (by rw [sw1_4]; decide) (by rw [sw1_4]; rfl) (by decide) ?_
            refine lv_sipush (v := (200 : Int32)) hx hb dX10_highest_104 (by decide) ?_
            obtain rfl := es1 hD
            exact hret _ _ _ hP hS (fun Qc hq => W.iret hx hb hr hq hS.2.2 dX10_highest_107 hlocks)
          · have hD := ifn hD sw1_4
            by_cases sw1_5 : x1 = (5 : Int32)
            · have hD := ifp hD sw1_5
              refine lv_tableIn (off := 74) (tgt := 75) hx hb dX10_highest_1 (by rw [sw1_5]; decide) (by rw [sw1_5]; decide) (by rw [sw1_5]; rfl) (by decide) ?_
              refine lv_bipush (v := (100 : Int32)) hx hb dX10_highest_75 (by decide) ?_
              refine lv_aload_n hx hb dX10_highest_77 rfl (lv_at hl 0 rfl) ?_
              refine rg  hx hb hT hu10 hown hK hP hLx 0 0 (Nat.le_of_ble_eq_true rfl) (xs0 _ _) rfl (Nat.le_of_ble_eq_true rfl) (Fx0.T tw_6_215) rfl (v := .ref (adx 1)) rfl dX10_highest_78 ?_
              refine lv_bipush (v := (6 : Int32)) hx hb dX10_highest_81 (by decide) ?_
              refine riald  hx hb hK hP hLx 1 (Nat.le_of_ble_eq_true rfl) (xs1 _ _) (by decide) (j := 6) (by decide) dX10_highest_83 ?_
              refine lv_isub hx hb dX10_highest_84 ?_
              obtain rfl := es1 hD
              exact hret _ _ _ hP hS (fun Qc hq => W.iret hx hb hr hq hS.2.2 dX10_highest_85 hlocks)
            · have hD := ifn hD sw1_5
              by_cases sw1_6 : x1 = (6 : Int32)
              · have hD := ifp hD sw1_6
                refine lv_tableIn (off := 85) (tgt := 86) hx hb dX10_highest_1 (by rw [sw1_6]; decide) (by rw [sw1_6]; decide) (by rw [sw1_6]; rfl) (by decide) ?_
                refine lv_bipush (v := (100 : Int32)) hx hb dX10_highest_86 (by decide) ?_
                refine lv_aload_n hx hb dX10_highest_88 rfl (lv_at hl 0 rfl) ?_
                refine rg  hx hb hT hu10 hown hK hP hLx 0 0 (Nat.le_of_ble_eq_true rfl) (xs0 _ _) rfl (Nat.le_of_ble_eq_true rfl) (Fx0.T tw_6_215) rfl (v := .ref (adx 1)) rfl dX10_highest_89 ?_
                refine lv_iconst (v := (5 : Int32)) hx hb dX10_highest_92 (by decide) ?_
                refine riald  hx hb hK hP hLx 1 (Nat.le_of_ble_eq_true rfl) (xs1 _ _) (by decide) (j := 5) (by decide) dX10_highest_93 ?_
                refine lv_isub hx hb dX10_highest_94 ?_
                obtain rfl := es1 hD
                exact hret _ _ _ hP hS (fun Qc hq => W.iret hx hb hr hq hS.2.2 dX10_highest_95 hlocks)
              · have hD := ifn hD sw1_6
                by_cases sw1_7 : x1 = (7 : Int32)
                · have hD := ifp hD sw1_7
                  refine lv_tableIn (off := 95) (tgt := 96) hx hb dX10_highest_1 (by rw [sw1_7]; decide) (by rw [sw1_7]; decide) (by rw [sw1_7]; rfl) (by decide) ?_
                  refine lv_iconst (v := (5 : Int32)) hx hb dX10_highest_96 (by decide) ?_
                  obtain rfl := es1 hD
                  exact hret _ _ _ hP hS (fun Qc hq => W.iret hx hb hr hq hS.2.2 dX10_highest_97 hlocks)
                · have hD := ifn hD sw1_7
                  by_cases sw1_8 : x1 = (8 : Int32)
                  · have hD := ifp hD sw1_8
                    refine lv_tableIn (off := 103) (tgt := 104) hx hb dX10_highest_1 (by rw [sw1_8]; decide) (by rw [sw1_8]; decide) (by rw [sw1_8]; rfl) (by decide) ?_
                    refine lv_sipush (v := (200 : Int32)) hx hb dX10_highest_104 (by decide) ?_
                    obtain rfl := es1 hD
                    exact hret _ _ _ hP hS (fun Qc hq => W.iret hx hb hr hq hS.2.2 dX10_highest_107 hlocks)
                  · have hD := ifn hD sw1_8
                    by_cases sw1_9 : x1 = (9 : Int32)
                    · have hD := ifp hD sw1_9
                      refine lv_tableIn (off := 103) (tgt := 104) hx hb dX10_highest_1 (by rw [sw1_9]; decide) (by rw [sw1_9]; decide) (by rw [sw1_9]; rfl) (by decide) ?_
                      refine lv_sipush (v := (200 : Int32)) hx hb dX10_highest_104 (by decide) ?_
                      obtain rfl := es1 hD
                      exact hret _ _ _ hP hS (fun Qc hq => W.iret hx hb hr hq hS.2.2 dX10_highest_107 hlocks)
                    · have hD := ifn hD sw1_9
                      by_cases sw1_10 : x1 = (10 : Int32)
                      · have hD := ifp hD sw1_10
                        refine lv_tableIn (off := 103) (tgt := 104) hx hb dX10_highest_1 (by rw [sw1_10]; decide) (by rw [sw1_10]; decide) (by rw [sw1_10]; rfl) (by decide) ?_
                        refine lv_sipush (v := (200 : Int32)) hx hb dX10_highest_104 (by decide) ?_
                        obtain rfl := es1 hD
                        exact hret _ _ _ hP hS (fun Qc hq => W.iret hx hb hr hq hS.2.2 dX10_highest_107 hlocks)
                      · have hD := ifn hD sw1_10
                        by_cases sw1_11 : x1 = (11 : Int32)
                        · have hD := ifp hD sw1_11
                          refine lv_tableIn (off := 97) (tgt := 98) hx hb dX10_highest_1 (by rw [sw1_11]; decide) (by rw [sw1_11]; decide) (by rw [sw1_11]; rfl) (by decide) ?_
                          refine lv_bipush (v := (20 : Int32)) hx hb dX10_highest_98 (by decide) ?_
                          obtain rfl := es1 hD
                          exact hret _ _ _ hP hS (fun Qc hq => W.iret hx hb hr hq hS.2.2 dX10_highest_100 hlocks)
                        · have hD := ifn hD sw1_11
                          by_cases sw1_12 : x1 = (12 : Int32)
                          · have hD := ifp hD sw1_12
                            refine lv_tableIn (off := 103) (tgt := 104) hx hb dX10_highest_1 (by rw [sw1_12]; decide) (by rw [sw1_12]; decide) (by rw [sw1_12]; rfl) (by decide) ?_
                            refine lv_sipush (v := (200 : Int32)) hx hb dX10_highest_104 (by decide) ?_
                            obtain rfl := es1 hD
                            exact hret _ _ _ hP hS (fun Qc hq => W.iret hx hb hr hq hS.2.2 dX10_highest_107 hlocks)
                          · have hD := ifn hD sw1_12
                            by_cases sw1_13 : x1 = (13 : Int32)
                            · have hD := ifp hD sw1_13
                              refine lv_tableIn (off := 100) (tgt := 101) hx hb dX10_highest_1 (by rw [sw1_13]; decide) (by rw [sw1_13]; decide) (by rw [sw1_13]; rfl) (by decide) ?_
                              refine lv_bipush (v := (100 : Int32)) hx hb dX10_highest_101 (by decide) ?_
                              obtain rfl := es1 hD
                              exact hret _ _ _ hP hS (fun Qc hq => W.iret hx hb hr hq hS.2.2 dX10_highest_103 hlocks)
                            · have hD := ifn hD sw1_13
                              refine lv_tableOut (tgt := 104) hx hb dX10_highest_1 (swo 0 13 (fun k h1 h2 e => ?_)) (by decide) ?_
                              · have h3 : k = 0 ∨ k = 1 ∨ k = 2 ∨ k = 3 ∨ k = 4 ∨ k = 5 ∨ k = 6 ∨ k = 7 ∨ k = 8 ∨ k = 9 ∨ k = 10 ∨ k = 11 ∨ k = 12 ∨ k = 13 ∨ False := by omega
                                rcases h3 with rfl | rfl | rfl | rfl | rfl | rfl | rfl | rfl | rfl | rfl | rfl | rfl | rfl | rfl | h3
                                · exact absurd e sw1_0
                                · exact absurd e sw1_1
                                · exact absurd e sw1_2
                                · exact absurd e sw1_3
                                · exact absurd e sw1_4
                                · exact absurd e sw1_5
                                · exact absurd e sw1_6
                                · exact absurd e sw1_7
                                · exact absurd e sw1_8
                                · exact absurd e sw1_9
                                · exact absurd e sw1_10
                                · exact absurd e sw1_11
                                · exact absurd e sw1_12
                                · exact absurd e sw1_13
                                · exact h3
                              refine lv_sipush (v := (200 : Int32)) hx hb dX10_highest_104 (by decide) ?_
                              obtain rfl := es1 hD
                              exact hret _ _ _ hP hS (fun Qc hq => W.iret hx hb hr hq hS.2.2 dX10_highest_107 hlocks)

noncomputable def D_X10_set_73 (x1 : Int32) (x2 : Int32) (xt0 : Int32) (x : MM) : Option (Int32 × MM) := b2 (D_X10_throwsIf xt0 (1 : Int32) x) (fun v11 m12 => if v11 = 0 then (if x1 < 0 ∨ 640 ≤ x1.toNatClampNeg then none else (bnd ((gi m12 1 x1.toNatClampNeg)) (fun v15 => if x1 < 0 ∨ 640 ≤ x1.toNatClampNeg then none else (bnd (si m12 1 x1.toNatClampNeg x2) (fun m17 => some (v15, m17)))))) else (some ((0 : Int32), m12)))
noncomputable def D_X10_set_37 (x1 : Int32) (x2 : Int32) (xt0 : Int32) (x : MM) : Option (Int32 × MM) := b2 (D_X10_throwsIf xt0 (1 : Int32) x) (fun v4 m5 => if v4 = 0 then (if x1 = 0 then (b1 (D_X10_highest x1 m5) (fun v18 => b1 (D_X10_in x2.toInt64 (1 : Int64) v18.toInt64) (fun v20 => if v20 = 0 then (D_X10_set_73 x1 x2 (1 : Int32) m5) else (D_X10_set_73 x1 x2 (0 : Int32) m5)))) else (b1 (D_X10_highest x1 m5) (fun v7 => b1 (D_X10_in x2.toInt64 (0 : Int64) v7.toInt64) (fun v9 => if v9 = 0 then (D_X10_set_73 x1 x2 (1 : Int32) m5) else (D_X10_set_73 x1 x2 (0 : Int32) m5))))) else (some ((0 : Int32), m5)))
noncomputable def D_X10_set (x1 : Int32) (x2 : Int32) (x : MM) : Option (Int32 × MM) := bnd (si x 0 6 (0 : Int32)) (fun m1 => b1 (D_X10_in x1.toInt64 (0 : Int64) (7 : Int64)) (fun v2 => if v2 = 0 then (b1 (D_X10_in x1.toInt64 (11 : Int64) (14 : Int64)) (fun v22 => if v22 = 0 then (D_X10_set_37 x1 x2 (1 : Int32) m1) else (D_X10_set_37 x1 x2 (0 : Int32) m1))) else (D_X10_set_37 x1 x2 (0 : Int32) m1)))
set_option maxHeartbeats 4000000 in
set_option maxRecDepth 100000 in
theorem c_X10_set (l : Launch) {D : va_G} {cs : Nat → ClassId} {adx : Nat → Nat} {Wf : MM → va_W} (hLx : Ln 9 adx (xsh cs adx) Wf) (hAd : ∀ a0_ b0_ : MM, (Wf a0_).map (fun q => q.1) = (Wf b0_).map (fun q => q.1)) (x : MM) (x1 : Int32) (x2 : Int32) {rr : Int32} {x' : MM} (hD : D_X10_set x1 x2 x = some (rr, x')) : Ct l yX10_set cX10_set 4 (some .int) 1 25 D cs [.ref (adx 0), .int x1, .int x2] (Wf x) (Wf x') (some (.int rr)) := by
  refine Ct.ofW (by decide) (Nat.le_of_ble_eq_true rfl) (hAd _ _) ?_
  intro p e s m0 below meth c A Q ls args hx hb hr hml hlocks hown hts hK hP hD1 hSS hS hA1 hl hret
  have hT : ∀ w ∈ TBL, w.before args s = true := fun w h => hts w (List.mem_cons_of_mem _ h)
  have Fx0 : Fx p l m0 c cX10_set 4 s args yX10_set cX10_set 4 (some .int) D cs A := ⟨hx, hb, hml, hown, hts, hK, hSS⟩
  have hown : s.vm.findClass RX10 = some m0.cls := hown
  have hl : lv_has ls 4 [(0, .ref (adx 0)), (1, .int x1), (2, .int x2)] := hl
  unfold D_X10_set at hD
  have c_73 : ∀ (x1 : Int32) (x2 : Int32) (xt0 : Int32) (x : MM) (H : Heap) (locs : List Loc) (ls : Array Slot), D_X10_set_73 x1 x2 xt0 x = some (rr, x') → va_P D vwCl (Wf x) H → va_S A s.heap H locs → lv_has ls 4 [(0, .ref (adx 0)), (1, .int x1), (2, .int x2)] → W p l e ({ frames := 1, cells := 0, slots := 0, locals := 25 } : Room) s m0 args below meth c H locs 0 0 Q (F0 m0 73 ls [.int xt0, .ref (adx 0)]) := by
    intro x1 x2 xt0 x H locs ls hD hP hS hl
    unfold D_X10_set_73 at hD
    refine lv_iconst (v := (1 : Int32)) hx hb dX10_set_73 (by decide) ?_
    obtain ⟨v11, m12, z13, hD⟩ := b2_el hD
    refine rcV  (As := [.int xt0, .int (1 : Int32)]) (rest := []) Fx0 (c_X10_throwsIf l hLx hAd x xt0 (1 : Int32) z13) hP (hD1 _ (hAd _ _)) hS (hA1 _ _ (hAd _ _) hS.1) hLx (Nat.le_of_ble_eq_true rfl) (xs0 _ _) rfl tw_7_163 tw_7_160 tw_7_162 ts_105 tw_1_13 yd_X10_throwsIf ⟨(Nat.le_of_ble_eq_true rfl), (Nat.le_of_ble_eq_true rfl)⟩ rfl hl.1 rfl (Nat.le_of_ble_eq_true rfl) dX10_set_74 (fun H locs hP hS => ?_)
    refine lv_if_eq (tgt := 82) hx hb dX10_set_77 (by decide) (fun c => ?_) (fun c => ?_)
    · have hD := ifp hD c
      refine lv_aload_n hx hb dX10_set_82 rfl (lv_at hl 0 rfl) ?_
      refine rg  hx hb hT hu10 hown hK hP hLx 0 0 (Nat.le_of_ble_eq_true rfl) (xs0 _ _) rfl (Nat.le_of_ble_eq_true rfl) (Fx0.T tw_6_215) rfl (v := .ref (adx 1)) rfl dX10_set_83 ?_
      refine lv_iload_n hx hb dX10_set_86 rfl (lv_at hl 1 rfl) ?_
      obtain ⟨h14, hD⟩ := gd_el hD
      refine riald  hx hb hK hP hLx 1 (Nat.le_of_ble_eq_true rfl) (xs1 _ _) h14 rfl dX10_set_87 ?_
      obtain ⟨v15, ev15, hD⟩ := bnd_el hD
      refine lv_nmi ev15 ?_
      refine lv_istore_n (lv' := [(3, .int v15), (0, .ref (adx 0)), (1, .int x1), (2, .int x2)]) hx hb dX10_set_88 rfl hl (by decide) rfl (fun ls hl => ?_)
      refine lv_aload_n hx hb dX10_set_89 rfl (lv_at hl 1 rfl) ?_
      refine rg  hx hb hT hu10 hown hK hP hLx 0 0 (Nat.le_of_ble_eq_true rfl) (xs0 _ _) rfl (Nat.le_of_ble_eq_true rfl) (Fx0.T tw_6_215) rfl (v := .ref (adx 1)) rfl dX10_set_90 ?_
      refine lv_iload_n hx hb dX10_set_93 rfl (lv_at hl 2 rfl) ?_
      refine lv_iload_n hx hb dX10_set_94 rfl (lv_at hl 3 rfl) ?_
      obtain ⟨h16, hD⟩ := gd_el hD
      obtain ⟨m17, em17, hD⟩ := bnd_el hD
      refine riast  hx hb hK hP (hD1 _ (hAd _ _)) hS hLx 1 (Nat.le_of_ble_eq_true rfl) (fun _ => xs1 _ _) h16 rfl dX10_set_95 em17 (fun H locs hP hS => ?_)
      refine lv_iload_n hx hb dX10_set_96 rfl (lv_at hl 0 rfl) ?_
      obtain ⟨rfl, rfl⟩ := es2 hD
      exact hret _ _ _ hP hS (fun Qc hq => W.iret hx hb hr hq hS.2.2 dX10_set_97 hlocks)
    · have hD := ifn hD c
      refine lv_iconst (v := (0 : Int32)) hx hb dX10_set_80 (by decide) ?_
      obtain ⟨rfl, rfl⟩ := es2 hD
      exact hret _ _ _ hP hS (fun Qc hq => W.iret hx hb hr hq hS.2.2 dX10_set_81 hlocks)
  have c_37 : ∀ (x1 : Int32) (x2 : Int32) (xt0 : Int32) (x : MM) (H : Heap) (locs : List Loc) (ls : Array Slot), D_X10_set_37 x1 x2 xt0 x = some (rr, x') → va_P D vwCl (Wf x) H → va_S A s.heap H locs → lv_has ls 4 [(0, .ref (adx 0)), (1, .int x1), (2, .int x2)] → W p l e ({ frames := 1, cells := 0, slots := 0, locals := 25 } : Room) s m0 args below meth c H locs 0 0 Q (F0 m0 37 ls [.int xt0, .ref (adx 0)]) := by
    intro x1 x2 xt0 x H locs ls hD hP hS hl
    unfold D_X10_set_37 at hD
    refine lv_iconst (v := (1 : Int32)) hx hb dX10_set_37 (by decide) ?_
    obtain ⟨v4, m5, z6, hD⟩ := b2_el hD
    refine rcV  (As := [.int xt0, .int (1 : Int32)]) (rest := []) Fx0 (c_X10_throwsIf l hLx hAd x xt0 (1 : Int32) z6) hP (hD1 _ (hAd _ _)) hS (hA1 _ _ (hAd _ _) hS.1) hLx (Nat.le_of_ble_eq_true rfl) (xs0 _ _) rfl tw_7_163 tw_7_160 tw_7_162 ts_105 tw_1_13 yd_X10_throwsIf ⟨(Nat.le_of_ble_eq_true rfl), (Nat.le_of_ble_eq_true rfl)⟩ rfl hl.1 rfl (Nat.le_of_ble_eq_true rfl) dX10_set_38 (fun H locs hP hS => ?_)
    refine lv_if_ne (tgt := 80) hx hb dX10_set_41 (by decide) (fun c => ?_) (fun c => ?_)
    · have hD := ifn hD c
      refine lv_iconst (v := (0 : Int32)) hx hb dX10_set_80 (by decide) ?_
      obtain ⟨rfl, rfl⟩ := es2 hD
      exact hret _ _ _ hP hS (fun Qc hq => W.iret hx hb hr hq hS.2.2 dX10_set_81 hlocks)
    · have hD := ifp hD c
      refine lv_aload_n hx hb dX10_set_44 rfl (lv_at hl 0 rfl) ?_
      refine lv_iload_n hx hb dX10_set_45 rfl (lv_at hl 2 rfl) ?_
      refine lv_i2l (v := x2.toInt64) hx hb dX10_set_46 rfl ?_
      refine lv_iload_n hx hb dX10_set_47 rfl (lv_at hl 1 rfl) ?_
      refine lv_if_ne (tgt := 55) hx hb dX10_set_48 (by decide) (fun c => ?_) (fun c => ?_)
      · have hD := ifn hD c
        refine lv_lconst (v := (0 : Int64)) hx hb dX10_set_55 (by decide) ?_
        refine lv_aload_n hx hb dX10_set_56 rfl (lv_at hl 0 rfl) ?_
        refine lv_iload_n hx hb dX10_set_57 rfl (lv_at hl 1 rfl) ?_
        obtain ⟨v7, z8, hD⟩ := b1_el hD
        refine rcV  (As := [.int x1]) (rest := [.long (0 : Int64), .long x2.toInt64, .ref (adx 0)]) Fx0 (c_X10_highest l hLx hAd m5 x1 z8) hP (hD1 _ (hAd _ _)) hS (hA1 _ _ (hAd _ _) hS.1) hLx (Nat.le_of_ble_eq_true rfl) (xs0 _ _) rfl tw_7_178 tw_7_175 tw_7_177 ts_106 tw_1_13 yd_X10_highest ⟨(Nat.le_of_ble_eq_true rfl), (Nat.le_of_ble_eq_true rfl)⟩ rfl hl.1 rfl (Nat.le_of_ble_eq_true rfl) dX10_set_58 (fun H locs hP hS => ?_)
        refine lv_i2l (v := v7.toInt64) hx hb dX10_set_61 rfl ?_
        obtain ⟨v9, z10, hD⟩ := b1_el hD
        refine rcS (As := [.long x2.toInt64, .long (0 : Int64), .long v7.toInt64]) (rest := [.ref (adx 0)]) Fx0 (c_X10_in l x2.toInt64 (0 : Int64) v7.toInt64 z10) hP (hD1 _ (hAd _ _)) hS (hA1 _ _ (hAd _ _) hS.1) tw_7_69 tw_7_67 tw_7_68 tw_1_13 yd_X10_in ⟨(Nat.le_of_ble_eq_true rfl), (Nat.le_of_ble_eq_true rfl)⟩ rfl hl.1 rfl (Nat.le_of_ble_eq_true rfl) dX10_set_62 (fun H locs hP hS => ?_)
        refine lv_if_ne (tgt := 72) hx hb dX10_set_65 (by decide) (fun c => ?_) (fun c => ?_)
        · have hD := ifn hD c
          refine lv_iconst (v := (0 : Int32)) hx hb dX10_set_72 (by decide) ?_
          exact c_73 _ _ _ _ _ _ _ hD hP hS (lv_sub hl [0, 1, 2] rfl)
        · have hD := ifp hD c
          refine lv_iconst (v := (1 : Int32)) hx hb dX10_set_68 (by decide) ?_
          refine lv_goto (tgt := 73) hx hb dX10_set_69 (by decide) ?_
          exact c_73 _ _ _ _ _ _ _ hD hP hS (lv_sub hl [0, 1, 2] rfl)
      · have hD := ifp hD c
        refine lv_lconst (v := (1 : Int64)) hx hb dX10_set_51 (by decide) ?_
        refine lv_goto (tgt := 56) hx hb dX10_set_52 (by decide) ?_
        refine lv_aload_n hx hb dX10_set_56 rfl (lv_at hl 0 rfl) ?_
        refine lv_iload_n hx hb dX10_set_57 rfl (lv_at hl 1 rfl) ?_
        obtain ⟨v18, z19, hD⟩ := b1_el hD
        refine rcV  (As := [.int x1]) (rest := [.long (1 : Int64), .long x2.toInt64, .ref (adx 0)]) Fx0 (c_X10_highest l hLx hAd m5 x1 z19) hP (hD1 _ (hAd _ _)) hS (hA1 _ _ (hAd _ _) hS.1) hLx (Nat.le_of_ble_eq_true rfl) (xs0 _ _) rfl tw_7_178 tw_7_175 tw_7_177 ts_106 tw_1_13 yd_X10_highest ⟨(Nat.le_of_ble_eq_true rfl), (Nat.le_of_ble_eq_true rfl)⟩ rfl hl.1 rfl (Nat.le_of_ble_eq_true rfl) dX10_set_58 (fun H locs hP hS => ?_)
        refine lv_i2l (v := v18.toInt64) hx hb dX10_set_61 rfl ?_
        obtain ⟨v20, z21, hD⟩ := b1_el hD
        refine rcS (As := [.long x2.toInt64, .long (1 : Int64), .long v18.toInt64]) (rest := [.ref (adx 0)]) Fx0 (c_X10_in l x2.toInt64 (1 : Int64) v18.toInt64 z21) hP (hD1 _ (hAd _ _)) hS (hA1 _ _ (hAd _ _) hS.1) tw_7_69 tw_7_67 tw_7_68 tw_1_13 yd_X10_in ⟨(Nat.le_of_ble_eq_true rfl), (Nat.le_of_ble_eq_true rfl)⟩ rfl hl.1 rfl (Nat.le_of_ble_eq_true rfl) dX10_set_62 (fun H locs hP hS => ?_)
        refine lv_if_ne (tgt := 72) hx hb dX10_set_65 (by decide) (fun c => ?_) (fun c => ?_)
        · have hD := ifn hD c
          refine lv_iconst (v := (0 : Int32)) hx hb dX10_set_72 (by decide) ?_
          exact c_73 _ _ _ _ _ _ _ hD hP hS (lv_sub hl [0, 1, 2] rfl)
        · have hD := ifp hD c
          refine lv_iconst (v := (1 : Int32)) hx hb dX10_set_68 (by decide) ?_
          refine lv_goto (tgt := 73) hx hb dX10_set_69 (by decide) ?_
          exact c_73 _ _ _ _ _ _ _ hD hP hS (lv_sub hl [0, 1, 2] rfl)
  refine lv_aload_n hx hb dX10_set_0 rfl (lv_at hl 0 rfl) ?_
  refine lv_iconst (v := (0 : Int32)) hx hb dX10_set_1 (by decide) ?_
  obtain ⟨m1, em1, hD⟩ := bnd_el hD
  refine rp  hx hb hT hu10 tyX10_ok nmX10 hown hK hP (hD1 _ (hAd _ _)) hS hLx 0 6 (Nat.le_of_ble_eq_true rfl) (xs0 _ _) (xs0 _ _) rfl (Nat.le_of_ble_eq_true rfl) (Fx0.T tw_6_221) rfl rfl rfl rfl (Nat.le_of_ble_eq_true rfl) dX10_set_2 em1 (fun H locs hP hS => ?_)
  refine lv_aload_n hx hb dX10_set_5 rfl (lv_at hl 0 rfl) ?_
  refine lv_iload_n hx hb dX10_set_6 rfl (lv_at hl 1 rfl) ?_
  refine lv_i2l (v := x1.toInt64) hx hb dX10_set_7 rfl ?_
  refine lv_lconst (v := (0 : Int64)) hx hb dX10_set_8 (by decide) ?_
  refine lv_ldc2 (v := (7 : Int64)) hx hb hown (Fx0.T tw_7_173) dX10_set_9 ?_
  obtain ⟨v2, z3, hD⟩ := b1_el hD
  refine rcS (As := [.long x1.toInt64, .long (0 : Int64), .long (7 : Int64)]) (rest := [.ref (adx 0)]) Fx0 (c_X10_in l x1.toInt64 (0 : Int64) (7 : Int64) z3) hP (hD1 _ (hAd _ _)) hS (hA1 _ _ (hAd _ _) hS.1) tw_7_69 tw_7_67 tw_7_68 tw_1_13 yd_X10_in ⟨(Nat.le_of_ble_eq_true rfl), (Nat.le_of_ble_eq_true rfl)⟩ rfl hl.1 rfl (Nat.le_of_ble_eq_true rfl) dX10_set_12 (fun H locs hP hS => ?_)
  refine lv_if_ne (tgt := 36) hx hb dX10_set_15 (by decide) (fun c => ?_) (fun c => ?_)
  · have hD := ifn hD c
    refine lv_iconst (v := (0 : Int32)) hx hb dX10_set_36 (by decide) ?_
    exact c_37 _ _ _ _ _ _ _ hD hP hS (lv_sub hl [0, 1, 2] rfl)
  · have hD := ifp hD c
    refine lv_iload_n hx hb dX10_set_18 rfl (lv_at hl 1 rfl) ?_
    refine lv_i2l (v := x1.toInt64) hx hb dX10_set_19 rfl ?_
    refine lv_ldc2 (v := (11 : Int64)) hx hb hown (Fx0.T tw_7_174) dX10_set_20 ?_
    refine lv_ldc2 (v := (14 : Int64)) hx hb hown (Fx0.T tw_7_168) dX10_set_23 ?_
    obtain ⟨v22, z23, hD⟩ := b1_el hD
    refine rcS (As := [.long x1.toInt64, .long (11 : Int64), .long (14 : Int64)]) (rest := [.ref (adx 0)]) Fx0 (c_X10_in l x1.toInt64 (11 : Int64) (14 : Int64) z23) hP (hD1 _ (hAd _ _)) hS (hA1 _ _ (hAd _ _) hS.1) tw_7_69 tw_7_67 tw_7_68 tw_1_13 yd_X10_in ⟨(Nat.le_of_ble_eq_true rfl), (Nat.le_of_ble_eq_true rfl)⟩ rfl hl.1 rfl (Nat.le_of_ble_eq_true rfl) dX10_set_26 (fun H locs hP hS => ?_)
    refine lv_if_ne (tgt := 36) hx hb dX10_set_29 (by decide) (fun c => ?_) (fun c => ?_)
    · have hD := ifn hD c
      refine lv_iconst (v := (0 : Int32)) hx hb dX10_set_36 (by decide) ?_
      exact c_37 _ _ _ _ _ _ _ hD hP hS (lv_sub hl [0, 1, 2] rfl)
    · have hD := ifp hD c
      refine lv_iconst (v := (1 : Int32)) hx hb dX10_set_32 (by decide) ?_
      refine lv_goto (tgt := 37) hx hb dX10_set_33 (by decide) ?_
      exact c_37 _ _ _ _ _ _ _ hD hP hS (lv_sub hl [0, 1, 2] rfl)

noncomputable def D_X10_ofSpindle (x1 : Int32) (x2 : Int32) (x : MM) : Option Int32 := if (((58 : Int32) + ((8 : Int32) * x1)) + x2) < 0 ∨ 640 ≤ (((58 : Int32) + ((8 : Int32) * x1)) + x2).toNatClampNeg then none else (some ((gi x 1 ((((58 : Int32) + ((8 : Int32) * x1)) + x2).toNatClampNeg))))
set_option maxHeartbeats 4000000 in
set_option maxRecDepth 100000 in
theorem c_X10_ofSpindle (l : Launch) {D : va_G} {cs : Nat → ClassId} {adx : Nat → Nat} {Wf : MM → va_W} (hLx : Ln 9 adx (xsh cs adx) Wf) (hAd : ∀ a0_ b0_ : MM, (Wf a0_).map (fun q => q.1) = (Wf b0_).map (fun q => q.1)) (x : MM) (x1 : Int32) (x2 : Int32) {rr : Int32} (hD : D_X10_ofSpindle x1 x2 x = some (rr)) : Ct l yX10_ofSpindle cX10_ofSpindle 3 (some .int) 0 0 D cs [.ref (adx 0), .int x1, .int x2] (Wf x) (Wf x) (some (.int rr)) := by
  refine Ct.ofW (by decide) (Nat.le_of_ble_eq_true rfl) rfl ?_
  intro p e s m0 below meth c A Q ls args hx hb hr hml hlocks hown hts hK hP hD1 hSS hS hA1 hl hret
  have hT : ∀ w ∈ TBL, w.before args s = true := fun w h => hts w (List.mem_cons_of_mem _ h)
  have Fx0 : Fx p l m0 c cX10_ofSpindle 3 s args yX10_ofSpindle cX10_ofSpindle 3 (some .int) D cs A := ⟨hx, hb, hml, hown, hts, hK, hSS⟩
  have hown : s.vm.findClass RX10 = some m0.cls := hown
  have hl : lv_has ls 3 [(0, .ref (adx 0)), (1, .int x1), (2, .int x2)] := hl
  unfold D_X10_ofSpindle at hD
  refine lv_aload_n hx hb dX10_ofSpindle_0 rfl (lv_at hl 0 rfl) ?_
  refine rg  hx hb hT hu10 hown hK hP hLx 0 0 (Nat.le_of_ble_eq_true rfl) (xs0 _ _) rfl (Nat.le_of_ble_eq_true rfl) (Fx0.T tw_6_215) rfl (v := .ref (adx 1)) rfl dX10_ofSpindle_1 ?_
  refine lv_bipush (v := (58 : Int32)) hx hb dX10_ofSpindle_4 (by decide) ?_
  refine lv_bipush (v := (8 : Int32)) hx hb dX10_ofSpindle_6 (by decide) ?_
  refine lv_iload_n hx hb dX10_ofSpindle_8 rfl (lv_at hl 1 rfl) ?_
  refine lv_imul hx hb dX10_ofSpindle_9 ?_
  refine lv_iadd hx hb dX10_ofSpindle_10 ?_
  refine lv_iload_n hx hb dX10_ofSpindle_11 rfl (lv_at hl 2 rfl) ?_
  refine lv_iadd hx hb dX10_ofSpindle_12 ?_
  obtain ⟨h1, hD⟩ := gd_el hD
  refine riald  hx hb hK hP hLx 1 (Nat.le_of_ble_eq_true rfl) (xs1 _ _) h1 rfl dX10_ofSpindle_13 ?_
  obtain rfl := es1 hD
  exact hret _ _ _ hP hS (fun Qc hq => W.iret hx hb hr hq hS.2.2 dX10_ofSpindle_14 hlocks)

noncomputable def D_X10_putSpindle (x1 : Int32) (x2 : Int32) (x3 : Int32) (x : MM) : Option MM := if (((58 : Int32) + ((8 : Int32) * x1)) + x2) < 0 ∨ 640 ≤ (((58 : Int32) + ((8 : Int32) * x1)) + x2).toNatClampNeg then none else (bnd (si x 1 ((((58 : Int32) + ((8 : Int32) * x1)) + x2).toNatClampNeg) x3) (fun m2 => some (m2)))
set_option maxHeartbeats 4000000 in
set_option maxRecDepth 100000 in
theorem c_X10_putSpindle (l : Launch) {D : va_G} {cs : Nat → ClassId} {adx : Nat → Nat} {Wf : MM → va_W} (hLx : Ln 9 adx (xsh cs adx) Wf) (hAd : ∀ a0_ b0_ : MM, (Wf a0_).map (fun q => q.1) = (Wf b0_).map (fun q => q.1)) (x : MM) (x1 : Int32) (x2 : Int32) (x3 : Int32) {x' : MM} (hD : D_X10_putSpindle x1 x2 x3 x = some (x')) : Ct l yX10_putSpindle cX10_putSpindle 4 none 0 0 D cs [.ref (adx 0), .int x1, .int x2, .int x3] (Wf x) (Wf x') (none) := by
  refine Ct.ofW (by decide) (Nat.le_of_ble_eq_true rfl) (hAd _ _) ?_
  intro p e s m0 below meth c A Q ls args hx hb hr hml hlocks hown hts hK hP hD1 hSS hS hA1 hl hret
  have hT : ∀ w ∈ TBL, w.before args s = true := fun w h => hts w (List.mem_cons_of_mem _ h)
  have Fx0 : Fx p l m0 c cX10_putSpindle 4 s args yX10_putSpindle cX10_putSpindle 4 none D cs A := ⟨hx, hb, hml, hown, hts, hK, hSS⟩
  have hown : s.vm.findClass RX10 = some m0.cls := hown
  have hl : lv_has ls 4 [(0, .ref (adx 0)), (1, .int x1), (2, .int x2), (3, .int x3)] := hl
  unfold D_X10_putSpindle at hD
  refine lv_aload_n hx hb dX10_putSpindle_0 rfl (lv_at hl 0 rfl) ?_
  refine rg  hx hb hT hu10 hown hK hP hLx 0 0 (Nat.le_of_ble_eq_true rfl) (xs0 _ _) rfl (Nat.le_of_ble_eq_true rfl) (Fx0.T tw_6_215) rfl (v := .ref (adx 1)) rfl dX10_putSpindle_1 ?_
  refine lv_bipush (v := (58 : Int32)) hx hb dX10_putSpindle_4 (by decide) ?_
  refine lv_bipush (v := (8 : Int32)) hx hb dX10_putSpindle_6 (by decide) ?_
  refine lv_iload_n hx hb dX10_putSpindle_8 rfl (lv_at hl 1 rfl) ?_
  refine lv_imul hx hb dX10_putSpindle_9 ?_
  refine lv_iadd hx hb dX10_putSpindle_10 ?_
  refine lv_iload_n hx hb dX10_putSpindle_11 rfl (lv_at hl 2 rfl) ?_
  refine lv_iadd hx hb dX10_putSpindle_12 ?_
  refine lv_iload_n hx hb dX10_putSpindle_13 rfl (lv_at hl 3 rfl) ?_
  obtain ⟨h1, hD⟩ := gd_el hD
  obtain ⟨m2, em2, hD⟩ := bnd_el hD
  refine riast  hx hb hK hP (hD1 _ (hAd _ _)) hS hLx 1 (Nat.le_of_ble_eq_true rfl) (fun _ => xs1 _ _) h1 rfl dX10_putSpindle_14 em2 (fun H locs hP hS => ?_)
  obtain rfl := es1 hD
  exact hret _ _ _ hP hS (fun Qc hq => W.vret hx hb hr hq hS.2.2 dX10_putSpindle_15 hlocks)

noncomputable def D_X10_noSpindle (x1 : Int32) (x : MM) : Option (Int32 × MM) := bnd (si x 0 6 (0 : Int32)) (fun m1 => b1 (D_X10_in x1.toInt64 (0 : Int64) (((gi m1 1 15) - (1 : Int32)).toInt64)) (fun v2 => if v2 = 0 then (b2 (D_X10_throwsIf (1 : Int32) (1 : Int32) m1) (fun v8 m9 => if v8 = 0 ∨ v8 = 1 then some (v8, m9) else none)) else (b2 (D_X10_throwsIf (0 : Int32) (1 : Int32) m1) (fun v4 m5 => if v4 = 0 ∨ v4 = 1 then some (v4, m5) else none))))
set_option maxHeartbeats 4000000 in
set_option maxRecDepth 100000 in
theorem c_X10_noSpindle (l : Launch) {D : va_G} {cs : Nat → ClassId} {adx : Nat → Nat} {Wf : MM → va_W} (hLx : Ln 9 adx (xsh cs adx) Wf) (hAd : ∀ a0_ b0_ : MM, (Wf a0_).map (fun q => q.1) = (Wf b0_).map (fun q => q.1)) (x : MM) (x1 : Int32) {rr : Int32} {x' : MM} (hD : D_X10_noSpindle x1 x = some (rr, x')) : Ct l yX10_noSpindle cX10_noSpindle 2 (some .boolean) 1 25 D cs [.ref (adx 0), .int x1] (Wf x) (Wf x') (some (.int rr)) := by
  refine Ct.ofW (by decide) (Nat.le_of_ble_eq_true rfl) (hAd _ _) ?_
  intro p e s m0 below meth c A Q ls args hx hb hr hml hlocks hown hts hK hP hD1 hSS hS hA1 hl hret
  have hT : ∀ w ∈ TBL, w.before args s = true := fun w h => hts w (List.mem_cons_of_mem _ h)
  have Fx0 : Fx p l m0 c cX10_noSpindle 2 s args yX10_noSpindle cX10_noSpindle 2 (some .boolean) D cs A := ⟨hx, hb, hml, hown, hts, hK, hSS⟩
  have hown : s.vm.findClass RX10 = some m0.cls := hown
  have hl : lv_has ls 2 [(0, .ref (adx 0)), (1, .int x1)] := hl
  unfold D_X10_noSpindle at hD
  refine lv_aload_n hx hb dX10_noSpindle_0 rfl (lv_at hl 0 rfl) ?_
  refine lv_iconst (v := (0 : Int32)) hx hb dX10_noSpindle_1 (by decide) ?_
  obtain ⟨m1, em1, hD⟩ := bnd_el hD
  refine rp  hx hb hT hu10 tyX10_ok nmX10 hown hK hP (hD1 _ (hAd _ _)) hS hLx 0 6 (Nat.le_of_ble_eq_true rfl) (xs0 _ _) (xs0 _ _) rfl (Nat.le_of_ble_eq_true rfl) (Fx0.T tw_6_221) rfl rfl rfl rfl (Nat.le_of_ble_eq_true rfl) dX10_noSpindle_2 em1 (fun H locs hP hS => ?_)
  refine lv_aload_n hx hb dX10_noSpindle_5 rfl (lv_at hl 0 rfl) ?_
  refine lv_iload_n hx hb dX10_noSpindle_6 rfl (lv_at hl 1 rfl) ?_
  refine lv_i2l (v := x1.toInt64) hx hb dX10_noSpindle_7 rfl ?_
  refine lv_lconst (v := (0 : Int64)) hx hb dX10_noSpindle_8 (by decide) ?_
  refine lv_aload_n hx hb dX10_noSpindle_9 rfl (lv_at hl 0 rfl) ?_
  refine rg  hx hb hT hu10 hown hK hP hLx 0 0 (Nat.le_of_ble_eq_true rfl) (xs0 _ _) rfl (Nat.le_of_ble_eq_true rfl) (Fx0.T tw_6_215) rfl (v := .ref (adx 1)) rfl dX10_noSpindle_10 ?_
  refine lv_bipush (v := (15 : Int32)) hx hb dX10_noSpindle_13 (by decide) ?_
  refine riald  hx hb hK hP hLx 1 (Nat.le_of_ble_eq_true rfl) (xs1 _ _) (by decide) (j := 15) (by decide) dX10_noSpindle_15 ?_
  refine lv_iconst (v := (1 : Int32)) hx hb dX10_noSpindle_16 (by decide) ?_
  refine lv_isub hx hb dX10_noSpindle_17 ?_
  refine lv_i2l (v := ((gi m1 1 15) - (1 : Int32)).toInt64) hx hb dX10_noSpindle_18 rfl ?_
  obtain ⟨v2, z3, hD⟩ := b1_el hD
  refine rcS (As := [.long x1.toInt64, .long (0 : Int64), .long (((gi m1 1 15) - (1 : Int32)).toInt64)]) (rest := [.ref (adx 0)]) Fx0 (c_X10_in l x1.toInt64 (0 : Int64) (((gi m1 1 15) - (1 : Int32)).toInt64) z3) hP (hD1 _ (hAd _ _)) hS (hA1 _ _ (hAd _ _) hS.1) tw_7_69 tw_7_67 tw_7_68 tw_1_13 yd_X10_in ⟨(Nat.le_of_ble_eq_true rfl), (Nat.le_of_ble_eq_true rfl)⟩ rfl hl.1 rfl (Nat.le_of_ble_eq_true rfl) dX10_noSpindle_19 (fun H locs hP hS => ?_)
  refine lv_if_ne (tgt := 29) hx hb dX10_noSpindle_22 (by decide) (fun c => ?_) (fun c => ?_)
  · have hD := ifn hD c
    refine lv_iconst (v := (0 : Int32)) hx hb dX10_noSpindle_29 (by decide) ?_
    refine lv_iconst (v := (1 : Int32)) hx hb dX10_noSpindle_30 (by decide) ?_
    obtain ⟨v4, m5, z6, hD⟩ := b2_el hD
    refine rcV  (As := [.int (0 : Int32), .int (1 : Int32)]) (rest := []) Fx0 (c_X10_throwsIf l hLx hAd m1 (0 : Int32) (1 : Int32) z6) hP (hD1 _ (hAd _ _)) hS (hA1 _ _ (hAd _ _) hS.1) hLx (Nat.le_of_ble_eq_true rfl) (xs0 _ _) rfl tw_7_163 tw_7_160 tw_7_162 ts_105 tw_1_13 yd_X10_throwsIf ⟨(Nat.le_of_ble_eq_true rfl), (Nat.le_of_ble_eq_true rfl)⟩ rfl hl.1 rfl (Nat.le_of_ble_eq_true rfl) dX10_noSpindle_31 (fun H locs hP hS => ?_)
    obtain ⟨h7, hD⟩ := gb_el hD
    obtain ⟨rfl, rfl⟩ := es2 hD
    exact hret _ _ _ hP hS (fun Qc hq => W.zret hx hb hr (nbz h7).1 hq hS.2.2 dX10_noSpindle_34 hlocks)
  · have hD := ifp hD c
    refine lv_iconst (v := (1 : Int32)) hx hb dX10_noSpindle_25 (by decide) ?_
    refine lv_goto (tgt := 30) hx hb dX10_noSpindle_26 (by decide) ?_
    refine lv_iconst (v := (1 : Int32)) hx hb dX10_noSpindle_30 (by decide) ?_
    obtain ⟨v8, m9, z10, hD⟩ := b2_el hD
    refine rcV  (As := [.int (1 : Int32), .int (1 : Int32)]) (rest := []) Fx0 (c_X10_throwsIf l hLx hAd m1 (1 : Int32) (1 : Int32) z10) hP (hD1 _ (hAd _ _)) hS (hA1 _ _ (hAd _ _) hS.1) hLx (Nat.le_of_ble_eq_true rfl) (xs0 _ _) rfl tw_7_163 tw_7_160 tw_7_162 ts_105 tw_1_13 yd_X10_throwsIf ⟨(Nat.le_of_ble_eq_true rfl), (Nat.le_of_ble_eq_true rfl)⟩ rfl hl.1 rfl (Nat.le_of_ble_eq_true rfl) dX10_noSpindle_31 (fun H locs hP hS => ?_)
    obtain ⟨h11, hD⟩ := gb_el hD
    obtain ⟨rfl, rfl⟩ := es2 hD
    exact hret _ _ _ hP hS (fun Qc hq => W.zret hx hb hr (nbz h11).1 hq hS.2.2 dX10_noSpindle_34 hlocks)

noncomputable def D_X10_spindleValue (x1 : Int32) (x2 : Int32) (x : MM) : Option (Int32 × MM) := b2 (D_X10_noSpindle x1 x) (fun v1 m2 => if v1 = 0 then (b1 (D_X10_in x2.toInt64 (0 : Int64) (7 : Int64)) (fun v4 => if v4 = 0 then (b2 (D_X10_throwsIf (1 : Int32) (2 : Int32) m2) (fun v11 m12 => if v11 = 0 then (b1 (D_X10_ofSpindle x1 x2 m12) (fun v14 => some (v14, m12))) else (some ((0 : Int32), m12)))) else (b2 (D_X10_throwsIf (0 : Int32) (2 : Int32) m2) (fun v6 m7 => if v6 = 0 then (b1 (D_X10_ofSpindle x1 x2 m7) (fun v9 => some (v9, m7))) else (some ((0 : Int32), m7)))))) else (some ((0 : Int32), m2)))
set_option maxHeartbeats 4000000 in
set_option maxRecDepth 100000 in
theorem c_X10_spindleValue (l : Launch) {D : va_G} {cs : Nat → ClassId} {adx : Nat → Nat} {Wf : MM → va_W} (hLx : Ln 9 adx (xsh cs adx) Wf) (hAd : ∀ a0_ b0_ : MM, (Wf a0_).map (fun q => q.1) = (Wf b0_).map (fun q => q.1)) (x : MM) (x1 : Int32) (x2 : Int32) {rr : Int32} {x' : MM} (hD : D_X10_spindleValue x1 x2 x = some (rr, x')) : Ct l yX10_spindleValue cX10_spindleValue 3 (some .int) 2 46 D cs [.ref (adx 0), .int x1, .int x2] (Wf x) (Wf x') (some (.int rr)) := by
  refine Ct.ofW (by decide) (Nat.le_of_ble_eq_true rfl) (hAd _ _) ?_
  intro p e s m0 below meth c A Q ls args hx hb hr hml hlocks hown hts hK hP hD1 hSS hS hA1 hl hret
  have hT : ∀ w ∈ TBL, w.before args s = true := fun w h => hts w (List.mem_cons_of_mem _ h)
  have Fx0 : Fx p l m0 c cX10_spindleValue 3 s args yX10_spindleValue cX10_spindleValue 3 (some .int) D cs A := ⟨hx, hb, hml, hown, hts, hK, hSS⟩
  have hown : s.vm.findClass RX10 = some m0.cls := hown
  have hl : lv_has ls 3 [(0, .ref (adx 0)), (1, .int x1), (2, .int x2)] := hl
  unfold D_X10_spindleValue at hD
  refine lv_aload_n hx hb dX10_spindleValue_0 rfl (lv_at hl 0 rfl) ?_
  refine lv_iload_n hx hb dX10_spindleValue_1 rfl (lv_at hl 1 rfl) ?_
  obtain ⟨v1, m2, z3, hD⟩ := b2_el hD
  refine rcV  (As := [.int x1]) (rest := []) Fx0 (c_X10_noSpindle l hLx hAd x x1 z3) hP (hD1 _ (hAd _ _)) hS (hA1 _ _ (hAd _ _) hS.1) hLx (Nat.le_of_ble_eq_true rfl) (xs0 _ _) rfl tw_7_186 tw_7_183 tw_7_185 ts_107 tw_1_13 yd_X10_noSpindle ⟨(Nat.le_of_ble_eq_true rfl), (Nat.le_of_ble_eq_true rfl)⟩ rfl hl.1 rfl (Nat.le_of_ble_eq_true rfl) dX10_spindleValue_2 (fun H locs hP hS => ?_)
  refine lv_if_ne (tgt := 33) hx hb dX10_spindleValue_5 (by decide) (fun c => ?_) (fun c => ?_)
  · have hD := ifn hD c
    refine lv_iconst (v := (0 : Int32)) hx hb dX10_spindleValue_33 (by decide) ?_
    refine lv_goto (tgt := 43) hx hb dX10_spindleValue_34 (by decide) ?_
    obtain ⟨rfl, rfl⟩ := es2 hD
    exact hret _ _ _ hP hS (fun Qc hq => W.iret hx hb hr hq hS.2.2 dX10_spindleValue_43 hlocks)
  · have hD := ifp hD c
    refine lv_aload_n hx hb dX10_spindleValue_8 rfl (lv_at hl 0 rfl) ?_
    refine lv_iload_n hx hb dX10_spindleValue_9 rfl (lv_at hl 2 rfl) ?_
    refine lv_i2l (v := x2.toInt64) hx hb dX10_spindleValue_10 rfl ?_
    refine lv_lconst (v := (0 : Int64)) hx hb dX10_spindleValue_11 (by decide) ?_
    refine lv_ldc2 (v := (7 : Int64)) hx hb hown (Fx0.T tw_7_173) dX10_spindleValue_12 ?_
    obtain ⟨v4, z5, hD⟩ := b1_el hD
    refine rcS (As := [.long x2.toInt64, .long (0 : Int64), .long (7 : Int64)]) (rest := [.ref (adx 0)]) Fx0 (c_X10_in l x2.toInt64 (0 : Int64) (7 : Int64) z5) hP (hD1 _ (hAd _ _)) hS (hA1 _ _ (hAd _ _) hS.1) tw_7_69 tw_7_67 tw_7_68 tw_1_13 yd_X10_in ⟨(Nat.le_of_ble_eq_true rfl), (Nat.le_of_ble_eq_true rfl)⟩ rfl hl.1 rfl (Nat.le_of_ble_eq_true rfl) dX10_spindleValue_15 (fun H locs hP hS => ?_)
    refine lv_if_ne (tgt := 25) hx hb dX10_spindleValue_18 (by decide) (fun c => ?_) (fun c => ?_)
    · have hD := ifn hD c
      refine lv_iconst (v := (0 : Int32)) hx hb dX10_spindleValue_25 (by decide) ?_
      refine lv_iconst (v := (2 : Int32)) hx hb dX10_spindleValue_26 (by decide) ?_
      obtain ⟨v6, m7, z8, hD⟩ := b2_el hD
      refine rcV  (As := [.int (0 : Int32), .int (2 : Int32)]) (rest := []) Fx0 (c_X10_throwsIf l hLx hAd m2 (0 : Int32) (2 : Int32) z8) hP (hD1 _ (hAd _ _)) hS (hA1 _ _ (hAd _ _) hS.1) hLx (Nat.le_of_ble_eq_true rfl) (xs0 _ _) rfl tw_7_163 tw_7_160 tw_7_162 ts_105 tw_1_13 yd_X10_throwsIf ⟨(Nat.le_of_ble_eq_true rfl), (Nat.le_of_ble_eq_true rfl)⟩ rfl hl.1 rfl (Nat.le_of_ble_eq_true rfl) dX10_spindleValue_27 (fun H locs hP hS => ?_)
      refine lv_if_eq (tgt := 37) hx hb dX10_spindleValue_30 (by decide) (fun c => ?_) (fun c => ?_)
      · have hD := ifp hD c
        refine lv_aload_n hx hb dX10_spindleValue_37 rfl (lv_at hl 0 rfl) ?_
        refine lv_iload_n hx hb dX10_spindleValue_38 rfl (lv_at hl 1 rfl) ?_
        refine lv_iload_n hx hb dX10_spindleValue_39 rfl (lv_at hl 2 rfl) ?_
        obtain ⟨v9, z10, hD⟩ := b1_el hD
        refine rcV  (As := [.int x1, .int x2]) (rest := []) Fx0 (c_X10_ofSpindle l hLx hAd m7 x1 x2 z10) hP (hD1 _ (hAd _ _)) hS (hA1 _ _ (hAd _ _) hS.1) hLx (Nat.le_of_ble_eq_true rfl) (xs0 _ _) rfl tw_7_190 tw_7_187 tw_7_189 ts_108 tw_1_13 yd_X10_ofSpindle ⟨(Nat.le_of_ble_eq_true rfl), (Nat.le_of_ble_eq_true rfl)⟩ rfl hl.1 rfl (Nat.le_of_ble_eq_true rfl) dX10_spindleValue_40 (fun H locs hP hS => ?_)
        obtain ⟨rfl, rfl⟩ := es2 hD
        exact hret _ _ _ hP hS (fun Qc hq => W.iret hx hb hr hq hS.2.2 dX10_spindleValue_43 hlocks)
      · have hD := ifn hD c
        refine lv_iconst (v := (0 : Int32)) hx hb dX10_spindleValue_33 (by decide) ?_
        refine lv_goto (tgt := 43) hx hb dX10_spindleValue_34 (by decide) ?_
        obtain ⟨rfl, rfl⟩ := es2 hD
        exact hret _ _ _ hP hS (fun Qc hq => W.iret hx hb hr hq hS.2.2 dX10_spindleValue_43 hlocks)
    · have hD := ifp hD c
      refine lv_iconst (v := (1 : Int32)) hx hb dX10_spindleValue_21 (by decide) ?_
      refine lv_goto (tgt := 26) hx hb dX10_spindleValue_22 (by decide) ?_
      refine lv_iconst (v := (2 : Int32)) hx hb dX10_spindleValue_26 (by decide) ?_
      obtain ⟨v11, m12, z13, hD⟩ := b2_el hD
      refine rcV  (As := [.int (1 : Int32), .int (2 : Int32)]) (rest := []) Fx0 (c_X10_throwsIf l hLx hAd m2 (1 : Int32) (2 : Int32) z13) hP (hD1 _ (hAd _ _)) hS (hA1 _ _ (hAd _ _) hS.1) hLx (Nat.le_of_ble_eq_true rfl) (xs0 _ _) rfl tw_7_163 tw_7_160 tw_7_162 ts_105 tw_1_13 yd_X10_throwsIf ⟨(Nat.le_of_ble_eq_true rfl), (Nat.le_of_ble_eq_true rfl)⟩ rfl hl.1 rfl (Nat.le_of_ble_eq_true rfl) dX10_spindleValue_27 (fun H locs hP hS => ?_)
      refine lv_if_eq (tgt := 37) hx hb dX10_spindleValue_30 (by decide) (fun c => ?_) (fun c => ?_)
      · have hD := ifp hD c
        refine lv_aload_n hx hb dX10_spindleValue_37 rfl (lv_at hl 0 rfl) ?_
        refine lv_iload_n hx hb dX10_spindleValue_38 rfl (lv_at hl 1 rfl) ?_
        refine lv_iload_n hx hb dX10_spindleValue_39 rfl (lv_at hl 2 rfl) ?_
        obtain ⟨v14, z15, hD⟩ := b1_el hD
        refine rcV  (As := [.int x1, .int x2]) (rest := []) Fx0 (c_X10_ofSpindle l hLx hAd m12 x1 x2 z15) hP (hD1 _ (hAd _ _)) hS (hA1 _ _ (hAd _ _) hS.1) hLx (Nat.le_of_ble_eq_true rfl) (xs0 _ _) rfl tw_7_190 tw_7_187 tw_7_189 ts_108 tw_1_13 yd_X10_ofSpindle ⟨(Nat.le_of_ble_eq_true rfl), (Nat.le_of_ble_eq_true rfl)⟩ rfl hl.1 rfl (Nat.le_of_ble_eq_true rfl) dX10_spindleValue_40 (fun H locs hP hS => ?_)
        obtain ⟨rfl, rfl⟩ := es2 hD
        exact hret _ _ _ hP hS (fun Qc hq => W.iret hx hb hr hq hS.2.2 dX10_spindleValue_43 hlocks)
      · have hD := ifn hD c
        refine lv_iconst (v := (0 : Int32)) hx hb dX10_spindleValue_33 (by decide) ?_
        refine lv_goto (tgt := 43) hx hb dX10_spindleValue_34 (by decide) ?_
        obtain ⟨rfl, rfl⟩ := es2 hD
        exact hret _ _ _ hP hS (fun Qc hq => W.iret hx hb hr hq hS.2.2 dX10_spindleValue_43 hlocks)

noncomputable def D_X10_isType (x1 : Int32) (x : MM) : Option Int32 := b1 (D_X10_in x1.toInt64 (0 : Int64) (((gi x 1 16) - (1 : Int32)).toInt64)) (fun v1 => if v1 = 0 ∨ v1 = 1 then some (v1) else none)
set_option maxHeartbeats 4000000 in
set_option maxRecDepth 100000 in
theorem c_X10_isType (l : Launch) {D : va_G} {cs : Nat → ClassId} {adx : Nat → Nat} {Wf : MM → va_W} (hLx : Ln 9 adx (xsh cs adx) Wf) (hAd : ∀ a0_ b0_ : MM, (Wf a0_).map (fun q => q.1) = (Wf b0_).map (fun q => q.1)) (x : MM) (x1 : Int32) {rr : Int32} (hD : D_X10_isType x1 x = some (rr)) : Ct l yX10_isType cX10_isType 2 (some .boolean) 1 25 D cs [.ref (adx 0), .int x1] (Wf x) (Wf x) (some (.int rr)) := by
  refine Ct.ofW (by decide) (Nat.le_of_ble_eq_true rfl) rfl ?_
  intro p e s m0 below meth c A Q ls args hx hb hr hml hlocks hown hts hK hP hD1 hSS hS hA1 hl hret
  have hT : ∀ w ∈ TBL, w.before args s = true := fun w h => hts w (List.mem_cons_of_mem _ h)
  have Fx0 : Fx p l m0 c cX10_isType 2 s args yX10_isType cX10_isType 2 (some .boolean) D cs A := ⟨hx, hb, hml, hown, hts, hK, hSS⟩
  have hown : s.vm.findClass RX10 = some m0.cls := hown
  have hl : lv_has ls 2 [(0, .ref (adx 0)), (1, .int x1)] := hl
  unfold D_X10_isType at hD
  refine lv_iload_n hx hb dX10_isType_0 rfl (lv_at hl 1 rfl) ?_
  refine lv_i2l (v := x1.toInt64) hx hb dX10_isType_1 rfl ?_
  refine lv_lconst (v := (0 : Int64)) hx hb dX10_isType_2 (by decide) ?_
  refine lv_aload_n hx hb dX10_isType_3 rfl (lv_at hl 0 rfl) ?_
  refine rg  hx hb hT hu10 hown hK hP hLx 0 0 (Nat.le_of_ble_eq_true rfl) (xs0 _ _) rfl (Nat.le_of_ble_eq_true rfl) (Fx0.T tw_6_215) rfl (v := .ref (adx 1)) rfl dX10_isType_4 ?_
  refine lv_bipush (v := (16 : Int32)) hx hb dX10_isType_7 (by decide) ?_
  refine riald  hx hb hK hP hLx 1 (Nat.le_of_ble_eq_true rfl) (xs1 _ _) (by decide) (j := 16) (by decide) dX10_isType_9 ?_
  refine lv_iconst (v := (1 : Int32)) hx hb dX10_isType_10 (by decide) ?_
  refine lv_isub hx hb dX10_isType_11 ?_
  refine lv_i2l (v := ((gi x 1 16) - (1 : Int32)).toInt64) hx hb dX10_isType_12 rfl ?_
  obtain ⟨v1, z2, hD⟩ := b1_el hD
  refine rcS (As := [.long x1.toInt64, .long (0 : Int64), .long (((gi x 1 16) - (1 : Int32)).toInt64)]) (rest := []) Fx0 (c_X10_in l x1.toInt64 (0 : Int64) (((gi x 1 16) - (1 : Int32)).toInt64) z2) hP (hD1 _ (hAd _ _)) hS (hA1 _ _ (hAd _ _) hS.1) tw_7_69 tw_7_67 tw_7_68 tw_1_13 yd_X10_in ⟨(Nat.le_of_ble_eq_true rfl), (Nat.le_of_ble_eq_true rfl)⟩ rfl hl.1 rfl (Nat.le_of_ble_eq_true rfl) dX10_isType_13 (fun H locs hP hS => ?_)
  obtain ⟨h3, hD⟩ := gb_el hD
  obtain rfl := es1 hD
  exact hret _ _ _ hP hS (fun Qc hq => W.zret hx hb hr (nbz h3).1 hq hS.2.2 dX10_isType_16 hlocks)

noncomputable def D_X10_freeNozzles (x1 : Int32) (x : MM) : Option (Int32 × MM) := b2 (D_X10_fine x) (fun v1 m2 => if v1 = 0 then (if ((44 : Int32) + x1) < 0 ∨ 640 ≤ ((44 : Int32) + x1).toNatClampNeg then none else (some ((gi m2 1 (((44 : Int32) + x1).toNatClampNeg)), m2))) else (b1 (D_X10_isType x1 m2) (fun v5 => if v5 = 0 then (b2 (D_X10_throwsIf (1 : Int32) (1 : Int32) m2) (fun v11 m12 => if v11 = 0 then (if ((44 : Int32) + x1) < 0 ∨ 640 ≤ ((44 : Int32) + x1).toNatClampNeg then none else (some ((gi m12 1 (((44 : Int32) + x1).toNatClampNeg)), m12))) else (some ((0 : Int32), m12)))) else (b2 (D_X10_throwsIf (0 : Int32) (1 : Int32) m2) (fun v7 m8 => if v7 = 0 then (if ((44 : Int32) + x1) < 0 ∨ 640 ≤ ((44 : Int32) + x1).toNatClampNeg then none else (some ((gi m8 1 (((44 : Int32) + x1).toNatClampNeg)), m8))) else (some ((0 : Int32), m8)))))))
set_option maxHeartbeats 4000000 in
set_option maxRecDepth 100000 in
theorem c_X10_freeNozzles (l : Launch) {D : va_G} {cs : Nat → ClassId} {adx : Nat → Nat} {Wf : MM → va_W} (hLx : Ln 9 adx (xsh cs adx) Wf) (hAd : ∀ a0_ b0_ : MM, (Wf a0_).map (fun q => q.1) = (Wf b0_).map (fun q => q.1)) (x : MM) (x1 : Int32) {rr : Int32} {x' : MM} (hD : D_X10_freeNozzles x1 x = some (rr, x')) : Ct l yX10_freeNozzles cX10_freeNozzles 2 (some .int) 2 46 D cs [.ref (adx 0), .int x1] (Wf x) (Wf x') (some (.int rr)) := by
  refine Ct.ofW (by decide) (Nat.le_of_ble_eq_true rfl) (hAd _ _) ?_
  intro p e s m0 below meth c A Q ls args hx hb hr hml hlocks hown hts hK hP hD1 hSS hS hA1 hl hret
  have hT : ∀ w ∈ TBL, w.before args s = true := fun w h => hts w (List.mem_cons_of_mem _ h)
  have Fx0 : Fx p l m0 c cX10_freeNozzles 2 s args yX10_freeNozzles cX10_freeNozzles 2 (some .int) D cs A := ⟨hx, hb, hml, hown, hts, hK, hSS⟩
  have hown : s.vm.findClass RX10 = some m0.cls := hown
  have hl : lv_has ls 2 [(0, .ref (adx 0)), (1, .int x1)] := hl
  unfold D_X10_freeNozzles at hD
  refine lv_aload_n hx hb dX10_freeNozzles_0 rfl (lv_at hl 0 rfl) ?_
  obtain ⟨v1, m2, z3, hD⟩ := b2_el hD
  refine rcV  (As := []) (rest := []) Fx0 (c_X10_fine l hLx hAd x z3) hP (hD1 _ (hAd _ _)) hS (hA1 _ _ (hAd _ _) hS.1) hLx (Nat.le_of_ble_eq_true rfl) (xs0 _ _) rfl tw_7_158 tw_7_155 tw_7_157 ts_104 tw_1_13 yd_X10_fine ⟨(Nat.le_of_ble_eq_true rfl), (Nat.le_of_ble_eq_true rfl)⟩ rfl hl.1 rfl (Nat.le_of_ble_eq_true rfl) dX10_freeNozzles_1 (fun H locs hP hS => ?_)
  refine lv_if_eq (tgt := 32) hx hb dX10_freeNozzles_4 (by decide) (fun c => ?_) (fun c => ?_)
  · have hD := ifp hD c
    refine lv_aload_n hx hb dX10_freeNozzles_32 rfl (lv_at hl 0 rfl) ?_
    refine rg  hx hb hT hu10 hown hK hP hLx 0 0 (Nat.le_of_ble_eq_true rfl) (xs0 _ _) rfl (Nat.le_of_ble_eq_true rfl) (Fx0.T tw_6_215) rfl (v := .ref (adx 1)) rfl dX10_freeNozzles_33 ?_
    refine lv_bipush (v := (44 : Int32)) hx hb dX10_freeNozzles_36 (by decide) ?_
    refine lv_iload_n hx hb dX10_freeNozzles_38 rfl (lv_at hl 1 rfl) ?_
    refine lv_iadd hx hb dX10_freeNozzles_39 ?_
    obtain ⟨h4, hD⟩ := gd_el hD
    refine riald  hx hb hK hP hLx 1 (Nat.le_of_ble_eq_true rfl) (xs1 _ _) h4 rfl dX10_freeNozzles_40 ?_
    obtain ⟨rfl, rfl⟩ := es2 hD
    exact hret _ _ _ hP hS (fun Qc hq => W.iret hx hb hr hq hS.2.2 dX10_freeNozzles_41 hlocks)
  · have hD := ifn hD c
    refine lv_aload_n hx hb dX10_freeNozzles_7 rfl (lv_at hl 0 rfl) ?_
    refine lv_aload_n hx hb dX10_freeNozzles_8 rfl (lv_at hl 0 rfl) ?_
    refine lv_iload_n hx hb dX10_freeNozzles_9 rfl (lv_at hl 1 rfl) ?_
    obtain ⟨v5, z6, hD⟩ := b1_el hD
    refine rcV  (As := [.int x1]) (rest := [.ref (adx 0)]) Fx0 (c_X10_isType l hLx hAd m2 x1 z6) hP (hD1 _ (hAd _ _)) hS (hA1 _ _ (hAd _ _) hS.1) hLx (Nat.le_of_ble_eq_true rfl) (xs0 _ _) rfl tw_7_198 tw_7_195 tw_7_197 ts_109 tw_1_13 yd_X10_isType ⟨(Nat.le_of_ble_eq_true rfl), (Nat.le_of_ble_eq_true rfl)⟩ rfl hl.1 rfl (Nat.le_of_ble_eq_true rfl) dX10_freeNozzles_10 (fun H locs hP hS => ?_)
    refine lv_if_ne (tgt := 20) hx hb dX10_freeNozzles_13 (by decide) (fun c => ?_) (fun c => ?_)
    · have hD := ifn hD c
      refine lv_iconst (v := (0 : Int32)) hx hb dX10_freeNozzles_20 (by decide) ?_
      refine lv_iconst (v := (1 : Int32)) hx hb dX10_freeNozzles_21 (by decide) ?_
      obtain ⟨v7, m8, z9, hD⟩ := b2_el hD
      refine rcV  (As := [.int (0 : Int32), .int (1 : Int32)]) (rest := []) Fx0 (c_X10_throwsIf l hLx hAd m2 (0 : Int32) (1 : Int32) z9) hP (hD1 _ (hAd _ _)) hS (hA1 _ _ (hAd _ _) hS.1) hLx (Nat.le_of_ble_eq_true rfl) (xs0 _ _) rfl tw_7_163 tw_7_160 tw_7_162 ts_105 tw_1_13 yd_X10_throwsIf ⟨(Nat.le_of_ble_eq_true rfl), (Nat.le_of_ble_eq_true rfl)⟩ rfl hl.1 rfl (Nat.le_of_ble_eq_true rfl) dX10_freeNozzles_22 (fun H locs hP hS => ?_)
      refine lv_if_eq (tgt := 32) hx hb dX10_freeNozzles_25 (by decide) (fun c => ?_) (fun c => ?_)
      · have hD := ifp hD c
        refine lv_aload_n hx hb dX10_freeNozzles_32 rfl (lv_at hl 0 rfl) ?_
        refine rg  hx hb hT hu10 hown hK hP hLx 0 0 (Nat.le_of_ble_eq_true rfl) (xs0 _ _) rfl (Nat.le_of_ble_eq_true rfl) (Fx0.T tw_6_215) rfl (v := .ref (adx 1)) rfl dX10_freeNozzles_33 ?_
        refine lv_bipush (v := (44 : Int32)) hx hb dX10_freeNozzles_36 (by decide) ?_
        refine lv_iload_n hx hb dX10_freeNozzles_38 rfl (lv_at hl 1 rfl) ?_
        refine lv_iadd hx hb dX10_freeNozzles_39 ?_
        obtain ⟨h10, hD⟩ := gd_el hD
        refine riald  hx hb hK hP hLx 1 (Nat.le_of_ble_eq_true rfl) (xs1 _ _) h10 rfl dX10_freeNozzles_40 ?_
        obtain ⟨rfl, rfl⟩ := es2 hD
        exact hret _ _ _ hP hS (fun Qc hq => W.iret hx hb hr hq hS.2.2 dX10_freeNozzles_41 hlocks)
      · have hD := ifn hD c
        refine lv_iconst (v := (0 : Int32)) hx hb dX10_freeNozzles_28 (by decide) ?_
        refine lv_goto (tgt := 41) hx hb dX10_freeNozzles_29 (by decide) ?_
        obtain ⟨rfl, rfl⟩ := es2 hD
        exact hret _ _ _ hP hS (fun Qc hq => W.iret hx hb hr hq hS.2.2 dX10_freeNozzles_41 hlocks)
    · have hD := ifp hD c
      refine lv_iconst (v := (1 : Int32)) hx hb dX10_freeNozzles_16 (by decide) ?_
      refine lv_goto (tgt := 21) hx hb dX10_freeNozzles_17 (by decide) ?_
      refine lv_iconst (v := (1 : Int32)) hx hb dX10_freeNozzles_21 (by decide) ?_
      obtain ⟨v11, m12, z13, hD⟩ := b2_el hD
      refine rcV  (As := [.int (1 : Int32), .int (1 : Int32)]) (rest := []) Fx0 (c_X10_throwsIf l hLx hAd m2 (1 : Int32) (1 : Int32) z13) hP (hD1 _ (hAd _ _)) hS (hA1 _ _ (hAd _ _) hS.1) hLx (Nat.le_of_ble_eq_true rfl) (xs0 _ _) rfl tw_7_163 tw_7_160 tw_7_162 ts_105 tw_1_13 yd_X10_throwsIf ⟨(Nat.le_of_ble_eq_true rfl), (Nat.le_of_ble_eq_true rfl)⟩ rfl hl.1 rfl (Nat.le_of_ble_eq_true rfl) dX10_freeNozzles_22 (fun H locs hP hS => ?_)
      refine lv_if_eq (tgt := 32) hx hb dX10_freeNozzles_25 (by decide) (fun c => ?_) (fun c => ?_)
      · have hD := ifp hD c
        refine lv_aload_n hx hb dX10_freeNozzles_32 rfl (lv_at hl 0 rfl) ?_
        refine rg  hx hb hT hu10 hown hK hP hLx 0 0 (Nat.le_of_ble_eq_true rfl) (xs0 _ _) rfl (Nat.le_of_ble_eq_true rfl) (Fx0.T tw_6_215) rfl (v := .ref (adx 1)) rfl dX10_freeNozzles_33 ?_
        refine lv_bipush (v := (44 : Int32)) hx hb dX10_freeNozzles_36 (by decide) ?_
        refine lv_iload_n hx hb dX10_freeNozzles_38 rfl (lv_at hl 1 rfl) ?_
        refine lv_iadd hx hb dX10_freeNozzles_39 ?_
        obtain ⟨h14, hD⟩ := gd_el hD
        refine riald  hx hb hK hP hLx 1 (Nat.le_of_ble_eq_true rfl) (xs1 _ _) h14 rfl dX10_freeNozzles_40 ?_
        obtain ⟨rfl, rfl⟩ := es2 hD
        exact hret _ _ _ hP hS (fun Qc hq => W.iret hx hb hr hq hS.2.2 dX10_freeNozzles_41 hlocks)
      · have hD := ifn hD c
        refine lv_iconst (v := (0 : Int32)) hx hb dX10_freeNozzles_28 (by decide) ?_
        refine lv_goto (tgt := 41) hx hb dX10_freeNozzles_29 (by decide) ?_
        obtain ⟨rfl, rfl⟩ := es2 hD
        exact hret _ _ _ hP hS (fun Qc hq => W.iret hx hb hr hq hS.2.2 dX10_freeNozzles_41 hlocks)

noncomputable def D_X10_noKind (x1 : Int32) (x : MM) : Option (Int32 × MM) := bnd (si x 0 6 (0 : Int32)) (fun m1 => b1 (D_X10_in x1.toInt64 (0 : Int64) (((gi m1 1 17) - (1 : Int32)).toInt64)) (fun v2 => if v2 = 0 then (b2 (D_X10_throwsIf (1 : Int32) (1 : Int32) m1) (fun v8 m9 => if v8 = 0 ∨ v8 = 1 then some (v8, m9) else none)) else (b2 (D_X10_throwsIf (0 : Int32) (1 : Int32) m1) (fun v4 m5 => if v4 = 0 ∨ v4 = 1 then some (v4, m5) else none))))
set_option maxHeartbeats 4000000 in
set_option maxRecDepth 100000 in
theorem c_X10_noKind (l : Launch) {D : va_G} {cs : Nat → ClassId} {adx : Nat → Nat} {Wf : MM → va_W} (hLx : Ln 9 adx (xsh cs adx) Wf) (hAd : ∀ a0_ b0_ : MM, (Wf a0_).map (fun q => q.1) = (Wf b0_).map (fun q => q.1)) (x : MM) (x1 : Int32) {rr : Int32} {x' : MM} (hD : D_X10_noKind x1 x = some (rr, x')) : Ct l yX10_noKind cX10_noKind 2 (some .boolean) 1 25 D cs [.ref (adx 0), .int x1] (Wf x) (Wf x') (some (.int rr)) := by
  refine Ct.ofW (by decide) (Nat.le_of_ble_eq_true rfl) (hAd _ _) ?_
  intro p e s m0 below meth c A Q ls args hx hb hr hml hlocks hown hts hK hP hD1 hSS hS hA1 hl hret
  have hT : ∀ w ∈ TBL, w.before args s = true := fun w h => hts w (List.mem_cons_of_mem _ h)
  have Fx0 : Fx p l m0 c cX10_noKind 2 s args yX10_noKind cX10_noKind 2 (some .boolean) D cs A := ⟨hx, hb, hml, hown, hts, hK, hSS⟩
  have hown : s.vm.findClass RX10 = some m0.cls := hown
  have hl : lv_has ls 2 [(0, .ref (adx 0)), (1, .int x1)] := hl
  unfold D_X10_noKind at hD
  refine lv_aload_n hx hb dX10_noKind_0 rfl (lv_at hl 0 rfl) ?_
  refine lv_iconst (v := (0 : Int32)) hx hb dX10_noKind_1 (by decide) ?_
  obtain ⟨m1, em1, hD⟩ := bnd_el hD
  refine rp  hx hb hT hu10 tyX10_ok nmX10 hown hK hP (hD1 _ (hAd _ _)) hS hLx 0 6 (Nat.le_of_ble_eq_true rfl) (xs0 _ _) (xs0 _ _) rfl (Nat.le_of_ble_eq_true rfl) (Fx0.T tw_6_221) rfl rfl rfl rfl (Nat.le_of_ble_eq_true rfl) dX10_noKind_2 em1 (fun H locs hP hS => ?_)
  refine lv_aload_n hx hb dX10_noKind_5 rfl (lv_at hl 0 rfl) ?_
  refine lv_iload_n hx hb dX10_noKind_6 rfl (lv_at hl 1 rfl) ?_
  refine lv_i2l (v := x1.toInt64) hx hb dX10_noKind_7 rfl ?_
  refine lv_lconst (v := (0 : Int64)) hx hb dX10_noKind_8 (by decide) ?_
  refine lv_aload_n hx hb dX10_noKind_9 rfl (lv_at hl 0 rfl) ?_
  refine rg  hx hb hT hu10 hown hK hP hLx 0 0 (Nat.le_of_ble_eq_true rfl) (xs0 _ _) rfl (Nat.le_of_ble_eq_true rfl) (Fx0.T tw_6_215) rfl (v := .ref (adx 1)) rfl dX10_noKind_10 ?_
  refine lv_bipush (v := (17 : Int32)) hx hb dX10_noKind_13 (by decide) ?_
  refine riald  hx hb hK hP hLx 1 (Nat.le_of_ble_eq_true rfl) (xs1 _ _) (by decide) (j := 17) (by decide) dX10_noKind_15 ?_
  refine lv_iconst (v := (1 : Int32)) hx hb dX10_noKind_16 (by decide) ?_
  refine lv_isub hx hb dX10_noKind_17 ?_
  refine lv_i2l (v := ((gi m1 1 17) - (1 : Int32)).toInt64) hx hb dX10_noKind_18 rfl ?_
  obtain ⟨v2, z3, hD⟩ := b1_el hD
  refine rcS (As := [.long x1.toInt64, .long (0 : Int64), .long (((gi m1 1 17) - (1 : Int32)).toInt64)]) (rest := [.ref (adx 0)]) Fx0 (c_X10_in l x1.toInt64 (0 : Int64) (((gi m1 1 17) - (1 : Int32)).toInt64) z3) hP (hD1 _ (hAd _ _)) hS (hA1 _ _ (hAd _ _) hS.1) tw_7_69 tw_7_67 tw_7_68 tw_1_13 yd_X10_in ⟨(Nat.le_of_ble_eq_true rfl), (Nat.le_of_ble_eq_true rfl)⟩ rfl hl.1 rfl (Nat.le_of_ble_eq_true rfl) dX10_noKind_19 (fun H locs hP hS => ?_)
  refine lv_if_ne (tgt := 29) hx hb dX10_noKind_22 (by decide) (fun c => ?_) (fun c => ?_)
  · have hD := ifn hD c
    refine lv_iconst (v := (0 : Int32)) hx hb dX10_noKind_29 (by decide) ?_
    refine lv_iconst (v := (1 : Int32)) hx hb dX10_noKind_30 (by decide) ?_
    obtain ⟨v4, m5, z6, hD⟩ := b2_el hD
    refine rcV  (As := [.int (0 : Int32), .int (1 : Int32)]) (rest := []) Fx0 (c_X10_throwsIf l hLx hAd m1 (0 : Int32) (1 : Int32) z6) hP (hD1 _ (hAd _ _)) hS (hA1 _ _ (hAd _ _) hS.1) hLx (Nat.le_of_ble_eq_true rfl) (xs0 _ _) rfl tw_7_163 tw_7_160 tw_7_162 ts_105 tw_1_13 yd_X10_throwsIf ⟨(Nat.le_of_ble_eq_true rfl), (Nat.le_of_ble_eq_true rfl)⟩ rfl hl.1 rfl (Nat.le_of_ble_eq_true rfl) dX10_noKind_31 (fun H locs hP hS => ?_)
    obtain ⟨h7, hD⟩ := gb_el hD
    obtain ⟨rfl, rfl⟩ := es2 hD
    exact hret _ _ _ hP hS (fun Qc hq => W.zret hx hb hr (nbz h7).1 hq hS.2.2 dX10_noKind_34 hlocks)
  · have hD := ifp hD c
    refine lv_iconst (v := (1 : Int32)) hx hb dX10_noKind_25 (by decide) ?_
    refine lv_goto (tgt := 30) hx hb dX10_noKind_26 (by decide) ?_
    refine lv_iconst (v := (1 : Int32)) hx hb dX10_noKind_30 (by decide) ?_
    obtain ⟨v8, m9, z10, hD⟩ := b2_el hD
    refine rcV  (As := [.int (1 : Int32), .int (1 : Int32)]) (rest := []) Fx0 (c_X10_throwsIf l hLx hAd m1 (1 : Int32) (1 : Int32) z10) hP (hD1 _ (hAd _ _)) hS (hA1 _ _ (hAd _ _) hS.1) hLx (Nat.le_of_ble_eq_true rfl) (xs0 _ _) rfl tw_7_163 tw_7_160 tw_7_162 ts_105 tw_1_13 yd_X10_throwsIf ⟨(Nat.le_of_ble_eq_true rfl), (Nat.le_of_ble_eq_true rfl)⟩ rfl hl.1 rfl (Nat.le_of_ble_eq_true rfl) dX10_noKind_31 (fun H locs hP hS => ?_)
    obtain ⟨h11, hD⟩ := gb_el hD
    obtain ⟨rfl, rfl⟩ := es2 hD
    exact hret _ _ _ hP hS (fun Qc hq => W.zret hx hb hr (nbz h11).1 hq hS.2.2 dX10_noKind_34 hlocks)

noncomputable def D_X10_nozzleFor (x1 : Int32) (x : MM) : Option (Int32 × MM) := b2 (D_X10_noKind x1 x) (fun v1 m2 => if v1 = 0 then (if ((50 : Int32) + x1) < 0 ∨ 640 ≤ ((50 : Int32) + x1).toNatClampNeg then none else (some ((gi m2 1 (((50 : Int32) + x1).toNatClampNeg)), m2))) else (some ((0 : Int32), m2)))
set_option maxHeartbeats 4000000 in
set_option maxRecDepth 100000 in
theorem c_X10_nozzleFor (l : Launch) {D : va_G} {cs : Nat → ClassId} {adx : Nat → Nat} {Wf : MM → va_W} (hLx : Ln 9 adx (xsh cs adx) Wf) (hAd : ∀ a0_ b0_ : MM, (Wf a0_).map (fun q => q.1) = (Wf b0_).map (fun q => q.1)) (x : MM) (x1 : Int32) {rr : Int32} {x' : MM} (hD : D_X10_nozzleFor x1 x = some (rr, x')) : Ct l yX10_nozzleFor cX10_nozzleFor 2 (some .int) 2 46 D cs [.ref (adx 0), .int x1] (Wf x) (Wf x') (some (.int rr)) := by
  refine Ct.ofW (by decide) (Nat.le_of_ble_eq_true rfl) (hAd _ _) ?_
  intro p e s m0 below meth c A Q ls args hx hb hr hml hlocks hown hts hK hP hD1 hSS hS hA1 hl hret
  have hT : ∀ w ∈ TBL, w.before args s = true := fun w h => hts w (List.mem_cons_of_mem _ h)
  have Fx0 : Fx p l m0 c cX10_nozzleFor 2 s args yX10_nozzleFor cX10_nozzleFor 2 (some .int) D cs A := ⟨hx, hb, hml, hown, hts, hK, hSS⟩
  have hown : s.vm.findClass RX10 = some m0.cls := hown
  have hl : lv_has ls 2 [(0, .ref (adx 0)), (1, .int x1)] := hl
  unfold D_X10_nozzleFor at hD
  refine lv_aload_n hx hb dX10_nozzleFor_0 rfl (lv_at hl 0 rfl) ?_
  refine lv_iload_n hx hb dX10_nozzleFor_1 rfl (lv_at hl 1 rfl) ?_
  obtain ⟨v1, m2, z3, hD⟩ := b2_el hD
  refine rcV  (As := [.int x1]) (rest := []) Fx0 (c_X10_noKind l hLx hAd x x1 z3) hP (hD1 _ (hAd _ _)) hS (hA1 _ _ (hAd _ _) hS.1) hLx (Nat.le_of_ble_eq_true rfl) (xs0 _ _) rfl tw_7_206 tw_7_203 tw_7_205 ts_110 tw_1_13 yd_X10_noKind ⟨(Nat.le_of_ble_eq_true rfl), (Nat.le_of_ble_eq_true rfl)⟩ rfl hl.1 rfl (Nat.le_of_ble_eq_true rfl) dX10_nozzleFor_2 (fun H locs hP hS => ?_)
  refine lv_if_eq (tgt := 12) hx hb dX10_nozzleFor_5 (by decide) (fun c => ?_) (fun c => ?_)
  · have hD := ifp hD c
    refine lv_aload_n hx hb dX10_nozzleFor_12 rfl (lv_at hl 0 rfl) ?_
    refine rg  hx hb hT hu10 hown hK hP hLx 0 0 (Nat.le_of_ble_eq_true rfl) (xs0 _ _) rfl (Nat.le_of_ble_eq_true rfl) (Fx0.T tw_6_215) rfl (v := .ref (adx 1)) rfl dX10_nozzleFor_13 ?_
    refine lv_bipush (v := (50 : Int32)) hx hb dX10_nozzleFor_16 (by decide) ?_
    refine lv_iload_n hx hb dX10_nozzleFor_18 rfl (lv_at hl 1 rfl) ?_
    refine lv_iadd hx hb dX10_nozzleFor_19 ?_
    obtain ⟨h4, hD⟩ := gd_el hD
    refine riald  hx hb hK hP hLx 1 (Nat.le_of_ble_eq_true rfl) (xs1 _ _) h4 rfl dX10_nozzleFor_20 ?_
    obtain ⟨rfl, rfl⟩ := es2 hD
    exact hret _ _ _ hP hS (fun Qc hq => W.iret hx hb hr hq hS.2.2 dX10_nozzleFor_21 hlocks)
  · have hD := ifn hD c
    refine lv_iconst (v := (0 : Int32)) hx hb dX10_nozzleFor_8 (by decide) ?_
    refine lv_goto (tgt := 21) hx hb dX10_nozzleFor_9 (by decide) ?_
    obtain ⟨rfl, rfl⟩ := es2 hD
    exact hret _ _ _ hP hS (fun Qc hq => W.iret hx hb hr hq hS.2.2 dX10_nozzleFor_21 hlocks)

noncomputable def D_X10_ofFeeder (x1 : Int32) (x2 : Int32) (x : MM) : Option Int32 := if (((130 : Int32) + ((11 : Int32) * x1)) + x2) < 0 ∨ 640 ≤ (((130 : Int32) + ((11 : Int32) * x1)) + x2).toNatClampNeg then none else (some ((gi x 1 ((((130 : Int32) + ((11 : Int32) * x1)) + x2).toNatClampNeg))))
set_option maxHeartbeats 4000000 in
set_option maxRecDepth 100000 in
theorem c_X10_ofFeeder (l : Launch) {D : va_G} {cs : Nat → ClassId} {adx : Nat → Nat} {Wf : MM → va_W} (hLx : Ln 9 adx (xsh cs adx) Wf) (hAd : ∀ a0_ b0_ : MM, (Wf a0_).map (fun q => q.1) = (Wf b0_).map (fun q => q.1)) (x : MM) (x1 : Int32) (x2 : Int32) {rr : Int32} (hD : D_X10_ofFeeder x1 x2 x = some (rr)) : Ct l yX10_ofFeeder cX10_ofFeeder 3 (some .int) 0 0 D cs [.ref (adx 0), .int x1, .int x2] (Wf x) (Wf x) (some (.int rr)) := by
  refine Ct.ofW (by decide) (Nat.le_of_ble_eq_true rfl) rfl ?_
  intro p e s m0 below meth c A Q ls args hx hb hr hml hlocks hown hts hK hP hD1 hSS hS hA1 hl hret
  have hT : ∀ w ∈ TBL, w.before args s = true := fun w h => hts w (List.mem_cons_of_mem _ h)
  have Fx0 : Fx p l m0 c cX10_ofFeeder 3 s args yX10_ofFeeder cX10_ofFeeder 3 (some .int) D cs A := ⟨hx, hb, hml, hown, hts, hK, hSS⟩
  have hown : s.vm.findClass RX10 = some m0.cls := hown
  have hl : lv_has ls 3 [(0, .ref (adx 0)), (1, .int x1), (2, .int x2)] := hl
  unfold D_X10_ofFeeder at hD
  refine lv_aload_n hx hb dX10_ofFeeder_0 rfl (lv_at hl 0 rfl) ?_
  refine rg  hx hb hT hu10 hown hK hP hLx 0 0 (Nat.le_of_ble_eq_true rfl) (xs0 _ _) rfl (Nat.le_of_ble_eq_true rfl) (Fx0.T tw_6_215) rfl (v := .ref (adx 1)) rfl dX10_ofFeeder_1 ?_
  refine lv_sipush (v := (130 : Int32)) hx hb dX10_ofFeeder_4 (by decide) ?_
  refine lv_bipush (v := (11 : Int32)) hx hb dX10_ofFeeder_7 (by decide) ?_
  refine lv_iload_n hx hb dX10_ofFeeder_9 rfl (lv_at hl 1 rfl) ?_
  refine lv_imul hx hb dX10_ofFeeder_10 ?_
  refine lv_iadd hx hb dX10_ofFeeder_11 ?_
  refine lv_iload_n hx hb dX10_ofFeeder_12 rfl (lv_at hl 2 rfl) ?_
  refine lv_iadd hx hb dX10_ofFeeder_13 ?_
  obtain ⟨h1, hD⟩ := gd_el hD
  refine riald  hx hb hK hP hLx 1 (Nat.le_of_ble_eq_true rfl) (xs1 _ _) h1 rfl dX10_ofFeeder_14 ?_
  obtain rfl := es1 hD
  exact hret _ _ _ hP hS (fun Qc hq => W.iret hx hb hr hq hS.2.2 dX10_ofFeeder_15 hlocks)

noncomputable def D_X10_putFeeder (x1 : Int32) (x2 : Int32) (x3 : Int32) (x : MM) : Option MM := if (((130 : Int32) + ((11 : Int32) * x1)) + x2) < 0 ∨ 640 ≤ (((130 : Int32) + ((11 : Int32) * x1)) + x2).toNatClampNeg then none else (bnd (si x 1 ((((130 : Int32) + ((11 : Int32) * x1)) + x2).toNatClampNeg) x3) (fun m2 => some (m2)))
set_option maxHeartbeats 4000000 in
set_option maxRecDepth 100000 in
theorem c_X10_putFeeder (l : Launch) {D : va_G} {cs : Nat → ClassId} {adx : Nat → Nat} {Wf : MM → va_W} (hLx : Ln 9 adx (xsh cs adx) Wf) (hAd : ∀ a0_ b0_ : MM, (Wf a0_).map (fun q => q.1) = (Wf b0_).map (fun q => q.1)) (x : MM) (x1 : Int32) (x2 : Int32) (x3 : Int32) {x' : MM} (hD : D_X10_putFeeder x1 x2 x3 x = some (x')) : Ct l yX10_putFeeder cX10_putFeeder 4 none 0 0 D cs [.ref (adx 0), .int x1, .int x2, .int x3] (Wf x) (Wf x') (none) := by
  refine Ct.ofW (by decide) (Nat.le_of_ble_eq_true rfl) (hAd _ _) ?_
  intro p e s m0 below meth c A Q ls args hx hb hr hml hlocks hown hts hK hP hD1 hSS hS hA1 hl hret
  have hT : ∀ w ∈ TBL, w.before args s = true := fun w h => hts w (List.mem_cons_of_mem _ h)
  have Fx0 : Fx p l m0 c cX10_putFeeder 4 s args yX10_putFeeder cX10_putFeeder 4 none D cs A := ⟨hx, hb, hml, hown, hts, hK, hSS⟩
  have hown : s.vm.findClass RX10 = some m0.cls := hown
  have hl : lv_has ls 4 [(0, .ref (adx 0)), (1, .int x1), (2, .int x2), (3, .int x3)] := hl
  unfold D_X10_putFeeder at hD
  refine lv_aload_n hx hb dX10_putFeeder_0 rfl (lv_at hl 0 rfl) ?_
  refine rg  hx hb hT hu10 hown hK hP hLx 0 0 (Nat.le_of_ble_eq_true rfl) (xs0 _ _) rfl (Nat.le_of_ble_eq_true rfl) (Fx0.T tw_6_215) rfl (v := .ref (adx 1)) rfl dX10_putFeeder_1 ?_
  refine lv_sipush (v := (130 : Int32)) hx hb dX10_putFeeder_4 (by decide) ?_
  refine lv_bipush (v := (11 : Int32)) hx hb dX10_putFeeder_7 (by decide) ?_
  refine lv_iload_n hx hb dX10_putFeeder_9 rfl (lv_at hl 1 rfl) ?_
  refine lv_imul hx hb dX10_putFeeder_10 ?_
  refine lv_iadd hx hb dX10_putFeeder_11 ?_
  refine lv_iload_n hx hb dX10_putFeeder_12 rfl (lv_at hl 2 rfl) ?_
  refine lv_iadd hx hb dX10_putFeeder_13 ?_
  refine lv_iload_n hx hb dX10_putFeeder_14 rfl (lv_at hl 3 rfl) ?_
  obtain ⟨h1, hD⟩ := gd_el hD
  obtain ⟨m2, em2, hD⟩ := bnd_el hD
  refine riast  hx hb hK hP (hD1 _ (hAd _ _)) hS hLx 1 (Nat.le_of_ble_eq_true rfl) (fun _ => xs1 _ _) h1 rfl dX10_putFeeder_15 em2 (fun H locs hP hS => ?_)
  obtain rfl := es1 hD
  exact hret _ _ _ hP hS (fun Qc hq => W.vret hx hb hr hq hS.2.2 dX10_putFeeder_16 hlocks)

noncomputable def D_X10_isFeeder (x1 : Int32) (x : MM) : Option Int32 := b1 (D_X10_in x1.toInt64 (0 : Int64) (((gi x 1 18) - (1 : Int32)).toInt64)) (fun v1 => if v1 = 0 ∨ v1 = 1 then some (v1) else none)
set_option maxHeartbeats 4000000 in
set_option maxRecDepth 100000 in
theorem c_X10_isFeeder (l : Launch) {D : va_G} {cs : Nat → ClassId} {adx : Nat → Nat} {Wf : MM → va_W} (hLx : Ln 9 adx (xsh cs adx) Wf) (hAd : ∀ a0_ b0_ : MM, (Wf a0_).map (fun q => q.1) = (Wf b0_).map (fun q => q.1)) (x : MM) (x1 : Int32) {rr : Int32} (hD : D_X10_isFeeder x1 x = some (rr)) : Ct l yX10_isFeeder cX10_isFeeder 2 (some .boolean) 1 25 D cs [.ref (adx 0), .int x1] (Wf x) (Wf x) (some (.int rr)) := by
  refine Ct.ofW (by decide) (Nat.le_of_ble_eq_true rfl) rfl ?_
  intro p e s m0 below meth c A Q ls args hx hb hr hml hlocks hown hts hK hP hD1 hSS hS hA1 hl hret
  have hT : ∀ w ∈ TBL, w.before args s = true := fun w h => hts w (List.mem_cons_of_mem _ h)
  have Fx0 : Fx p l m0 c cX10_isFeeder 2 s args yX10_isFeeder cX10_isFeeder 2 (some .boolean) D cs A := ⟨hx, hb, hml, hown, hts, hK, hSS⟩
  have hown : s.vm.findClass RX10 = some m0.cls := hown
  have hl : lv_has ls 2 [(0, .ref (adx 0)), (1, .int x1)] := hl
  unfold D_X10_isFeeder at hD
  refine lv_iload_n hx hb dX10_isFeeder_0 rfl (lv_at hl 1 rfl) ?_
  refine lv_i2l (v := x1.toInt64) hx hb dX10_isFeeder_1 rfl ?_
  refine lv_lconst (v := (0 : Int64)) hx hb dX10_isFeeder_2 (by decide) ?_
  refine lv_aload_n hx hb dX10_isFeeder_3 rfl (lv_at hl 0 rfl) ?_
  refine rg  hx hb hT hu10 hown hK hP hLx 0 0 (Nat.le_of_ble_eq_true rfl) (xs0 _ _) rfl (Nat.le_of_ble_eq_true rfl) (Fx0.T tw_6_215) rfl (v := .ref (adx 1)) rfl dX10_isFeeder_4 ?_
  refine lv_bipush (v := (18 : Int32)) hx hb dX10_isFeeder_7 (by decide) ?_
  refine riald  hx hb hK hP hLx 1 (Nat.le_of_ble_eq_true rfl) (xs1 _ _) (by decide) (j := 18) (by decide) dX10_isFeeder_9 ?_
  refine lv_iconst (v := (1 : Int32)) hx hb dX10_isFeeder_10 (by decide) ?_
  refine lv_isub hx hb dX10_isFeeder_11 ?_
  refine lv_i2l (v := ((gi x 1 18) - (1 : Int32)).toInt64) hx hb dX10_isFeeder_12 rfl ?_
  obtain ⟨v1, z2, hD⟩ := b1_el hD
  refine rcS (As := [.long x1.toInt64, .long (0 : Int64), .long (((gi x 1 18) - (1 : Int32)).toInt64)]) (rest := []) Fx0 (c_X10_in l x1.toInt64 (0 : Int64) (((gi x 1 18) - (1 : Int32)).toInt64) z2) hP (hD1 _ (hAd _ _)) hS (hA1 _ _ (hAd _ _) hS.1) tw_7_69 tw_7_67 tw_7_68 tw_1_13 yd_X10_in ⟨(Nat.le_of_ble_eq_true rfl), (Nat.le_of_ble_eq_true rfl)⟩ rfl hl.1 rfl (Nat.le_of_ble_eq_true rfl) dX10_isFeeder_13 (fun H locs hP hS => ?_)
  obtain ⟨h3, hD⟩ := gb_el hD
  obtain rfl := es1 hD
  exact hret _ _ _ hP hS (fun Qc hq => W.zret hx hb hr (nbz h3).1 hq hS.2.2 dX10_isFeeder_16 hlocks)

noncomputable def D_X10_noFeeder (x1 : Int32) (x : MM) : Option (Int32 × MM) := bnd (si x 0 6 (0 : Int32)) (fun m1 => b1 (D_X10_isFeeder x1 m1) (fun v2 => if v2 = 0 then (b2 (D_X10_throwsIf (1 : Int32) (1 : Int32) m1) (fun v8 m9 => if v8 = 0 ∨ v8 = 1 then some (v8, m9) else none)) else (b2 (D_X10_throwsIf (0 : Int32) (1 : Int32) m1) (fun v4 m5 => if v4 = 0 ∨ v4 = 1 then some (v4, m5) else none))))
set_option maxHeartbeats 4000000 in
set_option maxRecDepth 100000 in
theorem c_X10_noFeeder (l : Launch) {D : va_G} {cs : Nat → ClassId} {adx : Nat → Nat} {Wf : MM → va_W} (hLx : Ln 9 adx (xsh cs adx) Wf) (hAd : ∀ a0_ b0_ : MM, (Wf a0_).map (fun q => q.1) = (Wf b0_).map (fun q => q.1)) (x : MM) (x1 : Int32) {rr : Int32} {x' : MM} (hD : D_X10_noFeeder x1 x = some (rr, x')) : Ct l yX10_noFeeder cX10_noFeeder 2 (some .boolean) 2 46 D cs [.ref (adx 0), .int x1] (Wf x) (Wf x') (some (.int rr)) := by
  refine Ct.ofW (by decide) (Nat.le_of_ble_eq_true rfl) (hAd _ _) ?_
  intro p e s m0 below meth c A Q ls args hx hb hr hml hlocks hown hts hK hP hD1 hSS hS hA1 hl hret
  have hT : ∀ w ∈ TBL, w.before args s = true := fun w h => hts w (List.mem_cons_of_mem _ h)
  have Fx0 : Fx p l m0 c cX10_noFeeder 2 s args yX10_noFeeder cX10_noFeeder 2 (some .boolean) D cs A := ⟨hx, hb, hml, hown, hts, hK, hSS⟩
  have hown : s.vm.findClass RX10 = some m0.cls := hown
  have hl : lv_has ls 2 [(0, .ref (adx 0)), (1, .int x1)] := hl
  unfold D_X10_noFeeder at hD
  refine lv_aload_n hx hb dX10_noFeeder_0 rfl (lv_at hl 0 rfl) ?_
  refine lv_iconst (v := (0 : Int32)) hx hb dX10_noFeeder_1 (by decide) ?_
  obtain ⟨m1, em1, hD⟩ := bnd_el hD
  refine rp  hx hb hT hu10 tyX10_ok nmX10 hown hK hP (hD1 _ (hAd _ _)) hS hLx 0 6 (Nat.le_of_ble_eq_true rfl) (xs0 _ _) (xs0 _ _) rfl (Nat.le_of_ble_eq_true rfl) (Fx0.T tw_6_221) rfl rfl rfl rfl (Nat.le_of_ble_eq_true rfl) dX10_noFeeder_2 em1 (fun H locs hP hS => ?_)
  refine lv_aload_n hx hb dX10_noFeeder_5 rfl (lv_at hl 0 rfl) ?_
  refine lv_aload_n hx hb dX10_noFeeder_6 rfl (lv_at hl 0 rfl) ?_
  refine lv_iload_n hx hb dX10_noFeeder_7 rfl (lv_at hl 1 rfl) ?_
  obtain ⟨v2, z3, hD⟩ := b1_el hD
  refine rcV  (As := [.int x1]) (rest := [.ref (adx 0)]) Fx0 (c_X10_isFeeder l hLx hAd m1 x1 z3) hP (hD1 _ (hAd _ _)) hS (hA1 _ _ (hAd _ _) hS.1) hLx (Nat.le_of_ble_eq_true rfl) (xs0 _ _) rfl tw_7_218 tw_7_215 tw_7_217 ts_112 tw_1_13 yd_X10_isFeeder ⟨(Nat.le_of_ble_eq_true rfl), (Nat.le_of_ble_eq_true rfl)⟩ rfl hl.1 rfl (Nat.le_of_ble_eq_true rfl) dX10_noFeeder_8 (fun H locs hP hS => ?_)
  refine lv_if_ne (tgt := 18) hx hb dX10_noFeeder_11 (by decide) (fun c => ?_) (fun c => ?_)
  · have hD := ifn hD c
    refine lv_iconst (v := (0 : Int32)) hx hb dX10_noFeeder_18 (by decide) ?_
    refine lv_iconst (v := (1 : Int32)) hx hb dX10_noFeeder_19 (by decide) ?_
    obtain ⟨v4, m5, z6, hD⟩ := b2_el hD
    refine rcV  (As := [.int (0 : Int32), .int (1 : Int32)]) (rest := []) Fx0 (c_X10_throwsIf l hLx hAd m1 (0 : Int32) (1 : Int32) z6) hP (hD1 _ (hAd _ _)) hS (hA1 _ _ (hAd _ _) hS.1) hLx (Nat.le_of_ble_eq_true rfl) (xs0 _ _) rfl tw_7_163 tw_7_160 tw_7_162 ts_105 tw_1_13 yd_X10_throwsIf ⟨(Nat.le_of_ble_eq_true rfl), (Nat.le_of_ble_eq_true rfl)⟩ rfl hl.1 rfl (Nat.le_of_ble_eq_true rfl) dX10_noFeeder_20 (fun H locs hP hS => ?_)
    obtain ⟨h7, hD⟩ := gb_el hD
    obtain ⟨rfl, rfl⟩ := es2 hD
    exact hret _ _ _ hP hS (fun Qc hq => W.zret hx hb hr (nbz h7).1 hq hS.2.2 dX10_noFeeder_23 hlocks)
  · have hD := ifp hD c
    refine lv_iconst (v := (1 : Int32)) hx hb dX10_noFeeder_14 (by decide) ?_
    refine lv_goto (tgt := 19) hx hb dX10_noFeeder_15 (by decide) ?_
    refine lv_iconst (v := (1 : Int32)) hx hb dX10_noFeeder_19 (by decide) ?_
    obtain ⟨v8, m9, z10, hD⟩ := b2_el hD
    refine rcV  (As := [.int (1 : Int32), .int (1 : Int32)]) (rest := []) Fx0 (c_X10_throwsIf l hLx hAd m1 (1 : Int32) (1 : Int32) z10) hP (hD1 _ (hAd _ _)) hS (hA1 _ _ (hAd _ _) hS.1) hLx (Nat.le_of_ble_eq_true rfl) (xs0 _ _) rfl tw_7_163 tw_7_160 tw_7_162 ts_105 tw_1_13 yd_X10_throwsIf ⟨(Nat.le_of_ble_eq_true rfl), (Nat.le_of_ble_eq_true rfl)⟩ rfl hl.1 rfl (Nat.le_of_ble_eq_true rfl) dX10_noFeeder_20 (fun H locs hP hS => ?_)
    obtain ⟨h11, hD⟩ := gb_el hD
    obtain ⟨rfl, rfl⟩ := es2 hD
    exact hret _ _ _ hP hS (fun Qc hq => W.zret hx hb hr (nbz h11).1 hq hS.2.2 dX10_noFeeder_23 hlocks)

noncomputable def D_X10_feederValue (x1 : Int32) (x2 : Int32) (x : MM) : Option (Int32 × MM) := b2 (D_X10_noFeeder x1 x) (fun v1 m2 => if v1 = 0 then (b1 (D_X10_in x2.toInt64 (0 : Int64) (7 : Int64)) (fun v4 => if v4 = 0 then (b2 (D_X10_throwsIf (1 : Int32) (2 : Int32) m2) (fun v11 m12 => if v11 = 0 then (b1 (D_X10_ofFeeder x1 x2 m12) (fun v14 => some (v14, m12))) else (some ((0 : Int32), m12)))) else (b2 (D_X10_throwsIf (0 : Int32) (2 : Int32) m2) (fun v6 m7 => if v6 = 0 then (b1 (D_X10_ofFeeder x1 x2 m7) (fun v9 => some (v9, m7))) else (some ((0 : Int32), m7)))))) else (some ((0 : Int32), m2)))
set_option maxHeartbeats 4000000 in
set_option maxRecDepth 100000 in
theorem c_X10_feederValue (l : Launch) {D : va_G} {cs : Nat → ClassId} {adx : Nat → Nat} {Wf : MM → va_W} (hLx : Ln 9 adx (xsh cs adx) Wf) (hAd : ∀ a0_ b0_ : MM, (Wf a0_).map (fun q => q.1) = (Wf b0_).map (fun q => q.1)) (x : MM) (x1 : Int32) (x2 : Int32) {rr : Int32} {x' : MM} (hD : D_X10_feederValue x1 x2 x = some (rr, x')) : Ct l yX10_feederValue cX10_feederValue 3 (some .int) 3 67 D cs [.ref (adx 0), .int x1, .int x2] (Wf x) (Wf x') (some (.int rr)) := by
  refine Ct.ofW (by decide) (Nat.le_of_ble_eq_true rfl) (hAd _ _) ?_
  intro p e s m0 below meth c A Q ls args hx hb hr hml hlocks hown hts hK hP hD1 hSS hS hA1 hl hret
  have hT : ∀ w ∈ TBL, w.before args s = true := fun w h => hts w (List.mem_cons_of_mem _ h)
  have Fx0 : Fx p l m0 c cX10_feederValue 3 s args yX10_feederValue cX10_feederValue 3 (some .int) D cs A := ⟨hx, hb, hml, hown, hts, hK, hSS⟩
  have hown : s.vm.findClass RX10 = some m0.cls := hown
  have hl : lv_has ls 3 [(0, .ref (adx 0)), (1, .int x1), (2, .int x2)] := hl
  unfold D_X10_feederValue at hD
  refine lv_aload_n hx hb dX10_feederValue_0 rfl (lv_at hl 0 rfl) ?_
  refine lv_iload_n hx hb dX10_feederValue_1 rfl (lv_at hl 1 rfl) ?_
  obtain ⟨v1, m2, z3, hD⟩ := b2_el hD
  refine rcV  (As := [.int x1]) (rest := []) Fx0 (c_X10_noFeeder l hLx hAd x x1 z3) hP (hD1 _ (hAd _ _)) hS (hA1 _ _ (hAd _ _) hS.1) hLx (Nat.le_of_ble_eq_true rfl) (xs0 _ _) rfl tw_7_214 tw_7_211 tw_7_213 ts_111 tw_1_13 yd_X10_noFeeder ⟨(Nat.le_of_ble_eq_true rfl), (Nat.le_of_ble_eq_true rfl)⟩ rfl hl.1 rfl (Nat.le_of_ble_eq_true rfl) dX10_feederValue_2 (fun H locs hP hS => ?_)
  refine lv_if_ne (tgt := 33) hx hb dX10_feederValue_5 (by decide) (fun c => ?_) (fun c => ?_)
  · have hD := ifn hD c
    refine lv_iconst (v := (0 : Int32)) hx hb dX10_feederValue_33 (by decide) ?_
    refine lv_goto (tgt := 43) hx hb dX10_feederValue_34 (by decide) ?_
    obtain ⟨rfl, rfl⟩ := es2 hD
    exact hret _ _ _ hP hS (fun Qc hq => W.iret hx hb hr hq hS.2.2 dX10_feederValue_43 hlocks)
  · have hD := ifp hD c
    refine lv_aload_n hx hb dX10_feederValue_8 rfl (lv_at hl 0 rfl) ?_
    refine lv_iload_n hx hb dX10_feederValue_9 rfl (lv_at hl 2 rfl) ?_
    refine lv_i2l (v := x2.toInt64) hx hb dX10_feederValue_10 rfl ?_
    refine lv_lconst (v := (0 : Int64)) hx hb dX10_feederValue_11 (by decide) ?_
    refine lv_ldc2 (v := (7 : Int64)) hx hb hown (Fx0.T tw_7_173) dX10_feederValue_12 ?_
    obtain ⟨v4, z5, hD⟩ := b1_el hD
    refine rcS (As := [.long x2.toInt64, .long (0 : Int64), .long (7 : Int64)]) (rest := [.ref (adx 0)]) Fx0 (c_X10_in l x2.toInt64 (0 : Int64) (7 : Int64) z5) hP (hD1 _ (hAd _ _)) hS (hA1 _ _ (hAd _ _) hS.1) tw_7_69 tw_7_67 tw_7_68 tw_1_13 yd_X10_in ⟨(Nat.le_of_ble_eq_true rfl), (Nat.le_of_ble_eq_true rfl)⟩ rfl hl.1 rfl (Nat.le_of_ble_eq_true rfl) dX10_feederValue_15 (fun H locs hP hS => ?_)
    refine lv_if_ne (tgt := 25) hx hb dX10_feederValue_18 (by decide) (fun c => ?_) (fun c => ?_)
    · have hD := ifn hD c
      refine lv_iconst (v := (0 : Int32)) hx hb dX10_feederValue_25 (by decide) ?_
      refine lv_iconst (v := (2 : Int32)) hx hb dX10_feederValue_26 (by decide) ?_
      obtain ⟨v6, m7, z8, hD⟩ := b2_el hD
      refine rcV  (As := [.int (0 : Int32), .int (2 : Int32)]) (rest := []) Fx0 (c_X10_throwsIf l hLx hAd m2 (0 : Int32) (2 : Int32) z8) hP (hD1 _ (hAd _ _)) hS (hA1 _ _ (hAd _ _) hS.1) hLx (Nat.le_of_ble_eq_true rfl) (xs0 _ _) rfl tw_7_163 tw_7_160 tw_7_162 ts_105 tw_1_13 yd_X10_throwsIf ⟨(Nat.le_of_ble_eq_true rfl), (Nat.le_of_ble_eq_true rfl)⟩ rfl hl.1 rfl (Nat.le_of_ble_eq_true rfl) dX10_feederValue_27 (fun H locs hP hS => ?_)
      refine lv_if_eq (tgt := 37) hx hb dX10_feederValue_30 (by decide) (fun c => ?_) (fun c => ?_)
      · have hD := ifp hD c
        refine lv_aload_n hx hb dX10_feederValue_37 rfl (lv_at hl 0 rfl) ?_
        refine lv_iload_n hx hb dX10_feederValue_38 rfl (lv_at hl 1 rfl) ?_
        refine lv_iload_n hx hb dX10_feederValue_39 rfl (lv_at hl 2 rfl) ?_
        obtain ⟨v9, z10, hD⟩ := b1_el hD
        refine rcV  (As := [.int x1, .int x2]) (rest := []) Fx0 (c_X10_ofFeeder l hLx hAd m7 x1 x2 z10) hP (hD1 _ (hAd _ _)) hS (hA1 _ _ (hAd _ _) hS.1) hLx (Nat.le_of_ble_eq_true rfl) (xs0 _ _) rfl tw_7_222 tw_7_219 tw_7_221 ts_113 tw_1_13 yd_X10_ofFeeder ⟨(Nat.le_of_ble_eq_true rfl), (Nat.le_of_ble_eq_true rfl)⟩ rfl hl.1 rfl (Nat.le_of_ble_eq_true rfl) dX10_feederValue_40 (fun H locs hP hS => ?_)
        obtain ⟨rfl, rfl⟩ := es2 hD
        exact hret _ _ _ hP hS (fun Qc hq => W.iret hx hb hr hq hS.2.2 dX10_feederValue_43 hlocks)
      · have hD := ifn hD c
        refine lv_iconst (v := (0 : Int32)) hx hb dX10_feederValue_33 (by decide) ?_
        refine lv_goto (tgt := 43) hx hb dX10_feederValue_34 (by decide) ?_
        obtain ⟨rfl, rfl⟩ := es2 hD
        exact hret _ _ _ hP hS (fun Qc hq => W.iret hx hb hr hq hS.2.2 dX10_feederValue_43 hlocks)
    · have hD := ifp hD c
      refine lv_iconst (v := (1 : Int32)) hx hb dX10_feederValue_21 (by decide) ?_
      refine lv_goto (tgt := 26) hx hb dX10_feederValue_22 (by decide) ?_
      refine lv_iconst (v := (2 : Int32)) hx hb dX10_feederValue_26 (by decide) ?_
      obtain ⟨v11, m12, z13, hD⟩ := b2_el hD
      refine rcV  (As := [.int (1 : Int32), .int (2 : Int32)]) (rest := []) Fx0 (c_X10_throwsIf l hLx hAd m2 (1 : Int32) (2 : Int32) z13) hP (hD1 _ (hAd _ _)) hS (hA1 _ _ (hAd _ _) hS.1) hLx (Nat.le_of_ble_eq_true rfl) (xs0 _ _) rfl tw_7_163 tw_7_160 tw_7_162 ts_105 tw_1_13 yd_X10_throwsIf ⟨(Nat.le_of_ble_eq_true rfl), (Nat.le_of_ble_eq_true rfl)⟩ rfl hl.1 rfl (Nat.le_of_ble_eq_true rfl) dX10_feederValue_27 (fun H locs hP hS => ?_)
      refine lv_if_eq (tgt := 37) hx hb dX10_feederValue_30 (by decide) (fun c => ?_) (fun c => ?_)
      · have hD := ifp hD c
        refine lv_aload_n hx hb dX10_feederValue_37 rfl (lv_at hl 0 rfl) ?_
        refine lv_iload_n hx hb dX10_feederValue_38 rfl (lv_at hl 1 rfl) ?_
        refine lv_iload_n hx hb dX10_feederValue_39 rfl (lv_at hl 2 rfl) ?_
        obtain ⟨v14, z15, hD⟩ := b1_el hD
        refine rcV  (As := [.int x1, .int x2]) (rest := []) Fx0 (c_X10_ofFeeder l hLx hAd m12 x1 x2 z15) hP (hD1 _ (hAd _ _)) hS (hA1 _ _ (hAd _ _) hS.1) hLx (Nat.le_of_ble_eq_true rfl) (xs0 _ _) rfl tw_7_222 tw_7_219 tw_7_221 ts_113 tw_1_13 yd_X10_ofFeeder ⟨(Nat.le_of_ble_eq_true rfl), (Nat.le_of_ble_eq_true rfl)⟩ rfl hl.1 rfl (Nat.le_of_ble_eq_true rfl) dX10_feederValue_40 (fun H locs hP hS => ?_)
        obtain ⟨rfl, rfl⟩ := es2 hD
        exact hret _ _ _ hP hS (fun Qc hq => W.iret hx hb hr hq hS.2.2 dX10_feederValue_43 hlocks)
      · have hD := ifn hD c
        refine lv_iconst (v := (0 : Int32)) hx hb dX10_feederValue_33 (by decide) ?_
        refine lv_goto (tgt := 43) hx hb dX10_feederValue_34 (by decide) ?_
        obtain ⟨rfl, rfl⟩ := es2 hD
        exact hret _ _ _ hP hS (fun Qc hq => W.iret hx hb hr hq hS.2.2 dX10_feederValue_43 hlocks)

noncomputable def D_X10_books (x1 : Int32) (x2 : Int32) (x3 : Int32) (x : MM) : Option MM := bnd ((((90 : Int32) + ((5 : Int32) * x1)) + x2)) (fun v1 => if v1 < 0 ∨ 640 ≤ v1.toNatClampNeg then none else (if v1 < 0 ∨ 640 ≤ v1.toNatClampNeg then none else (bnd (si x 1 v1.toNatClampNeg ((gi x 1 v1.toNatClampNeg) + x3)) (fun m4 => some (m4)))))
set_option maxHeartbeats 4000000 in
set_option maxRecDepth 100000 in
theorem c_X10_books (l : Launch) {D : va_G} {cs : Nat → ClassId} {adx : Nat → Nat} {Wf : MM → va_W} (hLx : Ln 9 adx (xsh cs adx) Wf) (hAd : ∀ a0_ b0_ : MM, (Wf a0_).map (fun q => q.1) = (Wf b0_).map (fun q => q.1)) (x : MM) (x1 : Int32) (x2 : Int32) (x3 : Int32) {x' : MM} (hD : D_X10_books x1 x2 x3 x = some (x')) : Ct l yX10_books cX10_books 4 none 0 0 D cs [.ref (adx 0), .int x1, .int x2, .int x3] (Wf x) (Wf x') (none) := by
  refine Ct.ofW (by decide) (Nat.le_of_ble_eq_true rfl) (hAd _ _) ?_
  intro p e s m0 below meth c A Q ls args hx hb hr hml hlocks hown hts hK hP hD1 hSS hS hA1 hl hret
  have hT : ∀ w ∈ TBL, w.before args s = true := fun w h => hts w (List.mem_cons_of_mem _ h)
  have Fx0 : Fx p l m0 c cX10_books 4 s args yX10_books cX10_books 4 none D cs A := ⟨hx, hb, hml, hown, hts, hK, hSS⟩
  have hown : s.vm.findClass RX10 = some m0.cls := hown
  have hl : lv_has ls 4 [(0, .ref (adx 0)), (1, .int x1), (2, .int x2), (3, .int x3)] := hl
  unfold D_X10_books at hD
  refine lv_aload_n hx hb dX10_books_0 rfl (lv_at hl 0 rfl) ?_
  refine rg  hx hb hT hu10 hown hK hP hLx 0 0 (Nat.le_of_ble_eq_true rfl) (xs0 _ _) rfl (Nat.le_of_ble_eq_true rfl) (Fx0.T tw_6_215) rfl (v := .ref (adx 1)) rfl dX10_books_1 ?_
  refine lv_bipush (v := (90 : Int32)) hx hb dX10_books_4 (by decide) ?_
  refine lv_iconst (v := (5 : Int32)) hx hb dX10_books_6 (by decide) ?_
  refine lv_iload_n hx hb dX10_books_7 rfl (lv_at hl 1 rfl) ?_
  refine lv_imul hx hb dX10_books_8 ?_
  refine lv_iadd hx hb dX10_books_9 ?_
  refine lv_iload_n hx hb dX10_books_10 rfl (lv_at hl 2 rfl) ?_
  refine lv_iadd hx hb dX10_books_11 ?_
  obtain ⟨v1, ev1, hD⟩ := bnd_el hD
  refine lv_nmi ev1 ?_
  refine lv_dup2_11 hx hb dX10_books_12 rfl rfl ?_
  obtain ⟨h2, hD⟩ := gd_el hD
  refine riald  hx hb hK hP hLx 1 (Nat.le_of_ble_eq_true rfl) (xs1 _ _) h2 rfl dX10_books_13 ?_
  refine lv_iload_n hx hb dX10_books_14 rfl (lv_at hl 3 rfl) ?_
  refine lv_iadd hx hb dX10_books_15 ?_
  obtain ⟨h3, hD⟩ := gd_el hD
  obtain ⟨m4, em4, hD⟩ := bnd_el hD
  refine riast  hx hb hK hP (hD1 _ (hAd _ _)) hS hLx 1 (Nat.le_of_ble_eq_true rfl) (fun _ => xs1 _ _) h3 rfl dX10_books_16 em4 (fun H locs hP hS => ?_)
  obtain rfl := es1 hD
  exact hret _ _ _ hP hS (fun Qc hq => W.vret hx hb hr hq hS.2.2 dX10_books_17 hlocks)

noncomputable def D_X10_booked (x1 : Int32) (x2 : Int32) (x : MM) : Option Int32 := if (((90 : Int32) + ((5 : Int32) * x1)) + x2) < 0 ∨ 640 ≤ (((90 : Int32) + ((5 : Int32) * x1)) + x2).toNatClampNeg then none else (some ((gi x 1 ((((90 : Int32) + ((5 : Int32) * x1)) + x2).toNatClampNeg))))
set_option maxHeartbeats 4000000 in
set_option maxRecDepth 100000 in
theorem c_X10_booked (l : Launch) {D : va_G} {cs : Nat → ClassId} {adx : Nat → Nat} {Wf : MM → va_W} (hLx : Ln 9 adx (xsh cs adx) Wf) (hAd : ∀ a0_ b0_ : MM, (Wf a0_).map (fun q => q.1) = (Wf b0_).map (fun q => q.1)) (x : MM) (x1 : Int32) (x2 : Int32) {rr : Int32} (hD : D_X10_booked x1 x2 x = some (rr)) : Ct l yX10_booked cX10_booked 3 (some .int) 0 0 D cs [.ref (adx 0), .int x1, .int x2] (Wf x) (Wf x) (some (.int rr)) := by
  refine Ct.ofW (by decide) (Nat.le_of_ble_eq_true rfl) rfl ?_
  intro p e s m0 below meth c A Q ls args hx hb hr hml hlocks hown hts hK hP hD1 hSS hS hA1 hl hret
  have hT : ∀ w ∈ TBL, w.before args s = true := fun w h => hts w (List.mem_cons_of_mem _ h)
  have Fx0 : Fx p l m0 c cX10_booked 3 s args yX10_booked cX10_booked 3 (some .int) D cs A := ⟨hx, hb, hml, hown, hts, hK, hSS⟩
  have hown : s.vm.findClass RX10 = some m0.cls := hown
  have hl : lv_has ls 3 [(0, .ref (adx 0)), (1, .int x1), (2, .int x2)] := hl
  unfold D_X10_booked at hD
  refine lv_aload_n hx hb dX10_booked_0 rfl (lv_at hl 0 rfl) ?_
  refine rg  hx hb hT hu10 hown hK hP hLx 0 0 (Nat.le_of_ble_eq_true rfl) (xs0 _ _) rfl (Nat.le_of_ble_eq_true rfl) (Fx0.T tw_6_215) rfl (v := .ref (adx 1)) rfl dX10_booked_1 ?_
  refine lv_bipush (v := (90 : Int32)) hx hb dX10_booked_4 (by decide) ?_
  refine lv_iconst (v := (5 : Int32)) hx hb dX10_booked_6 (by decide) ?_
  refine lv_iload_n hx hb dX10_booked_7 rfl (lv_at hl 1 rfl) ?_
  refine lv_imul hx hb dX10_booked_8 ?_
  refine lv_iadd hx hb dX10_booked_9 ?_
  refine lv_iload_n hx hb dX10_booked_10 rfl (lv_at hl 2 rfl) ?_
  refine lv_iadd hx hb dX10_booked_11 ?_
  obtain ⟨h1, hD⟩ := gd_el hD
  refine riald  hx hb hK hP hLx 1 (Nat.le_of_ble_eq_true rfl) (xs1 _ _) h1 rfl dX10_booked_12 ?_
  obtain rfl := es1 hD
  exact hret _ _ _ hP hS (fun Qc hq => W.iret hx hb hr hq hS.2.2 dX10_booked_13 hlocks)

noncomputable def D_X10_splices_33 (k0 : Int32 → MM → Option MM) : Nat → Int32 → Int32 → MM → Option MM
  | 0, _, _, _ => none
  | n + 1, x1, x2, x => if (3 : Int32) ≤ (x2 + (1 : Int32)) then (b1 (D_X10_putFeeder x1 (10 : Int32) (0 : Int32) x) (fun m9 => b1 (D_X10_ofFeeder x1 (4 : Int32) m9) (fun v11 => b1 (D_X10_putFeeder x1 (4 : Int32) (v11 - (1 : Int32)) m9) (fun m13 => b1 (D_X10_putFeeder x1 (7 : Int32) (1 : Int32) m13) (fun m15 => bnd (si m15 1 27 ((gi m15 1 27) + (1 : Int32))) (fun m17 => k0 x1 m17)))))) else (b1 (D_X10_ofFeeder x1 (((8 : Int32) + x2) + (1 : Int32)) x) (fun v18 => b1 (D_X10_putFeeder x1 ((8 : Int32) + x2) v18 x) (fun m20 => bnd (x2 + (1 : Int32)) (fun v22 => D_X10_splices_33 k0 n x1 v22 m20))))
noncomputable def D_X10_splices_0 : Nat → Int32 → MM → Option MM
  | 0, _, _ => none
  | n + 1, x1, x => b1 (D_X10_ofFeeder x1 (2 : Int32) x) (fun v1 => if v1 = 0 then (b1 (D_X10_ofFeeder x1 (4 : Int32) x) (fun v3 => if v3 ≤ 0 then (some (x)) else (b1 (D_X10_ofFeeder x1 (8 : Int32) x) (fun v5 => b1 (D_X10_putFeeder x1 (2 : Int32) v5 x) (fun m7 => D_X10_splices_33 (D_X10_splices_0 n) FU x1 (0 : Int32) m7))))) else (some (x)))
noncomputable def D_X10_splices (x1 : Int32) (x : MM) : Option MM := D_X10_splices_0 FU x1 x
set_option maxHeartbeats 4000000 in
set_option maxRecDepth 100000 in
theorem c_X10_splices (l : Launch) {D : va_G} {cs : Nat → ClassId} {adx : Nat → Nat} {Wf : MM → va_W} (hLx : Ln 9 adx (xsh cs adx) Wf) (hAd : ∀ a0_ b0_ : MM, (Wf a0_).map (fun q => q.1) = (Wf b0_).map (fun q => q.1)) (x : MM) (x1 : Int32) {x' : MM} (hD : D_X10_splices x1 x = some (x')) : Ct l yX10_splices cX10_splices 3 none 1 23 D cs [.ref (adx 0), .int x1] (Wf x) (Wf x') (none) := by
  refine Ct.ofW (by decide) (Nat.le_of_ble_eq_true rfl) (hAd _ _) ?_
  intro p e s m0 below meth c A Q ls args hx hb hr hml hlocks hown hts hK hP hD1 hSS hS hA1 hl hret
  have hT : ∀ w ∈ TBL, w.before args s = true := fun w h => hts w (List.mem_cons_of_mem _ h)
  have Fx0 : Fx p l m0 c cX10_splices 3 s args yX10_splices cX10_splices 3 none D cs A := ⟨hx, hb, hml, hown, hts, hK, hSS⟩
  have hown : s.vm.findClass RX10 = some m0.cls := hown
  have hl : lv_has ls 3 [(0, .ref (adx 0)), (1, .int x1)] := hl
  unfold D_X10_splices at hD
  have c_33 : ∀ (k0 : Int32 → MM → Option MM) (hk0 : ∀ (x1 : Int32) (x : MM) (H : Heap) (locs : List Loc) (ls : Array Slot), k0 x1 x = some (x') → va_P D vwCl (Wf x) H → va_S A s.heap H locs → lv_has ls 3 [(0, .ref (adx 0)), (1, .int x1)] → W p l e ({ frames := 1, cells := 0, slots := 0, locals := 23 } : Room) s m0 args below meth c H locs 0 0 Q (F0 m0 0 ls [])) (n : Nat), ∀ (x1 : Int32) (x2 : Int32) (x : MM) (H : Heap) (locs : List Loc) (ls : Array Slot), D_X10_splices_33 k0 n x1 x2 x = some (x') → va_P D vwCl (Wf x) H → va_S A s.heap H locs → lv_has ls 3 [(0, .ref (adx 0)), (1, .int x1), (2, .int x2)] → W p l e ({ frames := 1, cells := 0, slots := 0, locals := 23 } : Room) s m0 args below meth c H locs 0 0 Q (F0 m0 33 ls []) := by
    intro k0 hk0 n
    induction n with
    | zero =>
      intro x1 x2 x H locs ls hD hP hS hl
      exact nn_el hD
    | succ n ih =>
      intro x1 x2 x H locs ls hD hP hS hl
      rw [D_X10_splices_33] at hD
      refine lv_iload_n hx hb dX10_splices_33 rfl (lv_at hl 2 rfl) ?_
      refine lv_iconst (v := (1 : Int32)) hx hb dX10_splices_34 (by decide) ?_
      refine lv_iadd hx hb dX10_splices_35 ?_
      refine lv_iconst (v := (3 : Int32)) hx hb dX10_splices_36 (by decide) ?_
      refine lv_icmp_ge (tgt := 66) hx hb dX10_splices_37 (by decide) (fun c => ?_) (fun c => ?_)
      · have hD := ifp hD c
        refine lv_aload_n hx hb dX10_splices_66 rfl (lv_at hl 0 rfl) ?_
        refine lv_iload_n hx hb dX10_splices_67 rfl (lv_at hl 1 rfl) ?_
        refine lv_bipush (v := (10 : Int32)) hx hb dX10_splices_68 (by decide) ?_
        refine lv_iconst (v := (0 : Int32)) hx hb dX10_splices_70 (by decide) ?_
        obtain ⟨m9, z10, hD⟩ := b1_el hD
        refine rcV  (As := [.int x1, .int (10 : Int32), .int (0 : Int32)]) (rest := []) Fx0 (c_X10_putFeeder l hLx hAd x x1 (10 : Int32) (0 : Int32) z10) hP (hD1 _ (hAd _ _)) hS (hA1 _ _ (hAd _ _) hS.1) hLx (Nat.le_of_ble_eq_true rfl) (xs0 _ _) rfl tw_7_231 tw_7_228 tw_7_230 ts_114 tw_1_13 yd_X10_putFeeder ⟨(Nat.le_of_ble_eq_true rfl), (Nat.le_of_ble_eq_true rfl)⟩ rfl hl.1 rfl (Nat.le_of_ble_eq_true rfl) dX10_splices_71 (fun H locs hP hS => ?_)
        refine lv_aload_n hx hb dX10_splices_74 rfl (lv_at hl 0 rfl) ?_
        refine lv_iload_n hx hb dX10_splices_75 rfl (lv_at hl 1 rfl) ?_
        refine lv_iconst (v := (4 : Int32)) hx hb dX10_splices_76 (by decide) ?_
        refine lv_aload_n hx hb dX10_splices_77 rfl (lv_at hl 0 rfl) ?_
        refine lv_iload_n hx hb dX10_splices_78 rfl (lv_at hl 1 rfl) ?_
        refine lv_iconst (v := (4 : Int32)) hx hb dX10_splices_79 (by decide) ?_
        obtain ⟨v11, z12, hD⟩ := b1_el hD
        refine rcV  (As := [.int x1, .int (4 : Int32)]) (rest := [.int (4 : Int32), .int x1, .ref (adx 0)]) Fx0 (c_X10_ofFeeder l hLx hAd m9 x1 (4 : Int32) z12) hP (hD1 _ (hAd _ _)) hS (hA1 _ _ (hAd _ _) hS.1) hLx (Nat.le_of_ble_eq_true rfl) (xs0 _ _) rfl tw_7_222 tw_7_219 tw_7_221 ts_113 tw_1_13 yd_X10_ofFeeder ⟨(Nat.le_of_ble_eq_true rfl), (Nat.le_of_ble_eq_true rfl)⟩ rfl hl.1 rfl (Nat.le_of_ble_eq_true rfl) dX10_splices_80 (fun H locs hP hS => ?_)
        refine lv_iconst (v := (1 : Int32)) hx hb dX10_splices_83 (by decide) ?_
        refine lv_isub hx hb dX10_splices_84 ?_
        obtain ⟨m13, z14, hD⟩ := b1_el hD
        refine rcV  (As := [.int x1, .int (4 : Int32), .int (v11 - (1 : Int32))]) (rest := []) Fx0 (c_X10_putFeeder l hLx hAd m9 x1 (4 : Int32) (v11 - (1 : Int32)) z14) hP (hD1 _ (hAd _ _)) hS (hA1 _ _ (hAd _ _) hS.1) hLx (Nat.le_of_ble_eq_true rfl) (xs0 _ _) rfl tw_7_231 tw_7_228 tw_7_230 ts_114 tw_1_13 yd_X10_putFeeder ⟨(Nat.le_of_ble_eq_true rfl), (Nat.le_of_ble_eq_true rfl)⟩ rfl hl.1 rfl (Nat.le_of_ble_eq_true rfl) dX10_splices_85 (fun H locs hP hS => ?_)
        refine lv_aload_n hx hb dX10_splices_88 rfl (lv_at hl 0 rfl) ?_
        refine lv_iload_n hx hb dX10_splices_89 rfl (lv_at hl 1 rfl) ?_
        refine lv_bipush (v := (7 : Int32)) hx hb dX10_splices_90 (by decide) ?_
        refine lv_iconst (v := (1 : Int32)) hx hb dX10_splices_92 (by decide) ?_
        obtain ⟨m15, z16, hD⟩ := b1_el hD
        refine rcV  (As := [.int x1, .int (7 : Int32), .int (1 : Int32)]) (rest := []) Fx0 (c_X10_putFeeder l hLx hAd m13 x1 (7 : Int32) (1 : Int32) z16) hP (hD1 _ (hAd _ _)) hS (hA1 _ _ (hAd _ _) hS.1) hLx (Nat.le_of_ble_eq_true rfl) (xs0 _ _) rfl tw_7_231 tw_7_228 tw_7_230 ts_114 tw_1_13 yd_X10_putFeeder ⟨(Nat.le_of_ble_eq_true rfl), (Nat.le_of_ble_eq_true rfl)⟩ rfl hl.1 rfl (Nat.le_of_ble_eq_true rfl) dX10_splices_93 (fun H locs hP hS => ?_)
        refine lv_aload_n hx hb dX10_splices_96 rfl (lv_at hl 0 rfl) ?_
        refine rg  hx hb hT hu10 hown hK hP hLx 0 0 (Nat.le_of_ble_eq_true rfl) (xs0 _ _) rfl (Nat.le_of_ble_eq_true rfl) (Fx0.T tw_6_215) rfl (v := .ref (adx 1)) rfl dX10_splices_97 ?_
        refine lv_bipush (v := (27 : Int32)) hx hb dX10_splices_100 (by decide) ?_
        refine lv_dup2_11 hx hb dX10_splices_102 rfl rfl ?_
        refine riald  hx hb hK hP hLx 1 (Nat.le_of_ble_eq_true rfl) (xs1 _ _) (by decide) (j := 27) (by decide) dX10_splices_103 ?_
        refine lv_iconst (v := (1 : Int32)) hx hb dX10_splices_104 (by decide) ?_
        refine lv_iadd hx hb dX10_splices_105 ?_
        obtain ⟨m17, em17, hD⟩ := bnd_el hD
        refine riast  hx hb hK hP (hD1 _ (hAd _ _)) hS hLx 1 (Nat.le_of_ble_eq_true rfl) (fun _ => xs1 _ _) (by decide) (j := 27) (by decide) dX10_splices_106 em17 (fun H locs hP hS => ?_)
        refine lv_goto (tgt := 0) hx hb dX10_splices_107 (by decide) ?_
        exact hk0 _ _ _ _ _ hD hP hS (lv_sub hl [0, 1] rfl)
      · have hD := ifn hD c
        refine lv_aload_n hx hb dX10_splices_40 rfl (lv_at hl 0 rfl) ?_
        refine lv_iload_n hx hb dX10_splices_41 rfl (lv_at hl 1 rfl) ?_
        refine lv_bipush (v := (8 : Int32)) hx hb dX10_splices_42 (by decide) ?_
        refine lv_iload_n hx hb dX10_splices_44 rfl (lv_at hl 2 rfl) ?_
        refine lv_iadd hx hb dX10_splices_45 ?_
        refine lv_aload_n hx hb dX10_splices_46 rfl (lv_at hl 0 rfl) ?_
        refine lv_iload_n hx hb dX10_splices_47 rfl (lv_at hl 1 rfl) ?_
        refine lv_bipush (v := (8 : Int32)) hx hb dX10_splices_48 (by decide) ?_
        refine lv_iload_n hx hb dX10_splices_50 rfl (lv_at hl 2 rfl) ?_
        refine lv_iadd hx hb dX10_splices_51 ?_
        refine lv_iconst (v := (1 : Int32)) hx hb dX10_splices_52 (by decide) ?_
        refine lv_iadd hx hb dX10_splices_53 ?_
        obtain ⟨v18, z19, hD⟩ := b1_el hD
        refine rcV  (As := [.int x1, .int (((8 : Int32) + x2) + (1 : Int32))]) (rest := [.int ((8 : Int32) + x2), .int x1, .ref (adx 0)]) Fx0 (c_X10_ofFeeder l hLx hAd x x1 (((8 : Int32) + x2) + (1 : Int32)) z19) hP (hD1 _ (hAd _ _)) hS (hA1 _ _ (hAd _ _) hS.1) hLx (Nat.le_of_ble_eq_true rfl) (xs0 _ _) rfl tw_7_222 tw_7_219 tw_7_221 ts_113 tw_1_13 yd_X10_ofFeeder ⟨(Nat.le_of_ble_eq_true rfl), (Nat.le_of_ble_eq_true rfl)⟩ rfl hl.1 rfl (Nat.le_of_ble_eq_true rfl) dX10_splices_54 (fun H locs hP hS => ?_)
        obtain ⟨m20, z21, hD⟩ := b1_el hD
        refine rcV  (As := [.int x1, .int ((8 : Int32) + x2), .int v18]) (rest := []) Fx0 (c_X10_putFeeder l hLx hAd x x1 ((8 : Int32) + x2) v18 z21) hP (hD1 _ (hAd _ _)) hS (hA1 _ _ (hAd _ _) hS.1) hLx (Nat.le_of_ble_eq_true rfl) (xs0 _ _) rfl tw_7_231 tw_7_228 tw_7_230 ts_114 tw_1_13 yd_X10_putFeeder ⟨(Nat.le_of_ble_eq_true rfl), (Nat.le_of_ble_eq_true rfl)⟩ rfl hl.1 rfl (Nat.le_of_ble_eq_true rfl) dX10_splices_57 (fun H locs hP hS => ?_)
        obtain ⟨v22, ev22, hD⟩ := bnd_el hD
        refine lv_iinc (v := v22) (lv' := [(2, .int v22), (0, .ref (adx 0)), (1, .int x1)]) hx hb dX10_splices_60 hl (k := 2) rfl (by rw [ev22]; rfl) (by decide) rfl (fun ls hl => ?_)
        refine lv_goto (tgt := 33) hx hb dX10_splices_63 (by decide) ?_
        exact ih _ _ _ _ _ _ hD hP hS (lv_sub hl [1, 2, 0] rfl)
  have c_0 : ∀ (n : Nat), ∀ (x1 : Int32) (x : MM) (H : Heap) (locs : List Loc) (ls : Array Slot), D_X10_splices_0 n x1 x = some (x') → va_P D vwCl (Wf x) H → va_S A s.heap H locs → lv_has ls 3 [(0, .ref (adx 0)), (1, .int x1)] → W p l e ({ frames := 1, cells := 0, slots := 0, locals := 23 } : Room) s m0 args below meth c H locs 0 0 Q (F0 m0 0 ls []) := by
    intro n
    induction n with
    | zero =>
      intro x1 x H locs ls hD hP hS hl
      exact nn_el hD
    | succ n ih =>
      intro x1 x H locs ls hD hP hS hl
      rw [D_X10_splices_0] at hD
      refine lv_aload_n hx hb dX10_splices_0 rfl (lv_at hl 0 rfl) ?_
      refine lv_iload_n hx hb dX10_splices_1 rfl (lv_at hl 1 rfl) ?_
      refine lv_iconst (v := (2 : Int32)) hx hb dX10_splices_2 (by decide) ?_
      obtain ⟨v1, z2, hD⟩ := b1_el hD
      refine rcV  (As := [.int x1, .int (2 : Int32)]) (rest := []) Fx0 (c_X10_ofFeeder l hLx hAd x x1 (2 : Int32) z2) hP (hD1 _ (hAd _ _)) hS (hA1 _ _ (hAd _ _) hS.1) hLx (Nat.le_of_ble_eq_true rfl) (xs0 _ _) rfl tw_7_222 tw_7_219 tw_7_221 ts_113 tw_1_13 yd_X10_ofFeeder ⟨(Nat.le_of_ble_eq_true rfl), (Nat.le_of_ble_eq_true rfl)⟩ rfl hl.1 rfl (Nat.le_of_ble_eq_true rfl) dX10_splices_3 (fun H locs hP hS => ?_)
      refine lv_if_ne (tgt := 110) hx hb dX10_splices_6 (by decide) (fun c => ?_) (fun c => ?_)
      · have hD := ifn hD c
        obtain rfl := es1 hD
        exact hret _ _ _ hP hS (fun Qc hq => W.vret hx hb hr hq hS.2.2 dX10_splices_110 hlocks)
      · have hD := ifp hD c
        refine lv_aload_n hx hb dX10_splices_9 rfl (lv_at hl 0 rfl) ?_
        refine lv_iload_n hx hb dX10_splices_10 rfl (lv_at hl 1 rfl) ?_
        refine lv_iconst (v := (4 : Int32)) hx hb dX10_splices_11 (by decide) ?_
        obtain ⟨v3, z4, hD⟩ := b1_el hD
        refine rcV  (As := [.int x1, .int (4 : Int32)]) (rest := []) Fx0 (c_X10_ofFeeder l hLx hAd x x1 (4 : Int32) z4) hP (hD1 _ (hAd _ _)) hS (hA1 _ _ (hAd _ _) hS.1) hLx (Nat.le_of_ble_eq_true rfl) (xs0 _ _) rfl tw_7_222 tw_7_219 tw_7_221 ts_113 tw_1_13 yd_X10_ofFeeder ⟨(Nat.le_of_ble_eq_true rfl), (Nat.le_of_ble_eq_true rfl)⟩ rfl hl.1 rfl (Nat.le_of_ble_eq_true rfl) dX10_splices_12 (fun H locs hP hS => ?_)
        refine lv_if_le (tgt := 110) hx hb dX10_splices_15 (by decide) (fun c => ?_) (fun c => ?_)
        · have hD := ifp hD c
          obtain rfl := es1 hD
          exact hret _ _ _ hP hS (fun Qc hq => W.vret hx hb hr hq hS.2.2 dX10_splices_110 hlocks)
        · have hD := ifn hD c
          refine lv_aload_n hx hb dX10_splices_18 rfl (lv_at hl 0 rfl) ?_
          refine lv_iload_n hx hb dX10_splices_19 rfl (lv_at hl 1 rfl) ?_
          refine lv_iconst (v := (2 : Int32)) hx hb dX10_splices_20 (by decide) ?_
          refine lv_aload_n hx hb dX10_splices_21 rfl (lv_at hl 0 rfl) ?_
          refine lv_iload_n hx hb dX10_splices_22 rfl (lv_at hl 1 rfl) ?_
          refine lv_bipush (v := (8 : Int32)) hx hb dX10_splices_23 (by decide) ?_
          obtain ⟨v5, z6, hD⟩ := b1_el hD
          refine rcV  (As := [.int x1, .int (8 : Int32)]) (rest := [.int (2 : Int32), .int x1, .ref (adx 0)]) Fx0 (c_X10_ofFeeder l hLx hAd x x1 (8 : Int32) z6) hP (hD1 _ (hAd _ _)) hS (hA1 _ _ (hAd _ _) hS.1) hLx (Nat.le_of_ble_eq_true rfl) (xs0 _ _) rfl tw_7_222 tw_7_219 tw_7_221 ts_113 tw_1_13 yd_X10_ofFeeder ⟨(Nat.le_of_ble_eq_true rfl), (Nat.le_of_ble_eq_true rfl)⟩ rfl hl.1 rfl (Nat.le_of_ble_eq_true rfl) dX10_splices_25 (fun H locs hP hS => ?_)
          obtain ⟨m7, z8, hD⟩ := b1_el hD
          refine rcV  (As := [.int x1, .int (2 : Int32), .int v5]) (rest := []) Fx0 (c_X10_putFeeder l hLx hAd x x1 (2 : Int32) v5 z8) hP (hD1 _ (hAd _ _)) hS (hA1 _ _ (hAd _ _) hS.1) hLx (Nat.le_of_ble_eq_true rfl) (xs0 _ _) rfl tw_7_231 tw_7_228 tw_7_230 ts_114 tw_1_13 yd_X10_putFeeder ⟨(Nat.le_of_ble_eq_true rfl), (Nat.le_of_ble_eq_true rfl)⟩ rfl hl.1 rfl (Nat.le_of_ble_eq_true rfl) dX10_splices_28 (fun H locs hP hS => ?_)
          refine lv_iconst (v := (0 : Int32)) hx hb dX10_splices_31 (by decide) ?_
          refine lv_istore_n (lv' := [(2, .int (0 : Int32)), (0, .ref (adx 0)), (1, .int x1)]) hx hb dX10_splices_32 rfl hl (by decide) rfl (fun ls hl => ?_)
          exact c_33 _ ih FU _ _ _ _ _ _ hD hP hS (lv_sub hl [1, 2, 0] rfl)
  exact c_0 FU _ _ _ _ _ hD hP hS (lv_sub hl [0, 1] rfl)

noncomputable def D_X10_splice_26 (x1 : Int32) (x2 : Int32) (xt0 : Int32) (x : MM) : Option (Int32 × MM) := b2 (D_X10_throwsIf xt0 (2 : Int32) x) (fun v6 m7 => if v6 = 0 then (b1 (D_X10_ofFeeder x1 (4 : Int32) m7) (fun v9 => if v9 = (3 : Int32) then (some ((-2 : Int32), m7)) else (b1 (D_X10_ofFeeder x1 (4 : Int32) m7) (fun v11 => b1 (D_X10_putFeeder x1 ((8 : Int32) + v11) x2 m7) (fun m13 => b1 (D_X10_ofFeeder x1 (4 : Int32) m13) (fun v15 => b1 (D_X10_putFeeder x1 (4 : Int32) (v15 + (1 : Int32)) m13) (fun m17 => b1 (D_X10_ofFeeder x1 (0 : Int32) m17) (fun v19 => b1 (D_X10_books v19 (0 : Int32) x2 m17) (fun m21 => b1 (D_X10_splices x1 m21) (fun m23 => b1 (D_X10_ofFeeder x1 (4 : Int32) m23) (fun v25 => some (v25, m23)))))))))))) else (some ((0 : Int32), m7)))
noncomputable def D_X10_splice (x1 : Int32) (x2 : Int32) (x : MM) : Option (Int32 × MM) := b2 (D_X10_noFeeder x1 x) (fun v1 m2 => if v1 = 0 then (b1 (D_X10_in x2.toInt64 (0 : Int64) (500 : Int64)) (fun v4 => if v4 = 0 then (D_X10_splice_26 x1 x2 (1 : Int32) m2) else (D_X10_splice_26 x1 x2 (0 : Int32) m2))) else (some ((0 : Int32), m2)))
set_option maxHeartbeats 4000000 in
set_option maxRecDepth 100000 in
theorem c_X10_splice (l : Launch) {D : va_G} {cs : Nat → ClassId} {adx : Nat → Nat} {Wf : MM → va_W} (hLx : Ln 9 adx (xsh cs adx) Wf) (hAd : ∀ a0_ b0_ : MM, (Wf a0_).map (fun q => q.1) = (Wf b0_).map (fun q => q.1)) (x : MM) (x1 : Int32) (x2 : Int32) {rr : Int32} {x' : MM} (hD : D_X10_splice x1 x2 x = some (rr, x')) : Ct l yX10_splice cX10_splice 3 (some .int) 3 67 D cs [.ref (adx 0), .int x1, .int x2] (Wf x) (Wf x') (some (.int rr)) := by
  refine Ct.ofW (by decide) (Nat.le_of_ble_eq_true rfl) (hAd _ _) ?_
  intro p e s m0 below meth c A Q ls args hx hb hr hml hlocks hown hts hK hP hD1 hSS hS hA1 hl hret
  have hT : ∀ w ∈ TBL, w.before args s = true := fun w h => hts w (List.mem_cons_of_mem _ h)
  have Fx0 : Fx p l m0 c cX10_splice 3 s args yX10_splice cX10_splice 3 (some .int) D cs A := ⟨hx, hb, hml, hown, hts, hK, hSS⟩
  have hown : s.vm.findClass RX10 = some m0.cls := hown
  have hl : lv_has ls 3 [(0, .ref (adx 0)), (1, .int x1), (2, .int x2)] := hl
  unfold D_X10_splice at hD
  have c_26 : ∀ (x1 : Int32) (x2 : Int32) (xt0 : Int32) (x : MM) (H : Heap) (locs : List Loc) (ls : Array Slot), D_X10_splice_26 x1 x2 xt0 x = some (rr, x') → va_P D vwCl (Wf x) H → va_S A s.heap H locs → lv_has ls 3 [(0, .ref (adx 0)), (1, .int x1), (2, .int x2)] → W p l e ({ frames := 3, cells := 0, slots := 0, locals := 67 } : Room) s m0 args below meth c H locs 0 0 Q (F0 m0 26 ls [.int xt0, .ref (adx 0)]) := by
    intro x1 x2 xt0 x H locs ls hD hP hS hl
    unfold D_X10_splice_26 at hD
    refine lv_iconst (v := (2 : Int32)) hx hb dX10_splice_26 (by decide) ?_
    obtain ⟨v6, m7, z8, hD⟩ := b2_el hD
    refine rcV  (As := [.int xt0, .int (2 : Int32)]) (rest := []) Fx0 (c_X10_throwsIf l hLx hAd x xt0 (2 : Int32) z8) hP (hD1 _ (hAd _ _)) hS (hA1 _ _ (hAd _ _) hS.1) hLx (Nat.le_of_ble_eq_true rfl) (xs0 _ _) rfl tw_7_163 tw_7_160 tw_7_162 ts_105 tw_1_13 yd_X10_throwsIf ⟨(Nat.le_of_ble_eq_true rfl), (Nat.le_of_ble_eq_true rfl)⟩ rfl hl.1 rfl (Nat.le_of_ble_eq_true rfl) dX10_splice_27 (fun H locs hP hS => ?_)
    refine lv_if_eq (tgt := 35) hx hb dX10_splice_30 (by decide) (fun c => ?_) (fun c => ?_)
    · have hD := ifp hD c
      refine lv_aload_n hx hb dX10_splice_35 rfl (lv_at hl 0 rfl) ?_
      refine lv_iload_n hx hb dX10_splice_36 rfl (lv_at hl 1 rfl) ?_
      refine lv_iconst (v := (4 : Int32)) hx hb dX10_splice_37 (by decide) ?_
      obtain ⟨v9, z10, hD⟩ := b1_el hD
      refine rcV  (As := [.int x1, .int (4 : Int32)]) (rest := []) Fx0 (c_X10_ofFeeder l hLx hAd m7 x1 (4 : Int32) z10) hP (hD1 _ (hAd _ _)) hS (hA1 _ _ (hAd _ _) hS.1) hLx (Nat.le_of_ble_eq_true rfl) (xs0 _ _) rfl tw_7_222 tw_7_219 tw_7_221 ts_113 tw_1_13 yd_X10_ofFeeder ⟨(Nat.le_of_ble_eq_true rfl), (Nat.le_of_ble_eq_true rfl)⟩ rfl hl.1 rfl (Nat.le_of_ble_eq_true rfl) dX10_splice_38 (fun H locs hP hS => ?_)
      refine lv_iconst (v := (3 : Int32)) hx hb dX10_splice_41 (by decide) ?_
      refine lv_icmp_ne (tgt := 48) hx hb dX10_splice_42 (by decide) (fun c => ?_) (fun c => ?_)
      · have hD := ifn hD c
        refine lv_aload_n hx hb dX10_splice_48 rfl (lv_at hl 0 rfl) ?_
        refine lv_iload_n hx hb dX10_splice_49 rfl (lv_at hl 1 rfl) ?_
        refine lv_bipush (v := (8 : Int32)) hx hb dX10_splice_50 (by decide) ?_
        refine lv_aload_n hx hb dX10_splice_52 rfl (lv_at hl 0 rfl) ?_
        refine lv_iload_n hx hb dX10_splice_53 rfl (lv_at hl 1 rfl) ?_
        refine lv_iconst (v := (4 : Int32)) hx hb dX10_splice_54 (by decide) ?_
        obtain ⟨v11, z12, hD⟩ := b1_el hD
        refine rcV  (As := [.int x1, .int (4 : Int32)]) (rest := [.int (8 : Int32), .int x1, .ref (adx 0)]) Fx0 (c_X10_ofFeeder l hLx hAd m7 x1 (4 : Int32) z12) hP (hD1 _ (hAd _ _)) hS (hA1 _ _ (hAd _ _) hS.1) hLx (Nat.le_of_ble_eq_true rfl) (xs0 _ _) rfl tw_7_222 tw_7_219 tw_7_221 ts_113 tw_1_13 yd_X10_ofFeeder ⟨(Nat.le_of_ble_eq_true rfl), (Nat.le_of_ble_eq_true rfl)⟩ rfl hl.1 rfl (Nat.le_of_ble_eq_true rfl) dX10_splice_55 (fun H locs hP hS => ?_)
        refine lv_iadd hx hb dX10_splice_58 ?_
        refine lv_iload_n hx hb dX10_splice_59 rfl (lv_at hl 2 rfl) ?_
        obtain ⟨m13, z14, hD⟩ := b1_el hD
        refine rcV  (As := [.int x1, .int ((8 : Int32) + v11), .int x2]) (rest := []) Fx0 (c_X10_putFeeder l hLx hAd m7 x1 ((8 : Int32) + v11) x2 z14) hP (hD1 _ (hAd _ _)) hS (hA1 _ _ (hAd _ _) hS.1) hLx (Nat.le_of_ble_eq_true rfl) (xs0 _ _) rfl tw_7_231 tw_7_228 tw_7_230 ts_114 tw_1_13 yd_X10_putFeeder ⟨(Nat.le_of_ble_eq_true rfl), (Nat.le_of_ble_eq_true rfl)⟩ rfl hl.1 rfl (Nat.le_of_ble_eq_true rfl) dX10_splice_60 (fun H locs hP hS => ?_)
        refine lv_aload_n hx hb dX10_splice_63 rfl (lv_at hl 0 rfl) ?_
        refine lv_iload_n hx hb dX10_splice_64 rfl (lv_at hl 1 rfl) ?_
        refine lv_iconst (v := (4 : Int32)) hx hb dX10_splice_65 (by decide) ?_
        refine lv_aload_n hx hb dX10_splice_66 rfl (lv_at hl 0 rfl) ?_
        refine lv_iload_n hx hb dX10_splice_67 rfl (lv_at hl 1 rfl) ?_
        refine lv_iconst (v := (4 : Int32)) hx hb dX10_splice_68 (by decide) ?_
        obtain ⟨v15, z16, hD⟩ := b1_el hD
        refine rcV  (As := [.int x1, .int (4 : Int32)]) (rest := [.int (4 : Int32), .int x1, .ref (adx 0)]) Fx0 (c_X10_ofFeeder l hLx hAd m13 x1 (4 : Int32) z16) hP (hD1 _ (hAd _ _)) hS (hA1 _ _ (hAd _ _) hS.1) hLx (Nat.le_of_ble_eq_true rfl) (xs0 _ _) rfl tw_7_222 tw_7_219 tw_7_221 ts_113 tw_1_13 yd_X10_ofFeeder ⟨(Nat.le_of_ble_eq_true rfl), (Nat.le_of_ble_eq_true rfl)⟩ rfl hl.1 rfl (Nat.le_of_ble_eq_true rfl) dX10_splice_69 (fun H locs hP hS => ?_)
        refine lv_iconst (v := (1 : Int32)) hx hb dX10_splice_72 (by decide) ?_
        refine lv_iadd hx hb dX10_splice_73 ?_
        obtain ⟨m17, z18, hD⟩ := b1_el hD
        refine rcV  (As := [.int x1, .int (4 : Int32), .int (v15 + (1 : Int32))]) (rest := []) Fx0 (c_X10_putFeeder l hLx hAd m13 x1 (4 : Int32) (v15 + (1 : Int32)) z18) hP (hD1 _ (hAd _ _)) hS (hA1 _ _ (hAd _ _) hS.1) hLx (Nat.le_of_ble_eq_true rfl) (xs0 _ _) rfl tw_7_231 tw_7_228 tw_7_230 ts_114 tw_1_13 yd_X10_putFeeder ⟨(Nat.le_of_ble_eq_true rfl), (Nat.le_of_ble_eq_true rfl)⟩ rfl hl.1 rfl (Nat.le_of_ble_eq_true rfl) dX10_splice_74 (fun H locs hP hS => ?_)
        refine lv_aload_n hx hb dX10_splice_77 rfl (lv_at hl 0 rfl) ?_
        refine lv_aload_n hx hb dX10_splice_78 rfl (lv_at hl 0 rfl) ?_
        refine lv_iload_n hx hb dX10_splice_79 rfl (lv_at hl 1 rfl) ?_
        refine lv_iconst (v := (0 : Int32)) hx hb dX10_splice_80 (by decide) ?_
        obtain ⟨v19, z20, hD⟩ := b1_el hD
        refine rcV  (As := [.int x1, .int (0 : Int32)]) (rest := [.ref (adx 0)]) Fx0 (c_X10_ofFeeder l hLx hAd m17 x1 (0 : Int32) z20) hP (hD1 _ (hAd _ _)) hS (hA1 _ _ (hAd _ _) hS.1) hLx (Nat.le_of_ble_eq_true rfl) (xs0 _ _) rfl tw_7_222 tw_7_219 tw_7_221 ts_113 tw_1_13 yd_X10_ofFeeder ⟨(Nat.le_of_ble_eq_true rfl), (Nat.le_of_ble_eq_true rfl)⟩ rfl hl.1 rfl (Nat.le_of_ble_eq_true rfl) dX10_splice_81 (fun H locs hP hS => ?_)
        refine lv_iconst (v := (0 : Int32)) hx hb dX10_splice_84 (by decide) ?_
        refine lv_iload_n hx hb dX10_splice_85 rfl (lv_at hl 2 rfl) ?_
        obtain ⟨m21, z22, hD⟩ := b1_el hD
        refine rcV  (As := [.int v19, .int (0 : Int32), .int x2]) (rest := []) Fx0 (c_X10_books l hLx hAd m17 v19 (0 : Int32) x2 z22) hP (hD1 _ (hAd _ _)) hS (hA1 _ _ (hAd _ _) hS.1) hLx (Nat.le_of_ble_eq_true rfl) (xs0 _ _) rfl tw_7_235 tw_7_232 tw_7_234 ts_115 tw_1_13 yd_X10_books ⟨(Nat.le_of_ble_eq_true rfl), (Nat.le_of_ble_eq_true rfl)⟩ rfl hl.1 rfl (Nat.le_of_ble_eq_true rfl) dX10_splice_86 (fun H locs hP hS => ?_)
        refine lv_aload_n hx hb dX10_splice_89 rfl (lv_at hl 0 rfl) ?_
        refine lv_iload_n hx hb dX10_splice_90 rfl (lv_at hl 1 rfl) ?_
        obtain ⟨m23, z24, hD⟩ := b1_el hD
        refine rcV  (As := [.int x1]) (rest := []) Fx0 (c_X10_splices l hLx hAd m21 x1 z24) hP (hD1 _ (hAd _ _)) hS (hA1 _ _ (hAd _ _) hS.1) hLx (Nat.le_of_ble_eq_true rfl) (xs0 _ _) rfl tw_7_239 tw_7_236 tw_7_238 ts_116 tw_1_13 yd_X10_splices ⟨(Nat.le_of_ble_eq_true rfl), (Nat.le_of_ble_eq_true rfl)⟩ rfl hl.1 rfl (Nat.le_of_ble_eq_true rfl) dX10_splice_91 (fun H locs hP hS => ?_)
        refine lv_aload_n hx hb dX10_splice_94 rfl (lv_at hl 0 rfl) ?_
        refine lv_iload_n hx hb dX10_splice_95 rfl (lv_at hl 1 rfl) ?_
        refine lv_iconst (v := (4 : Int32)) hx hb dX10_splice_96 (by decide) ?_
        obtain ⟨v25, z26, hD⟩ := b1_el hD
        refine rcV  (As := [.int x1, .int (4 : Int32)]) (rest := []) Fx0 (c_X10_ofFeeder l hLx hAd m23 x1 (4 : Int32) z26) hP (hD1 _ (hAd _ _)) hS (hA1 _ _ (hAd _ _) hS.1) hLx (Nat.le_of_ble_eq_true rfl) (xs0 _ _) rfl tw_7_222 tw_7_219 tw_7_221 ts_113 tw_1_13 yd_X10_ofFeeder ⟨(Nat.le_of_ble_eq_true rfl), (Nat.le_of_ble_eq_true rfl)⟩ rfl hl.1 rfl (Nat.le_of_ble_eq_true rfl) dX10_splice_97 (fun H locs hP hS => ?_)
        obtain ⟨rfl, rfl⟩ := es2 hD
        exact hret _ _ _ hP hS (fun Qc hq => W.iret hx hb hr hq hS.2.2 dX10_splice_100 hlocks)
      · have hD := ifp hD c
        refine lv_bipush (v := (-2 : Int32)) hx hb dX10_splice_45 (by decide) ?_
        obtain ⟨rfl, rfl⟩ := es2 hD
        exact hret _ _ _ hP hS (fun Qc hq => W.iret hx hb hr hq hS.2.2 dX10_splice_47 hlocks)
    · have hD := ifn hD c
      refine lv_iconst (v := (0 : Int32)) hx hb dX10_splice_33 (by decide) ?_
      obtain ⟨rfl, rfl⟩ := es2 hD
      exact hret _ _ _ hP hS (fun Qc hq => W.iret hx hb hr hq hS.2.2 dX10_splice_34 hlocks)
  refine lv_aload_n hx hb dX10_splice_0 rfl (lv_at hl 0 rfl) ?_
  refine lv_iload_n hx hb dX10_splice_1 rfl (lv_at hl 1 rfl) ?_
  obtain ⟨v1, m2, z3, hD⟩ := b2_el hD
  refine rcV  (As := [.int x1]) (rest := []) Fx0 (c_X10_noFeeder l hLx hAd x x1 z3) hP (hD1 _ (hAd _ _)) hS (hA1 _ _ (hAd _ _) hS.1) hLx (Nat.le_of_ble_eq_true rfl) (xs0 _ _) rfl tw_7_214 tw_7_211 tw_7_213 ts_111 tw_1_13 yd_X10_noFeeder ⟨(Nat.le_of_ble_eq_true rfl), (Nat.le_of_ble_eq_true rfl)⟩ rfl hl.1 rfl (Nat.le_of_ble_eq_true rfl) dX10_splice_2 (fun H locs hP hS => ?_)
  refine lv_if_ne (tgt := 33) hx hb dX10_splice_5 (by decide) (fun c => ?_) (fun c => ?_)
  · have hD := ifn hD c
    refine lv_iconst (v := (0 : Int32)) hx hb dX10_splice_33 (by decide) ?_
    obtain ⟨rfl, rfl⟩ := es2 hD
    exact hret _ _ _ hP hS (fun Qc hq => W.iret hx hb hr hq hS.2.2 dX10_splice_34 hlocks)
  · have hD := ifp hD c
    refine lv_aload_n hx hb dX10_splice_8 rfl (lv_at hl 0 rfl) ?_
    refine lv_iload_n hx hb dX10_splice_9 rfl (lv_at hl 2 rfl) ?_
    refine lv_i2l (v := x2.toInt64) hx hb dX10_splice_10 rfl ?_
    refine lv_lconst (v := (0 : Int64)) hx hb dX10_splice_11 (by decide) ?_
    refine lv_ldc2 (v := (500 : Int64)) hx hb hown (Fx0.T tw_7_227) dX10_splice_12 ?_
    obtain ⟨v4, z5, hD⟩ := b1_el hD
    refine rcS (As := [.long x2.toInt64, .long (0 : Int64), .long (500 : Int64)]) (rest := [.ref (adx 0)]) Fx0 (c_X10_in l x2.toInt64 (0 : Int64) (500 : Int64) z5) hP (hD1 _ (hAd _ _)) hS (hA1 _ _ (hAd _ _) hS.1) tw_7_69 tw_7_67 tw_7_68 tw_1_13 yd_X10_in ⟨(Nat.le_of_ble_eq_true rfl), (Nat.le_of_ble_eq_true rfl)⟩ rfl hl.1 rfl (Nat.le_of_ble_eq_true rfl) dX10_splice_15 (fun H locs hP hS => ?_)
    refine lv_if_ne (tgt := 25) hx hb dX10_splice_18 (by decide) (fun c => ?_) (fun c => ?_)
    · have hD := ifn hD c
      refine lv_iconst (v := (0 : Int32)) hx hb dX10_splice_25 (by decide) ?_
      exact c_26 _ _ _ _ _ _ _ hD hP hS (lv_sub hl [0, 1, 2] rfl)
    · have hD := ifp hD c
      refine lv_iconst (v := (1 : Int32)) hx hb dX10_splice_21 (by decide) ?_
      refine lv_goto (tgt := 26) hx hb dX10_splice_22 (by decide) ?_
      exact c_26 _ _ _ _ _ _ _ hD hP hS (lv_sub hl [0, 1, 2] rfl)

noncomputable def D_X10_takeReel (x1 : Int32) (x : MM) : Option (Int32 × MM) := b2 (D_X10_noFeeder x1 x) (fun v1 m2 => if v1 = 0 then (b1 (D_X10_ofFeeder x1 (4 : Int32) m2) (fun v4 => if v4 = 0 then (some ((-1 : Int32), m2)) else (b1 (D_X10_ofFeeder x1 (((8 : Int32) + v4) - (1 : Int32)) m2) (fun v6 => b1 (D_X10_putFeeder x1 (((8 : Int32) + v4) - (1 : Int32)) (0 : Int32) m2) (fun m8 => b1 (D_X10_putFeeder x1 (4 : Int32) (v4 - (1 : Int32)) m8) (fun m10 => b1 (D_X10_ofFeeder x1 (0 : Int32) m10) (fun v12 => b1 (D_X10_books v12 (4 : Int32) v6 m10) (fun m14 => some (v6, m14))))))))) else (some ((0 : Int32), m2)))
set_option maxHeartbeats 4000000 in
set_option maxRecDepth 100000 in
theorem c_X10_takeReel (l : Launch) {D : va_G} {cs : Nat → ClassId} {adx : Nat → Nat} {Wf : MM → va_W} (hLx : Ln 9 adx (xsh cs adx) Wf) (hAd : ∀ a0_ b0_ : MM, (Wf a0_).map (fun q => q.1) = (Wf b0_).map (fun q => q.1)) (x : MM) (x1 : Int32) {rr : Int32} {x' : MM} (hD : D_X10_takeReel x1 x = some (rr, x')) : Ct l yX10_takeReel cX10_takeReel 4 (some .int) 3 67 D cs [.ref (adx 0), .int x1] (Wf x) (Wf x') (some (.int rr)) := by
  refine Ct.ofW (by decide) (Nat.le_of_ble_eq_true rfl) (hAd _ _) ?_
  intro p e s m0 below meth c A Q ls args hx hb hr hml hlocks hown hts hK hP hD1 hSS hS hA1 hl hret
  have hT : ∀ w ∈ TBL, w.before args s = true := fun w h => hts w (List.mem_cons_of_mem _ h)
  have Fx0 : Fx p l m0 c cX10_takeReel 4 s args yX10_takeReel cX10_takeReel 4 (some .int) D cs A := ⟨hx, hb, hml, hown, hts, hK, hSS⟩
  have hown : s.vm.findClass RX10 = some m0.cls := hown
  have hl : lv_has ls 4 [(0, .ref (adx 0)), (1, .int x1)] := hl
  unfold D_X10_takeReel at hD
  refine lv_aload_n hx hb dX10_takeReel_0 rfl (lv_at hl 0 rfl) ?_
  refine lv_iload_n hx hb dX10_takeReel_1 rfl (lv_at hl 1 rfl) ?_
  obtain ⟨v1, m2, z3, hD⟩ := b2_el hD
  refine rcV  (As := [.int x1]) (rest := []) Fx0 (c_X10_noFeeder l hLx hAd x x1 z3) hP (hD1 _ (hAd _ _)) hS (hA1 _ _ (hAd _ _) hS.1) hLx (Nat.le_of_ble_eq_true rfl) (xs0 _ _) rfl tw_7_214 tw_7_211 tw_7_213 ts_111 tw_1_13 yd_X10_noFeeder ⟨(Nat.le_of_ble_eq_true rfl), (Nat.le_of_ble_eq_true rfl)⟩ rfl hl.1 rfl (Nat.le_of_ble_eq_true rfl) dX10_takeReel_2 (fun H locs hP hS => ?_)
  refine lv_if_eq (tgt := 10) hx hb dX10_takeReel_5 (by decide) (fun c => ?_) (fun c => ?_)
  · have hD := ifp hD c
    refine lv_aload_n hx hb dX10_takeReel_10 rfl (lv_at hl 0 rfl) ?_
    refine lv_iload_n hx hb dX10_takeReel_11 rfl (lv_at hl 1 rfl) ?_
    refine lv_iconst (v := (4 : Int32)) hx hb dX10_takeReel_12 (by decide) ?_
    obtain ⟨v4, z5, hD⟩ := b1_el hD
    refine rcV  (As := [.int x1, .int (4 : Int32)]) (rest := []) Fx0 (c_X10_ofFeeder l hLx hAd m2 x1 (4 : Int32) z5) hP (hD1 _ (hAd _ _)) hS (hA1 _ _ (hAd _ _) hS.1) hLx (Nat.le_of_ble_eq_true rfl) (xs0 _ _) rfl tw_7_222 tw_7_219 tw_7_221 ts_113 tw_1_13 yd_X10_ofFeeder ⟨(Nat.le_of_ble_eq_true rfl), (Nat.le_of_ble_eq_true rfl)⟩ rfl hl.1 rfl (Nat.le_of_ble_eq_true rfl) dX10_takeReel_13 (fun H locs hP hS => ?_)
    refine lv_istore_n (lv' := [(2, .int v4), (0, .ref (adx 0)), (1, .int x1)]) hx hb dX10_takeReel_16 rfl hl (by decide) rfl (fun ls hl => ?_)
    refine lv_iload_n hx hb dX10_takeReel_17 rfl (lv_at hl 0 rfl) ?_
    refine lv_if_ne (tgt := 23) hx hb dX10_takeReel_18 (by decide) (fun c => ?_) (fun c => ?_)
    · have hD := ifn hD c
      refine lv_aload_n hx hb dX10_takeReel_23 rfl (lv_at hl 1 rfl) ?_
      refine lv_iload_n hx hb dX10_takeReel_24 rfl (lv_at hl 2 rfl) ?_
      refine lv_bipush (v := (8 : Int32)) hx hb dX10_takeReel_25 (by decide) ?_
      refine lv_iload_n hx hb dX10_takeReel_27 rfl (lv_at hl 0 rfl) ?_
      refine lv_iadd hx hb dX10_takeReel_28 ?_
      refine lv_iconst (v := (1 : Int32)) hx hb dX10_takeReel_29 (by decide) ?_
      refine lv_isub hx hb dX10_takeReel_30 ?_
      obtain ⟨v6, z7, hD⟩ := b1_el hD
      refine rcV  (As := [.int x1, .int (((8 : Int32) + v4) - (1 : Int32))]) (rest := []) Fx0 (c_X10_ofFeeder l hLx hAd m2 x1 (((8 : Int32) + v4) - (1 : Int32)) z7) hP (hD1 _ (hAd _ _)) hS (hA1 _ _ (hAd _ _) hS.1) hLx (Nat.le_of_ble_eq_true rfl) (xs0 _ _) rfl tw_7_222 tw_7_219 tw_7_221 ts_113 tw_1_13 yd_X10_ofFeeder ⟨(Nat.le_of_ble_eq_true rfl), (Nat.le_of_ble_eq_true rfl)⟩ rfl hl.1 rfl (Nat.le_of_ble_eq_true rfl) dX10_takeReel_31 (fun H locs hP hS => ?_)
      refine lv_istore_n (lv' := [(3, .int v6), (2, .int v4), (0, .ref (adx 0)), (1, .int x1)]) hx hb dX10_takeReel_34 rfl hl (by decide) rfl (fun ls hl => ?_)
      refine lv_aload_n hx hb dX10_takeReel_35 rfl (lv_at hl 2 rfl) ?_
      refine lv_iload_n hx hb dX10_takeReel_36 rfl (lv_at hl 3 rfl) ?_
      refine lv_bipush (v := (8 : Int32)) hx hb dX10_takeReel_37 (by decide) ?_
      refine lv_iload_n hx hb dX10_takeReel_39 rfl (lv_at hl 1 rfl) ?_
      refine lv_iadd hx hb dX10_takeReel_40 ?_
      refine lv_iconst (v := (1 : Int32)) hx hb dX10_takeReel_41 (by decide) ?_
      refine lv_isub hx hb dX10_takeReel_42 ?_
      refine lv_iconst (v := (0 : Int32)) hx hb dX10_takeReel_43 (by decide) ?_
      obtain ⟨m8, z9, hD⟩ := b1_el hD
      refine rcV  (As := [.int x1, .int (((8 : Int32) + v4) - (1 : Int32)), .int (0 : Int32)]) (rest := []) Fx0 (c_X10_putFeeder l hLx hAd m2 x1 (((8 : Int32) + v4) - (1 : Int32)) (0 : Int32) z9) hP (hD1 _ (hAd _ _)) hS (hA1 _ _ (hAd _ _) hS.1) hLx (Nat.le_of_ble_eq_true rfl) (xs0 _ _) rfl tw_7_231 tw_7_228 tw_7_230 ts_114 tw_1_13 yd_X10_putFeeder ⟨(Nat.le_of_ble_eq_true rfl), (Nat.le_of_ble_eq_true rfl)⟩ rfl hl.1 rfl (Nat.le_of_ble_eq_true rfl) dX10_takeReel_44 (fun H locs hP hS => ?_)
      refine lv_aload_n hx hb dX10_takeReel_47 rfl (lv_at hl 2 rfl) ?_
      refine lv_iload_n hx hb dX10_takeReel_48 rfl (lv_at hl 3 rfl) ?_
      refine lv_iconst (v := (4 : Int32)) hx hb dX10_takeReel_49 (by decide) ?_
      refine lv_iload_n hx hb dX10_takeReel_50 rfl (lv_at hl 1 rfl) ?_
      refine lv_iconst (v := (1 : Int32)) hx hb dX10_takeReel_51 (by decide) ?_
      refine lv_isub hx hb dX10_takeReel_52 ?_
      obtain ⟨m10, z11, hD⟩ := b1_el hD
      refine rcV  (As := [.int x1, .int (4 : Int32), .int (v4 - (1 : Int32))]) (rest := []) Fx0 (c_X10_putFeeder l hLx hAd m8 x1 (4 : Int32) (v4 - (1 : Int32)) z11) hP (hD1 _ (hAd _ _)) hS (hA1 _ _ (hAd _ _) hS.1) hLx (Nat.le_of_ble_eq_true rfl) (xs0 _ _) rfl tw_7_231 tw_7_228 tw_7_230 ts_114 tw_1_13 yd_X10_putFeeder ⟨(Nat.le_of_ble_eq_true rfl), (Nat.le_of_ble_eq_true rfl)⟩ rfl hl.1 rfl (Nat.le_of_ble_eq_true rfl) dX10_takeReel_53 (fun H locs hP hS => ?_)
      refine lv_aload_n hx hb dX10_takeReel_56 rfl (lv_at hl 2 rfl) ?_
      refine lv_aload_n hx hb dX10_takeReel_57 rfl (lv_at hl 2 rfl) ?_
      refine lv_iload_n hx hb dX10_takeReel_58 rfl (lv_at hl 3 rfl) ?_
      refine lv_iconst (v := (0 : Int32)) hx hb dX10_takeReel_59 (by decide) ?_
      obtain ⟨v12, z13, hD⟩ := b1_el hD
      refine rcV  (As := [.int x1, .int (0 : Int32)]) (rest := [.ref (adx 0)]) Fx0 (c_X10_ofFeeder l hLx hAd m10 x1 (0 : Int32) z13) hP (hD1 _ (hAd _ _)) hS (hA1 _ _ (hAd _ _) hS.1) hLx (Nat.le_of_ble_eq_true rfl) (xs0 _ _) rfl tw_7_222 tw_7_219 tw_7_221 ts_113 tw_1_13 yd_X10_ofFeeder ⟨(Nat.le_of_ble_eq_true rfl), (Nat.le_of_ble_eq_true rfl)⟩ rfl hl.1 rfl (Nat.le_of_ble_eq_true rfl) dX10_takeReel_60 (fun H locs hP hS => ?_)
      refine lv_iconst (v := (4 : Int32)) hx hb dX10_takeReel_63 (by decide) ?_
      refine lv_iload_n hx hb dX10_takeReel_64 rfl (lv_at hl 0 rfl) ?_
      obtain ⟨m14, z15, hD⟩ := b1_el hD
      refine rcV  (As := [.int v12, .int (4 : Int32), .int v6]) (rest := []) Fx0 (c_X10_books l hLx hAd m10 v12 (4 : Int32) v6 z15) hP (hD1 _ (hAd _ _)) hS (hA1 _ _ (hAd _ _) hS.1) hLx (Nat.le_of_ble_eq_true rfl) (xs0 _ _) rfl tw_7_235 tw_7_232 tw_7_234 ts_115 tw_1_13 yd_X10_books ⟨(Nat.le_of_ble_eq_true rfl), (Nat.le_of_ble_eq_true rfl)⟩ rfl hl.1 rfl (Nat.le_of_ble_eq_true rfl) dX10_takeReel_65 (fun H locs hP hS => ?_)
      refine lv_iload_n hx hb dX10_takeReel_68 rfl (lv_at hl 0 rfl) ?_
      obtain ⟨rfl, rfl⟩ := es2 hD
      exact hret _ _ _ hP hS (fun Qc hq => W.iret hx hb hr hq hS.2.2 dX10_takeReel_69 hlocks)
    · have hD := ifp hD c
      refine lv_iconst (v := (-1 : Int32)) hx hb dX10_takeReel_21 (by decide) ?_
      obtain ⟨rfl, rfl⟩ := es2 hD
      exact hret _ _ _ hP hS (fun Qc hq => W.iret hx hb hr hq hS.2.2 dX10_takeReel_22 hlocks)
  · have hD := ifn hD c
    refine lv_iconst (v := (0 : Int32)) hx hb dX10_takeReel_8 (by decide) ?_
    obtain ⟨rfl, rfl⟩ := es2 hD
    exact hret _ _ _ hP hS (fun Qc hq => W.iret hx hb hr hq hS.2.2 dX10_takeReel_9 hlocks)

noncomputable def D_X10_changesFeeder (x1 : Int32) (x2 : Int32) (x3 : Int32) (x : MM) : Option (Int32 × MM) := b1 (D_X10_ofFeeder x1 x2 x) (fun v1 => b1 (D_X10_putFeeder x1 x2 x3 x) (fun m3 => some (v1, m3)))
set_option maxHeartbeats 4000000 in
set_option maxRecDepth 100000 in
theorem c_X10_changesFeeder (l : Launch) {D : va_G} {cs : Nat → ClassId} {adx : Nat → Nat} {Wf : MM → va_W} (hLx : Ln 9 adx (xsh cs adx) Wf) (hAd : ∀ a0_ b0_ : MM, (Wf a0_).map (fun q => q.1) = (Wf b0_).map (fun q => q.1)) (x : MM) (x1 : Int32) (x2 : Int32) (x3 : Int32) {rr : Int32} {x' : MM} (hD : D_X10_changesFeeder x1 x2 x3 x = some (rr, x')) : Ct l yX10_changesFeeder cX10_changesFeeder 5 (some .int) 1 23 D cs [.ref (adx 0), .int x1, .int x2, .int x3] (Wf x) (Wf x') (some (.int rr)) := by
  refine Ct.ofW (by decide) (Nat.le_of_ble_eq_true rfl) (hAd _ _) ?_
  intro p e s m0 below meth c A Q ls args hx hb hr hml hlocks hown hts hK hP hD1 hSS hS hA1 hl hret
  have hT : ∀ w ∈ TBL, w.before args s = true := fun w h => hts w (List.mem_cons_of_mem _ h)
  have Fx0 : Fx p l m0 c cX10_changesFeeder 5 s args yX10_changesFeeder cX10_changesFeeder 5 (some .int) D cs A := ⟨hx, hb, hml, hown, hts, hK, hSS⟩
  have hown : s.vm.findClass RX10 = some m0.cls := hown
  have hl : lv_has ls 5 [(0, .ref (adx 0)), (1, .int x1), (2, .int x2), (3, .int x3)] := hl
  unfold D_X10_changesFeeder at hD
  refine lv_aload_n hx hb dX10_changesFeeder_0 rfl (lv_at hl 0 rfl) ?_
  refine lv_iload_n hx hb dX10_changesFeeder_1 rfl (lv_at hl 1 rfl) ?_
  refine lv_iload_n hx hb dX10_changesFeeder_2 rfl (lv_at hl 2 rfl) ?_
  obtain ⟨v1, z2, hD⟩ := b1_el hD
  refine rcV  (As := [.int x1, .int x2]) (rest := []) Fx0 (c_X10_ofFeeder l hLx hAd x x1 x2 z2) hP (hD1 _ (hAd _ _)) hS (hA1 _ _ (hAd _ _) hS.1) hLx (Nat.le_of_ble_eq_true rfl) (xs0 _ _) rfl tw_7_222 tw_7_219 tw_7_221 ts_113 tw_1_13 yd_X10_ofFeeder ⟨(Nat.le_of_ble_eq_true rfl), (Nat.le_of_ble_eq_true rfl)⟩ rfl hl.1 rfl (Nat.le_of_ble_eq_true rfl) dX10_changesFeeder_3 (fun H locs hP hS => ?_)
  refine lv_istore (lv' := [(4, .int v1), (0, .ref (adx 0)), (1, .int x1), (2, .int x2), (3, .int x3)]) hx hb dX10_changesFeeder_6 hl (by decide) rfl (fun ls hl => ?_)
  refine lv_aload_n hx hb dX10_changesFeeder_8 rfl (lv_at hl 1 rfl) ?_
  refine lv_iload_n hx hb dX10_changesFeeder_9 rfl (lv_at hl 2 rfl) ?_
  refine lv_iload_n hx hb dX10_changesFeeder_10 rfl (lv_at hl 3 rfl) ?_
  refine lv_iload_n hx hb dX10_changesFeeder_11 rfl (lv_at hl 4 rfl) ?_
  obtain ⟨m3, z4, hD⟩ := b1_el hD
  refine rcV  (As := [.int x1, .int x2, .int x3]) (rest := []) Fx0 (c_X10_putFeeder l hLx hAd x x1 x2 x3 z4) hP (hD1 _ (hAd _ _)) hS (hA1 _ _ (hAd _ _) hS.1) hLx (Nat.le_of_ble_eq_true rfl) (xs0 _ _) rfl tw_7_231 tw_7_228 tw_7_230 ts_114 tw_1_13 yd_X10_putFeeder ⟨(Nat.le_of_ble_eq_true rfl), (Nat.le_of_ble_eq_true rfl)⟩ rfl hl.1 rfl (Nat.le_of_ble_eq_true rfl) dX10_changesFeeder_12 (fun H locs hP hS => ?_)
  refine lv_iload hx hb dX10_changesFeeder_15 (lv_at hl 0 rfl) ?_
  obtain ⟨rfl, rfl⟩ := es2 hD
  exact hret _ _ _ hP hS (fun Qc hq => W.iret hx hb hr hq hS.2.2 dX10_changesFeeder_17 hlocks)

noncomputable def D_X10_setMiss (x1 : Int32) (x2 : Int32) (x : MM) : Option (Int32 × MM) := b2 (D_X10_noFeeder x1 x) (fun v1 m2 => if v1 = 0 then (b1 (D_X10_in x2.toInt64 (0 : Int64) (100 : Int64)) (fun v4 => if v4 = 0 then (b2 (D_X10_throwsIf (1 : Int32) (2 : Int32) m2) (fun v12 m13 => if v12 = 0 then (b2 (D_X10_changesFeeder x1 (3 : Int32) x2 m13) (fun v15 m16 => some (v15, m16))) else (some ((0 : Int32), m13)))) else (b2 (D_X10_throwsIf (0 : Int32) (2 : Int32) m2) (fun v6 m7 => if v6 = 0 then (b2 (D_X10_changesFeeder x1 (3 : Int32) x2 m7) (fun v9 m10 => some (v9, m10))) else (some ((0 : Int32), m7)))))) else (some ((0 : Int32), m2)))
set_option maxHeartbeats 4000000 in
set_option maxRecDepth 100000 in
theorem c_X10_setMiss (l : Launch) {D : va_G} {cs : Nat → ClassId} {adx : Nat → Nat} {Wf : MM → va_W} (hLx : Ln 9 adx (xsh cs adx) Wf) (hAd : ∀ a0_ b0_ : MM, (Wf a0_).map (fun q => q.1) = (Wf b0_).map (fun q => q.1)) (x : MM) (x1 : Int32) (x2 : Int32) {rr : Int32} {x' : MM} (hD : D_X10_setMiss x1 x2 x = some (rr, x')) : Ct l yX10_setMiss cX10_setMiss 3 (some .int) 3 67 D cs [.ref (adx 0), .int x1, .int x2] (Wf x) (Wf x') (some (.int rr)) := by
  refine Ct.ofW (by decide) (Nat.le_of_ble_eq_true rfl) (hAd _ _) ?_
  intro p e s m0 below meth c A Q ls args hx hb hr hml hlocks hown hts hK hP hD1 hSS hS hA1 hl hret
  have hT : ∀ w ∈ TBL, w.before args s = true := fun w h => hts w (List.mem_cons_of_mem _ h)
  have Fx0 : Fx p l m0 c cX10_setMiss 3 s args yX10_setMiss cX10_setMiss 3 (some .int) D cs A := ⟨hx, hb, hml, hown, hts, hK, hSS⟩
  have hown : s.vm.findClass RX10 = some m0.cls := hown
  have hl : lv_has ls 3 [(0, .ref (adx 0)), (1, .int x1), (2, .int x2)] := hl
  unfold D_X10_setMiss at hD
  refine lv_aload_n hx hb dX10_setMiss_0 rfl (lv_at hl 0 rfl) ?_
  refine lv_iload_n hx hb dX10_setMiss_1 rfl (lv_at hl 1 rfl) ?_
  obtain ⟨v1, m2, z3, hD⟩ := b2_el hD
  refine rcV  (As := [.int x1]) (rest := []) Fx0 (c_X10_noFeeder l hLx hAd x x1 z3) hP (hD1 _ (hAd _ _)) hS (hA1 _ _ (hAd _ _) hS.1) hLx (Nat.le_of_ble_eq_true rfl) (xs0 _ _) rfl tw_7_214 tw_7_211 tw_7_213 ts_111 tw_1_13 yd_X10_noFeeder ⟨(Nat.le_of_ble_eq_true rfl), (Nat.le_of_ble_eq_true rfl)⟩ rfl hl.1 rfl (Nat.le_of_ble_eq_true rfl) dX10_setMiss_2 (fun H locs hP hS => ?_)
  refine lv_if_ne (tgt := 33) hx hb dX10_setMiss_5 (by decide) (fun c => ?_) (fun c => ?_)
  · have hD := ifn hD c
    refine lv_iconst (v := (0 : Int32)) hx hb dX10_setMiss_33 (by decide) ?_
    refine lv_goto (tgt := 44) hx hb dX10_setMiss_34 (by decide) ?_
    obtain ⟨rfl, rfl⟩ := es2 hD
    exact hret _ _ _ hP hS (fun Qc hq => W.iret hx hb hr hq hS.2.2 dX10_setMiss_44 hlocks)
  · have hD := ifp hD c
    refine lv_aload_n hx hb dX10_setMiss_8 rfl (lv_at hl 0 rfl) ?_
    refine lv_iload_n hx hb dX10_setMiss_9 rfl (lv_at hl 2 rfl) ?_
    refine lv_i2l (v := x2.toInt64) hx hb dX10_setMiss_10 rfl ?_
    refine lv_lconst (v := (0 : Int64)) hx hb dX10_setMiss_11 (by decide) ?_
    refine lv_ldc2 (v := (100 : Int64)) hx hb hown (Fx0.T tw_8_8) dX10_setMiss_12 ?_
    obtain ⟨v4, z5, hD⟩ := b1_el hD
    refine rcS (As := [.long x2.toInt64, .long (0 : Int64), .long (100 : Int64)]) (rest := [.ref (adx 0)]) Fx0 (c_X10_in l x2.toInt64 (0 : Int64) (100 : Int64) z5) hP (hD1 _ (hAd _ _)) hS (hA1 _ _ (hAd _ _) hS.1) tw_7_69 tw_7_67 tw_7_68 tw_1_13 yd_X10_in ⟨(Nat.le_of_ble_eq_true rfl), (Nat.le_of_ble_eq_true rfl)⟩ rfl hl.1 rfl (Nat.le_of_ble_eq_true rfl) dX10_setMiss_15 (fun H locs hP hS => ?_)
    refine lv_if_ne (tgt := 25) hx hb dX10_setMiss_18 (by decide) (fun c => ?_) (fun c => ?_)
    · have hD := ifn hD c
      refine lv_iconst (v := (0 : Int32)) hx hb dX10_setMiss_25 (by decide) ?_
      refine lv_iconst (v := (2 : Int32)) hx hb dX10_setMiss_26 (by decide) ?_
      obtain ⟨v6, m7, z8, hD⟩ := b2_el hD
      refine rcV  (As := [.int (0 : Int32), .int (2 : Int32)]) (rest := []) Fx0 (c_X10_throwsIf l hLx hAd m2 (0 : Int32) (2 : Int32) z8) hP (hD1 _ (hAd _ _)) hS (hA1 _ _ (hAd _ _) hS.1) hLx (Nat.le_of_ble_eq_true rfl) (xs0 _ _) rfl tw_7_163 tw_7_160 tw_7_162 ts_105 tw_1_13 yd_X10_throwsIf ⟨(Nat.le_of_ble_eq_true rfl), (Nat.le_of_ble_eq_true rfl)⟩ rfl hl.1 rfl (Nat.le_of_ble_eq_true rfl) dX10_setMiss_27 (fun H locs hP hS => ?_)
      refine lv_if_eq (tgt := 37) hx hb dX10_setMiss_30 (by decide) (fun c => ?_) (fun c => ?_)
      · have hD := ifp hD c
        refine lv_aload_n hx hb dX10_setMiss_37 rfl (lv_at hl 0 rfl) ?_
        refine lv_iload_n hx hb dX10_setMiss_38 rfl (lv_at hl 1 rfl) ?_
        refine lv_iconst (v := (3 : Int32)) hx hb dX10_setMiss_39 (by decide) ?_
        refine lv_iload_n hx hb dX10_setMiss_40 rfl (lv_at hl 2 rfl) ?_
        obtain ⟨v9, m10, z11, hD⟩ := b2_el hD
        refine rcV  (As := [.int x1, .int (3 : Int32), .int x2]) (rest := []) Fx0 (c_X10_changesFeeder l hLx hAd m7 x1 (3 : Int32) x2 z11) hP (hD1 _ (hAd _ _)) hS (hA1 _ _ (hAd _ _) hS.1) hLx (Nat.le_of_ble_eq_true rfl) (xs0 _ _) rfl tw_8_12 tw_8_9 tw_8_11 ts_117 tw_1_13 yd_X10_changesFeeder ⟨(Nat.le_of_ble_eq_true rfl), (Nat.le_of_ble_eq_true rfl)⟩ rfl hl.1 rfl (Nat.le_of_ble_eq_true rfl) dX10_setMiss_41 (fun H locs hP hS => ?_)
        obtain ⟨rfl, rfl⟩ := es2 hD
        exact hret _ _ _ hP hS (fun Qc hq => W.iret hx hb hr hq hS.2.2 dX10_setMiss_44 hlocks)
      · have hD := ifn hD c
        refine lv_iconst (v := (0 : Int32)) hx hb dX10_setMiss_33 (by decide) ?_
        refine lv_goto (tgt := 44) hx hb dX10_setMiss_34 (by decide) ?_
        obtain ⟨rfl, rfl⟩ := es2 hD
        exact hret _ _ _ hP hS (fun Qc hq => W.iret hx hb hr hq hS.2.2 dX10_setMiss_44 hlocks)
    · have hD := ifp hD c
      refine lv_iconst (v := (1 : Int32)) hx hb dX10_setMiss_21 (by decide) ?_
      refine lv_goto (tgt := 26) hx hb dX10_setMiss_22 (by decide) ?_
      refine lv_iconst (v := (2 : Int32)) hx hb dX10_setMiss_26 (by decide) ?_
      obtain ⟨v12, m13, z14, hD⟩ := b2_el hD
      refine rcV  (As := [.int (1 : Int32), .int (2 : Int32)]) (rest := []) Fx0 (c_X10_throwsIf l hLx hAd m2 (1 : Int32) (2 : Int32) z14) hP (hD1 _ (hAd _ _)) hS (hA1 _ _ (hAd _ _) hS.1) hLx (Nat.le_of_ble_eq_true rfl) (xs0 _ _) rfl tw_7_163 tw_7_160 tw_7_162 ts_105 tw_1_13 yd_X10_throwsIf ⟨(Nat.le_of_ble_eq_true rfl), (Nat.le_of_ble_eq_true rfl)⟩ rfl hl.1 rfl (Nat.le_of_ble_eq_true rfl) dX10_setMiss_27 (fun H locs hP hS => ?_)
      refine lv_if_eq (tgt := 37) hx hb dX10_setMiss_30 (by decide) (fun c => ?_) (fun c => ?_)
      · have hD := ifp hD c
        refine lv_aload_n hx hb dX10_setMiss_37 rfl (lv_at hl 0 rfl) ?_
        refine lv_iload_n hx hb dX10_setMiss_38 rfl (lv_at hl 1 rfl) ?_
        refine lv_iconst (v := (3 : Int32)) hx hb dX10_setMiss_39 (by decide) ?_
        refine lv_iload_n hx hb dX10_setMiss_40 rfl (lv_at hl 2 rfl) ?_
        obtain ⟨v15, m16, z17, hD⟩ := b2_el hD
        refine rcV  (As := [.int x1, .int (3 : Int32), .int x2]) (rest := []) Fx0 (c_X10_changesFeeder l hLx hAd m13 x1 (3 : Int32) x2 z17) hP (hD1 _ (hAd _ _)) hS (hA1 _ _ (hAd _ _) hS.1) hLx (Nat.le_of_ble_eq_true rfl) (xs0 _ _) rfl tw_8_12 tw_8_9 tw_8_11 ts_117 tw_1_13 yd_X10_changesFeeder ⟨(Nat.le_of_ble_eq_true rfl), (Nat.le_of_ble_eq_true rfl)⟩ rfl hl.1 rfl (Nat.le_of_ble_eq_true rfl) dX10_setMiss_41 (fun H locs hP hS => ?_)
        obtain ⟨rfl, rfl⟩ := es2 hD
        exact hret _ _ _ hP hS (fun Qc hq => W.iret hx hb hr hq hS.2.2 dX10_setMiss_44 hlocks)
      · have hD := ifn hD c
        refine lv_iconst (v := (0 : Int32)) hx hb dX10_setMiss_33 (by decide) ?_
        refine lv_goto (tgt := 44) hx hb dX10_setMiss_34 (by decide) ?_
        obtain ⟨rfl, rfl⟩ := es2 hD
        exact hret _ _ _ hP hS (fun Qc hq => W.iret hx hb hr hq hS.2.2 dX10_setMiss_44 hlocks)

noncomputable def D_X10_moveFeeder (x1 : Int32) (x2 : Int32) (x : MM) : Option (Int32 × MM) := b2 (D_X10_noFeeder x1 x) (fun v1 m2 => if v1 = 0 then (b1 (D_X10_in x2.toInt64 (0 : Int64) (999 : Int64)) (fun v4 => if v4 = 0 then (b2 (D_X10_throwsIf (1 : Int32) (2 : Int32) m2) (fun v12 m13 => if v12 = 0 then (b2 (D_X10_changesFeeder x1 (1 : Int32) x2 m13) (fun v15 m16 => some (v15, m16))) else (some ((0 : Int32), m13)))) else (b2 (D_X10_throwsIf (0 : Int32) (2 : Int32) m2) (fun v6 m7 => if v6 = 0 then (b2 (D_X10_changesFeeder x1 (1 : Int32) x2 m7) (fun v9 m10 => some (v9, m10))) else (some ((0 : Int32), m7)))))) else (some ((0 : Int32), m2)))
set_option maxHeartbeats 4000000 in
set_option maxRecDepth 100000 in
theorem c_X10_moveFeeder (l : Launch) {D : va_G} {cs : Nat → ClassId} {adx : Nat → Nat} {Wf : MM → va_W} (hLx : Ln 9 adx (xsh cs adx) Wf) (hAd : ∀ a0_ b0_ : MM, (Wf a0_).map (fun q => q.1) = (Wf b0_).map (fun q => q.1)) (x : MM) (x1 : Int32) (x2 : Int32) {rr : Int32} {x' : MM} (hD : D_X10_moveFeeder x1 x2 x = some (rr, x')) : Ct l yX10_moveFeeder cX10_moveFeeder 3 (some .int) 3 67 D cs [.ref (adx 0), .int x1, .int x2] (Wf x) (Wf x') (some (.int rr)) := by
  refine Ct.ofW (by decide) (Nat.le_of_ble_eq_true rfl) (hAd _ _) ?_
  intro p e s m0 below meth c A Q ls args hx hb hr hml hlocks hown hts hK hP hD1 hSS hS hA1 hl hret
  have hT : ∀ w ∈ TBL, w.before args s = true := fun w h => hts w (List.mem_cons_of_mem _ h)
  have Fx0 : Fx p l m0 c cX10_moveFeeder 3 s args yX10_moveFeeder cX10_moveFeeder 3 (some .int) D cs A := ⟨hx, hb, hml, hown, hts, hK, hSS⟩
  have hown : s.vm.findClass RX10 = some m0.cls := hown
  have hl : lv_has ls 3 [(0, .ref (adx 0)), (1, .int x1), (2, .int x2)] := hl
  unfold D_X10_moveFeeder at hD
  refine lv_aload_n hx hb dX10_moveFeeder_0 rfl (lv_at hl 0 rfl) ?_
  refine lv_iload_n hx hb dX10_moveFeeder_1 rfl (lv_at hl 1 rfl) ?_
  obtain ⟨v1, m2, z3, hD⟩ := b2_el hD
  refine rcV  (As := [.int x1]) (rest := []) Fx0 (c_X10_noFeeder l hLx hAd x x1 z3) hP (hD1 _ (hAd _ _)) hS (hA1 _ _ (hAd _ _) hS.1) hLx (Nat.le_of_ble_eq_true rfl) (xs0 _ _) rfl tw_7_214 tw_7_211 tw_7_213 ts_111 tw_1_13 yd_X10_noFeeder ⟨(Nat.le_of_ble_eq_true rfl), (Nat.le_of_ble_eq_true rfl)⟩ rfl hl.1 rfl (Nat.le_of_ble_eq_true rfl) dX10_moveFeeder_2 (fun H locs hP hS => ?_)
  refine lv_if_ne (tgt := 33) hx hb dX10_moveFeeder_5 (by decide) (fun c => ?_) (fun c => ?_)
  · have hD := ifn hD c
    refine lv_iconst (v := (0 : Int32)) hx hb dX10_moveFeeder_33 (by decide) ?_
    refine lv_goto (tgt := 44) hx hb dX10_moveFeeder_34 (by decide) ?_
    obtain ⟨rfl, rfl⟩ := es2 hD
    exact hret _ _ _ hP hS (fun Qc hq => W.iret hx hb hr hq hS.2.2 dX10_moveFeeder_44 hlocks)
  · have hD := ifp hD c
    refine lv_aload_n hx hb dX10_moveFeeder_8 rfl (lv_at hl 0 rfl) ?_
    refine lv_iload_n hx hb dX10_moveFeeder_9 rfl (lv_at hl 2 rfl) ?_
    refine lv_i2l (v := x2.toInt64) hx hb dX10_moveFeeder_10 rfl ?_
    refine lv_lconst (v := (0 : Int64)) hx hb dX10_moveFeeder_11 (by decide) ?_
    refine lv_ldc2 (v := (999 : Int64)) hx hb hown (Fx0.T tw_8_17) dX10_moveFeeder_12 ?_
    obtain ⟨v4, z5, hD⟩ := b1_el hD
    refine rcS (As := [.long x2.toInt64, .long (0 : Int64), .long (999 : Int64)]) (rest := [.ref (adx 0)]) Fx0 (c_X10_in l x2.toInt64 (0 : Int64) (999 : Int64) z5) hP (hD1 _ (hAd _ _)) hS (hA1 _ _ (hAd _ _) hS.1) tw_7_69 tw_7_67 tw_7_68 tw_1_13 yd_X10_in ⟨(Nat.le_of_ble_eq_true rfl), (Nat.le_of_ble_eq_true rfl)⟩ rfl hl.1 rfl (Nat.le_of_ble_eq_true rfl) dX10_moveFeeder_15 (fun H locs hP hS => ?_)
    refine lv_if_ne (tgt := 25) hx hb dX10_moveFeeder_18 (by decide) (fun c => ?_) (fun c => ?_)
    · have hD := ifn hD c
      refine lv_iconst (v := (0 : Int32)) hx hb dX10_moveFeeder_25 (by decide) ?_
      refine lv_iconst (v := (2 : Int32)) hx hb dX10_moveFeeder_26 (by decide) ?_
      obtain ⟨v6, m7, z8, hD⟩ := b2_el hD
      refine rcV  (As := [.int (0 : Int32), .int (2 : Int32)]) (rest := []) Fx0 (c_X10_throwsIf l hLx hAd m2 (0 : Int32) (2 : Int32) z8) hP (hD1 _ (hAd _ _)) hS (hA1 _ _ (hAd _ _) hS.1) hLx (Nat.le_of_ble_eq_true rfl) (xs0 _ _) rfl tw_7_163 tw_7_160 tw_7_162 ts_105 tw_1_13 yd_X10_throwsIf ⟨(Nat.le_of_ble_eq_true rfl), (Nat.le_of_ble_eq_true rfl)⟩ rfl hl.1 rfl (Nat.le_of_ble_eq_true rfl) dX10_moveFeeder_27 (fun H locs hP hS => ?_)
      refine lv_if_eq (tgt := 37) hx hb dX10_moveFeeder_30 (by decide) (fun c => ?_) (fun c => ?_)
      · have hD := ifp hD c
        refine lv_aload_n hx hb dX10_moveFeeder_37 rfl (lv_at hl 0 rfl) ?_
        refine lv_iload_n hx hb dX10_moveFeeder_38 rfl (lv_at hl 1 rfl) ?_
        refine lv_iconst (v := (1 : Int32)) hx hb dX10_moveFeeder_39 (by decide) ?_
        refine lv_iload_n hx hb dX10_moveFeeder_40 rfl (lv_at hl 2 rfl) ?_
        obtain ⟨v9, m10, z11, hD⟩ := b2_el hD
        refine rcV  (As := [.int x1, .int (1 : Int32), .int x2]) (rest := []) Fx0 (c_X10_changesFeeder l hLx hAd m7 x1 (1 : Int32) x2 z11) hP (hD1 _ (hAd _ _)) hS (hA1 _ _ (hAd _ _) hS.1) hLx (Nat.le_of_ble_eq_true rfl) (xs0 _ _) rfl tw_8_12 tw_8_9 tw_8_11 ts_117 tw_1_13 yd_X10_changesFeeder ⟨(Nat.le_of_ble_eq_true rfl), (Nat.le_of_ble_eq_true rfl)⟩ rfl hl.1 rfl (Nat.le_of_ble_eq_true rfl) dX10_moveFeeder_41 (fun H locs hP hS => ?_)
        obtain ⟨rfl, rfl⟩ := es2 hD
        exact hret _ _ _ hP hS (fun Qc hq => W.iret hx hb hr hq hS.2.2 dX10_moveFeeder_44 hlocks)
      · have hD := ifn hD c
        refine lv_iconst (v := (0 : Int32)) hx hb dX10_moveFeeder_33 (by decide) ?_
        refine lv_goto (tgt := 44) hx hb dX10_moveFeeder_34 (by decide) ?_
        obtain ⟨rfl, rfl⟩ := es2 hD
        exact hret _ _ _ hP hS (fun Qc hq => W.iret hx hb hr hq hS.2.2 dX10_moveFeeder_44 hlocks)
    · have hD := ifp hD c
      refine lv_iconst (v := (1 : Int32)) hx hb dX10_moveFeeder_21 (by decide) ?_
      refine lv_goto (tgt := 26) hx hb dX10_moveFeeder_22 (by decide) ?_
      refine lv_iconst (v := (2 : Int32)) hx hb dX10_moveFeeder_26 (by decide) ?_
      obtain ⟨v12, m13, z14, hD⟩ := b2_el hD
      refine rcV  (As := [.int (1 : Int32), .int (2 : Int32)]) (rest := []) Fx0 (c_X10_throwsIf l hLx hAd m2 (1 : Int32) (2 : Int32) z14) hP (hD1 _ (hAd _ _)) hS (hA1 _ _ (hAd _ _) hS.1) hLx (Nat.le_of_ble_eq_true rfl) (xs0 _ _) rfl tw_7_163 tw_7_160 tw_7_162 ts_105 tw_1_13 yd_X10_throwsIf ⟨(Nat.le_of_ble_eq_true rfl), (Nat.le_of_ble_eq_true rfl)⟩ rfl hl.1 rfl (Nat.le_of_ble_eq_true rfl) dX10_moveFeeder_27 (fun H locs hP hS => ?_)
      refine lv_if_eq (tgt := 37) hx hb dX10_moveFeeder_30 (by decide) (fun c => ?_) (fun c => ?_)
      · have hD := ifp hD c
        refine lv_aload_n hx hb dX10_moveFeeder_37 rfl (lv_at hl 0 rfl) ?_
        refine lv_iload_n hx hb dX10_moveFeeder_38 rfl (lv_at hl 1 rfl) ?_
        refine lv_iconst (v := (1 : Int32)) hx hb dX10_moveFeeder_39 (by decide) ?_
        refine lv_iload_n hx hb dX10_moveFeeder_40 rfl (lv_at hl 2 rfl) ?_
        obtain ⟨v15, m16, z17, hD⟩ := b2_el hD
        refine rcV  (As := [.int x1, .int (1 : Int32), .int x2]) (rest := []) Fx0 (c_X10_changesFeeder l hLx hAd m13 x1 (1 : Int32) x2 z17) hP (hD1 _ (hAd _ _)) hS (hA1 _ _ (hAd _ _) hS.1) hLx (Nat.le_of_ble_eq_true rfl) (xs0 _ _) rfl tw_8_12 tw_8_9 tw_8_11 ts_117 tw_1_13 yd_X10_changesFeeder ⟨(Nat.le_of_ble_eq_true rfl), (Nat.le_of_ble_eq_true rfl)⟩ rfl hl.1 rfl (Nat.le_of_ble_eq_true rfl) dX10_moveFeeder_41 (fun H locs hP hS => ?_)
        obtain ⟨rfl, rfl⟩ := es2 hD
        exact hret _ _ _ hP hS (fun Qc hq => W.iret hx hb hr hq hS.2.2 dX10_moveFeeder_44 hlocks)
      · have hD := ifn hD c
        refine lv_iconst (v := (0 : Int32)) hx hb dX10_moveFeeder_33 (by decide) ?_
        refine lv_goto (tgt := 44) hx hb dX10_moveFeeder_34 (by decide) ?_
        obtain ⟨rfl, rfl⟩ := es2 hD
        exact hret _ _ _ hP hS (fun Qc hq => W.iret hx hb hr hq hS.2.2 dX10_moveFeeder_44 hlocks)

noncomputable def D_X10_nearest_7 (x : MM) : Nat → Int32 → Int32 → Int32 → Int32 → Option Int32
  | 0, _, _, _, _ => none
  | n + 1, x1, x2, x3, x4 => if (gi x 1 18) ≤ x4 then (some (x2)) else (b1 (D_X10_ofFeeder x4 (1 : Int32) x) (fun v1 => bnd (if 0 ≤ (v1 - (gi x 1 21)) then (v1 - (gi x 1 21)) else 0 - (v1 - (gi x 1 21))) (fun v3 => b1 (D_X10_ofFeeder x4 (0 : Int32) x) (fun v4 => if v4 = x1 then (b1 (D_X10_ofFeeder x4 (2 : Int32) x) (fun v7 => if v7 = 0 then (bnd (x4 + (1 : Int32)) (fun v9 => D_X10_nearest_7 x n x1 x2 x3 v9)) else (if x2 = (-1 : Int32) then (bnd (x4 + (1 : Int32)) (fun v10 => D_X10_nearest_7 x n x1 x4 v3 v10)) else (if v3 < x3 then (bnd (x4 + (1 : Int32)) (fun v11 => D_X10_nearest_7 x n x1 x4 v3 v11)) else (bnd (x4 + (1 : Int32)) (fun v12 => D_X10_nearest_7 x n x1 x2 x3 v12)))))) else (bnd (x4 + (1 : Int32)) (fun v6 => D_X10_nearest_7 x n x1 x2 x3 v6))))))
noncomputable def D_X10_nearest (x1 : Int32) (x : MM) : Option Int32 := D_X10_nearest_7 x FU x1 (-1 : Int32) (0 : Int32) (0 : Int32)
set_option maxHeartbeats 4000000 in
set_option maxRecDepth 100000 in
theorem c_X10_nearest (l : Launch) {D : va_G} {cs : Nat → ClassId} {adx : Nat → Nat} {Wf : MM → va_W} (hLx : Ln 9 adx (xsh cs adx) Wf) (hAd : ∀ a0_ b0_ : MM, (Wf a0_).map (fun q => q.1) = (Wf b0_).map (fun q => q.1)) (x : MM) (x1 : Int32) {rr : Int32} (hD : D_X10_nearest x1 x = some (rr)) : Ct l yX10_nearest cX10_nearest 6 (some .int) 1 24 D cs [.ref (adx 0), .int x1] (Wf x) (Wf x) (some (.int rr)) := by
  refine Ct.ofW (by decide) (Nat.le_of_ble_eq_true rfl) rfl ?_
  intro p e s m0 below meth c A Q ls args hx hb hr hml hlocks hown hts hK hP hD1 hSS hS hA1 hl hret
  have hT : ∀ w ∈ TBL, w.before args s = true := fun w h => hts w (List.mem_cons_of_mem _ h)
  have Fx0 : Fx p l m0 c cX10_nearest 6 s args yX10_nearest cX10_nearest 6 (some .int) D cs A := ⟨hx, hb, hml, hown, hts, hK, hSS⟩
  have hown : s.vm.findClass RX10 = some m0.cls := hown
  have hl : lv_has ls 6 [(0, .ref (adx 0)), (1, .int x1)] := hl
  unfold D_X10_nearest at hD
  have c_7 : ∀ (n : Nat), ∀ (x1 : Int32) (x2 : Int32) (x3 : Int32) (x4 : Int32) (H : Heap) (locs : List Loc) (ls : Array Slot), D_X10_nearest_7 x n x1 x2 x3 x4 = some (rr) → va_P D vwCl (Wf x) H → va_S A s.heap H locs → lv_has ls 6 [(0, .ref (adx 0)), (1, .int x1), (2, .int x2), (3, .int x3), (4, .int x4)] → W p l e ({ frames := 1, cells := 0, slots := 0, locals := 24 } : Room) s m0 args below meth c H locs 0 0 Q (F0 m0 7 ls []) := by
    intro n
    induction n with
    | zero =>
      intro x1 x2 x3 x4 H locs ls hD hP hS hl
      exact nn_el hD
    | succ n ih =>
      intro x1 x2 x3 x4 H locs ls hD hP hS hl
      rw [D_X10_nearest_7] at hD
      refine lv_iload hx hb dX10_nearest_7 (lv_at hl 4 rfl) ?_
      refine lv_aload_n hx hb dX10_nearest_9 rfl (lv_at hl 0 rfl) ?_
      refine rg  hx hb hT hu10 hown hK hP hLx 0 0 (Nat.le_of_ble_eq_true rfl) (xs0 _ _) rfl (Nat.le_of_ble_eq_true rfl) (Fx0.T tw_6_215) rfl (v := .ref (adx 1)) rfl dX10_nearest_10 ?_
      refine lv_bipush (v := (18 : Int32)) hx hb dX10_nearest_13 (by decide) ?_
      refine riald  hx hb hK hP hLx 1 (Nat.le_of_ble_eq_true rfl) (xs1 _ _) (by decide) (j := 18) (by decide) dX10_nearest_15 ?_
      refine lv_icmp_ge (tgt := 86) hx hb dX10_nearest_16 (by decide) (fun c => ?_) (fun c => ?_)
      · have hD := ifp hD c
        refine lv_iload_n hx hb dX10_nearest_86 rfl (lv_at hl 2 rfl) ?_
        obtain rfl := es1 hD
        exact hret _ _ _ hP hS (fun Qc hq => W.iret hx hb hr hq hS.2.2 dX10_nearest_87 hlocks)
      · have hD := ifn hD c
        refine lv_aload_n hx hb dX10_nearest_19 rfl (lv_at hl 0 rfl) ?_
        refine lv_iload hx hb dX10_nearest_20 (lv_at hl 4 rfl) ?_
        refine lv_iconst (v := (1 : Int32)) hx hb dX10_nearest_22 (by decide) ?_
        obtain ⟨v1, z2, hD⟩ := b1_el hD
        refine rcV  (As := [.int x4, .int (1 : Int32)]) (rest := []) Fx0 (c_X10_ofFeeder l hLx hAd x x4 (1 : Int32) z2) hP (hD1 _ (hAd _ _)) hS (hA1 _ _ (hAd _ _) hS.1) hLx (Nat.le_of_ble_eq_true rfl) (xs0 _ _) rfl tw_7_222 tw_7_219 tw_7_221 ts_113 tw_1_13 yd_X10_ofFeeder ⟨(Nat.le_of_ble_eq_true rfl), (Nat.le_of_ble_eq_true rfl)⟩ rfl hl.1 rfl (Nat.le_of_ble_eq_true rfl) dX10_nearest_23 (fun H locs hP hS => ?_)
        refine lv_aload_n hx hb dX10_nearest_26 rfl (lv_at hl 0 rfl) ?_
        refine rg  hx hb hT hu10 hown hK hP hLx 0 0 (Nat.le_of_ble_eq_true rfl) (xs0 _ _) rfl (Nat.le_of_ble_eq_true rfl) (Fx0.T tw_6_215) rfl (v := .ref (adx 1)) rfl dX10_nearest_27 ?_
        refine lv_bipush (v := (21 : Int32)) hx hb dX10_nearest_30 (by decide) ?_
        refine riald  hx hb hK hP hLx 1 (Nat.le_of_ble_eq_true rfl) (xs1 _ _) (by decide) (j := 21) (by decide) dX10_nearest_32 ?_
        refine lv_isub hx hb dX10_nearest_33 ?_
        refine va_mabs hx hb (hml.trans hl.1.symm) hown (Fx0.T tw_8_26) (Fx0.T tw_4_75) (Fx0.T tw_1_14) (Fx0.T tw_4_76) (Nat.le_of_ble_eq_true rfl) (Nat.le_of_ble_eq_true rfl) (Nat.le_refl _) (Nat.le_refl _) dX10_nearest_34 ?_
        obtain ⟨v3, ev3, hD⟩ := bnd_el hD
        refine lv_nmi ev3 ?_
        refine lv_istore (lv' := [(5, .int v3), (0, .ref (adx 0)), (1, .int x1), (2, .int x2), (3, .int x3), (4, .int x4)]) hx hb dX10_nearest_37 hl (by decide) rfl (fun ls hl => ?_)
        refine lv_aload_n hx hb dX10_nearest_39 rfl (lv_at hl 1 rfl) ?_
        refine lv_iload hx hb dX10_nearest_40 (lv_at hl 5 rfl) ?_
        refine lv_iconst (v := (0 : Int32)) hx hb dX10_nearest_42 (by decide) ?_
        obtain ⟨v4, z5, hD⟩ := b1_el hD
        refine rcV  (As := [.int x4, .int (0 : Int32)]) (rest := []) Fx0 (c_X10_ofFeeder l hLx hAd x x4 (0 : Int32) z5) hP (hD1 _ (hAd _ _)) hS (hA1 _ _ (hAd _ _) hS.1) hLx (Nat.le_of_ble_eq_true rfl) (xs0 _ _) rfl tw_7_222 tw_7_219 tw_7_221 ts_113 tw_1_13 yd_X10_ofFeeder ⟨(Nat.le_of_ble_eq_true rfl), (Nat.le_of_ble_eq_true rfl)⟩ rfl hl.1 rfl (Nat.le_of_ble_eq_true rfl) dX10_nearest_43 (fun H locs hP hS => ?_)
        refine lv_iload_n hx hb dX10_nearest_46 rfl (lv_at hl 2 rfl) ?_
        refine lv_icmp_ne (tgt := 80) hx hb dX10_nearest_47 (by decide) (fun c => ?_) (fun c => ?_)
        · have hD := ifn hD c
          obtain ⟨v6, ev6, hD⟩ := bnd_el hD
          refine lv_iinc (v := v6) (lv' := [(4, .int v6), (5, .int v3), (0, .ref (adx 0)), (1, .int x1), (2, .int x2), (3, .int x3)]) hx hb dX10_nearest_80 hl (k := 5) rfl (by rw [ev6]; rfl) (by decide) rfl (fun ls hl => ?_)
          refine lv_goto (tgt := 7) hx hb dX10_nearest_83 (by decide) ?_
          exact ih _ _ _ _ _ _ _ hD hP hS (lv_sub hl [2, 3, 4, 5, 0] rfl)
        · have hD := ifp hD c
          refine lv_aload_n hx hb dX10_nearest_50 rfl (lv_at hl 1 rfl) ?_
          refine lv_iload hx hb dX10_nearest_51 (lv_at hl 5 rfl) ?_
          refine lv_iconst (v := (2 : Int32)) hx hb dX10_nearest_53 (by decide) ?_
          obtain ⟨v7, z8, hD⟩ := b1_el hD
          refine rcV  (As := [.int x4, .int (2 : Int32)]) (rest := []) Fx0 (c_X10_ofFeeder l hLx hAd x x4 (2 : Int32) z8) hP (hD1 _ (hAd _ _)) hS (hA1 _ _ (hAd _ _) hS.1) hLx (Nat.le_of_ble_eq_true rfl) (xs0 _ _) rfl tw_7_222 tw_7_219 tw_7_221 ts_113 tw_1_13 yd_X10_ofFeeder ⟨(Nat.le_of_ble_eq_true rfl), (Nat.le_of_ble_eq_true rfl)⟩ rfl hl.1 rfl (Nat.le_of_ble_eq_true rfl) dX10_nearest_54 (fun H locs hP hS => ?_)
          refine lv_if_eq (tgt := 80) hx hb dX10_nearest_57 (by decide) (fun c => ?_) (fun c => ?_)
          · have hD := ifp hD c
            obtain ⟨v9, ev9, hD⟩ := bnd_el hD
            refine lv_iinc (v := v9) (lv' := [(4, .int v9), (5, .int v3), (0, .ref (adx 0)), (1, .int x1), (2, .int x2), (3, .int x3)]) hx hb dX10_nearest_80 hl (k := 5) rfl (by rw [ev9]; rfl) (by decide) rfl (fun ls hl => ?_)
            refine lv_goto (tgt := 7) hx hb dX10_nearest_83 (by decide) ?_
            exact ih _ _ _ _ _ _ _ hD hP hS (lv_sub hl [2, 3, 4, 5, 0] rfl)
          · have hD := ifn hD c
            refine lv_iload_n hx hb dX10_nearest_60 rfl (lv_at hl 3 rfl) ?_
            refine lv_iconst (v := (-1 : Int32)) hx hb dX10_nearest_61 (by decide) ?_
            refine lv_icmp_eq (tgt := 74) hx hb dX10_nearest_62 (by decide) (fun c => ?_) (fun c => ?_)
            · have hD := ifp hD c
              refine lv_iload hx hb dX10_nearest_74 (lv_at hl 5 rfl) ?_
              refine lv_istore_n (lv' := [(2, .int x4), (5, .int v3), (0, .ref (adx 0)), (1, .int x1), (3, .int x3), (4, .int x4)]) hx hb dX10_nearest_76 rfl hl (by decide) rfl (fun ls hl => ?_)
              refine lv_iload hx hb dX10_nearest_77 (lv_at hl 1 rfl) ?_
              refine lv_istore_n (lv' := [(3, .int v3), (2, .int x4), (5, .int v3), (0, .ref (adx 0)), (1, .int x1), (4, .int x4)]) hx hb dX10_nearest_79 rfl hl (by decide) rfl (fun ls hl => ?_)
              obtain ⟨v10, ev10, hD⟩ := bnd_el hD
              refine lv_iinc (v := v10) (lv' := [(4, .int v10), (3, .int v3), (2, .int x4), (5, .int v3), (0, .ref (adx 0)), (1, .int x1)]) hx hb dX10_nearest_80 hl (k := 5) rfl (by rw [ev10]; rfl) (by decide) rfl (fun ls hl => ?_)
              refine lv_goto (tgt := 7) hx hb dX10_nearest_83 (by decide) ?_
              exact ih _ _ _ _ _ _ _ hD hP hS (lv_sub hl [4, 5, 2, 1, 0] rfl)
            · have hD := ifn hD c
              refine lv_iload hx hb dX10_nearest_65 (lv_at hl 0 rfl) ?_
              refine lv_iload_n hx hb dX10_nearest_67 rfl (lv_at hl 4 rfl) ?_
              refine lv_icmp_lt (tgt := 74) hx hb dX10_nearest_68 (by decide) (fun c => ?_) (fun c => ?_)
              · have hD := ifp hD c
                refine lv_iload hx hb dX10_nearest_74 (lv_at hl 5 rfl) ?_
                refine lv_istore_n (lv' := [(2, .int x4), (5, .int v3), (0, .ref (adx 0)), (1, .int x1), (3, .int x3), (4, .int x4)]) hx hb dX10_nearest_76 rfl hl (by decide) rfl (fun ls hl => ?_)
                refine lv_iload hx hb dX10_nearest_77 (lv_at hl 1 rfl) ?_
                refine lv_istore_n (lv' := [(3, .int v3), (2, .int x4), (5, .int v3), (0, .ref (adx 0)), (1, .int x1), (4, .int x4)]) hx hb dX10_nearest_79 rfl hl (by decide) rfl (fun ls hl => ?_)
                obtain ⟨v11, ev11, hD⟩ := bnd_el hD
                refine lv_iinc (v := v11) (lv' := [(4, .int v11), (3, .int v3), (2, .int x4), (5, .int v3), (0, .ref (adx 0)), (1, .int x1)]) hx hb dX10_nearest_80 hl (k := 5) rfl (by rw [ev11]; rfl) (by decide) rfl (fun ls hl => ?_)
                refine lv_goto (tgt := 7) hx hb dX10_nearest_83 (by decide) ?_
                exact ih _ _ _ _ _ _ _ hD hP hS (lv_sub hl [4, 5, 2, 1, 0] rfl)
              · have hD := ifn hD c
                refine lv_goto (tgt := 80) hx hb dX10_nearest_71 (by decide) ?_
                obtain ⟨v12, ev12, hD⟩ := bnd_el hD
                refine lv_iinc (v := v12) (lv' := [(4, .int v12), (5, .int v3), (0, .ref (adx 0)), (1, .int x1), (2, .int x2), (3, .int x3)]) hx hb dX10_nearest_80 hl (k := 5) rfl (by rw [ev12]; rfl) (by decide) rfl (fun ls hl => ?_)
                refine lv_goto (tgt := 7) hx hb dX10_nearest_83 (by decide) ?_
                exact ih _ _ _ _ _ _ _ hD hP hS (lv_sub hl [2, 3, 4, 5, 0] rfl)
  refine lv_iconst (v := (-1 : Int32)) hx hb dX10_nearest_0 (by decide) ?_
  refine lv_istore_n (lv' := [(2, .int (-1 : Int32)), (0, .ref (adx 0)), (1, .int x1)]) hx hb dX10_nearest_1 rfl hl (by decide) rfl (fun ls hl => ?_)
  refine lv_iconst (v := (0 : Int32)) hx hb dX10_nearest_2 (by decide) ?_
  refine lv_istore_n (lv' := [(3, .int (0 : Int32)), (2, .int (-1 : Int32)), (0, .ref (adx 0)), (1, .int x1)]) hx hb dX10_nearest_3 rfl hl (by decide) rfl (fun ls hl => ?_)
  refine lv_iconst (v := (0 : Int32)) hx hb dX10_nearest_4 (by decide) ?_
  refine lv_istore (lv' := [(4, .int (0 : Int32)), (3, .int (0 : Int32)), (2, .int (-1 : Int32)), (0, .ref (adx 0)), (1, .int x1)]) hx hb dX10_nearest_5 hl (by decide) rfl (fun ls hl => ?_)
  exact c_7 FU _ _ _ _ _ _ _ hD hP hS (lv_sub hl [3, 4, 2, 1, 0] rfl)

noncomputable def D_X10_nearestFeeder (x1 : Int32) (x : MM) : Option (Int32 × MM) := b2 (D_X10_noKind x1 x) (fun v1 m2 => if v1 = 0 then (b1 (D_X10_nearest x1 m2) (fun v4 => some (v4, m2))) else (some ((0 : Int32), m2)))
set_option maxHeartbeats 4000000 in
set_option maxRecDepth 100000 in
theorem c_X10_nearestFeeder (l : Launch) {D : va_G} {cs : Nat → ClassId} {adx : Nat → Nat} {Wf : MM → va_W} (hLx : Ln 9 adx (xsh cs adx) Wf) (hAd : ∀ a0_ b0_ : MM, (Wf a0_).map (fun q => q.1) = (Wf b0_).map (fun q => q.1)) (x : MM) (x1 : Int32) {rr : Int32} {x' : MM} (hD : D_X10_nearestFeeder x1 x = some (rr, x')) : Ct l yX10_nearestFeeder cX10_nearestFeeder 2 (some .int) 2 49 D cs [.ref (adx 0), .int x1] (Wf x) (Wf x') (some (.int rr)) := by
  refine Ct.ofW (by decide) (Nat.le_of_ble_eq_true rfl) (hAd _ _) ?_
  intro p e s m0 below meth c A Q ls args hx hb hr hml hlocks hown hts hK hP hD1 hSS hS hA1 hl hret
  have hT : ∀ w ∈ TBL, w.before args s = true := fun w h => hts w (List.mem_cons_of_mem _ h)
  have Fx0 : Fx p l m0 c cX10_nearestFeeder 2 s args yX10_nearestFeeder cX10_nearestFeeder 2 (some .int) D cs A := ⟨hx, hb, hml, hown, hts, hK, hSS⟩
  have hown : s.vm.findClass RX10 = some m0.cls := hown
  have hl : lv_has ls 2 [(0, .ref (adx 0)), (1, .int x1)] := hl
  unfold D_X10_nearestFeeder at hD
  refine lv_aload_n hx hb dX10_nearestFeeder_0 rfl (lv_at hl 0 rfl) ?_
  refine lv_iload_n hx hb dX10_nearestFeeder_1 rfl (lv_at hl 1 rfl) ?_
  obtain ⟨v1, m2, z3, hD⟩ := b2_el hD
  refine rcV  (As := [.int x1]) (rest := []) Fx0 (c_X10_noKind l hLx hAd x x1 z3) hP (hD1 _ (hAd _ _)) hS (hA1 _ _ (hAd _ _) hS.1) hLx (Nat.le_of_ble_eq_true rfl) (xs0 _ _) rfl tw_7_206 tw_7_203 tw_7_205 ts_110 tw_1_13 yd_X10_noKind ⟨(Nat.le_of_ble_eq_true rfl), (Nat.le_of_ble_eq_true rfl)⟩ rfl hl.1 rfl (Nat.le_of_ble_eq_true rfl) dX10_nearestFeeder_2 (fun H locs hP hS => ?_)
  refine lv_if_eq (tgt := 12) hx hb dX10_nearestFeeder_5 (by decide) (fun c => ?_) (fun c => ?_)
  · have hD := ifp hD c
    refine lv_aload_n hx hb dX10_nearestFeeder_12 rfl (lv_at hl 0 rfl) ?_
    refine lv_iload_n hx hb dX10_nearestFeeder_13 rfl (lv_at hl 1 rfl) ?_
    obtain ⟨v4, z5, hD⟩ := b1_el hD
    refine rcV  (As := [.int x1]) (rest := []) Fx0 (c_X10_nearest l hLx hAd m2 x1 z5) hP (hD1 _ (hAd _ _)) hS (hA1 _ _ (hAd _ _) hS.1) hLx (Nat.le_of_ble_eq_true rfl) (xs0 _ _) rfl tw_8_25 tw_8_22 tw_8_24 ts_118 tw_1_13 yd_X10_nearest ⟨(Nat.le_of_ble_eq_true rfl), (Nat.le_of_ble_eq_true rfl)⟩ rfl hl.1 rfl (Nat.le_of_ble_eq_true rfl) dX10_nearestFeeder_14 (fun H locs hP hS => ?_)
    obtain ⟨rfl, rfl⟩ := es2 hD
    exact hret _ _ _ hP hS (fun Qc hq => W.iret hx hb hr hq hS.2.2 dX10_nearestFeeder_17 hlocks)
  · have hD := ifn hD c
    refine lv_iconst (v := (0 : Int32)) hx hb dX10_nearestFeeder_8 (by decide) ?_
    refine lv_goto (tgt := 17) hx hb dX10_nearestFeeder_9 (by decide) ?_
    obtain ⟨rfl, rfl⟩ := es2 hD
    exact hret _ _ _ hP hS (fun Qc hq => W.iret hx hb hr hq hS.2.2 dX10_nearestFeeder_17 hlocks)

noncomputable def D_X10_ofSpot (x1 : Int32) (x2 : Int32) (x : MM) : Option Int32 := if (((240 : Int32) + ((6 : Int32) * x1)) + x2) < 0 ∨ 640 ≤ (((240 : Int32) + ((6 : Int32) * x1)) + x2).toNatClampNeg then none else (some ((gi x 1 ((((240 : Int32) + ((6 : Int32) * x1)) + x2).toNatClampNeg))))
set_option maxHeartbeats 4000000 in
set_option maxRecDepth 100000 in
theorem c_X10_ofSpot (l : Launch) {D : va_G} {cs : Nat → ClassId} {adx : Nat → Nat} {Wf : MM → va_W} (hLx : Ln 9 adx (xsh cs adx) Wf) (hAd : ∀ a0_ b0_ : MM, (Wf a0_).map (fun q => q.1) = (Wf b0_).map (fun q => q.1)) (x : MM) (x1 : Int32) (x2 : Int32) {rr : Int32} (hD : D_X10_ofSpot x1 x2 x = some (rr)) : Ct l yX10_ofSpot cX10_ofSpot 3 (some .int) 0 0 D cs [.ref (adx 0), .int x1, .int x2] (Wf x) (Wf x) (some (.int rr)) := by
  refine Ct.ofW (by decide) (Nat.le_of_ble_eq_true rfl) rfl ?_
  intro p e s m0 below meth c A Q ls args hx hb hr hml hlocks hown hts hK hP hD1 hSS hS hA1 hl hret
  have hT : ∀ w ∈ TBL, w.before args s = true := fun w h => hts w (List.mem_cons_of_mem _ h)
  have Fx0 : Fx p l m0 c cX10_ofSpot 3 s args yX10_ofSpot cX10_ofSpot 3 (some .int) D cs A := ⟨hx, hb, hml, hown, hts, hK, hSS⟩
  have hown : s.vm.findClass RX10 = some m0.cls := hown
  have hl : lv_has ls 3 [(0, .ref (adx 0)), (1, .int x1), (2, .int x2)] := hl
  unfold D_X10_ofSpot at hD
  refine lv_aload_n hx hb dX10_ofSpot_0 rfl (lv_at hl 0 rfl) ?_
  refine rg  hx hb hT hu10 hown hK hP hLx 0 0 (Nat.le_of_ble_eq_true rfl) (xs0 _ _) rfl (Nat.le_of_ble_eq_true rfl) (Fx0.T tw_6_215) rfl (v := .ref (adx 1)) rfl dX10_ofSpot_1 ?_
  refine lv_sipush (v := (240 : Int32)) hx hb dX10_ofSpot_4 (by decide) ?_
  refine lv_bipush (v := (6 : Int32)) hx hb dX10_ofSpot_7 (by decide) ?_
  refine lv_iload_n hx hb dX10_ofSpot_9 rfl (lv_at hl 1 rfl) ?_
  refine lv_imul hx hb dX10_ofSpot_10 ?_
  refine lv_iadd hx hb dX10_ofSpot_11 ?_
  refine lv_iload_n hx hb dX10_ofSpot_12 rfl (lv_at hl 2 rfl) ?_
  refine lv_iadd hx hb dX10_ofSpot_13 ?_
  obtain ⟨h1, hD⟩ := gd_el hD
  refine riald  hx hb hK hP hLx 1 (Nat.le_of_ble_eq_true rfl) (xs1 _ _) h1 rfl dX10_ofSpot_14 ?_
  obtain rfl := es1 hD
  exact hret _ _ _ hP hS (fun Qc hq => W.iret hx hb hr hq hS.2.2 dX10_ofSpot_15 hlocks)

noncomputable def D_X10_putSpot (x1 : Int32) (x2 : Int32) (x3 : Int32) (x : MM) : Option MM := if (((240 : Int32) + ((6 : Int32) * x1)) + x2) < 0 ∨ 640 ≤ (((240 : Int32) + ((6 : Int32) * x1)) + x2).toNatClampNeg then none else (bnd (si x 1 ((((240 : Int32) + ((6 : Int32) * x1)) + x2).toNatClampNeg) x3) (fun m2 => some (m2)))
set_option maxHeartbeats 4000000 in
set_option maxRecDepth 100000 in
theorem c_X10_putSpot (l : Launch) {D : va_G} {cs : Nat → ClassId} {adx : Nat → Nat} {Wf : MM → va_W} (hLx : Ln 9 adx (xsh cs adx) Wf) (hAd : ∀ a0_ b0_ : MM, (Wf a0_).map (fun q => q.1) = (Wf b0_).map (fun q => q.1)) (x : MM) (x1 : Int32) (x2 : Int32) (x3 : Int32) {x' : MM} (hD : D_X10_putSpot x1 x2 x3 x = some (x')) : Ct l yX10_putSpot cX10_putSpot 4 none 0 0 D cs [.ref (adx 0), .int x1, .int x2, .int x3] (Wf x) (Wf x') (none) := by
  refine Ct.ofW (by decide) (Nat.le_of_ble_eq_true rfl) (hAd _ _) ?_
  intro p e s m0 below meth c A Q ls args hx hb hr hml hlocks hown hts hK hP hD1 hSS hS hA1 hl hret
  have hT : ∀ w ∈ TBL, w.before args s = true := fun w h => hts w (List.mem_cons_of_mem _ h)
  have Fx0 : Fx p l m0 c cX10_putSpot 4 s args yX10_putSpot cX10_putSpot 4 none D cs A := ⟨hx, hb, hml, hown, hts, hK, hSS⟩
  have hown : s.vm.findClass RX10 = some m0.cls := hown
  have hl : lv_has ls 4 [(0, .ref (adx 0)), (1, .int x1), (2, .int x2), (3, .int x3)] := hl
  unfold D_X10_putSpot at hD
  refine lv_aload_n hx hb dX10_putSpot_0 rfl (lv_at hl 0 rfl) ?_
  refine rg  hx hb hT hu10 hown hK hP hLx 0 0 (Nat.le_of_ble_eq_true rfl) (xs0 _ _) rfl (Nat.le_of_ble_eq_true rfl) (Fx0.T tw_6_215) rfl (v := .ref (adx 1)) rfl dX10_putSpot_1 ?_
  refine lv_sipush (v := (240 : Int32)) hx hb dX10_putSpot_4 (by decide) ?_
  refine lv_bipush (v := (6 : Int32)) hx hb dX10_putSpot_7 (by decide) ?_
  refine lv_iload_n hx hb dX10_putSpot_9 rfl (lv_at hl 1 rfl) ?_
  refine lv_imul hx hb dX10_putSpot_10 ?_
  refine lv_iadd hx hb dX10_putSpot_11 ?_
  refine lv_iload_n hx hb dX10_putSpot_12 rfl (lv_at hl 2 rfl) ?_
  refine lv_iadd hx hb dX10_putSpot_13 ?_
  refine lv_iload_n hx hb dX10_putSpot_14 rfl (lv_at hl 3 rfl) ?_
  obtain ⟨h1, hD⟩ := gd_el hD
  obtain ⟨m2, em2, hD⟩ := bnd_el hD
  refine riast  hx hb hK hP (hD1 _ (hAd _ _)) hS hLx 1 (Nat.le_of_ble_eq_true rfl) (fun _ => xs1 _ _) h1 rfl dX10_putSpot_15 em2 (fun H locs hP hS => ?_)
  obtain rfl := es1 hD
  exact hret _ _ _ hP hS (fun Qc hq => W.vret hx hb hr hq hS.2.2 dX10_putSpot_16 hlocks)

noncomputable def D_X10_isSpot (x1 : Int32) (x : MM) : Option Int32 := b1 (D_X10_in x1.toInt64 (0 : Int64) (((gi x 1 19) - (1 : Int32)).toInt64)) (fun v1 => if v1 = 0 ∨ v1 = 1 then some (v1) else none)
set_option maxHeartbeats 4000000 in
set_option maxRecDepth 100000 in
theorem c_X10_isSpot (l : Launch) {D : va_G} {cs : Nat → ClassId} {adx : Nat → Nat} {Wf : MM → va_W} (hLx : Ln 9 adx (xsh cs adx) Wf) (hAd : ∀ a0_ b0_ : MM, (Wf a0_).map (fun q => q.1) = (Wf b0_).map (fun q => q.1)) (x : MM) (x1 : Int32) {rr : Int32} (hD : D_X10_isSpot x1 x = some (rr)) : Ct l yX10_isSpot cX10_isSpot 2 (some .boolean) 1 25 D cs [.ref (adx 0), .int x1] (Wf x) (Wf x) (some (.int rr)) := by
  refine Ct.ofW (by decide) (Nat.le_of_ble_eq_true rfl) rfl ?_
  intro p e s m0 below meth c A Q ls args hx hb hr hml hlocks hown hts hK hP hD1 hSS hS hA1 hl hret
  have hT : ∀ w ∈ TBL, w.before args s = true := fun w h => hts w (List.mem_cons_of_mem _ h)
  have Fx0 : Fx p l m0 c cX10_isSpot 2 s args yX10_isSpot cX10_isSpot 2 (some .boolean) D cs A := ⟨hx, hb, hml, hown, hts, hK, hSS⟩
  have hown : s.vm.findClass RX10 = some m0.cls := hown
  have hl : lv_has ls 2 [(0, .ref (adx 0)), (1, .int x1)] := hl
  unfold D_X10_isSpot at hD
  refine lv_iload_n hx hb dX10_isSpot_0 rfl (lv_at hl 1 rfl) ?_
  refine lv_i2l (v := x1.toInt64) hx hb dX10_isSpot_1 rfl ?_
  refine lv_lconst (v := (0 : Int64)) hx hb dX10_isSpot_2 (by decide) ?_
  refine lv_aload_n hx hb dX10_isSpot_3 rfl (lv_at hl 0 rfl) ?_
  refine rg  hx hb hT hu10 hown hK hP hLx 0 0 (Nat.le_of_ble_eq_true rfl) (xs0 _ _) rfl (Nat.le_of_ble_eq_true rfl) (Fx0.T tw_6_215) rfl (v := .ref (adx 1)) rfl dX10_isSpot_4 ?_
  refine lv_bipush (v := (19 : Int32)) hx hb dX10_isSpot_7 (by decide) ?_
  refine riald  hx hb hK hP hLx 1 (Nat.le_of_ble_eq_true rfl) (xs1 _ _) (by decide) (j := 19) (by decide) dX10_isSpot_9 ?_
  refine lv_iconst (v := (1 : Int32)) hx hb dX10_isSpot_10 (by decide) ?_
  refine lv_isub hx hb dX10_isSpot_11 ?_
  refine lv_i2l (v := ((gi x 1 19) - (1 : Int32)).toInt64) hx hb dX10_isSpot_12 rfl ?_
  obtain ⟨v1, z2, hD⟩ := b1_el hD
  refine rcS (As := [.long x1.toInt64, .long (0 : Int64), .long (((gi x 1 19) - (1 : Int32)).toInt64)]) (rest := []) Fx0 (c_X10_in l x1.toInt64 (0 : Int64) (((gi x 1 19) - (1 : Int32)).toInt64) z2) hP (hD1 _ (hAd _ _)) hS (hA1 _ _ (hAd _ _) hS.1) tw_7_69 tw_7_67 tw_7_68 tw_1_13 yd_X10_in ⟨(Nat.le_of_ble_eq_true rfl), (Nat.le_of_ble_eq_true rfl)⟩ rfl hl.1 rfl (Nat.le_of_ble_eq_true rfl) dX10_isSpot_13 (fun H locs hP hS => ?_)
  obtain ⟨h3, hD⟩ := gb_el hD
  obtain rfl := es1 hD
  exact hret _ _ _ hP hS (fun Qc hq => W.zret hx hb hr (nbz h3).1 hq hS.2.2 dX10_isSpot_16 hlocks)

noncomputable def D_X10_noSpot (x1 : Int32) (x : MM) : Option (Int32 × MM) := bnd (si x 0 6 (0 : Int32)) (fun m1 => b1 (D_X10_isSpot x1 m1) (fun v2 => if v2 = 0 then (b2 (D_X10_throwsIf (1 : Int32) (1 : Int32) m1) (fun v8 m9 => if v8 = 0 ∨ v8 = 1 then some (v8, m9) else none)) else (b2 (D_X10_throwsIf (0 : Int32) (1 : Int32) m1) (fun v4 m5 => if v4 = 0 ∨ v4 = 1 then some (v4, m5) else none))))
set_option maxHeartbeats 4000000 in
set_option maxRecDepth 100000 in
theorem c_X10_noSpot (l : Launch) {D : va_G} {cs : Nat → ClassId} {adx : Nat → Nat} {Wf : MM → va_W} (hLx : Ln 9 adx (xsh cs adx) Wf) (hAd : ∀ a0_ b0_ : MM, (Wf a0_).map (fun q => q.1) = (Wf b0_).map (fun q => q.1)) (x : MM) (x1 : Int32) {rr : Int32} {x' : MM} (hD : D_X10_noSpot x1 x = some (rr, x')) : Ct l yX10_noSpot cX10_noSpot 2 (some .boolean) 2 46 D cs [.ref (adx 0), .int x1] (Wf x) (Wf x') (some (.int rr)) := by
  refine Ct.ofW (by decide) (Nat.le_of_ble_eq_true rfl) (hAd _ _) ?_
  intro p e s m0 below meth c A Q ls args hx hb hr hml hlocks hown hts hK hP hD1 hSS hS hA1 hl hret
  have hT : ∀ w ∈ TBL, w.before args s = true := fun w h => hts w (List.mem_cons_of_mem _ h)
  have Fx0 : Fx p l m0 c cX10_noSpot 2 s args yX10_noSpot cX10_noSpot 2 (some .boolean) D cs A := ⟨hx, hb, hml, hown, hts, hK, hSS⟩
  have hown : s.vm.findClass RX10 = some m0.cls := hown
  have hl : lv_has ls 2 [(0, .ref (adx 0)), (1, .int x1)] := hl
  unfold D_X10_noSpot at hD
  refine lv_aload_n hx hb dX10_noSpot_0 rfl (lv_at hl 0 rfl) ?_
  refine lv_iconst (v := (0 : Int32)) hx hb dX10_noSpot_1 (by decide) ?_
  obtain ⟨m1, em1, hD⟩ := bnd_el hD
  refine rp  hx hb hT hu10 tyX10_ok nmX10 hown hK hP (hD1 _ (hAd _ _)) hS hLx 0 6 (Nat.le_of_ble_eq_true rfl) (xs0 _ _) (xs0 _ _) rfl (Nat.le_of_ble_eq_true rfl) (Fx0.T tw_6_221) rfl rfl rfl rfl (Nat.le_of_ble_eq_true rfl) dX10_noSpot_2 em1 (fun H locs hP hS => ?_)
  refine lv_aload_n hx hb dX10_noSpot_5 rfl (lv_at hl 0 rfl) ?_
  refine lv_aload_n hx hb dX10_noSpot_6 rfl (lv_at hl 0 rfl) ?_
  refine lv_iload_n hx hb dX10_noSpot_7 rfl (lv_at hl 1 rfl) ?_
  obtain ⟨v2, z3, hD⟩ := b1_el hD
  refine rcV  (As := [.int x1]) (rest := [.ref (adx 0)]) Fx0 (c_X10_isSpot l hLx hAd m1 x1 z3) hP (hD1 _ (hAd _ _)) hS (hA1 _ _ (hAd _ _) hS.1) hLx (Nat.le_of_ble_eq_true rfl) (xs0 _ _) rfl tw_8_38 tw_8_35 tw_8_37 ts_120 tw_1_13 yd_X10_isSpot ⟨(Nat.le_of_ble_eq_true rfl), (Nat.le_of_ble_eq_true rfl)⟩ rfl hl.1 rfl (Nat.le_of_ble_eq_true rfl) dX10_noSpot_8 (fun H locs hP hS => ?_)
  refine lv_if_ne (tgt := 18) hx hb dX10_noSpot_11 (by decide) (fun c => ?_) (fun c => ?_)
  · have hD := ifn hD c
    refine lv_iconst (v := (0 : Int32)) hx hb dX10_noSpot_18 (by decide) ?_
    refine lv_iconst (v := (1 : Int32)) hx hb dX10_noSpot_19 (by decide) ?_
    obtain ⟨v4, m5, z6, hD⟩ := b2_el hD
    refine rcV  (As := [.int (0 : Int32), .int (1 : Int32)]) (rest := []) Fx0 (c_X10_throwsIf l hLx hAd m1 (0 : Int32) (1 : Int32) z6) hP (hD1 _ (hAd _ _)) hS (hA1 _ _ (hAd _ _) hS.1) hLx (Nat.le_of_ble_eq_true rfl) (xs0 _ _) rfl tw_7_163 tw_7_160 tw_7_162 ts_105 tw_1_13 yd_X10_throwsIf ⟨(Nat.le_of_ble_eq_true rfl), (Nat.le_of_ble_eq_true rfl)⟩ rfl hl.1 rfl (Nat.le_of_ble_eq_true rfl) dX10_noSpot_20 (fun H locs hP hS => ?_)
    obtain ⟨h7, hD⟩ := gb_el hD
    obtain ⟨rfl, rfl⟩ := es2 hD
    exact hret _ _ _ hP hS (fun Qc hq => W.zret hx hb hr (nbz h7).1 hq hS.2.2 dX10_noSpot_23 hlocks)
  · have hD := ifp hD c
    refine lv_iconst (v := (1 : Int32)) hx hb dX10_noSpot_14 (by decide) ?_
    refine lv_goto (tgt := 19) hx hb dX10_noSpot_15 (by decide) ?_
    refine lv_iconst (v := (1 : Int32)) hx hb dX10_noSpot_19 (by decide) ?_
    obtain ⟨v8, m9, z10, hD⟩ := b2_el hD
    refine rcV  (As := [.int (1 : Int32), .int (1 : Int32)]) (rest := []) Fx0 (c_X10_throwsIf l hLx hAd m1 (1 : Int32) (1 : Int32) z10) hP (hD1 _ (hAd _ _)) hS (hA1 _ _ (hAd _ _) hS.1) hLx (Nat.le_of_ble_eq_true rfl) (xs0 _ _) rfl tw_7_163 tw_7_160 tw_7_162 ts_105 tw_1_13 yd_X10_throwsIf ⟨(Nat.le_of_ble_eq_true rfl), (Nat.le_of_ble_eq_true rfl)⟩ rfl hl.1 rfl (Nat.le_of_ble_eq_true rfl) dX10_noSpot_20 (fun H locs hP hS => ?_)
    obtain ⟨h11, hD⟩ := gb_el hD
    obtain ⟨rfl, rfl⟩ := es2 hD
    exact hret _ _ _ hP hS (fun Qc hq => W.zret hx hb hr (nbz h11).1 hq hS.2.2 dX10_noSpot_23 hlocks)

noncomputable def D_X10_spotValue (x1 : Int32) (x2 : Int32) (x : MM) : Option (Int32 × MM) := b2 (D_X10_noSpot x1 x) (fun v1 m2 => if v1 = 0 then (b1 (D_X10_in x2.toInt64 (0 : Int64) (5 : Int64)) (fun v4 => if v4 = 0 then (b2 (D_X10_throwsIf (1 : Int32) (2 : Int32) m2) (fun v11 m12 => if v11 = 0 then (b1 (D_X10_ofSpot x1 x2 m12) (fun v14 => some (v14, m12))) else (some ((0 : Int32), m12)))) else (b2 (D_X10_throwsIf (0 : Int32) (2 : Int32) m2) (fun v6 m7 => if v6 = 0 then (b1 (D_X10_ofSpot x1 x2 m7) (fun v9 => some (v9, m7))) else (some ((0 : Int32), m7)))))) else (some ((0 : Int32), m2)))
set_option maxHeartbeats 4000000 in
set_option maxRecDepth 100000 in
theorem c_X10_spotValue (l : Launch) {D : va_G} {cs : Nat → ClassId} {adx : Nat → Nat} {Wf : MM → va_W} (hLx : Ln 9 adx (xsh cs adx) Wf) (hAd : ∀ a0_ b0_ : MM, (Wf a0_).map (fun q => q.1) = (Wf b0_).map (fun q => q.1)) (x : MM) (x1 : Int32) (x2 : Int32) {rr : Int32} {x' : MM} (hD : D_X10_spotValue x1 x2 x = some (rr, x')) : Ct l yX10_spotValue cX10_spotValue 3 (some .int) 3 67 D cs [.ref (adx 0), .int x1, .int x2] (Wf x) (Wf x') (some (.int rr)) := by
  refine Ct.ofW (by decide) (Nat.le_of_ble_eq_true rfl) (hAd _ _) ?_
  intro p e s m0 below meth c A Q ls args hx hb hr hml hlocks hown hts hK hP hD1 hSS hS hA1 hl hret
  have hT : ∀ w ∈ TBL, w.before args s = true := fun w h => hts w (List.mem_cons_of_mem _ h)
  have Fx0 : Fx p l m0 c cX10_spotValue 3 s args yX10_spotValue cX10_spotValue 3 (some .int) D cs A := ⟨hx, hb, hml, hown, hts, hK, hSS⟩
  have hown : s.vm.findClass RX10 = some m0.cls := hown
  have hl : lv_has ls 3 [(0, .ref (adx 0)), (1, .int x1), (2, .int x2)] := hl
  unfold D_X10_spotValue at hD
  refine lv_aload_n hx hb dX10_spotValue_0 rfl (lv_at hl 0 rfl) ?_
  refine lv_iload_n hx hb dX10_spotValue_1 rfl (lv_at hl 1 rfl) ?_
  obtain ⟨v1, m2, z3, hD⟩ := b2_el hD
  refine rcV  (As := [.int x1]) (rest := []) Fx0 (c_X10_noSpot l hLx hAd x x1 z3) hP (hD1 _ (hAd _ _)) hS (hA1 _ _ (hAd _ _) hS.1) hLx (Nat.le_of_ble_eq_true rfl) (xs0 _ _) rfl tw_8_34 tw_8_31 tw_8_33 ts_119 tw_1_13 yd_X10_noSpot ⟨(Nat.le_of_ble_eq_true rfl), (Nat.le_of_ble_eq_true rfl)⟩ rfl hl.1 rfl (Nat.le_of_ble_eq_true rfl) dX10_spotValue_2 (fun H locs hP hS => ?_)
  refine lv_if_ne (tgt := 33) hx hb dX10_spotValue_5 (by decide) (fun c => ?_) (fun c => ?_)
  · have hD := ifn hD c
    refine lv_iconst (v := (0 : Int32)) hx hb dX10_spotValue_33 (by decide) ?_
    refine lv_goto (tgt := 43) hx hb dX10_spotValue_34 (by decide) ?_
    obtain ⟨rfl, rfl⟩ := es2 hD
    exact hret _ _ _ hP hS (fun Qc hq => W.iret hx hb hr hq hS.2.2 dX10_spotValue_43 hlocks)
  · have hD := ifp hD c
    refine lv_aload_n hx hb dX10_spotValue_8 rfl (lv_at hl 0 rfl) ?_
    refine lv_iload_n hx hb dX10_spotValue_9 rfl (lv_at hl 2 rfl) ?_
    refine lv_i2l (v := x2.toInt64) hx hb dX10_spotValue_10 rfl ?_
    refine lv_lconst (v := (0 : Int64)) hx hb dX10_spotValue_11 (by decide) ?_
    refine lv_ldc2 (v := (5 : Int64)) hx hb hown (Fx0.T tw_7_159) dX10_spotValue_12 ?_
    obtain ⟨v4, z5, hD⟩ := b1_el hD
    refine rcS (As := [.long x2.toInt64, .long (0 : Int64), .long (5 : Int64)]) (rest := [.ref (adx 0)]) Fx0 (c_X10_in l x2.toInt64 (0 : Int64) (5 : Int64) z5) hP (hD1 _ (hAd _ _)) hS (hA1 _ _ (hAd _ _) hS.1) tw_7_69 tw_7_67 tw_7_68 tw_1_13 yd_X10_in ⟨(Nat.le_of_ble_eq_true rfl), (Nat.le_of_ble_eq_true rfl)⟩ rfl hl.1 rfl (Nat.le_of_ble_eq_true rfl) dX10_spotValue_15 (fun H locs hP hS => ?_)
    refine lv_if_ne (tgt := 25) hx hb dX10_spotValue_18 (by decide) (fun c => ?_) (fun c => ?_)
    · have hD := ifn hD c
      refine lv_iconst (v := (0 : Int32)) hx hb dX10_spotValue_25 (by decide) ?_
      refine lv_iconst (v := (2 : Int32)) hx hb dX10_spotValue_26 (by decide) ?_
      obtain ⟨v6, m7, z8, hD⟩ := b2_el hD
      refine rcV  (As := [.int (0 : Int32), .int (2 : Int32)]) (rest := []) Fx0 (c_X10_throwsIf l hLx hAd m2 (0 : Int32) (2 : Int32) z8) hP (hD1 _ (hAd _ _)) hS (hA1 _ _ (hAd _ _) hS.1) hLx (Nat.le_of_ble_eq_true rfl) (xs0 _ _) rfl tw_7_163 tw_7_160 tw_7_162 ts_105 tw_1_13 yd_X10_throwsIf ⟨(Nat.le_of_ble_eq_true rfl), (Nat.le_of_ble_eq_true rfl)⟩ rfl hl.1 rfl (Nat.le_of_ble_eq_true rfl) dX10_spotValue_27 (fun H locs hP hS => ?_)
      refine lv_if_eq (tgt := 37) hx hb dX10_spotValue_30 (by decide) (fun c => ?_) (fun c => ?_)
      · have hD := ifp hD c
        refine lv_aload_n hx hb dX10_spotValue_37 rfl (lv_at hl 0 rfl) ?_
        refine lv_iload_n hx hb dX10_spotValue_38 rfl (lv_at hl 1 rfl) ?_
        refine lv_iload_n hx hb dX10_spotValue_39 rfl (lv_at hl 2 rfl) ?_
        obtain ⟨v9, z10, hD⟩ := b1_el hD
        refine rcV  (As := [.int x1, .int x2]) (rest := []) Fx0 (c_X10_ofSpot l hLx hAd m7 x1 x2 z10) hP (hD1 _ (hAd _ _)) hS (hA1 _ _ (hAd _ _) hS.1) hLx (Nat.le_of_ble_eq_true rfl) (xs0 _ _) rfl tw_8_42 tw_8_39 tw_8_41 ts_121 tw_1_13 yd_X10_ofSpot ⟨(Nat.le_of_ble_eq_true rfl), (Nat.le_of_ble_eq_true rfl)⟩ rfl hl.1 rfl (Nat.le_of_ble_eq_true rfl) dX10_spotValue_40 (fun H locs hP hS => ?_)
        obtain ⟨rfl, rfl⟩ := es2 hD
        exact hret _ _ _ hP hS (fun Qc hq => W.iret hx hb hr hq hS.2.2 dX10_spotValue_43 hlocks)
      · have hD := ifn hD c
        refine lv_iconst (v := (0 : Int32)) hx hb dX10_spotValue_33 (by decide) ?_
        refine lv_goto (tgt := 43) hx hb dX10_spotValue_34 (by decide) ?_
        obtain ⟨rfl, rfl⟩ := es2 hD
        exact hret _ _ _ hP hS (fun Qc hq => W.iret hx hb hr hq hS.2.2 dX10_spotValue_43 hlocks)
    · have hD := ifp hD c
      refine lv_iconst (v := (1 : Int32)) hx hb dX10_spotValue_21 (by decide) ?_
      refine lv_goto (tgt := 26) hx hb dX10_spotValue_22 (by decide) ?_
      refine lv_iconst (v := (2 : Int32)) hx hb dX10_spotValue_26 (by decide) ?_
      obtain ⟨v11, m12, z13, hD⟩ := b2_el hD
      refine rcV  (As := [.int (1 : Int32), .int (2 : Int32)]) (rest := []) Fx0 (c_X10_throwsIf l hLx hAd m2 (1 : Int32) (2 : Int32) z13) hP (hD1 _ (hAd _ _)) hS (hA1 _ _ (hAd _ _) hS.1) hLx (Nat.le_of_ble_eq_true rfl) (xs0 _ _) rfl tw_7_163 tw_7_160 tw_7_162 ts_105 tw_1_13 yd_X10_throwsIf ⟨(Nat.le_of_ble_eq_true rfl), (Nat.le_of_ble_eq_true rfl)⟩ rfl hl.1 rfl (Nat.le_of_ble_eq_true rfl) dX10_spotValue_27 (fun H locs hP hS => ?_)
      refine lv_if_eq (tgt := 37) hx hb dX10_spotValue_30 (by decide) (fun c => ?_) (fun c => ?_)
      · have hD := ifp hD c
        refine lv_aload_n hx hb dX10_spotValue_37 rfl (lv_at hl 0 rfl) ?_
        refine lv_iload_n hx hb dX10_spotValue_38 rfl (lv_at hl 1 rfl) ?_
        refine lv_iload_n hx hb dX10_spotValue_39 rfl (lv_at hl 2 rfl) ?_
        obtain ⟨v14, z15, hD⟩ := b1_el hD
        refine rcV  (As := [.int x1, .int x2]) (rest := []) Fx0 (c_X10_ofSpot l hLx hAd m12 x1 x2 z15) hP (hD1 _ (hAd _ _)) hS (hA1 _ _ (hAd _ _) hS.1) hLx (Nat.le_of_ble_eq_true rfl) (xs0 _ _) rfl tw_8_42 tw_8_39 tw_8_41 ts_121 tw_1_13 yd_X10_ofSpot ⟨(Nat.le_of_ble_eq_true rfl), (Nat.le_of_ble_eq_true rfl)⟩ rfl hl.1 rfl (Nat.le_of_ble_eq_true rfl) dX10_spotValue_40 (fun H locs hP hS => ?_)
        obtain ⟨rfl, rfl⟩ := es2 hD
        exact hret _ _ _ hP hS (fun Qc hq => W.iret hx hb hr hq hS.2.2 dX10_spotValue_43 hlocks)
      · have hD := ifn hD c
        refine lv_iconst (v := (0 : Int32)) hx hb dX10_spotValue_33 (by decide) ?_
        refine lv_goto (tgt := 43) hx hb dX10_spotValue_34 (by decide) ?_
        obtain ⟨rfl, rfl⟩ := es2 hD
        exact hret _ _ _ hP hS (fun Qc hq => W.iret hx hb hr hq hS.2.2 dX10_spotValue_43 hlocks)

noncomputable def D_X10_leaveOut_23 (x1 : Int32) (x2 : Int32) (xt0 : Int32) (xt1 : Int32) (x : MM) : Option (Int32 × MM) := if xt1 = xt0 then (if x2 = 0 then (b1 (D_X10_putSpot x1 (3 : Int32) (0 : Int32) x) (fun m6 => some ((1 : Int32), m6))) else (b1 (D_X10_putSpot x1 (3 : Int32) (2 : Int32) x) (fun m8 => some ((1 : Int32), m8)))) else (some ((0 : Int32), x))
noncomputable def D_X10_leaveOut (x1 : Int32) (x2 : Int32) (x : MM) : Option (Int32 × MM) := b2 (D_X10_noSpot x1 x) (fun v1 m2 => if v1 = 0 then (b1 (D_X10_ofSpot x1 (3 : Int32) m2) (fun v4 => if x2 = 0 then (D_X10_leaveOut_23 x1 x2 (2 : Int32) v4 m2) else (D_X10_leaveOut_23 x1 x2 (0 : Int32) v4 m2))) else (some ((0 : Int32), m2)))
set_option maxHeartbeats 4000000 in
set_option maxRecDepth 100000 in
theorem c_X10_leaveOut (l : Launch) {D : va_G} {cs : Nat → ClassId} {adx : Nat → Nat} {Wf : MM → va_W} (hLx : Ln 9 adx (xsh cs adx) Wf) (hAd : ∀ a0_ b0_ : MM, (Wf a0_).map (fun q => q.1) = (Wf b0_).map (fun q => q.1)) (x : MM) (x1 : Int32) (x2 : Int32) {rr : Int32} {x' : MM} (hD : D_X10_leaveOut x1 x2 x = some (rr, x')) : Ct l yX10_leaveOut cX10_leaveOut 3 (some .boolean) 3 67 D cs [.ref (adx 0), .int x1, .int x2] (Wf x) (Wf x') (some (.int rr)) := by
  refine Ct.ofW (by decide) (Nat.le_of_ble_eq_true rfl) (hAd _ _) ?_
  intro p e s m0 below meth c A Q ls args hx hb hr hml hlocks hown hts hK hP hD1 hSS hS hA1 hl hret
  have hT : ∀ w ∈ TBL, w.before args s = true := fun w h => hts w (List.mem_cons_of_mem _ h)
  have Fx0 : Fx p l m0 c cX10_leaveOut 3 s args yX10_leaveOut cX10_leaveOut 3 (some .boolean) D cs A := ⟨hx, hb, hml, hown, hts, hK, hSS⟩
  have hown : s.vm.findClass RX10 = some m0.cls := hown
  have hl : lv_has ls 3 [(0, .ref (adx 0)), (1, .int x1), (2, .int x2)] := hl
  unfold D_X10_leaveOut at hD
  have c_23 : ∀ (x1 : Int32) (x2 : Int32) (xt0 : Int32) (xt1 : Int32) (x : MM) (H : Heap) (locs : List Loc) (ls : Array Slot), D_X10_leaveOut_23 x1 x2 xt0 xt1 x = some (rr, x') → va_P D vwCl (Wf x) H → va_S A s.heap H locs → lv_has ls 3 [(0, .ref (adx 0)), (1, .int x1), (2, .int x2)] → W p l e ({ frames := 3, cells := 0, slots := 0, locals := 67 } : Room) s m0 args below meth c H locs 0 0 Q (F0 m0 23 ls [.int xt0, .int xt1]) := by
    intro x1 x2 xt0 xt1 x H locs ls hD hP hS hl
    unfold D_X10_leaveOut_23 at hD
    refine lv_icmp_eq (tgt := 28) hx hb dX10_leaveOut_23 (by decide) (fun c => ?_) (fun c => ?_)
    · have hD := ifp hD c
      refine lv_aload_n hx hb dX10_leaveOut_28 rfl (lv_at hl 0 rfl) ?_
      refine lv_iload_n hx hb dX10_leaveOut_29 rfl (lv_at hl 1 rfl) ?_
      refine lv_iconst (v := (3 : Int32)) hx hb dX10_leaveOut_30 (by decide) ?_
      refine lv_iload_n hx hb dX10_leaveOut_31 rfl (lv_at hl 2 rfl) ?_
      refine lv_if_eq (tgt := 39) hx hb dX10_leaveOut_32 (by decide) (fun c => ?_) (fun c => ?_)
      · have hD := ifp hD c
        refine lv_iconst (v := (0 : Int32)) hx hb dX10_leaveOut_39 (by decide) ?_
        obtain ⟨m6, z7, hD⟩ := b1_el hD
        refine rcV  (As := [.int x1, .int (3 : Int32), .int (0 : Int32)]) (rest := []) Fx0 (c_X10_putSpot l hLx hAd x x1 (3 : Int32) (0 : Int32) z7) hP (hD1 _ (hAd _ _)) hS (hA1 _ _ (hAd _ _) hS.1) hLx (Nat.le_of_ble_eq_true rfl) (xs0 _ _) rfl tw_8_50 tw_8_47 tw_8_49 ts_122 tw_1_13 yd_X10_putSpot ⟨(Nat.le_of_ble_eq_true rfl), (Nat.le_of_ble_eq_true rfl)⟩ rfl hl.1 rfl (Nat.le_of_ble_eq_true rfl) dX10_leaveOut_40 (fun H locs hP hS => ?_)
        refine lv_iconst (v := (1 : Int32)) hx hb dX10_leaveOut_43 (by decide) ?_
        obtain ⟨rfl, rfl⟩ := es2 hD
        exact hret _ _ _ hP hS (fun Qc hq => W.zret hx hb hr rfl hq hS.2.2 dX10_leaveOut_44 hlocks)
      · have hD := ifn hD c
        refine lv_iconst (v := (2 : Int32)) hx hb dX10_leaveOut_35 (by decide) ?_
        refine lv_goto (tgt := 40) hx hb dX10_leaveOut_36 (by decide) ?_
        obtain ⟨m8, z9, hD⟩ := b1_el hD
        refine rcV  (As := [.int x1, .int (3 : Int32), .int (2 : Int32)]) (rest := []) Fx0 (c_X10_putSpot l hLx hAd x x1 (3 : Int32) (2 : Int32) z9) hP (hD1 _ (hAd _ _)) hS (hA1 _ _ (hAd _ _) hS.1) hLx (Nat.le_of_ble_eq_true rfl) (xs0 _ _) rfl tw_8_50 tw_8_47 tw_8_49 ts_122 tw_1_13 yd_X10_putSpot ⟨(Nat.le_of_ble_eq_true rfl), (Nat.le_of_ble_eq_true rfl)⟩ rfl hl.1 rfl (Nat.le_of_ble_eq_true rfl) dX10_leaveOut_40 (fun H locs hP hS => ?_)
        refine lv_iconst (v := (1 : Int32)) hx hb dX10_leaveOut_43 (by decide) ?_
        obtain ⟨rfl, rfl⟩ := es2 hD
        exact hret _ _ _ hP hS (fun Qc hq => W.zret hx hb hr rfl hq hS.2.2 dX10_leaveOut_44 hlocks)
    · have hD := ifn hD c
      refine lv_iconst (v := (0 : Int32)) hx hb dX10_leaveOut_26 (by decide) ?_
      obtain ⟨rfl, rfl⟩ := es2 hD
      exact hret _ _ _ hP hS (fun Qc hq => W.zret hx hb hr rfl hq hS.2.2 dX10_leaveOut_27 hlocks)
  refine lv_aload_n hx hb dX10_leaveOut_0 rfl (lv_at hl 0 rfl) ?_
  refine lv_iload_n hx hb dX10_leaveOut_1 rfl (lv_at hl 1 rfl) ?_
  obtain ⟨v1, m2, z3, hD⟩ := b2_el hD
  refine rcV  (As := [.int x1]) (rest := []) Fx0 (c_X10_noSpot l hLx hAd x x1 z3) hP (hD1 _ (hAd _ _)) hS (hA1 _ _ (hAd _ _) hS.1) hLx (Nat.le_of_ble_eq_true rfl) (xs0 _ _) rfl tw_8_34 tw_8_31 tw_8_33 ts_119 tw_1_13 yd_X10_noSpot ⟨(Nat.le_of_ble_eq_true rfl), (Nat.le_of_ble_eq_true rfl)⟩ rfl hl.1 rfl (Nat.le_of_ble_eq_true rfl) dX10_leaveOut_2 (fun H locs hP hS => ?_)
  refine lv_if_ne (tgt := 26) hx hb dX10_leaveOut_5 (by decide) (fun c => ?_) (fun c => ?_)
  · have hD := ifn hD c
    refine lv_iconst (v := (0 : Int32)) hx hb dX10_leaveOut_26 (by decide) ?_
    obtain ⟨rfl, rfl⟩ := es2 hD
    exact hret _ _ _ hP hS (fun Qc hq => W.zret hx hb hr rfl hq hS.2.2 dX10_leaveOut_27 hlocks)
  · have hD := ifp hD c
    refine lv_aload_n hx hb dX10_leaveOut_8 rfl (lv_at hl 0 rfl) ?_
    refine lv_iload_n hx hb dX10_leaveOut_9 rfl (lv_at hl 1 rfl) ?_
    refine lv_iconst (v := (3 : Int32)) hx hb dX10_leaveOut_10 (by decide) ?_
    obtain ⟨v4, z5, hD⟩ := b1_el hD
    refine rcV  (As := [.int x1, .int (3 : Int32)]) (rest := []) Fx0 (c_X10_ofSpot l hLx hAd m2 x1 (3 : Int32) z5) hP (hD1 _ (hAd _ _)) hS (hA1 _ _ (hAd _ _) hS.1) hLx (Nat.le_of_ble_eq_true rfl) (xs0 _ _) rfl tw_8_42 tw_8_39 tw_8_41 ts_121 tw_1_13 yd_X10_ofSpot ⟨(Nat.le_of_ble_eq_true rfl), (Nat.le_of_ble_eq_true rfl)⟩ rfl hl.1 rfl (Nat.le_of_ble_eq_true rfl) dX10_leaveOut_11 (fun H locs hP hS => ?_)
    refine lv_iload_n hx hb dX10_leaveOut_14 rfl (lv_at hl 2 rfl) ?_
    refine lv_if_eq (tgt := 22) hx hb dX10_leaveOut_15 (by decide) (fun c => ?_) (fun c => ?_)
    · have hD := ifp hD c
      refine lv_iconst (v := (2 : Int32)) hx hb dX10_leaveOut_22 (by decide) ?_
      exact c_23 _ _ _ _ _ _ _ _ hD hP hS (lv_sub hl [0, 1, 2] rfl)
    · have hD := ifn hD c
      refine lv_iconst (v := (0 : Int32)) hx hb dX10_leaveOut_18 (by decide) ?_
      refine lv_goto (tgt := 23) hx hb dX10_leaveOut_19 (by decide) ?_
      exact c_23 _ _ _ _ _ _ _ _ hD hP hS (lv_sub hl [0, 1, 2] rfl)

noncomputable def D_X10_spotsIn_34 (x : MM) (k5 : Int32 → Int32 → Int32 → Int32 → Option Int32) (x1 : Int32) (x2 : Int32) (x4 : Int32) (xt0 : Int32) : Option Int32 := b1 (D_X10_ofSpot x4 (3 : Int32) x) (fun v1 => if v1 = x2 then (bnd ((xt0 + (1 : Int32))) (fun v5 => bnd (x4 + (1 : Int32)) (fun v6 => k5 x1 x2 v5 v6))) else (bnd ((xt0 + (0 : Int32))) (fun v3 => bnd (x4 + (1 : Int32)) (fun v4 => k5 x1 x2 v3 v4))))
noncomputable def D_X10_spotsIn_5 (x : MM) : Nat → Int32 → Int32 → Int32 → Int32 → Option Int32
  | 0, _, _, _, _ => none
  | n + 1, x1, x2, x3, x4 => if (gi x 1 19) ≤ x4 then (some (x3)) else (if x1 = (-1 : Int32) then (D_X10_spotsIn_34 x (D_X10_spotsIn_5 x n) x1 x2 x4 x3) else (b1 (D_X10_ofSpot x4 (0 : Int32) x) (fun v7 => if v7 = x1 then (D_X10_spotsIn_34 x (D_X10_spotsIn_5 x n) x1 x2 x4 x3) else (bnd ((x3 + (0 : Int32))) (fun v9 => bnd (x4 + (1 : Int32)) (fun v10 => D_X10_spotsIn_5 x n x1 x2 v9 v10))))))
noncomputable def D_X10_spotsIn (x1 : Int32) (x2 : Int32) (x : MM) : Option Int32 := D_X10_spotsIn_5 x FU x1 x2 (0 : Int32) (0 : Int32)
set_option maxHeartbeats 4000000 in
set_option maxRecDepth 100000 in
theorem c_X10_spotsIn (l : Launch) {D : va_G} {cs : Nat → ClassId} {adx : Nat → Nat} {Wf : MM → va_W} (hLx : Ln 9 adx (xsh cs adx) Wf) (hAd : ∀ a0_ b0_ : MM, (Wf a0_).map (fun q => q.1) = (Wf b0_).map (fun q => q.1)) (x : MM) (x1 : Int32) (x2 : Int32) {rr : Int32} (hD : D_X10_spotsIn x1 x2 x = some (rr)) : Ct l yX10_spotsIn cX10_spotsIn 5 (some .int) 1 22 D cs [.ref (adx 0), .int x1, .int x2] (Wf x) (Wf x) (some (.int rr)) := by
  refine Ct.ofW (by decide) (Nat.le_of_ble_eq_true rfl) rfl ?_
  intro p e s m0 below meth c A Q ls args hx hb hr hml hlocks hown hts hK hP hD1 hSS hS hA1 hl hret
  have hT : ∀ w ∈ TBL, w.before args s = true := fun w h => hts w (List.mem_cons_of_mem _ h)
  have Fx0 : Fx p l m0 c cX10_spotsIn 5 s args yX10_spotsIn cX10_spotsIn 5 (some .int) D cs A := ⟨hx, hb, hml, hown, hts, hK, hSS⟩
  have hown : s.vm.findClass RX10 = some m0.cls := hown
  have hl : lv_has ls 5 [(0, .ref (adx 0)), (1, .int x1), (2, .int x2)] := hl
  unfold D_X10_spotsIn at hD
  have c_34 : ∀ (k5 : Int32 → Int32 → Int32 → Int32 → Option Int32) (hk5 : ∀ (x1 : Int32) (x2 : Int32) (x3 : Int32) (x4 : Int32) (H : Heap) (locs : List Loc) (ls : Array Slot), k5 x1 x2 x3 x4 = some (rr) → va_P D vwCl (Wf x) H → va_S A s.heap H locs → lv_has ls 5 [(0, .ref (adx 0)), (1, .int x1), (2, .int x2), (3, .int x3), (4, .int x4)] → W p l e ({ frames := 1, cells := 0, slots := 0, locals := 22 } : Room) s m0 args below meth c H locs 0 0 Q (F0 m0 5 ls [])), ∀ (x1 : Int32) (x2 : Int32) (x4 : Int32) (xt0 : Int32) (H : Heap) (locs : List Loc) (ls : Array Slot), D_X10_spotsIn_34 x k5 x1 x2 x4 xt0 = some (rr) → va_P D vwCl (Wf x) H → va_S A s.heap H locs → lv_has ls 5 [(0, .ref (adx 0)), (1, .int x1), (2, .int x2), (4, .int x4)] → W p l e ({ frames := 1, cells := 0, slots := 0, locals := 22 } : Room) s m0 args below meth c H locs 0 0 Q (F0 m0 34 ls [.int xt0]) := by
    intro k5 hk5 x1 x2 x4 xt0 H locs ls hD hP hS hl
    unfold D_X10_spotsIn_34 at hD
    refine lv_aload_n hx hb dX10_spotsIn_34 rfl (lv_at hl 0 rfl) ?_
    refine lv_iload hx hb dX10_spotsIn_35 (lv_at hl 3 rfl) ?_
    refine lv_iconst (v := (3 : Int32)) hx hb dX10_spotsIn_37 (by decide) ?_
    obtain ⟨v1, z2, hD⟩ := b1_el hD
    refine rcV  (As := [.int x4, .int (3 : Int32)]) (rest := [.int xt0]) Fx0 (c_X10_ofSpot l hLx hAd x x4 (3 : Int32) z2) hP (hD1 _ (hAd _ _)) hS (hA1 _ _ (hAd _ _) hS.1) hLx (Nat.le_of_ble_eq_true rfl) (xs0 _ _) rfl tw_8_42 tw_8_39 tw_8_41 ts_121 tw_1_13 yd_X10_ofSpot ⟨(Nat.le_of_ble_eq_true rfl), (Nat.le_of_ble_eq_true rfl)⟩ rfl hl.1 rfl (Nat.le_of_ble_eq_true rfl) dX10_spotsIn_38 (fun H locs hP hS => ?_)
    refine lv_iload_n hx hb dX10_spotsIn_41 rfl (lv_at hl 2 rfl) ?_
    refine lv_icmp_ne (tgt := 49) hx hb dX10_spotsIn_42 (by decide) (fun c => ?_) (fun c => ?_)
    · have hD := ifn hD c
      refine lv_iconst (v := (0 : Int32)) hx hb dX10_spotsIn_49 (by decide) ?_
      refine lv_iadd hx hb dX10_spotsIn_50 ?_
      obtain ⟨v3, ev3, hD⟩ := bnd_el hD
      refine lv_nmi ev3 ?_
      refine lv_istore_n (lv' := [(3, .int v3), (0, .ref (adx 0)), (1, .int x1), (2, .int x2), (4, .int x4)]) hx hb dX10_spotsIn_51 rfl hl (by decide) rfl (fun ls hl => ?_)
      obtain ⟨v4, ev4, hD⟩ := bnd_el hD
      refine lv_iinc (v := v4) (lv' := [(4, .int v4), (3, .int v3), (0, .ref (adx 0)), (1, .int x1), (2, .int x2)]) hx hb dX10_spotsIn_52 hl (k := 4) rfl (by rw [ev4]; rfl) (by decide) rfl (fun ls hl => ?_)
      refine lv_goto (tgt := 5) hx hb dX10_spotsIn_55 (by decide) ?_
      exact hk5 _ _ _ _ _ _ _ hD hP hS (lv_sub hl [2, 3, 4, 1, 0] rfl)
    · have hD := ifp hD c
      refine lv_iconst (v := (1 : Int32)) hx hb dX10_spotsIn_45 (by decide) ?_
      refine lv_goto (tgt := 50) hx hb dX10_spotsIn_46 (by decide) ?_
      refine lv_iadd hx hb dX10_spotsIn_50 ?_
      obtain ⟨v5, ev5, hD⟩ := bnd_el hD
      refine lv_nmi ev5 ?_
      refine lv_istore_n (lv' := [(3, .int v5), (0, .ref (adx 0)), (1, .int x1), (2, .int x2), (4, .int x4)]) hx hb dX10_spotsIn_51 rfl hl (by decide) rfl (fun ls hl => ?_)
      obtain ⟨v6, ev6, hD⟩ := bnd_el hD
      refine lv_iinc (v := v6) (lv' := [(4, .int v6), (3, .int v5), (0, .ref (adx 0)), (1, .int x1), (2, .int x2)]) hx hb dX10_spotsIn_52 hl (k := 4) rfl (by rw [ev6]; rfl) (by decide) rfl (fun ls hl => ?_)
      refine lv_goto (tgt := 5) hx hb dX10_spotsIn_55 (by decide) ?_
      exact hk5 _ _ _ _ _ _ _ hD hP hS (lv_sub hl [2, 3, 4, 1, 0] rfl)
  have c_5 : ∀ (n : Nat), ∀ (x1 : Int32) (x2 : Int32) (x3 : Int32) (x4 : Int32) (H : Heap) (locs : List Loc) (ls : Array Slot), D_X10_spotsIn_5 x n x1 x2 x3 x4 = some (rr) → va_P D vwCl (Wf x) H → va_S A s.heap H locs → lv_has ls 5 [(0, .ref (adx 0)), (1, .int x1), (2, .int x2), (3, .int x3), (4, .int x4)] → W p l e ({ frames := 1, cells := 0, slots := 0, locals := 22 } : Room) s m0 args below meth c H locs 0 0 Q (F0 m0 5 ls []) := by
    intro n
    induction n with
    | zero =>
      intro x1 x2 x3 x4 H locs ls hD hP hS hl
      exact nn_el hD
    | succ n ih =>
      intro x1 x2 x3 x4 H locs ls hD hP hS hl
      rw [D_X10_spotsIn_5] at hD
      refine lv_iload hx hb dX10_spotsIn_5 (lv_at hl 4 rfl) ?_
      refine lv_aload_n hx hb dX10_spotsIn_7 rfl (lv_at hl 0 rfl) ?_
      refine rg  hx hb hT hu10 hown hK hP hLx 0 0 (Nat.le_of_ble_eq_true rfl) (xs0 _ _) rfl (Nat.le_of_ble_eq_true rfl) (Fx0.T tw_6_215) rfl (v := .ref (adx 1)) rfl dX10_spotsIn_8 ?_
      refine lv_bipush (v := (19 : Int32)) hx hb dX10_spotsIn_11 (by decide) ?_
      refine riald  hx hb hK hP hLx 1 (Nat.le_of_ble_eq_true rfl) (xs1 _ _) (by decide) (j := 19) (by decide) dX10_spotsIn_13 ?_
      refine lv_icmp_ge (tgt := 58) hx hb dX10_spotsIn_14 (by decide) (fun c => ?_) (fun c => ?_)
      · have hD := ifp hD c
        refine lv_iload_n hx hb dX10_spotsIn_58 rfl (lv_at hl 3 rfl) ?_
        obtain rfl := es1 hD
        exact hret _ _ _ hP hS (fun Qc hq => W.iret hx hb hr hq hS.2.2 dX10_spotsIn_59 hlocks)
      · have hD := ifn hD c
        refine lv_iload_n hx hb dX10_spotsIn_17 rfl (lv_at hl 3 rfl) ?_
        refine lv_iload_n hx hb dX10_spotsIn_18 rfl (lv_at hl 1 rfl) ?_
        refine lv_iconst (v := (-1 : Int32)) hx hb dX10_spotsIn_19 (by decide) ?_
        refine lv_icmp_eq (tgt := 34) hx hb dX10_spotsIn_20 (by decide) (fun c => ?_) (fun c => ?_)
        · have hD := ifp hD c
          exact c_34 _ ih _ _ _ _ _ _ _ hD hP hS (lv_sub hl [0, 1, 2, 4] rfl)
        · have hD := ifn hD c
          refine lv_aload_n hx hb dX10_spotsIn_23 rfl (lv_at hl 0 rfl) ?_
          refine lv_iload hx hb dX10_spotsIn_24 (lv_at hl 4 rfl) ?_
          refine lv_iconst (v := (0 : Int32)) hx hb dX10_spotsIn_26 (by decide) ?_
          obtain ⟨v7, z8, hD⟩ := b1_el hD
          refine rcV  (As := [.int x4, .int (0 : Int32)]) (rest := [.int x3]) Fx0 (c_X10_ofSpot l hLx hAd x x4 (0 : Int32) z8) hP (hD1 _ (hAd _ _)) hS (hA1 _ _ (hAd _ _) hS.1) hLx (Nat.le_of_ble_eq_true rfl) (xs0 _ _) rfl tw_8_42 tw_8_39 tw_8_41 ts_121 tw_1_13 yd_X10_ofSpot ⟨(Nat.le_of_ble_eq_true rfl), (Nat.le_of_ble_eq_true rfl)⟩ rfl hl.1 rfl (Nat.le_of_ble_eq_true rfl) dX10_spotsIn_27 (fun H locs hP hS => ?_)
          refine lv_iload_n hx hb dX10_spotsIn_30 rfl (lv_at hl 1 rfl) ?_
          refine lv_icmp_ne (tgt := 49) hx hb dX10_spotsIn_31 (by decide) (fun c => ?_) (fun c => ?_)
          · have hD := ifn hD c
            refine lv_iconst (v := (0 : Int32)) hx hb dX10_spotsIn_49 (by decide) ?_
            refine lv_iadd hx hb dX10_spotsIn_50 ?_
            obtain ⟨v9, ev9, hD⟩ := bnd_el hD
            refine lv_nmi ev9 ?_
            refine lv_istore_n (lv' := [(3, .int v9), (0, .ref (adx 0)), (1, .int x1), (2, .int x2), (4, .int x4)]) hx hb dX10_spotsIn_51 rfl hl (by decide) rfl (fun ls hl => ?_)
            obtain ⟨v10, ev10, hD⟩ := bnd_el hD
            refine lv_iinc (v := v10) (lv' := [(4, .int v10), (3, .int v9), (0, .ref (adx 0)), (1, .int x1), (2, .int x2)]) hx hb dX10_spotsIn_52 hl (k := 4) rfl (by rw [ev10]; rfl) (by decide) rfl (fun ls hl => ?_)
            refine lv_goto (tgt := 5) hx hb dX10_spotsIn_55 (by decide) ?_
            exact ih _ _ _ _ _ _ _ hD hP hS (lv_sub hl [2, 3, 4, 1, 0] rfl)
          · have hD := ifp hD c
            exact c_34 _ ih _ _ _ _ _ _ _ hD hP hS (lv_sub hl [0, 1, 2, 4] rfl)
  refine lv_iconst (v := (0 : Int32)) hx hb dX10_spotsIn_0 (by decide) ?_
  refine lv_istore_n (lv' := [(3, .int (0 : Int32)), (0, .ref (adx 0)), (1, .int x1), (2, .int x2)]) hx hb dX10_spotsIn_1 rfl hl (by decide) rfl (fun ls hl => ?_)
  refine lv_iconst (v := (0 : Int32)) hx hb dX10_spotsIn_2 (by decide) ?_
  refine lv_istore (lv' := [(4, .int (0 : Int32)), (3, .int (0 : Int32)), (0, .ref (adx 0)), (1, .int x1), (2, .int x2)]) hx hb dX10_spotsIn_3 hl (by decide) rfl (fun ls hl => ?_)
  exact c_5 FU _ _ _ _ _ _ _ hD hP hS (lv_sub hl [2, 3, 4, 1, 0] rfl)

noncomputable def D_X10_isOpen (x1 : Int32) (x : MM) : Option Int32 := b1 (D_X10_ofSpot x1 (3 : Int32) x) (fun v1 => if v1 = 0 then (some ((1 : Int32))) else (some ((0 : Int32))))
set_option maxHeartbeats 4000000 in
set_option maxRecDepth 100000 in
theorem c_X10_isOpen (l : Launch) {D : va_G} {cs : Nat → ClassId} {adx : Nat → Nat} {Wf : MM → va_W} (hLx : Ln 9 adx (xsh cs adx) Wf) (hAd : ∀ a0_ b0_ : MM, (Wf a0_).map (fun q => q.1) = (Wf b0_).map (fun q => q.1)) (x : MM) (x1 : Int32) {rr : Int32} (hD : D_X10_isOpen x1 x = some (rr)) : Ct l yX10_isOpen cX10_isOpen 2 (some .boolean) 1 22 D cs [.ref (adx 0), .int x1] (Wf x) (Wf x) (some (.int rr)) := by
  refine Ct.ofW (by decide) (Nat.le_of_ble_eq_true rfl) rfl ?_
  intro p e s m0 below meth c A Q ls args hx hb hr hml hlocks hown hts hK hP hD1 hSS hS hA1 hl hret
  have hT : ∀ w ∈ TBL, w.before args s = true := fun w h => hts w (List.mem_cons_of_mem _ h)
  have Fx0 : Fx p l m0 c cX10_isOpen 2 s args yX10_isOpen cX10_isOpen 2 (some .boolean) D cs A := ⟨hx, hb, hml, hown, hts, hK, hSS⟩
  have hown : s.vm.findClass RX10 = some m0.cls := hown
  have hl : lv_has ls 2 [(0, .ref (adx 0)), (1, .int x1)] := hl
  unfold D_X10_isOpen at hD
  refine lv_aload_n hx hb dX10_isOpen_0 rfl (lv_at hl 0 rfl) ?_
  refine lv_iload_n hx hb dX10_isOpen_1 rfl (lv_at hl 1 rfl) ?_
  refine lv_iconst (v := (3 : Int32)) hx hb dX10_isOpen_2 (by decide) ?_
  obtain ⟨v1, z2, hD⟩ := b1_el hD
  refine rcV  (As := [.int x1, .int (3 : Int32)]) (rest := []) Fx0 (c_X10_ofSpot l hLx hAd x x1 (3 : Int32) z2) hP (hD1 _ (hAd _ _)) hS (hA1 _ _ (hAd _ _) hS.1) hLx (Nat.le_of_ble_eq_true rfl) (xs0 _ _) rfl tw_8_42 tw_8_39 tw_8_41 ts_121 tw_1_13 yd_X10_ofSpot ⟨(Nat.le_of_ble_eq_true rfl), (Nat.le_of_ble_eq_true rfl)⟩ rfl hl.1 rfl (Nat.le_of_ble_eq_true rfl) dX10_isOpen_3 (fun H locs hP hS => ?_)
  refine lv_if_ne (tgt := 13) hx hb dX10_isOpen_6 (by decide) (fun c => ?_) (fun c => ?_)
  · have hD := ifn hD c
    refine lv_iconst (v := (0 : Int32)) hx hb dX10_isOpen_13 (by decide) ?_
    obtain rfl := es1 hD
    exact hret _ _ _ hP hS (fun Qc hq => W.zret hx hb hr rfl hq hS.2.2 dX10_isOpen_14 hlocks)
  · have hD := ifp hD c
    refine lv_iconst (v := (1 : Int32)) hx hb dX10_isOpen_9 (by decide) ?_
    refine lv_goto (tgt := 14) hx hb dX10_isOpen_10 (by decide) ?_
    obtain rfl := es1 hD
    exact hret _ _ _ hP hS (fun Qc hq => W.zret hx hb hr rfl hq hS.2.2 dX10_isOpen_14 hlocks)

noncomputable def D_X10_openBefore_5 (x : MM) : Nat → Int32 → Int64 → Int32 → Option Int64
  | 0, _, _, _ => none
  | n + 1, x1, x2, x4 => if (gi x 1 20) ≤ x4 then (some (x2)) else (if (((600 : Int32) + ((2 : Int32) * x4)) + (1 : Int32)) < 0 ∨ 640 ≤ (((600 : Int32) + ((2 : Int32) * x4)) + (1 : Int32)).toNatClampNeg then none else (if (gi x 1 ((((600 : Int32) + ((2 : Int32) * x4)) + (1 : Int32)).toNatClampNeg)) = x1 then (if ((600 : Int32) + ((2 : Int32) * x4)) < 0 ∨ 640 ≤ ((600 : Int32) + ((2 : Int32) * x4)).toNatClampNeg then none else (b1 (D_X10_isOpen (gi x 1 (((600 : Int32) + ((2 : Int32) * x4)).toNatClampNeg)) x) (fun v5 => if v5 = 0 then (bnd ((x2 ||| (0 : Int64))) (fun v7 => bnd (x4 + (1 : Int32)) (fun v8 => D_X10_openBefore_5 x n x1 v7 v8))) else (if ((600 : Int32) + ((2 : Int32) * x4)) < 0 ∨ 640 ≤ ((600 : Int32) + ((2 : Int32) * x4)).toNatClampNeg then none else (bnd ((x2 ||| ((1 : Int64) <<< ((gi x 1 (((600 : Int32) + ((2 : Int32) * x4)).toNatClampNeg)).toInt64 &&& 63)))) (fun v10 => bnd (x4 + (1 : Int32)) (fun v11 => D_X10_openBefore_5 x n x1 v10 v11))))))) else (bnd ((x2 ||| (0 : Int64))) (fun v2 => bnd (x4 + (1 : Int32)) (fun v3 => D_X10_openBefore_5 x n x1 v2 v3)))))
noncomputable def D_X10_openBefore (x1 : Int32) (x : MM) : Option Int64 := D_X10_openBefore_5 x FU x1 (0 : Int64) (0 : Int32)
set_option maxHeartbeats 4000000 in
set_option maxRecDepth 100000 in
theorem c_X10_openBefore (l : Launch) {D : va_G} {cs : Nat → ClassId} {adx : Nat → Nat} {Wf : MM → va_W} (hLx : Ln 9 adx (xsh cs adx) Wf) (hAd : ∀ a0_ b0_ : MM, (Wf a0_).map (fun q => q.1) = (Wf b0_).map (fun q => q.1)) (x : MM) (x1 : Int32) {rr : Int64} (hD : D_X10_openBefore x1 x = some (rr)) : Ct l yX10_openBefore cX10_openBefore 5 (some .long) 2 43 D cs [.ref (adx 0), .int x1] (Wf x) (Wf x) (some (.long rr)) := by
  refine Ct.ofW (by decide) (Nat.le_of_ble_eq_true rfl) rfl ?_
  intro p e s m0 below meth c A Q ls args hx hb hr hml hlocks hown hts hK hP hD1 hSS hS hA1 hl hret
  have hT : ∀ w ∈ TBL, w.before args s = true := fun w h => hts w (List.mem_cons_of_mem _ h)
  have Fx0 : Fx p l m0 c cX10_openBefore 5 s args yX10_openBefore cX10_openBefore 5 (some .long) D cs A := ⟨hx, hb, hml, hown, hts, hK, hSS⟩
  have hown : s.vm.findClass RX10 = some m0.cls := hown
  have hl : lv_has ls 5 [(0, .ref (adx 0)), (1, .int x1)] := hl
  unfold D_X10_openBefore at hD
  have c_5 : ∀ (n : Nat), ∀ (x1 : Int32) (x2 : Int64) (x4 : Int32) (H : Heap) (locs : List Loc) (ls : Array Slot), D_X10_openBefore_5 x n x1 x2 x4 = some (rr) → va_P D vwCl (Wf x) H → va_S A s.heap H locs → lv_has ls 5 [(0, .ref (adx 0)), (1, .int x1), (2, .long x2), (4, .int x4)] → W p l e ({ frames := 2, cells := 0, slots := 0, locals := 43 } : Room) s m0 args below meth c H locs 0 0 Q (F0 m0 5 ls []) := by
    intro n
    induction n with
    | zero =>
      intro x1 x2 x4 H locs ls hD hP hS hl
      exact nn_el hD
    | succ n ih =>
      intro x1 x2 x4 H locs ls hD hP hS hl
      rw [D_X10_openBefore_5] at hD
      refine lv_iload hx hb dX10_openBefore_5 (lv_at hl 3 rfl) ?_
      refine lv_aload_n hx hb dX10_openBefore_7 rfl (lv_at hl 0 rfl) ?_
      refine rg  hx hb hT hu10 hown hK hP hLx 0 0 (Nat.le_of_ble_eq_true rfl) (xs0 _ _) rfl (Nat.le_of_ble_eq_true rfl) (Fx0.T tw_6_215) rfl (v := .ref (adx 1)) rfl dX10_openBefore_8 ?_
      refine lv_bipush (v := (20 : Int32)) hx hb dX10_openBefore_11 (by decide) ?_
      refine riald  hx hb hK hP hLx 1 (Nat.le_of_ble_eq_true rfl) (xs1 _ _) (by decide) (j := 20) (by decide) dX10_openBefore_13 ?_
      refine lv_icmp_ge (tgt := 84) hx hb dX10_openBefore_14 (by decide) (fun c => ?_) (fun c => ?_)
      · have hD := ifp hD c
        refine lv_lload_n hx hb dX10_openBefore_84 rfl (lv_at hl 2 rfl) ?_
        obtain rfl := es1 hD
        exact hret _ _ _ hP hS (fun Qc hq => W.lret hx hb hr hq hS.2.2 dX10_openBefore_85 hlocks)
      · have hD := ifn hD c
        refine lv_lload_n hx hb dX10_openBefore_17 rfl (lv_at hl 2 rfl) ?_
        refine lv_aload_n hx hb dX10_openBefore_18 rfl (lv_at hl 0 rfl) ?_
        refine rg  hx hb hT hu10 hown hK hP hLx 0 0 (Nat.le_of_ble_eq_true rfl) (xs0 _ _) rfl (Nat.le_of_ble_eq_true rfl) (Fx0.T tw_6_215) rfl (v := .ref (adx 1)) rfl dX10_openBefore_19 ?_
        refine lv_sipush (v := (600 : Int32)) hx hb dX10_openBefore_22 (by decide) ?_
        refine lv_iconst (v := (2 : Int32)) hx hb dX10_openBefore_25 (by decide) ?_
        refine lv_iload hx hb dX10_openBefore_26 (lv_at hl 3 rfl) ?_
        refine lv_imul hx hb dX10_openBefore_28 ?_
        refine lv_iadd hx hb dX10_openBefore_29 ?_
        refine lv_iconst (v := (1 : Int32)) hx hb dX10_openBefore_30 (by decide) ?_
        refine lv_iadd hx hb dX10_openBefore_31 ?_
        obtain ⟨h1, hD⟩ := gd_el hD
        refine riald  hx hb hK hP hLx 1 (Nat.le_of_ble_eq_true rfl) (xs1 _ _) h1 rfl dX10_openBefore_32 ?_
        refine lv_iload_n hx hb dX10_openBefore_33 rfl (lv_at hl 1 rfl) ?_
        refine lv_icmp_ne (tgt := 75) hx hb dX10_openBefore_34 (by decide) (fun c => ?_) (fun c => ?_)
        · have hD := ifn hD c
          refine lv_lconst (v := (0 : Int64)) hx hb dX10_openBefore_75 (by decide) ?_
          refine lv_lor hx hb dX10_openBefore_76 ?_
          obtain ⟨v2, ev2, hD⟩ := bnd_el hD
          refine lv_nml ev2 ?_
          refine lv_lstore_n (lv' := [(2, .long v2), (0, .ref (adx 0)), (1, .int x1), (4, .int x4)]) hx hb dX10_openBefore_77 rfl hl (by decide) rfl (fun ls hl => ?_)
          obtain ⟨v3, ev3, hD⟩ := bnd_el hD
          refine lv_iinc (v := v3) (lv' := [(4, .int v3), (2, .long v2), (0, .ref (adx 0)), (1, .int x1)]) hx hb dX10_openBefore_78 hl (k := 3) rfl (by rw [ev3]; rfl) (by decide) rfl (fun ls hl => ?_)
          refine lv_goto (tgt := 5) hx hb dX10_openBefore_81 (by decide) ?_
          exact ih _ _ _ _ _ _ hD hP hS (lv_sub hl [2, 3, 1, 0] rfl)
        · have hD := ifp hD c
          refine lv_aload_n hx hb dX10_openBefore_37 rfl (lv_at hl 0 rfl) ?_
          refine lv_aload_n hx hb dX10_openBefore_38 rfl (lv_at hl 0 rfl) ?_
          refine rg  hx hb hT hu10 hown hK hP hLx 0 0 (Nat.le_of_ble_eq_true rfl) (xs0 _ _) rfl (Nat.le_of_ble_eq_true rfl) (Fx0.T tw_6_215) rfl (v := .ref (adx 1)) rfl dX10_openBefore_39 ?_
          refine lv_sipush (v := (600 : Int32)) hx hb dX10_openBefore_42 (by decide) ?_
          refine lv_iconst (v := (2 : Int32)) hx hb dX10_openBefore_45 (by decide) ?_
          refine lv_iload hx hb dX10_openBefore_46 (lv_at hl 3 rfl) ?_
          refine lv_imul hx hb dX10_openBefore_48 ?_
          refine lv_iadd hx hb dX10_openBefore_49 ?_
          obtain ⟨h4, hD⟩ := gd_el hD
          refine riald  hx hb hK hP hLx 1 (Nat.le_of_ble_eq_true rfl) (xs1 _ _) h4 rfl dX10_openBefore_50 ?_
          obtain ⟨v5, z6, hD⟩ := b1_el hD
          refine rcV  (As := [.int (gi x 1 (((600 : Int32) + ((2 : Int32) * x4)).toNatClampNeg))]) (rest := [.long x2]) Fx0 (c_X10_isOpen l hLx hAd x (gi x 1 (((600 : Int32) + ((2 : Int32) * x4)).toNatClampNeg)) z6) hP (hD1 _ (hAd _ _)) hS (hA1 _ _ (hAd _ _) hS.1) hLx (Nat.le_of_ble_eq_true rfl) (xs0 _ _) rfl tw_8_70 tw_8_67 tw_8_69 ts_124 tw_1_13 yd_X10_isOpen ⟨(Nat.le_of_ble_eq_true rfl), (Nat.le_of_ble_eq_true rfl)⟩ rfl hl.1 rfl (Nat.le_of_ble_eq_true rfl) dX10_openBefore_51 (fun H locs hP hS => ?_)
          refine lv_if_eq (tgt := 75) hx hb dX10_openBefore_54 (by decide) (fun c => ?_) (fun c => ?_)
          · have hD := ifp hD c
            refine lv_lconst (v := (0 : Int64)) hx hb dX10_openBefore_75 (by decide) ?_
            refine lv_lor hx hb dX10_openBefore_76 ?_
            obtain ⟨v7, ev7, hD⟩ := bnd_el hD
            refine lv_nml ev7 ?_
            refine lv_lstore_n (lv' := [(2, .long v7), (0, .ref (adx 0)), (1, .int x1), (4, .int x4)]) hx hb dX10_openBefore_77 rfl hl (by decide) rfl (fun ls hl => ?_)
            obtain ⟨v8, ev8, hD⟩ := bnd_el hD
            refine lv_iinc (v := v8) (lv' := [(4, .int v8), (2, .long v7), (0, .ref (adx 0)), (1, .int x1)]) hx hb dX10_openBefore_78 hl (k := 3) rfl (by rw [ev8]; rfl) (by decide) rfl (fun ls hl => ?_)
            refine lv_goto (tgt := 5) hx hb dX10_openBefore_81 (by decide) ?_
            exact ih _ _ _ _ _ _ hD hP hS (lv_sub hl [2, 3, 1, 0] rfl)
          · have hD := ifn hD c
            refine lv_lconst (v := (1 : Int64)) hx hb dX10_openBefore_57 (by decide) ?_
            refine lv_aload_n hx hb dX10_openBefore_58 rfl (lv_at hl 0 rfl) ?_
            refine rg  hx hb hT hu10 hown hK hP hLx 0 0 (Nat.le_of_ble_eq_true rfl) (xs0 _ _) rfl (Nat.le_of_ble_eq_true rfl) (Fx0.T tw_6_215) rfl (v := .ref (adx 1)) rfl dX10_openBefore_59 ?_
            refine lv_sipush (v := (600 : Int32)) hx hb dX10_openBefore_62 (by decide) ?_
            refine lv_iconst (v := (2 : Int32)) hx hb dX10_openBefore_65 (by decide) ?_
            refine lv_iload hx hb dX10_openBefore_66 (lv_at hl 3 rfl) ?_
            refine lv_imul hx hb dX10_openBefore_68 ?_
            refine lv_iadd hx hb dX10_openBefore_69 ?_
            obtain ⟨h9, hD⟩ := gd_el hD
            refine riald  hx hb hK hP hLx 1 (Nat.le_of_ble_eq_true rfl) (xs1 _ _) h9 rfl dX10_openBefore_70 ?_
            refine lv_lshl (v := ((1 : Int64) <<< ((gi x 1 (((600 : Int32) + ((2 : Int32) * x4)).toNatClampNeg)).toInt64 &&& 63))) hx hb dX10_openBefore_71 rfl ?_
            refine lv_goto (tgt := 76) hx hb dX10_openBefore_72 (by decide) ?_
            refine lv_lor hx hb dX10_openBefore_76 ?_
            obtain ⟨v10, ev10, hD⟩ := bnd_el hD
            refine lv_nml ev10 ?_
            refine lv_lstore_n (lv' := [(2, .long v10), (0, .ref (adx 0)), (1, .int x1), (4, .int x4)]) hx hb dX10_openBefore_77 rfl hl (by decide) rfl (fun ls hl => ?_)
            obtain ⟨v11, ev11, hD⟩ := bnd_el hD
            refine lv_iinc (v := v11) (lv' := [(4, .int v11), (2, .long v10), (0, .ref (adx 0)), (1, .int x1)]) hx hb dX10_openBefore_78 hl (k := 3) rfl (by rw [ev11]; rfl) (by decide) rfl (fun ls hl => ?_)
            refine lv_goto (tgt := 5) hx hb dX10_openBefore_81 (by decide) ?_
            exact ih _ _ _ _ _ _ hD hP hS (lv_sub hl [2, 3, 1, 0] rfl)
  refine lv_lconst (v := (0 : Int64)) hx hb dX10_openBefore_0 (by decide) ?_
  refine lv_lstore_n (lv' := [(2, .long (0 : Int64)), (0, .ref (adx 0)), (1, .int x1)]) hx hb dX10_openBefore_1 rfl hl (by decide) rfl (fun ls hl => ?_)
  refine lv_iconst (v := (0 : Int32)) hx hb dX10_openBefore_2 (by decide) ?_
  refine lv_istore (lv' := [(4, .int (0 : Int32)), (2, .long (0 : Int64)), (0, .ref (adx 0)), (1, .int x1)]) hx hb dX10_openBefore_3 hl (by decide) rfl (fun ls hl => ?_)
  exact c_5 FU _ _ _ _ _ _ hD hP hS (lv_sub hl [2, 3, 1, 0] rfl)

noncomputable def D_X10_isFillable (x1 : Int32) (x : MM) : Option Int32 := b1 (D_X10_isOpen x1 x) (fun v1 => if v1 = 0 then (some ((0 : Int32))) else (b1 (D_X10_openBefore x1 x) (fun v3 => if v3 = (0 : Int64) then (some ((1 : Int32))) else (some ((0 : Int32))))))
set_option maxHeartbeats 4000000 in
set_option maxRecDepth 100000 in
theorem c_X10_isFillable (l : Launch) {D : va_G} {cs : Nat → ClassId} {adx : Nat → Nat} {Wf : MM → va_W} (hLx : Ln 9 adx (xsh cs adx) Wf) (hAd : ∀ a0_ b0_ : MM, (Wf a0_).map (fun q => q.1) = (Wf b0_).map (fun q => q.1)) (x : MM) (x1 : Int32) {rr : Int32} (hD : D_X10_isFillable x1 x = some (rr)) : Ct l yX10_isFillable cX10_isFillable 2 (some .boolean) 3 67 D cs [.ref (adx 0), .int x1] (Wf x) (Wf x) (some (.int rr)) := by
  refine Ct.ofW (by decide) (Nat.le_of_ble_eq_true rfl) rfl ?_
  intro p e s m0 below meth c A Q ls args hx hb hr hml hlocks hown hts hK hP hD1 hSS hS hA1 hl hret
  have hT : ∀ w ∈ TBL, w.before args s = true := fun w h => hts w (List.mem_cons_of_mem _ h)
  have Fx0 : Fx p l m0 c cX10_isFillable 2 s args yX10_isFillable cX10_isFillable 2 (some .boolean) D cs A := ⟨hx, hb, hml, hown, hts, hK, hSS⟩
  have hown : s.vm.findClass RX10 = some m0.cls := hown
  have hl : lv_has ls 2 [(0, .ref (adx 0)), (1, .int x1)] := hl
  unfold D_X10_isFillable at hD
  refine lv_aload_n hx hb dX10_isFillable_0 rfl (lv_at hl 0 rfl) ?_
  refine lv_iload_n hx hb dX10_isFillable_1 rfl (lv_at hl 1 rfl) ?_
  obtain ⟨v1, z2, hD⟩ := b1_el hD
  refine rcV  (As := [.int x1]) (rest := []) Fx0 (c_X10_isOpen l hLx hAd x x1 z2) hP (hD1 _ (hAd _ _)) hS (hA1 _ _ (hAd _ _) hS.1) hLx (Nat.le_of_ble_eq_true rfl) (xs0 _ _) rfl tw_8_70 tw_8_67 tw_8_69 ts_124 tw_1_13 yd_X10_isOpen ⟨(Nat.le_of_ble_eq_true rfl), (Nat.le_of_ble_eq_true rfl)⟩ rfl hl.1 rfl (Nat.le_of_ble_eq_true rfl) dX10_isFillable_2 (fun H locs hP hS => ?_)
  refine lv_if_eq (tgt := 22) hx hb dX10_isFillable_5 (by decide) (fun c => ?_) (fun c => ?_)
  · have hD := ifp hD c
    refine lv_iconst (v := (0 : Int32)) hx hb dX10_isFillable_22 (by decide) ?_
    obtain rfl := es1 hD
    exact hret _ _ _ hP hS (fun Qc hq => W.zret hx hb hr rfl hq hS.2.2 dX10_isFillable_23 hlocks)
  · have hD := ifn hD c
    refine lv_aload_n hx hb dX10_isFillable_8 rfl (lv_at hl 0 rfl) ?_
    refine lv_iload_n hx hb dX10_isFillable_9 rfl (lv_at hl 1 rfl) ?_
    obtain ⟨v3, z4, hD⟩ := b1_el hD
    refine rcV  (As := [.int x1]) (rest := []) Fx0 (c_X10_openBefore l hLx hAd x x1 z4) hP (hD1 _ (hAd _ _)) hS (hA1 _ _ (hAd _ _) hS.1) hLx (Nat.le_of_ble_eq_true rfl) (xs0 _ _) rfl tw_8_66 tw_8_63 tw_8_65 ts_123 tw_1_13 yd_X10_openBefore ⟨(Nat.le_of_ble_eq_true rfl), (Nat.le_of_ble_eq_true rfl)⟩ rfl hl.1 rfl (Nat.le_of_ble_eq_true rfl) dX10_isFillable_10 (fun H locs hP hS => ?_)
    refine lv_lconst (v := (0 : Int64)) hx hb dX10_isFillable_13 (by decide) ?_
    refine rlc_ne (tgt := 22) hx hb dX10_isFillable_14 dX10_isFillable_15 (by decide) (fun c => ?_) (fun c => ?_)
    · have hD := ifn hD c
      refine lv_iconst (v := (0 : Int32)) hx hb dX10_isFillable_22 (by decide) ?_
      obtain rfl := es1 hD
      exact hret _ _ _ hP hS (fun Qc hq => W.zret hx hb hr rfl hq hS.2.2 dX10_isFillable_23 hlocks)
    · have hD := ifp hD c
      refine lv_iconst (v := (1 : Int32)) hx hb dX10_isFillable_18 (by decide) ?_
      refine lv_goto (tgt := 23) hx hb dX10_isFillable_19 (by decide) ?_
      obtain rfl := es1 hD
      exact hret _ _ _ hP hS (fun Qc hq => W.zret hx hb hr rfl hq hS.2.2 dX10_isFillable_23 hlocks)

noncomputable def D_X10_fillable_4 (x : MM) : Nat → Int32 → Int32 → Int32 → Option Int32
  | 0, _, _, _ => none
  | n + 1, x1, x2, x3 => if (gi x 1 19) ≤ x3 then (some (x2)) else (b1 (D_X10_ofSpot x3 (0 : Int32) x) (fun v1 => if v1 = x1 then (b1 (D_X10_isFillable x3 x) (fun v5 => if v5 = 0 then (bnd ((x2 + (0 : Int32))) (fun v7 => bnd (x3 + (1 : Int32)) (fun v8 => D_X10_fillable_4 x n x1 v7 v8))) else (bnd ((x2 + (1 : Int32))) (fun v9 => bnd (x3 + (1 : Int32)) (fun v10 => D_X10_fillable_4 x n x1 v9 v10))))) else (bnd ((x2 + (0 : Int32))) (fun v3 => bnd (x3 + (1 : Int32)) (fun v4 => D_X10_fillable_4 x n x1 v3 v4)))))
noncomputable def D_X10_fillable (x1 : Int32) (x : MM) : Option Int32 := D_X10_fillable_4 x FU x1 (0 : Int32) (0 : Int32)
set_option maxHeartbeats 4000000 in
set_option maxRecDepth 100000 in
theorem c_X10_fillable (l : Launch) {D : va_G} {cs : Nat → ClassId} {adx : Nat → Nat} {Wf : MM → va_W} (hLx : Ln 9 adx (xsh cs adx) Wf) (hAd : ∀ a0_ b0_ : MM, (Wf a0_).map (fun q => q.1) = (Wf b0_).map (fun q => q.1)) (x : MM) (x1 : Int32) {rr : Int32} (hD : D_X10_fillable x1 x = some (rr)) : Ct l yX10_fillable cX10_fillable 4 (some .int) 4 88 D cs [.ref (adx 0), .int x1] (Wf x) (Wf x) (some (.int rr)) := by
  refine Ct.ofW (by decide) (Nat.le_of_ble_eq_true rfl) rfl ?_
  intro p e s m0 below meth c A Q ls args hx hb hr hml hlocks hown hts hK hP hD1 hSS hS hA1 hl hret
  have hT : ∀ w ∈ TBL, w.before args s = true := fun w h => hts w (List.mem_cons_of_mem _ h)
  have Fx0 : Fx p l m0 c cX10_fillable 4 s args yX10_fillable cX10_fillable 4 (some .int) D cs A := ⟨hx, hb, hml, hown, hts, hK, hSS⟩
  have hown : s.vm.findClass RX10 = some m0.cls := hown
  have hl : lv_has ls 4 [(0, .ref (adx 0)), (1, .int x1)] := hl
  unfold D_X10_fillable at hD
  have c_4 : ∀ (n : Nat), ∀ (x1 : Int32) (x2 : Int32) (x3 : Int32) (H : Heap) (locs : List Loc) (ls : Array Slot), D_X10_fillable_4 x n x1 x2 x3 = some (rr) → va_P D vwCl (Wf x) H → va_S A s.heap H locs → lv_has ls 4 [(0, .ref (adx 0)), (1, .int x1), (2, .int x2), (3, .int x3)] → W p l e ({ frames := 4, cells := 0, slots := 0, locals := 88 } : Room) s m0 args below meth c H locs 0 0 Q (F0 m0 4 ls []) := by
    intro n
    induction n with
    | zero =>
      intro x1 x2 x3 H locs ls hD hP hS hl
      exact nn_el hD
    | succ n ih =>
      intro x1 x2 x3 H locs ls hD hP hS hl
      rw [D_X10_fillable_4] at hD
      refine lv_iload_n hx hb dX10_fillable_4 rfl (lv_at hl 3 rfl) ?_
      refine lv_aload_n hx hb dX10_fillable_5 rfl (lv_at hl 0 rfl) ?_
      refine rg  hx hb hT hu10 hown hK hP hLx 0 0 (Nat.le_of_ble_eq_true rfl) (xs0 _ _) rfl (Nat.le_of_ble_eq_true rfl) (Fx0.T tw_6_215) rfl (v := .ref (adx 1)) rfl dX10_fillable_6 ?_
      refine lv_bipush (v := (19 : Int32)) hx hb dX10_fillable_9 (by decide) ?_
      refine riald  hx hb hK hP hLx 1 (Nat.le_of_ble_eq_true rfl) (xs1 _ _) (by decide) (j := 19) (by decide) dX10_fillable_11 ?_
      refine lv_icmp_ge (tgt := 47) hx hb dX10_fillable_12 (by decide) (fun c => ?_) (fun c => ?_)
      · have hD := ifp hD c
        refine lv_iload_n hx hb dX10_fillable_47 rfl (lv_at hl 2 rfl) ?_
        obtain rfl := es1 hD
        exact hret _ _ _ hP hS (fun Qc hq => W.iret hx hb hr hq hS.2.2 dX10_fillable_48 hlocks)
      · have hD := ifn hD c
        refine lv_iload_n hx hb dX10_fillable_15 rfl (lv_at hl 2 rfl) ?_
        refine lv_aload_n hx hb dX10_fillable_16 rfl (lv_at hl 0 rfl) ?_
        refine lv_iload_n hx hb dX10_fillable_17 rfl (lv_at hl 3 rfl) ?_
        refine lv_iconst (v := (0 : Int32)) hx hb dX10_fillable_18 (by decide) ?_
        obtain ⟨v1, z2, hD⟩ := b1_el hD
        refine rcV  (As := [.int x3, .int (0 : Int32)]) (rest := [.int x2]) Fx0 (c_X10_ofSpot l hLx hAd x x3 (0 : Int32) z2) hP (hD1 _ (hAd _ _)) hS (hA1 _ _ (hAd _ _) hS.1) hLx (Nat.le_of_ble_eq_true rfl) (xs0 _ _) rfl tw_8_42 tw_8_39 tw_8_41 ts_121 tw_1_13 yd_X10_ofSpot ⟨(Nat.le_of_ble_eq_true rfl), (Nat.le_of_ble_eq_true rfl)⟩ rfl hl.1 rfl (Nat.le_of_ble_eq_true rfl) dX10_fillable_19 (fun H locs hP hS => ?_)
        refine lv_iload_n hx hb dX10_fillable_22 rfl (lv_at hl 1 rfl) ?_
        refine lv_icmp_ne (tgt := 38) hx hb dX10_fillable_23 (by decide) (fun c => ?_) (fun c => ?_)
        · have hD := ifn hD c
          refine lv_iconst (v := (0 : Int32)) hx hb dX10_fillable_38 (by decide) ?_
          refine lv_iadd hx hb dX10_fillable_39 ?_
          obtain ⟨v3, ev3, hD⟩ := bnd_el hD
          refine lv_nmi ev3 ?_
          refine lv_istore_n (lv' := [(2, .int v3), (0, .ref (adx 0)), (1, .int x1), (3, .int x3)]) hx hb dX10_fillable_40 rfl hl (by decide) rfl (fun ls hl => ?_)
          obtain ⟨v4, ev4, hD⟩ := bnd_el hD
          refine lv_iinc (v := v4) (lv' := [(3, .int v4), (2, .int v3), (0, .ref (adx 0)), (1, .int x1)]) hx hb dX10_fillable_41 hl (k := 3) rfl (by rw [ev4]; rfl) (by decide) rfl (fun ls hl => ?_)
          refine lv_goto (tgt := 4) hx hb dX10_fillable_44 (by decide) ?_
          exact ih _ _ _ _ _ _ hD hP hS (lv_sub hl [2, 3, 1, 0] rfl)
        · have hD := ifp hD c
          refine lv_aload_n hx hb dX10_fillable_26 rfl (lv_at hl 0 rfl) ?_
          refine lv_iload_n hx hb dX10_fillable_27 rfl (lv_at hl 3 rfl) ?_
          obtain ⟨v5, z6, hD⟩ := b1_el hD
          refine rcV  (As := [.int x3]) (rest := [.int x2]) Fx0 (c_X10_isFillable l hLx hAd x x3 z6) hP (hD1 _ (hAd _ _)) hS (hA1 _ _ (hAd _ _) hS.1) hLx (Nat.le_of_ble_eq_true rfl) (xs0 _ _) rfl tw_8_83 tw_8_80 tw_8_82 ts_125 tw_1_13 yd_X10_isFillable ⟨(Nat.le_of_ble_eq_true rfl), (Nat.le_of_ble_eq_true rfl)⟩ rfl hl.1 rfl (Nat.le_of_ble_eq_true rfl) dX10_fillable_28 (fun H locs hP hS => ?_)
          refine lv_if_eq (tgt := 38) hx hb dX10_fillable_31 (by decide) (fun c => ?_) (fun c => ?_)
          · have hD := ifp hD c
            refine lv_iconst (v := (0 : Int32)) hx hb dX10_fillable_38 (by decide) ?_
            refine lv_iadd hx hb dX10_fillable_39 ?_
            obtain ⟨v7, ev7, hD⟩ := bnd_el hD
            refine lv_nmi ev7 ?_
            refine lv_istore_n (lv' := [(2, .int v7), (0, .ref (adx 0)), (1, .int x1), (3, .int x3)]) hx hb dX10_fillable_40 rfl hl (by decide) rfl (fun ls hl => ?_)
            obtain ⟨v8, ev8, hD⟩ := bnd_el hD
            refine lv_iinc (v := v8) (lv' := [(3, .int v8), (2, .int v7), (0, .ref (adx 0)), (1, .int x1)]) hx hb dX10_fillable_41 hl (k := 3) rfl (by rw [ev8]; rfl) (by decide) rfl (fun ls hl => ?_)
            refine lv_goto (tgt := 4) hx hb dX10_fillable_44 (by decide) ?_
            exact ih _ _ _ _ _ _ hD hP hS (lv_sub hl [2, 3, 1, 0] rfl)
          · have hD := ifn hD c
            refine lv_iconst (v := (1 : Int32)) hx hb dX10_fillable_34 (by decide) ?_
            refine lv_goto (tgt := 39) hx hb dX10_fillable_35 (by decide) ?_
            refine lv_iadd hx hb dX10_fillable_39 ?_
            obtain ⟨v9, ev9, hD⟩ := bnd_el hD
            refine lv_nmi ev9 ?_
            refine lv_istore_n (lv' := [(2, .int v9), (0, .ref (adx 0)), (1, .int x1), (3, .int x3)]) hx hb dX10_fillable_40 rfl hl (by decide) rfl (fun ls hl => ?_)
            obtain ⟨v10, ev10, hD⟩ := bnd_el hD
            refine lv_iinc (v := v10) (lv' := [(3, .int v10), (2, .int v9), (0, .ref (adx 0)), (1, .int x1)]) hx hb dX10_fillable_41 hl (k := 3) rfl (by rw [ev10]; rfl) (by decide) rfl (fun ls hl => ?_)
            refine lv_goto (tgt := 4) hx hb dX10_fillable_44 (by decide) ?_
            exact ih _ _ _ _ _ _ hD hP hS (lv_sub hl [2, 3, 1, 0] rfl)
  refine lv_iconst (v := (0 : Int32)) hx hb dX10_fillable_0 (by decide) ?_
  refine lv_istore_n (lv' := [(2, .int (0 : Int32)), (0, .ref (adx 0)), (1, .int x1)]) hx hb dX10_fillable_1 rfl hl (by decide) rfl (fun ls hl => ?_)
  refine lv_iconst (v := (0 : Int32)) hx hb dX10_fillable_2 (by decide) ?_
  refine lv_istore_n (lv' := [(3, .int (0 : Int32)), (2, .int (0 : Int32)), (0, .ref (adx 0)), (1, .int x1)]) hx hb dX10_fillable_3 rfl hl (by decide) rfl (fun ls hl => ?_)
  exact c_4 FU _ _ _ _ _ _ hD hP hS (lv_sub hl [2, 3, 1, 0] rfl)

noncomputable def D_X10_addBefore_22 (x1 : Int32) (x2 : Int32) (xt0 : Int32) (x : MM) : Option (Int32 × MM) := b2 (D_X10_throwsIf xt0 (1 : Int32) x) (fun v6 m7 => if v6 = 0 then (b1 (D_X10_pairIn 1 x1 x2 m7) (fun v9 => if v9 = (-1 : Int32) then (b1 (D_X10_leads 1 x2 x1 m7) (fun v11 => if v11 = 0 then (if (gi m7 1 20) = (20 : Int32) then (some ((-2 : Int32), m7)) else (b1 (D_X10_addsPair 1 x1 x2 m7) (fun m13 => some ((gi m13 1 20), m13)))) else (some ((-7 : Int32), m7)))) else (some ((gi m7 1 20), m7)))) else (some ((0 : Int32), m7)))
noncomputable def D_X10_addBefore (x1 : Int32) (x2 : Int32) (x : MM) : Option (Int32 × MM) := b2 (D_X10_noSpot x1 x) (fun v1 m2 => if v1 = 0 then (b1 (D_X10_isSpot x2 m2) (fun v4 => if v4 = 0 then (D_X10_addBefore_22 x1 x2 (1 : Int32) m2) else (D_X10_addBefore_22 x1 x2 (0 : Int32) m2))) else (some ((0 : Int32), m2)))
set_option maxHeartbeats 4000000 in
set_option maxRecDepth 100000 in
theorem c_X10_addBefore (l : Launch) {D : va_G} {cs : Nat → ClassId} {adx : Nat → Nat} {Wf : MM → va_W} (hLx : Ln 9 adx (xsh cs adx) Wf) (hAd : ∀ a0_ b0_ : MM, (Wf a0_).map (fun q => q.1) = (Wf b0_).map (fun q => q.1)) (x : MM) (x1 : Int32) (x2 : Int32) {rr : Int32} {x' : MM} (hD : D_X10_addBefore x1 x2 x = some (rr, x')) : Ct l yX10_addBefore cX10_addBefore 3 (some .int) 3 67 D cs [.ref (adx 0), .int x1, .int x2] (Wf x) (Wf x') (some (.int rr)) := by
  refine Ct.ofW (by decide) (Nat.le_of_ble_eq_true rfl) (hAd _ _) ?_
  intro p e s m0 below meth c A Q ls args hx hb hr hml hlocks hown hts hK hP hD1 hSS hS hA1 hl hret
  have hT : ∀ w ∈ TBL, w.before args s = true := fun w h => hts w (List.mem_cons_of_mem _ h)
  have Fx0 : Fx p l m0 c cX10_addBefore 3 s args yX10_addBefore cX10_addBefore 3 (some .int) D cs A := ⟨hx, hb, hml, hown, hts, hK, hSS⟩
  have hown : s.vm.findClass RX10 = some m0.cls := hown
  have hl : lv_has ls 3 [(0, .ref (adx 0)), (1, .int x1), (2, .int x2)] := hl
  unfold D_X10_addBefore at hD
  have c_22 : ∀ (x1 : Int32) (x2 : Int32) (xt0 : Int32) (x : MM) (H : Heap) (locs : List Loc) (ls : Array Slot), D_X10_addBefore_22 x1 x2 xt0 x = some (rr, x') → va_P D vwCl (Wf x) H → va_S A s.heap H locs → lv_has ls 3 [(0, .ref (adx 0)), (1, .int x1), (2, .int x2)] → W p l e ({ frames := 3, cells := 0, slots := 0, locals := 67 } : Room) s m0 args below meth c H locs 0 0 Q (F0 m0 22 ls [.int xt0, .ref (adx 0)]) := by
    intro x1 x2 xt0 x H locs ls hD hP hS hl
    unfold D_X10_addBefore_22 at hD
    refine lv_iconst (v := (1 : Int32)) hx hb dX10_addBefore_22 (by decide) ?_
    obtain ⟨v6, m7, z8, hD⟩ := b2_el hD
    refine rcV  (As := [.int xt0, .int (1 : Int32)]) (rest := []) Fx0 (c_X10_throwsIf l hLx hAd x xt0 (1 : Int32) z8) hP (hD1 _ (hAd _ _)) hS (hA1 _ _ (hAd _ _) hS.1) hLx (Nat.le_of_ble_eq_true rfl) (xs0 _ _) rfl tw_7_163 tw_7_160 tw_7_162 ts_105 tw_1_13 yd_X10_throwsIf ⟨(Nat.le_of_ble_eq_true rfl), (Nat.le_of_ble_eq_true rfl)⟩ rfl hl.1 rfl (Nat.le_of_ble_eq_true rfl) dX10_addBefore_23 (fun H locs hP hS => ?_)
    refine lv_if_eq (tgt := 31) hx hb dX10_addBefore_26 (by decide) (fun c => ?_) (fun c => ?_)
    · have hD := ifp hD c
      refine lv_aload_n hx hb dX10_addBefore_31 rfl (lv_at hl 0 rfl) ?_
      refine rg  hx hb hT hu10 hown hK hP hLx 0 0 (Nat.le_of_ble_eq_true rfl) (xs0 _ _) rfl (Nat.le_of_ble_eq_true rfl) (Fx0.T tw_6_215) rfl (v := .ref (adx 1)) rfl dX10_addBefore_32 ?_
      refine lv_iload_n hx hb dX10_addBefore_35 rfl (lv_at hl 1 rfl) ?_
      refine lv_iload_n hx hb dX10_addBefore_36 rfl (lv_at hl 2 rfl) ?_
      obtain ⟨v9, z10, hD⟩ := b1_el hD
      refine rcS (As := [.ref (adx 1), .int x1, .int x2]) (rest := []) Fx0 (c_X10_pairIn l hLx hAd m7 1 (by decide) (by decide) x1 x2 z10) hP (hD1 _ (hAd _ _)) hS (hA1 _ _ (hAd _ _) hS.1) tw_7_124 tw_7_122 tw_7_123 tw_1_13 yd_X10_pairIn ⟨(Nat.le_of_ble_eq_true rfl), (Nat.le_of_ble_eq_true rfl)⟩ rfl hl.1 rfl (Nat.le_of_ble_eq_true rfl) dX10_addBefore_37 (fun H locs hP hS => ?_)
      refine lv_iconst (v := (-1 : Int32)) hx hb dX10_addBefore_40 (by decide) ?_
      refine lv_icmp_eq (tgt := 52) hx hb dX10_addBefore_41 (by decide) (fun c => ?_) (fun c => ?_)
      · have hD := ifp hD c
        refine lv_aload_n hx hb dX10_addBefore_52 rfl (lv_at hl 0 rfl) ?_
        refine rg  hx hb hT hu10 hown hK hP hLx 0 0 (Nat.le_of_ble_eq_true rfl) (xs0 _ _) rfl (Nat.le_of_ble_eq_true rfl) (Fx0.T tw_6_215) rfl (v := .ref (adx 1)) rfl dX10_addBefore_53 ?_
        refine lv_iload_n hx hb dX10_addBefore_56 rfl (lv_at hl 2 rfl) ?_
        refine lv_iload_n hx hb dX10_addBefore_57 rfl (lv_at hl 1 rfl) ?_
        obtain ⟨v11, z12, hD⟩ := b1_el hD
        refine rcS (As := [.ref (adx 1), .int x2, .int x1]) (rest := []) Fx0 (c_X10_leads l hLx hAd m7 1 (by decide) (by decide) x2 x1 z12) hP (hD1 _ (hAd _ _)) hS (hA1 _ _ (hAd _ _) hS.1) tw_7_121 tw_7_119 tw_7_120 tw_1_13 yd_X10_leads ⟨(Nat.le_of_ble_eq_true rfl), (Nat.le_of_ble_eq_true rfl)⟩ rfl hl.1 rfl (Nat.le_of_ble_eq_true rfl) dX10_addBefore_58 (fun H locs hP hS => ?_)
        refine lv_if_eq (tgt := 67) hx hb dX10_addBefore_61 (by decide) (fun c => ?_) (fun c => ?_)
        · have hD := ifp hD c
          refine lv_aload_n hx hb dX10_addBefore_67 rfl (lv_at hl 0 rfl) ?_
          refine rg  hx hb hT hu10 hown hK hP hLx 0 0 (Nat.le_of_ble_eq_true rfl) (xs0 _ _) rfl (Nat.le_of_ble_eq_true rfl) (Fx0.T tw_6_215) rfl (v := .ref (adx 1)) rfl dX10_addBefore_68 ?_
          refine lv_bipush (v := (20 : Int32)) hx hb dX10_addBefore_71 (by decide) ?_
          refine riald  hx hb hK hP hLx 1 (Nat.le_of_ble_eq_true rfl) (xs1 _ _) (by decide) (j := 20) (by decide) dX10_addBefore_73 ?_
          refine lv_bipush (v := (20 : Int32)) hx hb dX10_addBefore_74 (by decide) ?_
          refine lv_icmp_ne (tgt := 82) hx hb dX10_addBefore_76 (by decide) (fun c => ?_) (fun c => ?_)
          · have hD := ifn hD c
            refine lv_aload_n hx hb dX10_addBefore_82 rfl (lv_at hl 0 rfl) ?_
            refine rg  hx hb hT hu10 hown hK hP hLx 0 0 (Nat.le_of_ble_eq_true rfl) (xs0 _ _) rfl (Nat.le_of_ble_eq_true rfl) (Fx0.T tw_6_215) rfl (v := .ref (adx 1)) rfl dX10_addBefore_83 ?_
            refine lv_iload_n hx hb dX10_addBefore_86 rfl (lv_at hl 1 rfl) ?_
            refine lv_iload_n hx hb dX10_addBefore_87 rfl (lv_at hl 2 rfl) ?_
            obtain ⟨m13, z14, hD⟩ := b1_el hD
            refine rcS (As := [.ref (adx 1), .int x1, .int x2]) (rest := []) Fx0 (c_X10_addsPair l hLx hAd m7 1 (by decide) (by decide) x1 x2 z14) hP (hD1 _ (hAd _ _)) hS (hA1 _ _ (hAd _ _) hS.1) tw_7_127 tw_7_125 tw_7_126 tw_1_13 yd_X10_addsPair ⟨(Nat.le_of_ble_eq_true rfl), (Nat.le_of_ble_eq_true rfl)⟩ rfl hl.1 rfl (Nat.le_of_ble_eq_true rfl) dX10_addBefore_88 (fun H locs hP hS => ?_)
            refine lv_aload_n hx hb dX10_addBefore_91 rfl (lv_at hl 0 rfl) ?_
            refine rg  hx hb hT hu10 hown hK hP hLx 0 0 (Nat.le_of_ble_eq_true rfl) (xs0 _ _) rfl (Nat.le_of_ble_eq_true rfl) (Fx0.T tw_6_215) rfl (v := .ref (adx 1)) rfl dX10_addBefore_92 ?_
            refine lv_bipush (v := (20 : Int32)) hx hb dX10_addBefore_95 (by decide) ?_
            refine riald  hx hb hK hP hLx 1 (Nat.le_of_ble_eq_true rfl) (xs1 _ _) (by decide) (j := 20) (by decide) dX10_addBefore_97 ?_
            obtain ⟨rfl, rfl⟩ := es2 hD
            exact hret _ _ _ hP hS (fun Qc hq => W.iret hx hb hr hq hS.2.2 dX10_addBefore_98 hlocks)
          · have hD := ifp hD c
            refine lv_bipush (v := (-2 : Int32)) hx hb dX10_addBefore_79 (by decide) ?_
            obtain ⟨rfl, rfl⟩ := es2 hD
            exact hret _ _ _ hP hS (fun Qc hq => W.iret hx hb hr hq hS.2.2 dX10_addBefore_81 hlocks)
        · have hD := ifn hD c
          refine lv_bipush (v := (-7 : Int32)) hx hb dX10_addBefore_64 (by decide) ?_
          obtain ⟨rfl, rfl⟩ := es2 hD
          exact hret _ _ _ hP hS (fun Qc hq => W.iret hx hb hr hq hS.2.2 dX10_addBefore_66 hlocks)
      · have hD := ifn hD c
        refine lv_aload_n hx hb dX10_addBefore_44 rfl (lv_at hl 0 rfl) ?_
        refine rg  hx hb hT hu10 hown hK hP hLx 0 0 (Nat.le_of_ble_eq_true rfl) (xs0 _ _) rfl (Nat.le_of_ble_eq_true rfl) (Fx0.T tw_6_215) rfl (v := .ref (adx 1)) rfl dX10_addBefore_45 ?_
        refine lv_bipush (v := (20 : Int32)) hx hb dX10_addBefore_48 (by decide) ?_
        refine riald  hx hb hK hP hLx 1 (Nat.le_of_ble_eq_true rfl) (xs1 _ _) (by decide) (j := 20) (by decide) dX10_addBefore_50 ?_
        obtain ⟨rfl, rfl⟩ := es2 hD
        exact hret _ _ _ hP hS (fun Qc hq => W.iret hx hb hr hq hS.2.2 dX10_addBefore_51 hlocks)
    · have hD := ifn hD c
      refine lv_iconst (v := (0 : Int32)) hx hb dX10_addBefore_29 (by decide) ?_
      obtain ⟨rfl, rfl⟩ := es2 hD
      exact hret _ _ _ hP hS (fun Qc hq => W.iret hx hb hr hq hS.2.2 dX10_addBefore_30 hlocks)
  refine lv_aload_n hx hb dX10_addBefore_0 rfl (lv_at hl 0 rfl) ?_
  refine lv_iload_n hx hb dX10_addBefore_1 rfl (lv_at hl 1 rfl) ?_
  obtain ⟨v1, m2, z3, hD⟩ := b2_el hD
  refine rcV  (As := [.int x1]) (rest := []) Fx0 (c_X10_noSpot l hLx hAd x x1 z3) hP (hD1 _ (hAd _ _)) hS (hA1 _ _ (hAd _ _) hS.1) hLx (Nat.le_of_ble_eq_true rfl) (xs0 _ _) rfl tw_8_34 tw_8_31 tw_8_33 ts_119 tw_1_13 yd_X10_noSpot ⟨(Nat.le_of_ble_eq_true rfl), (Nat.le_of_ble_eq_true rfl)⟩ rfl hl.1 rfl (Nat.le_of_ble_eq_true rfl) dX10_addBefore_2 (fun H locs hP hS => ?_)
  refine lv_if_ne (tgt := 29) hx hb dX10_addBefore_5 (by decide) (fun c => ?_) (fun c => ?_)
  · have hD := ifn hD c
    refine lv_iconst (v := (0 : Int32)) hx hb dX10_addBefore_29 (by decide) ?_
    obtain ⟨rfl, rfl⟩ := es2 hD
    exact hret _ _ _ hP hS (fun Qc hq => W.iret hx hb hr hq hS.2.2 dX10_addBefore_30 hlocks)
  · have hD := ifp hD c
    refine lv_aload_n hx hb dX10_addBefore_8 rfl (lv_at hl 0 rfl) ?_
    refine lv_aload_n hx hb dX10_addBefore_9 rfl (lv_at hl 0 rfl) ?_
    refine lv_iload_n hx hb dX10_addBefore_10 rfl (lv_at hl 2 rfl) ?_
    obtain ⟨v4, z5, hD⟩ := b1_el hD
    refine rcV  (As := [.int x2]) (rest := [.ref (adx 0)]) Fx0 (c_X10_isSpot l hLx hAd m2 x2 z5) hP (hD1 _ (hAd _ _)) hS (hA1 _ _ (hAd _ _) hS.1) hLx (Nat.le_of_ble_eq_true rfl) (xs0 _ _) rfl tw_8_38 tw_8_35 tw_8_37 ts_120 tw_1_13 yd_X10_isSpot ⟨(Nat.le_of_ble_eq_true rfl), (Nat.le_of_ble_eq_true rfl)⟩ rfl hl.1 rfl (Nat.le_of_ble_eq_true rfl) dX10_addBefore_11 (fun H locs hP hS => ?_)
    refine lv_if_ne (tgt := 21) hx hb dX10_addBefore_14 (by decide) (fun c => ?_) (fun c => ?_)
    · have hD := ifn hD c
      refine lv_iconst (v := (0 : Int32)) hx hb dX10_addBefore_21 (by decide) ?_
      exact c_22 _ _ _ _ _ _ _ hD hP hS (lv_sub hl [0, 1, 2] rfl)
    · have hD := ifp hD c
      refine lv_iconst (v := (1 : Int32)) hx hb dX10_addBefore_17 (by decide) ?_
      refine lv_goto (tgt := 22) hx hb dX10_addBefore_18 (by decide) ?_
      exact c_22 _ _ _ _ _ _ _ hD hP hS (lv_sub hl [0, 1, 2] rfl)

noncomputable def D_X10_dropBefore_68 : Nat → Int32 → MM → Option (Int32 × MM)
  | 0, _, _ => none
  | n + 1, x4, x => if ((600 : Int32) + ((2 : Int32) * (gi x 1 20))) ≤ x4 then (some ((1 : Int32), x)) else (if (x4 + (2 : Int32)) < 0 ∨ 640 ≤ (x4 + (2 : Int32)).toNatClampNeg then none else (if x4 < 0 ∨ 640 ≤ x4.toNatClampNeg then none else (bnd (si x 1 x4.toNatClampNeg (gi x 1 ((x4 + (2 : Int32)).toNatClampNeg))) (fun m15 => bnd (x4 + (1 : Int32)) (fun v16 => D_X10_dropBefore_68 n v16 m15)))))
noncomputable def D_X10_dropBefore_22 (x1 : Int32) (x2 : Int32) (xt0 : Int32) (x : MM) : Option (Int32 × MM) := b2 (D_X10_throwsIf xt0 (1 : Int32) x) (fun v6 m7 => if v6 = 0 then (b1 (D_X10_pairIn 1 x1 x2 m7) (fun v9 => if v9 = (-1 : Int32) then (some ((0 : Int32), m7)) else (bnd (si m7 1 20 ((gi m7 1 20) - (1 : Int32))) (fun m11 => bnd (((600 : Int32) + ((2 : Int32) * v9))) (fun v12 => D_X10_dropBefore_68 FU v12 m11))))) else (some ((0 : Int32), m7)))
noncomputable def D_X10_dropBefore (x1 : Int32) (x2 : Int32) (x : MM) : Option (Int32 × MM) := b2 (D_X10_noSpot x1 x) (fun v1 m2 => if v1 = 0 then (b1 (D_X10_isSpot x2 m2) (fun v4 => if v4 = 0 then (D_X10_dropBefore_22 x1 x2 (1 : Int32) m2) else (D_X10_dropBefore_22 x1 x2 (0 : Int32) m2))) else (some ((0 : Int32), m2)))
set_option maxHeartbeats 4000000 in
set_option maxRecDepth 100000 in
theorem c_X10_dropBefore (l : Launch) {D : va_G} {cs : Nat → ClassId} {adx : Nat → Nat} {Wf : MM → va_W} (hLx : Ln 9 adx (xsh cs adx) Wf) (hAd : ∀ a0_ b0_ : MM, (Wf a0_).map (fun q => q.1) = (Wf b0_).map (fun q => q.1)) (x : MM) (x1 : Int32) (x2 : Int32) {rr : Int32} {x' : MM} (hD : D_X10_dropBefore x1 x2 x = some (rr, x')) : Ct l yX10_dropBefore cX10_dropBefore 5 (some .boolean) 3 67 D cs [.ref (adx 0), .int x1, .int x2] (Wf x) (Wf x') (some (.int rr)) := by
  refine Ct.ofW (by decide) (Nat.le_of_ble_eq_true rfl) (hAd _ _) ?_
  intro p e s m0 below meth c A Q ls args hx hb hr hml hlocks hown hts hK hP hD1 hSS hS hA1 hl hret
  have hT : ∀ w ∈ TBL, w.before args s = true := fun w h => hts w (List.mem_cons_of_mem _ h)
  have Fx0 : Fx p l m0 c cX10_dropBefore 5 s args yX10_dropBefore cX10_dropBefore 5 (some .boolean) D cs A := ⟨hx, hb, hml, hown, hts, hK, hSS⟩
  have hown : s.vm.findClass RX10 = some m0.cls := hown
  have hl : lv_has ls 5 [(0, .ref (adx 0)), (1, .int x1), (2, .int x2)] := hl
  unfold D_X10_dropBefore at hD
  have c_68 : ∀ (n : Nat), ∀ (x4 : Int32) (x : MM) (H : Heap) (locs : List Loc) (ls : Array Slot), D_X10_dropBefore_68 n x4 x = some (rr, x') → va_P D vwCl (Wf x) H → va_S A s.heap H locs → lv_has ls 5 [(0, .ref (adx 0)), (4, .int x4)] → W p l e ({ frames := 3, cells := 0, slots := 0, locals := 67 } : Room) s m0 args below meth c H locs 0 0 Q (F0 m0 68 ls []) := by
    intro n
    induction n with
    | zero =>
      intro x4 x H locs ls hD hP hS hl
      exact nn_el hD
    | succ n ih =>
      intro x4 x H locs ls hD hP hS hl
      rw [D_X10_dropBefore_68] at hD
      refine lv_iload hx hb dX10_dropBefore_68 (lv_at hl 1 rfl) ?_
      refine lv_sipush (v := (600 : Int32)) hx hb dX10_dropBefore_70 (by decide) ?_
      refine lv_iconst (v := (2 : Int32)) hx hb dX10_dropBefore_73 (by decide) ?_
      refine lv_aload_n hx hb dX10_dropBefore_74 rfl (lv_at hl 0 rfl) ?_
      refine rg  hx hb hT hu10 hown hK hP hLx 0 0 (Nat.le_of_ble_eq_true rfl) (xs0 _ _) rfl (Nat.le_of_ble_eq_true rfl) (Fx0.T tw_6_215) rfl (v := .ref (adx 1)) rfl dX10_dropBefore_75 ?_
      refine lv_bipush (v := (20 : Int32)) hx hb dX10_dropBefore_78 (by decide) ?_
      refine riald  hx hb hK hP hLx 1 (Nat.le_of_ble_eq_true rfl) (xs1 _ _) (by decide) (j := 20) (by decide) dX10_dropBefore_80 ?_
      refine lv_imul hx hb dX10_dropBefore_81 ?_
      refine lv_iadd hx hb dX10_dropBefore_82 ?_
      refine lv_icmp_ge (tgt := 108) hx hb dX10_dropBefore_83 (by decide) (fun c => ?_) (fun c => ?_)
      · have hD := ifp hD c
        refine lv_iconst (v := (1 : Int32)) hx hb dX10_dropBefore_108 (by decide) ?_
        obtain ⟨rfl, rfl⟩ := es2 hD
        exact hret _ _ _ hP hS (fun Qc hq => W.zret hx hb hr rfl hq hS.2.2 dX10_dropBefore_109 hlocks)
      · have hD := ifn hD c
        refine lv_aload_n hx hb dX10_dropBefore_86 rfl (lv_at hl 0 rfl) ?_
        refine rg  hx hb hT hu10 hown hK hP hLx 0 0 (Nat.le_of_ble_eq_true rfl) (xs0 _ _) rfl (Nat.le_of_ble_eq_true rfl) (Fx0.T tw_6_215) rfl (v := .ref (adx 1)) rfl dX10_dropBefore_87 ?_
        refine lv_iload hx hb dX10_dropBefore_90 (lv_at hl 1 rfl) ?_
        refine lv_aload_n hx hb dX10_dropBefore_92 rfl (lv_at hl 0 rfl) ?_
        refine rg  hx hb hT hu10 hown hK hP hLx 0 0 (Nat.le_of_ble_eq_true rfl) (xs0 _ _) rfl (Nat.le_of_ble_eq_true rfl) (Fx0.T tw_6_215) rfl (v := .ref (adx 1)) rfl dX10_dropBefore_93 ?_
        refine lv_iload hx hb dX10_dropBefore_96 (lv_at hl 1 rfl) ?_
        refine lv_iconst (v := (2 : Int32)) hx hb dX10_dropBefore_98 (by decide) ?_
        refine lv_iadd hx hb dX10_dropBefore_99 ?_
        obtain ⟨h13, hD⟩ := gd_el hD
        refine riald  hx hb hK hP hLx 1 (Nat.le_of_ble_eq_true rfl) (xs1 _ _) h13 rfl dX10_dropBefore_100 ?_
        obtain ⟨h14, hD⟩ := gd_el hD
        obtain ⟨m15, em15, hD⟩ := bnd_el hD
        refine riast  hx hb hK hP (hD1 _ (hAd _ _)) hS hLx 1 (Nat.le_of_ble_eq_true rfl) (fun _ => xs1 _ _) h14 rfl dX10_dropBefore_101 em15 (fun H locs hP hS => ?_)
        obtain ⟨v16, ev16, hD⟩ := bnd_el hD
        refine lv_iinc (v := v16) (lv' := [(4, .int v16), (0, .ref (adx 0))]) hx hb dX10_dropBefore_102 hl (k := 1) rfl (by rw [ev16]; rfl) (by decide) rfl (fun ls hl => ?_)
        refine lv_goto (tgt := 68) hx hb dX10_dropBefore_105 (by decide) ?_
        exact ih _ _ _ _ _ hD hP hS (lv_sub hl [1, 0] rfl)
  have c_22 : ∀ (x1 : Int32) (x2 : Int32) (xt0 : Int32) (x : MM) (H : Heap) (locs : List Loc) (ls : Array Slot), D_X10_dropBefore_22 x1 x2 xt0 x = some (rr, x') → va_P D vwCl (Wf x) H → va_S A s.heap H locs → lv_has ls 5 [(0, .ref (adx 0)), (1, .int x1), (2, .int x2)] → W p l e ({ frames := 3, cells := 0, slots := 0, locals := 67 } : Room) s m0 args below meth c H locs 0 0 Q (F0 m0 22 ls [.int xt0, .ref (adx 0)]) := by
    intro x1 x2 xt0 x H locs ls hD hP hS hl
    unfold D_X10_dropBefore_22 at hD
    refine lv_iconst (v := (1 : Int32)) hx hb dX10_dropBefore_22 (by decide) ?_
    obtain ⟨v6, m7, z8, hD⟩ := b2_el hD
    refine rcV  (As := [.int xt0, .int (1 : Int32)]) (rest := []) Fx0 (c_X10_throwsIf l hLx hAd x xt0 (1 : Int32) z8) hP (hD1 _ (hAd _ _)) hS (hA1 _ _ (hAd _ _) hS.1) hLx (Nat.le_of_ble_eq_true rfl) (xs0 _ _) rfl tw_7_163 tw_7_160 tw_7_162 ts_105 tw_1_13 yd_X10_throwsIf ⟨(Nat.le_of_ble_eq_true rfl), (Nat.le_of_ble_eq_true rfl)⟩ rfl hl.1 rfl (Nat.le_of_ble_eq_true rfl) dX10_dropBefore_23 (fun H locs hP hS => ?_)
    refine lv_if_eq (tgt := 31) hx hb dX10_dropBefore_26 (by decide) (fun c => ?_) (fun c => ?_)
    · have hD := ifp hD c
      refine lv_aload_n hx hb dX10_dropBefore_31 rfl (lv_at hl 0 rfl) ?_
      refine rg  hx hb hT hu10 hown hK hP hLx 0 0 (Nat.le_of_ble_eq_true rfl) (xs0 _ _) rfl (Nat.le_of_ble_eq_true rfl) (Fx0.T tw_6_215) rfl (v := .ref (adx 1)) rfl dX10_dropBefore_32 ?_
      refine lv_iload_n hx hb dX10_dropBefore_35 rfl (lv_at hl 1 rfl) ?_
      refine lv_iload_n hx hb dX10_dropBefore_36 rfl (lv_at hl 2 rfl) ?_
      obtain ⟨v9, z10, hD⟩ := b1_el hD
      refine rcS (As := [.ref (adx 1), .int x1, .int x2]) (rest := []) Fx0 (c_X10_pairIn l hLx hAd m7 1 (by decide) (by decide) x1 x2 z10) hP (hD1 _ (hAd _ _)) hS (hA1 _ _ (hAd _ _) hS.1) tw_7_124 tw_7_122 tw_7_123 tw_1_13 yd_X10_pairIn ⟨(Nat.le_of_ble_eq_true rfl), (Nat.le_of_ble_eq_true rfl)⟩ rfl hl.1 rfl (Nat.le_of_ble_eq_true rfl) dX10_dropBefore_37 (fun H locs hP hS => ?_)
      refine lv_istore_n (lv' := [(3, .int v9), (0, .ref (adx 0)), (1, .int x1), (2, .int x2)]) hx hb dX10_dropBefore_40 rfl hl (by decide) rfl (fun ls hl => ?_)
      refine lv_iload_n hx hb dX10_dropBefore_41 rfl (lv_at hl 0 rfl) ?_
      refine lv_iconst (v := (-1 : Int32)) hx hb dX10_dropBefore_42 (by decide) ?_
      refine lv_icmp_ne (tgt := 48) hx hb dX10_dropBefore_43 (by decide) (fun c => ?_) (fun c => ?_)
      · have hD := ifn hD c
        refine lv_aload_n hx hb dX10_dropBefore_48 rfl (lv_at hl 1 rfl) ?_
        refine rg  hx hb hT hu10 hown hK hP hLx 0 0 (Nat.le_of_ble_eq_true rfl) (xs0 _ _) rfl (Nat.le_of_ble_eq_true rfl) (Fx0.T tw_6_215) rfl (v := .ref (adx 1)) rfl dX10_dropBefore_49 ?_
        refine lv_bipush (v := (20 : Int32)) hx hb dX10_dropBefore_52 (by decide) ?_
        refine lv_dup2_11 hx hb dX10_dropBefore_54 rfl rfl ?_
        refine riald  hx hb hK hP hLx 1 (Nat.le_of_ble_eq_true rfl) (xs1 _ _) (by decide) (j := 20) (by decide) dX10_dropBefore_55 ?_
        refine lv_iconst (v := (1 : Int32)) hx hb dX10_dropBefore_56 (by decide) ?_
        refine lv_isub hx hb dX10_dropBefore_57 ?_
        obtain ⟨m11, em11, hD⟩ := bnd_el hD
        refine riast  hx hb hK hP (hD1 _ (hAd _ _)) hS hLx 1 (Nat.le_of_ble_eq_true rfl) (fun _ => xs1 _ _) (by decide) (j := 20) (by decide) dX10_dropBefore_58 em11 (fun H locs hP hS => ?_)
        refine lv_sipush (v := (600 : Int32)) hx hb dX10_dropBefore_59 (by decide) ?_
        refine lv_iconst (v := (2 : Int32)) hx hb dX10_dropBefore_62 (by decide) ?_
        refine lv_iload_n hx hb dX10_dropBefore_63 rfl (lv_at hl 0 rfl) ?_
        refine lv_imul hx hb dX10_dropBefore_64 ?_
        refine lv_iadd hx hb dX10_dropBefore_65 ?_
        obtain ⟨v12, ev12, hD⟩ := bnd_el hD
        refine lv_nmi ev12 ?_
        refine lv_istore (lv' := [(4, .int v12), (3, .int v9), (0, .ref (adx 0)), (1, .int x1), (2, .int x2)]) hx hb dX10_dropBefore_66 hl (by decide) rfl (fun ls hl => ?_)
        exact c_68 FU _ _ _ _ _ hD hP hS (lv_sub hl [2, 0] rfl)
      · have hD := ifp hD c
        refine lv_iconst (v := (0 : Int32)) hx hb dX10_dropBefore_46 (by decide) ?_
        obtain ⟨rfl, rfl⟩ := es2 hD
        exact hret _ _ _ hP hS (fun Qc hq => W.zret hx hb hr rfl hq hS.2.2 dX10_dropBefore_47 hlocks)
    · have hD := ifn hD c
      refine lv_iconst (v := (0 : Int32)) hx hb dX10_dropBefore_29 (by decide) ?_
      obtain ⟨rfl, rfl⟩ := es2 hD
      exact hret _ _ _ hP hS (fun Qc hq => W.zret hx hb hr rfl hq hS.2.2 dX10_dropBefore_30 hlocks)
  refine lv_aload_n hx hb dX10_dropBefore_0 rfl (lv_at hl 0 rfl) ?_
  refine lv_iload_n hx hb dX10_dropBefore_1 rfl (lv_at hl 1 rfl) ?_
  obtain ⟨v1, m2, z3, hD⟩ := b2_el hD
  refine rcV  (As := [.int x1]) (rest := []) Fx0 (c_X10_noSpot l hLx hAd x x1 z3) hP (hD1 _ (hAd _ _)) hS (hA1 _ _ (hAd _ _) hS.1) hLx (Nat.le_of_ble_eq_true rfl) (xs0 _ _) rfl tw_8_34 tw_8_31 tw_8_33 ts_119 tw_1_13 yd_X10_noSpot ⟨(Nat.le_of_ble_eq_true rfl), (Nat.le_of_ble_eq_true rfl)⟩ rfl hl.1 rfl (Nat.le_of_ble_eq_true rfl) dX10_dropBefore_2 (fun H locs hP hS => ?_)
  refine lv_if_ne (tgt := 29) hx hb dX10_dropBefore_5 (by decide) (fun c => ?_) (fun c => ?_)
  · have hD := ifn hD c
    refine lv_iconst (v := (0 : Int32)) hx hb dX10_dropBefore_29 (by decide) ?_
    obtain ⟨rfl, rfl⟩ := es2 hD
    exact hret _ _ _ hP hS (fun Qc hq => W.zret hx hb hr rfl hq hS.2.2 dX10_dropBefore_30 hlocks)
  · have hD := ifp hD c
    refine lv_aload_n hx hb dX10_dropBefore_8 rfl (lv_at hl 0 rfl) ?_
    refine lv_aload_n hx hb dX10_dropBefore_9 rfl (lv_at hl 0 rfl) ?_
    refine lv_iload_n hx hb dX10_dropBefore_10 rfl (lv_at hl 2 rfl) ?_
    obtain ⟨v4, z5, hD⟩ := b1_el hD
    refine rcV  (As := [.int x2]) (rest := [.ref (adx 0)]) Fx0 (c_X10_isSpot l hLx hAd m2 x2 z5) hP (hD1 _ (hAd _ _)) hS (hA1 _ _ (hAd _ _) hS.1) hLx (Nat.le_of_ble_eq_true rfl) (xs0 _ _) rfl tw_8_38 tw_8_35 tw_8_37 ts_120 tw_1_13 yd_X10_isSpot ⟨(Nat.le_of_ble_eq_true rfl), (Nat.le_of_ble_eq_true rfl)⟩ rfl hl.1 rfl (Nat.le_of_ble_eq_true rfl) dX10_dropBefore_11 (fun H locs hP hS => ?_)
    refine lv_if_ne (tgt := 21) hx hb dX10_dropBefore_14 (by decide) (fun c => ?_) (fun c => ?_)
    · have hD := ifn hD c
      refine lv_iconst (v := (0 : Int32)) hx hb dX10_dropBefore_21 (by decide) ?_
      exact c_22 _ _ _ _ _ _ _ hD hP hS (lv_sub hl [0, 1, 2] rfl)
    · have hD := ifp hD c
      refine lv_iconst (v := (1 : Int32)) hx hb dX10_dropBefore_17 (by decide) ?_
      refine lv_goto (tgt := 22) hx hb dX10_dropBefore_18 (by decide) ?_
      exact c_22 _ _ _ _ _ _ _ hD hP hS (lv_sub hl [0, 1, 2] rfl)

noncomputable def D_X10_blockedBy (x1 : Int32) (x : MM) : Option (Int64 × MM) := b2 (D_X10_noSpot x1 x) (fun v1 m2 => if v1 = 0 then (b1 (D_X10_openBefore x1 m2) (fun v4 => some (v4, m2))) else (some ((0 : Int64), m2)))
set_option maxHeartbeats 4000000 in
set_option maxRecDepth 100000 in
theorem c_X10_blockedBy (l : Launch) {D : va_G} {cs : Nat → ClassId} {adx : Nat → Nat} {Wf : MM → va_W} (hLx : Ln 9 adx (xsh cs adx) Wf) (hAd : ∀ a0_ b0_ : MM, (Wf a0_).map (fun q => q.1) = (Wf b0_).map (fun q => q.1)) (x : MM) (x1 : Int32) {rr : Int64} {x' : MM} (hD : D_X10_blockedBy x1 x = some (rr, x')) : Ct l yX10_blockedBy cX10_blockedBy 2 (some .long) 3 67 D cs [.ref (adx 0), .int x1] (Wf x) (Wf x') (some (.long rr)) := by
  refine Ct.ofW (by decide) (Nat.le_of_ble_eq_true rfl) (hAd _ _) ?_
  intro p e s m0 below meth c A Q ls args hx hb hr hml hlocks hown hts hK hP hD1 hSS hS hA1 hl hret
  have hT : ∀ w ∈ TBL, w.before args s = true := fun w h => hts w (List.mem_cons_of_mem _ h)
  have Fx0 : Fx p l m0 c cX10_blockedBy 2 s args yX10_blockedBy cX10_blockedBy 2 (some .long) D cs A := ⟨hx, hb, hml, hown, hts, hK, hSS⟩
  have hown : s.vm.findClass RX10 = some m0.cls := hown
  have hl : lv_has ls 2 [(0, .ref (adx 0)), (1, .int x1)] := hl
  unfold D_X10_blockedBy at hD
  refine lv_aload_n hx hb dX10_blockedBy_0 rfl (lv_at hl 0 rfl) ?_
  refine lv_iload_n hx hb dX10_blockedBy_1 rfl (lv_at hl 1 rfl) ?_
  obtain ⟨v1, m2, z3, hD⟩ := b2_el hD
  refine rcV  (As := [.int x1]) (rest := []) Fx0 (c_X10_noSpot l hLx hAd x x1 z3) hP (hD1 _ (hAd _ _)) hS (hA1 _ _ (hAd _ _) hS.1) hLx (Nat.le_of_ble_eq_true rfl) (xs0 _ _) rfl tw_8_34 tw_8_31 tw_8_33 ts_119 tw_1_13 yd_X10_noSpot ⟨(Nat.le_of_ble_eq_true rfl), (Nat.le_of_ble_eq_true rfl)⟩ rfl hl.1 rfl (Nat.le_of_ble_eq_true rfl) dX10_blockedBy_2 (fun H locs hP hS => ?_)
  refine lv_if_eq (tgt := 12) hx hb dX10_blockedBy_5 (by decide) (fun c => ?_) (fun c => ?_)
  · have hD := ifp hD c
    refine lv_aload_n hx hb dX10_blockedBy_12 rfl (lv_at hl 0 rfl) ?_
    refine lv_iload_n hx hb dX10_blockedBy_13 rfl (lv_at hl 1 rfl) ?_
    obtain ⟨v4, z5, hD⟩ := b1_el hD
    refine rcV  (As := [.int x1]) (rest := []) Fx0 (c_X10_openBefore l hLx hAd m2 x1 z5) hP (hD1 _ (hAd _ _)) hS (hA1 _ _ (hAd _ _) hS.1) hLx (Nat.le_of_ble_eq_true rfl) (xs0 _ _) rfl tw_8_66 tw_8_63 tw_8_65 ts_123 tw_1_13 yd_X10_openBefore ⟨(Nat.le_of_ble_eq_true rfl), (Nat.le_of_ble_eq_true rfl)⟩ rfl hl.1 rfl (Nat.le_of_ble_eq_true rfl) dX10_blockedBy_14 (fun H locs hP hS => ?_)
    obtain ⟨rfl, rfl⟩ := es2 hD
    exact hret _ _ _ hP hS (fun Qc hq => W.lret hx hb hr hq hS.2.2 dX10_blockedBy_17 hlocks)
  · have hD := ifn hD c
    refine lv_lconst (v := (0 : Int64)) hx hb dX10_blockedBy_8 (by decide) ?_
    refine lv_goto (tgt := 17) hx hb dX10_blockedBy_9 (by decide) ?_
    obtain ⟨rfl, rfl⟩ := es2 hD
    exact hret _ _ _ hP hS (fun Qc hq => W.lret hx hb hr hq hS.2.2 dX10_blockedBy_17 hlocks)

noncomputable def D_X10_chain_46 (k33 : Int32 → Int32 → MM → Option (Int32 × MM)) : Nat → Int32 → Int32 → Int32 → MM → Option (Int32 × MM)
  | 0, _, _, _, _ => none
  | n + 1, x1, x2, x3, x => if (gi x 1 20) ≤ x3 then (bnd (x2 + (1 : Int32)) (fun v5 => k33 x1 v5 x)) else (if (((600 : Int32) + ((2 : Int32) * x3)) + (1 : Int32)) < 0 ∨ 640 ≤ (((600 : Int32) + ((2 : Int32) * x3)) + (1 : Int32)).toNatClampNeg then none else (if (((600 : Int32) + ((2 : Int32) * x3)) + (1 : Int32)) < 0 ∨ 640 ≤ (((600 : Int32) + ((2 : Int32) * x3)) + (1 : Int32)).toNatClampNeg then none else (if (gi x 1 ((((600 : Int32) + ((2 : Int32) * x3)) + (1 : Int32)).toNatClampNeg)) < 0 ∨ 40 ≤ (gi x 1 ((((600 : Int32) + ((2 : Int32) * x3)) + (1 : Int32)).toNatClampNeg)).toNatClampNeg then none else (if ((600 : Int32) + ((2 : Int32) * x3)) < 0 ∨ 640 ≤ ((600 : Int32) + ((2 : Int32) * x3)).toNatClampNeg then none else (if (gi x 1 (((600 : Int32) + ((2 : Int32) * x3)).toNatClampNeg)) < 0 ∨ 40 ≤ (gi x 1 (((600 : Int32) + ((2 : Int32) * x3)).toNatClampNeg)).toNatClampNeg then none else (bnd (if (gi x 8 ((gi x 1 ((((600 : Int32) + ((2 : Int32) * x3)) + (1 : Int32)).toNatClampNeg)).toNatClampNeg)) < ((gi x 8 ((gi x 1 (((600 : Int32) + ((2 : Int32) * x3)).toNatClampNeg)).toNatClampNeg)) + (1 : Int32)) then ((gi x 8 ((gi x 1 (((600 : Int32) + ((2 : Int32) * x3)).toNatClampNeg)).toNatClampNeg)) + (1 : Int32)) else (gi x 8 ((gi x 1 ((((600 : Int32) + ((2 : Int32) * x3)) + (1 : Int32)).toNatClampNeg)).toNatClampNeg))) (fun v11 => if (gi x 1 ((((600 : Int32) + ((2 : Int32) * x3)) + (1 : Int32)).toNatClampNeg)) < 0 ∨ 40 ≤ (gi x 1 ((((600 : Int32) + ((2 : Int32) * x3)) + (1 : Int32)).toNatClampNeg)).toNatClampNeg then none else (bnd (si x 8 ((gi x 1 ((((600 : Int32) + ((2 : Int32) * x3)) + (1 : Int32)).toNatClampNeg)).toNatClampNeg) v11) (fun m13 => bnd (x3 + (1 : Int32)) (fun v14 => D_X10_chain_46 k33 n x1 x2 v14 m13))))))))))
noncomputable def D_X10_chain_33 : Nat → Int32 → Int32 → MM → Option (Int32 × MM)
  | 0, _, _, _ => none
  | n + 1, x1, x2, x => if (gi x 1 20) ≤ x2 then (if x1 < 0 ∨ 40 ≤ x1.toNatClampNeg then none else (some ((gi x 8 x1.toNatClampNeg), x))) else (D_X10_chain_46 (D_X10_chain_33 n) FU x1 x2 (0 : Int32) x)
noncomputable def D_X10_chain_12 : Nat → Int32 → Int32 → MM → Option (Int32 × MM)
  | 0, _, _, _ => none
  | n + 1, x1, x2, x => if (40 : Int32) ≤ x2 then (D_X10_chain_33 FU x1 (0 : Int32) x) else (if x2 < 0 ∨ 40 ≤ x2.toNatClampNeg then none else (bnd (si x 8 x2.toNatClampNeg (0 : Int32)) (fun m16 => bnd (x2 + (1 : Int32)) (fun v17 => D_X10_chain_12 n x1 v17 m16))))
noncomputable def D_X10_chain (x1 : Int32) (x : MM) : Option (Int32 × MM) := b2 (D_X10_noSpot x1 x) (fun v1 m2 => if v1 = 0 then (D_X10_chain_12 FU x1 (0 : Int32) m2) else (some ((0 : Int32), m2)))
set_option maxHeartbeats 4000000 in
set_option maxRecDepth 100000 in
theorem c_X10_chain (l : Launch) {D : va_G} {cs : Nat → ClassId} {adx : Nat → Nat} {Wf : MM → va_W} (hLx : Ln 9 adx (xsh cs adx) Wf) (hAd : ∀ a0_ b0_ : MM, (Wf a0_).map (fun q => q.1) = (Wf b0_).map (fun q => q.1)) (x : MM) (x1 : Int32) {rr : Int32} {x' : MM} (hD : D_X10_chain x1 x = some (rr, x')) : Ct l yX10_chain cX10_chain 4 (some .int) 3 67 D cs [.ref (adx 0), .int x1] (Wf x) (Wf x') (some (.int rr)) := by
  refine Ct.ofW (by decide) (Nat.le_of_ble_eq_true rfl) (hAd _ _) ?_
  intro p e s m0 below meth c A Q ls args hx hb hr hml hlocks hown hts hK hP hD1 hSS hS hA1 hl hret
  have hT : ∀ w ∈ TBL, w.before args s = true := fun w h => hts w (List.mem_cons_of_mem _ h)
  have Fx0 : Fx p l m0 c cX10_chain 4 s args yX10_chain cX10_chain 4 (some .int) D cs A := ⟨hx, hb, hml, hown, hts, hK, hSS⟩
  have hown : s.vm.findClass RX10 = some m0.cls := hown
  have hl : lv_has ls 4 [(0, .ref (adx 0)), (1, .int x1)] := hl
  unfold D_X10_chain at hD
  have c_46 : ∀ (k33 : Int32 → Int32 → MM → Option (Int32 × MM)) (hk33 : ∀ (x1 : Int32) (x2 : Int32) (x : MM) (H : Heap) (locs : List Loc) (ls : Array Slot), k33 x1 x2 x = some (rr, x') → va_P D vwCl (Wf x) H → va_S A s.heap H locs → lv_has ls 4 [(0, .ref (adx 0)), (1, .int x1), (2, .int x2)] → W p l e ({ frames := 3, cells := 0, slots := 0, locals := 67 } : Room) s m0 args below meth c H locs 0 0 Q (F0 m0 33 ls [])) (n : Nat), ∀ (x1 : Int32) (x2 : Int32) (x3 : Int32) (x : MM) (H : Heap) (locs : List Loc) (ls : Array Slot), D_X10_chain_46 k33 n x1 x2 x3 x = some (rr, x') → va_P D vwCl (Wf x) H → va_S A s.heap H locs → lv_has ls 4 [(0, .ref (adx 0)), (1, .int x1), (2, .int x2), (3, .int x3)] → W p l e ({ frames := 3, cells := 0, slots := 0, locals := 67 } : Room) s m0 args below meth c H locs 0 0 Q (F0 m0 46 ls []) := by
    intro k33 hk33 n
    induction n with
    | zero =>
      intro x1 x2 x3 x H locs ls hD hP hS hl
      exact nn_el hD
    | succ n ih =>
      intro x1 x2 x3 x H locs ls hD hP hS hl
      rw [D_X10_chain_46] at hD
      refine lv_iload_n hx hb dX10_chain_46 rfl (lv_at hl 3 rfl) ?_
      refine lv_aload_n hx hb dX10_chain_47 rfl (lv_at hl 0 rfl) ?_
      refine rg  hx hb hT hu10 hown hK hP hLx 0 0 (Nat.le_of_ble_eq_true rfl) (xs0 _ _) rfl (Nat.le_of_ble_eq_true rfl) (Fx0.T tw_6_215) rfl (v := .ref (adx 1)) rfl dX10_chain_48 ?_
      refine lv_bipush (v := (20 : Int32)) hx hb dX10_chain_51 (by decide) ?_
      refine riald  hx hb hK hP hLx 1 (Nat.le_of_ble_eq_true rfl) (xs1 _ _) (by decide) (j := 20) (by decide) dX10_chain_53 ?_
      refine lv_icmp_ge (tgt := 123) hx hb dX10_chain_54 (by decide) (fun c => ?_) (fun c => ?_)
      · have hD := ifp hD c
        obtain ⟨v5, ev5, hD⟩ := bnd_el hD
        refine lv_iinc (v := v5) (lv' := [(2, .int v5), (0, .ref (adx 0)), (1, .int x1), (3, .int x3)]) hx hb dX10_chain_123 hl (k := 2) rfl (by rw [ev5]; rfl) (by decide) rfl (fun ls hl => ?_)
        refine lv_goto (tgt := 33) hx hb dX10_chain_126 (by decide) ?_
        exact hk33 _ _ _ _ _ _ hD hP hS (lv_sub hl [1, 2, 0] rfl)
      · have hD := ifn hD c
        refine lv_aload_n hx hb dX10_chain_57 rfl (lv_at hl 0 rfl) ?_
        refine rg  hx hb hT hu10 hown hK hP hLx 0 15 (Nat.le_of_ble_eq_true rfl) (xs0 _ _) rfl (Nat.le_of_ble_eq_true rfl) (Fx0.T tw_6_230) rfl (v := .ref (adx 8)) rfl dX10_chain_58 ?_
        refine lv_aload_n hx hb dX10_chain_61 rfl (lv_at hl 0 rfl) ?_
        refine rg  hx hb hT hu10 hown hK hP hLx 0 0 (Nat.le_of_ble_eq_true rfl) (xs0 _ _) rfl (Nat.le_of_ble_eq_true rfl) (Fx0.T tw_6_215) rfl (v := .ref (adx 1)) rfl dX10_chain_62 ?_
        refine lv_sipush (v := (600 : Int32)) hx hb dX10_chain_65 (by decide) ?_
        refine lv_iconst (v := (2 : Int32)) hx hb dX10_chain_68 (by decide) ?_
        refine lv_iload_n hx hb dX10_chain_69 rfl (lv_at hl 3 rfl) ?_
        refine lv_imul hx hb dX10_chain_70 ?_
        refine lv_iadd hx hb dX10_chain_71 ?_
        refine lv_iconst (v := (1 : Int32)) hx hb dX10_chain_72 (by decide) ?_
        refine lv_iadd hx hb dX10_chain_73 ?_
        obtain ⟨h6, hD⟩ := gd_el hD
        refine riald  hx hb hK hP hLx 1 (Nat.le_of_ble_eq_true rfl) (xs1 _ _) h6 rfl dX10_chain_74 ?_
        refine lv_aload_n hx hb dX10_chain_75 rfl (lv_at hl 0 rfl) ?_
        refine rg  hx hb hT hu10 hown hK hP hLx 0 15 (Nat.le_of_ble_eq_true rfl) (xs0 _ _) rfl (Nat.le_of_ble_eq_true rfl) (Fx0.T tw_6_230) rfl (v := .ref (adx 8)) rfl dX10_chain_76 ?_
        refine lv_aload_n hx hb dX10_chain_79 rfl (lv_at hl 0 rfl) ?_
        refine rg  hx hb hT hu10 hown hK hP hLx 0 0 (Nat.le_of_ble_eq_true rfl) (xs0 _ _) rfl (Nat.le_of_ble_eq_true rfl) (Fx0.T tw_6_215) rfl (v := .ref (adx 1)) rfl dX10_chain_80 ?_
        refine lv_sipush (v := (600 : Int32)) hx hb dX10_chain_83 (by decide) ?_
        refine lv_iconst (v := (2 : Int32)) hx hb dX10_chain_86 (by decide) ?_
        refine lv_iload_n hx hb dX10_chain_87 rfl (lv_at hl 3 rfl) ?_
        refine lv_imul hx hb dX10_chain_88 ?_
        refine lv_iadd hx hb dX10_chain_89 ?_
        refine lv_iconst (v := (1 : Int32)) hx hb dX10_chain_90 (by decide) ?_
        refine lv_iadd hx hb dX10_chain_91 ?_
        obtain ⟨h7, hD⟩ := gd_el hD
        refine riald  hx hb hK hP hLx 1 (Nat.le_of_ble_eq_true rfl) (xs1 _ _) h7 rfl dX10_chain_92 ?_
        obtain ⟨h8, hD⟩ := gd_el hD
        refine riald  hx hb hK hP hLx 8 (Nat.le_of_ble_eq_true rfl) (xs8 _ _) h8 rfl dX10_chain_93 ?_
        refine lv_aload_n hx hb dX10_chain_94 rfl (lv_at hl 0 rfl) ?_
        refine rg  hx hb hT hu10 hown hK hP hLx 0 15 (Nat.le_of_ble_eq_true rfl) (xs0 _ _) rfl (Nat.le_of_ble_eq_true rfl) (Fx0.T tw_6_230) rfl (v := .ref (adx 8)) rfl dX10_chain_95 ?_
        refine lv_aload_n hx hb dX10_chain_98 rfl (lv_at hl 0 rfl) ?_
        refine rg  hx hb hT hu10 hown hK hP hLx 0 0 (Nat.le_of_ble_eq_true rfl) (xs0 _ _) rfl (Nat.le_of_ble_eq_true rfl) (Fx0.T tw_6_215) rfl (v := .ref (adx 1)) rfl dX10_chain_99 ?_
        refine lv_sipush (v := (600 : Int32)) hx hb dX10_chain_102 (by decide) ?_
        refine lv_iconst (v := (2 : Int32)) hx hb dX10_chain_105 (by decide) ?_
        refine lv_iload_n hx hb dX10_chain_106 rfl (lv_at hl 3 rfl) ?_
        refine lv_imul hx hb dX10_chain_107 ?_
        refine lv_iadd hx hb dX10_chain_108 ?_
        obtain ⟨h9, hD⟩ := gd_el hD
        refine riald  hx hb hK hP hLx 1 (Nat.le_of_ble_eq_true rfl) (xs1 _ _) h9 rfl dX10_chain_109 ?_
        obtain ⟨h10, hD⟩ := gd_el hD
        refine riald  hx hb hK hP hLx 8 (Nat.le_of_ble_eq_true rfl) (xs8 _ _) h10 rfl dX10_chain_110 ?_
        refine lv_iconst (v := (1 : Int32)) hx hb dX10_chain_111 (by decide) ?_
        refine lv_iadd hx hb dX10_chain_112 ?_
        refine va_mmax hx hb (hml.trans hl.1.symm) hown (Fx0.T tw_8_75) (Fx0.T tw_4_94) (Fx0.T tw_1_14) (Fx0.T tw_4_95) (Nat.le_of_ble_eq_true rfl) (Nat.le_of_ble_eq_true rfl) (Nat.le_refl _) (Nat.le_refl _) dX10_chain_113 ?_
        obtain ⟨v11, ev11, hD⟩ := bnd_el hD
        refine lv_nmi ev11 ?_
        obtain ⟨h12, hD⟩ := gd_el hD
        obtain ⟨m13, em13, hD⟩ := bnd_el hD
        refine riast  hx hb hK hP (hD1 _ (hAd _ _)) hS hLx 8 (Nat.le_of_ble_eq_true rfl) (fun _ => xs8 _ _) h12 rfl dX10_chain_116 em13 (fun H locs hP hS => ?_)
        obtain ⟨v14, ev14, hD⟩ := bnd_el hD
        refine lv_iinc (v := v14) (lv' := [(3, .int v14), (0, .ref (adx 0)), (1, .int x1), (2, .int x2)]) hx hb dX10_chain_117 hl (k := 3) rfl (by rw [ev14]; rfl) (by decide) rfl (fun ls hl => ?_)
        refine lv_goto (tgt := 46) hx hb dX10_chain_120 (by decide) ?_
        exact ih _ _ _ _ _ _ _ hD hP hS (lv_sub hl [1, 2, 3, 0] rfl)
  have c_33 : ∀ (n : Nat), ∀ (x1 : Int32) (x2 : Int32) (x : MM) (H : Heap) (locs : List Loc) (ls : Array Slot), D_X10_chain_33 n x1 x2 x = some (rr, x') → va_P D vwCl (Wf x) H → va_S A s.heap H locs → lv_has ls 4 [(0, .ref (adx 0)), (1, .int x1), (2, .int x2)] → W p l e ({ frames := 3, cells := 0, slots := 0, locals := 67 } : Room) s m0 args below meth c H locs 0 0 Q (F0 m0 33 ls []) := by
    intro n
    induction n with
    | zero =>
      intro x1 x2 x H locs ls hD hP hS hl
      exact nn_el hD
    | succ n ih =>
      intro x1 x2 x H locs ls hD hP hS hl
      rw [D_X10_chain_33] at hD
      refine lv_iload_n hx hb dX10_chain_33 rfl (lv_at hl 2 rfl) ?_
      refine lv_aload_n hx hb dX10_chain_34 rfl (lv_at hl 0 rfl) ?_
      refine rg  hx hb hT hu10 hown hK hP hLx 0 0 (Nat.le_of_ble_eq_true rfl) (xs0 _ _) rfl (Nat.le_of_ble_eq_true rfl) (Fx0.T tw_6_215) rfl (v := .ref (adx 1)) rfl dX10_chain_35 ?_
      refine lv_bipush (v := (20 : Int32)) hx hb dX10_chain_38 (by decide) ?_
      refine riald  hx hb hK hP hLx 1 (Nat.le_of_ble_eq_true rfl) (xs1 _ _) (by decide) (j := 20) (by decide) dX10_chain_40 ?_
      refine lv_icmp_ge (tgt := 129) hx hb dX10_chain_41 (by decide) (fun c => ?_) (fun c => ?_)
      · have hD := ifp hD c
        refine lv_aload_n hx hb dX10_chain_129 rfl (lv_at hl 0 rfl) ?_
        refine rg  hx hb hT hu10 hown hK hP hLx 0 15 (Nat.le_of_ble_eq_true rfl) (xs0 _ _) rfl (Nat.le_of_ble_eq_true rfl) (Fx0.T tw_6_230) rfl (v := .ref (adx 8)) rfl dX10_chain_130 ?_
        refine lv_iload_n hx hb dX10_chain_133 rfl (lv_at hl 1 rfl) ?_
        obtain ⟨h4, hD⟩ := gd_el hD
        refine riald  hx hb hK hP hLx 8 (Nat.le_of_ble_eq_true rfl) (xs8 _ _) h4 rfl dX10_chain_134 ?_
        obtain ⟨rfl, rfl⟩ := es2 hD
        exact hret _ _ _ hP hS (fun Qc hq => W.iret hx hb hr hq hS.2.2 dX10_chain_135 hlocks)
      · have hD := ifn hD c
        refine lv_iconst (v := (0 : Int32)) hx hb dX10_chain_44 (by decide) ?_
        refine lv_istore_n (lv' := [(3, .int (0 : Int32)), (0, .ref (adx 0)), (1, .int x1), (2, .int x2)]) hx hb dX10_chain_45 rfl hl (by decide) rfl (fun ls hl => ?_)
        exact c_46 _ ih FU _ _ _ _ _ _ _ hD hP hS (lv_sub hl [1, 2, 3, 0] rfl)
  have c_12 : ∀ (n : Nat), ∀ (x1 : Int32) (x2 : Int32) (x : MM) (H : Heap) (locs : List Loc) (ls : Array Slot), D_X10_chain_12 n x1 x2 x = some (rr, x') → va_P D vwCl (Wf x) H → va_S A s.heap H locs → lv_has ls 4 [(0, .ref (adx 0)), (1, .int x1), (2, .int x2)] → W p l e ({ frames := 3, cells := 0, slots := 0, locals := 67 } : Room) s m0 args below meth c H locs 0 0 Q (F0 m0 12 ls []) := by
    intro n
    induction n with
    | zero =>
      intro x1 x2 x H locs ls hD hP hS hl
      exact nn_el hD
    | succ n ih =>
      intro x1 x2 x H locs ls hD hP hS hl
      rw [D_X10_chain_12] at hD
      refine lv_iload_n hx hb dX10_chain_12 rfl (lv_at hl 2 rfl) ?_
      refine lv_bipush (v := (40 : Int32)) hx hb dX10_chain_13 (by decide) ?_
      refine lv_icmp_ge (tgt := 31) hx hb dX10_chain_15 (by decide) (fun c => ?_) (fun c => ?_)
      · have hD := ifp hD c
        refine lv_iconst (v := (0 : Int32)) hx hb dX10_chain_31 (by decide) ?_
        refine lv_istore_n (lv' := [(2, .int (0 : Int32)), (0, .ref (adx 0)), (1, .int x1)]) hx hb dX10_chain_32 rfl hl (by decide) rfl (fun ls hl => ?_)
        exact c_33 FU _ _ _ _ _ _ hD hP hS (lv_sub hl [1, 2, 0] rfl)
      · have hD := ifn hD c
        refine lv_aload_n hx hb dX10_chain_18 rfl (lv_at hl 0 rfl) ?_
        refine rg  hx hb hT hu10 hown hK hP hLx 0 15 (Nat.le_of_ble_eq_true rfl) (xs0 _ _) rfl (Nat.le_of_ble_eq_true rfl) (Fx0.T tw_6_230) rfl (v := .ref (adx 8)) rfl dX10_chain_19 ?_
        refine lv_iload_n hx hb dX10_chain_22 rfl (lv_at hl 2 rfl) ?_
        refine lv_iconst (v := (0 : Int32)) hx hb dX10_chain_23 (by decide) ?_
        obtain ⟨h15, hD⟩ := gd_el hD
        obtain ⟨m16, em16, hD⟩ := bnd_el hD
        refine riast  hx hb hK hP (hD1 _ (hAd _ _)) hS hLx 8 (Nat.le_of_ble_eq_true rfl) (fun _ => xs8 _ _) h15 rfl dX10_chain_24 em16 (fun H locs hP hS => ?_)
        obtain ⟨v17, ev17, hD⟩ := bnd_el hD
        refine lv_iinc (v := v17) (lv' := [(2, .int v17), (0, .ref (adx 0)), (1, .int x1)]) hx hb dX10_chain_25 hl (k := 2) rfl (by rw [ev17]; rfl) (by decide) rfl (fun ls hl => ?_)
        refine lv_goto (tgt := 12) hx hb dX10_chain_28 (by decide) ?_
        exact ih _ _ _ _ _ _ hD hP hS (lv_sub hl [1, 2, 0] rfl)
  refine lv_aload_n hx hb dX10_chain_0 rfl (lv_at hl 0 rfl) ?_
  refine lv_iload_n hx hb dX10_chain_1 rfl (lv_at hl 1 rfl) ?_
  obtain ⟨v1, m2, z3, hD⟩ := b2_el hD
  refine rcV  (As := [.int x1]) (rest := []) Fx0 (c_X10_noSpot l hLx hAd x x1 z3) hP (hD1 _ (hAd _ _)) hS (hA1 _ _ (hAd _ _) hS.1) hLx (Nat.le_of_ble_eq_true rfl) (xs0 _ _) rfl tw_8_34 tw_8_31 tw_8_33 ts_119 tw_1_13 yd_X10_noSpot ⟨(Nat.le_of_ble_eq_true rfl), (Nat.le_of_ble_eq_true rfl)⟩ rfl hl.1 rfl (Nat.le_of_ble_eq_true rfl) dX10_chain_2 (fun H locs hP hS => ?_)
  refine lv_if_eq (tgt := 10) hx hb dX10_chain_5 (by decide) (fun c => ?_) (fun c => ?_)
  · have hD := ifp hD c
    refine lv_iconst (v := (0 : Int32)) hx hb dX10_chain_10 (by decide) ?_
    refine lv_istore_n (lv' := [(2, .int (0 : Int32)), (0, .ref (adx 0)), (1, .int x1)]) hx hb dX10_chain_11 rfl hl (by decide) rfl (fun ls hl => ?_)
    exact c_12 FU _ _ _ _ _ _ hD hP hS (lv_sub hl [1, 2, 0] rfl)
  · have hD := ifn hD c
    refine lv_iconst (v := (0 : Int32)) hx hb dX10_chain_8 (by decide) ?_
    obtain ⟨rfl, rfl⟩ := es2 hD
    exact hret _ _ _ hP hS (fun Qc hq => W.iret hx hb hr hq hS.2.2 dX10_chain_9 hlocks)

noncomputable def D_X10_fillableSet_9 : Nat → Int64 → Int32 → MM → Option (Int64 × MM)
  | 0, _, _, _ => none
  | n + 1, x1, x3, x => if (gi x 1 19) ≤ x3 then (some (x1, x)) else (b1 (D_X10_isFillable x3 x) (fun v2 => if v2 = 0 then (bnd ((x1 ||| (0 : Int64))) (fun v4 => bnd (x3 + (1 : Int32)) (fun v5 => D_X10_fillableSet_9 n v4 v5 x))) else (bnd ((x1 ||| ((1 : Int64) <<< (x3.toInt64 &&& 63)))) (fun v6 => bnd (x3 + (1 : Int32)) (fun v7 => D_X10_fillableSet_9 n v6 v7 x)))))
noncomputable def D_X10_fillableSet (x : MM) : Option (Int64 × MM) := bnd (si x 0 6 (0 : Int32)) (fun m1 => D_X10_fillableSet_9 FU (0 : Int64) (0 : Int32) m1)
set_option maxHeartbeats 4000000 in
set_option maxRecDepth 100000 in
theorem c_X10_fillableSet (l : Launch) {D : va_G} {cs : Nat → ClassId} {adx : Nat → Nat} {Wf : MM → va_W} (hLx : Ln 9 adx (xsh cs adx) Wf) (hAd : ∀ a0_ b0_ : MM, (Wf a0_).map (fun q => q.1) = (Wf b0_).map (fun q => q.1)) (x : MM) {rr : Int64} {x' : MM} (hD : D_X10_fillableSet x = some (rr, x')) : Ct l yX10_fillableSet cX10_fillableSet 4 (some .long) 4 88 D cs [.ref (adx 0)] (Wf x) (Wf x') (some (.long rr)) := by
  refine Ct.ofW (by decide) (Nat.le_of_ble_eq_true rfl) (hAd _ _) ?_
  intro p e s m0 below meth c A Q ls args hx hb hr hml hlocks hown hts hK hP hD1 hSS hS hA1 hl hret
  have hT : ∀ w ∈ TBL, w.before args s = true := fun w h => hts w (List.mem_cons_of_mem _ h)
  have Fx0 : Fx p l m0 c cX10_fillableSet 4 s args yX10_fillableSet cX10_fillableSet 4 (some .long) D cs A := ⟨hx, hb, hml, hown, hts, hK, hSS⟩
  have hown : s.vm.findClass RX10 = some m0.cls := hown
  have hl : lv_has ls 4 [(0, .ref (adx 0))] := hl
  unfold D_X10_fillableSet at hD
  have c_9 : ∀ (n : Nat), ∀ (x1 : Int64) (x3 : Int32) (x : MM) (H : Heap) (locs : List Loc) (ls : Array Slot), D_X10_fillableSet_9 n x1 x3 x = some (rr, x') → va_P D vwCl (Wf x) H → va_S A s.heap H locs → lv_has ls 4 [(0, .ref (adx 0)), (1, .long x1), (3, .int x3)] → W p l e ({ frames := 4, cells := 0, slots := 0, locals := 88 } : Room) s m0 args below meth c H locs 0 0 Q (F0 m0 9 ls []) := by
    intro n
    induction n with
    | zero =>
      intro x1 x3 x H locs ls hD hP hS hl
      exact nn_el hD
    | succ n ih =>
      intro x1 x3 x H locs ls hD hP hS hl
      rw [D_X10_fillableSet_9] at hD
      refine lv_iload_n hx hb dX10_fillableSet_9 rfl (lv_at hl 2 rfl) ?_
      refine lv_aload_n hx hb dX10_fillableSet_10 rfl (lv_at hl 0 rfl) ?_
      refine rg  hx hb hT hu10 hown hK hP hLx 0 0 (Nat.le_of_ble_eq_true rfl) (xs0 _ _) rfl (Nat.le_of_ble_eq_true rfl) (Fx0.T tw_6_215) rfl (v := .ref (adx 1)) rfl dX10_fillableSet_11 ?_
      refine lv_bipush (v := (19 : Int32)) hx hb dX10_fillableSet_14 (by decide) ?_
      refine riald  hx hb hK hP hLx 1 (Nat.le_of_ble_eq_true rfl) (xs1 _ _) (by decide) (j := 19) (by decide) dX10_fillableSet_16 ?_
      refine lv_icmp_ge (tgt := 44) hx hb dX10_fillableSet_17 (by decide) (fun c => ?_) (fun c => ?_)
      · have hD := ifp hD c
        refine lv_lload_n hx hb dX10_fillableSet_44 rfl (lv_at hl 1 rfl) ?_
        obtain ⟨rfl, rfl⟩ := es2 hD
        exact hret _ _ _ hP hS (fun Qc hq => W.lret hx hb hr hq hS.2.2 dX10_fillableSet_45 hlocks)
      · have hD := ifn hD c
        refine lv_lload_n hx hb dX10_fillableSet_20 rfl (lv_at hl 1 rfl) ?_
        refine lv_aload_n hx hb dX10_fillableSet_21 rfl (lv_at hl 0 rfl) ?_
        refine lv_iload_n hx hb dX10_fillableSet_22 rfl (lv_at hl 2 rfl) ?_
        obtain ⟨v2, z3, hD⟩ := b1_el hD
        refine rcV  (As := [.int x3]) (rest := [.long x1]) Fx0 (c_X10_isFillable l hLx hAd x x3 z3) hP (hD1 _ (hAd _ _)) hS (hA1 _ _ (hAd _ _) hS.1) hLx (Nat.le_of_ble_eq_true rfl) (xs0 _ _) rfl tw_8_83 tw_8_80 tw_8_82 ts_125 tw_1_13 yd_X10_isFillable ⟨(Nat.le_of_ble_eq_true rfl), (Nat.le_of_ble_eq_true rfl)⟩ rfl hl.1 rfl (Nat.le_of_ble_eq_true rfl) dX10_fillableSet_23 (fun H locs hP hS => ?_)
        refine lv_if_eq (tgt := 35) hx hb dX10_fillableSet_26 (by decide) (fun c => ?_) (fun c => ?_)
        · have hD := ifp hD c
          refine lv_lconst (v := (0 : Int64)) hx hb dX10_fillableSet_35 (by decide) ?_
          refine lv_lor hx hb dX10_fillableSet_36 ?_
          obtain ⟨v4, ev4, hD⟩ := bnd_el hD
          refine lv_nml ev4 ?_
          refine lv_lstore_n (lv' := [(1, .long v4), (0, .ref (adx 0)), (3, .int x3)]) hx hb dX10_fillableSet_37 rfl hl (by decide) rfl (fun ls hl => ?_)
          obtain ⟨v5, ev5, hD⟩ := bnd_el hD
          refine lv_iinc (v := v5) (lv' := [(3, .int v5), (1, .long v4), (0, .ref (adx 0))]) hx hb dX10_fillableSet_38 hl (k := 2) rfl (by rw [ev5]; rfl) (by decide) rfl (fun ls hl => ?_)
          refine lv_goto (tgt := 9) hx hb dX10_fillableSet_41 (by decide) ?_
          exact ih _ _ _ _ _ _ hD hP hS (lv_sub hl [2, 1, 0] rfl)
        · have hD := ifn hD c
          refine lv_lconst (v := (1 : Int64)) hx hb dX10_fillableSet_29 (by decide) ?_
          refine lv_iload_n hx hb dX10_fillableSet_30 rfl (lv_at hl 2 rfl) ?_
          refine lv_lshl (v := ((1 : Int64) <<< (x3.toInt64 &&& 63))) hx hb dX10_fillableSet_31 rfl ?_
          refine lv_goto (tgt := 36) hx hb dX10_fillableSet_32 (by decide) ?_
          refine lv_lor hx hb dX10_fillableSet_36 ?_
          obtain ⟨v6, ev6, hD⟩ := bnd_el hD
          refine lv_nml ev6 ?_
          refine lv_lstore_n (lv' := [(1, .long v6), (0, .ref (adx 0)), (3, .int x3)]) hx hb dX10_fillableSet_37 rfl hl (by decide) rfl (fun ls hl => ?_)
          obtain ⟨v7, ev7, hD⟩ := bnd_el hD
          refine lv_iinc (v := v7) (lv' := [(3, .int v7), (1, .long v6), (0, .ref (adx 0))]) hx hb dX10_fillableSet_38 hl (k := 2) rfl (by rw [ev7]; rfl) (by decide) rfl (fun ls hl => ?_)
          refine lv_goto (tgt := 9) hx hb dX10_fillableSet_41 (by decide) ?_
          exact ih _ _ _ _ _ _ hD hP hS (lv_sub hl [2, 1, 0] rfl)
  refine lv_aload_n hx hb dX10_fillableSet_0 rfl (lv_at hl 0 rfl) ?_
  refine lv_iconst (v := (0 : Int32)) hx hb dX10_fillableSet_1 (by decide) ?_
  obtain ⟨m1, em1, hD⟩ := bnd_el hD
  refine rp  hx hb hT hu10 tyX10_ok nmX10 hown hK hP (hD1 _ (hAd _ _)) hS hLx 0 6 (Nat.le_of_ble_eq_true rfl) (xs0 _ _) (xs0 _ _) rfl (Nat.le_of_ble_eq_true rfl) (Fx0.T tw_6_221) rfl rfl rfl rfl (Nat.le_of_ble_eq_true rfl) dX10_fillableSet_2 em1 (fun H locs hP hS => ?_)
  refine lv_lconst (v := (0 : Int64)) hx hb dX10_fillableSet_5 (by decide) ?_
  refine lv_lstore_n (lv' := [(1, .long (0 : Int64)), (0, .ref (adx 0))]) hx hb dX10_fillableSet_6 rfl hl (by decide) rfl (fun ls hl => ?_)
  refine lv_iconst (v := (0 : Int32)) hx hb dX10_fillableSet_7 (by decide) ?_
  refine lv_istore_n (lv' := [(3, .int (0 : Int32)), (1, .long (0 : Int64)), (0, .ref (adx 0))]) hx hb dX10_fillableSet_8 rfl hl (by decide) rfl (fun ls hl => ?_)
  exact c_9 FU _ _ _ _ _ _ hD hP hS (lv_sub hl [2, 1, 0] rfl)

noncomputable def D_X10_openSpots (x1 : Int32) (x : MM) : Option (Int32 × MM) := b2 (D_X10_noKind x1 x) (fun v1 m2 => if v1 = 0 then (b1 (D_X10_spotsIn x1 (0 : Int32) m2) (fun v4 => some (v4, m2))) else (some ((0 : Int32), m2)))
set_option maxHeartbeats 4000000 in
set_option maxRecDepth 100000 in
theorem c_X10_openSpots (l : Launch) {D : va_G} {cs : Nat → ClassId} {adx : Nat → Nat} {Wf : MM → va_W} (hLx : Ln 9 adx (xsh cs adx) Wf) (hAd : ∀ a0_ b0_ : MM, (Wf a0_).map (fun q => q.1) = (Wf b0_).map (fun q => q.1)) (x : MM) (x1 : Int32) {rr : Int32} {x' : MM} (hD : D_X10_openSpots x1 x = some (rr, x')) : Ct l yX10_openSpots cX10_openSpots 2 (some .int) 2 46 D cs [.ref (adx 0), .int x1] (Wf x) (Wf x') (some (.int rr)) := by
  refine Ct.ofW (by decide) (Nat.le_of_ble_eq_true rfl) (hAd _ _) ?_
  intro p e s m0 below meth c A Q ls args hx hb hr hml hlocks hown hts hK hP hD1 hSS hS hA1 hl hret
  have hT : ∀ w ∈ TBL, w.before args s = true := fun w h => hts w (List.mem_cons_of_mem _ h)
  have Fx0 : Fx p l m0 c cX10_openSpots 2 s args yX10_openSpots cX10_openSpots 2 (some .int) D cs A := ⟨hx, hb, hml, hown, hts, hK, hSS⟩
  have hown : s.vm.findClass RX10 = some m0.cls := hown
  have hl : lv_has ls 2 [(0, .ref (adx 0)), (1, .int x1)] := hl
  unfold D_X10_openSpots at hD
  refine lv_aload_n hx hb dX10_openSpots_0 rfl (lv_at hl 0 rfl) ?_
  refine lv_iload_n hx hb dX10_openSpots_1 rfl (lv_at hl 1 rfl) ?_
  obtain ⟨v1, m2, z3, hD⟩ := b2_el hD
  refine rcV  (As := [.int x1]) (rest := []) Fx0 (c_X10_noKind l hLx hAd x x1 z3) hP (hD1 _ (hAd _ _)) hS (hA1 _ _ (hAd _ _) hS.1) hLx (Nat.le_of_ble_eq_true rfl) (xs0 _ _) rfl tw_7_206 tw_7_203 tw_7_205 ts_110 tw_1_13 yd_X10_noKind ⟨(Nat.le_of_ble_eq_true rfl), (Nat.le_of_ble_eq_true rfl)⟩ rfl hl.1 rfl (Nat.le_of_ble_eq_true rfl) dX10_openSpots_2 (fun H locs hP hS => ?_)
  refine lv_if_eq (tgt := 12) hx hb dX10_openSpots_5 (by decide) (fun c => ?_) (fun c => ?_)
  · have hD := ifp hD c
    refine lv_aload_n hx hb dX10_openSpots_12 rfl (lv_at hl 0 rfl) ?_
    refine lv_iload_n hx hb dX10_openSpots_13 rfl (lv_at hl 1 rfl) ?_
    refine lv_iconst (v := (0 : Int32)) hx hb dX10_openSpots_14 (by decide) ?_
    obtain ⟨v4, z5, hD⟩ := b1_el hD
    refine rcV  (As := [.int x1, .int (0 : Int32)]) (rest := []) Fx0 (c_X10_spotsIn l hLx hAd m2 x1 (0 : Int32) z5) hP (hD1 _ (hAd _ _)) hS (hA1 _ _ (hAd _ _) hS.1) hLx (Nat.le_of_ble_eq_true rfl) (xs0 _ _) rfl tw_8_91 tw_8_88 tw_8_90 ts_126 tw_1_13 yd_X10_spotsIn ⟨(Nat.le_of_ble_eq_true rfl), (Nat.le_of_ble_eq_true rfl)⟩ rfl hl.1 rfl (Nat.le_of_ble_eq_true rfl) dX10_openSpots_15 (fun H locs hP hS => ?_)
    obtain ⟨rfl, rfl⟩ := es2 hD
    exact hret _ _ _ hP hS (fun Qc hq => W.iret hx hb hr hq hS.2.2 dX10_openSpots_18 hlocks)
  · have hD := ifn hD c
    refine lv_iconst (v := (0 : Int32)) hx hb dX10_openSpots_8 (by decide) ?_
    refine lv_goto (tgt := 18) hx hb dX10_openSpots_9 (by decide) ?_
    obtain ⟨rfl, rfl⟩ := es2 hD
    exact hret _ _ _ hP hS (fun Qc hq => W.iret hx hb hr hq hS.2.2 dX10_openSpots_18 hlocks)

noncomputable def D_X10_filledSet_9 : Nat → Int64 → Int32 → MM → Option (Int64 × MM)
  | 0, _, _, _ => none
  | n + 1, x1, x3, x => if (gi x 1 19) ≤ x3 then (some (x1, x)) else (b1 (D_X10_ofSpot x3 (3 : Int32) x) (fun v2 => if v2 = (1 : Int32) then (bnd ((x1 ||| ((1 : Int64) <<< (x3.toInt64 &&& 63)))) (fun v6 => bnd (x3 + (1 : Int32)) (fun v7 => D_X10_filledSet_9 n v6 v7 x))) else (bnd ((x1 ||| (0 : Int64))) (fun v4 => bnd (x3 + (1 : Int32)) (fun v5 => D_X10_filledSet_9 n v4 v5 x)))))
noncomputable def D_X10_filledSet (x : MM) : Option (Int64 × MM) := bnd (si x 0 6 (0 : Int32)) (fun m1 => D_X10_filledSet_9 FU (0 : Int64) (0 : Int32) m1)
set_option maxHeartbeats 4000000 in
set_option maxRecDepth 100000 in
theorem c_X10_filledSet (l : Launch) {D : va_G} {cs : Nat → ClassId} {adx : Nat → Nat} {Wf : MM → va_W} (hLx : Ln 9 adx (xsh cs adx) Wf) (hAd : ∀ a0_ b0_ : MM, (Wf a0_).map (fun q => q.1) = (Wf b0_).map (fun q => q.1)) (x : MM) {rr : Int64} {x' : MM} (hD : D_X10_filledSet x = some (rr, x')) : Ct l yX10_filledSet cX10_filledSet 4 (some .long) 1 22 D cs [.ref (adx 0)] (Wf x) (Wf x') (some (.long rr)) := by
  refine Ct.ofW (by decide) (Nat.le_of_ble_eq_true rfl) (hAd _ _) ?_
  intro p e s m0 below meth c A Q ls args hx hb hr hml hlocks hown hts hK hP hD1 hSS hS hA1 hl hret
  have hT : ∀ w ∈ TBL, w.before args s = true := fun w h => hts w (List.mem_cons_of_mem _ h)
  have Fx0 : Fx p l m0 c cX10_filledSet 4 s args yX10_filledSet cX10_filledSet 4 (some .long) D cs A := ⟨hx, hb, hml, hown, hts, hK, hSS⟩
  have hown : s.vm.findClass RX10 = some m0.cls := hown
  have hl : lv_has ls 4 [(0, .ref (adx 0))] := hl
  unfold D_X10_filledSet at hD
  have c_9 : ∀ (n : Nat), ∀ (x1 : Int64) (x3 : Int32) (x : MM) (H : Heap) (locs : List Loc) (ls : Array Slot), D_X10_filledSet_9 n x1 x3 x = some (rr, x') → va_P D vwCl (Wf x) H → va_S A s.heap H locs → lv_has ls 4 [(0, .ref (adx 0)), (1, .long x1), (3, .int x3)] → W p l e ({ frames := 1, cells := 0, slots := 0, locals := 22 } : Room) s m0 args below meth c H locs 0 0 Q (F0 m0 9 ls []) := by
    intro n
    induction n with
    | zero =>
      intro x1 x3 x H locs ls hD hP hS hl
      exact nn_el hD
    | succ n ih =>
      intro x1 x3 x H locs ls hD hP hS hl
      rw [D_X10_filledSet_9] at hD
      refine lv_iload_n hx hb dX10_filledSet_9 rfl (lv_at hl 2 rfl) ?_
      refine lv_aload_n hx hb dX10_filledSet_10 rfl (lv_at hl 0 rfl) ?_
      refine rg  hx hb hT hu10 hown hK hP hLx 0 0 (Nat.le_of_ble_eq_true rfl) (xs0 _ _) rfl (Nat.le_of_ble_eq_true rfl) (Fx0.T tw_6_215) rfl (v := .ref (adx 1)) rfl dX10_filledSet_11 ?_
      refine lv_bipush (v := (19 : Int32)) hx hb dX10_filledSet_14 (by decide) ?_
      refine riald  hx hb hK hP hLx 1 (Nat.le_of_ble_eq_true rfl) (xs1 _ _) (by decide) (j := 19) (by decide) dX10_filledSet_16 ?_
      refine lv_icmp_ge (tgt := 46) hx hb dX10_filledSet_17 (by decide) (fun c => ?_) (fun c => ?_)
      · have hD := ifp hD c
        refine lv_lload_n hx hb dX10_filledSet_46 rfl (lv_at hl 1 rfl) ?_
        obtain ⟨rfl, rfl⟩ := es2 hD
        exact hret _ _ _ hP hS (fun Qc hq => W.lret hx hb hr hq hS.2.2 dX10_filledSet_47 hlocks)
      · have hD := ifn hD c
        refine lv_lload_n hx hb dX10_filledSet_20 rfl (lv_at hl 1 rfl) ?_
        refine lv_aload_n hx hb dX10_filledSet_21 rfl (lv_at hl 0 rfl) ?_
        refine lv_iload_n hx hb dX10_filledSet_22 rfl (lv_at hl 2 rfl) ?_
        refine lv_iconst (v := (3 : Int32)) hx hb dX10_filledSet_23 (by decide) ?_
        obtain ⟨v2, z3, hD⟩ := b1_el hD
        refine rcV  (As := [.int x3, .int (3 : Int32)]) (rest := [.long x1]) Fx0 (c_X10_ofSpot l hLx hAd x x3 (3 : Int32) z3) hP (hD1 _ (hAd _ _)) hS (hA1 _ _ (hAd _ _) hS.1) hLx (Nat.le_of_ble_eq_true rfl) (xs0 _ _) rfl tw_8_42 tw_8_39 tw_8_41 ts_121 tw_1_13 yd_X10_ofSpot ⟨(Nat.le_of_ble_eq_true rfl), (Nat.le_of_ble_eq_true rfl)⟩ rfl hl.1 rfl (Nat.le_of_ble_eq_true rfl) dX10_filledSet_24 (fun H locs hP hS => ?_)
        refine lv_iconst (v := (1 : Int32)) hx hb dX10_filledSet_27 (by decide) ?_
        refine lv_icmp_ne (tgt := 37) hx hb dX10_filledSet_28 (by decide) (fun c => ?_) (fun c => ?_)
        · have hD := ifn hD c
          refine lv_lconst (v := (0 : Int64)) hx hb dX10_filledSet_37 (by decide) ?_
          refine lv_lor hx hb dX10_filledSet_38 ?_
          obtain ⟨v4, ev4, hD⟩ := bnd_el hD
          refine lv_nml ev4 ?_
          refine lv_lstore_n (lv' := [(1, .long v4), (0, .ref (adx 0)), (3, .int x3)]) hx hb dX10_filledSet_39 rfl hl (by decide) rfl (fun ls hl => ?_)
          obtain ⟨v5, ev5, hD⟩ := bnd_el hD
          refine lv_iinc (v := v5) (lv' := [(3, .int v5), (1, .long v4), (0, .ref (adx 0))]) hx hb dX10_filledSet_40 hl (k := 2) rfl (by rw [ev5]; rfl) (by decide) rfl (fun ls hl => ?_)
          refine lv_goto (tgt := 9) hx hb dX10_filledSet_43 (by decide) ?_
          exact ih _ _ _ _ _ _ hD hP hS (lv_sub hl [2, 1, 0] rfl)
        · have hD := ifp hD c
          refine lv_lconst (v := (1 : Int64)) hx hb dX10_filledSet_31 (by decide) ?_
          refine lv_iload_n hx hb dX10_filledSet_32 rfl (lv_at hl 2 rfl) ?_
          refine lv_lshl (v := ((1 : Int64) <<< (x3.toInt64 &&& 63))) hx hb dX10_filledSet_33 rfl ?_
          refine lv_goto (tgt := 38) hx hb dX10_filledSet_34 (by decide) ?_
          refine lv_lor hx hb dX10_filledSet_38 ?_
          obtain ⟨v6, ev6, hD⟩ := bnd_el hD
          refine lv_nml ev6 ?_
          refine lv_lstore_n (lv' := [(1, .long v6), (0, .ref (adx 0)), (3, .int x3)]) hx hb dX10_filledSet_39 rfl hl (by decide) rfl (fun ls hl => ?_)
          obtain ⟨v7, ev7, hD⟩ := bnd_el hD
          refine lv_iinc (v := v7) (lv' := [(3, .int v7), (1, .long v6), (0, .ref (adx 0))]) hx hb dX10_filledSet_40 hl (k := 2) rfl (by rw [ev7]; rfl) (by decide) rfl (fun ls hl => ?_)
          refine lv_goto (tgt := 9) hx hb dX10_filledSet_43 (by decide) ?_
          exact ih _ _ _ _ _ _ hD hP hS (lv_sub hl [2, 1, 0] rfl)
  refine lv_aload_n hx hb dX10_filledSet_0 rfl (lv_at hl 0 rfl) ?_
  refine lv_iconst (v := (0 : Int32)) hx hb dX10_filledSet_1 (by decide) ?_
  obtain ⟨m1, em1, hD⟩ := bnd_el hD
  refine rp  hx hb hT hu10 tyX10_ok nmX10 hown hK hP (hD1 _ (hAd _ _)) hS hLx 0 6 (Nat.le_of_ble_eq_true rfl) (xs0 _ _) (xs0 _ _) rfl (Nat.le_of_ble_eq_true rfl) (Fx0.T tw_6_221) rfl rfl rfl rfl (Nat.le_of_ble_eq_true rfl) dX10_filledSet_2 em1 (fun H locs hP hS => ?_)
  refine lv_lconst (v := (0 : Int64)) hx hb dX10_filledSet_5 (by decide) ?_
  refine lv_lstore_n (lv' := [(1, .long (0 : Int64)), (0, .ref (adx 0))]) hx hb dX10_filledSet_6 rfl hl (by decide) rfl (fun ls hl => ?_)
  refine lv_iconst (v := (0 : Int32)) hx hb dX10_filledSet_7 (by decide) ?_
  refine lv_istore_n (lv' := [(3, .int (0 : Int32)), (1, .long (0 : Int64)), (0, .ref (adx 0))]) hx hb dX10_filledSet_8 rfl hl (by decide) rfl (fun ls hl => ?_)
  exact c_9 FU _ _ _ _ _ _ hD hP hS (lv_sub hl [2, 1, 0] rfl)

noncomputable def D_X10_newBoard_9 : Nat → Int32 → Int32 → MM → Option (Int32 × MM)
  | 0, _, _, _ => none
  | n + 1, x1, x2, x => if (gi x 1 19) ≤ x2 then (bnd (si x 1 24 ((gi x 1 24) + (1 : Int32))) (fun m2 => some (x1, m2))) else (b1 (D_X10_ofSpot x2 (3 : Int32) x) (fun v3 => if v3 = (1 : Int32) then (b1 (D_X10_putSpot x2 (3 : Int32) (0 : Int32) x) (fun m5 => b1 (D_X10_putSpot x2 (4 : Int32) (-1 : Int32) m5) (fun m7 => b1 (D_X10_putSpot x2 (5 : Int32) (-1 : Int32) m7) (fun m9 => bnd (x1 + (1 : Int32)) (fun v11 => bnd (x2 + (1 : Int32)) (fun v12 => D_X10_newBoard_9 n v11 v12 m9)))))) else (bnd (x2 + (1 : Int32)) (fun v13 => D_X10_newBoard_9 n x1 v13 x))))
noncomputable def D_X10_newBoard (x : MM) : Option (Int32 × MM) := bnd (si x 0 6 (0 : Int32)) (fun m1 => D_X10_newBoard_9 FU (0 : Int32) (0 : Int32) m1)
set_option maxHeartbeats 4000000 in
set_option maxRecDepth 100000 in
theorem c_X10_newBoard (l : Launch) {D : va_G} {cs : Nat → ClassId} {adx : Nat → Nat} {Wf : MM → va_W} (hLx : Ln 9 adx (xsh cs adx) Wf) (hAd : ∀ a0_ b0_ : MM, (Wf a0_).map (fun q => q.1) = (Wf b0_).map (fun q => q.1)) (x : MM) {rr : Int32} {x' : MM} (hD : D_X10_newBoard x = some (rr, x')) : Ct l yX10_newBoard cX10_newBoard 3 (some .int) 1 23 D cs [.ref (adx 0)] (Wf x) (Wf x') (some (.int rr)) := by
  refine Ct.ofW (by decide) (Nat.le_of_ble_eq_true rfl) (hAd _ _) ?_
  intro p e s m0 below meth c A Q ls args hx hb hr hml hlocks hown hts hK hP hD1 hSS hS hA1 hl hret
  have hT : ∀ w ∈ TBL, w.before args s = true := fun w h => hts w (List.mem_cons_of_mem _ h)
  have Fx0 : Fx p l m0 c cX10_newBoard 3 s args yX10_newBoard cX10_newBoard 3 (some .int) D cs A := ⟨hx, hb, hml, hown, hts, hK, hSS⟩
  have hown : s.vm.findClass RX10 = some m0.cls := hown
  have hl : lv_has ls 3 [(0, .ref (adx 0))] := hl
  unfold D_X10_newBoard at hD
  have c_9 : ∀ (n : Nat), ∀ (x1 : Int32) (x2 : Int32) (x : MM) (H : Heap) (locs : List Loc) (ls : Array Slot), D_X10_newBoard_9 n x1 x2 x = some (rr, x') → va_P D vwCl (Wf x) H → va_S A s.heap H locs → lv_has ls 3 [(0, .ref (adx 0)), (1, .int x1), (2, .int x2)] → W p l e ({ frames := 1, cells := 0, slots := 0, locals := 23 } : Room) s m0 args below meth c H locs 0 0 Q (F0 m0 9 ls []) := by
    intro n
    induction n with
    | zero =>
      intro x1 x2 x H locs ls hD hP hS hl
      exact nn_el hD
    | succ n ih =>
      intro x1 x2 x H locs ls hD hP hS hl
      rw [D_X10_newBoard_9] at hD
      refine lv_iload_n hx hb dX10_newBoard_9 rfl (lv_at hl 2 rfl) ?_
      refine lv_aload_n hx hb dX10_newBoard_10 rfl (lv_at hl 0 rfl) ?_
      refine rg  hx hb hT hu10 hown hK hP hLx 0 0 (Nat.le_of_ble_eq_true rfl) (xs0 _ _) rfl (Nat.le_of_ble_eq_true rfl) (Fx0.T tw_6_215) rfl (v := .ref (adx 1)) rfl dX10_newBoard_11 ?_
      refine lv_bipush (v := (19 : Int32)) hx hb dX10_newBoard_14 (by decide) ?_
      refine riald  hx hb hK hP hLx 1 (Nat.le_of_ble_eq_true rfl) (xs1 _ _) (by decide) (j := 19) (by decide) dX10_newBoard_16 ?_
      refine lv_icmp_ge (tgt := 63) hx hb dX10_newBoard_17 (by decide) (fun c => ?_) (fun c => ?_)
      · have hD := ifp hD c
        refine lv_aload_n hx hb dX10_newBoard_63 rfl (lv_at hl 0 rfl) ?_
        refine rg  hx hb hT hu10 hown hK hP hLx 0 0 (Nat.le_of_ble_eq_true rfl) (xs0 _ _) rfl (Nat.le_of_ble_eq_true rfl) (Fx0.T tw_6_215) rfl (v := .ref (adx 1)) rfl dX10_newBoard_64 ?_
        refine lv_bipush (v := (24 : Int32)) hx hb dX10_newBoard_67 (by decide) ?_
        refine lv_dup2_11 hx hb dX10_newBoard_69 rfl rfl ?_
        refine riald  hx hb hK hP hLx 1 (Nat.le_of_ble_eq_true rfl) (xs1 _ _) (by decide) (j := 24) (by decide) dX10_newBoard_70 ?_
        refine lv_iconst (v := (1 : Int32)) hx hb dX10_newBoard_71 (by decide) ?_
        refine lv_iadd hx hb dX10_newBoard_72 ?_
        obtain ⟨m2, em2, hD⟩ := bnd_el hD
        refine riast  hx hb hK hP (hD1 _ (hAd _ _)) hS hLx 1 (Nat.le_of_ble_eq_true rfl) (fun _ => xs1 _ _) (by decide) (j := 24) (by decide) dX10_newBoard_73 em2 (fun H locs hP hS => ?_)
        refine lv_iload_n hx hb dX10_newBoard_74 rfl (lv_at hl 1 rfl) ?_
        obtain ⟨rfl, rfl⟩ := es2 hD
        exact hret _ _ _ hP hS (fun Qc hq => W.iret hx hb hr hq hS.2.2 dX10_newBoard_75 hlocks)
      · have hD := ifn hD c
        refine lv_aload_n hx hb dX10_newBoard_20 rfl (lv_at hl 0 rfl) ?_
        refine lv_iload_n hx hb dX10_newBoard_21 rfl (lv_at hl 2 rfl) ?_
        refine lv_iconst (v := (3 : Int32)) hx hb dX10_newBoard_22 (by decide) ?_
        obtain ⟨v3, z4, hD⟩ := b1_el hD
        refine rcV  (As := [.int x2, .int (3 : Int32)]) (rest := []) Fx0 (c_X10_ofSpot l hLx hAd x x2 (3 : Int32) z4) hP (hD1 _ (hAd _ _)) hS (hA1 _ _ (hAd _ _) hS.1) hLx (Nat.le_of_ble_eq_true rfl) (xs0 _ _) rfl tw_8_42 tw_8_39 tw_8_41 ts_121 tw_1_13 yd_X10_ofSpot ⟨(Nat.le_of_ble_eq_true rfl), (Nat.le_of_ble_eq_true rfl)⟩ rfl hl.1 rfl (Nat.le_of_ble_eq_true rfl) dX10_newBoard_23 (fun H locs hP hS => ?_)
        refine lv_iconst (v := (1 : Int32)) hx hb dX10_newBoard_26 (by decide) ?_
        refine lv_icmp_eq (tgt := 33) hx hb dX10_newBoard_27 (by decide) (fun c => ?_) (fun c => ?_)
        · have hD := ifp hD c
          refine lv_aload_n hx hb dX10_newBoard_33 rfl (lv_at hl 0 rfl) ?_
          refine lv_iload_n hx hb dX10_newBoard_34 rfl (lv_at hl 2 rfl) ?_
          refine lv_iconst (v := (3 : Int32)) hx hb dX10_newBoard_35 (by decide) ?_
          refine lv_iconst (v := (0 : Int32)) hx hb dX10_newBoard_36 (by decide) ?_
          obtain ⟨m5, z6, hD⟩ := b1_el hD
          refine rcV  (As := [.int x2, .int (3 : Int32), .int (0 : Int32)]) (rest := []) Fx0 (c_X10_putSpot l hLx hAd x x2 (3 : Int32) (0 : Int32) z6) hP (hD1 _ (hAd _ _)) hS (hA1 _ _ (hAd _ _) hS.1) hLx (Nat.le_of_ble_eq_true rfl) (xs0 _ _) rfl tw_8_50 tw_8_47 tw_8_49 ts_122 tw_1_13 yd_X10_putSpot ⟨(Nat.le_of_ble_eq_true rfl), (Nat.le_of_ble_eq_true rfl)⟩ rfl hl.1 rfl (Nat.le_of_ble_eq_true rfl) dX10_newBoard_37 (fun H locs hP hS => ?_)
          refine lv_aload_n hx hb dX10_newBoard_40 rfl (lv_at hl 0 rfl) ?_
          refine lv_iload_n hx hb dX10_newBoard_41 rfl (lv_at hl 2 rfl) ?_
          refine lv_iconst (v := (4 : Int32)) hx hb dX10_newBoard_42 (by decide) ?_
          refine lv_iconst (v := (-1 : Int32)) hx hb dX10_newBoard_43 (by decide) ?_
          obtain ⟨m7, z8, hD⟩ := b1_el hD
          refine rcV  (As := [.int x2, .int (4 : Int32), .int (-1 : Int32)]) (rest := []) Fx0 (c_X10_putSpot l hLx hAd m5 x2 (4 : Int32) (-1 : Int32) z8) hP (hD1 _ (hAd _ _)) hS (hA1 _ _ (hAd _ _) hS.1) hLx (Nat.le_of_ble_eq_true rfl) (xs0 _ _) rfl tw_8_50 tw_8_47 tw_8_49 ts_122 tw_1_13 yd_X10_putSpot ⟨(Nat.le_of_ble_eq_true rfl), (Nat.le_of_ble_eq_true rfl)⟩ rfl hl.1 rfl (Nat.le_of_ble_eq_true rfl) dX10_newBoard_44 (fun H locs hP hS => ?_)
          refine lv_aload_n hx hb dX10_newBoard_47 rfl (lv_at hl 0 rfl) ?_
          refine lv_iload_n hx hb dX10_newBoard_48 rfl (lv_at hl 2 rfl) ?_
          refine lv_iconst (v := (5 : Int32)) hx hb dX10_newBoard_49 (by decide) ?_
          refine lv_iconst (v := (-1 : Int32)) hx hb dX10_newBoard_50 (by decide) ?_
          obtain ⟨m9, z10, hD⟩ := b1_el hD
          refine rcV  (As := [.int x2, .int (5 : Int32), .int (-1 : Int32)]) (rest := []) Fx0 (c_X10_putSpot l hLx hAd m7 x2 (5 : Int32) (-1 : Int32) z10) hP (hD1 _ (hAd _ _)) hS (hA1 _ _ (hAd _ _) hS.1) hLx (Nat.le_of_ble_eq_true rfl) (xs0 _ _) rfl tw_8_50 tw_8_47 tw_8_49 ts_122 tw_1_13 yd_X10_putSpot ⟨(Nat.le_of_ble_eq_true rfl), (Nat.le_of_ble_eq_true rfl)⟩ rfl hl.1 rfl (Nat.le_of_ble_eq_true rfl) dX10_newBoard_51 (fun H locs hP hS => ?_)
          obtain ⟨v11, ev11, hD⟩ := bnd_el hD
          refine lv_iinc (v := v11) (lv' := [(1, .int v11), (0, .ref (adx 0)), (2, .int x2)]) hx hb dX10_newBoard_54 hl (k := 1) rfl (by rw [ev11]; rfl) (by decide) rfl (fun ls hl => ?_)
          obtain ⟨v12, ev12, hD⟩ := bnd_el hD
          refine lv_iinc (v := v12) (lv' := [(2, .int v12), (1, .int v11), (0, .ref (adx 0))]) hx hb dX10_newBoard_57 hl (k := 2) rfl (by rw [ev12]; rfl) (by decide) rfl (fun ls hl => ?_)
          refine lv_goto (tgt := 9) hx hb dX10_newBoard_60 (by decide) ?_
          exact ih _ _ _ _ _ _ hD hP hS (lv_sub hl [2, 1, 0] rfl)
        · have hD := ifn hD c
          refine lv_goto (tgt := 57) hx hb dX10_newBoard_30 (by decide) ?_
          obtain ⟨v13, ev13, hD⟩ := bnd_el hD
          refine lv_iinc (v := v13) (lv' := [(2, .int v13), (0, .ref (adx 0)), (1, .int x1)]) hx hb dX10_newBoard_57 hl (k := 2) rfl (by rw [ev13]; rfl) (by decide) rfl (fun ls hl => ?_)
          refine lv_goto (tgt := 9) hx hb dX10_newBoard_60 (by decide) ?_
          exact ih _ _ _ _ _ _ hD hP hS (lv_sub hl [1, 2, 0] rfl)
  refine lv_aload_n hx hb dX10_newBoard_0 rfl (lv_at hl 0 rfl) ?_
  refine lv_iconst (v := (0 : Int32)) hx hb dX10_newBoard_1 (by decide) ?_
  obtain ⟨m1, em1, hD⟩ := bnd_el hD
  refine rp  hx hb hT hu10 tyX10_ok nmX10 hown hK hP (hD1 _ (hAd _ _)) hS hLx 0 6 (Nat.le_of_ble_eq_true rfl) (xs0 _ _) (xs0 _ _) rfl (Nat.le_of_ble_eq_true rfl) (Fx0.T tw_6_221) rfl rfl rfl rfl (Nat.le_of_ble_eq_true rfl) dX10_newBoard_2 em1 (fun H locs hP hS => ?_)
  refine lv_iconst (v := (0 : Int32)) hx hb dX10_newBoard_5 (by decide) ?_
  refine lv_istore_n (lv' := [(1, .int (0 : Int32)), (0, .ref (adx 0))]) hx hb dX10_newBoard_6 rfl hl (by decide) rfl (fun ls hl => ?_)
  refine lv_iconst (v := (0 : Int32)) hx hb dX10_newBoard_7 (by decide) ?_
  refine lv_istore_n (lv' := [(2, .int (0 : Int32)), (1, .int (0 : Int32)), (0, .ref (adx 0))]) hx hb dX10_newBoard_8 rfl hl (by decide) rfl (fun ls hl => ?_)
  exact c_9 FU _ _ _ _ _ _ hD hP hS (lv_sub hl [2, 1, 0] rfl)

noncomputable def D_X10_boards (x : MM) : Option (Int32 × MM) := bnd (si x 0 6 (0 : Int32)) (fun m1 => some ((gi m1 1 24), m1))
set_option maxHeartbeats 4000000 in
set_option maxRecDepth 100000 in
theorem c_X10_boards (l : Launch) {D : va_G} {cs : Nat → ClassId} {adx : Nat → Nat} {Wf : MM → va_W} (hLx : Ln 9 adx (xsh cs adx) Wf) (hAd : ∀ a0_ b0_ : MM, (Wf a0_).map (fun q => q.1) = (Wf b0_).map (fun q => q.1)) (x : MM) {rr : Int32} {x' : MM} (hD : D_X10_boards x = some (rr, x')) : Ct l yX10_boards cX10_boards 1 (some .int) 0 0 D cs [.ref (adx 0)] (Wf x) (Wf x') (some (.int rr)) := by
  refine Ct.ofW (by decide) (Nat.le_of_ble_eq_true rfl) (hAd _ _) ?_
  intro p e s m0 below meth c A Q ls args hx hb hr hml hlocks hown hts hK hP hD1 hSS hS hA1 hl hret
  have hT : ∀ w ∈ TBL, w.before args s = true := fun w h => hts w (List.mem_cons_of_mem _ h)
  have Fx0 : Fx p l m0 c cX10_boards 1 s args yX10_boards cX10_boards 1 (some .int) D cs A := ⟨hx, hb, hml, hown, hts, hK, hSS⟩
  have hown : s.vm.findClass RX10 = some m0.cls := hown
  have hl : lv_has ls 1 [(0, .ref (adx 0))] := hl
  unfold D_X10_boards at hD
  refine lv_aload_n hx hb dX10_boards_0 rfl (lv_at hl 0 rfl) ?_
  refine lv_iconst (v := (0 : Int32)) hx hb dX10_boards_1 (by decide) ?_
  obtain ⟨m1, em1, hD⟩ := bnd_el hD
  refine rp  hx hb hT hu10 tyX10_ok nmX10 hown hK hP (hD1 _ (hAd _ _)) hS hLx 0 6 (Nat.le_of_ble_eq_true rfl) (xs0 _ _) (xs0 _ _) rfl (Nat.le_of_ble_eq_true rfl) (Fx0.T tw_6_221) rfl rfl rfl rfl (Nat.le_of_ble_eq_true rfl) dX10_boards_2 em1 (fun H locs hP hS => ?_)
  refine lv_aload_n hx hb dX10_boards_5 rfl (lv_at hl 0 rfl) ?_
  refine rg  hx hb hT hu10 hown hK hP hLx 0 0 (Nat.le_of_ble_eq_true rfl) (xs0 _ _) rfl (Nat.le_of_ble_eq_true rfl) (Fx0.T tw_6_215) rfl (v := .ref (adx 1)) rfl dX10_boards_6 ?_
  refine lv_bipush (v := (24 : Int32)) hx hb dX10_boards_9 (by decide) ?_
  refine riald  hx hb hK hP hLx 1 (Nat.le_of_ble_eq_true rfl) (xs1 _ _) (by decide) (j := 24) (by decide) dX10_boards_11 ?_
  obtain ⟨rfl, rfl⟩ := es2 hD
  exact hret _ _ _ hP hS (fun Qc hq => W.iret hx hb hr hq hS.2.2 dX10_boards_12 hlocks)
