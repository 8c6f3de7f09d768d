/-! the reference's methods -/
noncomputable def D_X10_goesAside (x : MM) : Option MM := b1 (D_X10_copies 1 2 x) (fun m1 => some (m1))
set_option maxHeartbeats 4000000 in
set_option maxRecDepth 100000 in
theorem c_X10_goesAside (l : Launch) {D : va_G} {cs : Nat → ClassId} {adx : Nat → Nat} {Wf : MM → va_W} (hLx : Ln 9 adx (xsh cs adx) Wf) (hAd : ∀ a0_ b0_ : MM, (Wf a0_).map (fun q => q.1) = (Wf b0_).map (fun q => q.1)) (x : MM) {x' : MM} (hD : D_X10_goesAside x = some (x')) : Ct l yX10_goesAside cX10_goesAside 1 none 1 22 D cs [.ref (adx 0)] (Wf x) (Wf x') (none) := by
  refine Ct.ofW (by decide) (Nat.le_of_ble_eq_true rfl) (hAd _ _) ?_
  intro p e s m0 below meth c A Q ls args hx hb hr hml hlocks hown hts hK hP hD1 hSS hS hA1 hl hret
  have hT : ∀ w ∈ TBL, w.before args s = true := fun w h => hts w (List.mem_cons_of_mem _ h)
  have Fx0 : Fx p l m0 c cX10_goesAside 1 s args yX10_goesAside cX10_goesAside 1 none D cs A := ⟨hx, hb, hml, hown, hts, hK, hSS⟩
  have hown : s.vm.findClass RX10 = some m0.cls := hown
  have hl : lv_has ls 1 [(0, .ref (adx 0))] := hl
  unfold D_X10_goesAside at hD
  refine lv_aload_n hx hb dX10_goesAside_0 rfl (lv_at hl 0 rfl) ?_
  refine rg  hx hb hT hu10 hown hK hP hLx 0 0 (Nat.le_of_ble_eq_true rfl) (xs0 _ _) rfl (Nat.le_of_ble_eq_true rfl) (Fx0.T tw_6_215) rfl (v := .ref (adx 1)) rfl dX10_goesAside_1 ?_
  refine lv_aload_n hx hb dX10_goesAside_4 rfl (lv_at hl 0 rfl) ?_
  refine rg  hx hb hT hu10 hown hK hP hLx 0 1 (Nat.le_of_ble_eq_true rfl) (xs0 _ _) rfl (Nat.le_of_ble_eq_true rfl) (Fx0.T tw_6_216) rfl (v := .ref (adx 2)) rfl dX10_goesAside_5 ?_
  obtain ⟨m1, z2, hD⟩ := b1_el hD
  refine rcS (As := [.ref (adx 1), .ref (adx 2)]) (rest := []) Fx0 (c_X10_copies l hLx hAd x 1 (by decide) (by decide) 2 (by decide) (by decide) z2) hP (hD1 _ (hAd _ _)) hS (hA1 _ _ (hAd _ _) hS.1) tw_7_150 tw_7_148 tw_7_149 tw_1_13 yd_X10_copies ⟨(Nat.le_of_ble_eq_true rfl), (Nat.le_of_ble_eq_true rfl)⟩ rfl hl.1 rfl (Nat.le_of_ble_eq_true rfl) dX10_goesAside_8 (fun H locs hP hS => ?_)
  obtain rfl := es1 hD
  exact hret _ _ _ hP hS (fun Qc hq => W.vret hx hb hr hq hS.2.2 dX10_goesAside_11 hlocks)

noncomputable def D_X10_comesBack (x : MM) : Option MM := b1 (D_X10_copies 2 1 x) (fun m1 => some (m1))
set_option maxHeartbeats 4000000 in
set_option maxRecDepth 100000 in
theorem c_X10_comesBack (l : Launch) {D : va_G} {cs : Nat → ClassId} {adx : Nat → Nat} {Wf : MM → va_W} (hLx : Ln 9 adx (xsh cs adx) Wf) (hAd : ∀ a0_ b0_ : MM, (Wf a0_).map (fun q => q.1) = (Wf b0_).map (fun q => q.1)) (x : MM) {x' : MM} (hD : D_X10_comesBack x = some (x')) : Ct l yX10_comesBack cX10_comesBack 1 none 1 22 D cs [.ref (adx 0)] (Wf x) (Wf x') (none) := by
  refine Ct.ofW (by decide) (Nat.le_of_ble_eq_true rfl) (hAd _ _) ?_
  intro p e s m0 below meth c A Q ls args hx hb hr hml hlocks hown hts hK hP hD1 hSS hS hA1 hl hret
  have hT : ∀ w ∈ TBL, w.before args s = true := fun w h => hts w (List.mem_cons_of_mem _ h)
  have Fx0 : Fx p l m0 c cX10_comesBack 1 s args yX10_comesBack cX10_comesBack 1 none D cs A := ⟨hx, hb, hml, hown, hts, hK, hSS⟩
  have hown : s.vm.findClass RX10 = some m0.cls := hown
  have hl : lv_has ls 1 [(0, .ref (adx 0))] := hl
  unfold D_X10_comesBack at hD
  refine lv_aload_n hx hb dX10_comesBack_0 rfl (lv_at hl 0 rfl) ?_
  refine rg  hx hb hT hu10 hown hK hP hLx 0 1 (Nat.le_of_ble_eq_true rfl) (xs0 _ _) rfl (Nat.le_of_ble_eq_true rfl) (Fx0.T tw_6_216) rfl (v := .ref (adx 2)) rfl dX10_comesBack_1 ?_
  refine lv_aload_n hx hb dX10_comesBack_4 rfl (lv_at hl 0 rfl) ?_
  refine rg  hx hb hT hu10 hown hK hP hLx 0 0 (Nat.le_of_ble_eq_true rfl) (xs0 _ _) rfl (Nat.le_of_ble_eq_true rfl) (Fx0.T tw_6_215) rfl (v := .ref (adx 1)) rfl dX10_comesBack_5 ?_
  obtain ⟨m1, z2, hD⟩ := b1_el hD
  refine rcS (As := [.ref (adx 2), .ref (adx 1)]) (rest := []) Fx0 (c_X10_copies l hLx hAd x 2 (by decide) (by decide) 1 (by decide) (by decide) z2) hP (hD1 _ (hAd _ _)) hS (hA1 _ _ (hAd _ _) hS.1) tw_7_150 tw_7_148 tw_7_149 tw_1_13 yd_X10_copies ⟨(Nat.le_of_ble_eq_true rfl), (Nat.le_of_ble_eq_true rfl)⟩ rfl hl.1 rfl (Nat.le_of_ble_eq_true rfl) dX10_comesBack_8 (fun H locs hP hS => ?_)
  obtain rfl := es1 hD
  exact hret _ _ _ hP hS (fun Qc hq => W.vret hx hb hr hq hS.2.2 dX10_comesBack_11 hlocks)

noncomputable def D_X10_ends (x : MM) : Option (Int32 × MM) := b2 (D_X10_runs (1000 : Int32) x) (fun v1 m2 => if v1 < (1000 : Int32) then (some ((1 : Int32), m2)) else (b1 (D_X10_next m2) (fun v4 => if v4 = (-1 : Int32) then (some ((1 : Int32), m2)) else (some ((0 : Int32), m2)))))
set_option maxHeartbeats 4000000 in
set_option maxRecDepth 100000 in
theorem c_X10_ends (l : Launch) {D : va_G} {cs : Nat → ClassId} {adx : Nat → Nat} {Wf : MM → va_W} (hLx : Ln 9 adx (xsh cs adx) Wf) (hAd : ∀ a0_ b0_ : MM, (Wf a0_).map (fun q => q.1) = (Wf b0_).map (fun q => q.1)) (x : MM) {rr : Int32} {x' : MM} (hD : D_X10_ends x = some (rr, x')) : Ct l yX10_ends cX10_ends 1 (some .boolean) 9 199 D cs [.ref (adx 0)] (Wf x) (Wf x') (some (.int rr)) := by
  refine Ct.ofW (by decide) (Nat.le_of_ble_eq_true rfl) (hAd _ _) ?_
  intro p e s m0 below meth c A Q ls args hx hb hr hml hlocks hown hts hK hP hD1 hSS hS hA1 hl hret
  have hT : ∀ w ∈ TBL, w.before args s = true := fun w h => hts w (List.mem_cons_of_mem _ h)
  have Fx0 : Fx p l m0 c cX10_ends 1 s args yX10_ends cX10_ends 1 (some .boolean) D cs A := ⟨hx, hb, hml, hown, hts, hK, hSS⟩
  have hown : s.vm.findClass RX10 = some m0.cls := hown
  have hl : lv_has ls 1 [(0, .ref (adx 0))] := hl
  unfold D_X10_ends at hD
  refine lv_aload_n hx hb dX10_ends_0 rfl (lv_at hl 0 rfl) ?_
  refine lv_sipush (v := (1000 : Int32)) hx hb dX10_ends_1 (by decide) ?_
  obtain ⟨v1, m2, z3, hD⟩ := b2_el hD
  refine rcV  (As := [.int (1000 : Int32)]) (rest := []) Fx0 (c_X10_runs l hLx hAd x (1000 : Int32) z3) hP (hD1 _ (hAd _ _)) hS (hA1 _ _ (hAd _ _) hS.1) hLx (Nat.le_of_ble_eq_true rfl) (xs0 _ _) rfl tw_9_2 tw_8_239 tw_9_1 ts_150 tw_1_13 yd_X10_runs ⟨(Nat.le_of_ble_eq_true rfl), (Nat.le_of_ble_eq_true rfl)⟩ rfl hl.1 rfl (Nat.le_of_ble_eq_true rfl) dX10_ends_4 (fun H locs hP hS => ?_)
  refine lv_sipush (v := (1000 : Int32)) hx hb dX10_ends_7 (by decide) ?_
  refine lv_icmp_lt (tgt := 21) hx hb dX10_ends_10 (by decide) (fun c => ?_) (fun c => ?_)
  · have hD := ifp hD c
    refine lv_iconst (v := (1 : Int32)) hx hb dX10_ends_21 (by decide) ?_
    refine lv_goto (tgt := 26) hx hb dX10_ends_22 (by decide) ?_
    obtain ⟨rfl, rfl⟩ := es2 hD
    exact hret _ _ _ hP hS (fun Qc hq => W.zret hx hb hr rfl hq hS.2.2 dX10_ends_26 hlocks)
  · have hD := ifn hD c
    refine lv_aload_n hx hb dX10_ends_13 rfl (lv_at hl 0 rfl) ?_
    obtain ⟨v4, z5, hD⟩ := b1_el hD
    refine rcV  (As := []) (rest := []) Fx0 (c_X10_next l hLx hAd m2 z5) hP (hD1 _ (hAd _ _)) hS (hA1 _ _ (hAd _ _) hS.1) hLx (Nat.le_of_ble_eq_true rfl) (xs0 _ _) rfl tw_8_199 tw_8_196 tw_8_198 ts_142 tw_1_13 yd_X10_next ⟨(Nat.le_of_ble_eq_true rfl), (Nat.le_of_ble_eq_true rfl)⟩ rfl hl.1 rfl (Nat.le_of_ble_eq_true rfl) dX10_ends_14 (fun H locs hP hS => ?_)
    refine lv_iconst (v := (-1 : Int32)) hx hb dX10_ends_17 (by decide) ?_
    refine lv_icmp_ne (tgt := 25) hx hb dX10_ends_18 (by decide) (fun c => ?_) (fun c => ?_)
    · have hD := ifn hD c
      refine lv_iconst (v := (0 : Int32)) hx hb dX10_ends_25 (by decide) ?_
      obtain ⟨rfl, rfl⟩ := es2 hD
      exact hret _ _ _ hP hS (fun Qc hq => W.zret hx hb hr rfl hq hS.2.2 dX10_ends_26 hlocks)
    · have hD := ifp hD c
      refine lv_iconst (v := (1 : Int32)) hx hb dX10_ends_21 (by decide) ?_
      refine lv_goto (tgt := 26) hx hb dX10_ends_22 (by decide) ?_
      obtain ⟨rfl, rfl⟩ := es2 hD
      exact hret _ _ _ hP hS (fun Qc hq => W.zret hx hb hr rfl hq hS.2.2 dX10_ends_26 hlocks)

noncomputable def D_X10_actionsToEnd (x : MM) : Option (Int32 × MM) := bnd (si x 0 6 (0 : Int32)) (fun m1 => b1 (D_X10_goesAside m1) (fun m2 => b2 (D_X10_runs (1000 : Int32) m2) (fun v4 m5 => b1 (D_X10_next m5) (fun v7 => if v7 = (-1 : Int32) then (b1 (D_X10_comesBack m5) (fun m11 => some (v4, m11))) else (b1 (D_X10_comesBack m5) (fun m9 => some ((-1 : Int32), m9)))))))
set_option maxHeartbeats 4000000 in
set_option maxRecDepth 100000 in
theorem c_X10_actionsToEnd (l : Launch) {D : va_G} {cs : Nat → ClassId} {adx : Nat → Nat} {Wf : MM → va_W} (hLx : Ln 9 adx (xsh cs adx) Wf) (hAd : ∀ a0_ b0_ : MM, (Wf a0_).map (fun q => q.1) = (Wf b0_).map (fun q => q.1)) (x : MM) {rr : Int32} {x' : MM} (hD : D_X10_actionsToEnd x = some (rr, x')) : Ct l yX10_actionsToEnd cX10_actionsToEnd 3 (some .int) 9 199 D cs [.ref (adx 0)] (Wf x) (Wf x') (some (.int rr)) := by
  refine Ct.ofW (by decide) (Nat.le_of_ble_eq_true rfl) (hAd _ _) ?_
  intro p e s m0 below meth c A Q ls args hx hb hr hml hlocks hown hts hK hP hD1 hSS hS hA1 hl hret
  have hT : ∀ w ∈ TBL, w.before args s = true := fun w h => hts w (List.mem_cons_of_mem _ h)
  have Fx0 : Fx p l m0 c cX10_actionsToEnd 3 s args yX10_actionsToEnd cX10_actionsToEnd 3 (some .int) D cs A := ⟨hx, hb, hml, hown, hts, hK, hSS⟩
  have hown : s.vm.findClass RX10 = some m0.cls := hown
  have hl : lv_has ls 3 [(0, .ref (adx 0))] := hl
  unfold D_X10_actionsToEnd at hD
  refine lv_aload_n hx hb dX10_actionsToEnd_0 rfl (lv_at hl 0 rfl) ?_
  refine lv_iconst (v := (0 : Int32)) hx hb dX10_actionsToEnd_1 (by decide) ?_
  obtain ⟨m1, em1, hD⟩ := bnd_el hD
  refine rp  hx hb hT hu10 tyX10_ok nmX10 hown hK hP (hD1 _ (hAd _ _)) hS hLx 0 6 (Nat.le_of_ble_eq_true rfl) (xs0 _ _) (xs0 _ _) rfl (Nat.le_of_ble_eq_true rfl) (Fx0.T tw_6_221) rfl rfl rfl rfl (Nat.le_of_ble_eq_true rfl) dX10_actionsToEnd_2 em1 (fun H locs hP hS => ?_)
  refine lv_aload_n hx hb dX10_actionsToEnd_5 rfl (lv_at hl 0 rfl) ?_
  obtain ⟨m2, z3, hD⟩ := b1_el hD
  refine rcV  (As := []) (rest := []) Fx0 (c_X10_goesAside l hLx hAd m1 z3) hP (hD1 _ (hAd _ _)) hS (hA1 _ _ (hAd _ _) hS.1) hLx (Nat.le_of_ble_eq_true rfl) (xs0 _ _) rfl tw_9_77 tw_9_74 tw_9_76 ts_155 tw_1_13 yd_X10_goesAside ⟨(Nat.le_of_ble_eq_true rfl), (Nat.le_of_ble_eq_true rfl)⟩ rfl hl.1 rfl (Nat.le_of_ble_eq_true rfl) dX10_actionsToEnd_6 (fun H locs hP hS => ?_)
  refine lv_aload_n hx hb dX10_actionsToEnd_9 rfl (lv_at hl 0 rfl) ?_
  refine lv_sipush (v := (1000 : Int32)) hx hb dX10_actionsToEnd_10 (by decide) ?_
  obtain ⟨v4, m5, z6, hD⟩ := b2_el hD
  refine rcV  (As := [.int (1000 : Int32)]) (rest := []) Fx0 (c_X10_runs l hLx hAd m2 (1000 : Int32) z6) hP (hD1 _ (hAd _ _)) hS (hA1 _ _ (hAd _ _) hS.1) hLx (Nat.le_of_ble_eq_true rfl) (xs0 _ _) rfl tw_9_2 tw_8_239 tw_9_1 ts_150 tw_1_13 yd_X10_runs ⟨(Nat.le_of_ble_eq_true rfl), (Nat.le_of_ble_eq_true rfl)⟩ rfl hl.1 rfl (Nat.le_of_ble_eq_true rfl) dX10_actionsToEnd_13 (fun H locs hP hS => ?_)
  refine lv_istore_n (lv' := [(1, .int v4), (0, .ref (adx 0))]) hx hb dX10_actionsToEnd_16 rfl hl (by decide) rfl (fun ls hl => ?_)
  refine lv_aload_n hx hb dX10_actionsToEnd_17 rfl (lv_at hl 1 rfl) ?_
  obtain ⟨v7, z8, hD⟩ := b1_el hD
  refine rcV  (As := []) (rest := []) Fx0 (c_X10_next l hLx hAd m5 z8) hP (hD1 _ (hAd _ _)) hS (hA1 _ _ (hAd _ _) hS.1) hLx (Nat.le_of_ble_eq_true rfl) (xs0 _ _) rfl tw_8_199 tw_8_196 tw_8_198 ts_142 tw_1_13 yd_X10_next ⟨(Nat.le_of_ble_eq_true rfl), (Nat.le_of_ble_eq_true rfl)⟩ rfl hl.1 rfl (Nat.le_of_ble_eq_true rfl) dX10_actionsToEnd_18 (fun H locs hP hS => ?_)
  refine lv_iconst (v := (-1 : Int32)) hx hb dX10_actionsToEnd_21 (by decide) ?_
  refine lv_icmp_ne (tgt := 29) hx hb dX10_actionsToEnd_22 (by decide) (fun c => ?_) (fun c => ?_)
  · have hD := ifn hD c
    refine lv_iconst (v := (0 : Int32)) hx hb dX10_actionsToEnd_29 (by decide) ?_
    refine lv_istore_n (lv' := [(2, .int (0 : Int32)), (1, .int v4), (0, .ref (adx 0))]) hx hb dX10_actionsToEnd_30 rfl hl (by decide) rfl (fun ls hl => ?_)
    refine lv_aload_n hx hb dX10_actionsToEnd_31 rfl (lv_at hl 2 rfl) ?_
    obtain ⟨m9, z10, hD⟩ := b1_el hD
    refine rcV  (As := []) (rest := []) Fx0 (c_X10_comesBack l hLx hAd m5 z10) hP (hD1 _ (hAd _ _)) hS (hA1 _ _ (hAd _ _) hS.1) hLx (Nat.le_of_ble_eq_true rfl) (xs0 _ _) rfl tw_9_81 tw_9_78 tw_9_80 ts_156 tw_1_13 yd_X10_comesBack ⟨(Nat.le_of_ble_eq_true rfl), (Nat.le_of_ble_eq_true rfl)⟩ rfl hl.1 rfl (Nat.le_of_ble_eq_true rfl) dX10_actionsToEnd_32 (fun H locs hP hS => ?_)
    refine lv_iload_n hx hb dX10_actionsToEnd_35 rfl (lv_at hl 0 rfl) ?_
    refine lv_if_eq (tgt := 43) hx hb dX10_actionsToEnd_36 (by decide) (fun _ => ?_) (fun c => absurd c (by decide))
    refine lv_iconst (v := (-1 : Int32)) hx hb dX10_actionsToEnd_43 (by decide) ?_
    obtain ⟨rfl, rfl⟩ := es2 hD
    exact hret _ _ _ hP hS (fun Qc hq => W.iret hx hb hr hq hS.2.2 dX10_actionsToEnd_44 hlocks)
  · have hD := ifp hD c
    refine lv_iconst (v := (1 : Int32)) hx hb dX10_actionsToEnd_25 (by decide) ?_
    refine lv_goto (tgt := 30) hx hb dX10_actionsToEnd_26 (by decide) ?_
    refine lv_istore_n (lv' := [(2, .int (1 : Int32)), (1, .int v4), (0, .ref (adx 0))]) hx hb dX10_actionsToEnd_30 rfl hl (by decide) rfl (fun ls hl => ?_)
    refine lv_aload_n hx hb dX10_actionsToEnd_31 rfl (lv_at hl 2 rfl) ?_
    obtain ⟨m11, z12, hD⟩ := b1_el hD
    refine rcV  (As := []) (rest := []) Fx0 (c_X10_comesBack l hLx hAd m5 z12) hP (hD1 _ (hAd _ _)) hS (hA1 _ _ (hAd _ _) hS.1) hLx (Nat.le_of_ble_eq_true rfl) (xs0 _ _) rfl tw_9_81 tw_9_78 tw_9_80 ts_156 tw_1_13 yd_X10_comesBack ⟨(Nat.le_of_ble_eq_true rfl), (Nat.le_of_ble_eq_true rfl)⟩ rfl hl.1 rfl (Nat.le_of_ble_eq_true rfl) dX10_actionsToEnd_32 (fun H locs hP hS => ?_)
    refine lv_iload_n hx hb dX10_actionsToEnd_35 rfl (lv_at hl 0 rfl) ?_
    refine lv_if_eq (tgt := 43) hx hb dX10_actionsToEnd_36 (by decide) (fun c => absurd c (by decide)) (fun _ => ?_)
    refine lv_iload_n hx hb dX10_actionsToEnd_39 rfl (lv_at hl 1 rfl) ?_
    refine lv_goto (tgt := 44) hx hb dX10_actionsToEnd_40 (by decide) ?_
    obtain ⟨rfl, rfl⟩ := es2 hD
    exact hret _ _ _ hP hS (fun Qc hq => W.iret hx hb hr hq hS.2.2 dX10_actionsToEnd_44 hlocks)

noncomputable def D_X10_endTime (x : MM) : Option (Int32 × MM) := b2 (D_X10_ends x) (fun v1 m2 => if v1 = 0 then (some ((-1 : Int32), m2)) else (some ((gi m2 1 23), m2)))
set_option maxHeartbeats 4000000 in
set_option maxRecDepth 100000 in
theorem c_X10_endTime (l : Launch) {D : va_G} {cs : Nat → ClassId} {adx : Nat → Nat} {Wf : MM → va_W} (hLx : Ln 9 adx (xsh cs adx) Wf) (hAd : ∀ a0_ b0_ : MM, (Wf a0_).map (fun q => q.1) = (Wf b0_).map (fun q => q.1)) (x : MM) {rr : Int32} {x' : MM} (hD : D_X10_endTime x = some (rr, x')) : Ct l yX10_endTime cX10_endTime 1 (some .int) 10 219 D cs [.ref (adx 0)] (Wf x) (Wf x') (some (.int rr)) := by
  refine Ct.ofW (by decide) (Nat.le_of_ble_eq_true rfl) (hAd _ _) ?_
  intro p e s m0 below meth c A Q ls args hx hb hr hml hlocks hown hts hK hP hD1 hSS hS hA1 hl hret
  have hT : ∀ w ∈ TBL, w.before args s = true := fun w h => hts w (List.mem_cons_of_mem _ h)
  have Fx0 : Fx p l m0 c cX10_endTime 1 s args yX10_endTime cX10_endTime 1 (some .int) D cs A := ⟨hx, hb, hml, hown, hts, hK, hSS⟩
  have hown : s.vm.findClass RX10 = some m0.cls := hown
  have hl : lv_has ls 1 [(0, .ref (adx 0))] := hl
  unfold D_X10_endTime at hD
  refine lv_aload_n hx hb dX10_endTime_0 rfl (lv_at hl 0 rfl) ?_
  obtain ⟨v1, m2, z3, hD⟩ := b2_el hD
  refine rcV  (As := []) (rest := []) Fx0 (c_X10_ends l hLx hAd x z3) hP (hD1 _ (hAd _ _)) hS (hA1 _ _ (hAd _ _) hS.1) hLx (Nat.le_of_ble_eq_true rfl) (xs0 _ _) rfl tw_9_93 tw_9_90 tw_9_92 ts_158 tw_1_13 yd_X10_ends ⟨(Nat.le_of_ble_eq_true rfl), (Nat.le_of_ble_eq_true rfl)⟩ rfl hl.1 rfl (Nat.le_of_ble_eq_true rfl) dX10_endTime_1 (fun H locs hP hS => ?_)
  refine lv_if_eq (tgt := 17) hx hb dX10_endTime_4 (by decide) (fun c => ?_) (fun c => ?_)
  · have hD := ifp hD c
    refine lv_iconst (v := (-1 : Int32)) hx hb dX10_endTime_17 (by decide) ?_
    obtain ⟨rfl, rfl⟩ := es2 hD
    exact hret _ _ _ hP hS (fun Qc hq => W.iret hx hb hr hq hS.2.2 dX10_endTime_18 hlocks)
  · have hD := ifn hD c
    refine lv_aload_n hx hb dX10_endTime_7 rfl (lv_at hl 0 rfl) ?_
    refine rg  hx hb hT hu10 hown hK hP hLx 0 0 (Nat.le_of_ble_eq_true rfl) (xs0 _ _) rfl (Nat.le_of_ble_eq_true rfl) (Fx0.T tw_6_215) rfl (v := .ref (adx 1)) rfl dX10_endTime_8 ?_
    refine lv_bipush (v := (23 : Int32)) hx hb dX10_endTime_11 (by decide) ?_
    refine riald  hx hb hK hP hLx 1 (Nat.le_of_ble_eq_true rfl) (xs1 _ _) (by decide) (j := 23) (by decide) dX10_endTime_13 ?_
    refine lv_goto (tgt := 18) hx hb dX10_endTime_14 (by decide) ?_
    obtain ⟨rfl, rfl⟩ := es2 hD
    exact hret _ _ _ hP hS (fun Qc hq => W.iret hx hb hr hq hS.2.2 dX10_endTime_18 hlocks)

noncomputable def D_X10_timeAtEnd (x : MM) : Option (Int32 × MM) := bnd (si x 0 6 (0 : Int32)) (fun m1 => b1 (D_X10_goesAside m1) (fun m2 => b2 (D_X10_endTime m2) (fun v4 m5 => b1 (D_X10_comesBack m5) (fun m7 => some (v4, m7)))))
set_option maxHeartbeats 4000000 in
set_option maxRecDepth 100000 in
theorem c_X10_timeAtEnd (l : Launch) {D : va_G} {cs : Nat → ClassId} {adx : Nat → Nat} {Wf : MM → va_W} (hLx : Ln 9 adx (xsh cs adx) Wf) (hAd : ∀ a0_ b0_ : MM, (Wf a0_).map (fun q => q.1) = (Wf b0_).map (fun q => q.1)) (x : MM) {rr : Int32} {x' : MM} (hD : D_X10_timeAtEnd x = some (rr, x')) : Ct l yX10_timeAtEnd cX10_timeAtEnd 2 (some .int) 11 239 D cs [.ref (adx 0)] (Wf x) (Wf x') (some (.int rr)) := by
  refine Ct.ofW (by decide) (Nat.le_of_ble_eq_true rfl) (hAd _ _) ?_
  intro p e s m0 below meth c A Q ls args hx hb hr hml hlocks hown hts hK hP hD1 hSS hS hA1 hl hret
  have hT : ∀ w ∈ TBL, w.before args s = true := fun w h => hts w (List.mem_cons_of_mem _ h)
  have Fx0 : Fx p l m0 c cX10_timeAtEnd 2 s args yX10_timeAtEnd cX10_timeAtEnd 2 (some .int) D cs A := ⟨hx, hb, hml, hown, hts, hK, hSS⟩
  have hown : s.vm.findClass RX10 = some m0.cls := hown
  have hl : lv_has ls 2 [(0, .ref (adx 0))] := hl
  unfold D_X10_timeAtEnd at hD
  refine lv_aload_n hx hb dX10_timeAtEnd_0 rfl (lv_at hl 0 rfl) ?_
  refine lv_iconst (v := (0 : Int32)) hx hb dX10_timeAtEnd_1 (by decide) ?_
  obtain ⟨m1, em1, hD⟩ := bnd_el hD
  refine rp  hx hb hT hu10 tyX10_ok nmX10 hown hK hP (hD1 _ (hAd _ _)) hS hLx 0 6 (Nat.le_of_ble_eq_true rfl) (xs0 _ _) (xs0 _ _) rfl (Nat.le_of_ble_eq_true rfl) (Fx0.T tw_6_221) rfl rfl rfl rfl (Nat.le_of_ble_eq_true rfl) dX10_timeAtEnd_2 em1 (fun H locs hP hS => ?_)
  refine lv_aload_n hx hb dX10_timeAtEnd_5 rfl (lv_at hl 0 rfl) ?_
  obtain ⟨m2, z3, hD⟩ := b1_el hD
  refine rcV  (As := []) (rest := []) Fx0 (c_X10_goesAside l hLx hAd m1 z3) hP (hD1 _ (hAd _ _)) hS (hA1 _ _ (hAd _ _) hS.1) hLx (Nat.le_of_ble_eq_true rfl) (xs0 _ _) rfl tw_9_77 tw_9_74 tw_9_76 ts_155 tw_1_13 yd_X10_goesAside ⟨(Nat.le_of_ble_eq_true rfl), (Nat.le_of_ble_eq_true rfl)⟩ rfl hl.1 rfl (Nat.le_of_ble_eq_true rfl) dX10_timeAtEnd_6 (fun H locs hP hS => ?_)
  refine lv_aload_n hx hb dX10_timeAtEnd_9 rfl (lv_at hl 0 rfl) ?_
  obtain ⟨v4, m5, z6, hD⟩ := b2_el hD
  refine rcV  (As := []) (rest := []) Fx0 (c_X10_endTime l hLx hAd m2 z6) hP (hD1 _ (hAd _ _)) hS (hA1 _ _ (hAd _ _) hS.1) hLx (Nat.le_of_ble_eq_true rfl) (xs0 _ _) rfl tw_9_89 tw_9_86 tw_9_88 ts_157 tw_1_13 yd_X10_endTime ⟨(Nat.le_of_ble_eq_true rfl), (Nat.le_of_ble_eq_true rfl)⟩ rfl hl.1 rfl (Nat.le_of_ble_eq_true rfl) dX10_timeAtEnd_10 (fun H locs hP hS => ?_)
  refine lv_istore_n (lv' := [(1, .int v4), (0, .ref (adx 0))]) hx hb dX10_timeAtEnd_13 rfl hl (by decide) rfl (fun ls hl => ?_)
  refine lv_aload_n hx hb dX10_timeAtEnd_14 rfl (lv_at hl 1 rfl) ?_
  obtain ⟨m7, z8, hD⟩ := b1_el hD
  refine rcV  (As := []) (rest := []) Fx0 (c_X10_comesBack l hLx hAd m5 z8) hP (hD1 _ (hAd _ _)) hS (hA1 _ _ (hAd _ _) hS.1) hLx (Nat.le_of_ble_eq_true rfl) (xs0 _ _) rfl tw_9_81 tw_9_78 tw_9_80 ts_156 tw_1_13 yd_X10_comesBack ⟨(Nat.le_of_ble_eq_true rfl), (Nat.le_of_ble_eq_true rfl)⟩ rfl hl.1 rfl (Nat.le_of_ble_eq_true rfl) dX10_timeAtEnd_15 (fun H locs hP hS => ?_)
  refine lv_iload_n hx hb dX10_timeAtEnd_18 rfl (lv_at hl 0 rfl) ?_
  obtain ⟨rfl, rfl⟩ := es2 hD
  exact hret _ _ _ hP hS (fun Qc hq => W.iret hx hb hr hq hS.2.2 dX10_timeAtEnd_19 hlocks)

noncomputable def D_X10_filledAtEnd (x : MM) : Option (Int32 × MM) := bnd (si x 0 6 (0 : Int32)) (fun m1 => b1 (D_X10_goesAside m1) (fun m2 => b2 (D_X10_runs (1000 : Int32) m2) (fun v4 m5 => b1 (D_X10_spotsIn (-1 : Int32) (1 : Int32) m5) (fun v7 => b1 (D_X10_comesBack m5) (fun m9 => some (v7, m9))))))
set_option maxHeartbeats 4000000 in
set_option maxRecDepth 100000 in
theorem c_X10_filledAtEnd (l : Launch) {D : va_G} {cs : Nat → ClassId} {adx : Nat → Nat} {Wf : MM → va_W} (hLx : Ln 9 adx (xsh cs adx) Wf) (hAd : ∀ a0_ b0_ : MM, (Wf a0_).map (fun q => q.1) = (Wf b0_).map (fun q => q.1)) (x : MM) {rr : Int32} {x' : MM} (hD : D_X10_filledAtEnd x = some (rr, x')) : Ct l yX10_filledAtEnd cX10_filledAtEnd 3 (some .int) 9 199 D cs [.ref (adx 0)] (Wf x) (Wf x') (some (.int rr)) := by
  refine Ct.ofW (by decide) (Nat.le_of_ble_eq_true rfl) (hAd _ _) ?_
  intro p e s m0 below meth c A Q ls args hx hb hr hml hlocks hown hts hK hP hD1 hSS hS hA1 hl hret
  have hT : ∀ w ∈ TBL, w.before args s = true := fun w h => hts w (List.mem_cons_of_mem _ h)
  have Fx0 : Fx p l m0 c cX10_filledAtEnd 3 s args yX10_filledAtEnd cX10_filledAtEnd 3 (some .int) D cs A := ⟨hx, hb, hml, hown, hts, hK, hSS⟩
  have hown : s.vm.findClass RX10 = some m0.cls := hown
  have hl : lv_has ls 3 [(0, .ref (adx 0))] := hl
  unfold D_X10_filledAtEnd at hD
  refine lv_aload_n hx hb dX10_filledAtEnd_0 rfl (lv_at hl 0 rfl) ?_
  refine lv_iconst (v := (0 : Int32)) hx hb dX10_filledAtEnd_1 (by decide) ?_
  obtain ⟨m1, em1, hD⟩ := bnd_el hD
  refine rp  hx hb hT hu10 tyX10_ok nmX10 hown hK hP (hD1 _ (hAd _ _)) hS hLx 0 6 (Nat.le_of_ble_eq_true rfl) (xs0 _ _) (xs0 _ _) rfl (Nat.le_of_ble_eq_true rfl) (Fx0.T tw_6_221) rfl rfl rfl rfl (Nat.le_of_ble_eq_true rfl) dX10_filledAtEnd_2 em1 (fun H locs hP hS => ?_)
  refine lv_aload_n hx hb dX10_filledAtEnd_5 rfl (lv_at hl 0 rfl) ?_
  obtain ⟨m2, z3, hD⟩ := b1_el hD
  refine rcV  (As := []) (rest := []) Fx0 (c_X10_goesAside l hLx hAd m1 z3) hP (hD1 _ (hAd _ _)) hS (hA1 _ _ (hAd _ _) hS.1) hLx (Nat.le_of_ble_eq_true rfl) (xs0 _ _) rfl tw_9_77 tw_9_74 tw_9_76 ts_155 tw_1_13 yd_X10_goesAside ⟨(Nat.le_of_ble_eq_true rfl), (Nat.le_of_ble_eq_true rfl)⟩ rfl hl.1 rfl (Nat.le_of_ble_eq_true rfl) dX10_filledAtEnd_6 (fun H locs hP hS => ?_)
  refine lv_aload_n hx hb dX10_filledAtEnd_9 rfl (lv_at hl 0 rfl) ?_
  refine lv_sipush (v := (1000 : Int32)) hx hb dX10_filledAtEnd_10 (by decide) ?_
  obtain ⟨v4, m5, z6, hD⟩ := b2_el hD
  refine rcV  (As := [.int (1000 : Int32)]) (rest := []) Fx0 (c_X10_runs l hLx hAd m2 (1000 : Int32) z6) hP (hD1 _ (hAd _ _)) hS (hA1 _ _ (hAd _ _) hS.1) hLx (Nat.le_of_ble_eq_true rfl) (xs0 _ _) rfl tw_9_2 tw_8_239 tw_9_1 ts_150 tw_1_13 yd_X10_runs ⟨(Nat.le_of_ble_eq_true rfl), (Nat.le_of_ble_eq_true rfl)⟩ rfl hl.1 rfl (Nat.le_of_ble_eq_true rfl) dX10_filledAtEnd_13 (fun H locs hP hS => ?_)
  refine lv_istore_n (lv' := [(1, .int v4), (0, .ref (adx 0))]) hx hb dX10_filledAtEnd_16 rfl hl (by decide) rfl (fun ls hl => ?_)
  refine lv_aload_n hx hb dX10_filledAtEnd_17 rfl (lv_at hl 1 rfl) ?_
  refine lv_iconst (v := (-1 : Int32)) hx hb dX10_filledAtEnd_18 (by decide) ?_
  refine lv_iconst (v := (1 : Int32)) hx hb dX10_filledAtEnd_19 (by decide) ?_
  obtain ⟨v7, z8, hD⟩ := b1_el hD
  refine rcV  (As := [.int (-1 : Int32), .int (1 : Int32)]) (rest := []) Fx0 (c_X10_spotsIn l hLx hAd m5 (-1 : Int32) (1 : Int32) z8) hP (hD1 _ (hAd _ _)) hS (hA1 _ _ (hAd _ _) hS.1) hLx (Nat.le_of_ble_eq_true rfl) (xs0 _ _) rfl tw_8_91 tw_8_88 tw_8_90 ts_126 tw_1_13 yd_X10_spotsIn ⟨(Nat.le_of_ble_eq_true rfl), (Nat.le_of_ble_eq_true rfl)⟩ rfl hl.1 rfl (Nat.le_of_ble_eq_true rfl) dX10_filledAtEnd_20 (fun H locs hP hS => ?_)
  refine lv_istore_n (lv' := [(2, .int v7), (1, .int v4), (0, .ref (adx 0))]) hx hb dX10_filledAtEnd_23 rfl hl (by decide) rfl (fun ls hl => ?_)
  refine lv_aload_n hx hb dX10_filledAtEnd_24 rfl (lv_at hl 2 rfl) ?_
  obtain ⟨m9, z10, hD⟩ := b1_el hD
  refine rcV  (As := []) (rest := []) Fx0 (c_X10_comesBack l hLx hAd m5 z10) hP (hD1 _ (hAd _ _)) hS (hA1 _ _ (hAd _ _) hS.1) hLx (Nat.le_of_ble_eq_true rfl) (xs0 _ _) rfl tw_9_81 tw_9_78 tw_9_80 ts_156 tw_1_13 yd_X10_comesBack ⟨(Nat.le_of_ble_eq_true rfl), (Nat.le_of_ble_eq_true rfl)⟩ rfl hl.1 rfl (Nat.le_of_ble_eq_true rfl) dX10_filledAtEnd_25 (fun H locs hP hS => ?_)
  refine lv_iload_n hx hb dX10_filledAtEnd_28 rfl (lv_at hl 0 rfl) ?_
  obtain ⟨rfl, rfl⟩ := es2 hD
  exact hret _ _ _ hP hS (fun Qc hq => W.iret hx hb hr hq hS.2.2 dX10_filledAtEnd_29 hlocks)

noncomputable def D_X10_lacks (x1 : Int32) (x2 : Int32) (x : MM) : Option Int64 := b1 (D_X10_spotsIn x1 (0 : Int32) x) (fun v1 => b1 (D_X10_spotsIn x1 (0 : Int32) x) (fun v3 => b1 (D_X10_spotsIn x1 (1 : Int32) x) (fun v5 => bnd ((v1.toInt64 + ((x2.toInt64 - (1 : Int64)) * (v3 + v5).toInt64))) (fun v7 => b1 (D_X10_inReels x1 x) (fun v8 => b1 (D_X10_held x1 x) (fun v10 => bnd (if ((v7 - v8.toInt64) - v10.toInt64) < (0 : Int64) then (0 : Int64) else ((v7 - v8.toInt64) - v10.toInt64)) (fun v12 => some (v12))))))))
set_option maxHeartbeats 4000000 in
set_option maxRecDepth 100000 in
theorem c_X10_lacks (l : Launch) {D : va_G} {cs : Nat → ClassId} {adx : Nat → Nat} {Wf : MM → va_W} (hLx : Ln 9 adx (xsh cs adx) Wf) (hAd : ∀ a0_ b0_ : MM, (Wf a0_).map (fun q => q.1) = (Wf b0_).map (fun q => q.1)) (x : MM) (x1 : Int32) (x2 : Int32) {rr : Int64} (hD : D_X10_lacks x1 x2 x = some (rr)) : Ct l yX10_lacks cX10_lacks 5 (some .long) 2 46 D cs [.ref (adx 0), .int x1, .int x2] (Wf x) (Wf x) (some (.long rr)) := by
  refine Ct.ofW (by decide) (Nat.le_of_ble_eq_true rfl) rfl ?_
  intro p e s m0 below meth c A Q ls args hx hb hr hml hlocks hown hts hK hP hD1 hSS hS hA1 hl hret
  have hT : ∀ w ∈ TBL, w.before args s = true := fun w h => hts w (List.mem_cons_of_mem _ h)
  have Fx0 : Fx p l m0 c cX10_lacks 5 s args yX10_lacks cX10_lacks 5 (some .long) D cs A := ⟨hx, hb, hml, hown, hts, hK, hSS⟩
  have hown : s.vm.findClass RX10 = some m0.cls := hown
  have hl : lv_has ls 5 [(0, .ref (adx 0)), (1, .int x1), (2, .int x2)] := hl
  unfold D_X10_lacks at hD
  refine lv_aload_n hx hb dX10_lacks_0 rfl (lv_at hl 0 rfl) ?_
  refine lv_iload_n hx hb dX10_lacks_1 rfl (lv_at hl 1 rfl) ?_
  refine lv_iconst (v := (0 : Int32)) hx hb dX10_lacks_2 (by decide) ?_
  obtain ⟨v1, z2, hD⟩ := b1_el hD
  refine rcV  (As := [.int x1, .int (0 : Int32)]) (rest := []) Fx0 (c_X10_spotsIn l hLx hAd x x1 (0 : Int32) z2) hP (hD1 _ (hAd _ _)) hS (hA1 _ _ (hAd _ _) hS.1) hLx (Nat.le_of_ble_eq_true rfl) (xs0 _ _) rfl tw_8_91 tw_8_88 tw_8_90 ts_126 tw_1_13 yd_X10_spotsIn ⟨(Nat.le_of_ble_eq_true rfl), (Nat.le_of_ble_eq_true rfl)⟩ rfl hl.1 rfl (Nat.le_of_ble_eq_true rfl) dX10_lacks_3 (fun H locs hP hS => ?_)
  refine lv_i2l (v := v1.toInt64) hx hb dX10_lacks_6 rfl ?_
  refine lv_iload_n hx hb dX10_lacks_7 rfl (lv_at hl 2 rfl) ?_
  refine lv_i2l (v := x2.toInt64) hx hb dX10_lacks_8 rfl ?_
  refine lv_lconst (v := (1 : Int64)) hx hb dX10_lacks_9 (by decide) ?_
  refine lv_lsub hx hb dX10_lacks_10 ?_
  refine lv_aload_n hx hb dX10_lacks_11 rfl (lv_at hl 0 rfl) ?_
  refine lv_iload_n hx hb dX10_lacks_12 rfl (lv_at hl 1 rfl) ?_
  refine lv_iconst (v := (0 : Int32)) hx hb dX10_lacks_13 (by decide) ?_
  obtain ⟨v3, z4, hD⟩ := b1_el hD
  refine rcV  (As := [.int x1, .int (0 : Int32)]) (rest := [.long (x2.toInt64 - (1 : Int64)), .long v1.toInt64]) Fx0 (c_X10_spotsIn l hLx hAd x x1 (0 : Int32) z4) hP (hD1 _ (hAd _ _)) hS (hA1 _ _ (hAd _ _) hS.1) hLx (Nat.le_of_ble_eq_true rfl) (xs0 _ _) rfl tw_8_91 tw_8_88 tw_8_90 ts_126 tw_1_13 yd_X10_spotsIn ⟨(Nat.le_of_ble_eq_true rfl), (Nat.le_of_ble_eq_true rfl)⟩ rfl hl.1 rfl (Nat.le_of_ble_eq_true rfl) dX10_lacks_14 (fun H locs hP hS => ?_)
  refine lv_aload_n hx hb dX10_lacks_17 rfl (lv_at hl 0 rfl) ?_
  refine lv_iload_n hx hb dX10_lacks_18 rfl (lv_at hl 1 rfl) ?_
  refine lv_iconst (v := (1 : Int32)) hx hb dX10_lacks_19 (by decide) ?_
  obtain ⟨v5, z6, hD⟩ := b1_el hD
  refine rcV  (As := [.int x1, .int (1 : Int32)]) (rest := [.int v3, .long (x2.toInt64 - (1 : Int64)), .long v1.toInt64]) Fx0 (c_X10_spotsIn l hLx hAd x x1 (1 : Int32) z6) hP (hD1 _ (hAd _ _)) hS (hA1 _ _ (hAd _ _) hS.1) hLx (Nat.le_of_ble_eq_true rfl) (xs0 _ _) rfl tw_8_91 tw_8_88 tw_8_90 ts_126 tw_1_13 yd_X10_spotsIn ⟨(Nat.le_of_ble_eq_true rfl), (Nat.le_of_ble_eq_true rfl)⟩ rfl hl.1 rfl (Nat.le_of_ble_eq_true rfl) dX10_lacks_20 (fun H locs hP hS => ?_)
  refine lv_iadd hx hb dX10_lacks_23 ?_
  refine lv_i2l (v := (v3 + v5).toInt64) hx hb dX10_lacks_24 rfl ?_
  refine lv_lmul hx hb dX10_lacks_25 ?_
  refine lv_ladd hx hb dX10_lacks_26 ?_
  obtain ⟨v7, ev7, hD⟩ := bnd_el hD
  refine lv_nml ev7 ?_
  refine lv_lstore_n (lv' := [(3, .long v7), (0, .ref (adx 0)), (1, .int x1), (2, .int x2)]) hx hb dX10_lacks_27 rfl hl (by decide) rfl (fun ls hl => ?_)
  refine lv_lconst (v := (0 : Int64)) hx hb dX10_lacks_28 (by decide) ?_
  refine lv_lload_n hx hb dX10_lacks_29 rfl (lv_at hl 0 rfl) ?_
  refine lv_aload_n hx hb dX10_lacks_30 rfl (lv_at hl 1 rfl) ?_
  refine lv_iload_n hx hb dX10_lacks_31 rfl (lv_at hl 2 rfl) ?_
  obtain ⟨v8, z9, hD⟩ := b1_el hD
  refine rcV  (As := [.int x1]) (rest := [.long v7, .long (0 : Int64)]) Fx0 (c_X10_inReels l hLx hAd x x1 z9) hP (hD1 _ (hAd _ _)) hS (hA1 _ _ (hAd _ _) hS.1) hLx (Nat.le_of_ble_eq_true rfl) (xs0 _ _) rfl tw_9_27 tw_9_24 tw_9_26 ts_153 tw_1_13 yd_X10_inReels ⟨(Nat.le_of_ble_eq_true rfl), (Nat.le_of_ble_eq_true rfl)⟩ rfl hl.1 rfl (Nat.le_of_ble_eq_true rfl) dX10_lacks_32 (fun H locs hP hS => ?_)
  refine lv_i2l (v := v8.toInt64) hx hb dX10_lacks_35 rfl ?_
  refine lv_lsub hx hb dX10_lacks_36 ?_
  refine lv_aload_n hx hb dX10_lacks_37 rfl (lv_at hl 1 rfl) ?_
  refine lv_iload_n hx hb dX10_lacks_38 rfl (lv_at hl 2 rfl) ?_
  obtain ⟨v10, z11, hD⟩ := b1_el hD
  refine rcV  (As := [.int x1]) (rest := [.long (v7 - v8.toInt64), .long (0 : Int64)]) Fx0 (c_X10_held l hLx hAd x x1 z11) hP (hD1 _ (hAd _ _)) hS (hA1 _ _ (hAd _ _) hS.1) hLx (Nat.le_of_ble_eq_true rfl) (xs0 _ _) rfl tw_8_219 tw_8_216 tw_8_218 ts_147 tw_1_13 yd_X10_held ⟨(Nat.le_of_ble_eq_true rfl), (Nat.le_of_ble_eq_true rfl)⟩ rfl hl.1 rfl (Nat.le_of_ble_eq_true rfl) dX10_lacks_39 (fun H locs hP hS => ?_)
  refine lv_i2l (v := v10.toInt64) hx hb dX10_lacks_42 rfl ?_
  refine lv_lsub hx hb dX10_lacks_43 ?_
  refine va_mmax_long hx hb (hml.trans hl.1.symm) hown (Fx0.T tw_9_106) (Fx0.T tw_9_107) (Fx0.T tw_1_14) (Fx0.T tw_9_108) (Nat.le_of_ble_eq_true rfl) (Nat.le_of_ble_eq_true rfl) (Nat.le_refl _) (Nat.le_refl _) dX10_lacks_44 ?_
  obtain ⟨v12, ev12, hD⟩ := bnd_el hD
  refine lv_nml ev12 ?_
  obtain rfl := es1 hD
  exact hret _ _ _ hP hS (fun Qc hq => W.lret hx hb hr hq hS.2.2 dX10_lacks_47 hlocks)

noncomputable def D_X10_shortage (x1 : Int32) (x : MM) : Option (Int32 × MM) := b2 (D_X10_noKind x1 x) (fun v1 m2 => if v1 = 0 then (b1 (D_X10_lacks x1 (1 : Int32) m2) (fun v4 => some (v4.toInt32, m2))) else (some ((0 : Int32), m2)))
set_option maxHeartbeats 4000000 in
set_option maxRecDepth 100000 in
theorem c_X10_shortage (l : Launch) {D : va_G} {cs : Nat → ClassId} {adx : Nat → Nat} {Wf : MM → va_W} (hLx : Ln 9 adx (xsh cs adx) Wf) (hAd : ∀ a0_ b0_ : MM, (Wf a0_).map (fun q => q.1) = (Wf b0_).map (fun q => q.1)) (x : MM) (x1 : Int32) {rr : Int32} {x' : MM} (hD : D_X10_shortage x1 x = some (rr, x')) : Ct l yX10_shortage cX10_shortage 2 (some .int) 3 70 D cs [.ref (adx 0), .int x1] (Wf x) (Wf x') (some (.int rr)) := by
  refine Ct.ofW (by decide) (Nat.le_of_ble_eq_true rfl) (hAd _ _) ?_
  intro p e s m0 below meth c A Q ls args hx hb hr hml hlocks hown hts hK hP hD1 hSS hS hA1 hl hret
  have hT : ∀ w ∈ TBL, w.before args s = true := fun w h => hts w (List.mem_cons_of_mem _ h)
  have Fx0 : Fx p l m0 c cX10_shortage 2 s args yX10_shortage cX10_shortage 2 (some .int) D cs A := ⟨hx, hb, hml, hown, hts, hK, hSS⟩
  have hown : s.vm.findClass RX10 = some m0.cls := hown
  have hl : lv_has ls 2 [(0, .ref (adx 0)), (1, .int x1)] := hl
  unfold D_X10_shortage at hD
  refine lv_aload_n hx hb dX10_shortage_0 rfl (lv_at hl 0 rfl) ?_
  refine lv_iload_n hx hb dX10_shortage_1 rfl (lv_at hl 1 rfl) ?_
  obtain ⟨v1, m2, z3, hD⟩ := b2_el hD
  refine rcV  (As := [.int x1]) (rest := []) Fx0 (c_X10_noKind l hLx hAd x x1 z3) hP (hD1 _ (hAd _ _)) hS (hA1 _ _ (hAd _ _) hS.1) hLx (Nat.le_of_ble_eq_true rfl) (xs0 _ _) rfl tw_7_206 tw_7_203 tw_7_205 ts_110 tw_1_13 yd_X10_noKind ⟨(Nat.le_of_ble_eq_true rfl), (Nat.le_of_ble_eq_true rfl)⟩ rfl hl.1 rfl (Nat.le_of_ble_eq_true rfl) dX10_shortage_2 (fun H locs hP hS => ?_)
  refine lv_if_eq (tgt := 12) hx hb dX10_shortage_5 (by decide) (fun c => ?_) (fun c => ?_)
  · have hD := ifp hD c
    refine lv_aload_n hx hb dX10_shortage_12 rfl (lv_at hl 0 rfl) ?_
    refine lv_iload_n hx hb dX10_shortage_13 rfl (lv_at hl 1 rfl) ?_
    refine lv_iconst (v := (1 : Int32)) hx hb dX10_shortage_14 (by decide) ?_
    obtain ⟨v4, z5, hD⟩ := b1_el hD
    refine rcV  (As := [.int x1, .int (1 : Int32)]) (rest := []) Fx0 (c_X10_lacks l hLx hAd m2 x1 (1 : Int32) z5) hP (hD1 _ (hAd _ _)) hS (hA1 _ _ (hAd _ _) hS.1) hLx (Nat.le_of_ble_eq_true rfl) (xs0 _ _) rfl tw_9_105 tw_9_102 tw_9_104 ts_159 tw_1_13 yd_X10_lacks ⟨(Nat.le_of_ble_eq_true rfl), (Nat.le_of_ble_eq_true rfl)⟩ rfl hl.1 rfl (Nat.le_of_ble_eq_true rfl) dX10_shortage_15 (fun H locs hP hS => ?_)
    refine lv_l2i (v := v4.toInt32) hx hb dX10_shortage_18 rfl ?_
    obtain ⟨rfl, rfl⟩ := es2 hD
    exact hret _ _ _ hP hS (fun Qc hq => W.iret hx hb hr hq hS.2.2 dX10_shortage_19 hlocks)
  · have hD := ifn hD c
    refine lv_iconst (v := (0 : Int32)) hx hb dX10_shortage_8 (by decide) ?_
    refine lv_goto (tgt := 19) hx hb dX10_shortage_9 (by decide) ?_
    obtain ⟨rfl, rfl⟩ := es2 hD
    exact hret _ _ _ hP hS (fun Qc hq => W.iret hx hb hr hq hS.2.2 dX10_shortage_19 hlocks)

noncomputable def D_X10_shortageFor (x1 : Int32) (x2 : Int32) (x : MM) : Option (Int32 × MM) := b2 (D_X10_noKind x1 x) (fun v1 m2 => if v1 = 0 then (b1 (D_X10_in x2.toInt64 (1 : Int64) (1000 : Int64)) (fun v4 => if v4 = 0 then (b2 (D_X10_throwsIf (1 : Int32) (2 : Int32) m2) (fun v11 m12 => if v11 = 0 then (b1 (D_X10_lacks x1 x2 m12) (fun v14 => some (v14.toInt32, m12))) else (some ((0 : Int32), m12)))) else (b2 (D_X10_throwsIf (0 : Int32) (2 : Int32) m2) (fun v6 m7 => if v6 = 0 then (b1 (D_X10_lacks x1 x2 m7) (fun v9 => some (v9.toInt32, m7))) else (some ((0 : Int32), m7)))))) else (some ((0 : Int32), m2)))
set_option maxHeartbeats 4000000 in
set_option maxRecDepth 100000 in
theorem c_X10_shortageFor (l : Launch) {D : va_G} {cs : Nat → ClassId} {adx : Nat → Nat} {Wf : MM → va_W} (hLx : Ln 9 adx (xsh cs adx) Wf) (hAd : ∀ a0_ b0_ : MM, (Wf a0_).map (fun q => q.1) = (Wf b0_).map (fun q => q.1)) (x : MM) (x1 : Int32) (x2 : Int32) {rr : Int32} {x' : MM} (hD : D_X10_shortageFor x1 x2 x = some (rr, x')) : Ct l yX10_shortageFor cX10_shortageFor 3 (some .int) 3 70 D cs [.ref (adx 0), .int x1, .int x2] (Wf x) (Wf x') (some (.int rr)) := by
  refine Ct.ofW (by decide) (Nat.le_of_ble_eq_true rfl) (hAd _ _) ?_
  intro p e s m0 below meth c A Q ls args hx hb hr hml hlocks hown hts hK hP hD1 hSS hS hA1 hl hret
  have hT : ∀ w ∈ TBL, w.before args s = true := fun w h => hts w (List.mem_cons_of_mem _ h)
  have Fx0 : Fx p l m0 c cX10_shortageFor 3 s args yX10_shortageFor cX10_shortageFor 3 (some .int) D cs A := ⟨hx, hb, hml, hown, hts, hK, hSS⟩
  have hown : s.vm.findClass RX10 = some m0.cls := hown
  have hl : lv_has ls 3 [(0, .ref (adx 0)), (1, .int x1), (2, .int x2)] := hl
  unfold D_X10_shortageFor at hD
  refine lv_aload_n hx hb dX10_shortageFor_0 rfl (lv_at hl 0 rfl) ?_
  refine lv_iload_n hx hb dX10_shortageFor_1 rfl (lv_at hl 1 rfl) ?_
  obtain ⟨v1, m2, z3, hD⟩ := b2_el hD
  refine rcV  (As := [.int x1]) (rest := []) Fx0 (c_X10_noKind l hLx hAd x x1 z3) hP (hD1 _ (hAd _ _)) hS (hA1 _ _ (hAd _ _) hS.1) hLx (Nat.le_of_ble_eq_true rfl) (xs0 _ _) rfl tw_7_206 tw_7_203 tw_7_205 ts_110 tw_1_13 yd_X10_noKind ⟨(Nat.le_of_ble_eq_true rfl), (Nat.le_of_ble_eq_true rfl)⟩ rfl hl.1 rfl (Nat.le_of_ble_eq_true rfl) dX10_shortageFor_2 (fun H locs hP hS => ?_)
  refine lv_if_ne (tgt := 33) hx hb dX10_shortageFor_5 (by decide) (fun c => ?_) (fun c => ?_)
  · have hD := ifn hD c
    refine lv_iconst (v := (0 : Int32)) hx hb dX10_shortageFor_33 (by decide) ?_
    refine lv_goto (tgt := 44) hx hb dX10_shortageFor_34 (by decide) ?_
    obtain ⟨rfl, rfl⟩ := es2 hD
    exact hret _ _ _ hP hS (fun Qc hq => W.iret hx hb hr hq hS.2.2 dX10_shortageFor_44 hlocks)
  · have hD := ifp hD c
    refine lv_aload_n hx hb dX10_shortageFor_8 rfl (lv_at hl 0 rfl) ?_
    refine lv_iload_n hx hb dX10_shortageFor_9 rfl (lv_at hl 2 rfl) ?_
    refine lv_i2l (v := x2.toInt64) hx hb dX10_shortageFor_10 rfl ?_
    refine lv_lconst (v := (1 : Int64)) hx hb dX10_shortageFor_11 (by decide) ?_
    refine lv_ldc2 (v := (1000 : Int64)) hx hb hown (Fx0.T tw_9_56) dX10_shortageFor_12 ?_
    obtain ⟨v4, z5, hD⟩ := b1_el hD
    refine rcS (As := [.long x2.toInt64, .long (1 : Int64), .long (1000 : Int64)]) (rest := [.ref (adx 0)]) Fx0 (c_X10_in l x2.toInt64 (1 : Int64) (1000 : Int64) z5) hP (hD1 _ (hAd _ _)) hS (hA1 _ _ (hAd _ _) hS.1) tw_7_69 tw_7_67 tw_7_68 tw_1_13 yd_X10_in ⟨(Nat.le_of_ble_eq_true rfl), (Nat.le_of_ble_eq_true rfl)⟩ rfl hl.1 rfl (Nat.le_of_ble_eq_true rfl) dX10_shortageFor_15 (fun H locs hP hS => ?_)
    refine lv_if_ne (tgt := 25) hx hb dX10_shortageFor_18 (by decide) (fun c => ?_) (fun c => ?_)
    · have hD := ifn hD c
      refine lv_iconst (v := (0 : Int32)) hx hb dX10_shortageFor_25 (by decide) ?_
      refine lv_iconst (v := (2 : Int32)) hx hb dX10_shortageFor_26 (by decide) ?_
      obtain ⟨v6, m7, z8, hD⟩ := b2_el hD
      refine rcV  (As := [.int (0 : Int32), .int (2 : Int32)]) (rest := []) Fx0 (c_X10_throwsIf l hLx hAd m2 (0 : Int32) (2 : Int32) z8) hP (hD1 _ (hAd _ _)) hS (hA1 _ _ (hAd _ _) hS.1) hLx (Nat.le_of_ble_eq_true rfl) (xs0 _ _) rfl tw_7_163 tw_7_160 tw_7_162 ts_105 tw_1_13 yd_X10_throwsIf ⟨(Nat.le_of_ble_eq_true rfl), (Nat.le_of_ble_eq_true rfl)⟩ rfl hl.1 rfl (Nat.le_of_ble_eq_true rfl) dX10_shortageFor_27 (fun H locs hP hS => ?_)
      refine lv_if_eq (tgt := 37) hx hb dX10_shortageFor_30 (by decide) (fun c => ?_) (fun c => ?_)
      · have hD := ifp hD c
        refine lv_aload_n hx hb dX10_shortageFor_37 rfl (lv_at hl 0 rfl) ?_
        refine lv_iload_n hx hb dX10_shortageFor_38 rfl (lv_at hl 1 rfl) ?_
        refine lv_iload_n hx hb dX10_shortageFor_39 rfl (lv_at hl 2 rfl) ?_
        obtain ⟨v9, z10, hD⟩ := b1_el hD
        refine rcV  (As := [.int x1, .int x2]) (rest := []) Fx0 (c_X10_lacks l hLx hAd m7 x1 x2 z10) hP (hD1 _ (hAd _ _)) hS (hA1 _ _ (hAd _ _) hS.1) hLx (Nat.le_of_ble_eq_true rfl) (xs0 _ _) rfl tw_9_105 tw_9_102 tw_9_104 ts_159 tw_1_13 yd_X10_lacks ⟨(Nat.le_of_ble_eq_true rfl), (Nat.le_of_ble_eq_true rfl)⟩ rfl hl.1 rfl (Nat.le_of_ble_eq_true rfl) dX10_shortageFor_40 (fun H locs hP hS => ?_)
        refine lv_l2i (v := v9.toInt32) hx hb dX10_shortageFor_43 rfl ?_
        obtain ⟨rfl, rfl⟩ := es2 hD
        exact hret _ _ _ hP hS (fun Qc hq => W.iret hx hb hr hq hS.2.2 dX10_shortageFor_44 hlocks)
      · have hD := ifn hD c
        refine lv_iconst (v := (0 : Int32)) hx hb dX10_shortageFor_33 (by decide) ?_
        refine lv_goto (tgt := 44) hx hb dX10_shortageFor_34 (by decide) ?_
        obtain ⟨rfl, rfl⟩ := es2 hD
        exact hret _ _ _ hP hS (fun Qc hq => W.iret hx hb hr hq hS.2.2 dX10_shortageFor_44 hlocks)
    · have hD := ifp hD c
      refine lv_iconst (v := (1 : Int32)) hx hb dX10_shortageFor_21 (by decide) ?_
      refine lv_goto (tgt := 26) hx hb dX10_shortageFor_22 (by decide) ?_
      refine lv_iconst (v := (2 : Int32)) hx hb dX10_shortageFor_26 (by decide) ?_
      obtain ⟨v11, m12, z13, hD⟩ := b2_el hD
      refine rcV  (As := [.int (1 : Int32), .int (2 : Int32)]) (rest := []) Fx0 (c_X10_throwsIf l hLx hAd m2 (1 : Int32) (2 : Int32) z13) hP (hD1 _ (hAd _ _)) hS (hA1 _ _ (hAd _ _) hS.1) hLx (Nat.le_of_ble_eq_true rfl) (xs0 _ _) rfl tw_7_163 tw_7_160 tw_7_162 ts_105 tw_1_13 yd_X10_throwsIf ⟨(Nat.le_of_ble_eq_true rfl), (Nat.le_of_ble_eq_true rfl)⟩ rfl hl.1 rfl (Nat.le_of_ble_eq_true rfl) dX10_shortageFor_27 (fun H locs hP hS => ?_)
      refine lv_if_eq (tgt := 37) hx hb dX10_shortageFor_30 (by decide) (fun c => ?_) (fun c => ?_)
      · have hD := ifp hD c
        refine lv_aload_n hx hb dX10_shortageFor_37 rfl (lv_at hl 0 rfl) ?_
        refine lv_iload_n hx hb dX10_shortageFor_38 rfl (lv_at hl 1 rfl) ?_
        refine lv_iload_n hx hb dX10_shortageFor_39 rfl (lv_at hl 2 rfl) ?_
        obtain ⟨v14, z15, hD⟩ := b1_el hD
        refine rcV  (As := [.int x1, .int x2]) (rest := []) Fx0 (c_X10_lacks l hLx hAd m12 x1 x2 z15) hP (hD1 _ (hAd _ _)) hS (hA1 _ _ (hAd _ _) hS.1) hLx (Nat.le_of_ble_eq_true rfl) (xs0 _ _) rfl tw_9_105 tw_9_102 tw_9_104 ts_159 tw_1_13 yd_X10_lacks ⟨(Nat.le_of_ble_eq_true rfl), (Nat.le_of_ble_eq_true rfl)⟩ rfl hl.1 rfl (Nat.le_of_ble_eq_true rfl) dX10_shortageFor_40 (fun H locs hP hS => ?_)
        refine lv_l2i (v := v14.toInt32) hx hb dX10_shortageFor_43 rfl ?_
        obtain ⟨rfl, rfl⟩ := es2 hD
        exact hret _ _ _ hP hS (fun Qc hq => W.iret hx hb hr hq hS.2.2 dX10_shortageFor_44 hlocks)
      · have hD := ifn hD c
        refine lv_iconst (v := (0 : Int32)) hx hb dX10_shortageFor_33 (by decide) ?_
        refine lv_goto (tgt := 44) hx hb dX10_shortageFor_34 (by decide) ?_
        obtain ⟨rfl, rfl⟩ := es2 hD
        exact hret _ _ _ hP hS (fun Qc hq => W.iret hx hb hr hq hS.2.2 dX10_shortageFor_44 hlocks)

noncomputable def D_X10_isEnough_4 (x : MM) : Nat → Int32 → Int32 → Int32 → Option Int32
  | 0, _, _, _ => none
  | n + 1, x1, x2, x3 => if (gi x 1 17) ≤ x3 then (if x2 = 0 ∨ x2 = 1 then some (x2) else none) else (if x2 = 0 then (bnd (x3 + (1 : Int32)) (fun v2 => D_X10_isEnough_4 x n x1 (0 : Int32) v2)) else (b1 (D_X10_lacks x3 x1 x) (fun v3 => if v3 = (0 : Int64) then (bnd (x3 + (1 : Int32)) (fun v6 => D_X10_isEnough_4 x n x1 (1 : Int32) v6)) else (bnd (x3 + (1 : Int32)) (fun v5 => D_X10_isEnough_4 x n x1 (0 : Int32) v5)))))
noncomputable def D_X10_isEnough (x1 : Int32) (x : MM) : Option Int32 := D_X10_isEnough_4 x FU x1 (1 : Int32) (0 : Int32)
set_option maxHeartbeats 4000000 in
set_option maxRecDepth 100000 in
theorem c_X10_isEnough (l : Launch) {D : va_G} {cs : Nat → ClassId} {adx : Nat → Nat} {Wf : MM → va_W} (hLx : Ln 9 adx (xsh cs adx) Wf) (hAd : ∀ a0_ b0_ : MM, (Wf a0_).map (fun q => q.1) = (Wf b0_).map (fun q => q.1)) (x : MM) (x1 : Int32) {rr : Int32} (hD : D_X10_isEnough x1 x = some (rr)) : Ct l yX10_isEnough cX10_isEnough 4 (some .boolean) 3 70 D cs [.ref (adx 0), .int x1] (Wf x) (Wf x) (some (.int rr)) := by
  refine Ct.ofW (by decide) (Nat.le_of_ble_eq_true rfl) rfl ?_
  intro p e s m0 below meth c A Q ls args hx hb hr hml hlocks hown hts hK hP hD1 hSS hS hA1 hl hret
  have hT : ∀ w ∈ TBL, w.before args s = true := fun w h => hts w (List.mem_cons_of_mem _ h)
  have Fx0 : Fx p l m0 c cX10_isEnough 4 s args yX10_isEnough cX10_isEnough 4 (some .boolean) D cs A := ⟨hx, hb, hml, hown, hts, hK, hSS⟩
  have hown : s.vm.findClass RX10 = some m0.cls := hown
  have hl : lv_has ls 4 [(0, .ref (adx 0)), (1, .int x1)] := hl
  unfold D_X10_isEnough at hD
  have c_4 : ∀ (n : Nat), ∀ (x1 : Int32) (x2 : Int32) (x3 : Int32) (H : Heap) (locs : List Loc) (ls : Array Slot), D_X10_isEnough_4 x n x1 x2 x3 = some (rr) → va_P D vwCl (Wf x) H → va_S A s.heap H locs → lv_has ls 4 [(0, .ref (adx 0)), (1, .int x1), (2, .int x2), (3, .int x3)] → W p l e ({ frames := 3, cells := 0, slots := 0, locals := 70 } : Room) s m0 args below meth c H locs 0 0 Q (F0 m0 4 ls []) := by
    intro n
    induction n with
    | zero =>
      intro x1 x2 x3 H locs ls hD hP hS hl
      exact nn_el hD
    | succ n ih =>
      intro x1 x2 x3 H locs ls hD hP hS hl
      rw [D_X10_isEnough_4] at hD
      refine lv_iload_n hx hb dX10_isEnough_4 rfl (lv_at hl 3 rfl) ?_
      refine lv_aload_n hx hb dX10_isEnough_5 rfl (lv_at hl 0 rfl) ?_
      refine rg  hx hb hT hu10 hown hK hP hLx 0 0 (Nat.le_of_ble_eq_true rfl) (xs0 _ _) rfl (Nat.le_of_ble_eq_true rfl) (Fx0.T tw_6_215) rfl (v := .ref (adx 1)) rfl dX10_isEnough_6 ?_
      refine lv_bipush (v := (17 : Int32)) hx hb dX10_isEnough_9 (by decide) ?_
      refine riald  hx hb hK hP hLx 1 (Nat.le_of_ble_eq_true rfl) (xs1 _ _) (by decide) (j := 17) (by decide) dX10_isEnough_11 ?_
      refine lv_icmp_ge (tgt := 42) hx hb dX10_isEnough_12 (by decide) (fun c => ?_) (fun c => ?_)
      · have hD := ifp hD c
        refine lv_iload_n hx hb dX10_isEnough_42 rfl (lv_at hl 2 rfl) ?_
        obtain ⟨h1, hD⟩ := gb_el hD
        obtain rfl := es1 hD
        exact hret _ _ _ hP hS (fun Qc hq => W.zret hx hb hr (nbz h1).1 hq hS.2.2 dX10_isEnough_43 hlocks)
      · have hD := ifn hD c
        refine lv_iload_n hx hb dX10_isEnough_15 rfl (lv_at hl 2 rfl) ?_
        refine lv_if_eq (tgt := 34) hx hb dX10_isEnough_16 (by decide) (fun c => ?_) (fun c => ?_)
        · have hD := ifp hD c
          refine lv_iconst (v := (0 : Int32)) hx hb dX10_isEnough_34 (by decide) ?_
          refine lv_istore_n (lv' := [(2, .int (0 : Int32)), (0, .ref (adx 0)), (1, .int x1), (3, .int x3)]) hx hb dX10_isEnough_35 rfl hl (by decide) rfl (fun ls hl => ?_)
          obtain ⟨v2, ev2, hD⟩ := bnd_el hD
          refine lv_iinc (v := v2) (lv' := [(3, .int v2), (2, .int (0 : Int32)), (0, .ref (adx 0)), (1, .int x1)]) hx hb dX10_isEnough_36 hl (k := 3) rfl (by rw [ev2]; rfl) (by decide) rfl (fun ls hl => ?_)
          refine lv_goto (tgt := 4) hx hb dX10_isEnough_39 (by decide) ?_
          exact ih _ _ _ _ _ _ hD hP hS (lv_sub hl [2, 3, 1, 0] rfl)
        · have hD := ifn hD c
          refine lv_aload_n hx hb dX10_isEnough_19 rfl (lv_at hl 0 rfl) ?_
          refine lv_iload_n hx hb dX10_isEnough_20 rfl (lv_at hl 3 rfl) ?_
          refine lv_iload_n hx hb dX10_isEnough_21 rfl (lv_at hl 1 rfl) ?_
          obtain ⟨v3, z4, hD⟩ := b1_el hD
          refine rcV  (As := [.int x3, .int x1]) (rest := []) Fx0 (c_X10_lacks l hLx hAd x x3 x1 z4) hP (hD1 _ (hAd _ _)) hS (hA1 _ _ (hAd _ _) hS.1) hLx (Nat.le_of_ble_eq_true rfl) (xs0 _ _) rfl tw_9_105 tw_9_102 tw_9_104 ts_159 tw_1_13 yd_X10_lacks ⟨(Nat.le_of_ble_eq_true rfl), (Nat.le_of_ble_eq_true rfl)⟩ rfl hl.1 rfl (Nat.le_of_ble_eq_true rfl) dX10_isEnough_22 (fun H locs hP hS => ?_)
          refine lv_lconst (v := (0 : Int64)) hx hb dX10_isEnough_25 (by decide) ?_
          refine rlc_ne (tgt := 34) hx hb dX10_isEnough_26 dX10_isEnough_27 (by decide) (fun c => ?_) (fun c => ?_)
          · have hD := ifn hD c
            refine lv_iconst (v := (0 : Int32)) hx hb dX10_isEnough_34 (by decide) ?_
            refine lv_istore_n (lv' := [(2, .int (0 : Int32)), (0, .ref (adx 0)), (1, .int x1), (3, .int x3)]) hx hb dX10_isEnough_35 rfl hl (by decide) rfl (fun ls hl => ?_)
            obtain ⟨v5, ev5, hD⟩ := bnd_el hD
            refine lv_iinc (v := v5) (lv' := [(3, .int v5), (2, .int (0 : Int32)), (0, .ref (adx 0)), (1, .int x1)]) hx hb dX10_isEnough_36 hl (k := 3) rfl (by rw [ev5]; rfl) (by decide) rfl (fun ls hl => ?_)
            refine lv_goto (tgt := 4) hx hb dX10_isEnough_39 (by decide) ?_
            exact ih _ _ _ _ _ _ hD hP hS (lv_sub hl [2, 3, 1, 0] rfl)
          · have hD := ifp hD c
            refine lv_iconst (v := (1 : Int32)) hx hb dX10_isEnough_30 (by decide) ?_
            refine lv_goto (tgt := 35) hx hb dX10_isEnough_31 (by decide) ?_
            refine lv_istore_n (lv' := [(2, .int (1 : Int32)), (0, .ref (adx 0)), (1, .int x1), (3, .int x3)]) hx hb dX10_isEnough_35 rfl hl (by decide) rfl (fun ls hl => ?_)
            obtain ⟨v6, ev6, hD⟩ := bnd_el hD
            refine lv_iinc (v := v6) (lv' := [(3, .int v6), (2, .int (1 : Int32)), (0, .ref (adx 0)), (1, .int x1)]) hx hb dX10_isEnough_36 hl (k := 3) rfl (by rw [ev6]; rfl) (by decide) rfl (fun ls hl => ?_)
            refine lv_goto (tgt := 4) hx hb dX10_isEnough_39 (by decide) ?_
            exact ih _ _ _ _ _ _ hD hP hS (lv_sub hl [2, 3, 1, 0] rfl)
  refine lv_iconst (v := (1 : Int32)) hx hb dX10_isEnough_0 (by decide) ?_
  refine lv_istore_n (lv' := [(2, .int (1 : Int32)), (0, .ref (adx 0)), (1, .int x1)]) hx hb dX10_isEnough_1 rfl hl (by decide) rfl (fun ls hl => ?_)
  refine lv_iconst (v := (0 : Int32)) hx hb dX10_isEnough_2 (by decide) ?_
  refine lv_istore_n (lv' := [(3, .int (0 : Int32)), (2, .int (1 : Int32)), (0, .ref (adx 0)), (1, .int x1)]) hx hb dX10_isEnough_3 rfl hl (by decide) rfl (fun ls hl => ?_)
  exact c_4 FU _ _ _ _ _ _ hD hP hS (lv_sub hl [2, 3, 1, 0] rfl)

noncomputable def D_X10_boardsPossible_7 : Nat → Int32 → MM → Option (Int32 × MM)
  | 0, _, _ => none
  | n + 1, x1, x => if (1000 : Int32) ≤ x1 then (some (x1, x)) else (b1 (D_X10_isEnough (x1 + (1 : Int32)) x) (fun v2 => if v2 = 0 then (some (x1, x)) else (bnd (x1 + (1 : Int32)) (fun v4 => D_X10_boardsPossible_7 n v4 x))))
noncomputable def D_X10_boardsPossible (x : MM) : Option (Int32 × MM) := bnd (si x 0 6 (0 : Int32)) (fun m1 => D_X10_boardsPossible_7 FU (0 : Int32) m1)
set_option maxHeartbeats 4000000 in
set_option maxRecDepth 100000 in
theorem c_X10_boardsPossible (l : Launch) {D : va_G} {cs : Nat → ClassId} {adx : Nat → Nat} {Wf : MM → va_W} (hLx : Ln 9 adx (xsh cs adx) Wf) (hAd : ∀ a0_ b0_ : MM, (Wf a0_).map (fun q => q.1) = (Wf b0_).map (fun q => q.1)) (x : MM) {rr : Int32} {x' : MM} (hD : D_X10_boardsPossible x = some (rr, x')) : Ct l yX10_boardsPossible cX10_boardsPossible 2 (some .int) 4 93 D cs [.ref (adx 0)] (Wf x) (Wf x') (some (.int rr)) := by
  refine Ct.ofW (by decide) (Nat.le_of_ble_eq_true rfl) (hAd _ _) ?_
  intro p e s m0 below meth c A Q ls args hx hb hr hml hlocks hown hts hK hP hD1 hSS hS hA1 hl hret
  have hT : ∀ w ∈ TBL, w.before args s = true := fun w h => hts w (List.mem_cons_of_mem _ h)
  have Fx0 : Fx p l m0 c cX10_boardsPossible 2 s args yX10_boardsPossible cX10_boardsPossible 2 (some .int) D cs A := ⟨hx, hb, hml, hown, hts, hK, hSS⟩
  have hown : s.vm.findClass RX10 = some m0.cls := hown
  have hl : lv_has ls 2 [(0, .ref (adx 0))] := hl
  unfold D_X10_boardsPossible at hD
  have c_7 : ∀ (n : Nat), ∀ (x1 : Int32) (x : MM) (H : Heap) (locs : List Loc) (ls : Array Slot), D_X10_boardsPossible_7 n x1 x = some (rr, x') → va_P D vwCl (Wf x) H → va_S A s.heap H locs → lv_has ls 2 [(0, .ref (adx 0)), (1, .int x1)] → W p l e ({ frames := 4, cells := 0, slots := 0, locals := 93 } : Room) s m0 args below meth c H locs 0 0 Q (F0 m0 7 ls []) := by
    intro n
    induction n with
    | zero =>
      intro x1 x H locs ls hD hP hS hl
      exact nn_el hD
    | succ n ih =>
      intro x1 x H locs ls hD hP hS hl
      rw [D_X10_boardsPossible_7] at hD
      refine lv_iload_n hx hb dX10_boardsPossible_7 rfl (lv_at hl 1 rfl) ?_
      refine lv_sipush (v := (1000 : Int32)) hx hb dX10_boardsPossible_8 (by decide) ?_
      refine lv_icmp_ge (tgt := 30) hx hb dX10_boardsPossible_11 (by decide) (fun c => ?_) (fun c => ?_)
      · have hD := ifp hD c
        refine lv_iload_n hx hb dX10_boardsPossible_30 rfl (lv_at hl 1 rfl) ?_
        obtain ⟨rfl, rfl⟩ := es2 hD
        exact hret _ _ _ hP hS (fun Qc hq => W.iret hx hb hr hq hS.2.2 dX10_boardsPossible_31 hlocks)
      · have hD := ifn hD c
        refine lv_aload_n hx hb dX10_boardsPossible_14 rfl (lv_at hl 0 rfl) ?_
        refine lv_iload_n hx hb dX10_boardsPossible_15 rfl (lv_at hl 1 rfl) ?_
        refine lv_iconst (v := (1 : Int32)) hx hb dX10_boardsPossible_16 (by decide) ?_
        refine lv_iadd hx hb dX10_boardsPossible_17 ?_
        obtain ⟨v2, z3, hD⟩ := b1_el hD
        refine rcV  (As := [.int (x1 + (1 : Int32))]) (rest := []) Fx0 (c_X10_isEnough l hLx hAd x (x1 + (1 : Int32)) z3) hP (hD1 _ (hAd _ _)) hS (hA1 _ _ (hAd _ _) hS.1) hLx (Nat.le_of_ble_eq_true rfl) (xs0 _ _) rfl tw_9_120 tw_9_117 tw_9_119 ts_160 tw_1_13 yd_X10_isEnough ⟨(Nat.le_of_ble_eq_true rfl), (Nat.le_of_ble_eq_true rfl)⟩ rfl hl.1 rfl (Nat.le_of_ble_eq_true rfl) dX10_boardsPossible_18 (fun H locs hP hS => ?_)
        refine lv_if_eq (tgt := 30) hx hb dX10_boardsPossible_21 (by decide) (fun c => ?_) (fun c => ?_)
        · have hD := ifp hD c
          refine lv_iload_n hx hb dX10_boardsPossible_30 rfl (lv_at hl 1 rfl) ?_
          obtain ⟨rfl, rfl⟩ := es2 hD
          exact hret _ _ _ hP hS (fun Qc hq => W.iret hx hb hr hq hS.2.2 dX10_boardsPossible_31 hlocks)
        · have hD := ifn hD c
          obtain ⟨v4, ev4, hD⟩ := bnd_el hD
          refine lv_iinc (v := v4) (lv' := [(1, .int v4), (0, .ref (adx 0))]) hx hb dX10_boardsPossible_24 hl (k := 1) rfl (by rw [ev4]; rfl) (by decide) rfl (fun ls hl => ?_)
          refine lv_goto (tgt := 7) hx hb dX10_boardsPossible_27 (by decide) ?_
          exact ih _ _ _ _ _ hD hP hS (lv_sub hl [1, 0] rfl)
  refine lv_aload_n hx hb dX10_boardsPossible_0 rfl (lv_at hl 0 rfl) ?_
  refine lv_iconst (v := (0 : Int32)) hx hb dX10_boardsPossible_1 (by decide) ?_
  obtain ⟨m1, em1, hD⟩ := bnd_el hD
  refine rp  hx hb hT hu10 tyX10_ok nmX10 hown hK hP (hD1 _ (hAd _ _)) hS hLx 0 6 (Nat.le_of_ble_eq_true rfl) (xs0 _ _) (xs0 _ _) rfl (Nat.le_of_ble_eq_true rfl) (Fx0.T tw_6_221) rfl rfl rfl rfl (Nat.le_of_ble_eq_true rfl) dX10_boardsPossible_2 em1 (fun H locs hP hS => ?_)
  refine lv_iconst (v := (0 : Int32)) hx hb dX10_boardsPossible_5 (by decide) ?_
  refine lv_istore_n (lv' := [(1, .int (0 : Int32)), (0, .ref (adx 0))]) hx hb dX10_boardsPossible_6 rfl hl (by decide) rfl (fun ls hl => ?_)
  exact c_7 FU _ _ _ _ _ hD hP hS (lv_sub hl [1, 0] rfl)

noncomputable def D_X10_isOut (x1 : Int32) (x : MM) : Option Int32 := b1 (D_X10_ofFeeder x1 (2 : Int32) x) (fun v1 => if v1 = 0 then (b1 (D_X10_ofFeeder x1 (4 : Int32) x) (fun v3 => if v3 = 0 then (some ((1 : Int32))) else (some ((0 : Int32))))) else (some ((0 : Int32))))
set_option maxHeartbeats 4000000 in
set_option maxRecDepth 100000 in
theorem c_X10_isOut (l : Launch) {D : va_G} {cs : Nat → ClassId} {adx : Nat → Nat} {Wf : MM → va_W} (hLx : Ln 9 adx (xsh cs adx) Wf) (hAd : ∀ a0_ b0_ : MM, (Wf a0_).map (fun q => q.1) = (Wf b0_).map (fun q => q.1)) (x : MM) (x1 : Int32) {rr : Int32} (hD : D_X10_isOut x1 x = some (rr)) : Ct l yX10_isOut cX10_isOut 2 (some .boolean) 1 22 D cs [.ref (adx 0), .int x1] (Wf x) (Wf x) (some (.int rr)) := by
  refine Ct.ofW (by decide) (Nat.le_of_ble_eq_true rfl) rfl ?_
  intro p e s m0 below meth c A Q ls args hx hb hr hml hlocks hown hts hK hP hD1 hSS hS hA1 hl hret
  have hT : ∀ w ∈ TBL, w.before args s = true := fun w h => hts w (List.mem_cons_of_mem _ h)
  have Fx0 : Fx p l m0 c cX10_isOut 2 s args yX10_isOut cX10_isOut 2 (some .boolean) D cs A := ⟨hx, hb, hml, hown, hts, hK, hSS⟩
  have hown : s.vm.findClass RX10 = some m0.cls := hown
  have hl : lv_has ls 2 [(0, .ref (adx 0)), (1, .int x1)] := hl
  unfold D_X10_isOut at hD
  refine lv_aload_n hx hb dX10_isOut_0 rfl (lv_at hl 0 rfl) ?_
  refine lv_iload_n hx hb dX10_isOut_1 rfl (lv_at hl 1 rfl) ?_
  refine lv_iconst (v := (2 : Int32)) hx hb dX10_isOut_2 (by decide) ?_
  obtain ⟨v1, z2, hD⟩ := b1_el hD
  refine rcV  (As := [.int x1, .int (2 : Int32)]) (rest := []) Fx0 (c_X10_ofFeeder l hLx hAd x x1 (2 : Int32) z2) hP (hD1 _ (hAd _ _)) hS (hA1 _ _ (hAd _ _) hS.1) hLx (Nat.le_of_ble_eq_true rfl) (xs0 _ _) rfl tw_7_222 tw_7_219 tw_7_221 ts_113 tw_1_13 yd_X10_ofFeeder ⟨(Nat.le_of_ble_eq_true rfl), (Nat.le_of_ble_eq_true rfl)⟩ rfl hl.1 rfl (Nat.le_of_ble_eq_true rfl) dX10_isOut_3 (fun H locs hP hS => ?_)
  refine lv_if_ne (tgt := 22) hx hb dX10_isOut_6 (by decide) (fun c => ?_) (fun c => ?_)
  · have hD := ifn hD c
    refine lv_iconst (v := (0 : Int32)) hx hb dX10_isOut_22 (by decide) ?_
    obtain rfl := es1 hD
    exact hret _ _ _ hP hS (fun Qc hq => W.zret hx hb hr rfl hq hS.2.2 dX10_isOut_23 hlocks)
  · have hD := ifp hD c
    refine lv_aload_n hx hb dX10_isOut_9 rfl (lv_at hl 0 rfl) ?_
    refine lv_iload_n hx hb dX10_isOut_10 rfl (lv_at hl 1 rfl) ?_
    refine lv_iconst (v := (4 : Int32)) hx hb dX10_isOut_11 (by decide) ?_
    obtain ⟨v3, z4, hD⟩ := b1_el hD
    refine rcV  (As := [.int x1, .int (4 : Int32)]) (rest := []) Fx0 (c_X10_ofFeeder l hLx hAd x x1 (4 : Int32) z4) hP (hD1 _ (hAd _ _)) hS (hA1 _ _ (hAd _ _) hS.1) hLx (Nat.le_of_ble_eq_true rfl) (xs0 _ _) rfl tw_7_222 tw_7_219 tw_7_221 ts_113 tw_1_13 yd_X10_ofFeeder ⟨(Nat.le_of_ble_eq_true rfl), (Nat.le_of_ble_eq_true rfl)⟩ rfl hl.1 rfl (Nat.le_of_ble_eq_true rfl) dX10_isOut_12 (fun H locs hP hS => ?_)
    refine lv_if_ne (tgt := 22) hx hb dX10_isOut_15 (by decide) (fun c => ?_) (fun c => ?_)
    · have hD := ifn hD c
      refine lv_iconst (v := (0 : Int32)) hx hb dX10_isOut_22 (by decide) ?_
      obtain rfl := es1 hD
      exact hret _ _ _ hP hS (fun Qc hq => W.zret hx hb hr rfl hq hS.2.2 dX10_isOut_23 hlocks)
    · have hD := ifp hD c
      refine lv_iconst (v := (1 : Int32)) hx hb dX10_isOut_18 (by decide) ?_
      refine lv_goto (tgt := 23) hx hb dX10_isOut_19 (by decide) ?_
      obtain rfl := es1 hD
      exact hret _ _ _ hP hS (fun Qc hq => W.zret hx hb hr rfl hq hS.2.2 dX10_isOut_23 hlocks)

noncomputable def D_X10_runsOut_51 (k18 : Int32 → Int32 → Int32 → MM → Option (Int32 × MM)) (x1 : Int32) (x2 : Int32) (xt0 : Int32) (x : MM) : Option (Int32 × MM) := if xt0 = 0 then (bnd ((x2 + (0 : Int32))) (fun v16 => k18 x1 v16 xt0 x)) else (bnd ((x2 + (1 : Int32))) (fun v17 => k18 x1 v17 xt0 x))
noncomputable def D_X10_runsOut_18 : Nat → Int32 → Int32 → Int32 → MM → Option (Int32 × MM)
  | 0, _, _, _, _ => none
  | n + 1, x1, x2, x3, x => if x3 = 0 then (b1 (D_X10_isOut x1 x) (fun v6 => b1 (D_X10_comesBack x) (fun m8 => if v6 = 0 then (some ((-1 : Int32), m8)) else (some (x2, m8))))) else (b1 (D_X10_isOut x1 x) (fun v10 => if v10 = 0 then (if (1000 : Int32) ≤ x2 then (D_X10_runsOut_51 (D_X10_runsOut_18 n) x1 x2 (0 : Int32) x) else (b2 (D_X10_runs (1 : Int32) x) (fun v18 m19 => if v18 = (1 : Int32) then (D_X10_runsOut_51 (D_X10_runsOut_18 n) x1 x2 (1 : Int32) m19) else (D_X10_runsOut_51 (D_X10_runsOut_18 n) x1 x2 (0 : Int32) m19)))) else (b1 (D_X10_isOut x1 x) (fun v12 => b1 (D_X10_comesBack x) (fun m14 => if v12 = 0 then (some ((-1 : Int32), m14)) else (some (x2, m14)))))))
noncomputable def D_X10_runsOut (x1 : Int32) (x : MM) : Option (Int32 × MM) := b2 (D_X10_noFeeder x1 x) (fun v1 m2 => if v1 = 0 then (b1 (D_X10_goesAside m2) (fun m4 => D_X10_runsOut_18 FU x1 (0 : Int32) (1 : Int32) m4)) else (some ((0 : Int32), m2)))
set_option maxHeartbeats 4000000 in
set_option maxRecDepth 100000 in
theorem c_X10_runsOut (l : Launch) {D : va_G} {cs : Nat → ClassId} {adx : Nat → Nat} {Wf : MM → va_W} (hLx : Ln 9 adx (xsh cs adx) Wf) (hAd : ∀ a0_ b0_ : MM, (Wf a0_).map (fun q => q.1) = (Wf b0_).map (fun q => q.1)) (x : MM) (x1 : Int32) {rr : Int32} {x' : MM} (hD : D_X10_runsOut x1 x = some (rr, x')) : Ct l yX10_runsOut cX10_runsOut 5 (some .int) 9 199 D cs [.ref (adx 0), .int x1] (Wf x) (Wf x') (some (.int rr)) := by
  refine Ct.ofW (by decide) (Nat.le_of_ble_eq_true rfl) (hAd _ _) ?_
  intro p e s m0 below meth c A Q ls args hx hb hr hml hlocks hown hts hK hP hD1 hSS hS hA1 hl hret
  have hT : ∀ w ∈ TBL, w.before args s = true := fun w h => hts w (List.mem_cons_of_mem _ h)
  have Fx0 : Fx p l m0 c cX10_runsOut 5 s args yX10_runsOut cX10_runsOut 5 (some .int) D cs A := ⟨hx, hb, hml, hown, hts, hK, hSS⟩
  have hown : s.vm.findClass RX10 = some m0.cls := hown
  have hl : lv_has ls 5 [(0, .ref (adx 0)), (1, .int x1)] := hl
  unfold D_X10_runsOut at hD
  have c_51 : ∀ (k18 : Int32 → Int32 → Int32 → MM → Option (Int32 × MM)) (hk18 : ∀ (x1 : Int32) (x2 : Int32) (x3 : Int32) (x : MM) (H : Heap) (locs : List Loc) (ls : Array Slot), k18 x1 x2 x3 x = some (rr, x') → va_P D vwCl (Wf x) H → va_S A s.heap H locs → lv_has ls 5 [(0, .ref (adx 0)), (1, .int x1), (2, .int x2), (3, .int x3)] → W p l e ({ frames := 9, cells := 0, slots := 0, locals := 199 } : Room) s m0 args below meth c H locs 0 0 Q (F0 m0 18 ls [])), ∀ (x1 : Int32) (x2 : Int32) (xt0 : Int32) (x : MM) (H : Heap) (locs : List Loc) (ls : Array Slot), D_X10_runsOut_51 k18 x1 x2 xt0 x = some (rr, x') → va_P D vwCl (Wf x) H → va_S A s.heap H locs → lv_has ls 5 [(0, .ref (adx 0)), (1, .int x1), (2, .int x2)] → W p l e ({ frames := 9, cells := 0, slots := 0, locals := 199 } : Room) s m0 args below meth c H locs 0 0 Q (F0 m0 51 ls [.int xt0]) := by
    intro k18 hk18 x1 x2 xt0 x H locs ls hD hP hS hl
    unfold D_X10_runsOut_51 at hD
    refine lv_istore_n (lv' := [(3, .int xt0), (0, .ref (adx 0)), (1, .int x1), (2, .int x2)]) hx hb dX10_runsOut_51 rfl hl (by decide) rfl (fun ls hl => ?_)
    refine lv_iload_n hx hb dX10_runsOut_52 rfl (lv_at hl 3 rfl) ?_
    refine lv_iload_n hx hb dX10_runsOut_53 rfl (lv_at hl 0 rfl) ?_
    refine lv_if_eq (tgt := 61) hx hb dX10_runsOut_54 (by decide) (fun c => ?_) (fun c => ?_)
    · have hD := ifp hD c
      refine lv_iconst (v := (0 : Int32)) hx hb dX10_runsOut_61 (by decide) ?_
      refine lv_iadd hx hb dX10_runsOut_62 ?_
      obtain ⟨v16, ev16, hD⟩ := bnd_el hD
      refine lv_nmi ev16 ?_
      refine lv_istore_n (lv' := [(2, .int v16), (3, .int xt0), (0, .ref (adx 0)), (1, .int x1)]) hx hb dX10_runsOut_63 rfl hl (by decide) rfl (fun ls hl => ?_)
      refine lv_goto (tgt := 18) hx hb dX10_runsOut_64 (by decide) ?_
      exact hk18 _ _ _ _ _ _ _ hD hP hS (lv_sub hl [2, 3, 0, 1] rfl)
    · have hD := ifn hD c
      refine lv_iconst (v := (1 : Int32)) hx hb dX10_runsOut_57 (by decide) ?_
      refine lv_goto (tgt := 62) hx hb dX10_runsOut_58 (by decide) ?_
      refine lv_iadd hx hb dX10_runsOut_62 ?_
      obtain ⟨v17, ev17, hD⟩ := bnd_el hD
      refine lv_nmi ev17 ?_
      refine lv_istore_n (lv' := [(2, .int v17), (3, .int xt0), (0, .ref (adx 0)), (1, .int x1)]) hx hb dX10_runsOut_63 rfl hl (by decide) rfl (fun ls hl => ?_)
      refine lv_goto (tgt := 18) hx hb dX10_runsOut_64 (by decide) ?_
      exact hk18 _ _ _ _ _ _ _ hD hP hS (lv_sub hl [2, 3, 0, 1] rfl)
  have c_18 : ∀ (n : Nat), ∀ (x1 : Int32) (x2 : Int32) (x3 : Int32) (x : MM) (H : Heap) (locs : List Loc) (ls : Array Slot), D_X10_runsOut_18 n x1 x2 x3 x = some (rr, x') → va_P D vwCl (Wf x) H → va_S A s.heap H locs → lv_has ls 5 [(0, .ref (adx 0)), (1, .int x1), (2, .int x2), (3, .int x3)] → W p l e ({ frames := 9, cells := 0, slots := 0, locals := 199 } : Room) s m0 args below meth c H locs 0 0 Q (F0 m0 18 ls []) := by
    intro n
    induction n with
    | zero =>
      intro x1 x2 x3 x H locs ls hD hP hS hl
      exact nn_el hD
    | succ n ih =>
      intro x1 x2 x3 x H locs ls hD hP hS hl
      rw [D_X10_runsOut_18] at hD
      refine lv_iload_n hx hb dX10_runsOut_18 rfl (lv_at hl 3 rfl) ?_
      refine lv_if_eq (tgt := 67) hx hb dX10_runsOut_19 (by decide) (fun c => ?_) (fun c => ?_)
      · have hD := ifp hD c
        refine lv_aload_n hx hb dX10_runsOut_67 rfl (lv_at hl 0 rfl) ?_
        refine lv_iload_n hx hb dX10_runsOut_68 rfl (lv_at hl 1 rfl) ?_
        obtain ⟨v6, z7, hD⟩ := b1_el hD
        refine rcV  (As := [.int x1]) (rest := []) Fx0 (c_X10_isOut l hLx hAd x x1 z7) hP (hD1 _ (hAd _ _)) hS (hA1 _ _ (hAd _ _) hS.1) hLx (Nat.le_of_ble_eq_true rfl) (xs0 _ _) rfl tw_9_128 tw_9_125 tw_9_127 ts_161 tw_1_13 yd_X10_isOut ⟨(Nat.le_of_ble_eq_true rfl), (Nat.le_of_ble_eq_true rfl)⟩ rfl hl.1 rfl (Nat.le_of_ble_eq_true rfl) dX10_runsOut_69 (fun H locs hP hS => ?_)
        refine lv_istore (lv' := [(4, .int v6), (0, .ref (adx 0)), (1, .int x1), (2, .int x2), (3, .int x3)]) hx hb dX10_runsOut_72 hl (by decide) rfl (fun ls hl => ?_)
        refine lv_aload_n hx hb dX10_runsOut_74 rfl (lv_at hl 1 rfl) ?_
        obtain ⟨m8, z9, hD⟩ := b1_el hD
        refine rcV  (As := []) (rest := []) Fx0 (c_X10_comesBack l hLx hAd x z9) hP (hD1 _ (hAd _ _)) hS (hA1 _ _ (hAd _ _) hS.1) hLx (Nat.le_of_ble_eq_true rfl) (xs0 _ _) rfl tw_9_81 tw_9_78 tw_9_80 ts_156 tw_1_13 yd_X10_comesBack ⟨(Nat.le_of_ble_eq_true rfl), (Nat.le_of_ble_eq_true rfl)⟩ rfl hl.1 rfl (Nat.le_of_ble_eq_true rfl) dX10_runsOut_75 (fun H locs hP hS => ?_)
        refine lv_iload hx hb dX10_runsOut_78 (lv_at hl 0 rfl) ?_
        refine lv_if_eq (tgt := 87) hx hb dX10_runsOut_80 (by decide) (fun c => ?_) (fun c => ?_)
        · have hD := ifp hD c
          refine lv_iconst (v := (-1 : Int32)) hx hb dX10_runsOut_87 (by decide) ?_
          obtain ⟨rfl, rfl⟩ := es2 hD
          exact hret _ _ _ hP hS (fun Qc hq => W.iret hx hb hr hq hS.2.2 dX10_runsOut_88 hlocks)
        · have hD := ifn hD c
          refine lv_iload_n hx hb dX10_runsOut_83 rfl (lv_at hl 3 rfl) ?_
          refine lv_goto (tgt := 88) hx hb dX10_runsOut_84 (by decide) ?_
          obtain ⟨rfl, rfl⟩ := es2 hD
          exact hret _ _ _ hP hS (fun Qc hq => W.iret hx hb hr hq hS.2.2 dX10_runsOut_88 hlocks)
      · have hD := ifn hD c
        refine lv_aload_n hx hb dX10_runsOut_22 rfl (lv_at hl 0 rfl) ?_
        refine lv_iload_n hx hb dX10_runsOut_23 rfl (lv_at hl 1 rfl) ?_
        obtain ⟨v10, z11, hD⟩ := b1_el hD
        refine rcV  (As := [.int x1]) (rest := []) Fx0 (c_X10_isOut l hLx hAd x x1 z11) hP (hD1 _ (hAd _ _)) hS (hA1 _ _ (hAd _ _) hS.1) hLx (Nat.le_of_ble_eq_true rfl) (xs0 _ _) rfl tw_9_128 tw_9_125 tw_9_127 ts_161 tw_1_13 yd_X10_isOut ⟨(Nat.le_of_ble_eq_true rfl), (Nat.le_of_ble_eq_true rfl)⟩ rfl hl.1 rfl (Nat.le_of_ble_eq_true rfl) dX10_runsOut_24 (fun H locs hP hS => ?_)
        refine lv_if_ne (tgt := 67) hx hb dX10_runsOut_27 (by decide) (fun c => ?_) (fun c => ?_)
        · have hD := ifn hD c
          refine lv_aload_n hx hb dX10_runsOut_67 rfl (lv_at hl 0 rfl) ?_
          refine lv_iload_n hx hb dX10_runsOut_68 rfl (lv_at hl 1 rfl) ?_
          obtain ⟨v12, z13, hD⟩ := b1_el hD
          refine rcV  (As := [.int x1]) (rest := []) Fx0 (c_X10_isOut l hLx hAd x x1 z13) hP (hD1 _ (hAd _ _)) hS (hA1 _ _ (hAd _ _) hS.1) hLx (Nat.le_of_ble_eq_true rfl) (xs0 _ _) rfl tw_9_128 tw_9_125 tw_9_127 ts_161 tw_1_13 yd_X10_isOut ⟨(Nat.le_of_ble_eq_true rfl), (Nat.le_of_ble_eq_true rfl)⟩ rfl hl.1 rfl (Nat.le_of_ble_eq_true rfl) dX10_runsOut_69 (fun H locs hP hS => ?_)
          refine lv_istore (lv' := [(4, .int v12), (0, .ref (adx 0)), (1, .int x1), (2, .int x2), (3, .int x3)]) hx hb dX10_runsOut_72 hl (by decide) rfl (fun ls hl => ?_)
          refine lv_aload_n hx hb dX10_runsOut_74 rfl (lv_at hl 1 rfl) ?_
          obtain ⟨m14, z15, hD⟩ := b1_el hD
          refine rcV  (As := []) (rest := []) Fx0 (c_X10_comesBack l hLx hAd x z15) hP (hD1 _ (hAd _ _)) hS (hA1 _ _ (hAd _ _) hS.1) hLx (Nat.le_of_ble_eq_true rfl) (xs0 _ _) rfl tw_9_81 tw_9_78 tw_9_80 ts_156 tw_1_13 yd_X10_comesBack ⟨(Nat.le_of_ble_eq_true rfl), (Nat.le_of_ble_eq_true rfl)⟩ rfl hl.1 rfl (Nat.le_of_ble_eq_true rfl) dX10_runsOut_75 (fun H locs hP hS => ?_)
          refine lv_iload hx hb dX10_runsOut_78 (lv_at hl 0 rfl) ?_
          refine lv_if_eq (tgt := 87) hx hb dX10_runsOut_80 (by decide) (fun c => ?_) (fun c => ?_)
          · have hD := ifp hD c
            refine lv_iconst (v := (-1 : Int32)) hx hb dX10_runsOut_87 (by decide) ?_
            obtain ⟨rfl, rfl⟩ := es2 hD
            exact hret _ _ _ hP hS (fun Qc hq => W.iret hx hb hr hq hS.2.2 dX10_runsOut_88 hlocks)
          · have hD := ifn hD c
            refine lv_iload_n hx hb dX10_runsOut_83 rfl (lv_at hl 3 rfl) ?_
            refine lv_goto (tgt := 88) hx hb dX10_runsOut_84 (by decide) ?_
            obtain ⟨rfl, rfl⟩ := es2 hD
            exact hret _ _ _ hP hS (fun Qc hq => W.iret hx hb hr hq hS.2.2 dX10_runsOut_88 hlocks)
        · have hD := ifp hD c
          refine lv_iload_n hx hb dX10_runsOut_30 rfl (lv_at hl 2 rfl) ?_
          refine lv_sipush (v := (1000 : Int32)) hx hb dX10_runsOut_31 (by decide) ?_
          refine lv_icmp_ge (tgt := 50) hx hb dX10_runsOut_34 (by decide) (fun c => ?_) (fun c => ?_)
          · have hD := ifp hD c
            refine lv_iconst (v := (0 : Int32)) hx hb dX10_runsOut_50 (by decide) ?_
            exact c_51 _ ih _ _ _ _ _ _ _ hD hP hS (lv_sub hl [0, 1, 2] rfl)
          · have hD := ifn hD c
            refine lv_aload_n hx hb dX10_runsOut_37 rfl (lv_at hl 0 rfl) ?_
            refine lv_iconst (v := (1 : Int32)) hx hb dX10_runsOut_38 (by decide) ?_
            obtain ⟨v18, m19, z20, hD⟩ := b2_el hD
            refine rcV  (As := [.int (1 : Int32)]) (rest := []) Fx0 (c_X10_runs l hLx hAd x (1 : Int32) z20) hP (hD1 _ (hAd _ _)) hS (hA1 _ _ (hAd _ _) hS.1) hLx (Nat.le_of_ble_eq_true rfl) (xs0 _ _) rfl tw_9_2 tw_8_239 tw_9_1 ts_150 tw_1_13 yd_X10_runs ⟨(Nat.le_of_ble_eq_true rfl), (Nat.le_of_ble_eq_true rfl)⟩ rfl hl.1 rfl (Nat.le_of_ble_eq_true rfl) dX10_runsOut_39 (fun H locs hP hS => ?_)
            refine lv_iconst (v := (1 : Int32)) hx hb dX10_runsOut_42 (by decide) ?_
            refine lv_icmp_ne (tgt := 50) hx hb dX10_runsOut_43 (by decide) (fun c => ?_) (fun c => ?_)
            · have hD := ifn hD c
              refine lv_iconst (v := (0 : Int32)) hx hb dX10_runsOut_50 (by decide) ?_
              exact c_51 _ ih _ _ _ _ _ _ _ hD hP hS (lv_sub hl [0, 1, 2] rfl)
            · have hD := ifp hD c
              refine lv_iconst (v := (1 : Int32)) hx hb dX10_runsOut_46 (by decide) ?_
              refine lv_goto (tgt := 51) hx hb dX10_runsOut_47 (by decide) ?_
              exact c_51 _ ih _ _ _ _ _ _ _ hD hP hS (lv_sub hl [0, 1, 2] rfl)
  refine lv_aload_n hx hb dX10_runsOut_0 rfl (lv_at hl 0 rfl) ?_
  refine lv_iload_n hx hb dX10_runsOut_1 rfl (lv_at hl 1 rfl) ?_
  obtain ⟨v1, m2, z3, hD⟩ := b2_el hD
  refine rcV  (As := [.int x1]) (rest := []) Fx0 (c_X10_noFeeder l hLx hAd x x1 z3) hP (hD1 _ (hAd _ _)) hS (hA1 _ _ (hAd _ _) hS.1) hLx (Nat.le_of_ble_eq_true rfl) (xs0 _ _) rfl tw_7_214 tw_7_211 tw_7_213 ts_111 tw_1_13 yd_X10_noFeeder ⟨(Nat.le_of_ble_eq_true rfl), (Nat.le_of_ble_eq_true rfl)⟩ rfl hl.1 rfl (Nat.le_of_ble_eq_true rfl) dX10_runsOut_2 (fun H locs hP hS => ?_)
  refine lv_if_eq (tgt := 10) hx hb dX10_runsOut_5 (by decide) (fun c => ?_) (fun c => ?_)
  · have hD := ifp hD c
    refine lv_aload_n hx hb dX10_runsOut_10 rfl (lv_at hl 0 rfl) ?_
    obtain ⟨m4, z5, hD⟩ := b1_el hD
    refine rcV  (As := []) (rest := []) Fx0 (c_X10_goesAside l hLx hAd m2 z5) hP (hD1 _ (hAd _ _)) hS (hA1 _ _ (hAd _ _) hS.1) hLx (Nat.le_of_ble_eq_true rfl) (xs0 _ _) rfl tw_9_77 tw_9_74 tw_9_76 ts_155 tw_1_13 yd_X10_goesAside ⟨(Nat.le_of_ble_eq_true rfl), (Nat.le_of_ble_eq_true rfl)⟩ rfl hl.1 rfl (Nat.le_of_ble_eq_true rfl) dX10_runsOut_11 (fun H locs hP hS => ?_)
    refine lv_iconst (v := (0 : Int32)) hx hb dX10_runsOut_14 (by decide) ?_
    refine lv_istore_n (lv' := [(2, .int (0 : Int32)), (0, .ref (adx 0)), (1, .int x1)]) hx hb dX10_runsOut_15 rfl hl (by decide) rfl (fun ls hl => ?_)
    refine lv_iconst (v := (1 : Int32)) hx hb dX10_runsOut_16 (by decide) ?_
    refine lv_istore_n (lv' := [(3, .int (1 : Int32)), (2, .int (0 : Int32)), (0, .ref (adx 0)), (1, .int x1)]) hx hb dX10_runsOut_17 rfl hl (by decide) rfl (fun ls hl => ?_)
    exact c_18 FU _ _ _ _ _ _ _ hD hP hS (lv_sub hl [2, 3, 1, 0] rfl)
  · have hD := ifn hD c
    refine lv_iconst (v := (0 : Int32)) hx hb dX10_runsOut_8 (by decide) ?_
    obtain ⟨rfl, rfl⟩ := es2 hD
    exact hret _ _ _ hP hS (fun Qc hq => W.iret hx hb hr hq hS.2.2 dX10_runsOut_9 hlocks)

noncomputable def D_X10_moreOf (x1 : Int32) (x : MM) : Option (Int32 × MM) := b1 (D_X10_goesAside x) (fun m1 => if x1 < 0 ∨ 640 ≤ x1.toNatClampNeg then none else (bnd ((gi m1 1 x1.toNatClampNeg)) (fun v4 => b2 (D_X10_runs (1000 : Int32) m1) (fun v5 m6 => if x1 < 0 ∨ 640 ≤ x1.toNatClampNeg then none else (bnd (((gi m6 1 x1.toNatClampNeg) - v4)) (fun v9 => b1 (D_X10_comesBack m6) (fun m10 => some (v9, m10))))))))
set_option maxHeartbeats 4000000 in
set_option maxRecDepth 100000 in
theorem c_X10_moreOf (l : Launch) {D : va_G} {cs : Nat → ClassId} {adx : Nat → Nat} {Wf : MM → va_W} (hLx : Ln 9 adx (xsh cs adx) Wf) (hAd : ∀ a0_ b0_ : MM, (Wf a0_).map (fun q => q.1) = (Wf b0_).map (fun q => q.1)) (x : MM) (x1 : Int32) {rr : Int32} {x' : MM} (hD : D_X10_moreOf x1 x = some (rr, x')) : Ct l yX10_moreOf cX10_moreOf 5 (some .int) 9 199 D cs [.ref (adx 0), .int x1] (Wf x) (Wf x') (some (.int rr)) := by
  refine Ct.ofW (by decide) (Nat.le_of_ble_eq_true rfl) (hAd _ _) ?_
  intro p e s m0 below meth c A Q ls args hx hb hr hml hlocks hown hts hK hP hD1 hSS hS hA1 hl hret
  have hT : ∀ w ∈ TBL, w.before args s = true := fun w h => hts w (List.mem_cons_of_mem _ h)
  have Fx0 : Fx p l m0 c cX10_moreOf 5 s args yX10_moreOf cX10_moreOf 5 (some .int) D cs A := ⟨hx, hb, hml, hown, hts, hK, hSS⟩
  have hown : s.vm.findClass RX10 = some m0.cls := hown
  have hl : lv_has ls 5 [(0, .ref (adx 0)), (1, .int x1)] := hl
  unfold D_X10_moreOf at hD
  refine lv_aload_n hx hb dX10_moreOf_0 rfl (lv_at hl 0 rfl) ?_
  obtain ⟨m1, z2, hD⟩ := b1_el hD
  refine rcV  (As := []) (rest := []) Fx0 (c_X10_goesAside l hLx hAd x z2) hP (hD1 _ (hAd _ _)) hS (hA1 _ _ (hAd _ _) hS.1) hLx (Nat.le_of_ble_eq_true rfl) (xs0 _ _) rfl tw_9_77 tw_9_74 tw_9_76 ts_155 tw_1_13 yd_X10_goesAside ⟨(Nat.le_of_ble_eq_true rfl), (Nat.le_of_ble_eq_true rfl)⟩ rfl hl.1 rfl (Nat.le_of_ble_eq_true rfl) dX10_moreOf_1 (fun H locs hP hS => ?_)
  refine lv_aload_n hx hb dX10_moreOf_4 rfl (lv_at hl 0 rfl) ?_
  refine rg  hx hb hT hu10 hown hK hP hLx 0 0 (Nat.le_of_ble_eq_true rfl) (xs0 _ _) rfl (Nat.le_of_ble_eq_true rfl) (Fx0.T tw_6_215) rfl (v := .ref (adx 1)) rfl dX10_moreOf_5 ?_
  refine lv_iload_n hx hb dX10_moreOf_8 rfl (lv_at hl 1 rfl) ?_
  obtain ⟨h3, hD⟩ := gd_el hD
  refine riald  hx hb hK hP hLx 1 (Nat.le_of_ble_eq_true rfl) (xs1 _ _) h3 rfl dX10_moreOf_9 ?_
  obtain ⟨v4, ev4, hD⟩ := bnd_el hD
  refine lv_nmi ev4 ?_
  refine lv_istore_n (lv' := [(2, .int v4), (0, .ref (adx 0)), (1, .int x1)]) hx hb dX10_moreOf_10 rfl hl (by decide) rfl (fun ls hl => ?_)
  refine lv_aload_n hx hb dX10_moreOf_11 rfl (lv_at hl 1 rfl) ?_
  refine lv_sipush (v := (1000 : Int32)) hx hb dX10_moreOf_12 (by decide) ?_
  obtain ⟨v5, m6, z7, hD⟩ := b2_el hD
  refine rcV  (As := [.int (1000 : Int32)]) (rest := []) Fx0 (c_X10_runs l hLx hAd m1 (1000 : Int32) z7) hP (hD1 _ (hAd _ _)) hS (hA1 _ _ (hAd _ _) hS.1) hLx (Nat.le_of_ble_eq_true rfl) (xs0 _ _) rfl tw_9_2 tw_8_239 tw_9_1 ts_150 tw_1_13 yd_X10_runs ⟨(Nat.le_of_ble_eq_true rfl), (Nat.le_of_ble_eq_true rfl)⟩ rfl hl.1 rfl (Nat.le_of_ble_eq_true rfl) dX10_moreOf_15 (fun H locs hP hS => ?_)
  refine lv_istore_n (lv' := [(3, .int v5), (2, .int v4), (0, .ref (adx 0)), (1, .int x1)]) hx hb dX10_moreOf_18 rfl hl (by decide) rfl (fun ls hl => ?_)
  refine lv_aload_n hx hb dX10_moreOf_19 rfl (lv_at hl 2 rfl) ?_
  refine rg  hx hb hT hu10 hown hK hP hLx 0 0 (Nat.le_of_ble_eq_true rfl) (xs0 _ _) rfl (Nat.le_of_ble_eq_true rfl) (Fx0.T tw_6_215) rfl (v := .ref (adx 1)) rfl dX10_moreOf_20 ?_
  refine lv_iload_n hx hb dX10_moreOf_23 rfl (lv_at hl 3 rfl) ?_
  obtain ⟨h8, hD⟩ := gd_el hD
  refine riald  hx hb hK hP hLx 1 (Nat.le_of_ble_eq_true rfl) (xs1 _ _) h8 rfl dX10_moreOf_24 ?_
  refine lv_iload_n hx hb dX10_moreOf_25 rfl (lv_at hl 1 rfl) ?_
  refine lv_isub hx hb dX10_moreOf_26 ?_
  obtain ⟨v9, ev9, hD⟩ := bnd_el hD
  refine lv_nmi ev9 ?_
  refine lv_istore (lv' := [(4, .int v9), (3, .int v5), (2, .int v4), (0, .ref (adx 0)), (1, .int x1)]) hx hb dX10_moreOf_27 hl (by decide) rfl (fun ls hl => ?_)
  refine lv_aload_n hx hb dX10_moreOf_29 rfl (lv_at hl 3 rfl) ?_
  obtain ⟨m10, z11, hD⟩ := b1_el hD
  refine rcV  (As := []) (rest := []) Fx0 (c_X10_comesBack l hLx hAd m6 z11) hP (hD1 _ (hAd _ _)) hS (hA1 _ _ (hAd _ _) hS.1) hLx (Nat.le_of_ble_eq_true rfl) (xs0 _ _) rfl tw_9_81 tw_9_78 tw_9_80 ts_156 tw_1_13 yd_X10_comesBack ⟨(Nat.le_of_ble_eq_true rfl), (Nat.le_of_ble_eq_true rfl)⟩ rfl hl.1 rfl (Nat.le_of_ble_eq_true rfl) dX10_moreOf_30 (fun H locs hP hS => ?_)
  refine lv_iload hx hb dX10_moreOf_33 (lv_at hl 0 rfl) ?_
  obtain ⟨rfl, rfl⟩ := es2 hD
  exact hret _ _ _ hP hS (fun Qc hq => W.iret hx hb hr hq hS.2.2 dX10_moreOf_35 hlocks)

noncomputable def D_X10_splicesAhead (x : MM) : Option (Int32 × MM) := b2 (D_X10_fine x) (fun v1 m2 => if v1 = 0 then (some ((0 : Int32), m2)) else (b2 (D_X10_moreOf (27 : Int32) m2) (fun v4 m5 => some (v4, m5))))
set_option maxHeartbeats 4000000 in
set_option maxRecDepth 100000 in
theorem c_X10_splicesAhead (l : Launch) {D : va_G} {cs : Nat → ClassId} {adx : Nat → Nat} {Wf : MM → va_W} (hLx : Ln 9 adx (xsh cs adx) Wf) (hAd : ∀ a0_ b0_ : MM, (Wf a0_).map (fun q => q.1) = (Wf b0_).map (fun q => q.1)) (x : MM) {rr : Int32} {x' : MM} (hD : D_X10_splicesAhead x = some (rr, x')) : Ct l yX10_splicesAhead cX10_splicesAhead 1 (some .int) 10 223 D cs [.ref (adx 0)] (Wf x) (Wf x') (some (.int rr)) := by
  refine Ct.ofW (by decide) (Nat.le_of_ble_eq_true rfl) (hAd _ _) ?_
  intro p e s m0 below meth c A Q ls args hx hb hr hml hlocks hown hts hK hP hD1 hSS hS hA1 hl hret
  have hT : ∀ w ∈ TBL, w.before args s = true := fun w h => hts w (List.mem_cons_of_mem _ h)
  have Fx0 : Fx p l m0 c cX10_splicesAhead 1 s args yX10_splicesAhead cX10_splicesAhead 1 (some .int) D cs A := ⟨hx, hb, hml, hown, hts, hK, hSS⟩
  have hown : s.vm.findClass RX10 = some m0.cls := hown
  have hl : lv_has ls 1 [(0, .ref (adx 0))] := hl
  unfold D_X10_splicesAhead at hD
  refine lv_aload_n hx hb dX10_splicesAhead_0 rfl (lv_at hl 0 rfl) ?_
  obtain ⟨v1, m2, z3, hD⟩ := b2_el hD
  refine rcV  (As := []) (rest := []) Fx0 (c_X10_fine l hLx hAd x z3) hP (hD1 _ (hAd _ _)) hS (hA1 _ _ (hAd _ _) hS.1) hLx (Nat.le_of_ble_eq_true rfl) (xs0 _ _) rfl tw_7_158 tw_7_155 tw_7_157 ts_104 tw_1_13 yd_X10_fine ⟨(Nat.le_of_ble_eq_true rfl), (Nat.le_of_ble_eq_true rfl)⟩ rfl hl.1 rfl (Nat.le_of_ble_eq_true rfl) dX10_splicesAhead_1 (fun H locs hP hS => ?_)
  refine lv_if_eq (tgt := 16) hx hb dX10_splicesAhead_4 (by decide) (fun c => ?_) (fun c => ?_)
  · have hD := ifp hD c
    refine lv_iconst (v := (0 : Int32)) hx hb dX10_splicesAhead_16 (by decide) ?_
    obtain ⟨rfl, rfl⟩ := es2 hD
    exact hret _ _ _ hP hS (fun Qc hq => W.iret hx hb hr hq hS.2.2 dX10_splicesAhead_17 hlocks)
  · have hD := ifn hD c
    refine lv_aload_n hx hb dX10_splicesAhead_7 rfl (lv_at hl 0 rfl) ?_
    refine lv_bipush (v := (27 : Int32)) hx hb dX10_splicesAhead_8 (by decide) ?_
    obtain ⟨v4, m5, z6, hD⟩ := b2_el hD
    refine rcV  (As := [.int (27 : Int32)]) (rest := []) Fx0 (c_X10_moreOf l hLx hAd m2 (27 : Int32) z6) hP (hD1 _ (hAd _ _)) hS (hA1 _ _ (hAd _ _) hS.1) hLx (Nat.le_of_ble_eq_true rfl) (xs0 _ _) rfl tw_9_136 tw_9_133 tw_9_135 ts_162 tw_1_13 yd_X10_moreOf ⟨(Nat.le_of_ble_eq_true rfl), (Nat.le_of_ble_eq_true rfl)⟩ rfl hl.1 rfl (Nat.le_of_ble_eq_true rfl) dX10_splicesAhead_10 (fun H locs hP hS => ?_)
    refine lv_goto (tgt := 17) hx hb dX10_splicesAhead_13 (by decide) ?_
    obtain ⟨rfl, rfl⟩ := es2 hD
    exact hret _ _ _ hP hS (fun Qc hq => W.iret hx hb hr hq hS.2.2 dX10_splicesAhead_17 hlocks)

noncomputable def D_X10_changesAhead (x : MM) : Option (Int32 × MM) := b2 (D_X10_fine x) (fun v1 m2 => if v1 = 0 then (some ((0 : Int32), m2)) else (b2 (D_X10_moreOf (31 : Int32) m2) (fun v4 m5 => some (v4, m5))))
set_option maxHeartbeats 4000000 in
set_option maxRecDepth 100000 in
theorem c_X10_changesAhead (l : Launch) {D : va_G} {cs : Nat → ClassId} {adx : Nat → Nat} {Wf : MM → va_W} (hLx : Ln 9 adx (xsh cs adx) Wf) (hAd : ∀ a0_ b0_ : MM, (Wf a0_).map (fun q => q.1) = (Wf b0_).map (fun q => q.1)) (x : MM) {rr : Int32} {x' : MM} (hD : D_X10_changesAhead x = some (rr, x')) : Ct l yX10_changesAhead cX10_changesAhead 1 (some .int) 10 223 D cs [.ref (adx 0)] (Wf x) (Wf x') (some (.int rr)) := by
  refine Ct.ofW (by decide) (Nat.le_of_ble_eq_true rfl) (hAd _ _) ?_
  intro p e s m0 below meth c A Q ls args hx hb hr hml hlocks hown hts hK hP hD1 hSS hS hA1 hl hret
  have hT : ∀ w ∈ TBL, w.before args s = true := fun w h => hts w (List.mem_cons_of_mem _ h)
  have Fx0 : Fx p l m0 c cX10_changesAhead 1 s args yX10_changesAhead cX10_changesAhead 1 (some .int) D cs A := ⟨hx, hb, hml, hown, hts, hK, hSS⟩
  have hown : s.vm.findClass RX10 = some m0.cls := hown
  have hl : lv_has ls 1 [(0, .ref (adx 0))] := hl
  unfold D_X10_changesAhead at hD
  refine lv_aload_n hx hb dX10_changesAhead_0 rfl (lv_at hl 0 rfl) ?_
  obtain ⟨v1, m2, z3, hD⟩ := b2_el hD
  refine rcV  (As := []) (rest := []) Fx0 (c_X10_fine l hLx hAd x z3) hP (hD1 _ (hAd _ _)) hS (hA1 _ _ (hAd _ _) hS.1) hLx (Nat.le_of_ble_eq_true rfl) (xs0 _ _) rfl tw_7_158 tw_7_155 tw_7_157 ts_104 tw_1_13 yd_X10_fine ⟨(Nat.le_of_ble_eq_true rfl), (Nat.le_of_ble_eq_true rfl)⟩ rfl hl.1 rfl (Nat.le_of_ble_eq_true rfl) dX10_changesAhead_1 (fun H locs hP hS => ?_)
  refine lv_if_eq (tgt := 16) hx hb dX10_changesAhead_4 (by decide) (fun c => ?_) (fun c => ?_)
  · have hD := ifp hD c
    refine lv_iconst (v := (0 : Int32)) hx hb dX10_changesAhead_16 (by decide) ?_
    obtain ⟨rfl, rfl⟩ := es2 hD
    exact hret _ _ _ hP hS (fun Qc hq => W.iret hx hb hr hq hS.2.2 dX10_changesAhead_17 hlocks)
  · have hD := ifn hD c
    refine lv_aload_n hx hb dX10_changesAhead_7 rfl (lv_at hl 0 rfl) ?_
    refine lv_bipush (v := (31 : Int32)) hx hb dX10_changesAhead_8 (by decide) ?_
    obtain ⟨v4, m5, z6, hD⟩ := b2_el hD
    refine rcV  (As := [.int (31 : Int32)]) (rest := []) Fx0 (c_X10_moreOf l hLx hAd m2 (31 : Int32) z6) hP (hD1 _ (hAd _ _)) hS (hA1 _ _ (hAd _ _) hS.1) hLx (Nat.le_of_ble_eq_true rfl) (xs0 _ _) rfl tw_9_136 tw_9_133 tw_9_135 ts_162 tw_1_13 yd_X10_moreOf ⟨(Nat.le_of_ble_eq_true rfl), (Nat.le_of_ble_eq_true rfl)⟩ rfl hl.1 rfl (Nat.le_of_ble_eq_true rfl) dX10_changesAhead_10 (fun H locs hP hS => ?_)
    refine lv_goto (tgt := 17) hx hb dX10_changesAhead_13 (by decide) ?_
    obtain ⟨rfl, rfl⟩ := es2 hD
    exact hret _ _ _ hP hS (fun Qc hq => W.iret hx hb hr hq hS.2.2 dX10_changesAhead_17 hlocks)

noncomputable def D_X10_cleansAhead (x : MM) : Option (Int32 × MM) := b2 (D_X10_fine x) (fun v1 m2 => if v1 = 0 then (some ((0 : Int32), m2)) else (b2 (D_X10_moreOf (36 : Int32) m2) (fun v4 m5 => some (v4, m5))))
set_option maxHeartbeats 4000000 in
set_option maxRecDepth 100000 in
theorem c_X10_cleansAhead (l : Launch) {D : va_G} {cs : Nat → ClassId} {adx : Nat → Nat} {Wf : MM → va_W} (hLx : Ln 9 adx (xsh cs adx) Wf) (hAd : ∀ a0_ b0_ : MM, (Wf a0_).map (fun q => q.1) = (Wf b0_).map (fun q => q.1)) (x : MM) {rr : Int32} {x' : MM} (hD : D_X10_cleansAhead x = some (rr, x')) : Ct l yX10_cleansAhead cX10_cleansAhead 1 (some .int) 10 223 D cs [.ref (adx 0)] (Wf x) (Wf x') (some (.int rr)) := by
  refine Ct.ofW (by decide) (Nat.le_of_ble_eq_true rfl) (hAd _ _) ?_
  intro p e s m0 below meth c A Q ls args hx hb hr hml hlocks hown hts hK hP hD1 hSS hS hA1 hl hret
  have hT : ∀ w ∈ TBL, w.before args s = true := fun w h => hts w (List.mem_cons_of_mem _ h)
  have Fx0 : Fx p l m0 c cX10_cleansAhead 1 s args yX10_cleansAhead cX10_cleansAhead 1 (some .int) D cs A := ⟨hx, hb, hml, hown, hts, hK, hSS⟩
  have hown : s.vm.findClass RX10 = some m0.cls := hown
  have hl : lv_has ls 1 [(0, .ref (adx 0))] := hl
  unfold D_X10_cleansAhead at hD
  refine lv_aload_n hx hb dX10_cleansAhead_0 rfl (lv_at hl 0 rfl) ?_
  obtain ⟨v1, m2, z3, hD⟩ := b2_el hD
  refine rcV  (As := []) (rest := []) Fx0 (c_X10_fine l hLx hAd x z3) hP (hD1 _ (hAd _ _)) hS (hA1 _ _ (hAd _ _) hS.1) hLx (Nat.le_of_ble_eq_true rfl) (xs0 _ _) rfl tw_7_158 tw_7_155 tw_7_157 ts_104 tw_1_13 yd_X10_fine ⟨(Nat.le_of_ble_eq_true rfl), (Nat.le_of_ble_eq_true rfl)⟩ rfl hl.1 rfl (Nat.le_of_ble_eq_true rfl) dX10_cleansAhead_1 (fun H locs hP hS => ?_)
  refine lv_if_eq (tgt := 16) hx hb dX10_cleansAhead_4 (by decide) (fun c => ?_) (fun c => ?_)
  · have hD := ifp hD c
    refine lv_iconst (v := (0 : Int32)) hx hb dX10_cleansAhead_16 (by decide) ?_
    obtain ⟨rfl, rfl⟩ := es2 hD
    exact hret _ _ _ hP hS (fun Qc hq => W.iret hx hb hr hq hS.2.2 dX10_cleansAhead_17 hlocks)
  · have hD := ifn hD c
    refine lv_aload_n hx hb dX10_cleansAhead_7 rfl (lv_at hl 0 rfl) ?_
    refine lv_bipush (v := (36 : Int32)) hx hb dX10_cleansAhead_8 (by decide) ?_
    obtain ⟨v4, m5, z6, hD⟩ := b2_el hD
    refine rcV  (As := [.int (36 : Int32)]) (rest := []) Fx0 (c_X10_moreOf l hLx hAd m2 (36 : Int32) z6) hP (hD1 _ (hAd _ _)) hS (hA1 _ _ (hAd _ _) hS.1) hLx (Nat.le_of_ble_eq_true rfl) (xs0 _ _) rfl tw_9_136 tw_9_133 tw_9_135 ts_162 tw_1_13 yd_X10_moreOf ⟨(Nat.le_of_ble_eq_true rfl), (Nat.le_of_ble_eq_true rfl)⟩ rfl hl.1 rfl (Nat.le_of_ble_eq_true rfl) dX10_cleansAhead_10 (fun H locs hP hS => ?_)
    refine lv_goto (tgt := 17) hx hb dX10_cleansAhead_13 (by decide) ?_
    obtain ⟨rfl, rfl⟩ := es2 hD
    exact hret _ _ _ hP hS (fun Qc hq => W.iret hx hb hr hq hS.2.2 dX10_cleansAhead_17 hlocks)

noncomputable def D_X10_bestRetries_18 : Nat → Int32 → Int32 → Int32 → Int32 → MM → Option (Int32 × MM)
  | 0, _, _, _, _, _ => none
  | n + 1, x1, x2, x3, x4, x => if (5 : Int32) < x4 then (some (x1, x)) else (bnd (si x 1 7 x4) (fun m4 => b2 (D_X10_runs (1000 : Int32) m4) (fun v5 m6 => b1 (D_X10_spotsIn (-1 : Int32) (1 : Int32) m6) (fun v8 => bnd ((gi m6 1 23)) (fun v10 => b1 (D_X10_comesBack m6) (fun m11 => if x1 = (-1 : Int32) then (bnd (x4 + (1 : Int32)) (fun v13 => D_X10_bestRetries_18 n x4 v8 v10 v13 m11)) else (if v8 < x2 then (bnd (x4 + (1 : Int32)) (fun v14 => D_X10_bestRetries_18 n x1 x2 x3 v14 m11)) else (if v8 = x2 then (if v10 < x3 then (bnd (x4 + (1 : Int32)) (fun v16 => D_X10_bestRetries_18 n x4 v8 v10 v16 m11)) else (bnd (x4 + (1 : Int32)) (fun v17 => D_X10_bestRetries_18 n x1 x2 x3 v17 m11))) else (bnd (x4 + (1 : Int32)) (fun v15 => D_X10_bestRetries_18 n x4 v8 v10 v15 m11))))))))))
noncomputable def D_X10_bestRetries (x : MM) : Option (Int32 × MM) := bnd (si x 0 6 (0 : Int32)) (fun m1 => b1 (D_X10_goesAside m1) (fun m2 => D_X10_bestRetries_18 FU (-1 : Int32) (0 : Int32) (0 : Int32) (0 : Int32) m2))
set_option maxHeartbeats 4000000 in
set_option maxRecDepth 100000 in
theorem c_X10_bestRetries (l : Launch) {D : va_G} {cs : Nat → ClassId} {adx : Nat → Nat} {Wf : MM → va_W} (hLx : Ln 9 adx (xsh cs adx) Wf) (hAd : ∀ a0_ b0_ : MM, (Wf a0_).map (fun q => q.1) = (Wf b0_).map (fun q => q.1)) (x : MM) {rr : Int32} {x' : MM} (hD : D_X10_bestRetries x = some (rr, x')) : Ct l yX10_bestRetries cX10_bestRetries 8 (some .int) 9 199 D cs [.ref (adx 0)] (Wf x) (Wf x') (some (.int rr)) := by
  refine Ct.ofW (by decide) (Nat.le_of_ble_eq_true rfl) (hAd _ _) ?_
  intro p e s m0 below meth c A Q ls args hx hb hr hml hlocks hown hts hK hP hD1 hSS hS hA1 hl hret
  have hT : ∀ w ∈ TBL, w.before args s = true := fun w h => hts w (List.mem_cons_of_mem _ h)
  have Fx0 : Fx p l m0 c cX10_bestRetries 8 s args yX10_bestRetries cX10_bestRetries 8 (some .int) D cs A := ⟨hx, hb, hml, hown, hts, hK, hSS⟩
  have hown : s.vm.findClass RX10 = some m0.cls := hown
  have hl : lv_has ls 8 [(0, .ref (adx 0))] := hl
  unfold D_X10_bestRetries at hD
  have c_18 : ∀ (n : Nat), ∀ (x1 : Int32) (x2 : Int32) (x3 : Int32) (x4 : Int32) (x : MM) (H : Heap) (locs : List Loc) (ls : Array Slot), D_X10_bestRetries_18 n x1 x2 x3 x4 x = some (rr, x') → va_P D vwCl (Wf x) H → va_S A s.heap H locs → lv_has ls 8 [(0, .ref (adx 0)), (1, .int x1), (2, .int x2), (3, .int x3), (4, .int x4)] → W p l e ({ frames := 9, cells := 0, slots := 0, locals := 199 } : Room) s m0 args below meth c H locs 0 0 Q (F0 m0 18 ls []) := by
    intro n
    induction n with
    | zero =>
      intro x1 x2 x3 x4 x H locs ls hD hP hS hl
      exact nn_el hD
    | succ n ih =>
      intro x1 x2 x3 x4 x H locs ls hD hP hS hl
      rw [D_X10_bestRetries_18] at hD
      refine lv_iload hx hb dX10_bestRetries_18 (lv_at hl 4 rfl) ?_
      refine lv_iconst (v := (5 : Int32)) hx hb dX10_bestRetries_20 (by decide) ?_
      refine lv_icmp_gt (tgt := 104) hx hb dX10_bestRetries_21 (by decide) (fun c => ?_) (fun c => ?_)
      · have hD := ifp hD c
        refine lv_iload_n hx hb dX10_bestRetries_104 rfl (lv_at hl 1 rfl) ?_
        obtain ⟨rfl, rfl⟩ := es2 hD
        exact hret _ _ _ hP hS (fun Qc hq => W.iret hx hb hr hq hS.2.2 dX10_bestRetries_105 hlocks)
      · have hD := ifn hD c
        refine lv_aload_n hx hb dX10_bestRetries_24 rfl (lv_at hl 0 rfl) ?_
        refine rg  hx hb hT hu10 hown hK hP hLx 0 0 (Nat.le_of_ble_eq_true rfl) (xs0 _ _) rfl (Nat.le_of_ble_eq_true rfl) (Fx0.T tw_6_215) rfl (v := .ref (adx 1)) rfl dX10_bestRetries_25 ?_
        refine lv_bipush (v := (7 : Int32)) hx hb dX10_bestRetries_28 (by decide) ?_
        refine lv_iload hx hb dX10_bestRetries_30 (lv_at hl 4 rfl) ?_
        obtain ⟨m4, em4, hD⟩ := bnd_el hD
        refine riast  hx hb hK hP (hD1 _ (hAd _ _)) hS hLx 1 (Nat.le_of_ble_eq_true rfl) (fun _ => xs1 _ _) (by decide) (j := 7) (by decide) dX10_bestRetries_32 em4 (fun H locs hP hS => ?_)
        refine lv_aload_n hx hb dX10_bestRetries_33 rfl (lv_at hl 0 rfl) ?_
        refine lv_sipush (v := (1000 : Int32)) hx hb dX10_bestRetries_34 (by decide) ?_
        obtain ⟨v5, m6, z7, hD⟩ := b2_el hD
        refine rcV  (As := [.int (1000 : Int32)]) (rest := []) Fx0 (c_X10_runs l hLx hAd m4 (1000 : Int32) z7) hP (hD1 _ (hAd _ _)) hS (hA1 _ _ (hAd _ _) hS.1) hLx (Nat.le_of_ble_eq_true rfl) (xs0 _ _) rfl tw_9_2 tw_8_239 tw_9_1 ts_150 tw_1_13 yd_X10_runs ⟨(Nat.le_of_ble_eq_true rfl), (Nat.le_of_ble_eq_true rfl)⟩ rfl hl.1 rfl (Nat.le_of_ble_eq_true rfl) dX10_bestRetries_37 (fun H locs hP hS => ?_)
        refine lv_istore (lv' := [(5, .int v5), (0, .ref (adx 0)), (1, .int x1), (2, .int x2), (3, .int x3), (4, .int x4)]) hx hb dX10_bestRetries_40 hl (by decide) rfl (fun ls hl => ?_)
        refine lv_aload_n hx hb dX10_bestRetries_42 rfl (lv_at hl 1 rfl) ?_
        refine lv_iconst (v := (-1 : Int32)) hx hb dX10_bestRetries_43 (by decide) ?_
        refine lv_iconst (v := (1 : Int32)) hx hb dX10_bestRetries_44 (by decide) ?_
        obtain ⟨v8, z9, hD⟩ := b1_el hD
        refine rcV  (As := [.int (-1 : Int32), .int (1 : Int32)]) (rest := []) Fx0 (c_X10_spotsIn l hLx hAd m6 (-1 : Int32) (1 : Int32) z9) hP (hD1 _ (hAd _ _)) hS (hA1 _ _ (hAd _ _) hS.1) hLx (Nat.le_of_ble_eq_true rfl) (xs0 _ _) rfl tw_8_91 tw_8_88 tw_8_90 ts_126 tw_1_13 yd_X10_spotsIn ⟨(Nat.le_of_ble_eq_true rfl), (Nat.le_of_ble_eq_true rfl)⟩ rfl hl.1 rfl (Nat.le_of_ble_eq_true rfl) dX10_bestRetries_45 (fun H locs hP hS => ?_)
        refine lv_istore (lv' := [(6, .int v8), (5, .int v5), (0, .ref (adx 0)), (1, .int x1), (2, .int x2), (3, .int x3), (4, .int x4)]) hx hb dX10_bestRetries_48 hl (by decide) rfl (fun ls hl => ?_)
        refine lv_aload_n hx hb dX10_bestRetries_50 rfl (lv_at hl 2 rfl) ?_
        refine rg  hx hb hT hu10 hown hK hP hLx 0 0 (Nat.le_of_ble_eq_true rfl) (xs0 _ _) rfl (Nat.le_of_ble_eq_true rfl) (Fx0.T tw_6_215) rfl (v := .ref (adx 1)) rfl dX10_bestRetries_51 ?_
        refine lv_bipush (v := (23 : Int32)) hx hb dX10_bestRetries_54 (by decide) ?_
        refine riald  hx hb hK hP hLx 1 (Nat.le_of_ble_eq_true rfl) (xs1 _ _) (by decide) (j := 23) (by decide) dX10_bestRetries_56 ?_
        obtain ⟨v10, ev10, hD⟩ := bnd_el hD
        refine lv_nmi ev10 ?_
        refine lv_istore (lv' := [(7, .int v10), (6, .int v8), (5, .int v5), (0, .ref (adx 0)), (1, .int x1), (2, .int x2), (3, .int x3), (4, .int x4)]) hx hb dX10_bestRetries_57 hl (by decide) rfl (fun ls hl => ?_)
        refine lv_aload_n hx hb dX10_bestRetries_59 rfl (lv_at hl 3 rfl) ?_
        obtain ⟨m11, z12, hD⟩ := b1_el hD
        refine rcV  (As := []) (rest := []) Fx0 (c_X10_comesBack l hLx hAd m6 z12) hP (hD1 _ (hAd _ _)) hS (hA1 _ _ (hAd _ _) hS.1) hLx (Nat.le_of_ble_eq_true rfl) (xs0 _ _) rfl tw_9_81 tw_9_78 tw_9_80 ts_156 tw_1_13 yd_X10_comesBack ⟨(Nat.le_of_ble_eq_true rfl), (Nat.le_of_ble_eq_true rfl)⟩ rfl hl.1 rfl (Nat.le_of_ble_eq_true rfl) dX10_bestRetries_60 (fun H locs hP hS => ?_)
        refine lv_iload_n hx hb dX10_bestRetries_63 rfl (lv_at hl 4 rfl) ?_
        refine lv_iconst (v := (-1 : Int32)) hx hb dX10_bestRetries_64 (by decide) ?_
        refine lv_icmp_eq (tgt := 89) hx hb dX10_bestRetries_65 (by decide) (fun c => ?_) (fun c => ?_)
        · have hD := ifp hD c
          refine lv_iload hx hb dX10_bestRetries_89 (lv_at hl 7 rfl) ?_
          refine lv_istore_n (lv' := [(1, .int x4), (7, .int v10), (6, .int v8), (5, .int v5), (0, .ref (adx 0)), (2, .int x2), (3, .int x3), (4, .int x4)]) hx hb dX10_bestRetries_91 rfl hl (by decide) rfl (fun ls hl => ?_)
          refine lv_iload hx hb dX10_bestRetries_92 (lv_at hl 2 rfl) ?_
          refine lv_istore_n (lv' := [(2, .int v8), (1, .int x4), (7, .int v10), (6, .int v8), (5, .int v5), (0, .ref (adx 0)), (3, .int x3), (4, .int x4)]) hx hb dX10_bestRetries_94 rfl hl (by decide) rfl (fun ls hl => ?_)
          refine lv_iload hx hb dX10_bestRetries_95 (lv_at hl 2 rfl) ?_
          refine lv_istore_n (lv' := [(3, .int v10), (2, .int v8), (1, .int x4), (7, .int v10), (6, .int v8), (5, .int v5), (0, .ref (adx 0)), (4, .int x4)]) hx hb dX10_bestRetries_97 rfl hl (by decide) rfl (fun ls hl => ?_)
          obtain ⟨v13, ev13, hD⟩ := bnd_el hD
          refine lv_iinc (v := v13) (lv' := [(4, .int v13), (3, .int v10), (2, .int v8), (1, .int x4), (7, .int v10), (6, .int v8), (5, .int v5), (0, .ref (adx 0))]) hx hb dX10_bestRetries_98 hl (k := 7) rfl (by rw [ev13]; rfl) (by decide) rfl (fun ls hl => ?_)
          refine lv_goto (tgt := 18) hx hb dX10_bestRetries_101 (by decide) ?_
          exact ih _ _ _ _ _ _ _ _ hD hP hS (lv_sub hl [7, 3, 2, 1, 0] rfl)
        · have hD := ifn hD c
          refine lv_iload hx hb dX10_bestRetries_68 (lv_at hl 1 rfl) ?_
          refine lv_iload_n hx hb dX10_bestRetries_70 rfl (lv_at hl 5 rfl) ?_
          refine lv_icmp_lt (tgt := 98) hx hb dX10_bestRetries_71 (by decide) (fun c => ?_) (fun c => ?_)
          · have hD := ifp hD c
            obtain ⟨v14, ev14, hD⟩ := bnd_el hD
            refine lv_iinc (v := v14) (lv' := [(4, .int v14), (7, .int v10), (6, .int v8), (5, .int v5), (0, .ref (adx 0)), (1, .int x1), (2, .int x2), (3, .int x3)]) hx hb dX10_bestRetries_98 hl (k := 7) rfl (by rw [ev14]; rfl) (by decide) rfl (fun ls hl => ?_)
            refine lv_goto (tgt := 18) hx hb dX10_bestRetries_101 (by decide) ?_
            exact ih _ _ _ _ _ _ _ _ hD hP hS (lv_sub hl [4, 5, 6, 7, 0] rfl)
          · have hD := ifn hD c
            refine lv_iload hx hb dX10_bestRetries_74 (lv_at hl 1 rfl) ?_
            refine lv_iload_n hx hb dX10_bestRetries_76 rfl (lv_at hl 5 rfl) ?_
            refine lv_icmp_ne (tgt := 89) hx hb dX10_bestRetries_77 (by decide) (fun c => ?_) (fun c => ?_)
            · have hD := ifn hD c
              refine lv_iload hx hb dX10_bestRetries_89 (lv_at hl 7 rfl) ?_
              refine lv_istore_n (lv' := [(1, .int x4), (7, .int v10), (6, .int v8), (5, .int v5), (0, .ref (adx 0)), (2, .int x2), (3, .int x3), (4, .int x4)]) hx hb dX10_bestRetries_91 rfl hl (by decide) rfl (fun ls hl => ?_)
              refine lv_iload hx hb dX10_bestRetries_92 (lv_at hl 2 rfl) ?_
              refine lv_istore_n (lv' := [(2, .int v8), (1, .int x4), (7, .int v10), (6, .int v8), (5, .int v5), (0, .ref (adx 0)), (3, .int x3), (4, .int x4)]) hx hb dX10_bestRetries_94 rfl hl (by decide) rfl (fun ls hl => ?_)
              refine lv_iload hx hb dX10_bestRetries_95 (lv_at hl 2 rfl) ?_
              refine lv_istore_n (lv' := [(3, .int v10), (2, .int v8), (1, .int x4), (7, .int v10), (6, .int v8), (5, .int v5), (0, .ref (adx 0)), (4, .int x4)]) hx hb dX10_bestRetries_97 rfl hl (by decide) rfl (fun ls hl => ?_)
              obtain ⟨v15, ev15, hD⟩ := bnd_el hD
              refine lv_iinc (v := v15) (lv' := [(4, .int v15), (3, .int v10), (2, .int v8), (1, .int x4), (7, .int v10), (6, .int v8), (5, .int v5), (0, .ref (adx 0))]) hx hb dX10_bestRetries_98 hl (k := 7) rfl (by rw [ev15]; rfl) (by decide) rfl (fun ls hl => ?_)
              refine lv_goto (tgt := 18) hx hb dX10_bestRetries_101 (by decide) ?_
              exact ih _ _ _ _ _ _ _ _ hD hP hS (lv_sub hl [7, 3, 2, 1, 0] rfl)
            · have hD := ifp hD c
              refine lv_iload hx hb dX10_bestRetries_80 (lv_at hl 0 rfl) ?_
              refine lv_iload_n hx hb dX10_bestRetries_82 rfl (lv_at hl 6 rfl) ?_
              refine lv_icmp_lt (tgt := 89) hx hb dX10_bestRetries_83 (by decide) (fun c => ?_) (fun c => ?_)
              · have hD := ifp hD c
                refine lv_iload hx hb dX10_bestRetries_89 (lv_at hl 7 rfl) ?_
                refine lv_istore_n (lv' := [(1, .int x4), (7, .int v10), (6, .int v8), (5, .int v5), (0, .ref (adx 0)), (2, .int x2), (3, .int x3), (4, .int x4)]) hx hb dX10_bestRetries_91 rfl hl (by decide) rfl (fun ls hl => ?_)
                refine lv_iload hx hb dX10_bestRetries_92 (lv_at hl 2 rfl) ?_
                refine lv_istore_n (lv' := [(2, .int v8), (1, .int x4), (7, .int v10), (6, .int v8), (5, .int v5), (0, .ref (adx 0)), (3, .int x3), (4, .int x4)]) hx hb dX10_bestRetries_94 rfl hl (by decide) rfl (fun ls hl => ?_)
                refine lv_iload hx hb dX10_bestRetries_95 (lv_at hl 2 rfl) ?_
                refine lv_istore_n (lv' := [(3, .int v10), (2, .int v8), (1, .int x4), (7, .int v10), (6, .int v8), (5, .int v5), (0, .ref (adx 0)), (4, .int x4)]) hx hb dX10_bestRetries_97 rfl hl (by decide) rfl (fun ls hl => ?_)
                obtain ⟨v16, ev16, hD⟩ := bnd_el hD
                refine lv_iinc (v := v16) (lv' := [(4, .int v16), (3, .int v10), (2, .int v8), (1, .int x4), (7, .int v10), (6, .int v8), (5, .int v5), (0, .ref (adx 0))]) hx hb dX10_bestRetries_98 hl (k := 7) rfl (by rw [ev16]; rfl) (by decide) rfl (fun ls hl => ?_)
                refine lv_goto (tgt := 18) hx hb dX10_bestRetries_101 (by decide) ?_
                exact ih _ _ _ _ _ _ _ _ hD hP hS (lv_sub hl [7, 3, 2, 1, 0] rfl)
              · have hD := ifn hD c
                refine lv_goto (tgt := 98) hx hb dX10_bestRetries_86 (by decide) ?_
                obtain ⟨v17, ev17, hD⟩ := bnd_el hD
                refine lv_iinc (v := v17) (lv' := [(4, .int v17), (7, .int v10), (6, .int v8), (5, .int v5), (0, .ref (adx 0)), (1, .int x1), (2, .int x2), (3, .int x3)]) hx hb dX10_bestRetries_98 hl (k := 7) rfl (by rw [ev17]; rfl) (by decide) rfl (fun ls hl => ?_)
                refine lv_goto (tgt := 18) hx hb dX10_bestRetries_101 (by decide) ?_
                exact ih _ _ _ _ _ _ _ _ hD hP hS (lv_sub hl [4, 5, 6, 7, 0] rfl)
  refine lv_aload_n hx hb dX10_bestRetries_0 rfl (lv_at hl 0 rfl) ?_
  refine lv_iconst (v := (0 : Int32)) hx hb dX10_bestRetries_1 (by decide) ?_
  obtain ⟨m1, em1, hD⟩ := bnd_el hD
  refine rp  hx hb hT hu10 tyX10_ok nmX10 hown hK hP (hD1 _ (hAd _ _)) hS hLx 0 6 (Nat.le_of_ble_eq_true rfl) (xs0 _ _) (xs0 _ _) rfl (Nat.le_of_ble_eq_true rfl) (Fx0.T tw_6_221) rfl rfl rfl rfl (Nat.le_of_ble_eq_true rfl) dX10_bestRetries_2 em1 (fun H locs hP hS => ?_)
  refine lv_iconst (v := (-1 : Int32)) hx hb dX10_bestRetries_5 (by decide) ?_
  refine lv_istore_n (lv' := [(1, .int (-1 : Int32)), (0, .ref (adx 0))]) hx hb dX10_bestRetries_6 rfl hl (by decide) rfl (fun ls hl => ?_)
  refine lv_iconst (v := (0 : Int32)) hx hb dX10_bestRetries_7 (by decide) ?_
  refine lv_istore_n (lv' := [(2, .int (0 : Int32)), (1, .int (-1 : Int32)), (0, .ref (adx 0))]) hx hb dX10_bestRetries_8 rfl hl (by decide) rfl (fun ls hl => ?_)
  refine lv_iconst (v := (0 : Int32)) hx hb dX10_bestRetries_9 (by decide) ?_
  refine lv_istore_n (lv' := [(3, .int (0 : Int32)), (2, .int (0 : Int32)), (1, .int (-1 : Int32)), (0, .ref (adx 0))]) hx hb dX10_bestRetries_10 rfl hl (by decide) rfl (fun ls hl => ?_)
  refine lv_aload_n hx hb dX10_bestRetries_11 rfl (lv_at hl 3 rfl) ?_
  obtain ⟨m2, z3, hD⟩ := b1_el hD
  refine rcV  (As := []) (rest := []) Fx0 (c_X10_goesAside l hLx hAd m1 z3) hP (hD1 _ (hAd _ _)) hS (hA1 _ _ (hAd _ _) hS.1) hLx (Nat.le_of_ble_eq_true rfl) (xs0 _ _) rfl tw_9_77 tw_9_74 tw_9_76 ts_155 tw_1_13 yd_X10_goesAside ⟨(Nat.le_of_ble_eq_true rfl), (Nat.le_of_ble_eq_true rfl)⟩ rfl hl.1 rfl (Nat.le_of_ble_eq_true rfl) dX10_bestRetries_12 (fun H locs hP hS => ?_)
  refine lv_iconst (v := (0 : Int32)) hx hb dX10_bestRetries_15 (by decide) ?_
  refine lv_istore (lv' := [(4, .int (0 : Int32)), (3, .int (0 : Int32)), (2, .int (0 : Int32)), (1, .int (-1 : Int32)), (0, .ref (adx 0))]) hx hb dX10_bestRetries_16 hl (by decide) rfl (fun ls hl => ?_)
  exact c_18 FU _ _ _ _ _ _ _ _ hD hP hS (lv_sub hl [4, 3, 2, 1, 0] rfl)

noncomputable def D_X10_dearestSpot_15 : Nat → Int32 → Int32 → Int32 → MM → Option (Int32 × MM)
  | 0, _, _, _, _ => none
  | n + 1, x1, x2, x3, x => if (gi x 1 19) ≤ x3 then (some (x1, x)) else (b1 (D_X10_ofSpot x3 (3 : Int32) x) (fun v4 => if v4 = 0 then (b1 (D_X10_putSpot x3 (3 : Int32) (2 : Int32) x) (fun m6 => b2 (D_X10_endTime m6) (fun v8 m9 => b1 (D_X10_comesBack m9) (fun m11 => if v8 = (-1 : Int32) then (bnd (x3 + (1 : Int32)) (fun v13 => D_X10_dearestSpot_15 n x1 x2 v13 m11)) else (if x1 = (-1 : Int32) then (bnd (x3 + (1 : Int32)) (fun v14 => D_X10_dearestSpot_15 n x3 v8 v14 m11)) else (if v8 < x2 then (bnd (x3 + (1 : Int32)) (fun v15 => D_X10_dearestSpot_15 n x3 v8 v15 m11)) else (bnd (x3 + (1 : Int32)) (fun v16 => D_X10_dearestSpot_15 n x1 x2 v16 m11)))))))) else (bnd (x3 + (1 : Int32)) (fun v17 => D_X10_dearestSpot_15 n x1 x2 v17 x))))
noncomputable def D_X10_dearestSpot (x : MM) : Option (Int32 × MM) := bnd (si x 0 6 (0 : Int32)) (fun m1 => b1 (D_X10_goesAside m1) (fun m2 => D_X10_dearestSpot_15 FU (-1 : Int32) (0 : Int32) (0 : Int32) m2))
set_option maxHeartbeats 4000000 in
set_option maxRecDepth 100000 in
theorem c_X10_dearestSpot (l : Launch) {D : va_G} {cs : Nat → ClassId} {adx : Nat → Nat} {Wf : MM → va_W} (hLx : Ln 9 adx (xsh cs adx) Wf) (hAd : ∀ a0_ b0_ : MM, (Wf a0_).map (fun q => q.1) = (Wf b0_).map (fun q => q.1)) (x : MM) {rr : Int32} {x' : MM} (hD : D_X10_dearestSpot x = some (rr, x')) : Ct l yX10_dearestSpot cX10_dearestSpot 5 (some .int) 11 239 D cs [.ref (adx 0)] (Wf x) (Wf x') (some (.int rr)) := by
  refine Ct.ofW (by decide) (Nat.le_of_ble_eq_true rfl) (hAd _ _) ?_
  intro p e s m0 below meth c A Q ls args hx hb hr hml hlocks hown hts hK hP hD1 hSS hS hA1 hl hret
  have hT : ∀ w ∈ TBL, w.before args s = true := fun w h => hts w (List.mem_cons_of_mem _ h)
  have Fx0 : Fx p l m0 c cX10_dearestSpot 5 s args yX10_dearestSpot cX10_dearestSpot 5 (some .int) D cs A := ⟨hx, hb, hml, hown, hts, hK, hSS⟩
  have hown : s.vm.findClass RX10 = some m0.cls := hown
  have hl : lv_has ls 5 [(0, .ref (adx 0))] := hl
  unfold D_X10_dearestSpot at hD
  have c_15 : ∀ (n : Nat), ∀ (x1 : Int32) (x2 : Int32) (x3 : Int32) (x : MM) (H : Heap) (locs : List Loc) (ls : Array Slot), D_X10_dearestSpot_15 n x1 x2 x3 x = some (rr, x') → va_P D vwCl (Wf x) H → va_S A s.heap H locs → lv_has ls 5 [(0, .ref (adx 0)), (1, .int x1), (2, .int x2), (3, .int x3)] → W p l e ({ frames := 11, cells := 0, slots := 0, locals := 239 } : Room) s m0 args below meth c H locs 0 0 Q (F0 m0 15 ls []) := by
    intro n
    induction n with
    | zero =>
      intro x1 x2 x3 x H locs ls hD hP hS hl
      exact nn_el hD
    | succ n ih =>
      intro x1 x2 x3 x H locs ls hD hP hS hl
      rw [D_X10_dearestSpot_15] at hD
      refine lv_iload_n hx hb dX10_dearestSpot_15 rfl (lv_at hl 3 rfl) ?_
      refine lv_aload_n hx hb dX10_dearestSpot_16 rfl (lv_at hl 0 rfl) ?_
      refine rg  hx hb hT hu10 hown hK hP hLx 0 0 (Nat.le_of_ble_eq_true rfl) (xs0 _ _) rfl (Nat.le_of_ble_eq_true rfl) (Fx0.T tw_6_215) rfl (v := .ref (adx 1)) rfl dX10_dearestSpot_17 ?_
      refine lv_bipush (v := (19 : Int32)) hx hb dX10_dearestSpot_20 (by decide) ?_
      refine riald  hx hb hK hP hLx 1 (Nat.le_of_ble_eq_true rfl) (xs1 _ _) (by decide) (j := 19) (by decide) dX10_dearestSpot_22 ?_
      refine lv_icmp_ge (tgt := 86) hx hb dX10_dearestSpot_23 (by decide) (fun c => ?_) (fun c => ?_)
      · have hD := ifp hD c
        refine lv_iload_n hx hb dX10_dearestSpot_86 rfl (lv_at hl 1 rfl) ?_
        obtain ⟨rfl, rfl⟩ := es2 hD
        exact hret _ _ _ hP hS (fun Qc hq => W.iret hx hb hr hq hS.2.2 dX10_dearestSpot_87 hlocks)
      · have hD := ifn hD c
        refine lv_aload_n hx hb dX10_dearestSpot_26 rfl (lv_at hl 0 rfl) ?_
        refine lv_iload_n hx hb dX10_dearestSpot_27 rfl (lv_at hl 3 rfl) ?_
        refine lv_iconst (v := (3 : Int32)) hx hb dX10_dearestSpot_28 (by decide) ?_
        obtain ⟨v4, z5, hD⟩ := b1_el hD
        refine rcV  (As := [.int x3, .int (3 : Int32)]) (rest := []) Fx0 (c_X10_ofSpot l hLx hAd x x3 (3 : Int32) z5) hP (hD1 _ (hAd _ _)) hS (hA1 _ _ (hAd _ _) hS.1) hLx (Nat.le_of_ble_eq_true rfl) (xs0 _ _) rfl tw_8_42 tw_8_39 tw_8_41 ts_121 tw_1_13 yd_X10_ofSpot ⟨(Nat.le_of_ble_eq_true rfl), (Nat.le_of_ble_eq_true rfl)⟩ rfl hl.1 rfl (Nat.le_of_ble_eq_true rfl) dX10_dearestSpot_29 (fun H locs hP hS => ?_)
        refine lv_if_eq (tgt := 38) hx hb dX10_dearestSpot_32 (by decide) (fun c => ?_) (fun c => ?_)
        · have hD := ifp hD c
          refine lv_aload_n hx hb dX10_dearestSpot_38 rfl (lv_at hl 0 rfl) ?_
          refine lv_iload_n hx hb dX10_dearestSpot_39 rfl (lv_at hl 3 rfl) ?_
          refine lv_iconst (v := (3 : Int32)) hx hb dX10_dearestSpot_40 (by decide) ?_
          refine lv_iconst (v := (2 : Int32)) hx hb dX10_dearestSpot_41 (by decide) ?_
          obtain ⟨m6, z7, hD⟩ := b1_el hD
          refine rcV  (As := [.int x3, .int (3 : Int32), .int (2 : Int32)]) (rest := []) Fx0 (c_X10_putSpot l hLx hAd x x3 (3 : Int32) (2 : Int32) z7) hP (hD1 _ (hAd _ _)) hS (hA1 _ _ (hAd _ _) hS.1) hLx (Nat.le_of_ble_eq_true rfl) (xs0 _ _) rfl tw_8_50 tw_8_47 tw_8_49 ts_122 tw_1_13 yd_X10_putSpot ⟨(Nat.le_of_ble_eq_true rfl), (Nat.le_of_ble_eq_true rfl)⟩ rfl hl.1 rfl (Nat.le_of_ble_eq_true rfl) dX10_dearestSpot_42 (fun H locs hP hS => ?_)
          refine lv_aload_n hx hb dX10_dearestSpot_45 rfl (lv_at hl 0 rfl) ?_
          obtain ⟨v8, m9, z10, hD⟩ := b2_el hD
          refine rcV  (As := []) (rest := []) Fx0 (c_X10_endTime l hLx hAd m6 z10) hP (hD1 _ (hAd _ _)) hS (hA1 _ _ (hAd _ _) hS.1) hLx (Nat.le_of_ble_eq_true rfl) (xs0 _ _) rfl tw_9_89 tw_9_86 tw_9_88 ts_157 tw_1_13 yd_X10_endTime ⟨(Nat.le_of_ble_eq_true rfl), (Nat.le_of_ble_eq_true rfl)⟩ rfl hl.1 rfl (Nat.le_of_ble_eq_true rfl) dX10_dearestSpot_46 (fun H locs hP hS => ?_)
          refine lv_istore (lv' := [(4, .int v8), (0, .ref (adx 0)), (1, .int x1), (2, .int x2), (3, .int x3)]) hx hb dX10_dearestSpot_49 hl (by decide) rfl (fun ls hl => ?_)
          refine lv_aload_n hx hb dX10_dearestSpot_51 rfl (lv_at hl 1 rfl) ?_
          obtain ⟨m11, z12, hD⟩ := b1_el hD
          refine rcV  (As := []) (rest := []) Fx0 (c_X10_comesBack l hLx hAd m9 z12) hP (hD1 _ (hAd _ _)) hS (hA1 _ _ (hAd _ _) hS.1) hLx (Nat.le_of_ble_eq_true rfl) (xs0 _ _) rfl tw_9_81 tw_9_78 tw_9_80 ts_156 tw_1_13 yd_X10_comesBack ⟨(Nat.le_of_ble_eq_true rfl), (Nat.le_of_ble_eq_true rfl)⟩ rfl hl.1 rfl (Nat.le_of_ble_eq_true rfl) dX10_dearestSpot_52 (fun H locs hP hS => ?_)
          refine lv_iload hx hb dX10_dearestSpot_55 (lv_at hl 0 rfl) ?_
          refine lv_iconst (v := (-1 : Int32)) hx hb dX10_dearestSpot_57 (by decide) ?_
          refine lv_icmp_eq (tgt := 80) hx hb dX10_dearestSpot_58 (by decide) (fun c => ?_) (fun c => ?_)
          · have hD := ifp hD c
            obtain ⟨v13, ev13, hD⟩ := bnd_el hD
            refine lv_iinc (v := v13) (lv' := [(3, .int v13), (4, .int v8), (0, .ref (adx 0)), (1, .int x1), (2, .int x2)]) hx hb dX10_dearestSpot_80 hl (k := 4) rfl (by rw [ev13]; rfl) (by decide) rfl (fun ls hl => ?_)
            refine lv_goto (tgt := 15) hx hb dX10_dearestSpot_83 (by decide) ?_
            exact ih _ _ _ _ _ _ _ hD hP hS (lv_sub hl [2, 3, 4, 0] rfl)
          · have hD := ifn hD c
            refine lv_iload_n hx hb dX10_dearestSpot_61 rfl (lv_at hl 2 rfl) ?_
            refine lv_iconst (v := (-1 : Int32)) hx hb dX10_dearestSpot_62 (by decide) ?_
            refine lv_icmp_eq (tgt := 75) hx hb dX10_dearestSpot_63 (by decide) (fun c => ?_) (fun c => ?_)
            · have hD := ifp hD c
              refine lv_iload_n hx hb dX10_dearestSpot_75 rfl (lv_at hl 4 rfl) ?_
              refine lv_istore_n (lv' := [(1, .int x3), (4, .int v8), (0, .ref (adx 0)), (2, .int x2), (3, .int x3)]) hx hb dX10_dearestSpot_76 rfl hl (by decide) rfl (fun ls hl => ?_)
              refine lv_iload hx hb dX10_dearestSpot_77 (lv_at hl 1 rfl) ?_
              refine lv_istore_n (lv' := [(2, .int v8), (1, .int x3), (4, .int v8), (0, .ref (adx 0)), (3, .int x3)]) hx hb dX10_dearestSpot_79 rfl hl (by decide) rfl (fun ls hl => ?_)
              obtain ⟨v14, ev14, hD⟩ := bnd_el hD
              refine lv_iinc (v := v14) (lv' := [(3, .int v14), (2, .int v8), (1, .int x3), (4, .int v8), (0, .ref (adx 0))]) hx hb dX10_dearestSpot_80 hl (k := 4) rfl (by rw [ev14]; rfl) (by decide) rfl (fun ls hl => ?_)
              refine lv_goto (tgt := 15) hx hb dX10_dearestSpot_83 (by decide) ?_
              exact ih _ _ _ _ _ _ _ hD hP hS (lv_sub hl [4, 2, 1, 0] rfl)
            · have hD := ifn hD c
              refine lv_iload hx hb dX10_dearestSpot_66 (lv_at hl 0 rfl) ?_
              refine lv_iload_n hx hb dX10_dearestSpot_68 rfl (lv_at hl 3 rfl) ?_
              refine lv_icmp_lt (tgt := 75) hx hb dX10_dearestSpot_69 (by decide) (fun c => ?_) (fun c => ?_)
              · have hD := ifp hD c
                refine lv_iload_n hx hb dX10_dearestSpot_75 rfl (lv_at hl 4 rfl) ?_
                refine lv_istore_n (lv' := [(1, .int x3), (4, .int v8), (0, .ref (adx 0)), (2, .int x2), (3, .int x3)]) hx hb dX10_dearestSpot_76 rfl hl (by decide) rfl (fun ls hl => ?_)
                refine lv_iload hx hb dX10_dearestSpot_77 (lv_at hl 1 rfl) ?_
                refine lv_istore_n (lv' := [(2, .int v8), (1, .int x3), (4, .int v8), (0, .ref (adx 0)), (3, .int x3)]) hx hb dX10_dearestSpot_79 rfl hl (by decide) rfl (fun ls hl => ?_)
                obtain ⟨v15, ev15, hD⟩ := bnd_el hD
                refine lv_iinc (v := v15) (lv' := [(3, .int v15), (2, .int v8), (1, .int x3), (4, .int v8), (0, .ref (adx 0))]) hx hb dX10_dearestSpot_80 hl (k := 4) rfl (by rw [ev15]; rfl) (by decide) rfl (fun ls hl => ?_)
                refine lv_goto (tgt := 15) hx hb dX10_dearestSpot_83 (by decide) ?_
                exact ih _ _ _ _ _ _ _ hD hP hS (lv_sub hl [4, 2, 1, 0] rfl)
              · have hD := ifn hD c
                refine lv_goto (tgt := 80) hx hb dX10_dearestSpot_72 (by decide) ?_
                obtain ⟨v16, ev16, hD⟩ := bnd_el hD
                refine lv_iinc (v := v16) (lv' := [(3, .int v16), (4, .int v8), (0, .ref (adx 0)), (1, .int x1), (2, .int x2)]) hx hb dX10_dearestSpot_80 hl (k := 4) rfl (by rw [ev16]; rfl) (by decide) rfl (fun ls hl => ?_)
                refine lv_goto (tgt := 15) hx hb dX10_dearestSpot_83 (by decide) ?_
                exact ih _ _ _ _ _ _ _ hD hP hS (lv_sub hl [2, 3, 4, 0] rfl)
        · have hD := ifn hD c
          refine lv_goto (tgt := 80) hx hb dX10_dearestSpot_35 (by decide) ?_
          obtain ⟨v17, ev17, hD⟩ := bnd_el hD
          refine lv_iinc (v := v17) (lv' := [(3, .int v17), (0, .ref (adx 0)), (1, .int x1), (2, .int x2)]) hx hb dX10_dearestSpot_80 hl (k := 3) rfl (by rw [ev17]; rfl) (by decide) rfl (fun ls hl => ?_)
          refine lv_goto (tgt := 15) hx hb dX10_dearestSpot_83 (by decide) ?_
          exact ih _ _ _ _ _ _ _ hD hP hS (lv_sub hl [1, 2, 3, 0] rfl)
  refine lv_aload_n hx hb dX10_dearestSpot_0 rfl (lv_at hl 0 rfl) ?_
  refine lv_iconst (v := (0 : Int32)) hx hb dX10_dearestSpot_1 (by decide) ?_
  obtain ⟨m1, em1, hD⟩ := bnd_el hD
  refine rp  hx hb hT hu10 tyX10_ok nmX10 hown hK hP (hD1 _ (hAd _ _)) hS hLx 0 6 (Nat.le_of_ble_eq_true rfl) (xs0 _ _) (xs0 _ _) rfl (Nat.le_of_ble_eq_true rfl) (Fx0.T tw_6_221) rfl rfl rfl rfl (Nat.le_of_ble_eq_true rfl) dX10_dearestSpot_2 em1 (fun H locs hP hS => ?_)
  refine lv_iconst (v := (-1 : Int32)) hx hb dX10_dearestSpot_5 (by decide) ?_
  refine lv_istore_n (lv' := [(1, .int (-1 : Int32)), (0, .ref (adx 0))]) hx hb dX10_dearestSpot_6 rfl hl (by decide) rfl (fun ls hl => ?_)
  refine lv_iconst (v := (0 : Int32)) hx hb dX10_dearestSpot_7 (by decide) ?_
  refine lv_istore_n (lv' := [(2, .int (0 : Int32)), (1, .int (-1 : Int32)), (0, .ref (adx 0))]) hx hb dX10_dearestSpot_8 rfl hl (by decide) rfl (fun ls hl => ?_)
  refine lv_aload_n hx hb dX10_dearestSpot_9 rfl (lv_at hl 2 rfl) ?_
  obtain ⟨m2, z3, hD⟩ := b1_el hD
  refine rcV  (As := []) (rest := []) Fx0 (c_X10_goesAside l hLx hAd m1 z3) hP (hD1 _ (hAd _ _)) hS (hA1 _ _ (hAd _ _) hS.1) hLx (Nat.le_of_ble_eq_true rfl) (xs0 _ _) rfl tw_9_77 tw_9_74 tw_9_76 ts_155 tw_1_13 yd_X10_goesAside ⟨(Nat.le_of_ble_eq_true rfl), (Nat.le_of_ble_eq_true rfl)⟩ rfl hl.1 rfl (Nat.le_of_ble_eq_true rfl) dX10_dearestSpot_10 (fun H locs hP hS => ?_)
  refine lv_iconst (v := (0 : Int32)) hx hb dX10_dearestSpot_13 (by decide) ?_
  refine lv_istore_n (lv' := [(3, .int (0 : Int32)), (2, .int (0 : Int32)), (1, .int (-1 : Int32)), (0, .ref (adx 0))]) hx hb dX10_dearestSpot_14 rfl hl (by decide) rfl (fun ls hl => ?_)
  exact c_15 FU _ _ _ _ _ _ _ hD hP hS (lv_sub hl [3, 2, 1, 0] rfl)

noncomputable def D_X10_endTimeWith (x1 : Int32) (x2 : Int32) (x : MM) : Option (Int32 × MM) := b1 (D_X10_ofFeeder x2 (1 : Int32) x) (fun v1 => b2 (D_X10_changesFeeder x1 (1 : Int32) v1 x) (fun v3 m4 => b2 (D_X10_changesFeeder x2 (1 : Int32) v3 m4) (fun v6 m7 => b2 (D_X10_endTime m7) (fun v9 m10 => b1 (D_X10_comesBack m10) (fun m12 => some (v9, m12))))))
set_option maxHeartbeats 4000000 in
set_option maxRecDepth 100000 in
theorem c_X10_endTimeWith (l : Launch) {D : va_G} {cs : Nat → ClassId} {adx : Nat → Nat} {Wf : MM → va_W} (hLx : Ln 9 adx (xsh cs adx) Wf) (hAd : ∀ a0_ b0_ : MM, (Wf a0_).map (fun q => q.1) = (Wf b0_).map (fun q => q.1)) (x : MM) (x1 : Int32) (x2 : Int32) {rr : Int32} {x' : MM} (hD : D_X10_endTimeWith x1 x2 x = some (rr, x')) : Ct l yX10_endTimeWith cX10_endTimeWith 5 (some .int) 11 239 D cs [.ref (adx 0), .int x1, .int x2] (Wf x) (Wf x') (some (.int rr)) := by
  refine Ct.ofW (by decide) (Nat.le_of_ble_eq_true rfl) (hAd _ _) ?_
  intro p e s m0 below meth c A Q ls args hx hb hr hml hlocks hown hts hK hP hD1 hSS hS hA1 hl hret
  have hT : ∀ w ∈ TBL, w.before args s = true := fun w h => hts w (List.mem_cons_of_mem _ h)
  have Fx0 : Fx p l m0 c cX10_endTimeWith 5 s args yX10_endTimeWith cX10_endTimeWith 5 (some .int) D cs A := ⟨hx, hb, hml, hown, hts, hK, hSS⟩
  have hown : s.vm.findClass RX10 = some m0.cls := hown
  have hl : lv_has ls 5 [(0, .ref (adx 0)), (1, .int x1), (2, .int x2)] := hl
  unfold D_X10_endTimeWith at hD
  refine lv_aload_n hx hb dX10_endTimeWith_0 rfl (lv_at hl 0 rfl) ?_
  refine lv_iload_n hx hb dX10_endTimeWith_1 rfl (lv_at hl 1 rfl) ?_
  refine lv_iconst (v := (1 : Int32)) hx hb dX10_endTimeWith_2 (by decide) ?_
  refine lv_aload_n hx hb dX10_endTimeWith_3 rfl (lv_at hl 0 rfl) ?_
  refine lv_iload_n hx hb dX10_endTimeWith_4 rfl (lv_at hl 2 rfl) ?_
  refine lv_iconst (v := (1 : Int32)) hx hb dX10_endTimeWith_5 (by decide) ?_
  obtain ⟨v1, z2, hD⟩ := b1_el hD
  refine rcV  (As := [.int x2, .int (1 : Int32)]) (rest := [.int (1 : Int32), .int x1, .ref (adx 0)]) Fx0 (c_X10_ofFeeder l hLx hAd x x2 (1 : Int32) z2) hP (hD1 _ (hAd _ _)) hS (hA1 _ _ (hAd _ _) hS.1) hLx (Nat.le_of_ble_eq_true rfl) (xs0 _ _) rfl tw_7_222 tw_7_219 tw_7_221 ts_113 tw_1_13 yd_X10_ofFeeder ⟨(Nat.le_of_ble_eq_true rfl), (Nat.le_of_ble_eq_true rfl)⟩ rfl hl.1 rfl (Nat.le_of_ble_eq_true rfl) dX10_endTimeWith_6 (fun H locs hP hS => ?_)
  obtain ⟨v3, m4, z5, hD⟩ := b2_el hD
  refine rcV  (As := [.int x1, .int (1 : Int32), .int v1]) (rest := []) Fx0 (c_X10_changesFeeder l hLx hAd x x1 (1 : Int32) v1 z5) hP (hD1 _ (hAd _ _)) hS (hA1 _ _ (hAd _ _) hS.1) hLx (Nat.le_of_ble_eq_true rfl) (xs0 _ _) rfl tw_8_12 tw_8_9 tw_8_11 ts_117 tw_1_13 yd_X10_changesFeeder ⟨(Nat.le_of_ble_eq_true rfl), (Nat.le_of_ble_eq_true rfl)⟩ rfl hl.1 rfl (Nat.le_of_ble_eq_true rfl) dX10_endTimeWith_9 (fun H locs hP hS => ?_)
  refine lv_istore_n (lv' := [(3, .int v3), (0, .ref (adx 0)), (1, .int x1), (2, .int x2)]) hx hb dX10_endTimeWith_12 rfl hl (by decide) rfl (fun ls hl => ?_)
  refine lv_aload_n hx hb dX10_endTimeWith_13 rfl (lv_at hl 1 rfl) ?_
  refine lv_iload_n hx hb dX10_endTimeWith_14 rfl (lv_at hl 3 rfl) ?_
  refine lv_iconst (v := (1 : Int32)) hx hb dX10_endTimeWith_15 (by decide) ?_
  refine lv_iload_n hx hb dX10_endTimeWith_16 rfl (lv_at hl 0 rfl) ?_
  obtain ⟨v6, m7, z8, hD⟩ := b2_el hD
  refine rcV  (As := [.int x2, .int (1 : Int32), .int v3]) (rest := []) Fx0 (c_X10_changesFeeder l hLx hAd m4 x2 (1 : Int32) v3 z8) hP (hD1 _ (hAd _ _)) hS (hA1 _ _ (hAd _ _) hS.1) hLx (Nat.le_of_ble_eq_true rfl) (xs0 _ _) rfl tw_8_12 tw_8_9 tw_8_11 ts_117 tw_1_13 yd_X10_changesFeeder ⟨(Nat.le_of_ble_eq_true rfl), (Nat.le_of_ble_eq_true rfl)⟩ rfl hl.1 rfl (Nat.le_of_ble_eq_true rfl) dX10_endTimeWith_17 (fun H locs hP hS => ?_)
  refine lv_istore_n (lv' := [(3, .int v6), (0, .ref (adx 0)), (1, .int x1), (2, .int x2)]) hx hb dX10_endTimeWith_20 rfl hl (by decide) rfl (fun ls hl => ?_)
  refine lv_aload_n hx hb dX10_endTimeWith_21 rfl (lv_at hl 1 rfl) ?_
  obtain ⟨v9, m10, z11, hD⟩ := b2_el hD
  refine rcV  (As := []) (rest := []) Fx0 (c_X10_endTime l hLx hAd m7 z11) hP (hD1 _ (hAd _ _)) hS (hA1 _ _ (hAd _ _) hS.1) hLx (Nat.le_of_ble_eq_true rfl) (xs0 _ _) rfl tw_9_89 tw_9_86 tw_9_88 ts_157 tw_1_13 yd_X10_endTime ⟨(Nat.le_of_ble_eq_true rfl), (Nat.le_of_ble_eq_true rfl)⟩ rfl hl.1 rfl (Nat.le_of_ble_eq_true rfl) dX10_endTimeWith_22 (fun H locs hP hS => ?_)
  refine lv_istore (lv' := [(4, .int v9), (3, .int v6), (0, .ref (adx 0)), (1, .int x1), (2, .int x2)]) hx hb dX10_endTimeWith_25 hl (by decide) rfl (fun ls hl => ?_)
  refine lv_aload_n hx hb dX10_endTimeWith_27 rfl (lv_at hl 2 rfl) ?_
  obtain ⟨m12, z13, hD⟩ := b1_el hD
  refine rcV  (As := []) (rest := []) Fx0 (c_X10_comesBack l hLx hAd m10 z13) hP (hD1 _ (hAd _ _)) hS (hA1 _ _ (hAd _ _) hS.1) hLx (Nat.le_of_ble_eq_true rfl) (xs0 _ _) rfl tw_9_81 tw_9_78 tw_9_80 ts_156 tw_1_13 yd_X10_comesBack ⟨(Nat.le_of_ble_eq_true rfl), (Nat.le_of_ble_eq_true rfl)⟩ rfl hl.1 rfl (Nat.le_of_ble_eq_true rfl) dX10_endTimeWith_28 (fun H locs hP hS => ?_)
  refine lv_iload hx hb dX10_endTimeWith_31 (lv_at hl 0 rfl) ?_
  obtain ⟨rfl, rfl⟩ := es2 hD
  exact hret _ _ _ hP hS (fun Qc hq => W.iret hx hb hr hq hS.2.2 dX10_endTimeWith_33 hlocks)

noncomputable def D_X10_bestSwap_45 (k29 : Int32 → Int32 → Int32 → MM → Option (Int32 × MM)) : Nat → Int32 → Int32 → Int32 → Int32 → MM → Option (Int32 × MM)
  | 0, _, _, _, _, _ => none
  | n + 1, x1, x2, x3, x4, x => if (gi x 1 18) ≤ x4 then (bnd (x3 + (1 : Int32)) (fun v10 => k29 x1 x2 v10 x)) else (b2 (D_X10_endTimeWith x3 x4 x) (fun v11 m12 => if v11 = (-1 : Int32) then (bnd (x4 + (1 : Int32)) (fun v14 => D_X10_bestSwap_45 k29 n x1 x2 x3 v14 m12)) else (if v11 < x1 then (bnd ((((100 : Int32) * x3) + x4)) (fun v15 => bnd (x4 + (1 : Int32)) (fun v16 => D_X10_bestSwap_45 k29 n v11 v15 x3 v16 m12))) else (bnd (x4 + (1 : Int32)) (fun v17 => D_X10_bestSwap_45 k29 n x1 x2 x3 v17 m12)))))
noncomputable def D_X10_bestSwap_29 : Nat → Int32 → Int32 → Int32 → MM → Option (Int32 × MM)
  | 0, _, _, _, _ => none
  | n + 1, x1, x2, x3, x => if (gi x 1 18) ≤ x3 then (some (x2, x)) else (bnd ((x3 + (1 : Int32))) (fun v9 => D_X10_bestSwap_45 (D_X10_bestSwap_29 n) FU x1 x2 x3 v9 x))
noncomputable def D_X10_bestSwap (x : MM) : Option (Int32 × MM) := bnd (si x 0 6 (0 : Int32)) (fun m1 => b1 (D_X10_goesAside m1) (fun m2 => b2 (D_X10_endTime m2) (fun v4 m5 => b1 (D_X10_comesBack m5) (fun m7 => if v4 = (-1 : Int32) then (some ((-1 : Int32), m7)) else (D_X10_bestSwap_29 FU v4 (-1 : Int32) (0 : Int32) m7)))))
set_option maxHeartbeats 4000000 in
set_option maxRecDepth 100000 in
theorem c_X10_bestSwap (l : Launch) {D : va_G} {cs : Nat → ClassId} {adx : Nat → Nat} {Wf : MM → va_W} (hLx : Ln 9 adx (xsh cs adx) Wf) (hAd : ∀ a0_ b0_ : MM, (Wf a0_).map (fun q => q.1) = (Wf b0_).map (fun q => q.1)) (x : MM) {rr : Int32} {x' : MM} (hD : D_X10_bestSwap x = some (rr, x')) : Ct l yX10_bestSwap cX10_bestSwap 6 (some .int) 12 263 D cs [.ref (adx 0)] (Wf x) (Wf x') (some (.int rr)) := by
  refine Ct.ofW (by decide) (Nat.le_of_ble_eq_true rfl) (hAd _ _) ?_
  intro p e s m0 below meth c A Q ls args hx hb hr hml hlocks hown hts hK hP hD1 hSS hS hA1 hl hret
  have hT : ∀ w ∈ TBL, w.before args s = true := fun w h => hts w (List.mem_cons_of_mem _ h)
  have Fx0 : Fx p l m0 c cX10_bestSwap 6 s args yX10_bestSwap cX10_bestSwap 6 (some .int) D cs A := ⟨hx, hb, hml, hown, hts, hK, hSS⟩
  have hown : s.vm.findClass RX10 = some m0.cls := hown
  have hl : lv_has ls 6 [(0, .ref (adx 0))] := hl
  unfold D_X10_bestSwap at hD
  have c_45 : ∀ (k29 : Int32 → Int32 → Int32 → MM → Option (Int32 × MM)) (hk29 : ∀ (x1 : Int32) (x2 : Int32) (x3 : Int32) (x : MM) (H : Heap) (locs : List Loc) (ls : Array Slot), k29 x1 x2 x3 x = some (rr, x') → va_P D vwCl (Wf x) H → va_S A s.heap H locs → lv_has ls 6 [(0, .ref (adx 0)), (1, .int x1), (2, .int x2), (3, .int x3)] → W p l e ({ frames := 12, cells := 0, slots := 0, locals := 263 } : Room) s m0 args below meth c H locs 0 0 Q (F0 m0 29 ls [])) (n : Nat), ∀ (x1 : Int32) (x2 : Int32) (x3 : Int32) (x4 : Int32) (x : MM) (H : Heap) (locs : List Loc) (ls : Array Slot), D_X10_bestSwap_45 k29 n x1 x2 x3 x4 x = some (rr, x') → va_P D vwCl (Wf x) H → va_S A s.heap H locs → lv_has ls 6 [(0, .ref (adx 0)), (1, .int x1), (2, .int x2), (3, .int x3), (4, .int x4)] → W p l e ({ frames := 12, cells := 0, slots := 0, locals := 263 } : Room) s m0 args below meth c H locs 0 0 Q (F0 m0 45 ls []) := by
    intro k29 hk29 n
    induction n with
    | zero =>
      intro x1 x2 x3 x4 x H locs ls hD hP hS hl
      exact nn_el hD
    | succ n ih =>
      intro x1 x2 x3 x4 x H locs ls hD hP hS hl
      rw [D_X10_bestSwap_45] at hD
      refine lv_iload hx hb dX10_bestSwap_45 (lv_at hl 4 rfl) ?_
      refine lv_aload_n hx hb dX10_bestSwap_47 rfl (lv_at hl 0 rfl) ?_
      refine rg  hx hb hT hu10 hown hK hP hLx 0 0 (Nat.le_of_ble_eq_true rfl) (xs0 _ _) rfl (Nat.le_of_ble_eq_true rfl) (Fx0.T tw_6_215) rfl (v := .ref (adx 1)) rfl dX10_bestSwap_48 ?_
      refine lv_bipush (v := (18 : Int32)) hx hb dX10_bestSwap_51 (by decide) ?_
      refine riald  hx hb hK hP hLx 1 (Nat.le_of_ble_eq_true rfl) (xs1 _ _) (by decide) (j := 18) (by decide) dX10_bestSwap_53 ?_
      refine lv_icmp_ge (tgt := 98) hx hb dX10_bestSwap_54 (by decide) (fun c => ?_) (fun c => ?_)
      · have hD := ifp hD c
        obtain ⟨v10, ev10, hD⟩ := bnd_el hD
        refine lv_iinc (v := v10) (lv' := [(3, .int v10), (0, .ref (adx 0)), (1, .int x1), (2, .int x2), (4, .int x4)]) hx hb dX10_bestSwap_98 hl (k := 3) rfl (by rw [ev10]; rfl) (by decide) rfl (fun ls hl => ?_)
        refine lv_goto (tgt := 29) hx hb dX10_bestSwap_101 (by decide) ?_
        exact hk29 _ _ _ _ _ _ _ hD hP hS (lv_sub hl [1, 2, 3, 0] rfl)
      · have hD := ifn hD c
        refine lv_aload_n hx hb dX10_bestSwap_57 rfl (lv_at hl 0 rfl) ?_
        refine lv_iload_n hx hb dX10_bestSwap_58 rfl (lv_at hl 3 rfl) ?_
        refine lv_iload hx hb dX10_bestSwap_59 (lv_at hl 4 rfl) ?_
        obtain ⟨v11, m12, z13, hD⟩ := b2_el hD
        refine rcV  (As := [.int x3, .int x4]) (rest := []) Fx0 (c_X10_endTimeWith l hLx hAd x x3 x4 z13) hP (hD1 _ (hAd _ _)) hS (hA1 _ _ (hAd _ _) hS.1) hLx (Nat.le_of_ble_eq_true rfl) (xs0 _ _) rfl tw_9_160 tw_9_157 tw_9_159 ts_163 tw_1_13 yd_X10_endTimeWith ⟨(Nat.le_of_ble_eq_true rfl), (Nat.le_of_ble_eq_true rfl)⟩ rfl hl.1 rfl (Nat.le_of_ble_eq_true rfl) dX10_bestSwap_61 (fun H locs hP hS => ?_)
        refine lv_istore (lv' := [(5, .int v11), (0, .ref (adx 0)), (1, .int x1), (2, .int x2), (3, .int x3), (4, .int x4)]) hx hb dX10_bestSwap_64 hl (by decide) rfl (fun ls hl => ?_)
        refine lv_iload hx hb dX10_bestSwap_66 (lv_at hl 0 rfl) ?_
        refine lv_iconst (v := (-1 : Int32)) hx hb dX10_bestSwap_68 (by decide) ?_
        refine lv_icmp_eq (tgt := 92) hx hb dX10_bestSwap_69 (by decide) (fun c => ?_) (fun c => ?_)
        · have hD := ifp hD c
          obtain ⟨v14, ev14, hD⟩ := bnd_el hD
          refine lv_iinc (v := v14) (lv' := [(4, .int v14), (5, .int v11), (0, .ref (adx 0)), (1, .int x1), (2, .int x2), (3, .int x3)]) hx hb dX10_bestSwap_92 hl (k := 5) rfl (by rw [ev14]; rfl) (by decide) rfl (fun ls hl => ?_)
          refine lv_goto (tgt := 45) hx hb dX10_bestSwap_95 (by decide) ?_
          exact ih _ _ _ _ _ _ _ _ hD hP hS (lv_sub hl [2, 3, 4, 5, 0] rfl)
        · have hD := ifn hD c
          refine lv_iload hx hb dX10_bestSwap_72 (lv_at hl 0 rfl) ?_
          refine lv_iload_n hx hb dX10_bestSwap_74 rfl (lv_at hl 2 rfl) ?_
          refine lv_icmp_lt (tgt := 81) hx hb dX10_bestSwap_75 (by decide) (fun c => ?_) (fun c => ?_)
          · have hD := ifp hD c
            refine lv_bipush (v := (100 : Int32)) hx hb dX10_bestSwap_81 (by decide) ?_
            refine lv_iload_n hx hb dX10_bestSwap_83 rfl (lv_at hl 4 rfl) ?_
            refine lv_imul hx hb dX10_bestSwap_84 ?_
            refine lv_iload hx hb dX10_bestSwap_85 (lv_at hl 5 rfl) ?_
            refine lv_iadd hx hb dX10_bestSwap_87 ?_
            obtain ⟨v15, ev15, hD⟩ := bnd_el hD
            refine lv_nmi ev15 ?_
            refine lv_istore_n (lv' := [(2, .int v15), (5, .int v11), (0, .ref (adx 0)), (1, .int x1), (3, .int x3), (4, .int x4)]) hx hb dX10_bestSwap_88 rfl hl (by decide) rfl (fun ls hl => ?_)
            refine lv_iload hx hb dX10_bestSwap_89 (lv_at hl 1 rfl) ?_
            refine lv_istore_n (lv' := [(1, .int v11), (2, .int v15), (5, .int v11), (0, .ref (adx 0)), (3, .int x3), (4, .int x4)]) hx hb dX10_bestSwap_91 rfl hl (by decide) rfl (fun ls hl => ?_)
            obtain ⟨v16, ev16, hD⟩ := bnd_el hD
            refine lv_iinc (v := v16) (lv' := [(4, .int v16), (1, .int v11), (2, .int v15), (5, .int v11), (0, .ref (adx 0)), (3, .int x3)]) hx hb dX10_bestSwap_92 hl (k := 5) rfl (by rw [ev16]; rfl) (by decide) rfl (fun ls hl => ?_)
            refine lv_goto (tgt := 45) hx hb dX10_bestSwap_95 (by decide) ?_
            exact ih _ _ _ _ _ _ _ _ hD hP hS (lv_sub hl [4, 1, 2, 5, 0] rfl)
          · have hD := ifn hD c
            refine lv_goto (tgt := 92) hx hb dX10_bestSwap_78 (by decide) ?_
            obtain ⟨v17, ev17, hD⟩ := bnd_el hD
            refine lv_iinc (v := v17) (lv' := [(4, .int v17), (5, .int v11), (0, .ref (adx 0)), (1, .int x1), (2, .int x2), (3, .int x3)]) hx hb dX10_bestSwap_92 hl (k := 5) rfl (by rw [ev17]; rfl) (by decide) rfl (fun ls hl => ?_)
            refine lv_goto (tgt := 45) hx hb dX10_bestSwap_95 (by decide) ?_
            exact ih _ _ _ _ _ _ _ _ hD hP hS (lv_sub hl [2, 3, 4, 5, 0] rfl)
  have c_29 : ∀ (n : Nat), ∀ (x1 : Int32) (x2 : Int32) (x3 : Int32) (x : MM) (H : Heap) (locs : List Loc) (ls : Array Slot), D_X10_bestSwap_29 n x1 x2 x3 x = some (rr, x') → va_P D vwCl (Wf x) H → va_S A s.heap H locs → lv_has ls 6 [(0, .ref (adx 0)), (1, .int x1), (2, .int x2), (3, .int x3)] → W p l e ({ frames := 12, cells := 0, slots := 0, locals := 263 } : Room) s m0 args below meth c H locs 0 0 Q (F0 m0 29 ls []) := by
    intro n
    induction n with
    | zero =>
      intro x1 x2 x3 x H locs ls hD hP hS hl
      exact nn_el hD
    | succ n ih =>
      intro x1 x2 x3 x H locs ls hD hP hS hl
      rw [D_X10_bestSwap_29] at hD
      refine lv_iload_n hx hb dX10_bestSwap_29 rfl (lv_at hl 3 rfl) ?_
      refine lv_aload_n hx hb dX10_bestSwap_30 rfl (lv_at hl 0 rfl) ?_
      refine rg  hx hb hT hu10 hown hK hP hLx 0 0 (Nat.le_of_ble_eq_true rfl) (xs0 _ _) rfl (Nat.le_of_ble_eq_true rfl) (Fx0.T tw_6_215) rfl (v := .ref (adx 1)) rfl dX10_bestSwap_31 ?_
      refine lv_bipush (v := (18 : Int32)) hx hb dX10_bestSwap_34 (by decide) ?_
      refine riald  hx hb hK hP hLx 1 (Nat.le_of_ble_eq_true rfl) (xs1 _ _) (by decide) (j := 18) (by decide) dX10_bestSwap_36 ?_
      refine lv_icmp_ge (tgt := 104) hx hb dX10_bestSwap_37 (by decide) (fun c => ?_) (fun c => ?_)
      · have hD := ifp hD c
        refine lv_iload_n hx hb dX10_bestSwap_104 rfl (lv_at hl 2 rfl) ?_
        obtain ⟨rfl, rfl⟩ := es2 hD
        exact hret _ _ _ hP hS (fun Qc hq => W.iret hx hb hr hq hS.2.2 dX10_bestSwap_105 hlocks)
      · have hD := ifn hD c
        refine lv_iload_n hx hb dX10_bestSwap_40 rfl (lv_at hl 3 rfl) ?_
        refine lv_iconst (v := (1 : Int32)) hx hb dX10_bestSwap_41 (by decide) ?_
        refine lv_iadd hx hb dX10_bestSwap_42 ?_
        obtain ⟨v9, ev9, hD⟩ := bnd_el hD
        refine lv_nmi ev9 ?_
        refine lv_istore (lv' := [(4, .int v9), (0, .ref (adx 0)), (1, .int x1), (2, .int x2), (3, .int x3)]) hx hb dX10_bestSwap_43 hl (by decide) rfl (fun ls hl => ?_)
        exact c_45 _ ih FU _ _ _ _ _ _ _ _ hD hP hS (lv_sub hl [1, 2, 3, 4, 0] rfl)
  refine lv_aload_n hx hb dX10_bestSwap_0 rfl (lv_at hl 0 rfl) ?_
  refine lv_iconst (v := (0 : Int32)) hx hb dX10_bestSwap_1 (by decide) ?_
  obtain ⟨m1, em1, hD⟩ := bnd_el hD
  refine rp  hx hb hT hu10 tyX10_ok nmX10 hown hK hP (hD1 _ (hAd _ _)) hS hLx 0 6 (Nat.le_of_ble_eq_true rfl) (xs0 _ _) (xs0 _ _) rfl (Nat.le_of_ble_eq_true rfl) (Fx0.T tw_6_221) rfl rfl rfl rfl (Nat.le_of_ble_eq_true rfl) dX10_bestSwap_2 em1 (fun H locs hP hS => ?_)
  refine lv_aload_n hx hb dX10_bestSwap_5 rfl (lv_at hl 0 rfl) ?_
  obtain ⟨m2, z3, hD⟩ := b1_el hD
  refine rcV  (As := []) (rest := []) Fx0 (c_X10_goesAside l hLx hAd m1 z3) hP (hD1 _ (hAd _ _)) hS (hA1 _ _ (hAd _ _) hS.1) hLx (Nat.le_of_ble_eq_true rfl) (xs0 _ _) rfl tw_9_77 tw_9_74 tw_9_76 ts_155 tw_1_13 yd_X10_goesAside ⟨(Nat.le_of_ble_eq_true rfl), (Nat.le_of_ble_eq_true rfl)⟩ rfl hl.1 rfl (Nat.le_of_ble_eq_true rfl) dX10_bestSwap_6 (fun H locs hP hS => ?_)
  refine lv_aload_n hx hb dX10_bestSwap_9 rfl (lv_at hl 0 rfl) ?_
  obtain ⟨v4, m5, z6, hD⟩ := b2_el hD
  refine rcV  (As := []) (rest := []) Fx0 (c_X10_endTime l hLx hAd m2 z6) hP (hD1 _ (hAd _ _)) hS (hA1 _ _ (hAd _ _) hS.1) hLx (Nat.le_of_ble_eq_true rfl) (xs0 _ _) rfl tw_9_89 tw_9_86 tw_9_88 ts_157 tw_1_13 yd_X10_endTime ⟨(Nat.le_of_ble_eq_true rfl), (Nat.le_of_ble_eq_true rfl)⟩ rfl hl.1 rfl (Nat.le_of_ble_eq_true rfl) dX10_bestSwap_10 (fun H locs hP hS => ?_)
  refine lv_istore_n (lv' := [(1, .int v4), (0, .ref (adx 0))]) hx hb dX10_bestSwap_13 rfl hl (by decide) rfl (fun ls hl => ?_)
  refine lv_aload_n hx hb dX10_bestSwap_14 rfl (lv_at hl 1 rfl) ?_
  obtain ⟨m7, z8, hD⟩ := b1_el hD
  refine rcV  (As := []) (rest := []) Fx0 (c_X10_comesBack l hLx hAd m5 z8) hP (hD1 _ (hAd _ _)) hS (hA1 _ _ (hAd _ _) hS.1) hLx (Nat.le_of_ble_eq_true rfl) (xs0 _ _) rfl tw_9_81 tw_9_78 tw_9_80 ts_156 tw_1_13 yd_X10_comesBack ⟨(Nat.le_of_ble_eq_true rfl), (Nat.le_of_ble_eq_true rfl)⟩ rfl hl.1 rfl (Nat.le_of_ble_eq_true rfl) dX10_bestSwap_15 (fun H locs hP hS => ?_)
  refine lv_iload_n hx hb dX10_bestSwap_18 rfl (lv_at hl 0 rfl) ?_
  refine lv_iconst (v := (-1 : Int32)) hx hb dX10_bestSwap_19 (by decide) ?_
  refine lv_icmp_ne (tgt := 25) hx hb dX10_bestSwap_20 (by decide) (fun c => ?_) (fun c => ?_)
  · have hD := ifn hD c
    refine lv_iconst (v := (-1 : Int32)) hx hb dX10_bestSwap_25 (by decide) ?_
    refine lv_istore_n (lv' := [(2, .int (-1 : Int32)), (1, .int v4), (0, .ref (adx 0))]) hx hb dX10_bestSwap_26 rfl hl (by decide) rfl (fun ls hl => ?_)
    refine lv_iconst (v := (0 : Int32)) hx hb dX10_bestSwap_27 (by decide) ?_
    refine lv_istore_n (lv' := [(3, .int (0 : Int32)), (2, .int (-1 : Int32)), (1, .int v4), (0, .ref (adx 0))]) hx hb dX10_bestSwap_28 rfl hl (by decide) rfl (fun ls hl => ?_)
    exact c_29 FU _ _ _ _ _ _ _ hD hP hS (lv_sub hl [3, 2, 1, 0] rfl)
  · have hD := ifp hD c
    refine lv_iconst (v := (-1 : Int32)) hx hb dX10_bestSwap_23 (by decide) ?_
    obtain ⟨rfl, rfl⟩ := es2 hD
    exact hret _ _ _ hP hS (fun Qc hq => W.iret hx hb hr hq hS.2.2 dX10_bestSwap_24 hlocks)

noncomputable def D_X10_noSlot (x1 : Int32) (x : MM) : Option (Int32 × MM) := bnd (si x 0 6 (0 : Int32)) (fun m1 => b1 (D_X10_in x1.toInt64 (0 : Int64) (1 : Int64)) (fun v2 => if v2 = 0 then (b2 (D_X10_throwsIf (1 : Int32) (1 : Int32) m1) (fun v8 m9 => if v8 = 0 ∨ v8 = 1 then some (v8, m9) else none)) else (b2 (D_X10_throwsIf (0 : Int32) (1 : Int32) m1) (fun v4 m5 => if v4 = 0 ∨ v4 = 1 then some (v4, m5) else none))))
set_option maxHeartbeats 4000000 in
set_option maxRecDepth 100000 in
theorem c_X10_noSlot (l : Launch) {D : va_G} {cs : Nat → ClassId} {adx : Nat → Nat} {Wf : MM → va_W} (hLx : Ln 9 adx (xsh cs adx) Wf) (hAd : ∀ a0_ b0_ : MM, (Wf a0_).map (fun q => q.1) = (Wf b0_).map (fun q => q.1)) (x : MM) (x1 : Int32) {rr : Int32} {x' : MM} (hD : D_X10_noSlot x1 x = some (rr, x')) : Ct l yX10_noSlot cX10_noSlot 2 (some .boolean) 1 25 D cs [.ref (adx 0), .int x1] (Wf x) (Wf x') (some (.int rr)) := by
  refine Ct.ofW (by decide) (Nat.le_of_ble_eq_true rfl) (hAd _ _) ?_
  intro p e s m0 below meth c A Q ls args hx hb hr hml hlocks hown hts hK hP hD1 hSS hS hA1 hl hret
  have hT : ∀ w ∈ TBL, w.before args s = true := fun w h => hts w (List.mem_cons_of_mem _ h)
  have Fx0 : Fx p l m0 c cX10_noSlot 2 s args yX10_noSlot cX10_noSlot 2 (some .boolean) D cs A := ⟨hx, hb, hml, hown, hts, hK, hSS⟩
  have hown : s.vm.findClass RX10 = some m0.cls := hown
  have hl : lv_has ls 2 [(0, .ref (adx 0)), (1, .int x1)] := hl
  unfold D_X10_noSlot at hD
  refine lv_aload_n hx hb dX10_noSlot_0 rfl (lv_at hl 0 rfl) ?_
  refine lv_iconst (v := (0 : Int32)) hx hb dX10_noSlot_1 (by decide) ?_
  obtain ⟨m1, em1, hD⟩ := bnd_el hD
  refine rp  hx hb hT hu10 tyX10_ok nmX10 hown hK hP (hD1 _ (hAd _ _)) hS hLx 0 6 (Nat.le_of_ble_eq_true rfl) (xs0 _ _) (xs0 _ _) rfl (Nat.le_of_ble_eq_true rfl) (Fx0.T tw_6_221) rfl rfl rfl rfl (Nat.le_of_ble_eq_true rfl) dX10_noSlot_2 em1 (fun H locs hP hS => ?_)
  refine lv_aload_n hx hb dX10_noSlot_5 rfl (lv_at hl 0 rfl) ?_
  refine lv_iload_n hx hb dX10_noSlot_6 rfl (lv_at hl 1 rfl) ?_
  refine lv_i2l (v := x1.toInt64) hx hb dX10_noSlot_7 rfl ?_
  refine lv_lconst (v := (0 : Int64)) hx hb dX10_noSlot_8 (by decide) ?_
  refine lv_lconst (v := (1 : Int64)) hx hb dX10_noSlot_9 (by decide) ?_
  obtain ⟨v2, z3, hD⟩ := b1_el hD
  refine rcS (As := [.long x1.toInt64, .long (0 : Int64), .long (1 : Int64)]) (rest := [.ref (adx 0)]) Fx0 (c_X10_in l x1.toInt64 (0 : Int64) (1 : Int64) z3) hP (hD1 _ (hAd _ _)) hS (hA1 _ _ (hAd _ _) hS.1) tw_7_69 tw_7_67 tw_7_68 tw_1_13 yd_X10_in ⟨(Nat.le_of_ble_eq_true rfl), (Nat.le_of_ble_eq_true rfl)⟩ rfl hl.1 rfl (Nat.le_of_ble_eq_true rfl) dX10_noSlot_10 (fun H locs hP hS => ?_)
  refine lv_if_ne (tgt := 20) hx hb dX10_noSlot_13 (by decide) (fun c => ?_) (fun c => ?_)
  · have hD := ifn hD c
    refine lv_iconst (v := (0 : Int32)) hx hb dX10_noSlot_20 (by decide) ?_
    refine lv_iconst (v := (1 : Int32)) hx hb dX10_noSlot_21 (by decide) ?_
    obtain ⟨v4, m5, z6, hD⟩ := b2_el hD
    refine rcV  (As := [.int (0 : Int32), .int (1 : Int32)]) (rest := []) Fx0 (c_X10_throwsIf l hLx hAd m1 (0 : Int32) (1 : Int32) z6) hP (hD1 _ (hAd _ _)) hS (hA1 _ _ (hAd _ _) hS.1) hLx (Nat.le_of_ble_eq_true rfl) (xs0 _ _) rfl tw_7_163 tw_7_160 tw_7_162 ts_105 tw_1_13 yd_X10_throwsIf ⟨(Nat.le_of_ble_eq_true rfl), (Nat.le_of_ble_eq_true rfl)⟩ rfl hl.1 rfl (Nat.le_of_ble_eq_true rfl) dX10_noSlot_22 (fun H locs hP hS => ?_)
    obtain ⟨h7, hD⟩ := gb_el hD
    obtain ⟨rfl, rfl⟩ := es2 hD
    exact hret _ _ _ hP hS (fun Qc hq => W.zret hx hb hr (nbz h7).1 hq hS.2.2 dX10_noSlot_25 hlocks)
  · have hD := ifp hD c
    refine lv_iconst (v := (1 : Int32)) hx hb dX10_noSlot_16 (by decide) ?_
    refine lv_goto (tgt := 21) hx hb dX10_noSlot_17 (by decide) ?_
    refine lv_iconst (v := (1 : Int32)) hx hb dX10_noSlot_21 (by decide) ?_
    obtain ⟨v8, m9, z10, hD⟩ := b2_el hD
    refine rcV  (As := [.int (1 : Int32), .int (1 : Int32)]) (rest := []) Fx0 (c_X10_throwsIf l hLx hAd m1 (1 : Int32) (1 : Int32) z10) hP (hD1 _ (hAd _ _)) hS (hA1 _ _ (hAd _ _) hS.1) hLx (Nat.le_of_ble_eq_true rfl) (xs0 _ _) rfl tw_7_163 tw_7_160 tw_7_162 ts_105 tw_1_13 yd_X10_throwsIf ⟨(Nat.le_of_ble_eq_true rfl), (Nat.le_of_ble_eq_true rfl)⟩ rfl hl.1 rfl (Nat.le_of_ble_eq_true rfl) dX10_noSlot_22 (fun H locs hP hS => ?_)
    obtain ⟨h11, hD⟩ := gb_el hD
    obtain ⟨rfl, rfl⟩ := es2 hD
    exact hret _ _ _ hP hS (fun Qc hq => W.zret hx hb hr (nbz h11).1 hq hS.2.2 dX10_noSlot_25 hlocks)

noncomputable def D_X10_saveSnapshot (x1 : Int32) (x : MM) : Option (Int32 × MM) := b2 (D_X10_noSlot x1 x) (fun v1 m2 => if v1 = 0 then (if x1 = 0 then (b1 (D_X10_copies 1 4 m2) (fun m8 => if x1 < 0 ∨ 2 ≤ x1.toNatClampNeg then none else (bnd (si m8 6 x1.toNatClampNeg (vp_nar .boolean (1 : Int32))) (fun m11 => some ((gi m11 1 23), m11))))) else (b1 (D_X10_copies 1 5 m2) (fun m4 => if x1 < 0 ∨ 2 ≤ x1.toNatClampNeg then none else (bnd (si m4 6 x1.toNatClampNeg (vp_nar .boolean (1 : Int32))) (fun m7 => some ((gi m7 1 23), m7)))))) else (some ((0 : Int32), m2)))
set_option maxHeartbeats 4000000 in
set_option maxRecDepth 100000 in
theorem c_X10_saveSnapshot (l : Launch) {D : va_G} {cs : Nat → ClassId} {adx : Nat → Nat} {Wf : MM → va_W} (hLx : Ln 9 adx (xsh cs adx) Wf) (hAd : ∀ a0_ b0_ : MM, (Wf a0_).map (fun q => q.1) = (Wf b0_).map (fun q => q.1)) (x : MM) (x1 : Int32) {rr : Int32} {x' : MM} (hD : D_X10_saveSnapshot x1 x = some (rr, x')) : Ct l yX10_saveSnapshot cX10_saveSnapshot 2 (some .int) 2 46 D cs [.ref (adx 0), .int x1] (Wf x) (Wf x') (some (.int rr)) := by
  refine Ct.ofW (by decide) (Nat.le_of_ble_eq_true rfl) (hAd _ _) ?_
  intro p e s m0 below meth c A Q ls args hx hb hr hml hlocks hown hts hK hP hD1 hSS hS hA1 hl hret
  have hT : ∀ w ∈ TBL, w.before args s = true := fun w h => hts w (List.mem_cons_of_mem _ h)
  have Fx0 : Fx p l m0 c cX10_saveSnapshot 2 s args yX10_saveSnapshot cX10_saveSnapshot 2 (some .int) D cs A := ⟨hx, hb, hml, hown, hts, hK, hSS⟩
  have hown : s.vm.findClass RX10 = some m0.cls := hown
  have hl : lv_has ls 2 [(0, .ref (adx 0)), (1, .int x1)] := hl
  unfold D_X10_saveSnapshot at hD
  refine lv_aload_n hx hb dX10_saveSnapshot_0 rfl (lv_at hl 0 rfl) ?_
  refine lv_iload_n hx hb dX10_saveSnapshot_1 rfl (lv_at hl 1 rfl) ?_
  obtain ⟨v1, m2, z3, hD⟩ := b2_el hD
  refine rcV  (As := [.int x1]) (rest := []) Fx0 (c_X10_noSlot l hLx hAd x x1 z3) hP (hD1 _ (hAd _ _)) hS (hA1 _ _ (hAd _ _) hS.1) hLx (Nat.le_of_ble_eq_true rfl) (xs0 _ _) rfl tw_9_168 tw_9_165 tw_9_167 ts_164 tw_1_13 yd_X10_noSlot ⟨(Nat.le_of_ble_eq_true rfl), (Nat.le_of_ble_eq_true rfl)⟩ rfl hl.1 rfl (Nat.le_of_ble_eq_true rfl) dX10_saveSnapshot_2 (fun H locs hP hS => ?_)
  refine lv_if_eq (tgt := 10) hx hb dX10_saveSnapshot_5 (by decide) (fun c => ?_) (fun c => ?_)
  · have hD := ifp hD c
    refine lv_aload_n hx hb dX10_saveSnapshot_10 rfl (lv_at hl 0 rfl) ?_
    refine rg  hx hb hT hu10 hown hK hP hLx 0 0 (Nat.le_of_ble_eq_true rfl) (xs0 _ _) rfl (Nat.le_of_ble_eq_true rfl) (Fx0.T tw_6_215) rfl (v := .ref (adx 1)) rfl dX10_saveSnapshot_11 ?_
    refine lv_iload_n hx hb dX10_saveSnapshot_14 rfl (lv_at hl 1 rfl) ?_
    refine lv_if_ne (tgt := 25) hx hb dX10_saveSnapshot_15 (by decide) (fun c => ?_) (fun c => ?_)
    · have hD := ifn hD c
      refine lv_aload_n hx hb dX10_saveSnapshot_25 rfl (lv_at hl 0 rfl) ?_
      refine rg  hx hb hT hu10 hown hK hP hLx 0 4 (Nat.le_of_ble_eq_true rfl) (xs0 _ _) rfl (Nat.le_of_ble_eq_true rfl) (Fx0.T tw_6_219) rfl (v := .ref (adx 5)) rfl dX10_saveSnapshot_26 ?_
      obtain ⟨m4, z5, hD⟩ := b1_el hD
      refine rcS (As := [.ref (adx 1), .ref (adx 5)]) (rest := []) Fx0 (c_X10_copies l hLx hAd m2 1 (by decide) (by decide) 5 (by decide) (by decide) z5) hP (hD1 _ (hAd _ _)) hS (hA1 _ _ (hAd _ _) hS.1) tw_7_150 tw_7_148 tw_7_149 tw_1_13 yd_X10_copies ⟨(Nat.le_of_ble_eq_true rfl), (Nat.le_of_ble_eq_true rfl)⟩ rfl hl.1 rfl (Nat.le_of_ble_eq_true rfl) dX10_saveSnapshot_29 (fun H locs hP hS => ?_)
      refine lv_aload_n hx hb dX10_saveSnapshot_32 rfl (lv_at hl 0 rfl) ?_
      refine rg  hx hb hT hu10 hown hK hP hLx 0 5 (Nat.le_of_ble_eq_true rfl) (xs0 _ _) rfl (Nat.le_of_ble_eq_true rfl) (Fx0.T tw_6_220) rfl (v := .ref (adx 6)) rfl dX10_saveSnapshot_33 ?_
      refine lv_iload_n hx hb dX10_saveSnapshot_36 rfl (lv_at hl 1 rfl) ?_
      refine lv_iconst (v := (1 : Int32)) hx hb dX10_saveSnapshot_37 (by decide) ?_
      obtain ⟨h6, hD⟩ := gd_el hD
      obtain ⟨m7, em7, hD⟩ := bnd_el hD
      refine rzast  hx hb hK hP (hD1 _ (hAd _ _)) hS hLx 6 (Nat.le_of_ble_eq_true rfl) (fun _ => xs6 _ _) h6 rfl dX10_saveSnapshot_38 em7 (fun H locs hP hS => ?_)
      refine lv_aload_n hx hb dX10_saveSnapshot_39 rfl (lv_at hl 0 rfl) ?_
      refine rg  hx hb hT hu10 hown hK hP hLx 0 0 (Nat.le_of_ble_eq_true rfl) (xs0 _ _) rfl (Nat.le_of_ble_eq_true rfl) (Fx0.T tw_6_215) rfl (v := .ref (adx 1)) rfl dX10_saveSnapshot_40 ?_
      refine lv_bipush (v := (23 : Int32)) hx hb dX10_saveSnapshot_43 (by decide) ?_
      refine riald  hx hb hK hP hLx 1 (Nat.le_of_ble_eq_true rfl) (xs1 _ _) (by decide) (j := 23) (by decide) dX10_saveSnapshot_45 ?_
      obtain ⟨rfl, rfl⟩ := es2 hD
      exact hret _ _ _ hP hS (fun Qc hq => W.iret hx hb hr hq hS.2.2 dX10_saveSnapshot_46 hlocks)
    · have hD := ifp hD c
      refine lv_aload_n hx hb dX10_saveSnapshot_18 rfl (lv_at hl 0 rfl) ?_
      refine rg  hx hb hT hu10 hown hK hP hLx 0 3 (Nat.le_of_ble_eq_true rfl) (xs0 _ _) rfl (Nat.le_of_ble_eq_true rfl) (Fx0.T tw_6_218) rfl (v := .ref (adx 4)) rfl dX10_saveSnapshot_19 ?_
      refine lv_goto (tgt := 29) hx hb dX10_saveSnapshot_22 (by decide) ?_
      obtain ⟨m8, z9, hD⟩ := b1_el hD
      refine rcS (As := [.ref (adx 1), .ref (adx 4)]) (rest := []) Fx0 (c_X10_copies l hLx hAd m2 1 (by decide) (by decide) 4 (by decide) (by decide) z9) hP (hD1 _ (hAd _ _)) hS (hA1 _ _ (hAd _ _) hS.1) tw_7_150 tw_7_148 tw_7_149 tw_1_13 yd_X10_copies ⟨(Nat.le_of_ble_eq_true rfl), (Nat.le_of_ble_eq_true rfl)⟩ rfl hl.1 rfl (Nat.le_of_ble_eq_true rfl) dX10_saveSnapshot_29 (fun H locs hP hS => ?_)
      refine lv_aload_n hx hb dX10_saveSnapshot_32 rfl (lv_at hl 0 rfl) ?_
      refine rg  hx hb hT hu10 hown hK hP hLx 0 5 (Nat.le_of_ble_eq_true rfl) (xs0 _ _) rfl (Nat.le_of_ble_eq_true rfl) (Fx0.T tw_6_220) rfl (v := .ref (adx 6)) rfl dX10_saveSnapshot_33 ?_
      refine lv_iload_n hx hb dX10_saveSnapshot_36 rfl (lv_at hl 1 rfl) ?_
      refine lv_iconst (v := (1 : Int32)) hx hb dX10_saveSnapshot_37 (by decide) ?_
      obtain ⟨h10, hD⟩ := gd_el hD
      obtain ⟨m11, em11, hD⟩ := bnd_el hD
      refine rzast  hx hb hK hP (hD1 _ (hAd _ _)) hS hLx 6 (Nat.le_of_ble_eq_true rfl) (fun _ => xs6 _ _) h10 rfl dX10_saveSnapshot_38 em11 (fun H locs hP hS => ?_)
      refine lv_aload_n hx hb dX10_saveSnapshot_39 rfl (lv_at hl 0 rfl) ?_
      refine rg  hx hb hT hu10 hown hK hP hLx 0 0 (Nat.le_of_ble_eq_true rfl) (xs0 _ _) rfl (Nat.le_of_ble_eq_true rfl) (Fx0.T tw_6_215) rfl (v := .ref (adx 1)) rfl dX10_saveSnapshot_40 ?_
      refine lv_bipush (v := (23 : Int32)) hx hb dX10_saveSnapshot_43 (by decide) ?_
      refine riald  hx hb hK hP hLx 1 (Nat.le_of_ble_eq_true rfl) (xs1 _ _) (by decide) (j := 23) (by decide) dX10_saveSnapshot_45 ?_
      obtain ⟨rfl, rfl⟩ := es2 hD
      exact hret _ _ _ hP hS (fun Qc hq => W.iret hx hb hr hq hS.2.2 dX10_saveSnapshot_46 hlocks)
  · have hD := ifn hD c
    refine lv_iconst (v := (0 : Int32)) hx hb dX10_saveSnapshot_8 (by decide) ?_
    obtain ⟨rfl, rfl⟩ := es2 hD
    exact hret _ _ _ hP hS (fun Qc hq => W.iret hx hb hr hq hS.2.2 dX10_saveSnapshot_9 hlocks)

noncomputable def D_X10_restoreSnapshot (x1 : Int32) (x : MM) : Option (Int32 × MM) := b2 (D_X10_noSlot x1 x) (fun v1 m2 => if v1 = 0 then (if x1 < 0 ∨ 2 ≤ x1.toNatClampNeg then none else (if (gi m2 6 x1.toNatClampNeg) = 0 then (some ((-1 : Int32), m2)) else (if x1 = 0 then (b1 (D_X10_copies 4 1 m2) (fun m7 => some ((gi m7 1 23), m7))) else (b1 (D_X10_copies 5 1 m2) (fun m5 => some ((gi m5 1 23), m5)))))) else (some ((0 : Int32), m2)))
set_option maxHeartbeats 4000000 in
set_option maxRecDepth 100000 in
theorem c_X10_restoreSnapshot (l : Launch) {D : va_G} {cs : Nat → ClassId} {adx : Nat → Nat} {Wf : MM → va_W} (hLx : Ln 9 adx (xsh cs adx) Wf) (hAd : ∀ a0_ b0_ : MM, (Wf a0_).map (fun q => q.1) = (Wf b0_).map (fun q => q.1)) (x : MM) (x1 : Int32) {rr : Int32} {x' : MM} (hD : D_X10_restoreSnapshot x1 x = some (rr, x')) : Ct l yX10_restoreSnapshot cX10_restoreSnapshot 2 (some .int) 2 46 D cs [.ref (adx 0), .int x1] (Wf x) (Wf x') (some (.int rr)) := by
  refine Ct.ofW (by decide) (Nat.le_of_ble_eq_true rfl) (hAd _ _) ?_
  intro p e s m0 below meth c A Q ls args hx hb hr hml hlocks hown hts hK hP hD1 hSS hS hA1 hl hret
  have hT : ∀ w ∈ TBL, w.before args s = true := fun w h => hts w (List.mem_cons_of_mem _ h)
  have Fx0 : Fx p l m0 c cX10_restoreSnapshot 2 s args yX10_restoreSnapshot cX10_restoreSnapshot 2 (some .int) D cs A := ⟨hx, hb, hml, hown, hts, hK, hSS⟩
  have hown : s.vm.findClass RX10 = some m0.cls := hown
  have hl : lv_has ls 2 [(0, .ref (adx 0)), (1, .int x1)] := hl
  unfold D_X10_restoreSnapshot at hD
  refine lv_aload_n hx hb dX10_restoreSnapshot_0 rfl (lv_at hl 0 rfl) ?_
  refine lv_iload_n hx hb dX10_restoreSnapshot_1 rfl (lv_at hl 1 rfl) ?_
  obtain ⟨v1, m2, z3, hD⟩ := b2_el hD
  refine rcV  (As := [.int x1]) (rest := []) Fx0 (c_X10_noSlot l hLx hAd x x1 z3) hP (hD1 _ (hAd _ _)) hS (hA1 _ _ (hAd _ _) hS.1) hLx (Nat.le_of_ble_eq_true rfl) (xs0 _ _) rfl tw_9_168 tw_9_165 tw_9_167 ts_164 tw_1_13 yd_X10_noSlot ⟨(Nat.le_of_ble_eq_true rfl), (Nat.le_of_ble_eq_true rfl)⟩ rfl hl.1 rfl (Nat.le_of_ble_eq_true rfl) dX10_restoreSnapshot_2 (fun H locs hP hS => ?_)
  refine lv_if_eq (tgt := 10) hx hb dX10_restoreSnapshot_5 (by decide) (fun c => ?_) (fun c => ?_)
  · have hD := ifp hD c
    refine lv_aload_n hx hb dX10_restoreSnapshot_10 rfl (lv_at hl 0 rfl) ?_
    refine rg  hx hb hT hu10 hown hK hP hLx 0 5 (Nat.le_of_ble_eq_true rfl) (xs0 _ _) rfl (Nat.le_of_ble_eq_true rfl) (Fx0.T tw_6_220) rfl (v := .ref (adx 6)) rfl dX10_restoreSnapshot_11 ?_
    refine lv_iload_n hx hb dX10_restoreSnapshot_14 rfl (lv_at hl 1 rfl) ?_
    obtain ⟨h4, hD⟩ := gd_el hD
    refine rzald  hx hb hK hP hLx 6 (Nat.le_of_ble_eq_true rfl) (xs6 _ _) h4 rfl dX10_restoreSnapshot_15 ?_
    refine lv_if_ne (tgt := 21) hx hb dX10_restoreSnapshot_16 (by decide) (fun c => ?_) (fun c => ?_)
    · have hD := ifn hD c
      refine lv_iload_n hx hb dX10_restoreSnapshot_21 rfl (lv_at hl 1 rfl) ?_
      refine lv_if_ne (tgt := 32) hx hb dX10_restoreSnapshot_22 (by decide) (fun c => ?_) (fun c => ?_)
      · have hD := ifn hD c
        refine lv_aload_n hx hb dX10_restoreSnapshot_32 rfl (lv_at hl 0 rfl) ?_
        refine rg  hx hb hT hu10 hown hK hP hLx 0 4 (Nat.le_of_ble_eq_true rfl) (xs0 _ _) rfl (Nat.le_of_ble_eq_true rfl) (Fx0.T tw_6_219) rfl (v := .ref (adx 5)) rfl dX10_restoreSnapshot_33 ?_
        refine lv_aload_n hx hb dX10_restoreSnapshot_36 rfl (lv_at hl 0 rfl) ?_
        refine rg  hx hb hT hu10 hown hK hP hLx 0 0 (Nat.le_of_ble_eq_true rfl) (xs0 _ _) rfl (Nat.le_of_ble_eq_true rfl) (Fx0.T tw_6_215) rfl (v := .ref (adx 1)) rfl dX10_restoreSnapshot_37 ?_
        obtain ⟨m5, z6, hD⟩ := b1_el hD
        refine rcS (As := [.ref (adx 5), .ref (adx 1)]) (rest := []) Fx0 (c_X10_copies l hLx hAd m2 5 (by decide) (by decide) 1 (by decide) (by decide) z6) hP (hD1 _ (hAd _ _)) hS (hA1 _ _ (hAd _ _) hS.1) tw_7_150 tw_7_148 tw_7_149 tw_1_13 yd_X10_copies ⟨(Nat.le_of_ble_eq_true rfl), (Nat.le_of_ble_eq_true rfl)⟩ rfl hl.1 rfl (Nat.le_of_ble_eq_true rfl) dX10_restoreSnapshot_40 (fun H locs hP hS => ?_)
        refine lv_aload_n hx hb dX10_restoreSnapshot_43 rfl (lv_at hl 0 rfl) ?_
        refine rg  hx hb hT hu10 hown hK hP hLx 0 0 (Nat.le_of_ble_eq_true rfl) (xs0 _ _) rfl (Nat.le_of_ble_eq_true rfl) (Fx0.T tw_6_215) rfl (v := .ref (adx 1)) rfl dX10_restoreSnapshot_44 ?_
        refine lv_bipush (v := (23 : Int32)) hx hb dX10_restoreSnapshot_47 (by decide) ?_
        refine riald  hx hb hK hP hLx 1 (Nat.le_of_ble_eq_true rfl) (xs1 _ _) (by decide) (j := 23) (by decide) dX10_restoreSnapshot_49 ?_
        obtain ⟨rfl, rfl⟩ := es2 hD
        exact hret _ _ _ hP hS (fun Qc hq => W.iret hx hb hr hq hS.2.2 dX10_restoreSnapshot_50 hlocks)
      · have hD := ifp hD c
        refine lv_aload_n hx hb dX10_restoreSnapshot_25 rfl (lv_at hl 0 rfl) ?_
        refine rg  hx hb hT hu10 hown hK hP hLx 0 3 (Nat.le_of_ble_eq_true rfl) (xs0 _ _) rfl (Nat.le_of_ble_eq_true rfl) (Fx0.T tw_6_218) rfl (v := .ref (adx 4)) rfl dX10_restoreSnapshot_26 ?_
        refine lv_goto (tgt := 36) hx hb dX10_restoreSnapshot_29 (by decide) ?_
        refine lv_aload_n hx hb dX10_restoreSnapshot_36 rfl (lv_at hl 0 rfl) ?_
        refine rg  hx hb hT hu10 hown hK hP hLx 0 0 (Nat.le_of_ble_eq_true rfl) (xs0 _ _) rfl (Nat.le_of_ble_eq_true rfl) (Fx0.T tw_6_215) rfl (v := .ref (adx 1)) rfl dX10_restoreSnapshot_37 ?_
        obtain ⟨m7, z8, hD⟩ := b1_el hD
        refine rcS (As := [.ref (adx 4), .ref (adx 1)]) (rest := []) Fx0 (c_X10_copies l hLx hAd m2 4 (by decide) (by decide) 1 (by decide) (by decide) z8) hP (hD1 _ (hAd _ _)) hS (hA1 _ _ (hAd _ _) hS.1) tw_7_150 tw_7_148 tw_7_149 tw_1_13 yd_X10_copies ⟨(Nat.le_of_ble_eq_true rfl), (Nat.le_of_ble_eq_true rfl)⟩ rfl hl.1 rfl (Nat.le_of_ble_eq_true rfl) dX10_restoreSnapshot_40 (fun H locs hP hS => ?_)
        refine lv_aload_n hx hb dX10_restoreSnapshot_43 rfl (lv_at hl 0 rfl) ?_
        refine rg  hx hb hT hu10 hown hK hP hLx 0 0 (Nat.le_of_ble_eq_true rfl) (xs0 _ _) rfl (Nat.le_of_ble_eq_true rfl) (Fx0.T tw_6_215) rfl (v := .ref (adx 1)) rfl dX10_restoreSnapshot_44 ?_
        refine lv_bipush (v := (23 : Int32)) hx hb dX10_restoreSnapshot_47 (by decide) ?_
        refine riald  hx hb hK hP hLx 1 (Nat.le_of_ble_eq_true rfl) (xs1 _ _) (by decide) (j := 23) (by decide) dX10_restoreSnapshot_49 ?_
        obtain ⟨rfl, rfl⟩ := es2 hD
        exact hret _ _ _ hP hS (fun Qc hq => W.iret hx hb hr hq hS.2.2 dX10_restoreSnapshot_50 hlocks)
    · have hD := ifp hD c
      refine lv_iconst (v := (-1 : Int32)) hx hb dX10_restoreSnapshot_19 (by decide) ?_
      obtain ⟨rfl, rfl⟩ := es2 hD
      exact hret _ _ _ hP hS (fun Qc hq => W.iret hx hb hr hq hS.2.2 dX10_restoreSnapshot_20 hlocks)
  · have hD := ifn hD c
    refine lv_iconst (v := (0 : Int32)) hx hb dX10_restoreSnapshot_8 (by decide) ?_
    obtain ⟨rfl, rfl⟩ := es2 hD
    exact hret _ _ _ hP hS (fun Qc hq => W.iret hx hb hr hq hS.2.2 dX10_restoreSnapshot_9 hlocks)
