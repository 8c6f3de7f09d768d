/-! the methods of one machine -/
noncomputable def D_X4_note (x1 : Int32) (x2 : Int32) (x3 : Int32) (m : MM) : Option MM := bnd ((((gi m 45 1) + (gi m 45 0)) - ((gi m 45 1) + (gi m 45 0)) / (40 : Int32) * (40 : Int32))) (fun v1 => if v1 < 0 ∨ 40 ≤ v1.toNatClampNeg then none else (bnd (si m 46 v1.toNatClampNeg x1) (fun m3 => if v1 < 0 ∨ 40 ≤ v1.toNatClampNeg then none else (bnd (si m3 47 v1.toNatClampNeg x2) (fun m5 => if v1 < 0 ∨ 40 ≤ v1.toNatClampNeg then none else (bnd (si m5 48 v1.toNatClampNeg x3) (fun m7 => if (40 : Int32) ≤ (gi m7 45 0) then (bnd (si m7 45 1 (((gi m7 45 1) + (1 : Int32)) - ((gi m7 45 1) + (1 : Int32)) / (40 : Int32) * (40 : Int32))) (fun m8 => some (m8))) else (bnd (si m7 45 0 ((gi m7 45 0) + (1 : Int32))) (fun m9 => some (m9))))))))))
set_option maxHeartbeats 4000000 in
set_option maxRecDepth 100000 in
theorem c_X4_note (l : Launch) {D : va_G} {cs : Nat → ClassId} {ad : Nat → Nat} {Wf : MM → va_W} (hL : Ln 51 ad (msh cs ad) Wf) (hAd : ∀ a0_ b0_ : MM, (Wf a0_).map (fun q => q.1) = (Wf b0_).map (fun q => q.1)) (m : MM) (x1 : Int32) (x2 : Int32) (x3 : Int32) {m' : MM} (hD : D_X4_note x1 x2 x3 m = some (m')) : Ct l yX4_note cX4_note 5 none 0 0 D cs [.ref (ad 45), .int x1, .int x2, .int x3] (Wf m) (Wf m') (none) := by
  refine Ct.ofW (by decide) (Nat.le_of_ble_eq_true rfl) (hAd _ _) ?_
  intro p e s m0 below meth c A Q ls args hx hb hr hml hlocks hown hts hK hP hD1 hSS hS hA1 hl hret
  have hT : ∀ w ∈ TBL, w.before args s = true := fun w h => hts w (List.mem_cons_of_mem _ h)
  have Fx0 : Fx p l m0 c cX4_note 5 s args yX4_note cX4_note 5 none D cs A := ⟨hx, hb, hml, hown, hts, hK, hSS⟩
  have hown : s.vm.findClass RX4 = some m0.cls := hown
  have hl : lv_has ls 5 [(0, .ref (ad 45)), (1, .int x1), (2, .int x2), (3, .int x3)] := hl
  unfold D_X4_note at hD
  refine lv_aload_n hx hb dX4_note_0 rfl (lv_at hl 0 rfl) ?_
  refine rg  hx hb hT hu4 hown hK hP hL 45 1 (Nat.le_of_ble_eq_true rfl) (ms45 _ _) rfl (Nat.le_of_ble_eq_true rfl) (Fx0.T tw_1_154) rfl (v := .int (gi m 45 1)) rfl dX4_note_1 ?_
  refine lv_aload_n hx hb dX4_note_4 rfl (lv_at hl 0 rfl) ?_
  refine rg  hx hb hT hu4 hown hK hP hL 45 0 (Nat.le_of_ble_eq_true rfl) (ms45 _ _) rfl (Nat.le_of_ble_eq_true rfl) (Fx0.T tw_1_152) rfl (v := .int (gi m 45 0)) rfl dX4_note_5 ?_
  refine lv_iadd hx hb dX4_note_8 ?_
  refine lv_bipush (v := (40 : Int32)) hx hb dX4_note_9 (by decide) ?_
  refine lv_irem hx hb dX4_note_11 (by decide) ?_
  obtain ⟨v1, ev1, hD⟩ := bnd_el hD
  refine lv_nmi ev1 ?_
  refine lv_istore (lv' := [(4, .int v1), (0, .ref (ad 45)), (1, .int x1), (2, .int x2), (3, .int x3)]) hx hb dX4_note_12 hl (by decide) rfl (fun ls hl => ?_)
  refine lv_aload_n hx hb dX4_note_14 rfl (lv_at hl 1 rfl) ?_
  refine rg  hx hb hT hu4 hown hK hP hL 45 2 (Nat.le_of_ble_eq_true rfl) (ms45 _ _) rfl (Nat.le_of_ble_eq_true rfl) (Fx0.T tw_1_155) rfl (v := .ref (ad 46)) rfl dX4_note_15 ?_
  refine lv_iload hx hb dX4_note_18 (lv_at hl 0 rfl) ?_
  refine lv_iload_n hx hb dX4_note_20 rfl (lv_at hl 2 rfl) ?_
  obtain ⟨h2, hD⟩ := gd_el hD
  obtain ⟨m3, em3, hD⟩ := bnd_el hD
  refine riast  hx hb hK hP (hD1 _ (hAd _ _)) hS hL 46 (Nat.le_of_ble_eq_true rfl) (fun _ => ms46 _ _) h2 rfl dX4_note_21 em3 (fun H locs hP hS => ?_)
  refine lv_aload_n hx hb dX4_note_22 rfl (lv_at hl 1 rfl) ?_
  refine rg  hx hb hT hu4 hown hK hP hL 45 3 (Nat.le_of_ble_eq_true rfl) (ms45 _ _) rfl (Nat.le_of_ble_eq_true rfl) (Fx0.T tw_1_156) rfl (v := .ref (ad 47)) rfl dX4_note_23 ?_
  refine lv_iload hx hb dX4_note_26 (lv_at hl 0 rfl) ?_
  refine lv_iload_n hx hb dX4_note_28 rfl (lv_at hl 3 rfl) ?_
  obtain ⟨h4, hD⟩ := gd_el hD
  obtain ⟨m5, em5, hD⟩ := bnd_el hD
  refine riast  hx hb hK hP (hD1 _ (hAd _ _)) hS hL 47 (Nat.le_of_ble_eq_true rfl) (fun _ => ms47 _ _) h4 rfl dX4_note_29 em5 (fun H locs hP hS => ?_)
  refine lv_aload_n hx hb dX4_note_30 rfl (lv_at hl 1 rfl) ?_
  refine rg  hx hb hT hu4 hown hK hP hL 45 4 (Nat.le_of_ble_eq_true rfl) (ms45 _ _) rfl (Nat.le_of_ble_eq_true rfl) (Fx0.T tw_1_157) rfl (v := .ref (ad 48)) rfl dX4_note_31 ?_
  refine lv_iload hx hb dX4_note_34 (lv_at hl 0 rfl) ?_
  refine lv_iload_n hx hb dX4_note_36 rfl (lv_at hl 4 rfl) ?_
  obtain ⟨h6, hD⟩ := gd_el hD
  obtain ⟨m7, em7, hD⟩ := bnd_el hD
  refine riast  hx hb hK hP (hD1 _ (hAd _ _)) hS hL 48 (Nat.le_of_ble_eq_true rfl) (fun _ => ms48 _ _) h6 rfl dX4_note_37 em7 (fun H locs hP hS => ?_)
  refine lv_aload_n hx hb dX4_note_38 rfl (lv_at hl 1 rfl) ?_
  refine rg  hx hb hT hu4 hown hK hP hL 45 0 (Nat.le_of_ble_eq_true rfl) (ms45 _ _) rfl (Nat.le_of_ble_eq_true rfl) (Fx0.T tw_1_152) rfl (v := .int (gi m7 45 0)) rfl dX4_note_39 ?_
  refine lv_bipush (v := (40 : Int32)) hx hb dX4_note_42 (by decide) ?_
  refine lv_icmp_ge (tgt := 60) hx hb dX4_note_44 (by decide) (fun c => ?_) (fun c => ?_)
  · have hD := ifp hD c
    refine lv_aload_n hx hb dX4_note_60 rfl (lv_at hl 1 rfl) ?_
    refine lv_aload_n hx hb dX4_note_61 rfl (lv_at hl 1 rfl) ?_
    refine rg  hx hb hT hu4 hown hK hP hL 45 1 (Nat.le_of_ble_eq_true rfl) (ms45 _ _) rfl (Nat.le_of_ble_eq_true rfl) (Fx0.T tw_1_154) rfl (v := .int (gi m7 45 1)) rfl dX4_note_62 ?_
    refine lv_iconst (v := (1 : Int32)) hx hb dX4_note_65 (by decide) ?_
    refine lv_iadd hx hb dX4_note_66 ?_
    refine lv_bipush (v := (40 : Int32)) hx hb dX4_note_67 (by decide) ?_
    refine lv_irem hx hb dX4_note_69 (by decide) ?_
    obtain ⟨m8, em8, hD⟩ := bnd_el hD
    refine rp  hx hb hT hu4 tyX4_ok nmX4 hown hK hP (hD1 _ (hAd _ _)) hS hL 45 1 (Nat.le_of_ble_eq_true rfl) (ms45 _ _) (ms45 _ _) rfl (Nat.le_of_ble_eq_true rfl) (Fx0.T tw_1_154) rfl rfl rfl rfl (Nat.le_of_ble_eq_true rfl) dX4_note_70 em8 (fun H locs hP hS => ?_)
    cases hD
    exact hret _ _ _ hP hS (fun Qc hq => W.vret hx hb hr hq hS.2.2 dX4_note_73 hlocks)
  · have hD := ifn hD c
    refine lv_aload_n hx hb dX4_note_47 rfl (lv_at hl 1 rfl) ?_
    refine lv_dup hx hb dX4_note_48 rfl ?_
    refine rg  hx hb hT hu4 hown hK hP hL 45 0 (Nat.le_of_ble_eq_true rfl) (ms45 _ _) rfl (Nat.le_of_ble_eq_true rfl) (Fx0.T tw_1_152) rfl (v := .int (gi m7 45 0)) rfl dX4_note_49 ?_
    refine lv_iconst (v := (1 : Int32)) hx hb dX4_note_52 (by decide) ?_
    refine lv_iadd hx hb dX4_note_53 ?_
    obtain ⟨m9, em9, hD⟩ := bnd_el hD
    refine rp  hx hb hT hu4 tyX4_ok nmX4 hown hK hP (hD1 _ (hAd _ _)) hS hL 45 0 (Nat.le_of_ble_eq_true rfl) (ms45 _ _) (ms45 _ _) rfl (Nat.le_of_ble_eq_true rfl) (Fx0.T tw_1_152) rfl rfl rfl rfl (Nat.le_of_ble_eq_true rfl) dX4_note_54 em9 (fun H locs hP hS => ?_)
    refine lv_goto (tgt := 73) hx hb dX4_note_57 (by decide) ?_
    cases hD
    exact hret _ _ _ hP hS (fun Qc hq => W.vret hx hb hr hq hS.2.2 dX4_note_73 hlocks)

noncomputable def D_X4_entry (x1 : Int32) (x2 : Int32) (m : MM) : Option Int32 := bnd ((((gi m 45 1) + x1) - ((gi m 45 1) + x1) / (40 : Int32) * (40 : Int32))) (fun v1 => if x2 = 0 then (if v1 < 0 ∨ 40 ≤ v1.toNatClampNeg then none else (some ((gi m 46 v1.toNatClampNeg)))) else (if x2 = (1 : Int32) then (if v1 < 0 ∨ 40 ≤ v1.toNatClampNeg then none else (some ((gi m 47 v1.toNatClampNeg)))) else (if v1 < 0 ∨ 40 ≤ v1.toNatClampNeg then none else (some ((gi m 48 v1.toNatClampNeg))))))
set_option maxHeartbeats 4000000 in
set_option maxRecDepth 100000 in
theorem c_X4_entry (l : Launch) {D : va_G} {cs : Nat → ClassId} {ad : Nat → Nat} {Wf : MM → va_W} (hL : Ln 51 ad (msh cs ad) Wf) (hAd : ∀ a0_ b0_ : MM, (Wf a0_).map (fun q => q.1) = (Wf b0_).map (fun q => q.1)) (m : MM) (x1 : Int32) (x2 : Int32) {rr : Int32} (hD : D_X4_entry x1 x2 m = some (rr)) : Ct l yX4_entry cX4_entry 4 (some .int) 0 0 D cs [.ref (ad 45), .int x1, .int x2] (Wf m) (Wf m) (some (.int rr)) := by
  refine Ct.ofW (by decide) (Nat.le_of_ble_eq_true rfl) rfl ?_
  intro p e s m0 below meth c A Q ls args hx hb hr hml hlocks hown hts hK hP hD1 hSS hS hA1 hl hret
  have hT : ∀ w ∈ TBL, w.before args s = true := fun w h => hts w (List.mem_cons_of_mem _ h)
  have Fx0 : Fx p l m0 c cX4_entry 4 s args yX4_entry cX4_entry 4 (some .int) D cs A := ⟨hx, hb, hml, hown, hts, hK, hSS⟩
  have hown : s.vm.findClass RX4 = some m0.cls := hown
  have hl : lv_has ls 4 [(0, .ref (ad 45)), (1, .int x1), (2, .int x2)] := hl
  unfold D_X4_entry at hD
  refine lv_aload_n hx hb dX4_entry_0 rfl (lv_at hl 0 rfl) ?_
  refine rg  hx hb hT hu4 hown hK hP hL 45 1 (Nat.le_of_ble_eq_true rfl) (ms45 _ _) rfl (Nat.le_of_ble_eq_true rfl) (Fx0.T tw_1_154) rfl (v := .int (gi m 45 1)) rfl dX4_entry_1 ?_
  refine lv_iload_n hx hb dX4_entry_4 rfl (lv_at hl 1 rfl) ?_
  refine lv_iadd hx hb dX4_entry_5 ?_
  refine lv_bipush (v := (40 : Int32)) hx hb dX4_entry_6 (by decide) ?_
  refine lv_irem hx hb dX4_entry_8 (by decide) ?_
  obtain ⟨v1, ev1, hD⟩ := bnd_el hD
  refine lv_nmi ev1 ?_
  refine lv_istore_n (lv' := [(3, .int v1), (0, .ref (ad 45)), (1, .int x1), (2, .int x2)]) hx hb dX4_entry_9 rfl hl (by decide) rfl (fun ls hl => ?_)
  refine lv_iload_n hx hb dX4_entry_10 rfl (lv_at hl 3 rfl) ?_
  refine lv_if_ne (tgt := 23) hx hb dX4_entry_11 (by decide) (fun c => ?_) (fun c => ?_)
  · have hD := ifn hD c
    refine lv_iload_n hx hb dX4_entry_23 rfl (lv_at hl 3 rfl) ?_
    refine lv_iconst (v := (1 : Int32)) hx hb dX4_entry_24 (by decide) ?_
    refine lv_icmp_ne (tgt := 37) hx hb dX4_entry_25 (by decide) (fun c => ?_) (fun c => ?_)
    · have hD := ifn hD c
      refine lv_aload_n hx hb dX4_entry_37 rfl (lv_at hl 1 rfl) ?_
      refine rg  hx hb hT hu4 hown hK hP hL 45 4 (Nat.le_of_ble_eq_true rfl) (ms45 _ _) rfl (Nat.le_of_ble_eq_true rfl) (Fx0.T tw_1_157) rfl (v := .ref (ad 48)) rfl dX4_entry_38 ?_
      refine lv_iload_n hx hb dX4_entry_41 rfl (lv_at hl 0 rfl) ?_
      obtain ⟨h2, hD⟩ := gd_el hD
      refine riald  hx hb hK hP hL 48 (Nat.le_of_ble_eq_true rfl) (ms48 _ _) h2 rfl dX4_entry_42 ?_
      cases hD
      exact hret _ _ _ hP hS (fun Qc hq => W.iret hx hb hr hq hS.2.2 dX4_entry_43 hlocks)
    · have hD := ifp hD c
      refine lv_aload_n hx hb dX4_entry_28 rfl (lv_at hl 1 rfl) ?_
      refine rg  hx hb hT hu4 hown hK hP hL 45 3 (Nat.le_of_ble_eq_true rfl) (ms45 _ _) rfl (Nat.le_of_ble_eq_true rfl) (Fx0.T tw_1_156) rfl (v := .ref (ad 47)) rfl dX4_entry_29 ?_
      refine lv_iload_n hx hb dX4_entry_32 rfl (lv_at hl 0 rfl) ?_
      obtain ⟨h3, hD⟩ := gd_el hD
      refine riald  hx hb hK hP hL 47 (Nat.le_of_ble_eq_true rfl) (ms47 _ _) h3 rfl dX4_entry_33 ?_
      refine lv_goto (tgt := 43) hx hb dX4_entry_34 (by decide) ?_
      cases hD
      exact hret _ _ _ hP hS (fun Qc hq => W.iret hx hb hr hq hS.2.2 dX4_entry_43 hlocks)
  · have hD := ifp hD c
    refine lv_aload_n hx hb dX4_entry_14 rfl (lv_at hl 1 rfl) ?_
    refine rg  hx hb hT hu4 hown hK hP hL 45 2 (Nat.le_of_ble_eq_true rfl) (ms45 _ _) rfl (Nat.le_of_ble_eq_true rfl) (Fx0.T tw_1_155) rfl (v := .ref (ad 46)) rfl dX4_entry_15 ?_
    refine lv_iload_n hx hb dX4_entry_18 rfl (lv_at hl 0 rfl) ?_
    obtain ⟨h4, hD⟩ := gd_el hD
    refine riald  hx hb hK hP hL 46 (Nat.le_of_ble_eq_true rfl) (ms46 _ _) h4 rfl dX4_entry_19 ?_
    refine lv_goto (tgt := 43) hx hb dX4_entry_20 (by decide) ?_
    cases hD
    exact hret _ _ _ hP hS (fun Qc hq => W.iret hx hb hr hq hS.2.2 dX4_entry_43 hlocks)

noncomputable def D_X5_add (x1 : Int32) (m : MM) : Option MM := if (8 : Int32) ≤ (gi m 28 0) then (some (m)) else (if (gi m 28 0) < 0 ∨ 8 ≤ (gi m 28 0).toNatClampNeg then none else (bnd (si m 29 ((gi m 28 0).toNatClampNeg) x1) (fun m2 => bnd (si m2 28 0 ((gi m2 28 0) + (1 : Int32))) (fun m3 => some (m3)))))
set_option maxHeartbeats 4000000 in
set_option maxRecDepth 100000 in
theorem c_X5_add (l : Launch) {D : va_G} {cs : Nat → ClassId} {ad : Nat → Nat} {Wf : MM → va_W} (hL : Ln 51 ad (msh cs ad) Wf) (hAd : ∀ a0_ b0_ : MM, (Wf a0_).map (fun q => q.1) = (Wf b0_).map (fun q => q.1)) (m : MM) (x1 : Int32) {m' : MM} (hD : D_X5_add x1 m = some (m')) : Ct l yX5_add cX5_add 2 none 0 0 D cs [.ref (ad 28), .int x1] (Wf m) (Wf m') (none) := by
  refine Ct.ofW (by decide) (Nat.le_of_ble_eq_true rfl) (hAd _ _) ?_
  intro p e s m0 below meth c A Q ls args hx hb hr hml hlocks hown hts hK hP hD1 hSS hS hA1 hl hret
  have hT : ∀ w ∈ TBL, w.before args s = true := fun w h => hts w (List.mem_cons_of_mem _ h)
  have Fx0 : Fx p l m0 c cX5_add 2 s args yX5_add cX5_add 2 none D cs A := ⟨hx, hb, hml, hown, hts, hK, hSS⟩
  have hown : s.vm.findClass RX5 = some m0.cls := hown
  have hl : lv_has ls 2 [(0, .ref (ad 28)), (1, .int x1)] := hl
  unfold D_X5_add at hD
  refine lv_aload_n hx hb dX5_add_0 rfl (lv_at hl 0 rfl) ?_
  refine rg  hx hb hT hu5 hown hK hP hL 28 0 (Nat.le_of_ble_eq_true rfl) (ms28 _ _) rfl (Nat.le_of_ble_eq_true rfl) (Fx0.T tw_1_51) rfl (v := .int (gi m 28 0)) rfl dX5_add_1 ?_
  refine lv_bipush (v := (8 : Int32)) hx hb dX5_add_4 (by decide) ?_
  refine lv_icmp_ge (tgt := 29) hx hb dX5_add_6 (by decide) (fun c => ?_) (fun c => ?_)
  · have hD := ifp hD c
    cases hD
    exact hret _ _ _ hP hS (fun Qc hq => W.vret hx hb hr hq hS.2.2 dX5_add_29 hlocks)
  · have hD := ifn hD c
    refine lv_aload_n hx hb dX5_add_9 rfl (lv_at hl 0 rfl) ?_
    refine rg  hx hb hT hu5 hown hK hP hL 28 1 (Nat.le_of_ble_eq_true rfl) (ms28 _ _) rfl (Nat.le_of_ble_eq_true rfl) (Fx0.T tw_1_55) rfl (v := .ref (ad 29)) rfl dX5_add_10 ?_
    refine lv_aload_n hx hb dX5_add_13 rfl (lv_at hl 0 rfl) ?_
    refine rg  hx hb hT hu5 hown hK hP hL 28 0 (Nat.le_of_ble_eq_true rfl) (ms28 _ _) rfl (Nat.le_of_ble_eq_true rfl) (Fx0.T tw_1_51) rfl (v := .int (gi m 28 0)) rfl dX5_add_14 ?_
    refine lv_iload_n hx hb dX5_add_17 rfl (lv_at hl 1 rfl) ?_
    obtain ⟨h1, hD⟩ := gd_el hD
    obtain ⟨m2, em2, hD⟩ := bnd_el hD
    refine riast  hx hb hK hP (hD1 _ (hAd _ _)) hS hL 29 (Nat.le_of_ble_eq_true rfl) (fun _ => ms29 _ _) h1 rfl dX5_add_18 em2 (fun H locs hP hS => ?_)
    refine lv_aload_n hx hb dX5_add_19 rfl (lv_at hl 0 rfl) ?_
    refine lv_dup hx hb dX5_add_20 rfl ?_
    refine rg  hx hb hT hu5 hown hK hP hL 28 0 (Nat.le_of_ble_eq_true rfl) (ms28 _ _) rfl (Nat.le_of_ble_eq_true rfl) (Fx0.T tw_1_51) rfl (v := .int (gi m2 28 0)) rfl dX5_add_21 ?_
    refine lv_iconst (v := (1 : Int32)) hx hb dX5_add_24 (by decide) ?_
    refine lv_iadd hx hb dX5_add_25 ?_
    obtain ⟨m3, em3, hD⟩ := bnd_el hD
    refine rp  hx hb hT hu5 tyX5_ok nmX5 hown hK hP (hD1 _ (hAd _ _)) hS hL 28 0 (Nat.le_of_ble_eq_true rfl) (ms28 _ _) (ms28 _ _) rfl (Nat.le_of_ble_eq_true rfl) (Fx0.T tw_1_51) rfl rfl rfl rfl (Nat.le_of_ble_eq_true rfl) dX5_add_26 em3 (fun H locs hP hS => ?_)
    cases hD
    exact hret _ _ _ hP hS (fun Qc hq => W.vret hx hb hr hq hS.2.2 dX5_add_29 hlocks)
