/-! the methods of one machine -/
noncomputable def D_X8_dropPart (q0 : Nat) (m : MM) : Option MM := bnd (si m q0 1 (-1 : Int32)) (fun m1 => bnd (si m1 q0 2 (0 : Int32)) (fun m2 => bnd (si m2 q0 3 (0 : Int32)) (fun m3 => some (m3))))
set_option maxHeartbeats 4000000 in
set_option maxRecDepth 100000 in
theorem c_X8_dropPart (l : Launch) {D : va_G} {cs : Nat → ClassId} {ad : Nat → Nat} {Wf : MM → va_W} (hL : Ln 51 ad (msh cs ad) Wf) (hAd : ∀ a0_ b0_ : MM, (Wf a0_).map (fun q => q.1) = (Wf b0_).map (fun q => q.1)) (m : MM) (q0 : Nat) (haq0 : q0 < 4) {m' : MM} (hD : D_X8_dropPart q0 m = some (m')) : Ct l yX8_dropPart cX8_dropPart 1 none 0 0 D cs [.ref (ad q0)] (Wf m) (Wf m') (none) := by
  refine Ct.ofW (by decide) (Nat.le_of_ble_eq_true rfl) (hAd _ _) ?_
  intro p e s m0 below meth c A Q ls args hx hb hr hml hlocks hown hts hK hP hD1 hSS hS hA1 hl hret
  have hT : ∀ w ∈ TBL, w.before args s = true := fun w h => hts w (List.mem_cons_of_mem _ h)
  have Fx0 : Fx p l m0 c cX8_dropPart 1 s args yX8_dropPart cX8_dropPart 1 none D cs A := ⟨hx, hb, hml, hown, hts, hK, hSS⟩
  have hown : s.vm.findClass RX8 = some m0.cls := hown
  have hl : lv_has ls 1 [(0, .ref (ad q0))] := hl
  unfold D_X8_dropPart at hD
  refine lv_aload_n hx hb dX8_dropPart_0 rfl (lv_at hl 0 rfl) ?_
  refine lv_iconst (v := (-1 : Int32)) hx hb dX8_dropPart_1 (by decide) ?_
  obtain ⟨m1, em1, hD⟩ := bnd_el hD
  refine rp  hx hb hT hu8 tyX8_ok nmX8 hown hK hP (hD1 _ (hAd _ _)) hS hL q0 1 (Nat.lt_of_lt_of_le haq0 (Nat.le_of_ble_eq_true rfl)) ((msp haq0) _ _) ((msp haq0) _ _) rfl (Nat.le_of_ble_eq_true rfl) (Fx0.T tw_1_197) rfl rfl rfl rfl (Nat.le_of_ble_eq_true rfl) dX8_dropPart_2 em1 (fun H locs hP hS => ?_)
  refine lv_aload_n hx hb dX8_dropPart_5 rfl (lv_at hl 0 rfl) ?_
  refine lv_iconst (v := (0 : Int32)) hx hb dX8_dropPart_6 (by decide) ?_
  obtain ⟨m2, em2, hD⟩ := bnd_el hD
  refine rp  hx hb hT hu8 tyX8_ok nmX8 hown hK hP (hD1 _ (hAd _ _)) hS hL q0 2 (Nat.lt_of_lt_of_le haq0 (Nat.le_of_ble_eq_true rfl)) ((msp haq0) _ _) ((msp haq0) _ _) rfl (Nat.le_of_ble_eq_true rfl) (Fx0.T tw_1_201) rfl rfl rfl rfl (Nat.le_of_ble_eq_true rfl) dX8_dropPart_7 em2 (fun H locs hP hS => ?_)
  refine lv_aload_n hx hb dX8_dropPart_10 rfl (lv_at hl 0 rfl) ?_
  refine lv_iconst (v := (0 : Int32)) hx hb dX8_dropPart_11 (by decide) ?_
  obtain ⟨m3, em3, hD⟩ := bnd_el hD
  refine rp  hx hb hT hu8 tyX8_ok nmX8 hown hK hP (hD1 _ (hAd _ _)) hS hL q0 3 (Nat.lt_of_lt_of_le haq0 (Nat.le_of_ble_eq_true rfl)) ((msp haq0) _ _) ((msp haq0) _ _) rfl (Nat.le_of_ble_eq_true rfl) (Fx0.T tw_1_205) rfl rfl rfl rfl (Nat.le_of_ble_eq_true rfl) dX8_dropPart_12 em3 (fun H locs hP hS => ?_)
  cases hD
  exact hret _ _ _ hP hS (fun Qc hq => W.vret hx hb hr hq hS.2.2 dX8_dropPart_15 hlocks)

noncomputable def D_X8_clear (q0 : Nat) (m : MM) : Option MM := bnd (si m q0 0 (-1 : Int32)) (fun m1 => b1 (D_X8_dropPart q0 m1) (fun m2 => bnd (si m2 q0 4 (0 : Int32)) (fun m4 => bnd (si m4 q0 5 (0 : Int32)) (fun m5 => bnd (si m5 q0 6 (0 : Int32)) (fun m6 => bnd (si m6 q0 7 (0 : Int32)) (fun m7 => some (m7)))))))
set_option maxHeartbeats 4000000 in
set_option maxRecDepth 100000 in
theorem c_X8_clear (l : Launch) {D : va_G} {cs : Nat → ClassId} {ad : Nat → Nat} {Wf : MM → va_W} (hL : Ln 51 ad (msh cs ad) Wf) (hAd : ∀ a0_ b0_ : MM, (Wf a0_).map (fun q => q.1) = (Wf b0_).map (fun q => q.1)) (m : MM) (q0 : Nat) (haq0 : q0 < 4) {m' : MM} (hD : D_X8_clear q0 m = some (m')) : Ct l yX8_clear cX8_clear 1 none 1 20 D cs [.ref (ad q0)] (Wf m) (Wf m') (none) := by
  refine Ct.ofW (by decide) (Nat.le_of_ble_eq_true rfl) (hAd _ _) ?_
  intro p e s m0 below meth c A Q ls args hx hb hr hml hlocks hown hts hK hP hD1 hSS hS hA1 hl hret
  have hT : ∀ w ∈ TBL, w.before args s = true := fun w h => hts w (List.mem_cons_of_mem _ h)
  have Fx0 : Fx p l m0 c cX8_clear 1 s args yX8_clear cX8_clear 1 none D cs A := ⟨hx, hb, hml, hown, hts, hK, hSS⟩
  have hown : s.vm.findClass RX8 = some m0.cls := hown
  have hl : lv_has ls 1 [(0, .ref (ad q0))] := hl
  unfold D_X8_clear at hD
  refine lv_aload_n hx hb dX8_clear_0 rfl (lv_at hl 0 rfl) ?_
  refine lv_iconst (v := (-1 : Int32)) hx hb dX8_clear_1 (by decide) ?_
  obtain ⟨m1, em1, hD⟩ := bnd_el hD
  refine rp  hx hb hT hu8 tyX8_ok nmX8 hown hK hP (hD1 _ (hAd _ _)) hS hL q0 0 (Nat.lt_of_lt_of_le haq0 (Nat.le_of_ble_eq_true rfl)) ((msp haq0) _ _) ((msp haq0) _ _) rfl (Nat.le_of_ble_eq_true rfl) (Fx0.T tw_1_193) rfl rfl rfl rfl (Nat.le_of_ble_eq_true rfl) dX8_clear_2 em1 (fun H locs hP hS => ?_)
  refine lv_aload_n hx hb dX8_clear_5 rfl (lv_at hl 0 rfl) ?_
  obtain ⟨m2, z3, hD⟩ := b1_el hD
  refine rcV  (As := []) (rest := []) Fx0 (c_X8_dropPart l hL hAd m1 q0 haq0 z3) hP (hD1 _ (hAd _ _)) hS (hA1 _ _ (hAd _ _) hS.1) hL (Nat.lt_of_lt_of_le haq0 (Nat.le_of_ble_eq_true rfl)) ((msp haq0) _ _) rfl tw_2_55 tw_2_52 tw_2_54 ts_2 tw_1_6 yd_X8_dropPart ⟨(Nat.le_of_ble_eq_true rfl), (Nat.le_of_ble_eq_true rfl)⟩ rfl hl.1 rfl (Nat.le_of_ble_eq_true rfl) dX8_clear_6 (fun H locs hP hS => ?_)
  refine lv_aload_n hx hb dX8_clear_9 rfl (lv_at hl 0 rfl) ?_
  refine lv_iconst (v := (0 : Int32)) hx hb dX8_clear_10 (by decide) ?_
  obtain ⟨m4, em4, hD⟩ := bnd_el hD
  refine rp  hx hb hT hu8 tyX8_ok nmX8 hown hK hP (hD1 _ (hAd _ _)) hS hL q0 4 (Nat.lt_of_lt_of_le haq0 (Nat.le_of_ble_eq_true rfl)) ((msp haq0) _ _) ((msp haq0) _ _) rfl (Nat.le_of_ble_eq_true rfl) (Fx0.T tw_1_207) rfl rfl rfl rfl (Nat.le_of_ble_eq_true rfl) dX8_clear_11 em4 (fun H locs hP hS => ?_)
  refine lv_aload_n hx hb dX8_clear_14 rfl (lv_at hl 0 rfl) ?_
  refine lv_iconst (v := (0 : Int32)) hx hb dX8_clear_15 (by decide) ?_
  obtain ⟨m5, em5, hD⟩ := bnd_el hD
  refine rp  hx hb hT hu8 tyX8_ok nmX8 hown hK hP (hD1 _ (hAd _ _)) hS hL q0 5 (Nat.lt_of_lt_of_le haq0 (Nat.le_of_ble_eq_true rfl)) ((msp haq0) _ _) ((msp haq0) _ _) rfl (Nat.le_of_ble_eq_true rfl) (Fx0.T tw_1_209) rfl rfl rfl rfl (Nat.le_of_ble_eq_true rfl) dX8_clear_16 em5 (fun H locs hP hS => ?_)
  refine lv_aload_n hx hb dX8_clear_19 rfl (lv_at hl 0 rfl) ?_
  refine lv_iconst (v := (0 : Int32)) hx hb dX8_clear_20 (by decide) ?_
  obtain ⟨m6, em6, hD⟩ := bnd_el hD
  refine rp  hx hb hT hu8 tyX8_ok nmX8 hown hK hP (hD1 _ (hAd _ _)) hS hL q0 6 (Nat.lt_of_lt_of_le haq0 (Nat.le_of_ble_eq_true rfl)) ((msp haq0) _ _) ((msp haq0) _ _) rfl (Nat.le_of_ble_eq_true rfl) (Fx0.T tw_1_211) rfl rfl rfl rfl (Nat.le_of_ble_eq_true rfl) dX8_clear_21 em6 (fun H locs hP hS => ?_)
  refine lv_aload_n hx hb dX8_clear_24 rfl (lv_at hl 0 rfl) ?_
  refine lv_iconst (v := (0 : Int32)) hx hb dX8_clear_25 (by decide) ?_
  obtain ⟨m7, em7, hD⟩ := bnd_el hD
  refine rp  hx hb hT hu8 tyX8_ok nmX8 hown hK hP (hD1 _ (hAd _ _)) hS hL q0 7 (Nat.lt_of_lt_of_le haq0 (Nat.le_of_ble_eq_true rfl)) ((msp haq0) _ _) ((msp haq0) _ _) rfl (Nat.le_of_ble_eq_true rfl) (Fx0.T tw_1_213) rfl rfl rfl rfl (Nat.le_of_ble_eq_true rfl) dX8_clear_26 em7 (fun H locs hP hS => ?_)
  cases hD
  exact hret _ _ _ hP hS (fun Qc hq => W.vret hx hb hr hq hS.2.2 dX8_clear_29 hlocks)

noncomputable def D_X8_valueOf (q0 : Nat) (x1 : Int32) (m : MM) : Option Int32 := if x1 = (0 : Int32) then (some ((gi m q0 0))) else (if x1 = (1 : Int32) then (some ((gi m q0 1))) else (if x1 = (2 : Int32) then (if (gi m q0 2) = 0 then (some ((0 : Int32))) else (some ((1 : Int32)))) else (if x1 = (3 : Int32) then (some ((gi m q0 3))) else (if x1 = (4 : Int32) then (some ((gi m q0 4))) else (if x1 = (5 : Int32) then (some ((gi m q0 5))) else (if x1 = (6 : Int32) then (some ((gi m q0 6))) else (some ((gi m q0 7)))))))))
set_option maxHeartbeats 4000000 in
set_option maxRecDepth 100000 in
theorem c_X8_valueOf (l : Launch) {D : va_G} {cs : Nat → ClassId} {ad : Nat → Nat} {Wf : MM → va_W} (hL : Ln 51 ad (msh cs ad) Wf) (hAd : ∀ a0_ b0_ : MM, (Wf a0_).map (fun q => q.1) = (Wf b0_).map (fun q => q.1)) (m : MM) (q0 : Nat) (haq0 : q0 < 4) (x1 : Int32) {rr : Int32} (hD : D_X8_valueOf q0 x1 m = some (rr)) : Ct l yX8_valueOf cX8_valueOf 2 (some .int) 0 0 D cs [.ref (ad q0), .int x1] (Wf m) (Wf m) (some (.int rr)) := by
  refine Ct.ofW (by decide) (Nat.le_of_ble_eq_true rfl) rfl ?_
  intro p e s m0 below meth c A Q ls args hx hb hr hml hlocks hown hts hK hP hD1 hSS hS hA1 hl hret
  have hT : ∀ w ∈ TBL, w.before args s = true := fun w h => hts w (List.mem_cons_of_mem _ h)
  have Fx0 : Fx p l m0 c cX8_valueOf 2 s args yX8_valueOf cX8_valueOf 2 (some .int) D cs A := ⟨hx, hb, hml, hown, hts, hK, hSS⟩
  have hown : s.vm.findClass RX8 = some m0.cls := hown
  have hl : lv_has ls 2 [(0, .ref (ad q0)), (1, .int x1)] := hl
  unfold D_X8_valueOf at hD
  refine lv_iload_n hx hb dX8_valueOf_0 rfl (lv_at hl 1 rfl) ?_
  by_cases sw1_0 : x1 = (0 : Int32)
  · have hD := ifp hD sw1_0
    refine lv_tableIn (off := 43) (tgt := 44) hx hb dX8_valueOf_1 (by rw [sw1_0]; decide) (by rw [sw1_0]; decide) (by rw [sw1_0]; rfl) (by decide) ?_
    refine lv_aload_n hx hb dX8_valueOf_44 rfl (lv_at hl 0 rfl) ?_
    refine rg  hx hb hT hu8 hown hK hP hL q0 0 (Nat.lt_of_lt_of_le haq0 (Nat.le_of_ble_eq_true rfl)) ((msp haq0) _ _) rfl (Nat.le_of_ble_eq_true rfl) (Fx0.T tw_1_193) rfl (v := .int (gi m q0 0)) rfl dX8_valueOf_45 ?_
    cases hD
    exact hret _ _ _ hP hS (fun Qc hq => W.iret hx hb hr hq hS.2.2 dX8_valueOf_48 hlocks)
  · have hD := ifn hD sw1_0
    by_cases sw1_1 : x1 = (1 : Int32)
    · have hD := ifp hD sw1_1
      refine lv_tableIn (off := 48) (tgt := 49) hx hb dX8_valueOf_1 (by rw [sw1_1]; decide) (by rw [sw1_1]; decide) (by rw [sw1_1]; rfl) (by decide) ?_
      refine lv_aload_n hx hb dX8_valueOf_49 rfl (lv_at hl 0 rfl) ?_
      refine rg  hx hb hT hu8 hown hK hP hL q0 1 (Nat.lt_of_lt_of_le haq0 (Nat.le_of_ble_eq_true rfl)) ((msp haq0) _ _) rfl (Nat.le_of_ble_eq_true rfl) (Fx0.T tw_1_197) rfl (v := .int (gi m q0 1)) rfl dX8_valueOf_50 ?_
      cases hD
      exact hret _ _ _ hP hS (fun Qc hq => W.iret hx hb hr hq hS.2.2 dX8_valueOf_53 hlocks)
    · have hD := ifn hD sw1_1
      by_cases sw1_2 : x1 = (2 : Int32)
      · have hD := ifp hD sw1_2
        refine lv_tableIn (off := 53) (tgt := 54) hx hb dX8_valueOf_1 (by rw [sw1_2]; decide) (by rw [sw1_2]; decide) (by rw [sw1_2]; rfl) (by decide) ?_
        refine lv_aload_n hx hb dX8_valueOf_54 rfl (lv_at hl 0 rfl) ?_
        refine rg  hx hb hT hu8 hown hK hP hL q0 2 (Nat.lt_of_lt_of_le haq0 (Nat.le_of_ble_eq_true rfl)) ((msp haq0) _ _) rfl (Nat.le_of_ble_eq_true rfl) (Fx0.T tw_1_201) rfl (v := .int (gi m q0 2)) rfl dX8_valueOf_55 ?_
        refine lv_if_eq (tgt := 65) hx hb dX8_valueOf_58 (by decide) (fun c => ?_) (fun c => ?_)
        · have hD := ifp hD c
          refine lv_iconst (v := (0 : Int32)) hx hb dX8_valueOf_65 (by decide) ?_
          cases hD
          exact hret _ _ _ hP hS (fun Qc hq => W.iret hx hb hr hq hS.2.2 dX8_valueOf_66 hlocks)
        · have hD := ifn hD c
          refine lv_iconst (v := (1 : Int32)) hx hb dX8_valueOf_61 (by decide) ?_
          refine lv_goto (tgt := 66) hx hb dX8_valueOf_62 (by decide) ?_
          cases hD
          exact hret _ _ _ hP hS (fun Qc hq => W.iret hx hb hr hq hS.2.2 dX8_valueOf_66 hlocks)
      · have hD := ifn hD sw1_2
        by_cases sw1_3 : x1 = (3 : Int32)
        · have hD := ifp hD sw1_3
          refine lv_tableIn (off := 66) (tgt := 67) hx hb dX8_valueOf_1 (by rw [sw1_3]; decide) (by rw [sw1_3]; decide) (by rw [sw1_3]; rfl) (by decide) ?_
          refine lv_aload_n hx hb dX8_valueOf_67 rfl (lv_at hl 0 rfl) ?_
          refine rg  hx hb hT hu8 hown hK hP hL q0 3 (Nat.lt_of_lt_of_le haq0 (Nat.le_of_ble_eq_true rfl)) ((msp haq0) _ _) rfl (Nat.le_of_ble_eq_true rfl) (Fx0.T tw_1_205) rfl (v := .int (gi m q0 3)) rfl dX8_valueOf_68 ?_
          cases hD
          exact hret _ _ _ hP hS (fun Qc hq => W.iret hx hb hr hq hS.2.2 dX8_valueOf_71 hlocks)
        · have hD := ifn hD sw1_3
          by_cases sw1_4 : x1 = (4 : Int32)
          · have hD := ifp hD sw1_4
            refine lv_tableIn (off := 71) (tgt := 72) hx hb dX8_valueOf_1 (by rw [sw1_4]; decide) (by rw [sw1_4]; decide) (by rw [sw1_4]; rfl) (by decide) ?_
            refine lv_aload_n hx hb dX8_valueOf_72 rfl (lv_at hl 0 rfl) ?_
            refine rg  hx hb hT hu8 hown hK hP hL q0 4 (Nat.lt_of_lt_of_le haq0 (Nat.le_of_ble_eq_true rfl)) ((msp haq0) _ _) rfl (Nat.le_of_ble_eq_true rfl) (Fx0.T tw_1_207) rfl (v := .int (gi m q0 4)) rfl dX8_valueOf_73 ?_
            cases hD
            exact hret _ _ _ hP hS (fun Qc hq => W.iret hx hb hr hq hS.2.2 dX8_valueOf_76 hlocks)
          · have hD := ifn hD sw1_4
            by_cases sw1_5 : x1 = (5 : Int32)
            · have hD := ifp hD sw1_5
              refine lv_tableIn (off := 76) (tgt := 77) hx hb dX8_valueOf_1 (by rw [sw1_5]; decide) (by rw [sw1_5]; decide) (by rw [sw1_5]; rfl) (by decide) ?_
              refine lv_aload_n hx hb dX8_valueOf_77 rfl (lv_at hl 0 rfl) ?_
              refine rg  hx hb hT hu8 hown hK hP hL q0 5 (Nat.lt_of_lt_of_le haq0 (Nat.le_of_ble_eq_true rfl)) ((msp haq0) _ _) rfl (Nat.le_of_ble_eq_true rfl) (Fx0.T tw_1_209) rfl (v := .int (gi m q0 5)) rfl dX8_valueOf_78 ?_
              cases hD
              exact hret _ _ _ hP hS (fun Qc hq => W.iret hx hb hr hq hS.2.2 dX8_valueOf_81 hlocks)
            · have hD := ifn hD sw1_5
              by_cases sw1_6 : x1 = (6 : Int32)
              · have hD := ifp hD sw1_6
                refine lv_tableIn (off := 81) (tgt := 82) hx hb dX8_valueOf_1 (by rw [sw1_6]; decide) (by rw [sw1_6]; decide) (by rw [sw1_6]; rfl) (by decide) ?_
                refine lv_aload_n hx hb dX8_valueOf_82 rfl (lv_at hl 0 rfl) ?_
                refine rg  hx hb hT hu8 hown hK hP hL q0 6 (Nat.lt_of_lt_of_le haq0 (Nat.le_of_ble_eq_true rfl)) ((msp haq0) _ _) rfl (Nat.le_of_ble_eq_true rfl) (Fx0.T tw_1_211) rfl (v := .int (gi m q0 6)) rfl dX8_valueOf_83 ?_
                cases hD
                exact hret _ _ _ hP hS (fun Qc hq => W.iret hx hb hr hq hS.2.2 dX8_valueOf_86 hlocks)
              · have hD := ifn hD sw1_6
                refine lv_tableOut (tgt := 87) hx hb dX8_valueOf_1 (swo 0 6 (fun k h1 h2 e => ?_)) (by decide) ?_
                · have h3 : k = 0 ∨ k = 1 ∨ k = 2 ∨ k = 3 ∨ k = 4 ∨ k = 5 ∨ k = 6 ∨ False := by omega
                  rcases h3 with rfl | rfl | rfl | rfl | rfl | rfl | rfl | h3
                  · exact absurd e sw1_0
                  · exact absurd e sw1_1
                  · exact absurd e sw1_2
                  · exact absurd e sw1_3
                  · exact absurd e sw1_4
                  · exact absurd e sw1_5
                  · exact absurd e sw1_6
                  · exact h3
                refine lv_aload_n hx hb dX8_valueOf_87 rfl (lv_at hl 0 rfl) ?_
                refine rg  hx hb hT hu8 hown hK hP hL q0 7 (Nat.lt_of_lt_of_le haq0 (Nat.le_of_ble_eq_true rfl)) ((msp haq0) _ _) rfl (Nat.le_of_ble_eq_true rfl) (Fx0.T tw_1_213) rfl (v := .int (gi m q0 7)) rfl dX8_valueOf_88 ?_
                cases hD
                exact hret _ _ _ hP hS (fun Qc hq => W.iret hx hb hr hq hS.2.2 dX8_valueOf_91 hlocks)
