/-! the methods of one machine -/
noncomputable def D_X0_isOpen (x1 : Int32) (m : MM) : Option Int32 := if ((gl m 36 7) &&& ((1 : Int64) <<< (x1.toInt64 &&& 63))) = (0 : Int64) then (some ((0 : Int32))) else (some ((1 : Int32)))
set_option maxHeartbeats 4000000 in
set_option maxRecDepth 100000 in
theorem c_X0_isOpen (l : Launch) {D : va_G} {cs : Nat → ClassId} {ad : Nat → Nat} {Wf : MM → va_W} (hL : Ln 51 ad (msh cs ad) Wf) (hAd : ∀ a0_ b0_ : MM, (Wf a0_).map (fun q => q.1) = (Wf b0_).map (fun q => q.1)) (m : MM) (x1 : Int32) {rr : Int32} (hD : D_X0_isOpen x1 m = some (rr)) : Ct l yX0_isOpen cX0_isOpen 2 (some .boolean) 0 0 D cs [.ref (ad 36), .int x1] (Wf m) (Wf m) (some (.int rr)) := by
  refine Ct.ofW (by decide) (Nat.le_of_ble_eq_true rfl) rfl ?_
  intro p e s m0 below meth c A Q ls args hx hb hr hml hlocks hown hts hK hP hD1 hSS hS hA1 hl hret
  have hT : ∀ w ∈ TBL, w.before args s = true := fun w h => hts w (List.mem_cons_of_mem _ h)
  have Fx0 : Fx p l m0 c cX0_isOpen 2 s args yX0_isOpen cX0_isOpen 2 (some .boolean) D cs A := ⟨hx, hb, hml, hown, hts, hK, hSS⟩
  have hown : s.vm.findClass RX0 = some m0.cls := hown
  have hl : lv_has ls 2 [(0, .ref (ad 36)), (1, .int x1)] := hl
  unfold D_X0_isOpen at hD
  refine lv_aload_n hx hb dX0_isOpen_0 rfl (lv_at hl 0 rfl) ?_
  refine rg  hx hb hT hu0 hown hK hP hL 36 7 (Nat.le_of_ble_eq_true rfl) (ms36 _ _) rfl (Nat.le_of_ble_eq_true rfl) (Fx0.T tw_1_111) rfl (v := .long (gl m 36 7)) rfl dX0_isOpen_1 ?_
  refine lv_lconst (v := (1 : Int64)) hx hb dX0_isOpen_4 (by decide) ?_
  refine lv_iload_n hx hb dX0_isOpen_5 rfl (lv_at hl 1 rfl) ?_
  refine lv_lshl (v := ((1 : Int64) <<< (x1.toInt64 &&& 63))) hx hb dX0_isOpen_6 rfl ?_
  refine lv_land hx hb dX0_isOpen_7 ?_
  refine lv_lconst (v := (0 : Int64)) hx hb dX0_isOpen_8 (by decide) ?_
  refine rlc_eq (tgt := 17) hx hb dX0_isOpen_9 dX0_isOpen_10 (by decide) (fun c => ?_) (fun c => ?_)
  · have hD := ifp hD c
    refine lv_iconst (v := (0 : Int32)) hx hb dX0_isOpen_17 (by decide) ?_
    cases hD
    exact hret _ _ _ hP hS (fun Qc hq => W.zret hx hb hr rfl hq hS.2.2 dX0_isOpen_18 hlocks)
  · have hD := ifn hD c
    refine lv_iconst (v := (1 : Int32)) hx hb dX0_isOpen_13 (by decide) ?_
    refine lv_goto (tgt := 18) hx hb dX0_isOpen_14 (by decide) ?_
    cases hD
    exact hret _ _ _ hP hS (fun Qc hq => W.zret hx hb hr rfl hq hS.2.2 dX0_isOpen_18 hlocks)

noncomputable def D_X0_isFilled (x1 : Int32) (m : MM) : Option Int32 := if ((gl m 36 8) &&& ((1 : Int64) <<< (x1.toInt64 &&& 63))) = (0 : Int64) then (some ((0 : Int32))) else (some ((1 : Int32)))
set_option maxHeartbeats 4000000 in
set_option maxRecDepth 100000 in
theorem c_X0_isFilled (l : Launch) {D : va_G} {cs : Nat → ClassId} {ad : Nat → Nat} {Wf : MM → va_W} (hL : Ln 51 ad (msh cs ad) Wf) (hAd : ∀ a0_ b0_ : MM, (Wf a0_).map (fun q => q.1) = (Wf b0_).map (fun q => q.1)) (m : MM) (x1 : Int32) {rr : Int32} (hD : D_X0_isFilled x1 m = some (rr)) : Ct l yX0_isFilled cX0_isFilled 2 (some .boolean) 0 0 D cs [.ref (ad 36), .int x1] (Wf m) (Wf m) (some (.int rr)) := by
  refine Ct.ofW (by decide) (Nat.le_of_ble_eq_true rfl) rfl ?_
  intro p e s m0 below meth c A Q ls args hx hb hr hml hlocks hown hts hK hP hD1 hSS hS hA1 hl hret
  have hT : ∀ w ∈ TBL, w.before args s = true := fun w h => hts w (List.mem_cons_of_mem _ h)
  have Fx0 : Fx p l m0 c cX0_isFilled 2 s args yX0_isFilled cX0_isFilled 2 (some .boolean) D cs A := ⟨hx, hb, hml, hown, hts, hK, hSS⟩
  have hown : s.vm.findClass RX0 = some m0.cls := hown
  have hl : lv_has ls 2 [(0, .ref (ad 36)), (1, .int x1)] := hl
  unfold D_X0_isFilled at hD
  refine lv_aload_n hx hb dX0_isFilled_0 rfl (lv_at hl 0 rfl) ?_
  refine rg  hx hb hT hu0 hown hK hP hL 36 8 (Nat.le_of_ble_eq_true rfl) (ms36 _ _) rfl (Nat.le_of_ble_eq_true rfl) (Fx0.T tw_1_113) rfl (v := .long (gl m 36 8)) rfl dX0_isFilled_1 ?_
  refine lv_lconst (v := (1 : Int64)) hx hb dX0_isFilled_4 (by decide) ?_
  refine lv_iload_n hx hb dX0_isFilled_5 rfl (lv_at hl 1 rfl) ?_
  refine lv_lshl (v := ((1 : Int64) <<< (x1.toInt64 &&& 63))) hx hb dX0_isFilled_6 rfl ?_
  refine lv_land hx hb dX0_isFilled_7 ?_
  refine lv_lconst (v := (0 : Int64)) hx hb dX0_isFilled_8 (by decide) ?_
  refine rlc_eq (tgt := 17) hx hb dX0_isFilled_9 dX0_isFilled_10 (by decide) (fun c => ?_) (fun c => ?_)
  · have hD := ifp hD c
    refine lv_iconst (v := (0 : Int32)) hx hb dX0_isFilled_17 (by decide) ?_
    cases hD
    exact hret _ _ _ hP hS (fun Qc hq => W.zret hx hb hr rfl hq hS.2.2 dX0_isFilled_18 hlocks)
  · have hD := ifn hD c
    refine lv_iconst (v := (1 : Int32)) hx hb dX0_isFilled_13 (by decide) ?_
    refine lv_goto (tgt := 18) hx hb dX0_isFilled_14 (by decide) ?_
    cases hD
    exact hret _ _ _ hP hS (fun Qc hq => W.zret hx hb hr rfl hq hS.2.2 dX0_isFilled_18 hlocks)

noncomputable def D_X0_valueOf (x1 : Int32) (x2 : Int32) (m : MM) : Option Int32 := if x2 = (0 : Int32) then (if x1 < 0 ∨ 40 ≤ x1.toNatClampNeg then none else (some ((gi m 37 x1.toNatClampNeg)))) else (if x2 = (1 : Int32) then (if x1 < 0 ∨ 40 ≤ x1.toNatClampNeg then none else (some ((gi m 38 x1.toNatClampNeg)))) else (if x2 = (2 : Int32) then (if x1 < 0 ∨ 40 ≤ x1.toNatClampNeg then none else (some ((gi m 39 x1.toNatClampNeg)))) else (if x2 = (3 : Int32) then (b1 (D_X0_isOpen x1 m) (fun v4 => if v4 = 0 then (b1 (D_X0_isFilled x1 m) (fun v6 => if v6 = 0 then (some ((2 : Int32))) else (some ((1 : Int32))))) else (some ((0 : Int32))))) else (if x2 = (4 : Int32) then (b1 (D_X0_isFilled x1 m) (fun v8 => if v8 = 0 then (some ((-1 : Int32))) else (if x1 < 0 ∨ 40 ≤ x1.toNatClampNeg then none else (some ((gi m 40 x1.toNatClampNeg)))))) else (b1 (D_X0_isFilled x1 m) (fun v11 => if v11 = 0 then (some ((-1 : Int32))) else (if x1 < 0 ∨ 40 ≤ x1.toNatClampNeg then none else (some ((gi m 41 x1.toNatClampNeg))))))))))
set_option maxHeartbeats 4000000 in
set_option maxRecDepth 100000 in
theorem c_X0_valueOf (l : Launch) {D : va_G} {cs : Nat → ClassId} {ad : Nat → Nat} {Wf : MM → va_W} (hL : Ln 51 ad (msh cs ad) Wf) (hAd : ∀ a0_ b0_ : MM, (Wf a0_).map (fun q => q.1) = (Wf b0_).map (fun q => q.1)) (m : MM) (x1 : Int32) (x2 : Int32) {rr : Int32} (hD : D_X0_valueOf x1 x2 m = some (rr)) : Ct l yX0_valueOf cX0_valueOf 3 (some .int) 1 21 D cs [.ref (ad 36), .int x1, .int x2] (Wf m) (Wf m) (some (.int rr)) := by
  refine Ct.ofW (by decide) (Nat.le_of_ble_eq_true rfl) rfl ?_
  intro p e s m0 below meth c A Q ls args hx hb hr hml hlocks hown hts hK hP hD1 hSS hS hA1 hl hret
  have hT : ∀ w ∈ TBL, w.before args s = true := fun w h => hts w (List.mem_cons_of_mem _ h)
  have Fx0 : Fx p l m0 c cX0_valueOf 3 s args yX0_valueOf cX0_valueOf 3 (some .int) D cs A := ⟨hx, hb, hml, hown, hts, hK, hSS⟩
  have hown : s.vm.findClass RX0 = some m0.cls := hown
  have hl : lv_has ls 3 [(0, .ref (ad 36)), (1, .int x1), (2, .int x2)] := hl
  unfold D_X0_valueOf at hD
  refine lv_iload_n hx hb dX0_valueOf_0 rfl (lv_at hl 2 rfl) ?_
  by_cases sw1_0 : x2 = (0 : Int32)
  · have hD := ifp hD sw1_0
    refine lv_tableIn (off := 35) (tgt := 36) hx hb dX0_valueOf_1 (by rw [sw1_0]; decide) (by rw [sw1_0]; decide) (by rw [sw1_0]; rfl) (by decide) ?_
    refine lv_aload_n hx hb dX0_valueOf_36 rfl (lv_at hl 0 rfl) ?_
    refine rg  hx hb hT hu0 hown hK hP hL 36 1 (Nat.le_of_ble_eq_true rfl) (ms36 _ _) rfl (Nat.le_of_ble_eq_true rfl) (Fx0.T tw_1_99) rfl (v := .ref (ad 37)) rfl dX0_valueOf_37 ?_
    refine lv_iload_n hx hb dX0_valueOf_40 rfl (lv_at hl 1 rfl) ?_
    obtain ⟨h1, hD⟩ := gd_el hD
    refine riald  hx hb hK hP hL 37 (Nat.le_of_ble_eq_true rfl) (ms37 _ _) h1 rfl dX0_valueOf_41 ?_
    cases hD
    exact hret _ _ _ hP hS (fun Qc hq => W.iret hx hb hr hq hS.2.2 dX0_valueOf_42 hlocks)
  · have hD := ifn hD sw1_0
    by_cases sw1_1 : x2 = (1 : Int32)
    · have hD := ifp hD sw1_1
      refine lv_tableIn (off := 42) (tgt := 43) hx hb dX0_valueOf_1 (by rw [sw1_1]; decide) (by rw [sw1_1]; decide) (by rw [sw1_1]; rfl) (by decide) ?_
      refine lv_aload_n hx hb dX0_valueOf_43 rfl (lv_at hl 0 rfl) ?_
      refine rg  hx hb hT hu0 hown hK hP hL 36 2 (Nat.le_of_ble_eq_true rfl) (ms36 _ _) rfl (Nat.le_of_ble_eq_true rfl) (Fx0.T tw_1_101) rfl (v := .ref (ad 38)) rfl dX0_valueOf_44 ?_
      refine lv_iload_n hx hb dX0_valueOf_47 rfl (lv_at hl 1 rfl) ?_
      obtain ⟨h2, hD⟩ := gd_el hD
      refine riald  hx hb hK hP hL 38 (Nat.le_of_ble_eq_true rfl) (ms38 _ _) h2 rfl dX0_valueOf_48 ?_
      cases hD
      exact hret _ _ _ hP hS (fun Qc hq => W.iret hx hb hr hq hS.2.2 dX0_valueOf_49 hlocks)
    · have hD := ifn hD sw1_1
      by_cases sw1_2 : x2 = (2 : Int32)
      · have hD := ifp hD sw1_2
        refine lv_tableIn (off := 49) (tgt := 50) hx hb dX0_valueOf_1 (by rw [sw1_2]; decide) (by rw [sw1_2]; decide) (by rw [sw1_2]; rfl) (by decide) ?_
        refine lv_aload_n hx hb dX0_valueOf_50 rfl (lv_at hl 0 rfl) ?_
        refine rg  hx hb hT hu0 hown hK hP hL 36 3 (Nat.le_of_ble_eq_true rfl) (ms36 _ _) rfl (Nat.le_of_ble_eq_true rfl) (Fx0.T tw_1_104) rfl (v := .ref (ad 39)) rfl dX0_valueOf_51 ?_
        refine lv_iload_n hx hb dX0_valueOf_54 rfl (lv_at hl 1 rfl) ?_
        obtain ⟨h3, hD⟩ := gd_el hD
        refine riald  hx hb hK hP hL 39 (Nat.le_of_ble_eq_true rfl) (ms39 _ _) h3 rfl dX0_valueOf_55 ?_
        cases hD
        exact hret _ _ _ hP hS (fun Qc hq => W.iret hx hb hr hq hS.2.2 dX0_valueOf_56 hlocks)
      · have hD := ifn hD sw1_2
        by_cases sw1_3 : x2 = (3 : Int32)
        · have hD := ifp hD sw1_3
          refine lv_tableIn (off := 56) (tgt := 57) hx hb dX0_valueOf_1 (by rw [sw1_3]; decide) (by rw [sw1_3]; decide) (by rw [sw1_3]; rfl) (by decide) ?_
          refine lv_aload_n hx hb dX0_valueOf_57 rfl (lv_at hl 0 rfl) ?_
          refine lv_iload_n hx hb dX0_valueOf_58 rfl (lv_at hl 1 rfl) ?_
          obtain ⟨v4, z5, hD⟩ := b1_el hD
          refine rcV  (As := [.int x1]) (rest := []) Fx0 (c_X0_isOpen l hL hAd m x1 z5) hP (hD1 _ (hAd _ _)) hS (hA1 _ _ (hAd _ _) hS.1) hL (Nat.le_of_ble_eq_true rfl) (ms36 _ _) rfl tw_5_195 tw_5_234 tw_5_194 ts_56 tw_1_4 yd_X0_isOpen ⟨(Nat.le_of_ble_eq_true rfl), (Nat.le_of_ble_eq_true rfl)⟩ rfl hl.1 rfl (Nat.le_of_ble_eq_true rfl) dX0_valueOf_59 (fun H locs hP hS => ?_)
          refine lv_if_eq (tgt := 69) hx hb dX0_valueOf_62 (by decide) (fun c => ?_) (fun c => ?_)
          · have hD := ifp hD c
            refine lv_aload_n hx hb dX0_valueOf_69 rfl (lv_at hl 0 rfl) ?_
            refine lv_iload_n hx hb dX0_valueOf_70 rfl (lv_at hl 1 rfl) ?_
            obtain ⟨v6, z7, hD⟩ := b1_el hD
            refine rcV  (As := [.int x1]) (rest := []) Fx0 (c_X0_isFilled l hL hAd m x1 z7) hP (hD1 _ (hAd _ _)) hS (hA1 _ _ (hAd _ _) hS.1) hL (Nat.le_of_ble_eq_true rfl) (ms36 _ _) rfl tw_6_2 tw_5_239 tw_6_1 ts_61 tw_1_4 yd_X0_isFilled ⟨(Nat.le_of_ble_eq_true rfl), (Nat.le_of_ble_eq_true rfl)⟩ rfl hl.1 rfl (Nat.le_of_ble_eq_true rfl) dX0_valueOf_71 (fun H locs hP hS => ?_)
            refine lv_if_eq (tgt := 81) hx hb dX0_valueOf_74 (by decide) (fun c => ?_) (fun c => ?_)
            · have hD := ifp hD c
              refine lv_iconst (v := (2 : Int32)) hx hb dX0_valueOf_81 (by decide) ?_
              cases hD
              exact hret _ _ _ hP hS (fun Qc hq => W.iret hx hb hr hq hS.2.2 dX0_valueOf_82 hlocks)
            · have hD := ifn hD c
              refine lv_iconst (v := (1 : Int32)) hx hb dX0_valueOf_77 (by decide) ?_
              refine lv_goto (tgt := 82) hx hb dX0_valueOf_78 (by decide) ?_
              cases hD
              exact hret _ _ _ hP hS (fun Qc hq => W.iret hx hb hr hq hS.2.2 dX0_valueOf_82 hlocks)
          · have hD := ifn hD c
            refine lv_iconst (v := (0 : Int32)) hx hb dX0_valueOf_65 (by decide) ?_
            refine lv_goto (tgt := 82) hx hb dX0_valueOf_66 (by decide) ?_
            cases hD
            exact hret _ _ _ hP hS (fun Qc hq => W.iret hx hb hr hq hS.2.2 dX0_valueOf_82 hlocks)
        · have hD := ifn hD sw1_3
          by_cases sw1_4 : x2 = (4 : Int32)
          · have hD := ifp hD sw1_4
            refine lv_tableIn (off := 82) (tgt := 83) hx hb dX0_valueOf_1 (by rw [sw1_4]; decide) (by rw [sw1_4]; decide) (by rw [sw1_4]; rfl) (by decide) ?_
            refine lv_aload_n hx hb dX0_valueOf_83 rfl (lv_at hl 0 rfl) ?_
            refine lv_iload_n hx hb dX0_valueOf_84 rfl (lv_at hl 1 rfl) ?_
            obtain ⟨v8, z9, hD⟩ := b1_el hD
            refine rcV  (As := [.int x1]) (rest := []) Fx0 (c_X0_isFilled l hL hAd m x1 z9) hP (hD1 _ (hAd _ _)) hS (hA1 _ _ (hAd _ _) hS.1) hL (Nat.le_of_ble_eq_true rfl) (ms36 _ _) rfl tw_6_2 tw_5_239 tw_6_1 ts_61 tw_1_4 yd_X0_isFilled ⟨(Nat.le_of_ble_eq_true rfl), (Nat.le_of_ble_eq_true rfl)⟩ rfl hl.1 rfl (Nat.le_of_ble_eq_true rfl) dX0_valueOf_85 (fun H locs hP hS => ?_)
            refine lv_if_eq (tgt := 100) hx hb dX0_valueOf_88 (by decide) (fun c => ?_) (fun c => ?_)
            · have hD := ifp hD c
              refine lv_iconst (v := (-1 : Int32)) hx hb dX0_valueOf_100 (by decide) ?_
              cases hD
              exact hret _ _ _ hP hS (fun Qc hq => W.iret hx hb hr hq hS.2.2 dX0_valueOf_101 hlocks)
            · have hD := ifn hD c
              refine lv_aload_n hx hb dX0_valueOf_91 rfl (lv_at hl 0 rfl) ?_
              refine rg  hx hb hT hu0 hown hK hP hL 36 4 (Nat.le_of_ble_eq_true rfl) (ms36 _ _) rfl (Nat.le_of_ble_eq_true rfl) (Fx0.T tw_1_107) rfl (v := .ref (ad 40)) rfl dX0_valueOf_92 ?_
              refine lv_iload_n hx hb dX0_valueOf_95 rfl (lv_at hl 1 rfl) ?_
              obtain ⟨h10, hD⟩ := gd_el hD
              refine riald  hx hb hK hP hL 40 (Nat.le_of_ble_eq_true rfl) (ms40 _ _) h10 rfl dX0_valueOf_96 ?_
              refine lv_goto (tgt := 101) hx hb dX0_valueOf_97 (by decide) ?_
              cases hD
              exact hret _ _ _ hP hS (fun Qc hq => W.iret hx hb hr hq hS.2.2 dX0_valueOf_101 hlocks)
          · have hD := ifn hD sw1_4
            refine lv_tableOut (tgt := 102) hx hb dX0_valueOf_1 (swo 0 4 (fun k h1 h2 e => ?_)) (by decide) ?_
            · have h3 : k = 0 ∨ k = 1 ∨ k = 2 ∨ k = 3 ∨ k = 4 ∨ False := by omega
              rcases h3 with rfl | rfl | rfl | rfl | rfl | h3
              · exact absurd e sw1_0
              · exact absurd e sw1_1
              · exact absurd e sw1_2
              · exact absurd e sw1_3
              · exact absurd e sw1_4
              · exact h3
            refine lv_aload_n hx hb dX0_valueOf_102 rfl (lv_at hl 0 rfl) ?_
            refine lv_iload_n hx hb dX0_valueOf_103 rfl (lv_at hl 1 rfl) ?_
            obtain ⟨v11, z12, hD⟩ := b1_el hD
            refine rcV  (As := [.int x1]) (rest := []) Fx0 (c_X0_isFilled l hL hAd m x1 z12) hP (hD1 _ (hAd _ _)) hS (hA1 _ _ (hAd _ _) hS.1) hL (Nat.le_of_ble_eq_true rfl) (ms36 _ _) rfl tw_6_2 tw_5_239 tw_6_1 ts_61 tw_1_4 yd_X0_isFilled ⟨(Nat.le_of_ble_eq_true rfl), (Nat.le_of_ble_eq_true rfl)⟩ rfl hl.1 rfl (Nat.le_of_ble_eq_true rfl) dX0_valueOf_104 (fun H locs hP hS => ?_)
            refine lv_if_eq (tgt := 119) hx hb dX0_valueOf_107 (by decide) (fun c => ?_) (fun c => ?_)
            · have hD := ifp hD c
              refine lv_iconst (v := (-1 : Int32)) hx hb dX0_valueOf_119 (by decide) ?_
              cases hD
              exact hret _ _ _ hP hS (fun Qc hq => W.iret hx hb hr hq hS.2.2 dX0_valueOf_120 hlocks)
            · have hD := ifn hD c
              refine lv_aload_n hx hb dX0_valueOf_110 rfl (lv_at hl 0 rfl) ?_
              refine rg  hx hb hT hu0 hown hK hP hL 36 5 (Nat.le_of_ble_eq_true rfl) (ms36 _ _) rfl (Nat.le_of_ble_eq_true rfl) (Fx0.T tw_1_108) rfl (v := .ref (ad 41)) rfl dX0_valueOf_111 ?_
              refine lv_iload_n hx hb dX0_valueOf_114 rfl (lv_at hl 1 rfl) ?_
              obtain ⟨h13, hD⟩ := gd_el hD
              refine riald  hx hb hK hP hL 41 (Nat.le_of_ble_eq_true rfl) (ms41 _ _) h13 rfl dX0_valueOf_115 ?_
              refine lv_goto (tgt := 120) hx hb dX0_valueOf_116 (by decide) ?_
              cases hD
              exact hret _ _ _ hP hS (fun Qc hq => W.iret hx hb hr hq hS.2.2 dX0_valueOf_120 hlocks)

noncomputable def D_X0_close (x1 : Int32) (m : MM) : Option (Int32 × MM) := b1 (D_X0_isOpen x1 m) (fun v1 => if v1 = 0 then (some ((0 : Int32), m)) else (bnd (sl m 36 7 ((gl m 36 7) &&& (((1 : Int64) <<< (x1.toInt64 &&& 63)) ^^^ (-1 : Int64)))) (fun m3 => some ((1 : Int32), m3))))
set_option maxHeartbeats 4000000 in
set_option maxRecDepth 100000 in
theorem c_X0_close (l : Launch) {D : va_G} {cs : Nat → ClassId} {ad : Nat → Nat} {Wf : MM → va_W} (hL : Ln 51 ad (msh cs ad) Wf) (hAd : ∀ a0_ b0_ : MM, (Wf a0_).map (fun q => q.1) = (Wf b0_).map (fun q => q.1)) (m : MM) (x1 : Int32) {rr : Int32} {m' : MM} (hD : D_X0_close x1 m = some (rr, m')) : Ct l yX0_close cX0_close 2 (some .boolean) 1 21 D cs [.ref (ad 36), .int x1] (Wf m) (Wf m') (some (.int rr)) := by
  refine Ct.ofW (by decide) (Nat.le_of_ble_eq_true rfl) (hAd _ _) ?_
  intro p e s m0 below meth c A Q ls args hx hb hr hml hlocks hown hts hK hP hD1 hSS hS hA1 hl hret
  have hT : ∀ w ∈ TBL, w.before args s = true := fun w h => hts w (List.mem_cons_of_mem _ h)
  have Fx0 : Fx p l m0 c cX0_close 2 s args yX0_close cX0_close 2 (some .boolean) D cs A := ⟨hx, hb, hml, hown, hts, hK, hSS⟩
  have hown : s.vm.findClass RX0 = some m0.cls := hown
  have hl : lv_has ls 2 [(0, .ref (ad 36)), (1, .int x1)] := hl
  unfold D_X0_close at hD
  refine lv_aload_n hx hb dX0_close_0 rfl (lv_at hl 0 rfl) ?_
  refine lv_iload_n hx hb dX0_close_1 rfl (lv_at hl 1 rfl) ?_
  obtain ⟨v1, z2, hD⟩ := b1_el hD
  refine rcV  (As := [.int x1]) (rest := []) Fx0 (c_X0_isOpen l hL hAd m x1 z2) hP (hD1 _ (hAd _ _)) hS (hA1 _ _ (hAd _ _) hS.1) hL (Nat.le_of_ble_eq_true rfl) (ms36 _ _) rfl tw_5_195 tw_5_234 tw_5_194 ts_56 tw_1_4 yd_X0_isOpen ⟨(Nat.le_of_ble_eq_true rfl), (Nat.le_of_ble_eq_true rfl)⟩ rfl hl.1 rfl (Nat.le_of_ble_eq_true rfl) dX0_close_2 (fun H locs hP hS => ?_)
  refine lv_if_ne (tgt := 10) hx hb dX0_close_5 (by decide) (fun c => ?_) (fun c => ?_)
  · have hD := ifn hD c
    refine lv_aload_n hx hb dX0_close_10 rfl (lv_at hl 0 rfl) ?_
    refine lv_dup hx hb dX0_close_11 rfl ?_
    refine rg  hx hb hT hu0 hown hK hP hL 36 7 (Nat.le_of_ble_eq_true rfl) (ms36 _ _) rfl (Nat.le_of_ble_eq_true rfl) (Fx0.T tw_1_111) rfl (v := .long (gl m 36 7)) rfl dX0_close_12 ?_
    refine lv_lconst (v := (1 : Int64)) hx hb dX0_close_15 (by decide) ?_
    refine lv_iload_n hx hb dX0_close_16 rfl (lv_at hl 1 rfl) ?_
    refine lv_lshl (v := ((1 : Int64) <<< (x1.toInt64 &&& 63))) hx hb dX0_close_17 rfl ?_
    refine lv_ldc2 (v := (-1 : Int64)) hx hb hown (Fx0.T tw_5_168) dX0_close_18 ?_
    refine lv_lxor hx hb dX0_close_21 ?_
    refine lv_land hx hb dX0_close_22 ?_
    obtain ⟨m3, em3, hD⟩ := bnd_el hD
    refine rpL  hx hb hT hu0 tyX0_ok nmX0 hown hK hP (hD1 _ (hAd _ _)) hS hL 36 7 (Nat.le_of_ble_eq_true rfl) (ms36 _ _) (ms36 _ _) rfl (Nat.le_of_ble_eq_true rfl) (Fx0.T tw_1_111) rfl rfl rfl rfl (Nat.le_of_ble_eq_true rfl) dX0_close_23 em3 (fun H locs hP hS => ?_)
    refine lv_iconst (v := (1 : Int32)) hx hb dX0_close_26 (by decide) ?_
    cases hD
    exact hret _ _ _ hP hS (fun Qc hq => W.zret hx hb hr rfl hq hS.2.2 dX0_close_27 hlocks)
  · have hD := ifp hD c
    refine lv_iconst (v := (0 : Int32)) hx hb dX0_close_8 (by decide) ?_
    cases hD
    exact hret _ _ _ hP hS (fun Qc hq => W.zret hx hb hr rfl hq hS.2.2 dX0_close_9 hlocks)

noncomputable def D_X0_reopen (x1 : Int32) (m : MM) : Option (Int32 × MM) := b1 (D_X0_isOpen x1 m) (fun v1 => if v1 = 0 then (b1 (D_X0_isFilled x1 m) (fun v3 => if v3 = 0 then (bnd (sl m 36 7 ((gl m 36 7) ||| ((1 : Int64) <<< (x1.toInt64 &&& 63)))) (fun m5 => some ((1 : Int32), m5))) else (some ((0 : Int32), m)))) else (some ((0 : Int32), m)))
set_option maxHeartbeats 4000000 in
set_option maxRecDepth 100000 in
theorem c_X0_reopen (l : Launch) {D : va_G} {cs : Nat → ClassId} {ad : Nat → Nat} {Wf : MM → va_W} (hL : Ln 51 ad (msh cs ad) Wf) (hAd : ∀ a0_ b0_ : MM, (Wf a0_).map (fun q => q.1) = (Wf b0_).map (fun q => q.1)) (m : MM) (x1 : Int32) {rr : Int32} {m' : MM} (hD : D_X0_reopen x1 m = some (rr, m')) : Ct l yX0_reopen cX0_reopen 2 (some .boolean) 1 21 D cs [.ref (ad 36), .int x1] (Wf m) (Wf m') (some (.int rr)) := by
  refine Ct.ofW (by decide) (Nat.le_of_ble_eq_true rfl) (hAd _ _) ?_
  intro p e s m0 below meth c A Q ls args hx hb hr hml hlocks hown hts hK hP hD1 hSS hS hA1 hl hret
  have hT : ∀ w ∈ TBL, w.before args s = true := fun w h => hts w (List.mem_cons_of_mem _ h)
  have Fx0 : Fx p l m0 c cX0_reopen 2 s args yX0_reopen cX0_reopen 2 (some .boolean) D cs A := ⟨hx, hb, hml, hown, hts, hK, hSS⟩
  have hown : s.vm.findClass RX0 = some m0.cls := hown
  have hl : lv_has ls 2 [(0, .ref (ad 36)), (1, .int x1)] := hl
  unfold D_X0_reopen at hD
  refine lv_aload_n hx hb dX0_reopen_0 rfl (lv_at hl 0 rfl) ?_
  refine lv_iload_n hx hb dX0_reopen_1 rfl (lv_at hl 1 rfl) ?_
  obtain ⟨v1, z2, hD⟩ := b1_el hD
  refine rcV  (As := [.int x1]) (rest := []) Fx0 (c_X0_isOpen l hL hAd m x1 z2) hP (hD1 _ (hAd _ _)) hS (hA1 _ _ (hAd _ _) hS.1) hL (Nat.le_of_ble_eq_true rfl) (ms36 _ _) rfl tw_5_195 tw_5_234 tw_5_194 ts_56 tw_1_4 yd_X0_isOpen ⟨(Nat.le_of_ble_eq_true rfl), (Nat.le_of_ble_eq_true rfl)⟩ rfl hl.1 rfl (Nat.le_of_ble_eq_true rfl) dX0_reopen_2 (fun H locs hP hS => ?_)
  refine lv_if_ne (tgt := 16) hx hb dX0_reopen_5 (by decide) (fun c => ?_) (fun c => ?_)
  · have hD := ifn hD c
    refine lv_iconst (v := (0 : Int32)) hx hb dX0_reopen_16 (by decide) ?_
    cases hD
    exact hret _ _ _ hP hS (fun Qc hq => W.zret hx hb hr rfl hq hS.2.2 dX0_reopen_17 hlocks)
  · have hD := ifp hD c
    refine lv_aload_n hx hb dX0_reopen_8 rfl (lv_at hl 0 rfl) ?_
    refine lv_iload_n hx hb dX0_reopen_9 rfl (lv_at hl 1 rfl) ?_
    obtain ⟨v3, z4, hD⟩ := b1_el hD
    refine rcV  (As := [.int x1]) (rest := []) Fx0 (c_X0_isFilled l hL hAd m x1 z4) hP (hD1 _ (hAd _ _)) hS (hA1 _ _ (hAd _ _) hS.1) hL (Nat.le_of_ble_eq_true rfl) (ms36 _ _) rfl tw_6_2 tw_5_239 tw_6_1 ts_61 tw_1_4 yd_X0_isFilled ⟨(Nat.le_of_ble_eq_true rfl), (Nat.le_of_ble_eq_true rfl)⟩ rfl hl.1 rfl (Nat.le_of_ble_eq_true rfl) dX0_reopen_10 (fun H locs hP hS => ?_)
    refine lv_if_eq (tgt := 18) hx hb dX0_reopen_13 (by decide) (fun c => ?_) (fun c => ?_)
    · have hD := ifp hD c
      refine lv_aload_n hx hb dX0_reopen_18 rfl (lv_at hl 0 rfl) ?_
      refine lv_dup hx hb dX0_reopen_19 rfl ?_
      refine rg  hx hb hT hu0 hown hK hP hL 36 7 (Nat.le_of_ble_eq_true rfl) (ms36 _ _) rfl (Nat.le_of_ble_eq_true rfl) (Fx0.T tw_1_111) rfl (v := .long (gl m 36 7)) rfl dX0_reopen_20 ?_
      refine lv_lconst (v := (1 : Int64)) hx hb dX0_reopen_23 (by decide) ?_
      refine lv_iload_n hx hb dX0_reopen_24 rfl (lv_at hl 1 rfl) ?_
      refine lv_lshl (v := ((1 : Int64) <<< (x1.toInt64 &&& 63))) hx hb dX0_reopen_25 rfl ?_
      refine lv_lor hx hb dX0_reopen_26 ?_
      obtain ⟨m5, em5, hD⟩ := bnd_el hD
      refine rpL  hx hb hT hu0 tyX0_ok nmX0 hown hK hP (hD1 _ (hAd _ _)) hS hL 36 7 (Nat.le_of_ble_eq_true rfl) (ms36 _ _) (ms36 _ _) rfl (Nat.le_of_ble_eq_true rfl) (Fx0.T tw_1_111) rfl rfl rfl rfl (Nat.le_of_ble_eq_true rfl) dX0_reopen_27 em5 (fun H locs hP hS => ?_)
      refine lv_iconst (v := (1 : Int32)) hx hb dX0_reopen_30 (by decide) ?_
      cases hD
      exact hret _ _ _ hP hS (fun Qc hq => W.zret hx hb hr rfl hq hS.2.2 dX0_reopen_31 hlocks)
    · have hD := ifn hD c
      refine lv_iconst (v := (0 : Int32)) hx hb dX0_reopen_16 (by decide) ?_
      cases hD
      exact hret _ _ _ hP hS (fun Qc hq => W.zret hx hb hr rfl hq hS.2.2 dX0_reopen_17 hlocks)

noncomputable def D_X0_fill (x1 : Int32) (x2 : Int32) (x3 : Int32) (m : MM) : Option MM := bnd (sl m 36 7 ((gl m 36 7) &&& (((1 : Int64) <<< (x1.toInt64 &&& 63)) ^^^ (-1 : Int64)))) (fun m1 => bnd (sl m1 36 8 ((gl m1 36 8) ||| ((1 : Int64) <<< (x1.toInt64 &&& 63)))) (fun m2 => if x1 < 0 ∨ 40 ≤ x1.toNatClampNeg then none else (bnd (si m2 40 x1.toNatClampNeg x3) (fun m4 => if x1 < 0 ∨ 40 ≤ x1.toNatClampNeg then none else (bnd (si m4 41 x1.toNatClampNeg x2) (fun m6 => some (m6)))))))
set_option maxHeartbeats 4000000 in
set_option maxRecDepth 100000 in
theorem c_X0_fill (l : Launch) {D : va_G} {cs : Nat → ClassId} {ad : Nat → Nat} {Wf : MM → va_W} (hL : Ln 51 ad (msh cs ad) Wf) (hAd : ∀ a0_ b0_ : MM, (Wf a0_).map (fun q => q.1) = (Wf b0_).map (fun q => q.1)) (m : MM) (x1 : Int32) (x2 : Int32) (x3 : Int32) {m' : MM} (hD : D_X0_fill x1 x2 x3 m = some (m')) : Ct l yX0_fill cX0_fill 4 none 0 0 D cs [.ref (ad 36), .int x1, .int x2, .int x3] (Wf m) (Wf m') (none) := by
  refine Ct.ofW (by decide) (Nat.le_of_ble_eq_true rfl) (hAd _ _) ?_
  intro p e s m0 below meth c A Q ls args hx hb hr hml hlocks hown hts hK hP hD1 hSS hS hA1 hl hret
  have hT : ∀ w ∈ TBL, w.before args s = true := fun w h => hts w (List.mem_cons_of_mem _ h)
  have Fx0 : Fx p l m0 c cX0_fill 4 s args yX0_fill cX0_fill 4 none D cs A := ⟨hx, hb, hml, hown, hts, hK, hSS⟩
  have hown : s.vm.findClass RX0 = some m0.cls := hown
  have hl : lv_has ls 4 [(0, .ref (ad 36)), (1, .int x1), (2, .int x2), (3, .int x3)] := hl
  unfold D_X0_fill at hD
  refine lv_aload_n hx hb dX0_fill_0 rfl (lv_at hl 0 rfl) ?_
  refine lv_dup hx hb dX0_fill_1 rfl ?_
  refine rg  hx hb hT hu0 hown hK hP hL 36 7 (Nat.le_of_ble_eq_true rfl) (ms36 _ _) rfl (Nat.le_of_ble_eq_true rfl) (Fx0.T tw_1_111) rfl (v := .long (gl m 36 7)) rfl dX0_fill_2 ?_
  refine lv_lconst (v := (1 : Int64)) hx hb dX0_fill_5 (by decide) ?_
  refine lv_iload_n hx hb dX0_fill_6 rfl (lv_at hl 1 rfl) ?_
  refine lv_lshl (v := ((1 : Int64) <<< (x1.toInt64 &&& 63))) hx hb dX0_fill_7 rfl ?_
  refine lv_ldc2 (v := (-1 : Int64)) hx hb hown (Fx0.T tw_5_168) dX0_fill_8 ?_
  refine lv_lxor hx hb dX0_fill_11 ?_
  refine lv_land hx hb dX0_fill_12 ?_
  obtain ⟨m1, em1, hD⟩ := bnd_el hD
  refine rpL  hx hb hT hu0 tyX0_ok nmX0 hown hK hP (hD1 _ (hAd _ _)) hS hL 36 7 (Nat.le_of_ble_eq_true rfl) (ms36 _ _) (ms36 _ _) rfl (Nat.le_of_ble_eq_true rfl) (Fx0.T tw_1_111) rfl rfl rfl rfl (Nat.le_of_ble_eq_true rfl) dX0_fill_13 em1 (fun H locs hP hS => ?_)
  refine lv_aload_n hx hb dX0_fill_16 rfl (lv_at hl 0 rfl) ?_
  refine lv_dup hx hb dX0_fill_17 rfl ?_
  refine rg  hx hb hT hu0 hown hK hP hL 36 8 (Nat.le_of_ble_eq_true rfl) (ms36 _ _) rfl (Nat.le_of_ble_eq_true rfl) (Fx0.T tw_1_113) rfl (v := .long (gl m1 36 8)) rfl dX0_fill_18 ?_
  refine lv_lconst (v := (1 : Int64)) hx hb dX0_fill_21 (by decide) ?_
  refine lv_iload_n hx hb dX0_fill_22 rfl (lv_at hl 1 rfl) ?_
  refine lv_lshl (v := ((1 : Int64) <<< (x1.toInt64 &&& 63))) hx hb dX0_fill_23 rfl ?_
  refine lv_lor hx hb dX0_fill_24 ?_
  obtain ⟨m2, em2, hD⟩ := bnd_el hD
  refine rpL  hx hb hT hu0 tyX0_ok nmX0 hown hK hP (hD1 _ (hAd _ _)) hS hL 36 8 (Nat.le_of_ble_eq_true rfl) (ms36 _ _) (ms36 _ _) rfl (Nat.le_of_ble_eq_true rfl) (Fx0.T tw_1_113) rfl rfl rfl rfl (Nat.le_of_ble_eq_true rfl) dX0_fill_25 em2 (fun H locs hP hS => ?_)
  refine lv_aload_n hx hb dX0_fill_28 rfl (lv_at hl 0 rfl) ?_
  refine rg  hx hb hT hu0 hown hK hP hL 36 4 (Nat.le_of_ble_eq_true rfl) (ms36 _ _) rfl (Nat.le_of_ble_eq_true rfl) (Fx0.T tw_1_107) rfl (v := .ref (ad 40)) rfl dX0_fill_29 ?_
  refine lv_iload_n hx hb dX0_fill_32 rfl (lv_at hl 1 rfl) ?_
  refine lv_iload_n hx hb dX0_fill_33 rfl (lv_at hl 3 rfl) ?_
  obtain ⟨h3, hD⟩ := gd_el hD
  obtain ⟨m4, em4, hD⟩ := bnd_el hD
  refine riast  hx hb hK hP (hD1 _ (hAd _ _)) hS hL 40 (Nat.le_of_ble_eq_true rfl) (fun _ => ms40 _ _) h3 rfl dX0_fill_34 em4 (fun H locs hP hS => ?_)
  refine lv_aload_n hx hb dX0_fill_35 rfl (lv_at hl 0 rfl) ?_
  refine rg  hx hb hT hu0 hown hK hP hL 36 5 (Nat.le_of_ble_eq_true rfl) (ms36 _ _) rfl (Nat.le_of_ble_eq_true rfl) (Fx0.T tw_1_108) rfl (v := .ref (ad 41)) rfl dX0_fill_36 ?_
  refine lv_iload_n hx hb dX0_fill_39 rfl (lv_at hl 1 rfl) ?_
  refine lv_iload_n hx hb dX0_fill_40 rfl (lv_at hl 2 rfl) ?_
  obtain ⟨h5, hD⟩ := gd_el hD
  obtain ⟨m6, em6, hD⟩ := bnd_el hD
  refine riast  hx hb hK hP (hD1 _ (hAd _ _)) hS hL 41 (Nat.le_of_ble_eq_true rfl) (fun _ => ms41 _ _) h5 rfl dX0_fill_41 em6 (fun H locs hP hS => ?_)
  cases hD
  exact hret _ _ _ hP hS (fun Qc hq => W.vret hx hb hr hq hS.2.2 dX0_fill_42 hlocks)

noncomputable def D_X0_reopenFilled (m : MM) : Option (Int32 × MM) := b1 (D_J13_bitCount_95d88 (gl m 36 8)) (fun v1 => bnd (sl m 36 7 ((gl m 36 7) ||| (gl m 36 8))) (fun m3 => bnd (sl m3 36 8 (0 : Int64)) (fun m4 => some (v1, m4))))
set_option maxHeartbeats 4000000 in
set_option maxRecDepth 100000 in
theorem c_X0_reopenFilled (l : Launch) {D : va_G} {cs : Nat → ClassId} {ad : Nat → Nat} {Wf : MM → va_W} (hL : Ln 51 ad (msh cs ad) Wf) (hAd : ∀ a0_ b0_ : MM, (Wf a0_).map (fun q => q.1) = (Wf b0_).map (fun q => q.1)) (m : MM) {rr : Int32} {m' : MM} (hD : D_X0_reopenFilled m = some (rr, m')) : Ct l yX0_reopenFilled cX0_reopenFilled 2 (some .int) 1 21 D cs [.ref (ad 36)] (Wf m) (Wf m') (some (.int rr)) := by
  refine Ct.ofW (by decide) (Nat.le_of_ble_eq_true rfl) (hAd _ _) ?_
  intro p e s m0 below meth c A Q ls args hx hb hr hml hlocks hown hts hK hP hD1 hSS hS hA1 hl hret
  have hT : ∀ w ∈ TBL, w.before args s = true := fun w h => hts w (List.mem_cons_of_mem _ h)
  have Fx0 : Fx p l m0 c cX0_reopenFilled 2 s args yX0_reopenFilled cX0_reopenFilled 2 (some .int) D cs A := ⟨hx, hb, hml, hown, hts, hK, hSS⟩
  have hown : s.vm.findClass RX0 = some m0.cls := hown
  have hl : lv_has ls 2 [(0, .ref (ad 36))] := hl
  unfold D_X0_reopenFilled at hD
  refine lv_aload_n hx hb dX0_reopenFilled_0 rfl (lv_at hl 0 rfl) ?_
  refine rg  hx hb hT hu0 hown hK hP hL 36 8 (Nat.le_of_ble_eq_true rfl) (ms36 _ _) rfl (Nat.le_of_ble_eq_true rfl) (Fx0.T tw_1_113) rfl (v := .long (gl m 36 8)) rfl dX0_reopenFilled_1 ?_
  obtain ⟨v1, z2, hD⟩ := b1_el hD
  refine rcS (As := [.long (gl m 36 8)]) (rest := []) Fx0 (c_J13_bitCount_95d88 l (gl m 36 8) z2) hP (hD1 _ (hAd _ _)) hS (hA1 _ _ (hAd _ _) hS.1) tw_6_13 tw_6_11 tw_6_12 tw_1_28 yd_J13_bitCount_95d88 ⟨(Nat.le_of_ble_eq_true rfl), (Nat.le_of_ble_eq_true rfl)⟩ rfl hl.1 rfl (Nat.le_of_ble_eq_true rfl) dX0_reopenFilled_4 (fun H locs hP hS => ?_)
  refine lv_istore_n (lv' := [(1, .int v1), (0, .ref (ad 36))]) hx hb dX0_reopenFilled_7 rfl hl (by decide) rfl (fun ls hl => ?_)
  refine lv_aload_n hx hb dX0_reopenFilled_8 rfl (lv_at hl 1 rfl) ?_
  refine lv_dup hx hb dX0_reopenFilled_9 rfl ?_
  refine rg  hx hb hT hu0 hown hK hP hL 36 7 (Nat.le_of_ble_eq_true rfl) (ms36 _ _) rfl (Nat.le_of_ble_eq_true rfl) (Fx0.T tw_1_111) rfl (v := .long (gl m 36 7)) rfl dX0_reopenFilled_10 ?_
  refine lv_aload_n hx hb dX0_reopenFilled_13 rfl (lv_at hl 1 rfl) ?_
  refine rg  hx hb hT hu0 hown hK hP hL 36 8 (Nat.le_of_ble_eq_true rfl) (ms36 _ _) rfl (Nat.le_of_ble_eq_true rfl) (Fx0.T tw_1_113) rfl (v := .long (gl m 36 8)) rfl dX0_reopenFilled_14 ?_
  refine lv_lor hx hb dX0_reopenFilled_17 ?_
  obtain ⟨m3, em3, hD⟩ := bnd_el hD
  refine rpL  hx hb hT hu0 tyX0_ok nmX0 hown hK hP (hD1 _ (hAd _ _)) hS hL 36 7 (Nat.le_of_ble_eq_true rfl) (ms36 _ _) (ms36 _ _) rfl (Nat.le_of_ble_eq_true rfl) (Fx0.T tw_1_111) rfl rfl rfl rfl (Nat.le_of_ble_eq_true rfl) dX0_reopenFilled_18 em3 (fun H locs hP hS => ?_)
  refine lv_aload_n hx hb dX0_reopenFilled_21 rfl (lv_at hl 1 rfl) ?_
  refine lv_lconst (v := (0 : Int64)) hx hb dX0_reopenFilled_22 (by decide) ?_
  obtain ⟨m4, em4, hD⟩ := bnd_el hD
  refine rpL  hx hb hT hu0 tyX0_ok nmX0 hown hK hP (hD1 _ (hAd _ _)) hS hL 36 8 (Nat.le_of_ble_eq_true rfl) (ms36 _ _) (ms36 _ _) rfl (Nat.le_of_ble_eq_true rfl) (Fx0.T tw_1_113) rfl rfl rfl rfl (Nat.le_of_ble_eq_true rfl) dX0_reopenFilled_23 em4 (fun H locs hP hS => ?_)
  refine lv_iload_n hx hb dX0_reopenFilled_26 rfl (lv_at hl 0 rfl) ?_
  cases hD
  exact hret _ _ _ hP hS (fun Qc hq => W.iret hx hb hr hq hS.2.2 dX0_reopenFilled_27 hlocks)

noncomputable def D_X0_openOf (x1 : Int32) (m : MM) : Option Int32 := if x1 < 0 ∨ 8 ≤ x1.toNatClampNeg then none else (b1 (D_J13_bitCount_95d88 ((gl m 36 7) &&& (gl m 42 x1.toNatClampNeg))) (fun v2 => some (v2)))
noncomputable def D_X0_boardNeeds (x1 : Int32) (m : MM) : Option Int32 := if x1 < 0 ∨ 8 ≤ x1.toNatClampNeg then none else (b1 (D_J13_bitCount_95d88 (((gl m 36 7) ||| (gl m 36 8)) &&& (gl m 42 x1.toNatClampNeg))) (fun v2 => some (v2)))
noncomputable def D_X0_fillable_7 (m : MM) : Nat → Int64 → Int32 → Option Int64
  | 0, _, _ => none
  | n + 1, x1, x3 => if (gi m 36 9) ≤ x3 then (some (x1)) else (if x3 < 0 ∨ 20 ≤ x3.toNatClampNeg then none else (b1 (D_X0_isOpen (gi m 43 x3.toNatClampNeg) m) (fun v3 => if v3 = 0 then (bnd (x3 + (1 : Int32)) (fun v5 => D_X0_fillable_7 m n x1 v5)) else (if x3 < 0 ∨ 20 ≤ x3.toNatClampNeg then none else (bnd ((x1 &&& (((1 : Int64) <<< ((gi m 44 x3.toNatClampNeg).toInt64 &&& 63)) ^^^ (-1 : Int64)))) (fun v7 => bnd (x3 + (1 : Int32)) (fun v8 => D_X0_fillable_7 m n v7 v8)))))))
noncomputable def D_X0_fillable (m : MM) : Option Int64 := bnd ((gl m 36 7)) (fun v1 => D_X0_fillable_7 m FU v1 (0 : Int32))
set_option maxHeartbeats 4000000 in
set_option maxRecDepth 100000 in
theorem c_X0_fillable (l : Launch) {D : va_G} {cs : Nat → ClassId} {ad : Nat → Nat} {Wf : MM → va_W} (hL : Ln 51 ad (msh cs ad) Wf) (hAd : ∀ a0_ b0_ : MM, (Wf a0_).map (fun q => q.1) = (Wf b0_).map (fun q => q.1)) (m : MM) {rr : Int64} (hD : D_X0_fillable m = some (rr)) : Ct l yX0_fillable cX0_fillable 4 (some .long) 1 21 D cs [.ref (ad 36)] (Wf m) (Wf m) (some (.long rr)) := by
  refine Ct.ofW (by decide) (Nat.le_of_ble_eq_true rfl) rfl ?_
  intro p e s m0 below meth c A Q ls args hx hb hr hml hlocks hown hts hK hP hD1 hSS hS hA1 hl hret
  have hT : ∀ w ∈ TBL, w.before args s = true := fun w h => hts w (List.mem_cons_of_mem _ h)
  have Fx0 : Fx p l m0 c cX0_fillable 4 s args yX0_fillable cX0_fillable 4 (some .long) D cs A := ⟨hx, hb, hml, hown, hts, hK, hSS⟩
  have hown : s.vm.findClass RX0 = some m0.cls := hown
  have hl : lv_has ls 4 [(0, .ref (ad 36))] := hl
  unfold D_X0_fillable at hD
  have c_7 : ∀ (n : Nat), ∀ (x1 : Int64) (x3 : Int32) (H : Heap) (locs : List Loc) (ls : Array Slot), D_X0_fillable_7 m n x1 x3 = some (rr) → va_P D vwCl (Wf m) H → va_S A s.heap H locs → lv_has ls 4 [(0, .ref (ad 36)), (1, .long x1), (3, .int x3)] → W p l e ({ frames := 1, cells := 0, slots := 0, locals := 21 } : Room) s m0 args below meth c H locs 0 0 Q (F0 m0 7 ls []) := by
    intro n
    induction n with
    | zero =>
      intro x1 x3 H locs ls hD hP hS hl
      exact nn_el hD
    | succ n ih =>
      intro x1 x3 H locs ls hD hP hS hl
      rw [D_X0_fillable_7] at hD
      refine lv_iload_n hx hb dX0_fillable_7 rfl (lv_at hl 2 rfl) ?_
      refine lv_aload_n hx hb dX0_fillable_8 rfl (lv_at hl 0 rfl) ?_
      refine rg  hx hb hT hu0 hown hK hP hL 36 9 (Nat.le_of_ble_eq_true rfl) (ms36 _ _) rfl (Nat.le_of_ble_eq_true rfl) (Fx0.T tw_1_115) rfl (v := .int (gi m 36 9)) rfl dX0_fillable_9 ?_
      refine lv_icmp_ge (tgt := 49) hx hb dX0_fillable_12 (by decide) (fun c => ?_) (fun c => ?_)
      · have hD := ifp hD c
        refine lv_lload_n hx hb dX0_fillable_49 rfl (lv_at hl 1 rfl) ?_
        cases hD
        exact hret _ _ _ hP hS (fun Qc hq => W.lret hx hb hr hq hS.2.2 dX0_fillable_50 hlocks)
      · have hD := ifn hD c
        refine lv_aload_n hx hb dX0_fillable_15 rfl (lv_at hl 0 rfl) ?_
        refine lv_aload_n hx hb dX0_fillable_16 rfl (lv_at hl 0 rfl) ?_
        refine rg  hx hb hT hu0 hown hK hP hL 36 10 (Nat.le_of_ble_eq_true rfl) (ms36 _ _) rfl (Nat.le_of_ble_eq_true rfl) (Fx0.T tw_1_118) rfl (v := .ref (ad 43)) rfl dX0_fillable_17 ?_
        refine lv_iload_n hx hb dX0_fillable_20 rfl (lv_at hl 2 rfl) ?_
        obtain ⟨h2, hD⟩ := gd_el hD
        refine riald  hx hb hK hP hL 43 (Nat.le_of_ble_eq_true rfl) (ms43 _ _) h2 rfl dX0_fillable_21 ?_
        obtain ⟨v3, z4, hD⟩ := b1_el hD
        refine rcV  (As := [.int (gi m 43 x3.toNatClampNeg)]) (rest := []) Fx0 (c_X0_isOpen l hL hAd m (gi m 43 x3.toNatClampNeg) z4) hP (hD1 _ (hAd _ _)) hS (hA1 _ _ (hAd _ _) hS.1) hL (Nat.le_of_ble_eq_true rfl) (ms36 _ _) rfl tw_5_195 tw_5_234 tw_5_194 ts_56 tw_1_4 yd_X0_isOpen ⟨(Nat.le_of_ble_eq_true rfl), (Nat.le_of_ble_eq_true rfl)⟩ rfl hl.1 rfl (Nat.le_of_ble_eq_true rfl) dX0_fillable_22 (fun H locs hP hS => ?_)
        refine lv_if_eq (tgt := 43) hx hb dX0_fillable_25 (by decide) (fun c => ?_) (fun c => ?_)
        · have hD := ifp hD c
          obtain ⟨v5, ev5, hD⟩ := bnd_el hD
          refine lv_iinc (v := v5) (lv' := [(3, .int v5), (0, .ref (ad 36)), (1, .long x1)]) hx hb dX0_fillable_43 hl (k := 2) rfl (by rw [ev5]; rfl) (by decide) rfl (fun ls hl => ?_)
          refine lv_goto (tgt := 7) hx hb dX0_fillable_46 (by decide) ?_
          exact ih _ _ _ _ _ hD hP hS (lv_sub hl [1, 2, 0] rfl)
        · have hD := ifn hD c
          refine lv_lload_n hx hb dX0_fillable_28 rfl (lv_at hl 1 rfl) ?_
          refine lv_lconst (v := (1 : Int64)) hx hb dX0_fillable_29 (by decide) ?_
          refine lv_aload_n hx hb dX0_fillable_30 rfl (lv_at hl 0 rfl) ?_
          refine rg  hx hb hT hu0 hown hK hP hL 36 11 (Nat.le_of_ble_eq_true rfl) (ms36 _ _) rfl (Nat.le_of_ble_eq_true rfl) (Fx0.T tw_1_119) rfl (v := .ref (ad 44)) rfl dX0_fillable_31 ?_
          refine lv_iload_n hx hb dX0_fillable_34 rfl (lv_at hl 2 rfl) ?_
          obtain ⟨h6, hD⟩ := gd_el hD
          refine riald  hx hb hK hP hL 44 (Nat.le_of_ble_eq_true rfl) (ms44 _ _) h6 rfl dX0_fillable_35 ?_
          refine lv_lshl (v := ((1 : Int64) <<< ((gi m 44 x3.toNatClampNeg).toInt64 &&& 63))) hx hb dX0_fillable_36 rfl ?_
          refine lv_ldc2 (v := (-1 : Int64)) hx hb hown (Fx0.T tw_5_168) dX0_fillable_37 ?_
          refine lv_lxor hx hb dX0_fillable_40 ?_
          refine lv_land hx hb dX0_fillable_41 ?_
          obtain ⟨v7, ev7, hD⟩ := bnd_el hD
          refine lv_nml ev7 ?_
          refine lv_lstore_n (lv' := [(1, .long v7), (0, .ref (ad 36)), (3, .int x3)]) hx hb dX0_fillable_42 rfl hl (by decide) rfl (fun ls hl => ?_)
          obtain ⟨v8, ev8, hD⟩ := bnd_el hD
          refine lv_iinc (v := v8) (lv' := [(3, .int v8), (1, .long v7), (0, .ref (ad 36))]) hx hb dX0_fillable_43 hl (k := 2) rfl (by rw [ev8]; rfl) (by decide) rfl (fun ls hl => ?_)
          refine lv_goto (tgt := 7) hx hb dX0_fillable_46 (by decide) ?_
          exact ih _ _ _ _ _ hD hP hS (lv_sub hl [2, 1, 0] rfl)
  refine lv_aload_n hx hb dX0_fillable_0 rfl (lv_at hl 0 rfl) ?_
  refine rg  hx hb hT hu0 hown hK hP hL 36 7 (Nat.le_of_ble_eq_true rfl) (ms36 _ _) rfl (Nat.le_of_ble_eq_true rfl) (Fx0.T tw_1_111) rfl (v := .long (gl m 36 7)) rfl dX0_fillable_1 ?_
  obtain ⟨v1, ev1, hD⟩ := bnd_el hD
  refine lv_nml ev1 ?_
  refine lv_lstore_n (lv' := [(1, .long v1), (0, .ref (ad 36))]) hx hb dX0_fillable_4 rfl hl (by decide) rfl (fun ls hl => ?_)
  refine lv_iconst (v := (0 : Int32)) hx hb dX0_fillable_5 (by decide) ?_
  refine lv_istore_n (lv' := [(3, .int (0 : Int32)), (1, .long v1), (0, .ref (ad 36))]) hx hb dX0_fillable_6 rfl hl (by decide) rfl (fun ls hl => ?_)
  exact c_7 FU _ _ _ _ _ hD hP hS (lv_sub hl [2, 1, 0] rfl)

noncomputable def D_X0_pairIndex_2 (m : MM) : Nat → Int32 → Int32 → Int32 → Option Int32
  | 0, _, _, _ => none
  | n + 1, x1, x2, x3 => if (gi m 36 9) ≤ x3 then (some ((-1 : Int32))) else (if x3 < 0 ∨ 20 ≤ x3.toNatClampNeg then none else (if (gi m 43 x3.toNatClampNeg) = x1 then (if x3 < 0 ∨ 20 ≤ x3.toNatClampNeg then none else (if (gi m 44 x3.toNatClampNeg) = x2 then (some (x3)) else (bnd (x3 + (1 : Int32)) (fun v4 => D_X0_pairIndex_2 m n x1 x2 v4)))) else (bnd (x3 + (1 : Int32)) (fun v2 => D_X0_pairIndex_2 m n x1 x2 v2))))
noncomputable def D_X0_pairIndex (x1 : Int32) (x2 : Int32) (m : MM) : Option Int32 := D_X0_pairIndex_2 m FU x1 x2 (0 : Int32)
set_option maxHeartbeats 4000000 in
set_option maxRecDepth 100000 in
theorem c_X0_pairIndex (l : Launch) {D : va_G} {cs : Nat → ClassId} {ad : Nat → Nat} {Wf : MM → va_W} (hL : Ln 51 ad (msh cs ad) Wf) (hAd : ∀ a0_ b0_ : MM, (Wf a0_).map (fun q => q.1) = (Wf b0_).map (fun q => q.1)) (m : MM) (x1 : Int32) (x2 : Int32) {rr : Int32} (hD : D_X0_pairIndex x1 x2 m = some (rr)) : Ct l yX0_pairIndex cX0_pairIndex 4 (some .int) 0 0 D cs [.ref (ad 36), .int x1, .int x2] (Wf m) (Wf m) (some (.int rr)) := by
  refine Ct.ofW (by decide) (Nat.le_of_ble_eq_true rfl) rfl ?_
  intro p e s m0 below meth c A Q ls args hx hb hr hml hlocks hown hts hK hP hD1 hSS hS hA1 hl hret
  have hT : ∀ w ∈ TBL, w.before args s = true := fun w h => hts w (List.mem_cons_of_mem _ h)
  have Fx0 : Fx p l m0 c cX0_pairIndex 4 s args yX0_pairIndex cX0_pairIndex 4 (some .int) D cs A := ⟨hx, hb, hml, hown, hts, hK, hSS⟩
  have hown : s.vm.findClass RX0 = some m0.cls := hown
  have hl : lv_has ls 4 [(0, .ref (ad 36)), (1, .int x1), (2, .int x2)] := hl
  unfold D_X0_pairIndex at hD
  have c_2 : ∀ (n : Nat), ∀ (x1 : Int32) (x2 : Int32) (x3 : Int32) (H : Heap) (locs : List Loc) (ls : Array Slot), D_X0_pairIndex_2 m n x1 x2 x3 = some (rr) → va_P D vwCl (Wf m) H → va_S A s.heap H locs → lv_has ls 4 [(0, .ref (ad 36)), (1, .int x1), (2, .int x2), (3, .int x3)] → W p l e ({ frames := 0, cells := 0, slots := 0, locals := 0 } : Room) s m0 args below meth c H locs 0 0 Q (F0 m0 2 ls []) := by
    intro n
    induction n with
    | zero =>
      intro x1 x2 x3 H locs ls hD hP hS hl
      exact nn_el hD
    | succ n ih =>
      intro x1 x2 x3 H locs ls hD hP hS hl
      rw [D_X0_pairIndex_2] at hD
      refine lv_iload_n hx hb dX0_pairIndex_2 rfl (lv_at hl 3 rfl) ?_
      refine lv_aload_n hx hb dX0_pairIndex_3 rfl (lv_at hl 0 rfl) ?_
      refine rg  hx hb hT hu0 hown hK hP hL 36 9 (Nat.le_of_ble_eq_true rfl) (ms36 _ _) rfl (Nat.le_of_ble_eq_true rfl) (Fx0.T tw_1_115) rfl (v := .int (gi m 36 9)) rfl dX0_pairIndex_4 ?_
      refine lv_icmp_ge (tgt := 38) hx hb dX0_pairIndex_7 (by decide) (fun c => ?_) (fun c => ?_)
      · have hD := ifp hD c
        refine lv_iconst (v := (-1 : Int32)) hx hb dX0_pairIndex_38 (by decide) ?_
        cases hD
        exact hret _ _ _ hP hS (fun Qc hq => W.iret hx hb hr hq hS.2.2 dX0_pairIndex_39 hlocks)
      · have hD := ifn hD c
        refine lv_aload_n hx hb dX0_pairIndex_10 rfl (lv_at hl 0 rfl) ?_
        refine rg  hx hb hT hu0 hown hK hP hL 36 10 (Nat.le_of_ble_eq_true rfl) (ms36 _ _) rfl (Nat.le_of_ble_eq_true rfl) (Fx0.T tw_1_118) rfl (v := .ref (ad 43)) rfl dX0_pairIndex_11 ?_
        refine lv_iload_n hx hb dX0_pairIndex_14 rfl (lv_at hl 3 rfl) ?_
        obtain ⟨h1, hD⟩ := gd_el hD
        refine riald  hx hb hK hP hL 43 (Nat.le_of_ble_eq_true rfl) (ms43 _ _) h1 rfl dX0_pairIndex_15 ?_
        refine lv_iload_n hx hb dX0_pairIndex_16 rfl (lv_at hl 1 rfl) ?_
        refine lv_icmp_ne (tgt := 32) hx hb dX0_pairIndex_17 (by decide) (fun c => ?_) (fun c => ?_)
        · have hD := ifn hD c
          obtain ⟨v2, ev2, hD⟩ := bnd_el hD
          refine lv_iinc (v := v2) (lv' := [(3, .int v2), (0, .ref (ad 36)), (1, .int x1), (2, .int x2)]) hx hb dX0_pairIndex_32 hl (k := 3) rfl (by rw [ev2]; rfl) (by decide) rfl (fun ls hl => ?_)
          refine lv_goto (tgt := 2) hx hb dX0_pairIndex_35 (by decide) ?_
          exact ih _ _ _ _ _ _ hD hP hS (lv_sub hl [1, 2, 3, 0] rfl)
        · have hD := ifp hD c
          refine lv_aload_n hx hb dX0_pairIndex_20 rfl (lv_at hl 0 rfl) ?_
          refine rg  hx hb hT hu0 hown hK hP hL 36 11 (Nat.le_of_ble_eq_true rfl) (ms36 _ _) rfl (Nat.le_of_ble_eq_true rfl) (Fx0.T tw_1_119) rfl (v := .ref (ad 44)) rfl dX0_pairIndex_21 ?_
          refine lv_iload_n hx hb dX0_pairIndex_24 rfl (lv_at hl 3 rfl) ?_
          obtain ⟨h3, hD⟩ := gd_el hD
          refine riald  hx hb hK hP hL 44 (Nat.le_of_ble_eq_true rfl) (ms44 _ _) h3 rfl dX0_pairIndex_25 ?_
          refine lv_iload_n hx hb dX0_pairIndex_26 rfl (lv_at hl 2 rfl) ?_
          refine lv_icmp_ne (tgt := 32) hx hb dX0_pairIndex_27 (by decide) (fun c => ?_) (fun c => ?_)
          · have hD := ifn hD c
            obtain ⟨v4, ev4, hD⟩ := bnd_el hD
            refine lv_iinc (v := v4) (lv' := [(3, .int v4), (0, .ref (ad 36)), (1, .int x1), (2, .int x2)]) hx hb dX0_pairIndex_32 hl (k := 3) rfl (by rw [ev4]; rfl) (by decide) rfl (fun ls hl => ?_)
            refine lv_goto (tgt := 2) hx hb dX0_pairIndex_35 (by decide) ?_
            exact ih _ _ _ _ _ _ hD hP hS (lv_sub hl [1, 2, 3, 0] rfl)
          · have hD := ifp hD c
            refine lv_iload_n hx hb dX0_pairIndex_30 rfl (lv_at hl 3 rfl) ?_
            cases hD
            exact hret _ _ _ hP hS (fun Qc hq => W.iret hx hb hr hq hS.2.2 dX0_pairIndex_31 hlocks)
  refine lv_iconst (v := (0 : Int32)) hx hb dX0_pairIndex_0 (by decide) ?_
  refine lv_istore_n (lv' := [(3, .int (0 : Int32)), (0, .ref (ad 36)), (1, .int x1), (2, .int x2)]) hx hb dX0_pairIndex_1 rfl hl (by decide) rfl (fun ls hl => ?_)
  exact c_2 FU _ _ _ _ _ _ hD hP hS (lv_sub hl [1, 2, 3, 0] rfl)

noncomputable def D_X0_addPair (x1 : Int32) (x2 : Int32) (m : MM) : Option MM := if (20 : Int32) ≤ (gi m 36 9) then (some (m)) else (if (gi m 36 9) < 0 ∨ 20 ≤ (gi m 36 9).toNatClampNeg then none else (bnd (si m 43 ((gi m 36 9).toNatClampNeg) x1) (fun m2 => if (gi m2 36 9) < 0 ∨ 20 ≤ (gi m2 36 9).toNatClampNeg then none else (bnd (si m2 44 ((gi m2 36 9).toNatClampNeg) x2) (fun m4 => bnd (si m4 36 9 ((gi m4 36 9) + (1 : Int32))) (fun m5 => some (m5)))))))
set_option maxHeartbeats 4000000 in
set_option maxRecDepth 100000 in
theorem c_X0_addPair (l : Launch) {D : va_G} {cs : Nat → ClassId} {ad : Nat → Nat} {Wf : MM → va_W} (hL : Ln 51 ad (msh cs ad) Wf) (hAd : ∀ a0_ b0_ : MM, (Wf a0_).map (fun q => q.1) = (Wf b0_).map (fun q => q.1)) (m : MM) (x1 : Int32) (x2 : Int32) {m' : MM} (hD : D_X0_addPair x1 x2 m = some (m')) : Ct l yX0_addPair cX0_addPair 3 none 0 0 D cs [.ref (ad 36), .int x1, .int x2] (Wf m) (Wf m') (none) := by
  refine Ct.ofW (by decide) (Nat.le_of_ble_eq_true rfl) (hAd _ _) ?_
  intro p e s m0 below meth c A Q ls args hx hb hr hml hlocks hown hts hK hP hD1 hSS hS hA1 hl hret
  have hT : ∀ w ∈ TBL, w.before args s = true := fun w h => hts w (List.mem_cons_of_mem _ h)
  have Fx0 : Fx p l m0 c cX0_addPair 3 s args yX0_addPair cX0_addPair 3 none D cs A := ⟨hx, hb, hml, hown, hts, hK, hSS⟩
  have hown : s.vm.findClass RX0 = some m0.cls := hown
  have hl : lv_has ls 3 [(0, .ref (ad 36)), (1, .int x1), (2, .int x2)] := hl
  unfold D_X0_addPair at hD
  refine lv_aload_n hx hb dX0_addPair_0 rfl (lv_at hl 0 rfl) ?_
  refine rg  hx hb hT hu0 hown hK hP hL 36 9 (Nat.le_of_ble_eq_true rfl) (ms36 _ _) rfl (Nat.le_of_ble_eq_true rfl) (Fx0.T tw_1_115) rfl (v := .int (gi m 36 9)) rfl dX0_addPair_1 ?_
  refine lv_bipush (v := (20 : Int32)) hx hb dX0_addPair_4 (by decide) ?_
  refine lv_icmp_ge (tgt := 39) hx hb dX0_addPair_6 (by decide) (fun c => ?_) (fun c => ?_)
  · have hD := ifp hD c
    cases hD
    exact hret _ _ _ hP hS (fun Qc hq => W.vret hx hb hr hq hS.2.2 dX0_addPair_39 hlocks)
  · have hD := ifn hD c
    refine lv_aload_n hx hb dX0_addPair_9 rfl (lv_at hl 0 rfl) ?_
    refine rg  hx hb hT hu0 hown hK hP hL 36 10 (Nat.le_of_ble_eq_true rfl) (ms36 _ _) rfl (Nat.le_of_ble_eq_true rfl) (Fx0.T tw_1_118) rfl (v := .ref (ad 43)) rfl dX0_addPair_10 ?_
    refine lv_aload_n hx hb dX0_addPair_13 rfl (lv_at hl 0 rfl) ?_
    refine rg  hx hb hT hu0 hown hK hP hL 36 9 (Nat.le_of_ble_eq_true rfl) (ms36 _ _) rfl (Nat.le_of_ble_eq_true rfl) (Fx0.T tw_1_115) rfl (v := .int (gi m 36 9)) rfl dX0_addPair_14 ?_
    refine lv_iload_n hx hb dX0_addPair_17 rfl (lv_at hl 1 rfl) ?_
    obtain ⟨h1, hD⟩ := gd_el hD
    obtain ⟨m2, em2, hD⟩ := bnd_el hD
    refine riast  hx hb hK hP (hD1 _ (hAd _ _)) hS hL 43 (Nat.le_of_ble_eq_true rfl) (fun _ => ms43 _ _) h1 rfl dX0_addPair_18 em2 (fun H locs hP hS => ?_)
    refine lv_aload_n hx hb dX0_addPair_19 rfl (lv_at hl 0 rfl) ?_
    refine rg  hx hb hT hu0 hown hK hP hL 36 11 (Nat.le_of_ble_eq_true rfl) (ms36 _ _) rfl (Nat.le_of_ble_eq_true rfl) (Fx0.T tw_1_119) rfl (v := .ref (ad 44)) rfl dX0_addPair_20 ?_
    refine lv_aload_n hx hb dX0_addPair_23 rfl (lv_at hl 0 rfl) ?_
    refine rg  hx hb hT hu0 hown hK hP hL 36 9 (Nat.le_of_ble_eq_true rfl) (ms36 _ _) rfl (Nat.le_of_ble_eq_true rfl) (Fx0.T tw_1_115) rfl (v := .int (gi m2 36 9)) rfl dX0_addPair_24 ?_
    refine lv_iload_n hx hb dX0_addPair_27 rfl (lv_at hl 2 rfl) ?_
    obtain ⟨h3, hD⟩ := gd_el hD
    obtain ⟨m4, em4, hD⟩ := bnd_el hD
    refine riast  hx hb hK hP (hD1 _ (hAd _ _)) hS hL 44 (Nat.le_of_ble_eq_true rfl) (fun _ => ms44 _ _) h3 rfl dX0_addPair_28 em4 (fun H locs hP hS => ?_)
    refine lv_aload_n hx hb dX0_addPair_29 rfl (lv_at hl 0 rfl) ?_
    refine lv_dup hx hb dX0_addPair_30 rfl ?_
    refine rg  hx hb hT hu0 hown hK hP hL 36 9 (Nat.le_of_ble_eq_true rfl) (ms36 _ _) rfl (Nat.le_of_ble_eq_true rfl) (Fx0.T tw_1_115) rfl (v := .int (gi m4 36 9)) rfl dX0_addPair_31 ?_
    refine lv_iconst (v := (1 : Int32)) hx hb dX0_addPair_34 (by decide) ?_
    refine lv_iadd hx hb dX0_addPair_35 ?_
    obtain ⟨m5, em5, hD⟩ := bnd_el hD
    refine rp  hx hb hT hu0 tyX0_ok nmX0 hown hK hP (hD1 _ (hAd _ _)) hS hL 36 9 (Nat.le_of_ble_eq_true rfl) (ms36 _ _) (ms36 _ _) rfl (Nat.le_of_ble_eq_true rfl) (Fx0.T tw_1_115) rfl rfl rfl rfl (Nat.le_of_ble_eq_true rfl) dX0_addPair_36 em5 (fun H locs hP hS => ?_)
    cases hD
    exact hret _ _ _ hP hS (fun Qc hq => W.vret hx hb hr hq hS.2.2 dX0_addPair_39 hlocks)

noncomputable def D_X0_removePair (x1 : Int32) (m : MM) : Option MM := bnd (si m 36 9 ((gi m 36 9) - (1 : Int32))) (fun m1 => if (gi m1 36 9) < 0 ∨ 20 ≤ (gi m1 36 9).toNatClampNeg then none else (if x1 < 0 ∨ 20 ≤ x1.toNatClampNeg then none else (bnd (si m1 43 x1.toNatClampNeg (gi m1 43 ((gi m1 36 9).toNatClampNeg))) (fun m4 => if (gi m4 36 9) < 0 ∨ 20 ≤ (gi m4 36 9).toNatClampNeg then none else (if x1 < 0 ∨ 20 ≤ x1.toNatClampNeg then none else (bnd (si m4 44 x1.toNatClampNeg (gi m4 44 ((gi m4 36 9).toNatClampNeg))) (fun m7 => some (m7))))))))
noncomputable def D_X0_firstsOf_5 (m : MM) : Nat → Int64 → Int64 → Int32 → Option Int64
  | 0, _, _, _ => none
  | n + 1, x1, x3, x5 => if (gi m 36 9) ≤ x5 then (some (x3)) else (if x5 < 0 ∨ 20 ≤ x5.toNatClampNeg then none else (if (x1 &&& ((1 : Int64) <<< ((gi m 44 x5.toNatClampNeg).toInt64 &&& 63))) = (0 : Int64) then (bnd (x5 + (1 : Int32)) (fun v2 => D_X0_firstsOf_5 m n x1 x3 v2)) else (if x5 < 0 ∨ 20 ≤ x5.toNatClampNeg then none else (bnd ((x3 ||| ((1 : Int64) <<< ((gi m 43 x5.toNatClampNeg).toInt64 &&& 63)))) (fun v4 => bnd (x5 + (1 : Int32)) (fun v5 => D_X0_firstsOf_5 m n x1 v4 v5))))))
noncomputable def D_X0_firstsOf (x1 : Int64) (m : MM) : Option Int64 := D_X0_firstsOf_5 m FU x1 (0 : Int64) (0 : Int32)
set_option maxHeartbeats 4000000 in
set_option maxRecDepth 100000 in
theorem c_X0_firstsOf (l : Launch) {D : va_G} {cs : Nat → ClassId} {ad : Nat → Nat} {Wf : MM → va_W} (hL : Ln 51 ad (msh cs ad) Wf) (hAd : ∀ a0_ b0_ : MM, (Wf a0_).map (fun q => q.1) = (Wf b0_).map (fun q => q.1)) (m : MM) (x1 : Int64) {rr : Int64} (hD : D_X0_firstsOf x1 m = some (rr)) : Ct l yX0_firstsOf cX0_firstsOf 6 (some .long) 0 0 D cs [.ref (ad 36), .long x1] (Wf m) (Wf m) (some (.long rr)) := by
  refine Ct.ofW (by decide) (Nat.le_of_ble_eq_true rfl) rfl ?_
  intro p e s m0 below meth c A Q ls args hx hb hr hml hlocks hown hts hK hP hD1 hSS hS hA1 hl hret
  have hT : ∀ w ∈ TBL, w.before args s = true := fun w h => hts w (List.mem_cons_of_mem _ h)
  have Fx0 : Fx p l m0 c cX0_firstsOf 6 s args yX0_firstsOf cX0_firstsOf 6 (some .long) D cs A := ⟨hx, hb, hml, hown, hts, hK, hSS⟩
  have hown : s.vm.findClass RX0 = some m0.cls := hown
  have hl : lv_has ls 6 [(0, .ref (ad 36)), (1, .long x1)] := hl
  unfold D_X0_firstsOf at hD
  have c_5 : ∀ (n : Nat), ∀ (x1 : Int64) (x3 : Int64) (x5 : Int32) (H : Heap) (locs : List Loc) (ls : Array Slot), D_X0_firstsOf_5 m n x1 x3 x5 = some (rr) → va_P D vwCl (Wf m) H → va_S A s.heap H locs → lv_has ls 6 [(0, .ref (ad 36)), (1, .long x1), (3, .long x3), (5, .int x5)] → W p l e ({ frames := 0, cells := 0, slots := 0, locals := 0 } : Room) s m0 args below meth c H locs 0 0 Q (F0 m0 5 ls []) := by
    intro n
    induction n with
    | zero =>
      intro x1 x3 x5 H locs ls hD hP hS hl
      exact nn_el hD
    | succ n ih =>
      intro x1 x3 x5 H locs ls hD hP hS hl
      rw [D_X0_firstsOf_5] at hD
      refine lv_iload hx hb dX0_firstsOf_5 (lv_at hl 3 rfl) ?_
      refine lv_aload_n hx hb dX0_firstsOf_7 rfl (lv_at hl 0 rfl) ?_
      refine rg  hx hb hT hu0 hown hK hP hL 36 9 (Nat.le_of_ble_eq_true rfl) (ms36 _ _) rfl (Nat.le_of_ble_eq_true rfl) (Fx0.T tw_1_115) rfl (v := .int (gi m 36 9)) rfl dX0_firstsOf_8 ?_
      refine lv_icmp_ge (tgt := 48) hx hb dX0_firstsOf_11 (by decide) (fun c => ?_) (fun c => ?_)
      · have hD := ifp hD c
        refine lv_lload_n hx hb dX0_firstsOf_48 rfl (lv_at hl 2 rfl) ?_
        cases hD
        exact hret _ _ _ hP hS (fun Qc hq => W.lret hx hb hr hq hS.2.2 dX0_firstsOf_49 hlocks)
      · have hD := ifn hD c
        refine lv_lload_n hx hb dX0_firstsOf_14 rfl (lv_at hl 1 rfl) ?_
        refine lv_lconst (v := (1 : Int64)) hx hb dX0_firstsOf_15 (by decide) ?_
        refine lv_aload_n hx hb dX0_firstsOf_16 rfl (lv_at hl 0 rfl) ?_
        refine rg  hx hb hT hu0 hown hK hP hL 36 11 (Nat.le_of_ble_eq_true rfl) (ms36 _ _) rfl (Nat.le_of_ble_eq_true rfl) (Fx0.T tw_1_119) rfl (v := .ref (ad 44)) rfl dX0_firstsOf_17 ?_
        refine lv_iload hx hb dX0_firstsOf_20 (lv_at hl 3 rfl) ?_
        obtain ⟨h1, hD⟩ := gd_el hD
        refine riald  hx hb hK hP hL 44 (Nat.le_of_ble_eq_true rfl) (ms44 _ _) h1 rfl dX0_firstsOf_22 ?_
        refine lv_lshl (v := ((1 : Int64) <<< ((gi m 44 x5.toNatClampNeg).toInt64 &&& 63))) hx hb dX0_firstsOf_23 rfl ?_
        refine lv_land hx hb dX0_firstsOf_24 ?_
        refine lv_lconst (v := (0 : Int64)) hx hb dX0_firstsOf_25 (by decide) ?_
        refine rlc_eq (tgt := 42) hx hb dX0_firstsOf_26 dX0_firstsOf_27 (by decide) (fun c => ?_) (fun c => ?_)
        · have hD := ifp hD c
          obtain ⟨v2, ev2, hD⟩ := bnd_el hD
          refine lv_iinc (v := v2) (lv' := [(5, .int v2), (0, .ref (ad 36)), (1, .long x1), (3, .long x3)]) hx hb dX0_firstsOf_42 hl (k := 3) rfl (by rw [ev2]; rfl) (by decide) rfl (fun ls hl => ?_)
          refine lv_goto (tgt := 5) hx hb dX0_firstsOf_45 (by decide) ?_
          exact ih _ _ _ _ _ _ hD hP hS (lv_sub hl [1, 2, 3, 0] rfl)
        · have hD := ifn hD c
          refine lv_lload_n hx hb dX0_firstsOf_30 rfl (lv_at hl 2 rfl) ?_
          refine lv_lconst (v := (1 : Int64)) hx hb dX0_firstsOf_31 (by decide) ?_
          refine lv_aload_n hx hb dX0_firstsOf_32 rfl (lv_at hl 0 rfl) ?_
          refine rg  hx hb hT hu0 hown hK hP hL 36 10 (Nat.le_of_ble_eq_true rfl) (ms36 _ _) rfl (Nat.le_of_ble_eq_true rfl) (Fx0.T tw_1_118) rfl (v := .ref (ad 43)) rfl dX0_firstsOf_33 ?_
          refine lv_iload hx hb dX0_firstsOf_36 (lv_at hl 3 rfl) ?_
          obtain ⟨h3, hD⟩ := gd_el hD
          refine riald  hx hb hK hP hL 43 (Nat.le_of_ble_eq_true rfl) (ms43 _ _) h3 rfl dX0_firstsOf_38 ?_
          refine lv_lshl (v := ((1 : Int64) <<< ((gi m 43 x5.toNatClampNeg).toInt64 &&& 63))) hx hb dX0_firstsOf_39 rfl ?_
          refine lv_lor hx hb dX0_firstsOf_40 ?_
          obtain ⟨v4, ev4, hD⟩ := bnd_el hD
          refine lv_nml ev4 ?_
          refine lv_lstore_n (lv' := [(3, .long v4), (0, .ref (ad 36)), (1, .long x1), (5, .int x5)]) hx hb dX0_firstsOf_41 rfl hl (by decide) rfl (fun ls hl => ?_)
          obtain ⟨v5, ev5, hD⟩ := bnd_el hD
          refine lv_iinc (v := v5) (lv' := [(5, .int v5), (3, .long v4), (0, .ref (ad 36)), (1, .long x1)]) hx hb dX0_firstsOf_42 hl (k := 3) rfl (by rw [ev5]; rfl) (by decide) rfl (fun ls hl => ?_)
          refine lv_goto (tgt := 5) hx hb dX0_firstsOf_45 (by decide) ?_
          exact ih _ _ _ _ _ _ hD hP hS (lv_sub hl [2, 3, 1, 0] rfl)
  refine lv_lconst (v := (0 : Int64)) hx hb dX0_firstsOf_0 (by decide) ?_
  refine lv_lstore_n (lv' := [(3, .long (0 : Int64)), (0, .ref (ad 36)), (1, .long x1)]) hx hb dX0_firstsOf_1 rfl hl (by decide) rfl (fun ls hl => ?_)
  refine lv_iconst (v := (0 : Int32)) hx hb dX0_firstsOf_2 (by decide) ?_
  refine lv_istore (lv' := [(5, .int (0 : Int32)), (3, .long (0 : Int64)), (0, .ref (ad 36)), (1, .long x1)]) hx hb dX0_firstsOf_3 hl (by decide) rfl (fun ls hl => ?_)
  exact c_5 FU _ _ _ _ _ _ hD hP hS (lv_sub hl [2, 3, 1, 0] rfl)

noncomputable def D_X0_wouldCircle_7 (m : MM) : Nat → Int32 → Int64 → Int32 → Option Int32
  | 0, _, _, _ => none
  | n + 1, x2, x3, x5 => if (gi m 36 9) ≤ x5 then (if (x3 &&& ((1 : Int64) <<< (x2.toInt64 &&& 63))) = (0 : Int64) then (some ((0 : Int32))) else (some ((1 : Int32)))) else (b1 (D_X0_firstsOf x3 m) (fun v2 => bnd ((x3 ||| v2)) (fun v4 => bnd (x5 + (1 : Int32)) (fun v5 => D_X0_wouldCircle_7 m n x2 v4 v5))))
noncomputable def D_X0_wouldCircle (x1 : Int32) (x2 : Int32) (m : MM) : Option Int32 := bnd (((1 : Int64) <<< (x1.toInt64 &&& 63))) (fun v1 => D_X0_wouldCircle_7 m FU x2 v1 (0 : Int32))
set_option maxHeartbeats 4000000 in
set_option maxRecDepth 100000 in
theorem c_X0_wouldCircle (l : Launch) {D : va_G} {cs : Nat → ClassId} {ad : Nat → Nat} {Wf : MM → va_W} (hL : Ln 51 ad (msh cs ad) Wf) (hAd : ∀ a0_ b0_ : MM, (Wf a0_).map (fun q => q.1) = (Wf b0_).map (fun q => q.1)) (m : MM) (x1 : Int32) (x2 : Int32) {rr : Int32} (hD : D_X0_wouldCircle x1 x2 m = some (rr)) : Ct l yX0_wouldCircle cX0_wouldCircle 6 (some .boolean) 1 25 D cs [.ref (ad 36), .int x1, .int x2] (Wf m) (Wf m) (some (.int rr)) := by
  refine Ct.ofW (by decide) (Nat.le_of_ble_eq_true rfl) rfl ?_
  intro p e s m0 below meth c A Q ls args hx hb hr hml hlocks hown hts hK hP hD1 hSS hS hA1 hl hret
  have hT : ∀ w ∈ TBL, w.before args s = true := fun w h => hts w (List.mem_cons_of_mem _ h)
  have Fx0 : Fx p l m0 c cX0_wouldCircle 6 s args yX0_wouldCircle cX0_wouldCircle 6 (some .boolean) D cs A := ⟨hx, hb, hml, hown, hts, hK, hSS⟩
  have hown : s.vm.findClass RX0 = some m0.cls := hown
  have hl : lv_has ls 6 [(0, .ref (ad 36)), (1, .int x1), (2, .int x2)] := hl
  unfold D_X0_wouldCircle at hD
  have c_7 : ∀ (n : Nat), ∀ (x2 : Int32) (x3 : Int64) (x5 : Int32) (H : Heap) (locs : List Loc) (ls : Array Slot), D_X0_wouldCircle_7 m n x2 x3 x5 = some (rr) → va_P D vwCl (Wf m) H → va_S A s.heap H locs → lv_has ls 6 [(0, .ref (ad 36)), (2, .int x2), (3, .long x3), (5, .int x5)] → W p l e ({ frames := 1, cells := 0, slots := 0, locals := 25 } : Room) s m0 args below meth c H locs 0 0 Q (F0 m0 7 ls []) := by
    intro n
    induction n with
    | zero =>
      intro x2 x3 x5 H locs ls hD hP hS hl
      exact nn_el hD
    | succ n ih =>
      intro x2 x3 x5 H locs ls hD hP hS hl
      rw [D_X0_wouldCircle_7] at hD
      refine lv_iload hx hb dX0_wouldCircle_7 (lv_at hl 3 rfl) ?_
      refine lv_aload_n hx hb dX0_wouldCircle_9 rfl (lv_at hl 0 rfl) ?_
      refine rg  hx hb hT hu0 hown hK hP hL 36 9 (Nat.le_of_ble_eq_true rfl) (ms36 _ _) rfl (Nat.le_of_ble_eq_true rfl) (Fx0.T tw_1_115) rfl (v := .int (gi m 36 9)) rfl dX0_wouldCircle_10 ?_
      refine lv_icmp_ge (tgt := 30) hx hb dX0_wouldCircle_13 (by decide) (fun c => ?_) (fun c => ?_)
      · have hD := ifp hD c
        refine lv_lload_n hx hb dX0_wouldCircle_30 rfl (lv_at hl 2 rfl) ?_
        refine lv_lconst (v := (1 : Int64)) hx hb dX0_wouldCircle_31 (by decide) ?_
        refine lv_iload_n hx hb dX0_wouldCircle_32 rfl (lv_at hl 1 rfl) ?_
        refine lv_lshl (v := ((1 : Int64) <<< (x2.toInt64 &&& 63))) hx hb dX0_wouldCircle_33 rfl ?_
        refine lv_land hx hb dX0_wouldCircle_34 ?_
        refine lv_lconst (v := (0 : Int64)) hx hb dX0_wouldCircle_35 (by decide) ?_
        refine rlc_eq (tgt := 44) hx hb dX0_wouldCircle_36 dX0_wouldCircle_37 (by decide) (fun c => ?_) (fun c => ?_)
        · have hD := ifp hD c
          refine lv_iconst (v := (0 : Int32)) hx hb dX0_wouldCircle_44 (by decide) ?_
          cases hD
          exact hret _ _ _ hP hS (fun Qc hq => W.zret hx hb hr rfl hq hS.2.2 dX0_wouldCircle_45 hlocks)
        · have hD := ifn hD c
          refine lv_iconst (v := (1 : Int32)) hx hb dX0_wouldCircle_40 (by decide) ?_
          refine lv_goto (tgt := 45) hx hb dX0_wouldCircle_41 (by decide) ?_
          cases hD
          exact hret _ _ _ hP hS (fun Qc hq => W.zret hx hb hr rfl hq hS.2.2 dX0_wouldCircle_45 hlocks)
      · have hD := ifn hD c
        refine lv_lload_n hx hb dX0_wouldCircle_16 rfl (lv_at hl 2 rfl) ?_
        refine lv_aload_n hx hb dX0_wouldCircle_17 rfl (lv_at hl 0 rfl) ?_
        refine lv_lload_n hx hb dX0_wouldCircle_18 rfl (lv_at hl 2 rfl) ?_
        obtain ⟨v2, z3, hD⟩ := b1_el hD
        refine rcV  (As := [.long x3]) (rest := [.long x3]) Fx0 (c_X0_firstsOf l hL hAd m x3 z3) hP (hD1 _ (hAd _ _)) hS (hA1 _ _ (hAd _ _) hS.1) hL (Nat.le_of_ble_eq_true rfl) (ms36 _ _) rfl tw_3_230 tw_3_227 tw_3_229 ts_32 tw_1_4 yd_X0_firstsOf ⟨(Nat.le_of_ble_eq_true rfl), (Nat.le_of_ble_eq_true rfl)⟩ rfl hl.1 rfl (Nat.le_of_ble_eq_true rfl) dX0_wouldCircle_19 (fun H locs hP hS => ?_)
        refine lv_lor hx hb dX0_wouldCircle_22 ?_
        obtain ⟨v4, ev4, hD⟩ := bnd_el hD
        refine lv_nml ev4 ?_
        refine lv_lstore_n (lv' := [(3, .long v4), (0, .ref (ad 36)), (2, .int x2), (5, .int x5)]) hx hb dX0_wouldCircle_23 rfl hl (by decide) rfl (fun ls hl => ?_)
        obtain ⟨v5, ev5, hD⟩ := bnd_el hD
        refine lv_iinc (v := v5) (lv' := [(5, .int v5), (3, .long v4), (0, .ref (ad 36)), (2, .int x2)]) hx hb dX0_wouldCircle_24 hl (k := 3) rfl (by rw [ev5]; rfl) (by decide) rfl (fun ls hl => ?_)
        refine lv_goto (tgt := 7) hx hb dX0_wouldCircle_27 (by decide) ?_
        exact ih _ _ _ _ _ _ hD hP hS (lv_sub hl [2, 3, 1, 0] rfl)
  refine lv_lconst (v := (1 : Int64)) hx hb dX0_wouldCircle_0 (by decide) ?_
  refine lv_iload_n hx hb dX0_wouldCircle_1 rfl (lv_at hl 1 rfl) ?_
  refine lv_lshl (v := ((1 : Int64) <<< (x1.toInt64 &&& 63))) hx hb dX0_wouldCircle_2 rfl ?_
  obtain ⟨v1, ev1, hD⟩ := bnd_el hD
  refine lv_nml ev1 ?_
  refine lv_lstore_n (lv' := [(3, .long v1), (0, .ref (ad 36)), (1, .int x1), (2, .int x2)]) hx hb dX0_wouldCircle_3 rfl hl (by decide) rfl (fun ls hl => ?_)
  refine lv_iconst (v := (0 : Int32)) hx hb dX0_wouldCircle_4 (by decide) ?_
  refine lv_istore (lv' := [(5, .int (0 : Int32)), (3, .long v1), (0, .ref (ad 36)), (1, .int x1), (2, .int x2)]) hx hb dX0_wouldCircle_5 hl (by decide) rfl (fun ls hl => ?_)
  exact c_7 FU _ _ _ _ _ _ hD hP hS (lv_sub hl [2, 4, 1, 0] rfl)

noncomputable def D_X0_longestChain_11 (m : MM) : Nat → Int64 → Int32 → Option Int32
  | 0, _, _ => none
  | n + 1, x2, x4 => if x2 = (0 : Int64) then (some (x4)) else (if (20 : Int32) ≤ x4 then (some (x4)) else (bnd (x4 + (1 : Int32)) (fun v3 => b1 (D_X0_firstsOf x2 m) (fun v4 => D_X0_longestChain_11 m n v4 v3))))
noncomputable def D_X0_longestChain (x1 : Int32) (m : MM) : Option Int32 := b1 (D_X0_firstsOf ((1 : Int64) <<< (x1.toInt64 &&& 63)) m) (fun v1 => D_X0_longestChain_11 m FU v1 (0 : Int32))
noncomputable def D_X0_addSpot (x1 : Int32) (x2 : Int32) (x3 : Int32) (m : MM) : Option MM := if (40 : Int32) ≤ (gi m 36 0) then (some (m)) else (if (gi m 36 0) < 0 ∨ 40 ≤ (gi m 36 0).toNatClampNeg then none else (bnd (si m 37 ((gi m 36 0).toNatClampNeg) x1) (fun m2 => if (gi m2 36 0) < 0 ∨ 40 ≤ (gi m2 36 0).toNatClampNeg then none else (bnd (si m2 38 ((gi m2 36 0).toNatClampNeg) x2) (fun m4 => if (gi m4 36 0) < 0 ∨ 40 ≤ (gi m4 36 0).toNatClampNeg then none else (bnd (si m4 39 ((gi m4 36 0).toNatClampNeg) x3) (fun m6 => if x1 < 0 ∨ 8 ≤ x1.toNatClampNeg then none else (if x1 < 0 ∨ 8 ≤ x1.toNatClampNeg then none else (bnd (sl m6 42 x1.toNatClampNeg ((gl m6 42 x1.toNatClampNeg) ||| ((1 : Int64) <<< ((gi m6 36 0).toInt64 &&& 63)))) (fun m9 => bnd (sl m9 36 7 ((gl m9 36 7) ||| ((1 : Int64) <<< ((gi m9 36 0).toInt64 &&& 63)))) (fun m10 => bnd (si m10 36 0 ((gi m10 36 0) + (1 : Int32))) (fun m11 => some (m11)))))))))))))
set_option maxHeartbeats 4000000 in
set_option maxRecDepth 100000 in
theorem c_X0_addSpot (l : Launch) {D : va_G} {cs : Nat → ClassId} {ad : Nat → Nat} {Wf : MM → va_W} (hL : Ln 51 ad (msh cs ad) Wf) (hAd : ∀ a0_ b0_ : MM, (Wf a0_).map (fun q => q.1) = (Wf b0_).map (fun q => q.1)) (m : MM) (x1 : Int32) (x2 : Int32) (x3 : Int32) {m' : MM} (hD : D_X0_addSpot x1 x2 x3 m = some (m')) : Ct l yX0_addSpot cX0_addSpot 4 none 0 0 D cs [.ref (ad 36), .int x1, .int x2, .int x3] (Wf m) (Wf m') (none) := by
  refine Ct.ofW (by decide) (Nat.le_of_ble_eq_true rfl) (hAd _ _) ?_
  intro p e s m0 below meth c A Q ls args hx hb hr hml hlocks hown hts hK hP hD1 hSS hS hA1 hl hret
  have hT : ∀ w ∈ TBL, w.before args s = true := fun w h => hts w (List.mem_cons_of_mem _ h)
  have Fx0 : Fx p l m0 c cX0_addSpot 4 s args yX0_addSpot cX0_addSpot 4 none D cs A := ⟨hx, hb, hml, hown, hts, hK, hSS⟩
  have hown : s.vm.findClass RX0 = some m0.cls := hown
  have hl : lv_has ls 4 [(0, .ref (ad 36)), (1, .int x1), (2, .int x2), (3, .int x3)] := hl
  unfold D_X0_addSpot at hD
  refine lv_aload_n hx hb dX0_addSpot_0 rfl (lv_at hl 0 rfl) ?_
  refine rg  hx hb hT hu0 hown hK hP hL 36 0 (Nat.le_of_ble_eq_true rfl) (ms36 _ _) rfl (Nat.le_of_ble_eq_true rfl) (Fx0.T tw_1_95) rfl (v := .int (gi m 36 0)) rfl dX0_addSpot_1 ?_
  refine lv_bipush (v := (40 : Int32)) hx hb dX0_addSpot_4 (by decide) ?_
  refine lv_icmp_ge (tgt := 79) hx hb dX0_addSpot_6 (by decide) (fun c => ?_) (fun c => ?_)
  · have hD := ifp hD c
    cases hD
    exact hret _ _ _ hP hS (fun Qc hq => W.vret hx hb hr hq hS.2.2 dX0_addSpot_79 hlocks)
  · have hD := ifn hD c
    refine lv_aload_n hx hb dX0_addSpot_9 rfl (lv_at hl 0 rfl) ?_
    refine rg  hx hb hT hu0 hown hK hP hL 36 1 (Nat.le_of_ble_eq_true rfl) (ms36 _ _) rfl (Nat.le_of_ble_eq_true rfl) (Fx0.T tw_1_99) rfl (v := .ref (ad 37)) rfl dX0_addSpot_10 ?_
    refine lv_aload_n hx hb dX0_addSpot_13 rfl (lv_at hl 0 rfl) ?_
    refine rg  hx hb hT hu0 hown hK hP hL 36 0 (Nat.le_of_ble_eq_true rfl) (ms36 _ _) rfl (Nat.le_of_ble_eq_true rfl) (Fx0.T tw_1_95) rfl (v := .int (gi m 36 0)) rfl dX0_addSpot_14 ?_
    refine lv_iload_n hx hb dX0_addSpot_17 rfl (lv_at hl 1 rfl) ?_
    obtain ⟨h1, hD⟩ := gd_el hD
    obtain ⟨m2, em2, hD⟩ := bnd_el hD
    refine riast  hx hb hK hP (hD1 _ (hAd _ _)) hS hL 37 (Nat.le_of_ble_eq_true rfl) (fun _ => ms37 _ _) h1 rfl dX0_addSpot_18 em2 (fun H locs hP hS => ?_)
    refine lv_aload_n hx hb dX0_addSpot_19 rfl (lv_at hl 0 rfl) ?_
    refine rg  hx hb hT hu0 hown hK hP hL 36 2 (Nat.le_of_ble_eq_true rfl) (ms36 _ _) rfl (Nat.le_of_ble_eq_true rfl) (Fx0.T tw_1_101) rfl (v := .ref (ad 38)) rfl dX0_addSpot_20 ?_
    refine lv_aload_n hx hb dX0_addSpot_23 rfl (lv_at hl 0 rfl) ?_
    refine rg  hx hb hT hu0 hown hK hP hL 36 0 (Nat.le_of_ble_eq_true rfl) (ms36 _ _) rfl (Nat.le_of_ble_eq_true rfl) (Fx0.T tw_1_95) rfl (v := .int (gi m2 36 0)) rfl dX0_addSpot_24 ?_
    refine lv_iload_n hx hb dX0_addSpot_27 rfl (lv_at hl 2 rfl) ?_
    obtain ⟨h3, hD⟩ := gd_el hD
    obtain ⟨m4, em4, hD⟩ := bnd_el hD
    refine riast  hx hb hK hP (hD1 _ (hAd _ _)) hS hL 38 (Nat.le_of_ble_eq_true rfl) (fun _ => ms38 _ _) h3 rfl dX0_addSpot_28 em4 (fun H locs hP hS => ?_)
    refine lv_aload_n hx hb dX0_addSpot_29 rfl (lv_at hl 0 rfl) ?_
    refine rg  hx hb hT hu0 hown hK hP hL 36 3 (Nat.le_of_ble_eq_true rfl) (ms36 _ _) rfl (Nat.le_of_ble_eq_true rfl) (Fx0.T tw_1_104) rfl (v := .ref (ad 39)) rfl dX0_addSpot_30 ?_
    refine lv_aload_n hx hb dX0_addSpot_33 rfl (lv_at hl 0 rfl) ?_
    refine rg  hx hb hT hu0 hown hK hP hL 36 0 (Nat.le_of_ble_eq_true rfl) (ms36 _ _) rfl (Nat.le_of_ble_eq_true rfl) (Fx0.T tw_1_95) rfl (v := .int (gi m4 36 0)) rfl dX0_addSpot_34 ?_
    refine lv_iload_n hx hb dX0_addSpot_37 rfl (lv_at hl 3 rfl) ?_
    obtain ⟨h5, hD⟩ := gd_el hD
    obtain ⟨m6, em6, hD⟩ := bnd_el hD
    refine riast  hx hb hK hP (hD1 _ (hAd _ _)) hS hL 39 (Nat.le_of_ble_eq_true rfl) (fun _ => ms39 _ _) h5 rfl dX0_addSpot_38 em6 (fun H locs hP hS => ?_)
    refine lv_aload_n hx hb dX0_addSpot_39 rfl (lv_at hl 0 rfl) ?_
    refine rg  hx hb hT hu0 hown hK hP hL 36 6 (Nat.le_of_ble_eq_true rfl) (ms36 _ _) rfl (Nat.le_of_ble_eq_true rfl) (Fx0.T tw_1_109) rfl (v := .ref (ad 42)) rfl dX0_addSpot_40 ?_
    refine lv_iload_n hx hb dX0_addSpot_43 rfl (lv_at hl 1 rfl) ?_
    refine lv_dup2_11 hx hb dX0_addSpot_44 rfl rfl ?_
    obtain ⟨h7, hD⟩ := gd_el hD
    refine rlald  hx hb hK hP hL 42 (Nat.le_of_ble_eq_true rfl) (ms42 _ _) h7 rfl dX0_addSpot_45 ?_
    refine lv_lconst (v := (1 : Int64)) hx hb dX0_addSpot_46 (by decide) ?_
    refine lv_aload_n hx hb dX0_addSpot_47 rfl (lv_at hl 0 rfl) ?_
    refine rg  hx hb hT hu0 hown hK hP hL 36 0 (Nat.le_of_ble_eq_true rfl) (ms36 _ _) rfl (Nat.le_of_ble_eq_true rfl) (Fx0.T tw_1_95) rfl (v := .int (gi m6 36 0)) rfl dX0_addSpot_48 ?_
    refine lv_lshl (v := ((1 : Int64) <<< ((gi m6 36 0).toInt64 &&& 63))) hx hb dX0_addSpot_51 rfl ?_
    refine lv_lor hx hb dX0_addSpot_52 ?_
    obtain ⟨h8, hD⟩ := gd_el hD
    obtain ⟨m9, em9, hD⟩ := bnd_el hD
    refine rlast  hx hb hK hP (hD1 _ (hAd _ _)) hS hL 42 (Nat.le_of_ble_eq_true rfl) (fun _ => ms42 _ _) h8 rfl dX0_addSpot_53 em9 (fun H locs hP hS => ?_)
    refine lv_aload_n hx hb dX0_addSpot_54 rfl (lv_at hl 0 rfl) ?_
    refine lv_dup hx hb dX0_addSpot_55 rfl ?_
    refine rg  hx hb hT hu0 hown hK hP hL 36 7 (Nat.le_of_ble_eq_true rfl) (ms36 _ _) rfl (Nat.le_of_ble_eq_true rfl) (Fx0.T tw_1_111) rfl (v := .long (gl m9 36 7)) rfl dX0_addSpot_56 ?_
    refine lv_lconst (v := (1 : Int64)) hx hb dX0_addSpot_59 (by decide) ?_
    refine lv_aload_n hx hb dX0_addSpot_60 rfl (lv_at hl 0 rfl) ?_
    refine rg  hx hb hT hu0 hown hK hP hL 36 0 (Nat.le_of_ble_eq_true rfl) (ms36 _ _) rfl (Nat.le_of_ble_eq_true rfl) (Fx0.T tw_1_95) rfl (v := .int (gi m9 36 0)) rfl dX0_addSpot_61 ?_
    refine lv_lshl (v := ((1 : Int64) <<< ((gi m9 36 0).toInt64 &&& 63))) hx hb dX0_addSpot_64 rfl ?_
    refine lv_lor hx hb dX0_addSpot_65 ?_
    obtain ⟨m10, em10, hD⟩ := bnd_el hD
    refine rpL  hx hb hT hu0 tyX0_ok nmX0 hown hK hP (hD1 _ (hAd _ _)) hS hL 36 7 (Nat.le_of_ble_eq_true rfl) (ms36 _ _) (ms36 _ _) rfl (Nat.le_of_ble_eq_true rfl) (Fx0.T tw_1_111) rfl rfl rfl rfl (Nat.le_of_ble_eq_true rfl) dX0_addSpot_66 em10 (fun H locs hP hS => ?_)
    refine lv_aload_n hx hb dX0_addSpot_69 rfl (lv_at hl 0 rfl) ?_
    refine lv_dup hx hb dX0_addSpot_70 rfl ?_
    refine rg  hx hb hT hu0 hown hK hP hL 36 0 (Nat.le_of_ble_eq_true rfl) (ms36 _ _) rfl (Nat.le_of_ble_eq_true rfl) (Fx0.T tw_1_95) rfl (v := .int (gi m10 36 0)) rfl dX0_addSpot_71 ?_
    refine lv_iconst (v := (1 : Int32)) hx hb dX0_addSpot_74 (by decide) ?_
    refine lv_iadd hx hb dX0_addSpot_75 ?_
    obtain ⟨m11, em11, hD⟩ := bnd_el hD
    refine rp  hx hb hT hu0 tyX0_ok nmX0 hown hK hP (hD1 _ (hAd _ _)) hS hL 36 0 (Nat.le_of_ble_eq_true rfl) (ms36 _ _) (ms36 _ _) rfl (Nat.le_of_ble_eq_true rfl) (Fx0.T tw_1_95) rfl rfl rfl rfl (Nat.le_of_ble_eq_true rfl) dX0_addSpot_76 em11 (fun H locs hP hS => ?_)
    cases hD
    exact hret _ _ _ hP hS (fun Qc hq => W.vret hx hb hr hq hS.2.2 dX0_addSpot_79 hlocks)
