/-! the methods of one machine -/
noncomputable def D_X2_valueOf (q0 : Nat) (x1 : Int32) (m : MM) : Option Int32 := if x1 = (0 : Int32) then (some ((gi m q0 0))) else (if x1 = (1 : Int32) then (some ((gi m q0 1))) else (if x1 = (2 : Int32) then (some ((gi m q0 2))) else (if x1 = (3 : Int32) then (some ((gi m q0 3))) else (if x1 = (4 : Int32) then (some ((gi m q0 4))) else (if x1 = (5 : Int32) then (some ((gi m q0 6))) else (if x1 = (6 : Int32) then (some ((gi m q0 7))) else (if (gi m q0 8) = 0 then (some ((0 : Int32))) else (some ((1 : Int32))))))))))
set_option maxHeartbeats 4000000 in
set_option maxRecDepth 100000 in
theorem c_X2_valueOf (l : Launch) {D : va_G} {cs : Nat → ClassId} {ad : Nat → Nat} {Wf : MM → va_W} (hL : Ln 51 ad (msh cs ad) Wf) (hAd : ∀ a0_ b0_ : MM, (Wf a0_).map (fun q => q.1) = (Wf b0_).map (fun q => q.1)) (m : MM) (q0 : Nat) (haq0 : 4 ≤ q0) (hbq0 : q0 < 14) (x1 : Int32) {rr : Int32} (hD : D_X2_valueOf q0 x1 m = some (rr)) : Ct l yX2_valueOf cX2_valueOf 2 (some .int) 0 0 D cs [.ref (ad q0), .int x1] (Wf m) (Wf m) (some (.int rr)) := by
  refine Ct.ofW (by decide) (Nat.le_of_ble_eq_true rfl) rfl ?_
  intro p e s m0 below meth c A Q ls args hx hb hr hml hlocks hown hts hK hP hD1 hSS hS hA1 hl hret
  have hT : ∀ w ∈ TBL, w.before args s = true := fun w h => hts w (List.mem_cons_of_mem _ h)
  have Fx0 : Fx p l m0 c cX2_valueOf 2 s args yX2_valueOf cX2_valueOf 2 (some .int) D cs A := ⟨hx, hb, hml, hown, hts, hK, hSS⟩
  have hown : s.vm.findClass RX2 = some m0.cls := hown
  have hl : lv_has ls 2 [(0, .ref (ad q0)), (1, .int x1)] := hl
  unfold D_X2_valueOf at hD
  refine lv_iload_n hx hb dX2_valueOf_0 rfl (lv_at hl 1 rfl) ?_
  by_cases sw1_0 : x1 = (0 : Int32)
  · have hD := ifp hD sw1_0
    refine lv_tableIn (off := 43) (tgt := 44) hx hb dX2_valueOf_1 (by rw [sw1_0]; decide) (by rw [sw1_0]; decide) (by rw [sw1_0]; rfl) (by decide) ?_
    refine lv_aload_n hx hb dX2_valueOf_44 rfl (lv_at hl 0 rfl) ?_
    refine rg  hx hb hT hu2 hown hK hP hL q0 0 (Nat.lt_of_lt_of_le hbq0 (Nat.le_of_ble_eq_true rfl)) ((mfe haq0 hbq0) _ _) rfl (Nat.le_of_ble_eq_true rfl) (Fx0.T tw_1_237) rfl (v := .int (gi m q0 0)) rfl dX2_valueOf_45 ?_
    cases hD
    exact hret _ _ _ hP hS (fun Qc hq => W.iret hx hb hr hq hS.2.2 dX2_valueOf_48 hlocks)
  · have hD := ifn hD sw1_0
    by_cases sw1_1 : x1 = (1 : Int32)
    · have hD := ifp hD sw1_1
      refine lv_tableIn (off := 48) (tgt := 49) hx hb dX2_valueOf_1 (by rw [sw1_1]; decide) (by rw [sw1_1]; decide) (by rw [sw1_1]; rfl) (by decide) ?_
      refine lv_aload_n hx hb dX2_valueOf_49 rfl (lv_at hl 0 rfl) ?_
      refine rg  hx hb hT hu2 hown hK hP hL q0 1 (Nat.lt_of_lt_of_le hbq0 (Nat.le_of_ble_eq_true rfl)) ((mfe haq0 hbq0) _ _) rfl (Nat.le_of_ble_eq_true rfl) (Fx0.T tw_2_1) rfl (v := .int (gi m q0 1)) rfl dX2_valueOf_50 ?_
      cases hD
      exact hret _ _ _ hP hS (fun Qc hq => W.iret hx hb hr hq hS.2.2 dX2_valueOf_53 hlocks)
    · have hD := ifn hD sw1_1
      by_cases sw1_2 : x1 = (2 : Int32)
      · have hD := ifp hD sw1_2
        refine lv_tableIn (off := 53) (tgt := 54) hx hb dX2_valueOf_1 (by rw [sw1_2]; decide) (by rw [sw1_2]; decide) (by rw [sw1_2]; rfl) (by decide) ?_
        refine lv_aload_n hx hb dX2_valueOf_54 rfl (lv_at hl 0 rfl) ?_
        refine rg  hx hb hT hu2 hown hK hP hL q0 2 (Nat.lt_of_lt_of_le hbq0 (Nat.le_of_ble_eq_true rfl)) ((mfe haq0 hbq0) _ _) rfl (Nat.le_of_ble_eq_true rfl) (Fx0.T tw_2_3) rfl (v := .int (gi m q0 2)) rfl dX2_valueOf_55 ?_
        cases hD
        exact hret _ _ _ hP hS (fun Qc hq => W.iret hx hb hr hq hS.2.2 dX2_valueOf_58 hlocks)
      · have hD := ifn hD sw1_2
        by_cases sw1_3 : x1 = (3 : Int32)
        · have hD := ifp hD sw1_3
          refine lv_tableIn (off := 58) (tgt := 59) hx hb dX2_valueOf_1 (by rw [sw1_3]; decide) (by rw [sw1_3]; decide) (by rw [sw1_3]; rfl) (by decide) ?_
          refine lv_aload_n hx hb dX2_valueOf_59 rfl (lv_at hl 0 rfl) ?_
          refine rg  hx hb hT hu2 hown hK hP hL q0 3 (Nat.lt_of_lt_of_le hbq0 (Nat.le_of_ble_eq_true rfl)) ((mfe haq0 hbq0) _ _) rfl (Nat.le_of_ble_eq_true rfl) (Fx0.T tw_2_8) rfl (v := .int (gi m q0 3)) rfl dX2_valueOf_60 ?_
          cases hD
          exact hret _ _ _ hP hS (fun Qc hq => W.iret hx hb hr hq hS.2.2 dX2_valueOf_63 hlocks)
        · have hD := ifn hD sw1_3
          by_cases sw1_4 : x1 = (4 : Int32)
          · have hD := ifp hD sw1_4
            refine lv_tableIn (off := 63) (tgt := 64) hx hb dX2_valueOf_1 (by rw [sw1_4]; decide) (by rw [sw1_4]; decide) (by rw [sw1_4]; rfl) (by decide) ?_
            refine lv_aload_n hx hb dX2_valueOf_64 rfl (lv_at hl 0 rfl) ?_
            refine rg  hx hb hT hu2 hown hK hP hL q0 4 (Nat.lt_of_lt_of_le hbq0 (Nat.le_of_ble_eq_true rfl)) ((mfe haq0 hbq0) _ _) rfl (Nat.le_of_ble_eq_true rfl) (Fx0.T tw_2_10) rfl (v := .int (gi m q0 4)) rfl dX2_valueOf_65 ?_
            cases hD
            exact hret _ _ _ hP hS (fun Qc hq => W.iret hx hb hr hq hS.2.2 dX2_valueOf_68 hlocks)
          · have hD := ifn hD sw1_4
            by_cases sw1_5 : x1 = (5 : Int32)
            · have hD := ifp hD sw1_5
              refine lv_tableIn (off := 68) (tgt := 69) hx hb dX2_valueOf_1 (by rw [sw1_5]; decide) (by rw [sw1_5]; decide) (by rw [sw1_5]; rfl) (by decide) ?_
              refine lv_aload_n hx hb dX2_valueOf_69 rfl (lv_at hl 0 rfl) ?_
              refine rg  hx hb hT hu2 hown hK hP hL q0 6 (Nat.lt_of_lt_of_le hbq0 (Nat.le_of_ble_eq_true rfl)) ((mfe haq0 hbq0) _ _) rfl (Nat.le_of_ble_eq_true rfl) (Fx0.T tw_2_14) rfl (v := .int (gi m q0 6)) rfl dX2_valueOf_70 ?_
              cases hD
              exact hret _ _ _ hP hS (fun Qc hq => W.iret hx hb hr hq hS.2.2 dX2_valueOf_73 hlocks)
            · have hD := ifn hD sw1_5
              by_cases sw1_6 : x1 = (6 : Int32)
              · have hD := ifp hD sw1_6
                refine lv_tableIn (off := 73) (tgt := 74) hx hb dX2_valueOf_1 (by rw [sw1_6]; decide) (by rw [sw1_6]; decide) (by rw [sw1_6]; rfl) (by decide) ?_
                refine lv_aload_n hx hb dX2_valueOf_74 rfl (lv_at hl 0 rfl) ?_
                refine rg  hx hb hT hu2 hown hK hP hL q0 7 (Nat.lt_of_lt_of_le hbq0 (Nat.le_of_ble_eq_true rfl)) ((mfe haq0 hbq0) _ _) rfl (Nat.le_of_ble_eq_true rfl) (Fx0.T tw_2_16) rfl (v := .int (gi m q0 7)) rfl dX2_valueOf_75 ?_
                cases hD
                exact hret _ _ _ hP hS (fun Qc hq => W.iret hx hb hr hq hS.2.2 dX2_valueOf_78 hlocks)
              · have hD := ifn hD sw1_6
                refine lv_tableOut (tgt := 79) hx hb dX2_valueOf_1 (swo 0 6 (fun k h1 h2 e => ?_)) (by decide) ?_
                · have h3 : k = 0 ∨ k = 1 ∨ k = 2 ∨ k = 3 ∨ k = 4 ∨ k = 5 ∨ k = 6 ∨ False := by omega
                  rcases h3 with rfl | rfl | rfl | rfl | rfl | rfl | rfl | h3
                  · exact absurd e sw1_0
                  · exact absurd e sw1_1
                  · exact absurd e sw1_2
                  · exact absurd e sw1_3
                  · exact absurd e sw1_4
                  · exact absurd e sw1_5
                  · exact absurd e sw1_6
                  · exact h3
                refine lv_aload_n hx hb dX2_valueOf_79 rfl (lv_at hl 0 rfl) ?_
                refine rg  hx hb hT hu2 hown hK hP hL q0 8 (Nat.lt_of_lt_of_le hbq0 (Nat.le_of_ble_eq_true rfl)) ((mfe haq0 hbq0) _ _) rfl (Nat.le_of_ble_eq_true rfl) (Fx0.T tw_2_18) rfl (v := .int (gi m q0 8)) rfl dX2_valueOf_80 ?_
                refine lv_if_eq (tgt := 90) hx hb dX2_valueOf_83 (by decide) (fun c => ?_) (fun c => ?_)
                · have hD := ifp hD c
                  refine lv_iconst (v := (0 : Int32)) hx hb dX2_valueOf_90 (by decide) ?_
                  cases hD
                  exact hret _ _ _ hP hS (fun Qc hq => W.iret hx hb hr hq hS.2.2 dX2_valueOf_91 hlocks)
                · have hD := ifn hD c
                  refine lv_iconst (v := (1 : Int32)) hx hb dX2_valueOf_86 (by decide) ?_
                  refine lv_goto (tgt := 91) hx hb dX2_valueOf_87 (by decide) ?_
                  cases hD
                  exact hret _ _ _ hP hS (fun Qc hq => W.iret hx hb hr hq hS.2.2 dX2_valueOf_91 hlocks)

noncomputable def D_X2_addReel (q0 : Nat) (x1 : Int32) (m : MM) : Option MM := if (3 : Int32) ≤ (gi m q0 4) then (some (m)) else (if (gi m q0 4) < 0 ∨ 3 ≤ (gi m q0 4).toNatClampNeg then none else (bnd (si m (q0 + 10) ((gi m q0 4).toNatClampNeg) x1) (fun m2 => bnd (si m2 q0 4 ((gi m2 q0 4) + (1 : Int32))) (fun m3 => some (m3)))))
set_option maxHeartbeats 4000000 in
set_option maxRecDepth 100000 in
theorem c_X2_addReel (l : Launch) {D : va_G} {cs : Nat → ClassId} {ad : Nat → Nat} {Wf : MM → va_W} (hL : Ln 51 ad (msh cs ad) Wf) (hAd : ∀ a0_ b0_ : MM, (Wf a0_).map (fun q => q.1) = (Wf b0_).map (fun q => q.1)) (m : MM) (q0 : Nat) (haq0 : 4 ≤ q0) (hbq0 : q0 < 14) (x1 : Int32) {m' : MM} (hD : D_X2_addReel q0 x1 m = some (m')) : Ct l yX2_addReel cX2_addReel 2 none 0 0 D cs [.ref (ad q0), .int x1] (Wf m) (Wf m') (none) := by
  refine Ct.ofW (by decide) (Nat.le_of_ble_eq_true rfl) (hAd _ _) ?_
  intro p e s m0 below meth c A Q ls args hx hb hr hml hlocks hown hts hK hP hD1 hSS hS hA1 hl hret
  have hT : ∀ w ∈ TBL, w.before args s = true := fun w h => hts w (List.mem_cons_of_mem _ h)
  have Fx0 : Fx p l m0 c cX2_addReel 2 s args yX2_addReel cX2_addReel 2 none D cs A := ⟨hx, hb, hml, hown, hts, hK, hSS⟩
  have hown : s.vm.findClass RX2 = some m0.cls := hown
  have hl : lv_has ls 2 [(0, .ref (ad q0)), (1, .int x1)] := hl
  unfold D_X2_addReel at hD
  refine lv_aload_n hx hb dX2_addReel_0 rfl (lv_at hl 0 rfl) ?_
  refine rg  hx hb hT hu2 hown hK hP hL q0 4 (Nat.lt_of_lt_of_le hbq0 (Nat.le_of_ble_eq_true rfl)) ((mfe haq0 hbq0) _ _) rfl (Nat.le_of_ble_eq_true rfl) (Fx0.T tw_2_10) rfl (v := .int (gi m q0 4)) rfl dX2_addReel_1 ?_
  refine lv_iconst (v := (3 : Int32)) hx hb dX2_addReel_4 (by decide) ?_
  refine lv_icmp_ge (tgt := 28) hx hb dX2_addReel_5 (by decide) (fun c => ?_) (fun c => ?_)
  · have hD := ifp hD c
    cases hD
    exact hret _ _ _ hP hS (fun Qc hq => W.vret hx hb hr hq hS.2.2 dX2_addReel_28 hlocks)
  · have hD := ifn hD c
    refine lv_aload_n hx hb dX2_addReel_8 rfl (lv_at hl 0 rfl) ?_
    refine rg  hx hb hT hu2 hown hK hP hL q0 5 (Nat.lt_of_lt_of_le hbq0 (Nat.le_of_ble_eq_true rfl)) ((mfe haq0 hbq0) _ _) rfl (Nat.le_of_ble_eq_true rfl) (Fx0.T tw_2_13) rfl (v := .ref (ad (q0 + 10))) rfl dX2_addReel_9 ?_
    refine lv_aload_n hx hb dX2_addReel_12 rfl (lv_at hl 0 rfl) ?_
    refine rg  hx hb hT hu2 hown hK hP hL q0 4 (Nat.lt_of_lt_of_le hbq0 (Nat.le_of_ble_eq_true rfl)) ((mfe haq0 hbq0) _ _) rfl (Nat.le_of_ble_eq_true rfl) (Fx0.T tw_2_10) rfl (v := .int (gi m q0 4)) rfl dX2_addReel_13 ?_
    refine lv_iload_n hx hb dX2_addReel_16 rfl (lv_at hl 1 rfl) ?_
    obtain ⟨h1, hD⟩ := gd_el hD
    obtain ⟨m2, em2, hD⟩ := bnd_el hD
    refine riast  hx hb hK hP (hD1 _ (hAd _ _)) hS hL (q0 + 10) (mreq hbq0) (fun _ => (mre haq0 hbq0) _ _) h1 rfl dX2_addReel_17 em2 (fun H locs hP hS => ?_)
    refine lv_aload_n hx hb dX2_addReel_18 rfl (lv_at hl 0 rfl) ?_
    refine lv_dup hx hb dX2_addReel_19 rfl ?_
    refine rg  hx hb hT hu2 hown hK hP hL q0 4 (Nat.lt_of_lt_of_le hbq0 (Nat.le_of_ble_eq_true rfl)) ((mfe haq0 hbq0) _ _) rfl (Nat.le_of_ble_eq_true rfl) (Fx0.T tw_2_10) rfl (v := .int (gi m2 q0 4)) rfl dX2_addReel_20 ?_
    refine lv_iconst (v := (1 : Int32)) hx hb dX2_addReel_23 (by decide) ?_
    refine lv_iadd hx hb dX2_addReel_24 ?_
    obtain ⟨m3, em3, hD⟩ := bnd_el hD
    refine rp  hx hb hT hu2 tyX2_ok nmX2 hown hK hP (hD1 _ (hAd _ _)) hS hL q0 4 (Nat.lt_of_lt_of_le hbq0 (Nat.le_of_ble_eq_true rfl)) ((mfe haq0 hbq0) _ _) ((mfe haq0 hbq0) _ _) rfl (Nat.le_of_ble_eq_true rfl) (Fx0.T tw_2_10) rfl rfl rfl rfl (Nat.le_of_ble_eq_true rfl) dX2_addReel_25 em3 (fun H locs hP hS => ?_)
    cases hD
    exact hret _ _ _ hP hS (fun Qc hq => W.vret hx hb hr hq hS.2.2 dX2_addReel_28 hlocks)

noncomputable def D_X2_removeLastReel (q0 : Nat) (m : MM) : Option (Int32 × MM) := if 0 < (gi m q0 4) then (bnd (si m q0 4 ((gi m q0 4) - (1 : Int32))) (fun m1 => if (gi m1 q0 4) < 0 ∨ 3 ≤ (gi m1 q0 4).toNatClampNeg then none else (some ((gi m1 (q0 + 10) ((gi m1 q0 4).toNatClampNeg)), m1)))) else (some ((0 : Int32), m))
set_option maxHeartbeats 4000000 in
set_option maxRecDepth 100000 in
theorem c_X2_removeLastReel (l : Launch) {D : va_G} {cs : Nat → ClassId} {ad : Nat → Nat} {Wf : MM → va_W} (hL : Ln 51 ad (msh cs ad) Wf) (hAd : ∀ a0_ b0_ : MM, (Wf a0_).map (fun q => q.1) = (Wf b0_).map (fun q => q.1)) (m : MM) (q0 : Nat) (haq0 : 4 ≤ q0) (hbq0 : q0 < 14) {rr : Int32} {m' : MM} (hD : D_X2_removeLastReel q0 m = some (rr, m')) : Ct l yX2_removeLastReel cX2_removeLastReel 1 (some .int) 0 0 D cs [.ref (ad q0)] (Wf m) (Wf m') (some (.int rr)) := by
  refine Ct.ofW (by decide) (Nat.le_of_ble_eq_true rfl) (hAd _ _) ?_
  intro p e s m0 below meth c A Q ls args hx hb hr hml hlocks hown hts hK hP hD1 hSS hS hA1 hl hret
  have hT : ∀ w ∈ TBL, w.before args s = true := fun w h => hts w (List.mem_cons_of_mem _ h)
  have Fx0 : Fx p l m0 c cX2_removeLastReel 1 s args yX2_removeLastReel cX2_removeLastReel 1 (some .int) D cs A := ⟨hx, hb, hml, hown, hts, hK, hSS⟩
  have hown : s.vm.findClass RX2 = some m0.cls := hown
  have hl : lv_has ls 1 [(0, .ref (ad q0))] := hl
  unfold D_X2_removeLastReel at hD
  refine lv_aload_n hx hb dX2_removeLastReel_0 rfl (lv_at hl 0 rfl) ?_
  refine rg  hx hb hT hu2 hown hK hP hL q0 4 (Nat.lt_of_lt_of_le hbq0 (Nat.le_of_ble_eq_true rfl)) ((mfe haq0 hbq0) _ _) rfl (Nat.le_of_ble_eq_true rfl) (Fx0.T tw_2_10) rfl (v := .int (gi m q0 4)) rfl dX2_removeLastReel_1 ?_
  refine lv_if_gt (tgt := 9) hx hb dX2_removeLastReel_4 (by decide) (fun c => ?_) (fun c => ?_)
  · have hD := ifp hD c
    refine lv_aload_n hx hb dX2_removeLastReel_9 rfl (lv_at hl 0 rfl) ?_
    refine lv_dup hx hb dX2_removeLastReel_10 rfl ?_
    refine rg  hx hb hT hu2 hown hK hP hL q0 4 (Nat.lt_of_lt_of_le hbq0 (Nat.le_of_ble_eq_true rfl)) ((mfe haq0 hbq0) _ _) rfl (Nat.le_of_ble_eq_true rfl) (Fx0.T tw_2_10) rfl (v := .int (gi m q0 4)) rfl dX2_removeLastReel_11 ?_
    refine lv_iconst (v := (1 : Int32)) hx hb dX2_removeLastReel_14 (by decide) ?_
    refine lv_isub hx hb dX2_removeLastReel_15 ?_
    obtain ⟨m1, em1, hD⟩ := bnd_el hD
    refine rp  hx hb hT hu2 tyX2_ok nmX2 hown hK hP (hD1 _ (hAd _ _)) hS hL q0 4 (Nat.lt_of_lt_of_le hbq0 (Nat.le_of_ble_eq_true rfl)) ((mfe haq0 hbq0) _ _) ((mfe haq0 hbq0) _ _) rfl (Nat.le_of_ble_eq_true rfl) (Fx0.T tw_2_10) rfl rfl rfl rfl (Nat.le_of_ble_eq_true rfl) dX2_removeLastReel_16 em1 (fun H locs hP hS => ?_)
    refine lv_aload_n hx hb dX2_removeLastReel_19 rfl (lv_at hl 0 rfl) ?_
    refine rg  hx hb hT hu2 hown hK hP hL q0 5 (Nat.lt_of_lt_of_le hbq0 (Nat.le_of_ble_eq_true rfl)) ((mfe haq0 hbq0) _ _) rfl (Nat.le_of_ble_eq_true rfl) (Fx0.T tw_2_13) rfl (v := .ref (ad (q0 + 10))) rfl dX2_removeLastReel_20 ?_
    refine lv_aload_n hx hb dX2_removeLastReel_23 rfl (lv_at hl 0 rfl) ?_
    refine rg  hx hb hT hu2 hown hK hP hL q0 4 (Nat.lt_of_lt_of_le hbq0 (Nat.le_of_ble_eq_true rfl)) ((mfe haq0 hbq0) _ _) rfl (Nat.le_of_ble_eq_true rfl) (Fx0.T tw_2_10) rfl (v := .int (gi m1 q0 4)) rfl dX2_removeLastReel_24 ?_
    obtain ⟨h2, hD⟩ := gd_el hD
    refine riald  hx hb hK hP hL (q0 + 10) (mreq hbq0) ((mre haq0 hbq0) _ _) h2 rfl dX2_removeLastReel_27 ?_
    cases hD
    exact hret _ _ _ hP hS (fun Qc hq => W.iret hx hb hr hq hS.2.2 dX2_removeLastReel_28 hlocks)
  · have hD := ifn hD c
    refine lv_iconst (v := (0 : Int32)) hx hb dX2_removeLastReel_7 (by decide) ?_
    cases hD
    exact hret _ _ _ hP hS (fun Qc hq => W.iret hx hb hr hq hS.2.2 dX2_removeLastReel_8 hlocks)

noncomputable def D_X2_allParts_7 (m : MM) : Nat → Nat → Int32 → Int32 → Option Int32
  | 0, _, _, _ => none
  | n + 1, q0, x1, x2 => if (gi m q0 4) ≤ x2 then (some (x1)) else (if x2 < 0 ∨ 3 ≤ x2.toNatClampNeg then none else (bnd ((x1 + (gi m (q0 + 10) x2.toNatClampNeg))) (fun v3 => bnd (x2 + (1 : Int32)) (fun v4 => D_X2_allParts_7 m n q0 v3 v4))))
noncomputable def D_X2_allParts (q0 : Nat) (m : MM) : Option Int32 := bnd ((gi m q0 2)) (fun v1 => D_X2_allParts_7 m FU q0 v1 (0 : Int32))
set_option maxHeartbeats 4000000 in
set_option maxRecDepth 100000 in
theorem c_X2_allParts (l : Launch) {D : va_G} {cs : Nat → ClassId} {ad : Nat → Nat} {Wf : MM → va_W} (hL : Ln 51 ad (msh cs ad) Wf) (hAd : ∀ a0_ b0_ : MM, (Wf a0_).map (fun q => q.1) = (Wf b0_).map (fun q => q.1)) (m : MM) (q0 : Nat) (haq0 : 4 ≤ q0) (hbq0 : q0 < 14) {rr : Int32} (hD : D_X2_allParts q0 m = some (rr)) : Ct l yX2_allParts cX2_allParts 3 (some .int) 0 0 D cs [.ref (ad q0)] (Wf m) (Wf m) (some (.int rr)) := by
  refine Ct.ofW (by decide) (Nat.le_of_ble_eq_true rfl) rfl ?_
  intro p e s m0 below meth c A Q ls args hx hb hr hml hlocks hown hts hK hP hD1 hSS hS hA1 hl hret
  have hT : ∀ w ∈ TBL, w.before args s = true := fun w h => hts w (List.mem_cons_of_mem _ h)
  have Fx0 : Fx p l m0 c cX2_allParts 3 s args yX2_allParts cX2_allParts 3 (some .int) D cs A := ⟨hx, hb, hml, hown, hts, hK, hSS⟩
  have hown : s.vm.findClass RX2 = some m0.cls := hown
  have hl : lv_has ls 3 [(0, .ref (ad q0))] := hl
  unfold D_X2_allParts at hD
  have c_7 : ∀ (n : Nat), ∀ (q0 : Nat) (x1 : Int32) (x2 : Int32) (H : Heap) (locs : List Loc) (ls : Array Slot), D_X2_allParts_7 m n q0 x1 x2 = some (rr) → 4 ≤ q0 → q0 < 14 → va_P D vwCl (Wf m) H → va_S A s.heap H locs → lv_has ls 3 [(0, .ref (ad q0)), (1, .int x1), (2, .int x2)] → W p l e ({ frames := 0, cells := 0, slots := 0, locals := 0 } : Room) s m0 args below meth c H locs 0 0 Q (F0 m0 7 ls []) := by
    intro n
    induction n with
    | zero =>
      intro q0 x1 x2 H locs ls hD haq0 hbq0 hP hS hl
      exact nn_el hD
    | succ n ih =>
      intro q0 x1 x2 H locs ls hD haq0 hbq0 hP hS hl
      rw [D_X2_allParts_7] at hD
      refine lv_iload_n hx hb dX2_allParts_7 rfl (lv_at hl 2 rfl) ?_
      refine lv_aload_n hx hb dX2_allParts_8 rfl (lv_at hl 0 rfl) ?_
      refine rg  hx hb hT hu2 hown hK hP hL q0 4 (Nat.lt_of_lt_of_le hbq0 (Nat.le_of_ble_eq_true rfl)) ((mfe haq0 hbq0) _ _) rfl (Nat.le_of_ble_eq_true rfl) (Fx0.T tw_2_10) rfl (v := .int (gi m q0 4)) rfl dX2_allParts_9 ?_
      refine lv_icmp_ge (tgt := 30) hx hb dX2_allParts_12 (by decide) (fun c => ?_) (fun c => ?_)
      · have hD := ifp hD c
        refine lv_iload_n hx hb dX2_allParts_30 rfl (lv_at hl 1 rfl) ?_
        cases hD
        exact hret _ _ _ hP hS (fun Qc hq => W.iret hx hb hr hq hS.2.2 dX2_allParts_31 hlocks)
      · have hD := ifn hD c
        refine lv_iload_n hx hb dX2_allParts_15 rfl (lv_at hl 1 rfl) ?_
        refine lv_aload_n hx hb dX2_allParts_16 rfl (lv_at hl 0 rfl) ?_
        refine rg  hx hb hT hu2 hown hK hP hL q0 5 (Nat.lt_of_lt_of_le hbq0 (Nat.le_of_ble_eq_true rfl)) ((mfe haq0 hbq0) _ _) rfl (Nat.le_of_ble_eq_true rfl) (Fx0.T tw_2_13) rfl (v := .ref (ad (q0 + 10))) rfl dX2_allParts_17 ?_
        refine lv_iload_n hx hb dX2_allParts_20 rfl (lv_at hl 2 rfl) ?_
        obtain ⟨h2, hD⟩ := gd_el hD
        refine riald  hx hb hK hP hL (q0 + 10) (mreq hbq0) ((mre haq0 hbq0) _ _) h2 rfl dX2_allParts_21 ?_
        refine lv_iadd hx hb dX2_allParts_22 ?_
        obtain ⟨v3, ev3, hD⟩ := bnd_el hD
        refine lv_nmi ev3 ?_
        refine lv_istore_n (lv' := [(1, .int v3), (0, .ref (ad q0)), (2, .int x2)]) hx hb dX2_allParts_23 rfl hl (by decide) rfl (fun ls hl => ?_)
        obtain ⟨v4, ev4, hD⟩ := bnd_el hD
        refine lv_iinc (v := v4) (lv' := [(2, .int v4), (1, .int v3), (0, .ref (ad q0))]) hx hb dX2_allParts_24 hl (k := 2) rfl (by rw [ev4]; rfl) (by decide) rfl (fun ls hl => ?_)
        refine lv_goto (tgt := 7) hx hb dX2_allParts_27 (by decide) ?_
        exact ih _ _ _ _ _ _ hD haq0 hbq0 hP hS (lv_sub hl [2, 1, 0] rfl)
  refine lv_aload_n hx hb dX2_allParts_0 rfl (lv_at hl 0 rfl) ?_
  refine rg  hx hb hT hu2 hown hK hP hL q0 2 (Nat.lt_of_lt_of_le hbq0 (Nat.le_of_ble_eq_true rfl)) ((mfe haq0 hbq0) _ _) rfl (Nat.le_of_ble_eq_true rfl) (Fx0.T tw_2_3) rfl (v := .int (gi m q0 2)) rfl dX2_allParts_1 ?_
  obtain ⟨v1, ev1, hD⟩ := bnd_el hD
  refine lv_nmi ev1 ?_
  refine lv_istore_n (lv' := [(1, .int v1), (0, .ref (ad q0))]) hx hb dX2_allParts_4 rfl hl (by decide) rfl (fun ls hl => ?_)
  refine lv_iconst (v := (0 : Int32)) hx hb dX2_allParts_5 (by decide) ?_
  refine lv_istore_n (lv' := [(2, .int (0 : Int32)), (1, .int v1), (0, .ref (ad q0))]) hx hb dX2_allParts_6 rfl hl (by decide) rfl (fun ls hl => ?_)
  exact c_7 FU _ _ _ _ _ _ hD haq0 hbq0 hP hS (lv_sub hl [2, 1, 0] rfl)

noncomputable def D_X2_clear (q0 : Nat) (x1 : Int32) (x2 : Int32) (x3 : Int32) (x4 : Int32) (m : MM) : Option MM := bnd (si m q0 0 x1) (fun m1 => bnd (si m1 q0 1 x2) (fun m2 => bnd (si m2 q0 2 x3) (fun m3 => bnd (si m3 q0 3 x4) (fun m4 => bnd (si m4 q0 4 (0 : Int32)) (fun m5 => bnd (si m5 q0 6 (0 : Int32)) (fun m6 => bnd (si m6 q0 7 (0 : Int32)) (fun m7 => bnd (si m7 q0 8 (0 : Int32)) (fun m8 => some (m8)))))))))
set_option maxHeartbeats 4000000 in
set_option maxRecDepth 100000 in
theorem c_X2_clear (l : Launch) {D : va_G} {cs : Nat → ClassId} {ad : Nat → Nat} {Wf : MM → va_W} (hL : Ln 51 ad (msh cs ad) Wf) (hAd : ∀ a0_ b0_ : MM, (Wf a0_).map (fun q => q.1) = (Wf b0_).map (fun q => q.1)) (m : MM) (q0 : Nat) (haq0 : 4 ≤ q0) (hbq0 : q0 < 14) (x1 : Int32) (x2 : Int32) (x3 : Int32) (x4 : Int32) {m' : MM} (hD : D_X2_clear q0 x1 x2 x3 x4 m = some (m')) : Ct l yX2_clear cX2_clear 5 none 0 0 D cs [.ref (ad q0), .int x1, .int x2, .int x3, .int x4] (Wf m) (Wf m') (none) := by
  refine Ct.ofW (by decide) (Nat.le_of_ble_eq_true rfl) (hAd _ _) ?_
  intro p e s m0 below meth c A Q ls args hx hb hr hml hlocks hown hts hK hP hD1 hSS hS hA1 hl hret
  have hT : ∀ w ∈ TBL, w.before args s = true := fun w h => hts w (List.mem_cons_of_mem _ h)
  have Fx0 : Fx p l m0 c cX2_clear 5 s args yX2_clear cX2_clear 5 none D cs A := ⟨hx, hb, hml, hown, hts, hK, hSS⟩
  have hown : s.vm.findClass RX2 = some m0.cls := hown
  have hl : lv_has ls 5 [(0, .ref (ad q0)), (1, .int x1), (2, .int x2), (3, .int x3), (4, .int x4)] := hl
  unfold D_X2_clear at hD
  refine lv_aload_n hx hb dX2_clear_0 rfl (lv_at hl 0 rfl) ?_
  refine lv_iload_n hx hb dX2_clear_1 rfl (lv_at hl 1 rfl) ?_
  obtain ⟨m1, em1, hD⟩ := bnd_el hD
  refine rp  hx hb hT hu2 tyX2_ok nmX2 hown hK hP (hD1 _ (hAd _ _)) hS hL q0 0 (Nat.lt_of_lt_of_le hbq0 (Nat.le_of_ble_eq_true rfl)) ((mfe haq0 hbq0) _ _) ((mfe haq0 hbq0) _ _) rfl (Nat.le_of_ble_eq_true rfl) (Fx0.T tw_1_237) rfl rfl rfl rfl (Nat.le_of_ble_eq_true rfl) dX2_clear_2 em1 (fun H locs hP hS => ?_)
  refine lv_aload_n hx hb dX2_clear_5 rfl (lv_at hl 0 rfl) ?_
  refine lv_iload_n hx hb dX2_clear_6 rfl (lv_at hl 2 rfl) ?_
  obtain ⟨m2, em2, hD⟩ := bnd_el hD
  refine rp  hx hb hT hu2 tyX2_ok nmX2 hown hK hP (hD1 _ (hAd _ _)) hS hL q0 1 (Nat.lt_of_lt_of_le hbq0 (Nat.le_of_ble_eq_true rfl)) ((mfe haq0 hbq0) _ _) ((mfe haq0 hbq0) _ _) rfl (Nat.le_of_ble_eq_true rfl) (Fx0.T tw_2_1) rfl rfl rfl rfl (Nat.le_of_ble_eq_true rfl) dX2_clear_7 em2 (fun H locs hP hS => ?_)
  refine lv_aload_n hx hb dX2_clear_10 rfl (lv_at hl 0 rfl) ?_
  refine lv_iload_n hx hb dX2_clear_11 rfl (lv_at hl 3 rfl) ?_
  obtain ⟨m3, em3, hD⟩ := bnd_el hD
  refine rp  hx hb hT hu2 tyX2_ok nmX2 hown hK hP (hD1 _ (hAd _ _)) hS hL q0 2 (Nat.lt_of_lt_of_le hbq0 (Nat.le_of_ble_eq_true rfl)) ((mfe haq0 hbq0) _ _) ((mfe haq0 hbq0) _ _) rfl (Nat.le_of_ble_eq_true rfl) (Fx0.T tw_2_3) rfl rfl rfl rfl (Nat.le_of_ble_eq_true rfl) dX2_clear_12 em3 (fun H locs hP hS => ?_)
  refine lv_aload_n hx hb dX2_clear_15 rfl (lv_at hl 0 rfl) ?_
  refine lv_iload hx hb dX2_clear_16 (lv_at hl 4 rfl) ?_
  obtain ⟨m4, em4, hD⟩ := bnd_el hD
  refine rp  hx hb hT hu2 tyX2_ok nmX2 hown hK hP (hD1 _ (hAd _ _)) hS hL q0 3 (Nat.lt_of_lt_of_le hbq0 (Nat.le_of_ble_eq_true rfl)) ((mfe haq0 hbq0) _ _) ((mfe haq0 hbq0) _ _) rfl (Nat.le_of_ble_eq_true rfl) (Fx0.T tw_2_8) rfl rfl rfl rfl (Nat.le_of_ble_eq_true rfl) dX2_clear_18 em4 (fun H locs hP hS => ?_)
  refine lv_aload_n hx hb dX2_clear_21 rfl (lv_at hl 0 rfl) ?_
  refine lv_iconst (v := (0 : Int32)) hx hb dX2_clear_22 (by decide) ?_
  obtain ⟨m5, em5, hD⟩ := bnd_el hD
  refine rp  hx hb hT hu2 tyX2_ok nmX2 hown hK hP (hD1 _ (hAd _ _)) hS hL q0 4 (Nat.lt_of_lt_of_le hbq0 (Nat.le_of_ble_eq_true rfl)) ((mfe haq0 hbq0) _ _) ((mfe haq0 hbq0) _ _) rfl (Nat.le_of_ble_eq_true rfl) (Fx0.T tw_2_10) rfl rfl rfl rfl (Nat.le_of_ble_eq_true rfl) dX2_clear_23 em5 (fun H locs hP hS => ?_)
  refine lv_aload_n hx hb dX2_clear_26 rfl (lv_at hl 0 rfl) ?_
  refine lv_iconst (v := (0 : Int32)) hx hb dX2_clear_27 (by decide) ?_
  obtain ⟨m6, em6, hD⟩ := bnd_el hD
  refine rp  hx hb hT hu2 tyX2_ok nmX2 hown hK hP (hD1 _ (hAd _ _)) hS hL q0 6 (Nat.lt_of_lt_of_le hbq0 (Nat.le_of_ble_eq_true rfl)) ((mfe haq0 hbq0) _ _) ((mfe haq0 hbq0) _ _) rfl (Nat.le_of_ble_eq_true rfl) (Fx0.T tw_2_14) rfl rfl rfl rfl (Nat.le_of_ble_eq_true rfl) dX2_clear_28 em6 (fun H locs hP hS => ?_)
  refine lv_aload_n hx hb dX2_clear_31 rfl (lv_at hl 0 rfl) ?_
  refine lv_iconst (v := (0 : Int32)) hx hb dX2_clear_32 (by decide) ?_
  obtain ⟨m7, em7, hD⟩ := bnd_el hD
  refine rp  hx hb hT hu2 tyX2_ok nmX2 hown hK hP (hD1 _ (hAd _ _)) hS hL q0 7 (Nat.lt_of_lt_of_le hbq0 (Nat.le_of_ble_eq_true rfl)) ((mfe haq0 hbq0) _ _) ((mfe haq0 hbq0) _ _) rfl (Nat.le_of_ble_eq_true rfl) (Fx0.T tw_2_16) rfl rfl rfl rfl (Nat.le_of_ble_eq_true rfl) dX2_clear_33 em7 (fun H locs hP hS => ?_)
  refine lv_aload_n hx hb dX2_clear_36 rfl (lv_at hl 0 rfl) ?_
  refine lv_iconst (v := (0 : Int32)) hx hb dX2_clear_37 (by decide) ?_
  obtain ⟨m8, em8, hD⟩ := bnd_el hD
  refine rp  hx hb hT hu2 tyX2_ok nmX2 hown hK hP (hD1 _ (hAd _ _)) hS hL q0 8 (Nat.lt_of_lt_of_le hbq0 (Nat.le_of_ble_eq_true rfl)) ((mfe haq0 hbq0) _ _) ((mfe haq0 hbq0) _ _) rfl (Nat.le_of_ble_eq_true rfl) (Fx0.T tw_2_18) rfl rfl rfl rfl (Nat.le_of_ble_eq_true rfl) dX2_clear_38 em8 (fun H locs hP hS => ?_)
  cases hD
  exact hret _ _ _ hP hS (fun Qc hq => W.vret hx hb hr hq hS.2.2 dX2_clear_41 hlocks)

noncomputable def D_X2_spliceIfEmpty_2 : Nat → Nat → Int32 → MM → Option (Int32 × MM)
  | 0, _, _, _ => none
  | n + 1, q0, x1, m => if (gi m q0 2) = 0 then (if (gi m q0 4) ≤ 0 then (some (x1, m)) else (bnd (si m q0 2 (gi m (q0 + 10) 0)) (fun m1 => bnd (si m1 q0 4 ((gi m1 q0 4) - (1 : Int32))) (fun m2 => if (1 : Int32) < 0 ∨ (0 : Int32) < 0 ∨ (gi m2 q0 4) < 0 ∨ 3 < 1 + (gi m2 q0 4).toNatClampNeg ∨ 3 < 0 + (gi m2 q0 4).toNatClampNeg then none else (bnd (sr m2 (q0 + 10) (va_cpy (m2.1 (q0 + 10)) (m2.1 (q0 + 10)) 1 0 ((gi m2 q0 4).toNatClampNeg))) (fun m4 => bnd (si m4 q0 8 (1 : Int32)) (fun m5 => bnd (x1 + (1 : Int32)) (fun v6 => D_X2_spliceIfEmpty_2 n q0 v6 m5)))))))) else (some (x1, m))
noncomputable def D_X2_spliceIfEmpty (q0 : Nat) (m : MM) : Option (Int32 × MM) := D_X2_spliceIfEmpty_2 FU q0 (0 : Int32) m
set_option maxHeartbeats 4000000 in
set_option maxRecDepth 100000 in
theorem c_X2_spliceIfEmpty (l : Launch) {D : va_G} {cs : Nat → ClassId} {ad : Nat → Nat} {Wf : MM → va_W} (hL : Ln 51 ad (msh cs ad) Wf) (hAd : ∀ a0_ b0_ : MM, (Wf a0_).map (fun q => q.1) = (Wf b0_).map (fun q => q.1)) (m : MM) (q0 : Nat) (haq0 : 4 ≤ q0) (hbq0 : q0 < 14) {rr : Int32} {m' : MM} (hD : D_X2_spliceIfEmpty q0 m = some (rr, m')) : Ct l yX2_spliceIfEmpty cX2_spliceIfEmpty 2 (some .int) 1 64 D cs [.ref (ad q0)] (Wf m) (Wf m') (some (.int rr)) := by
  refine Ct.ofW (by decide) (Nat.le_of_ble_eq_true rfl) (hAd _ _) ?_
  intro p e s m0 below meth c A Q ls args hx hb hr hml hlocks hown hts hK hP hD1 hSS hS hA1 hl hret
  have hT : ∀ w ∈ TBL, w.before args s = true := fun w h => hts w (List.mem_cons_of_mem _ h)
  have Fx0 : Fx p l m0 c cX2_spliceIfEmpty 2 s args yX2_spliceIfEmpty cX2_spliceIfEmpty 2 (some .int) D cs A := ⟨hx, hb, hml, hown, hts, hK, hSS⟩
  have hown : s.vm.findClass RX2 = some m0.cls := hown
  have hl : lv_has ls 2 [(0, .ref (ad q0))] := hl
  unfold D_X2_spliceIfEmpty at hD
  have c_2 : ∀ (n : Nat), ∀ (q0 : Nat) (x1 : Int32) (m : MM) (H : Heap) (locs : List Loc) (ls : Array Slot), D_X2_spliceIfEmpty_2 n q0 x1 m = some (rr, m') → 4 ≤ q0 → q0 < 14 → va_P D vwCl (Wf m) H → va_S A s.heap H locs → lv_has ls 2 [(0, .ref (ad q0)), (1, .int x1)] → W p l e ({ frames := 1, cells := 0, slots := 0, locals := 64 } : Room) s m0 args below meth c H locs 0 0 Q (F0 m0 2 ls []) := by
    intro n
    induction n with
    | zero =>
      intro q0 x1 m H locs ls hD haq0 hbq0 hP hS hl
      exact nn_el hD
    | succ n ih =>
      intro q0 x1 m H locs ls hD haq0 hbq0 hP hS hl
      rw [D_X2_spliceIfEmpty_2] at hD
      refine lv_aload_n hx hb dX2_spliceIfEmpty_2 rfl (lv_at hl 0 rfl) ?_
      refine rg  hx hb hT hu2 hown hK hP hL q0 2 (Nat.lt_of_lt_of_le hbq0 (Nat.le_of_ble_eq_true rfl)) ((mfe haq0 hbq0) _ _) rfl (Nat.le_of_ble_eq_true rfl) (Fx0.T tw_2_3) rfl (v := .int (gi m q0 2)) rfl dX2_spliceIfEmpty_3 ?_
      refine lv_if_ne (tgt := 64) hx hb dX2_spliceIfEmpty_6 (by decide) (fun c => ?_) (fun c => ?_)
      · have hD := ifn hD c
        refine lv_iload_n hx hb dX2_spliceIfEmpty_64 rfl (lv_at hl 1 rfl) ?_
        cases hD
        exact hret _ _ _ hP hS (fun Qc hq => W.iret hx hb hr hq hS.2.2 dX2_spliceIfEmpty_65 hlocks)
      · have hD := ifp hD c
        refine lv_aload_n hx hb dX2_spliceIfEmpty_9 rfl (lv_at hl 0 rfl) ?_
        refine rg  hx hb hT hu2 hown hK hP hL q0 4 (Nat.lt_of_lt_of_le hbq0 (Nat.le_of_ble_eq_true rfl)) ((mfe haq0 hbq0) _ _) rfl (Nat.le_of_ble_eq_true rfl) (Fx0.T tw_2_10) rfl (v := .int (gi m q0 4)) rfl dX2_spliceIfEmpty_10 ?_
        refine lv_if_le (tgt := 64) hx hb dX2_spliceIfEmpty_13 (by decide) (fun c => ?_) (fun c => ?_)
        · have hD := ifp hD c
          refine lv_iload_n hx hb dX2_spliceIfEmpty_64 rfl (lv_at hl 1 rfl) ?_
          cases hD
          exact hret _ _ _ hP hS (fun Qc hq => W.iret hx hb hr hq hS.2.2 dX2_spliceIfEmpty_65 hlocks)
        · have hD := ifn hD c
          refine lv_aload_n hx hb dX2_spliceIfEmpty_16 rfl (lv_at hl 0 rfl) ?_
          refine lv_aload_n hx hb dX2_spliceIfEmpty_17 rfl (lv_at hl 0 rfl) ?_
          refine rg  hx hb hT hu2 hown hK hP hL q0 5 (Nat.lt_of_lt_of_le hbq0 (Nat.le_of_ble_eq_true rfl)) ((mfe haq0 hbq0) _ _) rfl (Nat.le_of_ble_eq_true rfl) (Fx0.T tw_2_13) rfl (v := .ref (ad (q0 + 10))) rfl dX2_spliceIfEmpty_18 ?_
          refine lv_iconst (v := (0 : Int32)) hx hb dX2_spliceIfEmpty_21 (by decide) ?_
          refine riald  hx hb hK hP hL (q0 + 10) (mreq hbq0) ((mre haq0 hbq0) _ _) (by decide) (j := 0) (by decide) dX2_spliceIfEmpty_22 ?_
          obtain ⟨m1, em1, hD⟩ := bnd_el hD
          refine rp  hx hb hT hu2 tyX2_ok nmX2 hown hK hP (hD1 _ (hAd _ _)) hS hL q0 2 (Nat.lt_of_lt_of_le hbq0 (Nat.le_of_ble_eq_true rfl)) ((mfe haq0 hbq0) _ _) ((mfe haq0 hbq0) _ _) rfl (Nat.le_of_ble_eq_true rfl) (Fx0.T tw_2_3) rfl rfl rfl rfl (Nat.le_of_ble_eq_true rfl) dX2_spliceIfEmpty_23 em1 (fun H locs hP hS => ?_)
          refine lv_aload_n hx hb dX2_spliceIfEmpty_26 rfl (lv_at hl 0 rfl) ?_
          refine lv_dup hx hb dX2_spliceIfEmpty_27 rfl ?_
          refine rg  hx hb hT hu2 hown hK hP hL q0 4 (Nat.lt_of_lt_of_le hbq0 (Nat.le_of_ble_eq_true rfl)) ((mfe haq0 hbq0) _ _) rfl (Nat.le_of_ble_eq_true rfl) (Fx0.T tw_2_10) rfl (v := .int (gi m1 q0 4)) rfl dX2_spliceIfEmpty_28 ?_
          refine lv_iconst (v := (1 : Int32)) hx hb dX2_spliceIfEmpty_31 (by decide) ?_
          refine lv_isub hx hb dX2_spliceIfEmpty_32 ?_
          obtain ⟨m2, em2, hD⟩ := bnd_el hD
          refine rp  hx hb hT hu2 tyX2_ok nmX2 hown hK hP (hD1 _ (hAd _ _)) hS hL q0 4 (Nat.lt_of_lt_of_le hbq0 (Nat.le_of_ble_eq_true rfl)) ((mfe haq0 hbq0) _ _) ((mfe haq0 hbq0) _ _) rfl (Nat.le_of_ble_eq_true rfl) (Fx0.T tw_2_10) rfl rfl rfl rfl (Nat.le_of_ble_eq_true rfl) dX2_spliceIfEmpty_33 em2 (fun H locs hP hS => ?_)
          refine lv_aload_n hx hb dX2_spliceIfEmpty_36 rfl (lv_at hl 0 rfl) ?_
          refine rg  hx hb hT hu2 hown hK hP hL q0 5 (Nat.lt_of_lt_of_le hbq0 (Nat.le_of_ble_eq_true rfl)) ((mfe haq0 hbq0) _ _) rfl (Nat.le_of_ble_eq_true rfl) (Fx0.T tw_2_13) rfl (v := .ref (ad (q0 + 10))) rfl dX2_spliceIfEmpty_37 ?_
          refine lv_iconst (v := (1 : Int32)) hx hb dX2_spliceIfEmpty_40 (by decide) ?_
          refine lv_aload_n hx hb dX2_spliceIfEmpty_41 rfl (lv_at hl 0 rfl) ?_
          refine rg  hx hb hT hu2 hown hK hP hL q0 5 (Nat.lt_of_lt_of_le hbq0 (Nat.le_of_ble_eq_true rfl)) ((mfe haq0 hbq0) _ _) rfl (Nat.le_of_ble_eq_true rfl) (Fx0.T tw_2_13) rfl (v := .ref (ad (q0 + 10))) rfl dX2_spliceIfEmpty_42 ?_
          refine lv_iconst (v := (0 : Int32)) hx hb dX2_spliceIfEmpty_45 (by decide) ?_
          refine lv_aload_n hx hb dX2_spliceIfEmpty_46 rfl (lv_at hl 0 rfl) ?_
          refine rg  hx hb hT hu2 hown hK hP hL q0 4 (Nat.lt_of_lt_of_le hbq0 (Nat.le_of_ble_eq_true rfl)) ((mfe haq0 hbq0) _ _) rfl (Nat.le_of_ble_eq_true rfl) (Fx0.T tw_2_10) rfl (v := .int (gi m2 q0 4)) rfl dX2_spliceIfEmpty_47 ?_
          obtain ⟨h3, hD⟩ := gd_el hD
          obtain ⟨m4, em4, hD⟩ := bnd_el hD
          refine rcp (mm := m2) (ms := m2) hx hb (hml.trans hl.1.symm) hT hown tw_4_16 tw_2_47 tw_2_46 tw_1_8 hK hP (hD1 _ (hAd _ _)) hS hL rfl (q0 + 10) (mreq hbq0) ((mre haq0 hbq0) _ _) hL (q0 + 10) (mreq hbq0) (fun _ => (mre haq0 hbq0) _ _) (by decide) (by decide) rfl h3 (Nat.le_of_ble_eq_true rfl) (Nat.le_of_ble_eq_true rfl) dX2_spliceIfEmpty_50 em4 (fun H locs hP hS => ?_)
          refine lv_aload_n hx hb dX2_spliceIfEmpty_53 rfl (lv_at hl 0 rfl) ?_
          refine lv_iconst (v := (1 : Int32)) hx hb dX2_spliceIfEmpty_54 (by decide) ?_
          obtain ⟨m5, em5, hD⟩ := bnd_el hD
          refine rp  hx hb hT hu2 tyX2_ok nmX2 hown hK hP (hD1 _ (hAd _ _)) hS hL q0 8 (Nat.lt_of_lt_of_le hbq0 (Nat.le_of_ble_eq_true rfl)) ((mfe haq0 hbq0) _ _) ((mfe haq0 hbq0) _ _) rfl (Nat.le_of_ble_eq_true rfl) (Fx0.T tw_2_18) rfl rfl rfl rfl (Nat.le_of_ble_eq_true rfl) dX2_spliceIfEmpty_55 em5 (fun H locs hP hS => ?_)
          obtain ⟨v6, ev6, hD⟩ := bnd_el hD
          refine lv_iinc (v := v6) (lv' := [(1, .int v6), (0, .ref (ad q0))]) hx hb dX2_spliceIfEmpty_58 hl (k := 1) rfl (by rw [ev6]; rfl) (by decide) rfl (fun ls hl => ?_)
          refine lv_goto (tgt := 2) hx hb dX2_spliceIfEmpty_61 (by decide) ?_
          exact ih _ _ _ _ _ _ hD haq0 hbq0 hP hS (lv_sub hl [1, 0] rfl)
  refine lv_iconst (v := (0 : Int32)) hx hb dX2_spliceIfEmpty_0 (by decide) ?_
  refine lv_istore_n (lv' := [(1, .int (0 : Int32)), (0, .ref (ad q0))]) hx hb dX2_spliceIfEmpty_1 rfl hl (by decide) rfl (fun ls hl => ?_)
  exact c_2 FU _ _ _ _ _ _ hD haq0 hbq0 hP hS (lv_sub hl [1, 0] rfl)
