/-! the class's own methods that may throw -/
noncomputable def D_X9_requireIndex (x0 : Int32) (x1 : Int32) : Option (Nat ⊕ Unit) := if x0 < 0 then (some (.inl 0)) else (if x0 < x1 then (lif (some ())) else (some (.inl 0)))
set_option maxHeartbeats 4000000 in
set_option maxRecDepth 100000 in
theorem c_X9_requireIndex (l : Launch) {D : va_G} {cs : Nat → ClassId} {w : va_W} (x0 : Int32) (x1 : Int32) (hD : D_X9_requireIndex x0 x1 = some (.inr ())) : Ct l yX9_requireIndex cX9_requireIndex 2 none 6 82 D cs [.int x0, .int x1] (w) (w) (none) := by
  refine Ct.ofW (by decide) (Nat.le_of_ble_eq_true rfl) rfl ?_
  intro p e s m0 below meth c A Q ls args hx hb hr hml hlocks hown hts hK hP hD1 hSS hS hA1 hl hret
  have hT : ∀ w ∈ TBL, w.before args s = true := fun w h => hts w (List.mem_cons_of_mem _ h)
  have Fx0 : Fx p l m0 c cX9_requireIndex 2 s args yX9_requireIndex cX9_requireIndex 2 none D cs A := ⟨hx, hb, hml, hown, hts, hK, hSS⟩
  have hown : s.vm.findClass RX9 = some m0.cls := hown
  have hl : lv_has ls 2 [(0, .int x0), (1, .int x1)] := hl
  unfold D_X9_requireIndex at hD
  refine lv_iload_n hx hb dX9_requireIndex_0 rfl (lv_at hl 0 rfl) ?_
  refine lv_if_lt (tgt := 9) hx hb dX9_requireIndex_1 (by decide) (fun c => ?_) (fun c => ?_)
  · have hD := ifp hD c
    cases hD
  · have hD := ifn hD c
    refine lv_iload_n hx hb dX9_requireIndex_4 rfl (lv_at hl 0 rfl) ?_
    refine lv_iload_n hx hb dX9_requireIndex_5 rfl (lv_at hl 1 rfl) ?_
    refine lv_icmp_lt (tgt := 20) hx hb dX9_requireIndex_6 (by decide) (fun c => ?_) (fun c => ?_)
    · have hD := ifp hD c
      have hD := lif_el hD
      cases hD
      exact hret _ _ _ hP hS (fun Qc hq => W.vret hx hb hr hq hS.2.2 dX9_requireIndex_20 hlocks)
    · have hD := ifn hD c
      cases hD
set_option maxHeartbeats 4000000 in
set_option maxRecDepth 100000 in
theorem x_X9_requireIndex (l : Launch) (hst : l.stackTraces = false) {D : va_G} {cs : Nat → ClassId} {w : va_W} (x0 : Int32) (x1 : Int32) {kx : Nat} (hD : D_X9_requireIndex x0 x1 = some (.inl kx)) : CtX l yX9_requireIndex cX9_requireIndex 2 none 6 82 D cs [.int x0, .int x1] (w) kx := by
  refine CtX.ofW (by decide) (Nat.le_of_ble_eq_true rfl) ?_
  intro p e s m0 below meth c A ls args hx hb hml hlocks hown hex hts hK hP hD1 hSS hS hA1 hl
  have hT : ∀ w ∈ TBL, w.before args s = true := fun w h => hts w (List.mem_cons_of_mem _ h)
  have Fx0 : Fx p l m0 c cX9_requireIndex 2 s args yX9_requireIndex cX9_requireIndex 2 none D cs A := ⟨hx, hb, hml, hown, hts, hK, hSS⟩
  have hown : s.vm.findClass RX9 = some m0.cls := hown
  have hl : lv_has ls 2 [(0, .int x0), (1, .int x1)] := hl
  unfold D_X9_requireIndex at hD
  refine lv_iload_n hx hb dX9_requireIndex_0 rfl (lv_at hl 0 rfl) ?_
  refine lv_if_lt (tgt := 9) hx hb dX9_requireIndex_1 (by decide) (fun c => ?_) (fun c => ?_)
  · have hD := ifp hD c
    cases hD
    exact rthrW (own := RX9) (x := ("PlacerHead", 352, "there is no such thing", 15)) hx hb hst exN_ok0 15 rfl rfl hT hown hK hSS hP hS (hml.trans hl.1.symm) hlocks hex tw_5_97 tw_1_27 at_354_0 ag_354_0 dX9_requireIndex_9 dX9_requireIndex_12 dX9_requireIndex_13 dX9_requireIndex_16 dX9_requireIndex_19 (by decide) (by decide) (by decide) (by decide) hS.1
  · have hD := ifn hD c
    refine lv_iload_n hx hb dX9_requireIndex_4 rfl (lv_at hl 0 rfl) ?_
    refine lv_iload_n hx hb dX9_requireIndex_5 rfl (lv_at hl 1 rfl) ?_
    refine lv_icmp_lt (tgt := 20) hx hb dX9_requireIndex_6 (by decide) (fun c => ?_) (fun c => ?_)
    · have hD := ifp hD c
      exact lif_no hD
    · have hD := ifn hD c
      cases hD
      exact rthrW (own := RX9) (x := ("PlacerHead", 352, "there is no such thing", 15)) hx hb hst exN_ok0 15 rfl rfl hT hown hK hSS hP hS (hml.trans hl.1.symm) hlocks hex tw_5_97 tw_1_27 at_354_0 ag_354_0 dX9_requireIndex_9 dX9_requireIndex_12 dX9_requireIndex_13 dX9_requireIndex_16 dX9_requireIndex_19 (by decide) (by decide) (by decide) (by decide) hS.1

noncomputable def D_X9_requireRange (x0 : Int32) (x1 : Int32) (x2 : Int32) : Option (Nat ⊕ Unit) := if x0 < x1 then (some (.inl 1)) else (if x0 ≤ x2 then (lif (some ())) else (some (.inl 1)))
set_option maxHeartbeats 4000000 in
set_option maxRecDepth 100000 in
theorem c_X9_requireRange (l : Launch) {D : va_G} {cs : Nat → ClassId} {w : va_W} (x0 : Int32) (x1 : Int32) (x2 : Int32) (hD : D_X9_requireRange x0 x1 x2 = some (.inr ())) : Ct l yX9_requireRange cX9_requireRange 3 none 6 82 D cs [.int x0, .int x1, .int x2] (w) (w) (none) := by
  refine Ct.ofW (by decide) (Nat.le_of_ble_eq_true rfl) rfl ?_
  intro p e s m0 below meth c A Q ls args hx hb hr hml hlocks hown hts hK hP hD1 hSS hS hA1 hl hret
  have hT : ∀ w ∈ TBL, w.before args s = true := fun w h => hts w (List.mem_cons_of_mem _ h)
  have Fx0 : Fx p l m0 c cX9_requireRange 3 s args yX9_requireRange cX9_requireRange 3 none D cs A := ⟨hx, hb, hml, hown, hts, hK, hSS⟩
  have hown : s.vm.findClass RX9 = some m0.cls := hown
  have hl : lv_has ls 3 [(0, .int x0), (1, .int x1), (2, .int x2)] := hl
  unfold D_X9_requireRange at hD
  refine lv_iload_n hx hb dX9_requireRange_0 rfl (lv_at hl 0 rfl) ?_
  refine lv_iload_n hx hb dX9_requireRange_1 rfl (lv_at hl 1 rfl) ?_
  refine lv_icmp_lt (tgt := 10) hx hb dX9_requireRange_2 (by decide) (fun c => ?_) (fun c => ?_)
  · have hD := ifp hD c
    cases hD
  · have hD := ifn hD c
    refine lv_iload_n hx hb dX9_requireRange_5 rfl (lv_at hl 0 rfl) ?_
    refine lv_iload_n hx hb dX9_requireRange_6 rfl (lv_at hl 2 rfl) ?_
    refine lv_icmp_le (tgt := 21) hx hb dX9_requireRange_7 (by decide) (fun c => ?_) (fun c => ?_)
    · have hD := ifp hD c
      have hD := lif_el hD
      cases hD
      exact hret _ _ _ hP hS (fun Qc hq => W.vret hx hb hr hq hS.2.2 dX9_requireRange_21 hlocks)
    · have hD := ifn hD c
      cases hD
set_option maxHeartbeats 4000000 in
set_option maxRecDepth 100000 in
theorem x_X9_requireRange (l : Launch) (hst : l.stackTraces = false) {D : va_G} {cs : Nat → ClassId} {w : va_W} (x0 : Int32) (x1 : Int32) (x2 : Int32) {kx : Nat} (hD : D_X9_requireRange x0 x1 x2 = some (.inl kx)) : CtX l yX9_requireRange cX9_requireRange 3 none 6 82 D cs [.int x0, .int x1, .int x2] (w) kx := by
  refine CtX.ofW (by decide) (Nat.le_of_ble_eq_true rfl) ?_
  intro p e s m0 below meth c A ls args hx hb hml hlocks hown hex hts hK hP hD1 hSS hS hA1 hl
  have hT : ∀ w ∈ TBL, w.before args s = true := fun w h => hts w (List.mem_cons_of_mem _ h)
  have Fx0 : Fx p l m0 c cX9_requireRange 3 s args yX9_requireRange cX9_requireRange 3 none D cs A := ⟨hx, hb, hml, hown, hts, hK, hSS⟩
  have hown : s.vm.findClass RX9 = some m0.cls := hown
  have hl : lv_has ls 3 [(0, .int x0), (1, .int x1), (2, .int x2)] := hl
  unfold D_X9_requireRange at hD
  refine lv_iload_n hx hb dX9_requireRange_0 rfl (lv_at hl 0 rfl) ?_
  refine lv_iload_n hx hb dX9_requireRange_1 rfl (lv_at hl 1 rfl) ?_
  refine lv_icmp_lt (tgt := 10) hx hb dX9_requireRange_2 (by decide) (fun c => ?_) (fun c => ?_)
  · have hD := ifp hD c
    cases hD
    exact rthrW (own := RX9) (x := ("PlacerHead", 355, "a number is out of its range", 13)) hx hb hst exN_ok1 13 rfl rfl hT hown hK hSS hP hS (hml.trans hl.1.symm) hlocks hex tw_5_24 tw_1_26 at_110_1 ag_110_1 dX9_requireRange_10 dX9_requireRange_13 dX9_requireRange_14 dX9_requireRange_17 dX9_requireRange_20 (by decide) (by decide) (by decide) (by decide) hS.1
  · have hD := ifn hD c
    refine lv_iload_n hx hb dX9_requireRange_5 rfl (lv_at hl 0 rfl) ?_
    refine lv_iload_n hx hb dX9_requireRange_6 rfl (lv_at hl 2 rfl) ?_
    refine lv_icmp_le (tgt := 21) hx hb dX9_requireRange_7 (by decide) (fun c => ?_) (fun c => ?_)
    · have hD := ifp hD c
      exact lif_no hD
    · have hD := ifn hD c
      cases hD
      exact rthrW (own := RX9) (x := ("PlacerHead", 355, "a number is out of its range", 13)) hx hb hst exN_ok1 13 rfl rfl hT hown hK hSS hP hS (hml.trans hl.1.symm) hlocks hex tw_5_24 tw_1_26 at_110_1 ag_110_1 dX9_requireRange_10 dX9_requireRange_13 dX9_requireRange_14 dX9_requireRange_17 dX9_requireRange_20 (by decide) (by decide) (by decide) (by decide) hS.1

noncomputable def D_X9_count (x1 : Int32) (h : MM) (m : MM) : Option (Nat ⊕ Int32) := if x1 = (0 : Int32) then (lif (some ((gi m 24 1)))) else (if x1 = (1 : Int32) then (lif (some ((gi m 24 3)))) else (if x1 = (2 : Int32) then (lif (some ((gi m 28 0)))) else (if x1 = (3 : Int32) then (lif (some ((gi m 24 6)))) else (if x1 = (4 : Int32) then (lif (some ((gi m 36 0)))) else (if x1 = (5 : Int32) then (lif (some ((gi m 36 9)))) else (some (.inl 1)))))))
set_option maxHeartbeats 4000000 in
set_option maxRecDepth 100000 in
theorem c_X9_count (l : Launch) {D : va_G} {cs : Nat → ClassId} {adh ad ma : Nat → Nat} {Wf : MM → MM → va_W} (hLh : ∀ m : MM, Ln 8 adh (hsh cs adh ma) (fun z => Wf z m)) (hL : ∀ h : MM, Ln 51 ad (msh cs ad) (fun z => Wf h z)) (hAd : ∀ a0_ b0_ a1_ b1_ : MM, (Wf a0_ a1_).map (fun q => q.1) = (Wf b0_ b1_).map (fun q => q.1)) (hm1 : ma 1 = ad 24) (h : MM) (m : MM) (x1 : Int32) {rr : Int32} (hD : D_X9_count x1 h m = some (.inr (rr))) : Ct l yX9_count cX9_count 2 (some .int) 6 82 D cs [.ref (adh 0), .int x1] (Wf h m) (Wf h m) (some (.int rr)) := by
  refine Ct.ofW (by decide) (Nat.le_of_ble_eq_true rfl) rfl ?_
  intro p e s m0 below meth c A Q ls args hx hb hr hml hlocks hown hts hK hP hD1 hSS hS hA1 hl hret
  have hT : ∀ w ∈ TBL, w.before args s = true := fun w h => hts w (List.mem_cons_of_mem _ h)
  have Fx0 : Fx p l m0 c cX9_count 2 s args yX9_count cX9_count 2 (some .int) D cs A := ⟨hx, hb, hml, hown, hts, hK, hSS⟩
  have hown : s.vm.findClass RX9 = some m0.cls := hown
  have hl : lv_has ls 2 [(0, .ref (adh 0)), (1, .int x1)] := hl
  unfold D_X9_count at hD
  refine lv_iload_n hx hb dX9_count_0 rfl (lv_at hl 1 rfl) ?_
  by_cases sw1_0 : x1 = (0 : Int32)
  · have hD := ifp hD sw1_0
    refine lv_tableIn (off := 39) (tgt := 40) hx hb dX9_count_1 (by rw [sw1_0]; decide) (by rw [sw1_0]; decide) (by rw [sw1_0]; rfl) (by decide) ?_
    have hD := lif_el hD
    refine lv_aload_n hx hb dX9_count_40 rfl (lv_at hl 0 rfl) ?_
    refine rg (Wf := fun z => Wf z m) (mm := h) hx hb hT hu9 hown hK hP (hLh m) 0 3 (Nat.le_of_ble_eq_true rfl) (hs0 _ _) rfl (Nat.le_of_ble_eq_true rfl) (Fx0.T tw_3_4) rfl (v := .ref (ad 24)) (congrArg (fun z => some (Value.ref z)) hm1) dX9_count_41 ?_
    refine rgN (Wf := fun z => Wf h z) (mm := m) hx hb hT hu6 hown hK hP (hL h) 24 1 (Nat.le_of_ble_eq_true rfl) (ms24 _ _) rfl (Nat.le_of_ble_eq_true rfl) tw_2_80 rfl (v := .int (gi m 24 1)) rfl dX9_count_44 ?_
    obtain rfl := es1 hD
    exact hret _ _ _ hP hS (fun Qc hq => W.iret hx hb hr hq hS.2.2 dX9_count_47 hlocks)
  · have hD := ifn hD sw1_0
    by_cases sw1_1 : x1 = (1 : Int32)
    · have hD := ifp hD sw1_1
      refine lv_tableIn (off := 47) (tgt := 48) hx hb dX9_count_1 (by rw [sw1_1]; decide) (by rw [sw1_1]; decide) (by rw [sw1_1]; rfl) (by decide) ?_
      have hD := lif_el hD
      refine lv_aload_n hx hb dX9_count_48 rfl (lv_at hl 0 rfl) ?_
      refine rg (Wf := fun z => Wf z m) (mm := h) hx hb hT hu9 hown hK hP (hLh m) 0 3 (Nat.le_of_ble_eq_true rfl) (hs0 _ _) rfl (Nat.le_of_ble_eq_true rfl) (Fx0.T tw_3_4) rfl (v := .ref (ad 24)) (congrArg (fun z => some (Value.ref z)) hm1) dX9_count_49 ?_
      refine rgN (Wf := fun z => Wf h z) (mm := m) hx hb hT hu6 hown hK hP (hL h) 24 3 (Nat.le_of_ble_eq_true rfl) (ms24 _ _) rfl (Nat.le_of_ble_eq_true rfl) tw_2_86 rfl (v := .int (gi m 24 3)) rfl dX9_count_52 ?_
      obtain rfl := es1 hD
      exact hret _ _ _ hP hS (fun Qc hq => W.iret hx hb hr hq hS.2.2 dX9_count_55 hlocks)
    · have hD := ifn hD sw1_1
      by_cases sw1_2 : x1 = (2 : Int32)
      · have hD := ifp hD sw1_2
        refine lv_tableIn (off := 55) (tgt := 56) hx hb dX9_count_1 (by rw [sw1_2]; decide) (by rw [sw1_2]; decide) (by rw [sw1_2]; rfl) (by decide) ?_
        have hD := lif_el hD
        refine lv_aload_n hx hb dX9_count_56 rfl (lv_at hl 0 rfl) ?_
        refine rg (Wf := fun z => Wf z m) (mm := h) hx hb hT hu9 hown hK hP (hLh m) 0 3 (Nat.le_of_ble_eq_true rfl) (hs0 _ _) rfl (Nat.le_of_ble_eq_true rfl) (Fx0.T tw_3_4) rfl (v := .ref (ad 24)) (congrArg (fun z => some (Value.ref z)) hm1) dX9_count_57 ?_
        refine rgN (Wf := fun z => Wf h z) (mm := m) hx hb hT hu6 hown hK hP (hL h) 24 5 (Nat.le_of_ble_eq_true rfl) (ms24 _ _) rfl (Nat.le_of_ble_eq_true rfl) tw_2_92 rfl (v := .ref (ad 28)) rfl dX9_count_60 ?_
        refine rgN (Wf := fun z => Wf h z) (mm := m) hx hb hT hu5 hown hK hP (hL h) 28 0 (Nat.le_of_ble_eq_true rfl) (ms28 _ _) rfl (Nat.le_of_ble_eq_true rfl) tw_1_52 rfl (v := .int (gi m 28 0)) rfl dX9_count_63 ?_
        obtain rfl := es1 hD
        exact hret _ _ _ hP hS (fun Qc hq => W.iret hx hb hr hq hS.2.2 dX9_count_66 hlocks)
      · have hD := ifn hD sw1_2
        by_cases sw1_3 : x1 = (3 : Int32)
        · have hD := ifp hD sw1_3
          refine lv_tableIn (off := 66) (tgt := 67) hx hb dX9_count_1 (by rw [sw1_3]; decide) (by rw [sw1_3]; decide) (by rw [sw1_3]; rfl) (by decide) ?_
          have hD := lif_el hD
          refine lv_aload_n hx hb dX9_count_67 rfl (lv_at hl 0 rfl) ?_
          refine rg (Wf := fun z => Wf z m) (mm := h) hx hb hT hu9 hown hK hP (hLh m) 0 3 (Nat.le_of_ble_eq_true rfl) (hs0 _ _) rfl (Nat.le_of_ble_eq_true rfl) (Fx0.T tw_3_4) rfl (v := .ref (ad 24)) (congrArg (fun z => some (Value.ref z)) hm1) dX9_count_68 ?_
          refine rgN (Wf := fun z => Wf h z) (mm := m) hx hb hT hu6 hown hK hP (hL h) 24 6 (Nat.le_of_ble_eq_true rfl) (ms24 _ _) rfl (Nat.le_of_ble_eq_true rfl) tw_2_96 rfl (v := .int (gi m 24 6)) rfl dX9_count_71 ?_
          obtain rfl := es1 hD
          exact hret _ _ _ hP hS (fun Qc hq => W.iret hx hb hr hq hS.2.2 dX9_count_74 hlocks)
        · have hD := ifn hD sw1_3
          by_cases sw1_4 : x1 = (4 : Int32)
          · have hD := ifp hD sw1_4
            refine lv_tableIn (off := 74) (tgt := 75) hx hb dX9_count_1 (by rw [sw1_4]; decide) (by rw [sw1_4]; decide) (by rw [sw1_4]; rfl) (by decide) ?_
            have hD := lif_el hD
            refine lv_aload_n hx hb dX9_count_75 rfl (lv_at hl 0 rfl) ?_
            refine rg (Wf := fun z => Wf z m) (mm := h) hx hb hT hu9 hown hK hP (hLh m) 0 3 (Nat.le_of_ble_eq_true rfl) (hs0 _ _) rfl (Nat.le_of_ble_eq_true rfl) (Fx0.T tw_3_4) rfl (v := .ref (ad 24)) (congrArg (fun z => some (Value.ref z)) hm1) dX9_count_76 ?_
            refine rgN (Wf := fun z => Wf h z) (mm := m) hx hb hT hu6 hown hK hP (hL h) 24 8 (Nat.le_of_ble_eq_true rfl) (ms24 _ _) rfl (Nat.le_of_ble_eq_true rfl) tw_2_105 rfl (v := .ref (ad 36)) rfl dX9_count_79 ?_
            refine rgN (Wf := fun z => Wf h z) (mm := m) hx hb hT hu0 hown hK hP (hL h) 36 0 (Nat.le_of_ble_eq_true rfl) (ms36 _ _) rfl (Nat.le_of_ble_eq_true rfl) tw_1_96 rfl (v := .int (gi m 36 0)) rfl dX9_count_82 ?_
            obtain rfl := es1 hD
            exact hret _ _ _ hP hS (fun Qc hq => W.iret hx hb hr hq hS.2.2 dX9_count_85 hlocks)
          · have hD := ifn hD sw1_4
            by_cases sw1_5 : x1 = (5 : Int32)
            · have hD := ifp hD sw1_5
              refine lv_tableIn (off := 85) (tgt := 86) hx hb dX9_count_1 (by rw [sw1_5]; decide) (by rw [sw1_5]; decide) (by rw [sw1_5]; rfl) (by decide) ?_
              have hD := lif_el hD
              refine lv_aload_n hx hb dX9_count_86 rfl (lv_at hl 0 rfl) ?_
              refine rg (Wf := fun z => Wf z m) (mm := h) hx hb hT hu9 hown hK hP (hLh m) 0 3 (Nat.le_of_ble_eq_true rfl) (hs0 _ _) rfl (Nat.le_of_ble_eq_true rfl) (Fx0.T tw_3_4) rfl (v := .ref (ad 24)) (congrArg (fun z => some (Value.ref z)) hm1) dX9_count_87 ?_
              refine rgN (Wf := fun z => Wf h z) (mm := m) hx hb hT hu6 hown hK hP (hL h) 24 8 (Nat.le_of_ble_eq_true rfl) (ms24 _ _) rfl (Nat.le_of_ble_eq_true rfl) tw_2_105 rfl (v := .ref (ad 36)) rfl dX9_count_90 ?_
              refine rgN (Wf := fun z => Wf h z) (mm := m) hx hb hT hu0 hown hK hP (hL h) 36 9 (Nat.le_of_ble_eq_true rfl) (ms36 _ _) rfl (Nat.le_of_ble_eq_true rfl) tw_1_116 rfl (v := .int (gi m 36 9)) rfl dX9_count_93 ?_
              obtain rfl := es1 hD
              exact hret _ _ _ hP hS (fun Qc hq => W.iret hx hb hr hq hS.2.2 dX9_count_96 hlocks)
            · have hD := ifn hD sw1_5
              refine lv_tableOut (tgt := 97) hx hb dX9_count_1 (swo 0 5 (fun k h1 h2 e => ?_)) (by decide) ?_
              · have h3 : k = 0 ∨ k = 1 ∨ k = 2 ∨ k = 3 ∨ k = 4 ∨ k = 5 ∨ False := by omega
                rcases h3 with rfl | rfl | rfl | rfl | rfl | rfl | h3
                · exact absurd e sw1_0
                · exact absurd e sw1_1
                · exact absurd e sw1_2
                · exact absurd e sw1_3
                · exact absurd e sw1_4
                · exact absurd e sw1_5
                · exact h3
              cases hD
set_option maxHeartbeats 4000000 in
set_option maxRecDepth 100000 in
theorem x_X9_count (l : Launch) (hst : l.stackTraces = false) {D : va_G} {cs : Nat → ClassId} {adh ad ma : Nat → Nat} {Wf : MM → MM → va_W} (hLh : ∀ m : MM, Ln 8 adh (hsh cs adh ma) (fun z => Wf z m)) (hL : ∀ h : MM, Ln 51 ad (msh cs ad) (fun z => Wf h z)) (hAd : ∀ a0_ b0_ a1_ b1_ : MM, (Wf a0_ a1_).map (fun q => q.1) = (Wf b0_ b1_).map (fun q => q.1)) (hm1 : ma 1 = ad 24) (h : MM) (m : MM) (x1 : Int32) {kx : Nat} (hD : D_X9_count x1 h m = some (.inl kx)) : CtX l yX9_count cX9_count 2 (some .int) 6 82 D cs [.ref (adh 0), .int x1] (Wf h m) kx := by
  refine CtX.ofW (by decide) (Nat.le_of_ble_eq_true rfl) ?_
  intro p e s m0 below meth c A ls args hx hb hml hlocks hown hex hts hK hP hD1 hSS hS hA1 hl
  have hT : ∀ w ∈ TBL, w.before args s = true := fun w h => hts w (List.mem_cons_of_mem _ h)
  have Fx0 : Fx p l m0 c cX9_count 2 s args yX9_count cX9_count 2 (some .int) D cs A := ⟨hx, hb, hml, hown, hts, hK, hSS⟩
  have hown : s.vm.findClass RX9 = some m0.cls := hown
  have hl : lv_has ls 2 [(0, .ref (adh 0)), (1, .int x1)] := hl
  unfold D_X9_count at hD
  refine lv_iload_n hx hb dX9_count_0 rfl (lv_at hl 1 rfl) ?_
  by_cases sw1_0 : x1 = (0 : Int32)
  · have hD := ifp hD sw1_0
    refine lv_tableIn (off := 39) (tgt := 40) hx hb dX9_count_1 (by rw [sw1_0]; decide) (by rw [sw1_0]; decide) (by rw [sw1_0]; rfl) (by decide) ?_
    exact lif_no hD
  · have hD := ifn hD sw1_0
    by_cases sw1_1 : x1 = (1 : Int32)
    · have hD := ifp hD sw1_1
      refine lv_tableIn (off := 47) (tgt := 48) hx hb dX9_count_1 (by rw [sw1_1]; decide) (by rw [sw1_1]; decide) (by rw [sw1_1]; rfl) (by decide) ?_
      exact lif_no hD
    · have hD := ifn hD sw1_1
      by_cases sw1_2 : x1 = (2 : Int32)
      · have hD := ifp hD sw1_2
        refine lv_tableIn (off := 55) (tgt := 56) hx hb dX9_count_1 (by rw [sw1_2]; decide) (by rw [sw1_2]; decide) (by rw [sw1_2]; rfl) (by decide) ?_
        exact lif_no hD
      · have hD := ifn hD sw1_2
        by_cases sw1_3 : x1 = (3 : Int32)
        · have hD := ifp hD sw1_3
          refine lv_tableIn (off := 66) (tgt := 67) hx hb dX9_count_1 (by rw [sw1_3]; decide) (by rw [sw1_3]; decide) (by rw [sw1_3]; rfl) (by decide) ?_
          exact lif_no hD
        · have hD := ifn hD sw1_3
          by_cases sw1_4 : x1 = (4 : Int32)
          · have hD := ifp hD sw1_4
            refine lv_tableIn (off := 74) (tgt := 75) hx hb dX9_count_1 (by rw [sw1_4]; decide) (by rw [sw1_4]; decide) (by rw [sw1_4]; rfl) (by decide) ?_
            exact lif_no hD
          · have hD := ifn hD sw1_4
            by_cases sw1_5 : x1 = (5 : Int32)
            · have hD := ifp hD sw1_5
              refine lv_tableIn (off := 85) (tgt := 86) hx hb dX9_count_1 (by rw [sw1_5]; decide) (by rw [sw1_5]; decide) (by rw [sw1_5]; rfl) (by decide) ?_
              exact lif_no hD
            · have hD := ifn hD sw1_5
              refine lv_tableOut (tgt := 97) hx hb dX9_count_1 (swo 0 5 (fun k h1 h2 e => ?_)) (by decide) ?_
              · have h3 : k = 0 ∨ k = 1 ∨ k = 2 ∨ k = 3 ∨ k = 4 ∨ k = 5 ∨ False := by omega
                rcases h3 with rfl | rfl | rfl | rfl | rfl | rfl | h3
                · exact absurd e sw1_0
                · exact absurd e sw1_1
                · exact absurd e sw1_2
                · exact absurd e sw1_3
                · exact absurd e sw1_4
                · exact absurd e sw1_5
                · exact h3
              cases hD
              exact rthrS (own := RX9) (x := ("PlacerHead", 108, "what is 0 to 5", 12)) hx hb hst exN_ok1 12 rfl rfl hT hown hK hSS hP hS (hml.trans hl.1.symm) hlocks hex tw_5_24 tw_1_26 at_110_1 ag_110_1 dX9_count_97 dX9_count_100 dX9_count_101 dX9_count_103 dX9_count_106 (by decide) (by decide) (by decide) (by decide) hS.1

noncomputable def D_X9_setting (x1 : Int32) (h : MM) (m : MM) : Option (Nat ⊕ Int32) := bX (D_X9_requireRange x1 (0 : Int32) (14 : Int32)) (fun _ => lif (if x1 < 0 ∨ 15 ≤ x1.toNatClampNeg then none else (some ((gi m 25 x1.toNatClampNeg)))))
set_option maxHeartbeats 4000000 in
set_option maxRecDepth 100000 in
theorem c_X9_setting (l : Launch) {D : va_G} {cs : Nat → ClassId} {adh ad ma : Nat → Nat} {Wf : MM → MM → va_W} (hLh : ∀ m : MM, Ln 8 adh (hsh cs adh ma) (fun z => Wf z m)) (hL : ∀ h : MM, Ln 51 ad (msh cs ad) (fun z => Wf h z)) (hAd : ∀ a0_ b0_ a1_ b1_ : MM, (Wf a0_ a1_).map (fun q => q.1) = (Wf b0_ b1_).map (fun q => q.1)) (hm1 : ma 1 = ad 24) (h : MM) (m : MM) (x1 : Int32) {rr : Int32} (hD : D_X9_setting x1 h m = some (.inr (rr))) : Ct l yX9_setting cX9_setting 2 (some .int) 7 104 D cs [.ref (adh 0), .int x1] (Wf h m) (Wf h m) (some (.int rr)) := by
  refine Ct.ofW (by decide) (Nat.le_of_ble_eq_true rfl) rfl ?_
  intro p e s m0 below meth c A Q ls args hx hb hr hml hlocks hown hts hK hP hD1 hSS hS hA1 hl hret
  have hT : ∀ w ∈ TBL, w.before args s = true := fun w h => hts w (List.mem_cons_of_mem _ h)
  have Fx0 : Fx p l m0 c cX9_setting 2 s args yX9_setting cX9_setting 2 (some .int) D cs A := ⟨hx, hb, hml, hown, hts, hK, hSS⟩
  have hown : s.vm.findClass RX9 = some m0.cls := hown
  have hl : lv_has ls 2 [(0, .ref (adh 0)), (1, .int x1)] := hl
  unfold D_X9_setting at hD
  refine lv_iload_n hx hb dX9_setting_0 rfl (lv_at hl 1 rfl) ?_
  refine lv_iconst (v := (0 : Int32)) hx hb dX9_setting_1 (by decide) ?_
  refine lv_bipush (v := (14 : Int32)) hx hb dX9_setting_2 (by decide) ?_
  obtain ⟨u_, z1, hD⟩ := bX_el hD
  refine rcS (As := [.int x1, .int (0 : Int32), .int (14 : Int32)]) (rest := []) Fx0 (c_X9_requireRange l x1 (0 : Int32) (14 : Int32) z1) hP (hD1 _ (hAd _ _ _ _)) hS (hA1 _ _ (hAd _ _ _ _) hS.1) tw_5_211 tw_5_209 tw_5_210 tw_1_1 yd_X9_requireRange ⟨(Nat.le_of_ble_eq_true rfl), (Nat.le_of_ble_eq_true rfl)⟩ rfl hl.1 rfl (Nat.le_of_ble_eq_true rfl) dX9_setting_4 (fun H locs hP hS => ?_)
  have hD := lif_el hD
  refine lv_aload_n hx hb dX9_setting_7 rfl (lv_at hl 0 rfl) ?_
  refine rg (Wf := fun z => Wf z m) (mm := h) hx hb hT hu9 hown hK hP (hLh m) 0 3 (Nat.le_of_ble_eq_true rfl) (hs0 _ _) rfl (Nat.le_of_ble_eq_true rfl) (Fx0.T tw_3_4) rfl (v := .ref (ad 24)) (congrArg (fun z => some (Value.ref z)) hm1) dX9_setting_8 ?_
  refine rgN (Wf := fun z => Wf h z) (mm := m) hx hb hT hu6 hown hK hP (hL h) 24 0 (Nat.le_of_ble_eq_true rfl) (ms24 _ _) rfl (Nat.le_of_ble_eq_true rfl) tw_2_76 rfl (v := .ref (ad 25)) rfl dX9_setting_11 ?_
  refine lv_iload_n hx hb dX9_setting_14 rfl (lv_at hl 1 rfl) ?_
  obtain ⟨h2, hD⟩ := gd_el hD
  refine riald (Wf := fun z => Wf h z) (mm := m) hx hb hK hP (hL h) 25 (Nat.le_of_ble_eq_true rfl) (ms25 _ _) h2 rfl dX9_setting_15 ?_
  obtain rfl := es1 hD
  exact hret _ _ _ hP hS (fun Qc hq => W.iret hx hb hr hq hS.2.2 dX9_setting_16 hlocks)
set_option maxHeartbeats 4000000 in
set_option maxRecDepth 100000 in
theorem x_X9_setting (l : Launch) (hst : l.stackTraces = false) {D : va_G} {cs : Nat → ClassId} {adh ad ma : Nat → Nat} {Wf : MM → MM → va_W} (hLh : ∀ m : MM, Ln 8 adh (hsh cs adh ma) (fun z => Wf z m)) (hL : ∀ h : MM, Ln 51 ad (msh cs ad) (fun z => Wf h z)) (hAd : ∀ a0_ b0_ a1_ b1_ : MM, (Wf a0_ a1_).map (fun q => q.1) = (Wf b0_ b1_).map (fun q => q.1)) (hm1 : ma 1 = ad 24) (h : MM) (m : MM) (x1 : Int32) {kx : Nat} (hD : D_X9_setting x1 h m = some (.inl kx)) : CtX l yX9_setting cX9_setting 2 (some .int) 7 104 D cs [.ref (adh 0), .int x1] (Wf h m) kx := by
  refine CtX.ofW (by decide) (Nat.le_of_ble_eq_true rfl) ?_
  intro p e s m0 below meth c A ls args hx hb hml hlocks hown hex hts hK hP hD1 hSS hS hA1 hl
  have hT : ∀ w ∈ TBL, w.before args s = true := fun w h => hts w (List.mem_cons_of_mem _ h)
  have Fx0 : Fx p l m0 c cX9_setting 2 s args yX9_setting cX9_setting 2 (some .int) D cs A := ⟨hx, hb, hml, hown, hts, hK, hSS⟩
  have hown : s.vm.findClass RX9 = some m0.cls := hown
  have hl : lv_has ls 2 [(0, .ref (adh 0)), (1, .int x1)] := hl
  unfold D_X9_setting at hD
  refine lv_iload_n hx hb dX9_setting_0 rfl (lv_at hl 1 rfl) ?_
  refine lv_iconst (v := (0 : Int32)) hx hb dX9_setting_1 (by decide) ?_
  refine lv_bipush (v := (14 : Int32)) hx hb dX9_setting_2 (by decide) ?_
  rcases bX_ex hD with z1 | ⟨u_, z1, hD⟩
  · exact rcX (As := [.int x1, .int (0 : Int32), .int (14 : Int32)]) (rest := []) Fx0 (x_X9_requireRange l hst x1 (0 : Int32) (14 : Int32) z1) hP (hD1 _ (hAd _ _ _ _)) hS (hA1 _ _ (hAd _ _ _ _) hS.1) hlocks hex tw_5_211 tw_5_209 tw_5_210 tw_1_1 yd_X9_requireRange ⟨⟨(Nat.le_of_ble_eq_true rfl), (Nat.le_of_ble_eq_true rfl)⟩, by decide, by decide⟩ rfl hl.1 rfl (Nat.le_of_ble_eq_true rfl) dX9_setting_4
  refine rcS (As := [.int x1, .int (0 : Int32), .int (14 : Int32)]) (rest := []) Fx0 (c_X9_requireRange l x1 (0 : Int32) (14 : Int32) z1) hP (hD1 _ (hAd _ _ _ _)) hS (hA1 _ _ (hAd _ _ _ _) hS.1) tw_5_211 tw_5_209 tw_5_210 tw_1_1 yd_X9_requireRange ⟨(Nat.le_of_ble_eq_true rfl), (Nat.le_of_ble_eq_true rfl)⟩ rfl hl.1 rfl (Nat.le_of_ble_eq_true rfl) dX9_setting_4 (fun H locs hP hS => ?_)
  exact lif_no hD

noncomputable def D_X9_set (x1 : Int32) (x2 : Int32) (h : MM) (m : MM) : Option (Nat ⊕ (Int32 × MM)) := bX (D_X9_requireRange x1 (0 : Int32) (14 : Int32)) (fun _ => if x1 = (8 : Int32) then (some (.inl 1)) else (if x1 = (9 : Int32) then (some (.inl 1)) else (if x1 = (10 : Int32) then (some (.inl 1)) else (if x1 < 0 ∨ 15 ≤ x1.toNatClampNeg then none else (bnd ((mst x1.toNatClampNeg)) (fun v4 => if x1 = (5 : Int32) then (bnd (((100 : Int32) - (gi m 25 6))) (fun v20 => if x1 < 0 ∨ 15 ≤ x1.toNatClampNeg then none else (bX (D_X9_requireRange x2 (lea x1.toNatClampNeg) v20) (fun _ => lif (if x1 < 0 ∨ 15 ≤ x1.toNatClampNeg then none else (bnd ((gi m 25 x1.toNatClampNeg)) (fun v25 => if x1 < 0 ∨ 15 ≤ x1.toNatClampNeg then none else (bnd (si m 25 x1.toNatClampNeg x2) (fun m27 => some (v25, m27)))))))))) else (if x1 = (6 : Int32) then (bnd (((100 : Int32) - (gi m 25 5))) (fun v12 => if x1 < 0 ∨ 15 ≤ x1.toNatClampNeg then none else (bX (D_X9_requireRange x2 (lea x1.toNatClampNeg) v12) (fun _ => lif (if x1 < 0 ∨ 15 ≤ x1.toNatClampNeg then none else (bnd ((gi m 25 x1.toNatClampNeg)) (fun v17 => if x1 < 0 ∨ 15 ≤ x1.toNatClampNeg then none else (bnd (si m 25 x1.toNatClampNeg x2) (fun m19 => some (v17, m19)))))))))) else (if x1 < 0 ∨ 15 ≤ x1.toNatClampNeg then none else (bX (D_X9_requireRange x2 (lea x1.toNatClampNeg) v4) (fun _ => lif (if x1 < 0 ∨ 15 ≤ x1.toNatClampNeg then none else (bnd ((gi m 25 x1.toNatClampNeg)) (fun v9 => if x1 < 0 ∨ 15 ≤ x1.toNatClampNeg then none else (bnd (si m 25 x1.toNatClampNeg x2) (fun m11 => some (v9, m11))))))))))))))))
set_option maxHeartbeats 4000000 in
set_option maxRecDepth 100000 in
theorem c_X9_set (l : Launch) {D : va_G} {cs : Nat → ClassId} {adh ad ma : Nat → Nat} {Wf : MM → MM → va_W} (hLh : ∀ m : MM, Ln 8 adh (hsh cs adh ma) (fun z => Wf z m)) (hL : ∀ h : MM, Ln 51 ad (msh cs ad) (fun z => Wf h z)) (hAd : ∀ a0_ b0_ a1_ b1_ : MM, (Wf a0_ a1_).map (fun q => q.1) = (Wf b0_ b1_).map (fun q => q.1)) (hm1 : ma 1 = ad 24) (h : MM) (m : MM) (x1 : Int32) (x2 : Int32) {rr : Int32} {m' : MM} (hD : D_X9_set x1 x2 h m = some (.inr (rr, m'))) : Ct l yX9_set cX9_set 5 (some .int) 7 104 D cs [.ref (adh 0), .int x1, .int x2] (Wf h m) (Wf h m') (some (.int rr)) := by
  refine Ct.ofW (by decide) (Nat.le_of_ble_eq_true rfl) (hAd _ _ _ _) ?_
  intro p e s m0 below meth c A Q ls args hx hb hr hml hlocks hown hts hK hP hD1 hSS hS hA1 hl hret
  have hT : ∀ w ∈ TBL, w.before args s = true := fun w h => hts w (List.mem_cons_of_mem _ h)
  have Fx0 : Fx p l m0 c cX9_set 5 s args yX9_set cX9_set 5 (some .int) D cs A := ⟨hx, hb, hml, hown, hts, hK, hSS⟩
  have hown : s.vm.findClass RX9 = some m0.cls := hown
  have hl : lv_has ls 5 [(0, .ref (adh 0)), (1, .int x1), (2, .int x2)] := hl
  unfold D_X9_set at hD
  refine lv_iload_n hx hb dX9_set_0 rfl (lv_at hl 1 rfl) ?_
  refine lv_iconst (v := (0 : Int32)) hx hb dX9_set_1 (by decide) ?_
  refine lv_bipush (v := (14 : Int32)) hx hb dX9_set_2 (by decide) ?_
  obtain ⟨u_, z1, hD⟩ := bX_el hD
  refine rcS (As := [.int x1, .int (0 : Int32), .int (14 : Int32)]) (rest := []) Fx0 (c_X9_requireRange l x1 (0 : Int32) (14 : Int32) z1) hP (hD1 _ (hAd _ _ _ _)) hS (hA1 _ _ (hAd _ _ _ _) hS.1) tw_5_211 tw_5_209 tw_5_210 tw_1_1 yd_X9_requireRange ⟨(Nat.le_of_ble_eq_true rfl), (Nat.le_of_ble_eq_true rfl)⟩ rfl hl.1 rfl (Nat.le_of_ble_eq_true rfl) dX9_set_4 (fun H locs hP hS => ?_)
  refine lv_iload_n hx hb dX9_set_7 rfl (lv_at hl 1 rfl) ?_
  refine lv_bipush (v := (8 : Int32)) hx hb dX9_set_8 (by decide) ?_
  refine lv_icmp_eq (tgt := 25) hx hb dX9_set_10 (by decide) (fun c => ?_) (fun c => ?_)
  · have hD := ifp hD c
    cases hD
  · have hD := ifn hD c
    refine lv_iload_n hx hb dX9_set_13 rfl (lv_at hl 1 rfl) ?_
    refine lv_bipush (v := (9 : Int32)) hx hb dX9_set_14 (by decide) ?_
    refine lv_icmp_eq (tgt := 25) hx hb dX9_set_16 (by decide) (fun c => ?_) (fun c => ?_)
    · have hD := ifp hD c
      cases hD
    · have hD := ifn hD c
      refine lv_iload_n hx hb dX9_set_19 rfl (lv_at hl 1 rfl) ?_
      refine lv_bipush (v := (10 : Int32)) hx hb dX9_set_20 (by decide) ?_
      refine lv_icmp_ne (tgt := 35) hx hb dX9_set_22 (by decide) (fun c => ?_) (fun c => ?_)
      · have hD := ifn hD c
        obtain ⟨t2, hzt2, htt2⟩ := hSS.2.2.1
        refine rgs hx hb hzt2 hS hown (Fx0.T tw_6_26) dX9_set_35 ?_
        refine lv_iload_n hx hb dX9_set_38 rfl (lv_at hl 1 rfl) ?_
        obtain ⟨h3, hD⟩ := gd_el hD
        refine rti hx hb htt2 hS h3 rfl dX9_set_39 ?_
        obtain ⟨v4, ev4, hD⟩ := bnd_el hD
        refine lv_nmi ev4 ?_
        refine lv_istore_n (lv' := [(3, .int v4), (0, .ref (adh 0)), (1, .int x1), (2, .int x2)]) hx hb dX9_set_40 rfl hl (by decide) rfl (fun ls hl => ?_)
        refine lv_iload_n hx hb dX9_set_41 rfl (lv_at hl 2 rfl) ?_
        refine lv_iconst (v := (5 : Int32)) hx hb dX9_set_42 (by decide) ?_
        refine lv_icmp_ne (tgt := 63) hx hb dX9_set_43 (by decide) (fun c => ?_) (fun c => ?_)
        · have hD := ifn hD c
          refine lv_iload_n hx hb dX9_set_63 rfl (lv_at hl 2 rfl) ?_
          refine lv_bipush (v := (6 : Int32)) hx hb dX9_set_64 (by decide) ?_
          refine lv_icmp_ne (tgt := 82) hx hb dX9_set_66 (by decide) (fun c => ?_) (fun c => ?_)
          · have hD := ifn hD c
            refine lv_iload_n hx hb dX9_set_82 rfl (lv_at hl 3 rfl) ?_
            obtain ⟨t5, hzt5, htt5⟩ := hSS.2.1
            refine rgs hx hb hzt5 hS hown (Fx0.T tw_6_27) dX9_set_83 ?_
            refine lv_iload_n hx hb dX9_set_86 rfl (lv_at hl 2 rfl) ?_
            obtain ⟨h6, hD⟩ := gd_el hD
            refine rti hx hb htt5 hS h6 rfl dX9_set_87 ?_
            refine lv_iload_n hx hb dX9_set_88 rfl (lv_at hl 0 rfl) ?_
            obtain ⟨u_, z7, hD⟩ := bX_el hD
            refine rcS (As := [.int x2, .int (lea x1.toNatClampNeg), .int v4]) (rest := []) Fx0 (c_X9_requireRange l x2 (lea x1.toNatClampNeg) v4 z7) hP (hD1 _ (hAd _ _ _ _)) hS (hA1 _ _ (hAd _ _ _ _) hS.1) tw_5_211 tw_5_209 tw_5_210 tw_1_1 yd_X9_requireRange ⟨(Nat.le_of_ble_eq_true rfl), (Nat.le_of_ble_eq_true rfl)⟩ rfl hl.1 rfl (Nat.le_of_ble_eq_true rfl) dX9_set_89 (fun H locs hP hS => ?_)
            have hD := lif_el hD
            refine lv_aload_n hx hb dX9_set_92 rfl (lv_at hl 1 rfl) ?_
            refine rg (Wf := fun z => Wf z m) (mm := h) hx hb hT hu9 hown hK hP (hLh m) 0 3 (Nat.le_of_ble_eq_true rfl) (hs0 _ _) rfl (Nat.le_of_ble_eq_true rfl) (Fx0.T tw_3_4) rfl (v := .ref (ad 24)) (congrArg (fun z => some (Value.ref z)) hm1) dX9_set_93 ?_
            refine rgN (Wf := fun z => Wf h z) (mm := m) hx hb hT hu6 hown hK hP (hL h) 24 0 (Nat.le_of_ble_eq_true rfl) (ms24 _ _) rfl (Nat.le_of_ble_eq_true rfl) tw_2_76 rfl (v := .ref (ad 25)) rfl dX9_set_96 ?_
            refine lv_iload_n hx hb dX9_set_99 rfl (lv_at hl 2 rfl) ?_
            obtain ⟨h8, hD⟩ := gd_el hD
            refine riald (Wf := fun z => Wf h z) (mm := m) hx hb hK hP (hL h) 25 (Nat.le_of_ble_eq_true rfl) (ms25 _ _) h8 rfl dX9_set_100 ?_
            obtain ⟨v9, ev9, hD⟩ := bnd_el hD
            refine lv_nmi ev9 ?_
            refine lv_istore (lv' := [(4, .int v9), (3, .int v4), (0, .ref (adh 0)), (1, .int x1), (2, .int x2)]) hx hb dX9_set_101 hl (by decide) rfl (fun ls hl => ?_)
            refine lv_aload_n hx hb dX9_set_103 rfl (lv_at hl 2 rfl) ?_
            refine rg (Wf := fun z => Wf z m) (mm := h) hx hb hT hu9 hown hK hP (hLh m) 0 3 (Nat.le_of_ble_eq_true rfl) (hs0 _ _) rfl (Nat.le_of_ble_eq_true rfl) (Fx0.T tw_3_4) rfl (v := .ref (ad 24)) (congrArg (fun z => some (Value.ref z)) hm1) dX9_set_104 ?_
            refine rgN (Wf := fun z => Wf h z) (mm := m) hx hb hT hu6 hown hK hP (hL h) 24 0 (Nat.le_of_ble_eq_true rfl) (ms24 _ _) rfl (Nat.le_of_ble_eq_true rfl) tw_2_76 rfl (v := .ref (ad 25)) rfl dX9_set_107 ?_
            refine lv_iload_n hx hb dX9_set_110 rfl (lv_at hl 3 rfl) ?_
            refine lv_iload_n hx hb dX9_set_111 rfl (lv_at hl 4 rfl) ?_
            obtain ⟨h10, hD⟩ := gd_el hD
            obtain ⟨m11, em11, hD⟩ := bnd_el hD
            refine riast (Wf := fun z => Wf h z) (mm := m) hx hb hK hP (hD1 _ (hAd _ _ _ _)) hS (hL h) 25 (Nat.le_of_ble_eq_true rfl) (fun _ => ms25 _ _) h10 rfl dX9_set_112 em11 (fun H locs hP hS => ?_)
            refine lv_iload hx hb dX9_set_113 (lv_at hl 0 rfl) ?_
            obtain ⟨rfl, rfl⟩ := es2 hD
            exact hret _ _ _ hP hS (fun Qc hq => W.iret hx hb hr hq hS.2.2 dX9_set_115 hlocks)
          · have hD := ifp hD c
            refine lv_bipush (v := (100 : Int32)) hx hb dX9_set_69 (by decide) ?_
            refine lv_aload_n hx hb dX9_set_71 rfl (lv_at hl 1 rfl) ?_
            refine rg (Wf := fun z => Wf z m) (mm := h) hx hb hT hu9 hown hK hP (hLh m) 0 3 (Nat.le_of_ble_eq_true rfl) (hs0 _ _) rfl (Nat.le_of_ble_eq_true rfl) (Fx0.T tw_3_4) rfl (v := .ref (ad 24)) (congrArg (fun z => some (Value.ref z)) hm1) dX9_set_72 ?_
            refine rgN (Wf := fun z => Wf h z) (mm := m) hx hb hT hu6 hown hK hP (hL h) 24 0 (Nat.le_of_ble_eq_true rfl) (ms24 _ _) rfl (Nat.le_of_ble_eq_true rfl) tw_2_76 rfl (v := .ref (ad 25)) rfl dX9_set_75 ?_
            refine lv_iconst (v := (5 : Int32)) hx hb dX9_set_78 (by decide) ?_
            refine riald (Wf := fun z => Wf h z) (mm := m) hx hb hK hP (hL h) 25 (Nat.le_of_ble_eq_true rfl) (ms25 _ _) (by decide) (j := 5) (by decide) dX9_set_79 ?_
            refine lv_isub hx hb dX9_set_80 ?_
            obtain ⟨v12, ev12, hD⟩ := bnd_el hD
            refine lv_nmi ev12 ?_
            refine lv_istore_n (lv' := [(3, .int v12), (0, .ref (adh 0)), (1, .int x1), (2, .int x2)]) hx hb dX9_set_81 rfl hl (by decide) rfl (fun ls hl => ?_)
            refine lv_iload_n hx hb dX9_set_82 rfl (lv_at hl 3 rfl) ?_
            obtain ⟨t13, hzt13, htt13⟩ := hSS.2.1
            refine rgs hx hb hzt13 hS hown (Fx0.T tw_6_27) dX9_set_83 ?_
            refine lv_iload_n hx hb dX9_set_86 rfl (lv_at hl 2 rfl) ?_
            obtain ⟨h14, hD⟩ := gd_el hD
            refine rti hx hb htt13 hS h14 rfl dX9_set_87 ?_
            refine lv_iload_n hx hb dX9_set_88 rfl (lv_at hl 0 rfl) ?_
            obtain ⟨u_, z15, hD⟩ := bX_el hD
            refine rcS (As := [.int x2, .int (lea x1.toNatClampNeg), .int v12]) (rest := []) Fx0 (c_X9_requireRange l x2 (lea x1.toNatClampNeg) v12 z15) hP (hD1 _ (hAd _ _ _ _)) hS (hA1 _ _ (hAd _ _ _ _) hS.1) tw_5_211 tw_5_209 tw_5_210 tw_1_1 yd_X9_requireRange ⟨(Nat.le_of_ble_eq_true rfl), (Nat.le_of_ble_eq_true rfl)⟩ rfl hl.1 rfl (Nat.le_of_ble_eq_true rfl) dX9_set_89 (fun H locs hP hS => ?_)
            have hD := lif_el hD
            refine lv_aload_n hx hb dX9_set_92 rfl (lv_at hl 1 rfl) ?_
            refine rg (Wf := fun z => Wf z m) (mm := h) hx hb hT hu9 hown hK hP (hLh m) 0 3 (Nat.le_of_ble_eq_true rfl) (hs0 _ _) rfl (Nat.le_of_ble_eq_true rfl) (Fx0.T tw_3_4) rfl (v := .ref (ad 24)) (congrArg (fun z => some (Value.ref z)) hm1) dX9_set_93 ?_
            refine rgN (Wf := fun z => Wf h z) (mm := m) hx hb hT hu6 hown hK hP (hL h) 24 0 (Nat.le_of_ble_eq_true rfl) (ms24 _ _) rfl (Nat.le_of_ble_eq_true rfl) tw_2_76 rfl (v := .ref (ad 25)) rfl dX9_set_96 ?_
            refine lv_iload_n hx hb dX9_set_99 rfl (lv_at hl 2 rfl) ?_
            obtain ⟨h16, hD⟩ := gd_el hD
            refine riald (Wf := fun z => Wf h z) (mm := m) hx hb hK hP (hL h) 25 (Nat.le_of_ble_eq_true rfl) (ms25 _ _) h16 rfl dX9_set_100 ?_
            obtain ⟨v17, ev17, hD⟩ := bnd_el hD
            refine lv_nmi ev17 ?_
            refine lv_istore (lv' := [(4, .int v17), (3, .int v12), (0, .ref (adh 0)), (1, .int x1), (2, .int x2)]) hx hb dX9_set_101 hl (by decide) rfl (fun ls hl => ?_)
            refine lv_aload_n hx hb dX9_set_103 rfl (lv_at hl 2 rfl) ?_
            refine rg (Wf := fun z => Wf z m) (mm := h) hx hb hT hu9 hown hK hP (hLh m) 0 3 (Nat.le_of_ble_eq_true rfl) (hs0 _ _) rfl (Nat.le_of_ble_eq_true rfl) (Fx0.T tw_3_4) rfl (v := .ref (ad 24)) (congrArg (fun z => some (Value.ref z)) hm1) dX9_set_104 ?_
            refine rgN (Wf := fun z => Wf h z) (mm := m) hx hb hT hu6 hown hK hP (hL h) 24 0 (Nat.le_of_ble_eq_true rfl) (ms24 _ _) rfl (Nat.le_of_ble_eq_true rfl) tw_2_76 rfl (v := .ref (ad 25)) rfl dX9_set_107 ?_
            refine lv_iload_n hx hb dX9_set_110 rfl (lv_at hl 3 rfl) ?_
            refine lv_iload_n hx hb dX9_set_111 rfl (lv_at hl 4 rfl) ?_
            obtain ⟨h18, hD⟩ := gd_el hD
            obtain ⟨m19, em19, hD⟩ := bnd_el hD
            refine riast (Wf := fun z => Wf h z) (mm := m) hx hb hK hP (hD1 _ (hAd _ _ _ _)) hS (hL h) 25 (Nat.le_of_ble_eq_true rfl) (fun _ => ms25 _ _) h18 rfl dX9_set_112 em19 (fun H locs hP hS => ?_)
            refine lv_iload hx hb dX9_set_113 (lv_at hl 0 rfl) ?_
            obtain ⟨rfl, rfl⟩ := es2 hD
            exact hret _ _ _ hP hS (fun Qc hq => W.iret hx hb hr hq hS.2.2 dX9_set_115 hlocks)
        · have hD := ifp hD c
          refine lv_bipush (v := (100 : Int32)) hx hb dX9_set_46 (by decide) ?_
          refine lv_aload_n hx hb dX9_set_48 rfl (lv_at hl 1 rfl) ?_
          refine rg (Wf := fun z => Wf z m) (mm := h) hx hb hT hu9 hown hK hP (hLh m) 0 3 (Nat.le_of_ble_eq_true rfl) (hs0 _ _) rfl (Nat.le_of_ble_eq_true rfl) (Fx0.T tw_3_4) rfl (v := .ref (ad 24)) (congrArg (fun z => some (Value.ref z)) hm1) dX9_set_49 ?_
          refine rgN (Wf := fun z => Wf h z) (mm := m) hx hb hT hu6 hown hK hP (hL h) 24 0 (Nat.le_of_ble_eq_true rfl) (ms24 _ _) rfl (Nat.le_of_ble_eq_true rfl) tw_2_76 rfl (v := .ref (ad 25)) rfl dX9_set_52 ?_
          refine lv_bipush (v := (6 : Int32)) hx hb dX9_set_55 (by decide) ?_
          refine riald (Wf := fun z => Wf h z) (mm := m) hx hb hK hP (hL h) 25 (Nat.le_of_ble_eq_true rfl) (ms25 _ _) (by decide) (j := 6) (by decide) dX9_set_57 ?_
          refine lv_isub hx hb dX9_set_58 ?_
          obtain ⟨v20, ev20, hD⟩ := bnd_el hD
          refine lv_nmi ev20 ?_
          refine lv_istore_n (lv' := [(3, .int v20), (0, .ref (adh 0)), (1, .int x1), (2, .int x2)]) hx hb dX9_set_59 rfl hl (by decide) rfl (fun ls hl => ?_)
          refine lv_goto (tgt := 82) hx hb dX9_set_60 (by decide) ?_
          refine lv_iload_n hx hb dX9_set_82 rfl (lv_at hl 3 rfl) ?_
          obtain ⟨t21, hzt21, htt21⟩ := hSS.2.1
          refine rgs hx hb hzt21 hS hown (Fx0.T tw_6_27) dX9_set_83 ?_
          refine lv_iload_n hx hb dX9_set_86 rfl (lv_at hl 2 rfl) ?_
          obtain ⟨h22, hD⟩ := gd_el hD
          refine rti hx hb htt21 hS h22 rfl dX9_set_87 ?_
          refine lv_iload_n hx hb dX9_set_88 rfl (lv_at hl 0 rfl) ?_
          obtain ⟨u_, z23, hD⟩ := bX_el hD
          refine rcS (As := [.int x2, .int (lea x1.toNatClampNeg), .int v20]) (rest := []) Fx0 (c_X9_requireRange l x2 (lea x1.toNatClampNeg) v20 z23) hP (hD1 _ (hAd _ _ _ _)) hS (hA1 _ _ (hAd _ _ _ _) hS.1) tw_5_211 tw_5_209 tw_5_210 tw_1_1 yd_X9_requireRange ⟨(Nat.le_of_ble_eq_true rfl), (Nat.le_of_ble_eq_true rfl)⟩ rfl hl.1 rfl (Nat.le_of_ble_eq_true rfl) dX9_set_89 (fun H locs hP hS => ?_)
          have hD := lif_el hD
          refine lv_aload_n hx hb dX9_set_92 rfl (lv_at hl 1 rfl) ?_
          refine rg (Wf := fun z => Wf z m) (mm := h) hx hb hT hu9 hown hK hP (hLh m) 0 3 (Nat.le_of_ble_eq_true rfl) (hs0 _ _) rfl (Nat.le_of_ble_eq_true rfl) (Fx0.T tw_3_4) rfl (v := .ref (ad 24)) (congrArg (fun z => some (Value.ref z)) hm1) dX9_set_93 ?_
          refine rgN (Wf := fun z => Wf h z) (mm := m) hx hb hT hu6 hown hK hP (hL h) 24 0 (Nat.le_of_ble_eq_true rfl) (ms24 _ _) rfl (Nat.le_of_ble_eq_true rfl) tw_2_76 rfl (v := .ref (ad 25)) rfl dX9_set_96 ?_
          refine lv_iload_n hx hb dX9_set_99 rfl (lv_at hl 2 rfl) ?_
          obtain ⟨h24, hD⟩ := gd_el hD
          refine riald (Wf := fun z => Wf h z) (mm := m) hx hb hK hP (hL h) 25 (Nat.le_of_ble_eq_true rfl) (ms25 _ _) h24 rfl dX9_set_100 ?_
          obtain ⟨v25, ev25, hD⟩ := bnd_el hD
          refine lv_nmi ev25 ?_
          refine lv_istore (lv' := [(4, .int v25), (3, .int v20), (0, .ref (adh 0)), (1, .int x1), (2, .int x2)]) hx hb dX9_set_101 hl (by decide) rfl (fun ls hl => ?_)
          refine lv_aload_n hx hb dX9_set_103 rfl (lv_at hl 2 rfl) ?_
          refine rg (Wf := fun z => Wf z m) (mm := h) hx hb hT hu9 hown hK hP (hLh m) 0 3 (Nat.le_of_ble_eq_true rfl) (hs0 _ _) rfl (Nat.le_of_ble_eq_true rfl) (Fx0.T tw_3_4) rfl (v := .ref (ad 24)) (congrArg (fun z => some (Value.ref z)) hm1) dX9_set_104 ?_
          refine rgN (Wf := fun z => Wf h z) (mm := m) hx hb hT hu6 hown hK hP (hL h) 24 0 (Nat.le_of_ble_eq_true rfl) (ms24 _ _) rfl (Nat.le_of_ble_eq_true rfl) tw_2_76 rfl (v := .ref (ad 25)) rfl dX9_set_107 ?_
          refine lv_iload_n hx hb dX9_set_110 rfl (lv_at hl 3 rfl) ?_
          refine lv_iload_n hx hb dX9_set_111 rfl (lv_at hl 4 rfl) ?_
          obtain ⟨h26, hD⟩ := gd_el hD
          obtain ⟨m27, em27, hD⟩ := bnd_el hD
          refine riast (Wf := fun z => Wf h z) (mm := m) hx hb hK hP (hD1 _ (hAd _ _ _ _)) hS (hL h) 25 (Nat.le_of_ble_eq_true rfl) (fun _ => ms25 _ _) h26 rfl dX9_set_112 em27 (fun H locs hP hS => ?_)
          refine lv_iload hx hb dX9_set_113 (lv_at hl 0 rfl) ?_
          obtain ⟨rfl, rfl⟩ := es2 hD
          exact hret _ _ _ hP hS (fun Qc hq => W.iret hx hb hr hq hS.2.2 dX9_set_115 hlocks)
      · have hD := ifp hD c
        cases hD
set_option maxHeartbeats 4000000 in
set_option maxRecDepth 100000 in
theorem x_X9_set (l : Launch) (hst : l.stackTraces = false) {D : va_G} {cs : Nat → ClassId} {adh ad ma : Nat → Nat} {Wf : MM → MM → va_W} (hLh : ∀ m : MM, Ln 8 adh (hsh cs adh ma) (fun z => Wf z m)) (hL : ∀ h : MM, Ln 51 ad (msh cs ad) (fun z => Wf h z)) (hAd : ∀ a0_ b0_ a1_ b1_ : MM, (Wf a0_ a1_).map (fun q => q.1) = (Wf b0_ b1_).map (fun q => q.1)) (hm1 : ma 1 = ad 24) (h : MM) (m : MM) (x1 : Int32) (x2 : Int32) {kx : Nat} (hD : D_X9_set x1 x2 h m = some (.inl kx)) : CtX l yX9_set cX9_set 5 (some .int) 7 104 D cs [.ref (adh 0), .int x1, .int x2] (Wf h m) kx := by
  refine CtX.ofW (by decide) (Nat.le_of_ble_eq_true rfl) ?_
  intro p e s m0 below meth c A ls args hx hb hml hlocks hown hex hts hK hP hD1 hSS hS hA1 hl
  have hT : ∀ w ∈ TBL, w.before args s = true := fun w h => hts w (List.mem_cons_of_mem _ h)
  have Fx0 : Fx p l m0 c cX9_set 5 s args yX9_set cX9_set 5 (some .int) D cs A := ⟨hx, hb, hml, hown, hts, hK, hSS⟩
  have hown : s.vm.findClass RX9 = some m0.cls := hown
  have hl : lv_has ls 5 [(0, .ref (adh 0)), (1, .int x1), (2, .int x2)] := hl
  unfold D_X9_set at hD
  refine lv_iload_n hx hb dX9_set_0 rfl (lv_at hl 1 rfl) ?_
  refine lv_iconst (v := (0 : Int32)) hx hb dX9_set_1 (by decide) ?_
  refine lv_bipush (v := (14 : Int32)) hx hb dX9_set_2 (by decide) ?_
  rcases bX_ex hD with z1 | ⟨u_, z1, hD⟩
  · exact rcX (As := [.int x1, .int (0 : Int32), .int (14 : Int32)]) (rest := []) Fx0 (x_X9_requireRange l hst x1 (0 : Int32) (14 : Int32) z1) hP (hD1 _ (hAd _ _ _ _)) hS (hA1 _ _ (hAd _ _ _ _) hS.1) hlocks hex tw_5_211 tw_5_209 tw_5_210 tw_1_1 yd_X9_requireRange ⟨⟨(Nat.le_of_ble_eq_true rfl), (Nat.le_of_ble_eq_true rfl)⟩, by decide, by decide⟩ rfl hl.1 rfl (Nat.le_of_ble_eq_true rfl) dX9_set_4
  refine rcS (As := [.int x1, .int (0 : Int32), .int (14 : Int32)]) (rest := []) Fx0 (c_X9_requireRange l x1 (0 : Int32) (14 : Int32) z1) hP (hD1 _ (hAd _ _ _ _)) hS (hA1 _ _ (hAd _ _ _ _) hS.1) tw_5_211 tw_5_209 tw_5_210 tw_1_1 yd_X9_requireRange ⟨(Nat.le_of_ble_eq_true rfl), (Nat.le_of_ble_eq_true rfl)⟩ rfl hl.1 rfl (Nat.le_of_ble_eq_true rfl) dX9_set_4 (fun H locs hP hS => ?_)
  refine lv_iload_n hx hb dX9_set_7 rfl (lv_at hl 1 rfl) ?_
  refine lv_bipush (v := (8 : Int32)) hx hb dX9_set_8 (by decide) ?_
  refine lv_icmp_eq (tgt := 25) hx hb dX9_set_10 (by decide) (fun c => ?_) (fun c => ?_)
  · have hD := ifp hD c
    cases hD
    exact rthrS (own := RX9) (x := ("PlacerHead", 121, "the camera and the seed stay", 14)) hx hb hst exN_ok1 14 rfl rfl hT hown hK hSS hP hS (hml.trans hl.1.symm) hlocks hex tw_5_24 tw_1_26 at_110_1 ag_110_1 dX9_set_25 dX9_set_28 dX9_set_29 dX9_set_31 dX9_set_34 (by decide) (by decide) (by decide) (by decide) hS.1
  · have hD := ifn hD c
    refine lv_iload_n hx hb dX9_set_13 rfl (lv_at hl 1 rfl) ?_
    refine lv_bipush (v := (9 : Int32)) hx hb dX9_set_14 (by decide) ?_
    refine lv_icmp_eq (tgt := 25) hx hb dX9_set_16 (by decide) (fun c => ?_) (fun c => ?_)
    · have hD := ifp hD c
      cases hD
      exact rthrS (own := RX9) (x := ("PlacerHead", 121, "the camera and the seed stay", 14)) hx hb hst exN_ok1 14 rfl rfl hT hown hK hSS hP hS (hml.trans hl.1.symm) hlocks hex tw_5_24 tw_1_26 at_110_1 ag_110_1 dX9_set_25 dX9_set_28 dX9_set_29 dX9_set_31 dX9_set_34 (by decide) (by decide) (by decide) (by decide) hS.1
    · have hD := ifn hD c
      refine lv_iload_n hx hb dX9_set_19 rfl (lv_at hl 1 rfl) ?_
      refine lv_bipush (v := (10 : Int32)) hx hb dX9_set_20 (by decide) ?_
      refine lv_icmp_ne (tgt := 35) hx hb dX9_set_22 (by decide) (fun c => ?_) (fun c => ?_)
      · have hD := ifn hD c
        obtain ⟨t2, hzt2, htt2⟩ := hSS.2.2.1
        refine rgs hx hb hzt2 hS hown (Fx0.T tw_6_26) dX9_set_35 ?_
        refine lv_iload_n hx hb dX9_set_38 rfl (lv_at hl 1 rfl) ?_
        obtain ⟨h3, hD⟩ := gd_el hD
        refine rti hx hb htt2 hS h3 rfl dX9_set_39 ?_
        obtain ⟨v4, ev4, hD⟩ := bnd_el hD
        refine lv_nmi ev4 ?_
        refine lv_istore_n (lv' := [(3, .int v4), (0, .ref (adh 0)), (1, .int x1), (2, .int x2)]) hx hb dX9_set_40 rfl hl (by decide) rfl (fun ls hl => ?_)
        refine lv_iload_n hx hb dX9_set_41 rfl (lv_at hl 2 rfl) ?_
        refine lv_iconst (v := (5 : Int32)) hx hb dX9_set_42 (by decide) ?_
        refine lv_icmp_ne (tgt := 63) hx hb dX9_set_43 (by decide) (fun c => ?_) (fun c => ?_)
        · have hD := ifn hD c
          refine lv_iload_n hx hb dX9_set_63 rfl (lv_at hl 2 rfl) ?_
          refine lv_bipush (v := (6 : Int32)) hx hb dX9_set_64 (by decide) ?_
          refine lv_icmp_ne (tgt := 82) hx hb dX9_set_66 (by decide) (fun c => ?_) (fun c => ?_)
          · have hD := ifn hD c
            refine lv_iload_n hx hb dX9_set_82 rfl (lv_at hl 3 rfl) ?_
            obtain ⟨t5, hzt5, htt5⟩ := hSS.2.1
            refine rgs hx hb hzt5 hS hown (Fx0.T tw_6_27) dX9_set_83 ?_
            refine lv_iload_n hx hb dX9_set_86 rfl (lv_at hl 2 rfl) ?_
            obtain ⟨h6, hD⟩ := gd_el hD
            refine rti hx hb htt5 hS h6 rfl dX9_set_87 ?_
            refine lv_iload_n hx hb dX9_set_88 rfl (lv_at hl 0 rfl) ?_
            rcases bX_ex hD with z7 | ⟨u_, z7, hD⟩
            · exact rcX (As := [.int x2, .int (lea x1.toNatClampNeg), .int v4]) (rest := []) Fx0 (x_X9_requireRange l hst x2 (lea x1.toNatClampNeg) v4 z7) hP (hD1 _ (hAd _ _ _ _)) hS (hA1 _ _ (hAd _ _ _ _) hS.1) hlocks hex tw_5_211 tw_5_209 tw_5_210 tw_1_1 yd_X9_requireRange ⟨⟨(Nat.le_of_ble_eq_true rfl), (Nat.le_of_ble_eq_true rfl)⟩, by decide, by decide⟩ rfl hl.1 rfl (Nat.le_of_ble_eq_true rfl) dX9_set_89
            refine rcS (As := [.int x2, .int (lea x1.toNatClampNeg), .int v4]) (rest := []) Fx0 (c_X9_requireRange l x2 (lea x1.toNatClampNeg) v4 z7) hP (hD1 _ (hAd _ _ _ _)) hS (hA1 _ _ (hAd _ _ _ _) hS.1) tw_5_211 tw_5_209 tw_5_210 tw_1_1 yd_X9_requireRange ⟨(Nat.le_of_ble_eq_true rfl), (Nat.le_of_ble_eq_true rfl)⟩ rfl hl.1 rfl (Nat.le_of_ble_eq_true rfl) dX9_set_89 (fun H locs hP hS => ?_)
            exact lif_no hD
          · have hD := ifp hD c
            refine lv_bipush (v := (100 : Int32)) hx hb dX9_set_69 (by decide) ?_
            refine lv_aload_n hx hb dX9_set_71 rfl (lv_at hl 1 rfl) ?_
            refine rg (Wf := fun z => Wf z m) (mm := h) hx hb hT hu9 hown hK hP (hLh m) 0 3 (Nat.le_of_ble_eq_true rfl) (hs0 _ _) rfl (Nat.le_of_ble_eq_true rfl) (Fx0.T tw_3_4) rfl (v := .ref (ad 24)) (congrArg (fun z => some (Value.ref z)) hm1) dX9_set_72 ?_
            refine rgN (Wf := fun z => Wf h z) (mm := m) hx hb hT hu6 hown hK hP (hL h) 24 0 (Nat.le_of_ble_eq_true rfl) (ms24 _ _) rfl (Nat.le_of_ble_eq_true rfl) tw_2_76 rfl (v := .ref (ad 25)) rfl dX9_set_75 ?_
            refine lv_iconst (v := (5 : Int32)) hx hb dX9_set_78 (by decide) ?_
            refine riald (Wf := fun z => Wf h z) (mm := m) hx hb hK hP (hL h) 25 (Nat.le_of_ble_eq_true rfl) (ms25 _ _) (by decide) (j := 5) (by decide) dX9_set_79 ?_
            refine lv_isub hx hb dX9_set_80 ?_
            obtain ⟨v8, ev8, hD⟩ := bnd_el hD
            refine lv_nmi ev8 ?_
            refine lv_istore_n (lv' := [(3, .int v8), (0, .ref (adh 0)), (1, .int x1), (2, .int x2)]) hx hb dX9_set_81 rfl hl (by decide) rfl (fun ls hl => ?_)
            refine lv_iload_n hx hb dX9_set_82 rfl (lv_at hl 3 rfl) ?_
            obtain ⟨t9, hzt9, htt9⟩ := hSS.2.1
            refine rgs hx hb hzt9 hS hown (Fx0.T tw_6_27) dX9_set_83 ?_
            refine lv_iload_n hx hb dX9_set_86 rfl (lv_at hl 2 rfl) ?_
            obtain ⟨h10, hD⟩ := gd_el hD
            refine rti hx hb htt9 hS h10 rfl dX9_set_87 ?_
            refine lv_iload_n hx hb dX9_set_88 rfl (lv_at hl 0 rfl) ?_
            rcases bX_ex hD with z11 | ⟨u_, z11, hD⟩
            · exact rcX (As := [.int x2, .int (lea x1.toNatClampNeg), .int v8]) (rest := []) Fx0 (x_X9_requireRange l hst x2 (lea x1.toNatClampNeg) v8 z11) hP (hD1 _ (hAd _ _ _ _)) hS (hA1 _ _ (hAd _ _ _ _) hS.1) hlocks hex tw_5_211 tw_5_209 tw_5_210 tw_1_1 yd_X9_requireRange ⟨⟨(Nat.le_of_ble_eq_true rfl), (Nat.le_of_ble_eq_true rfl)⟩, by decide, by decide⟩ rfl hl.1 rfl (Nat.le_of_ble_eq_true rfl) dX9_set_89
            refine rcS (As := [.int x2, .int (lea x1.toNatClampNeg), .int v8]) (rest := []) Fx0 (c_X9_requireRange l x2 (lea x1.toNatClampNeg) v8 z11) hP (hD1 _ (hAd _ _ _ _)) hS (hA1 _ _ (hAd _ _ _ _) hS.1) tw_5_211 tw_5_209 tw_5_210 tw_1_1 yd_X9_requireRange ⟨(Nat.le_of_ble_eq_true rfl), (Nat.le_of_ble_eq_true rfl)⟩ rfl hl.1 rfl (Nat.le_of_ble_eq_true rfl) dX9_set_89 (fun H locs hP hS => ?_)
            exact lif_no hD
        · have hD := ifp hD c
          refine lv_bipush (v := (100 : Int32)) hx hb dX9_set_46 (by decide) ?_
          refine lv_aload_n hx hb dX9_set_48 rfl (lv_at hl 1 rfl) ?_
          refine rg (Wf := fun z => Wf z m) (mm := h) hx hb hT hu9 hown hK hP (hLh m) 0 3 (Nat.le_of_ble_eq_true rfl) (hs0 _ _) rfl (Nat.le_of_ble_eq_true rfl) (Fx0.T tw_3_4) rfl (v := .ref (ad 24)) (congrArg (fun z => some (Value.ref z)) hm1) dX9_set_49 ?_
          refine rgN (Wf := fun z => Wf h z) (mm := m) hx hb hT hu6 hown hK hP (hL h) 24 0 (Nat.le_of_ble_eq_true rfl) (ms24 _ _) rfl (Nat.le_of_ble_eq_true rfl) tw_2_76 rfl (v := .ref (ad 25)) rfl dX9_set_52 ?_
          refine lv_bipush (v := (6 : Int32)) hx hb dX9_set_55 (by decide) ?_
          refine riald (Wf := fun z => Wf h z) (mm := m) hx hb hK hP (hL h) 25 (Nat.le_of_ble_eq_true rfl) (ms25 _ _) (by decide) (j := 6) (by decide) dX9_set_57 ?_
          refine lv_isub hx hb dX9_set_58 ?_
          obtain ⟨v12, ev12, hD⟩ := bnd_el hD
          refine lv_nmi ev12 ?_
          refine lv_istore_n (lv' := [(3, .int v12), (0, .ref (adh 0)), (1, .int x1), (2, .int x2)]) hx hb dX9_set_59 rfl hl (by decide) rfl (fun ls hl => ?_)
          refine lv_goto (tgt := 82) hx hb dX9_set_60 (by decide) ?_
          refine lv_iload_n hx hb dX9_set_82 rfl (lv_at hl 3 rfl) ?_
          obtain ⟨t13, hzt13, htt13⟩ := hSS.2.1
          refine rgs hx hb hzt13 hS hown (Fx0.T tw_6_27) dX9_set_83 ?_
          refine lv_iload_n hx hb dX9_set_86 rfl (lv_at hl 2 rfl) ?_
          obtain ⟨h14, hD⟩ := gd_el hD
          refine rti hx hb htt13 hS h14 rfl dX9_set_87 ?_
          refine lv_iload_n hx hb dX9_set_88 rfl (lv_at hl 0 rfl) ?_
          rcases bX_ex hD with z15 | ⟨u_, z15, hD⟩
          · exact rcX (As := [.int x2, .int (lea x1.toNatClampNeg), .int v12]) (rest := []) Fx0 (x_X9_requireRange l hst x2 (lea x1.toNatClampNeg) v12 z15) hP (hD1 _ (hAd _ _ _ _)) hS (hA1 _ _ (hAd _ _ _ _) hS.1) hlocks hex tw_5_211 tw_5_209 tw_5_210 tw_1_1 yd_X9_requireRange ⟨⟨(Nat.le_of_ble_eq_true rfl), (Nat.le_of_ble_eq_true rfl)⟩, by decide, by decide⟩ rfl hl.1 rfl (Nat.le_of_ble_eq_true rfl) dX9_set_89
          refine rcS (As := [.int x2, .int (lea x1.toNatClampNeg), .int v12]) (rest := []) Fx0 (c_X9_requireRange l x2 (lea x1.toNatClampNeg) v12 z15) hP (hD1 _ (hAd _ _ _ _)) hS (hA1 _ _ (hAd _ _ _ _) hS.1) tw_5_211 tw_5_209 tw_5_210 tw_1_1 yd_X9_requireRange ⟨(Nat.le_of_ble_eq_true rfl), (Nat.le_of_ble_eq_true rfl)⟩ rfl hl.1 rfl (Nat.le_of_ble_eq_true rfl) dX9_set_89 (fun H locs hP hS => ?_)
          exact lif_no hD
      · have hD := ifp hD c
        cases hD
        exact rthrS (own := RX9) (x := ("PlacerHead", 121, "the camera and the seed stay", 14)) hx hb hst exN_ok1 14 rfl rfl hT hown hK hSS hP hS (hml.trans hl.1.symm) hlocks hex tw_5_24 tw_1_26 at_110_1 ag_110_1 dX9_set_25 dX9_set_28 dX9_set_29 dX9_set_31 dX9_set_34 (by decide) (by decide) (by decide) (by decide) hS.1

noncomputable def D_X9_spindleValue (x1 : Int32) (x2 : Int32) (h : MM) (m : MM) : Option (Nat ⊕ Int32) := bX (D_X9_requireIndex x1 (gi m 24 1)) (fun _ => bX (D_X9_requireRange x2 (0 : Int32) (7 : Int32)) (fun _ => lif (if x1 < 0 ∨ 4 ≤ x1.toNatClampNeg then none else (b1 (D_X8_valueOf x1.toNatClampNeg x2 m) (fun v5 => some (v5))))))
set_option maxHeartbeats 4000000 in
set_option maxRecDepth 100000 in
theorem c_X9_spindleValue (l : Launch) {D : va_G} {cs : Nat → ClassId} {adh ad ma : Nat → Nat} {Wf : MM → MM → va_W} (hLh : ∀ m : MM, Ln 8 adh (hsh cs adh ma) (fun z => Wf z m)) (hL : ∀ h : MM, Ln 51 ad (msh cs ad) (fun z => Wf h z)) (hAd : ∀ a0_ b0_ a1_ b1_ : MM, (Wf a0_ a1_).map (fun q => q.1) = (Wf b0_ b1_).map (fun q => q.1)) (hm1 : ma 1 = ad 24) (h : MM) (m : MM) (x1 : Int32) (x2 : Int32) {rr : Int32} (hD : D_X9_spindleValue x1 x2 h m = some (.inr (rr))) : Ct l yX9_spindleValue cX9_spindleValue 3 (some .int) 7 104 D cs [.ref (adh 0), .int x1, .int x2] (Wf h m) (Wf h m) (some (.int rr)) := by
  refine Ct.ofW (by decide) (Nat.le_of_ble_eq_true rfl) rfl ?_
  intro p e s m0 below meth c A Q ls args hx hb hr hml hlocks hown hts hK hP hD1 hSS hS hA1 hl hret
  have hT : ∀ w ∈ TBL, w.before args s = true := fun w h => hts w (List.mem_cons_of_mem _ h)
  have Fx0 : Fx p l m0 c cX9_spindleValue 3 s args yX9_spindleValue cX9_spindleValue 3 (some .int) D cs A := ⟨hx, hb, hml, hown, hts, hK, hSS⟩
  have hown : s.vm.findClass RX9 = some m0.cls := hown
  have hl : lv_has ls 3 [(0, .ref (adh 0)), (1, .int x1), (2, .int x2)] := hl
  unfold D_X9_spindleValue at hD
  refine lv_iload_n hx hb dX9_spindleValue_0 rfl (lv_at hl 1 rfl) ?_
  refine lv_aload_n hx hb dX9_spindleValue_1 rfl (lv_at hl 0 rfl) ?_
  refine rg (Wf := fun z => Wf z m) (mm := h) hx hb hT hu9 hown hK hP (hLh m) 0 3 (Nat.le_of_ble_eq_true rfl) (hs0 _ _) rfl (Nat.le_of_ble_eq_true rfl) (Fx0.T tw_3_4) rfl (v := .ref (ad 24)) (congrArg (fun z => some (Value.ref z)) hm1) dX9_spindleValue_2 ?_
  refine rgN (Wf := fun z => Wf h z) (mm := m) hx hb hT hu6 hown hK hP (hL h) 24 1 (Nat.le_of_ble_eq_true rfl) (ms24 _ _) rfl (Nat.le_of_ble_eq_true rfl) tw_2_80 rfl (v := .int (gi m 24 1)) rfl dX9_spindleValue_5 ?_
  obtain ⟨u_, z1, hD⟩ := bX_el hD
  refine rcS (As := [.int x1, .int (gi m 24 1)]) (rest := []) Fx0 (c_X9_requireIndex l x1 (gi m 24 1) z1) hP (hD1 _ (hAd _ _ _ _)) hS (hA1 _ _ (hAd _ _ _ _) hS.1) tw_5_96 tw_5_94 tw_5_95 tw_1_1 yd_X9_requireIndex ⟨(Nat.le_of_ble_eq_true rfl), (Nat.le_of_ble_eq_true rfl)⟩ rfl hl.1 rfl (Nat.le_of_ble_eq_true rfl) dX9_spindleValue_8 (fun H locs hP hS => ?_)
  refine lv_iload_n hx hb dX9_spindleValue_11 rfl (lv_at hl 2 rfl) ?_
  refine lv_iconst (v := (0 : Int32)) hx hb dX9_spindleValue_12 (by decide) ?_
  refine lv_bipush (v := (7 : Int32)) hx hb dX9_spindleValue_13 (by decide) ?_
  obtain ⟨u_, z2, hD⟩ := bX_el hD
  refine rcS (As := [.int x2, .int (0 : Int32), .int (7 : Int32)]) (rest := []) Fx0 (c_X9_requireRange l x2 (0 : Int32) (7 : Int32) z2) hP (hD1 _ (hAd _ _ _ _)) hS (hA1 _ _ (hAd _ _ _ _) hS.1) tw_5_211 tw_5_209 tw_5_210 tw_1_1 yd_X9_requireRange ⟨(Nat.le_of_ble_eq_true rfl), (Nat.le_of_ble_eq_true rfl)⟩ rfl hl.1 rfl (Nat.le_of_ble_eq_true rfl) dX9_spindleValue_15 (fun H locs hP hS => ?_)
  have hD := lif_el hD
  refine lv_aload_n hx hb dX9_spindleValue_18 rfl (lv_at hl 0 rfl) ?_
  refine rg (Wf := fun z => Wf z m) (mm := h) hx hb hT hu9 hown hK hP (hLh m) 0 3 (Nat.le_of_ble_eq_true rfl) (hs0 _ _) rfl (Nat.le_of_ble_eq_true rfl) (Fx0.T tw_3_4) rfl (v := .ref (ad 24)) (congrArg (fun z => some (Value.ref z)) hm1) dX9_spindleValue_19 ?_
  refine rgN (Wf := fun z => Wf h z) (mm := m) hx hb hT hu6 hown hK hP (hL h) 24 2 (Nat.le_of_ble_eq_true rfl) (ms24 _ _) rfl (Nat.le_of_ble_eq_true rfl) tw_2_84 rfl (v := .ref (ad 26)) rfl dX9_spindleValue_22 ?_
  refine lv_iload_n hx hb dX9_spindleValue_25 rfl (lv_at hl 1 rfl) ?_
  obtain ⟨h3, hD⟩ := gd_el hD
  have hq4 : x1.toNatClampNeg < 4 := Nat.lt_of_not_le (fun z => h3 (Or.inr z))
  refine raald (Wf := fun z => Wf h z) (mm := m) hx hb hK hP (hL h) 26 4 (Nat.le_of_ble_eq_true rfl) (ms26 _ _) rfl h3 rfl dX9_spindleValue_26 ?_
  refine lv_iload_n hx hb dX9_spindleValue_27 rfl (lv_at hl 2 rfl) ?_
  obtain ⟨v5, z6, hD⟩ := b1_el hD
  refine rcVN (Wf := fun z => Wf h z) (mm := m) (As := [.int x2]) (rest := []) Fx0 (c_X8_valueOf l (Wf := fun z0_ => Wf h z0_) (hL h) (fun a0_ b0_ => hAd h h a0_ b0_) m x1.toNatClampNeg hq4 x2 z6) hP (hD1 _ (hAd _ _ _ _)) hS (hA1 _ _ (hAd _ _ _ _) hS.1) (hL h) (Nat.lt_of_lt_of_le hq4 (Nat.le_of_ble_eq_true rfl)) ((msp hq4) _ _) rfl tw_6_99 tw_6_96 tw_6_98 ts_74 tw_1_6 yd_X8_valueOf ⟨(Nat.le_of_ble_eq_true rfl), (Nat.le_of_ble_eq_true rfl)⟩ rfl hl.1 rfl (Nat.le_of_ble_eq_true rfl) dX9_spindleValue_28 (fun H locs hP hS => ?_)
  obtain rfl := es1 hD
  exact hret _ _ _ hP hS (fun Qc hq => W.iret hx hb hr hq hS.2.2 dX9_spindleValue_31 hlocks)
set_option maxHeartbeats 4000000 in
set_option maxRecDepth 100000 in
theorem x_X9_spindleValue (l : Launch) (hst : l.stackTraces = false) {D : va_G} {cs : Nat → ClassId} {adh ad ma : Nat → Nat} {Wf : MM → MM → va_W} (hLh : ∀ m : MM, Ln 8 adh (hsh cs adh ma) (fun z => Wf z m)) (hL : ∀ h : MM, Ln 51 ad (msh cs ad) (fun z => Wf h z)) (hAd : ∀ a0_ b0_ a1_ b1_ : MM, (Wf a0_ a1_).map (fun q => q.1) = (Wf b0_ b1_).map (fun q => q.1)) (hm1 : ma 1 = ad 24) (h : MM) (m : MM) (x1 : Int32) (x2 : Int32) {kx : Nat} (hD : D_X9_spindleValue x1 x2 h m = some (.inl kx)) : CtX l yX9_spindleValue cX9_spindleValue 3 (some .int) 7 104 D cs [.ref (adh 0), .int x1, .int x2] (Wf h m) kx := by
  refine CtX.ofW (by decide) (Nat.le_of_ble_eq_true rfl) ?_
  intro p e s m0 below meth c A ls args hx hb hml hlocks hown hex hts hK hP hD1 hSS hS hA1 hl
  have hT : ∀ w ∈ TBL, w.before args s = true := fun w h => hts w (List.mem_cons_of_mem _ h)
  have Fx0 : Fx p l m0 c cX9_spindleValue 3 s args yX9_spindleValue cX9_spindleValue 3 (some .int) D cs A := ⟨hx, hb, hml, hown, hts, hK, hSS⟩
  have hown : s.vm.findClass RX9 = some m0.cls := hown
  have hl : lv_has ls 3 [(0, .ref (adh 0)), (1, .int x1), (2, .int x2)] := hl
  unfold D_X9_spindleValue at hD
  refine lv_iload_n hx hb dX9_spindleValue_0 rfl (lv_at hl 1 rfl) ?_
  refine lv_aload_n hx hb dX9_spindleValue_1 rfl (lv_at hl 0 rfl) ?_
  refine rg (Wf := fun z => Wf z m) (mm := h) hx hb hT hu9 hown hK hP (hLh m) 0 3 (Nat.le_of_ble_eq_true rfl) (hs0 _ _) rfl (Nat.le_of_ble_eq_true rfl) (Fx0.T tw_3_4) rfl (v := .ref (ad 24)) (congrArg (fun z => some (Value.ref z)) hm1) dX9_spindleValue_2 ?_
  refine rgN (Wf := fun z => Wf h z) (mm := m) hx hb hT hu6 hown hK hP (hL h) 24 1 (Nat.le_of_ble_eq_true rfl) (ms24 _ _) rfl (Nat.le_of_ble_eq_true rfl) tw_2_80 rfl (v := .int (gi m 24 1)) rfl dX9_spindleValue_5 ?_
  rcases bX_ex hD with z1 | ⟨u_, z1, hD⟩
  · exact rcX (As := [.int x1, .int (gi m 24 1)]) (rest := []) Fx0 (x_X9_requireIndex l hst x1 (gi m 24 1) z1) hP (hD1 _ (hAd _ _ _ _)) hS (hA1 _ _ (hAd _ _ _ _) hS.1) hlocks hex tw_5_96 tw_5_94 tw_5_95 tw_1_1 yd_X9_requireIndex ⟨⟨(Nat.le_of_ble_eq_true rfl), (Nat.le_of_ble_eq_true rfl)⟩, by decide, by decide⟩ rfl hl.1 rfl (Nat.le_of_ble_eq_true rfl) dX9_spindleValue_8
  refine rcS (As := [.int x1, .int (gi m 24 1)]) (rest := []) Fx0 (c_X9_requireIndex l x1 (gi m 24 1) z1) hP (hD1 _ (hAd _ _ _ _)) hS (hA1 _ _ (hAd _ _ _ _) hS.1) tw_5_96 tw_5_94 tw_5_95 tw_1_1 yd_X9_requireIndex ⟨(Nat.le_of_ble_eq_true rfl), (Nat.le_of_ble_eq_true rfl)⟩ rfl hl.1 rfl (Nat.le_of_ble_eq_true rfl) dX9_spindleValue_8 (fun H locs hP hS => ?_)
  refine lv_iload_n hx hb dX9_spindleValue_11 rfl (lv_at hl 2 rfl) ?_
  refine lv_iconst (v := (0 : Int32)) hx hb dX9_spindleValue_12 (by decide) ?_
  refine lv_bipush (v := (7 : Int32)) hx hb dX9_spindleValue_13 (by decide) ?_
  rcases bX_ex hD with z2 | ⟨u_, z2, hD⟩
  · exact rcX (As := [.int x2, .int (0 : Int32), .int (7 : Int32)]) (rest := []) Fx0 (x_X9_requireRange l hst x2 (0 : Int32) (7 : Int32) z2) hP (hD1 _ (hAd _ _ _ _)) hS (hA1 _ _ (hAd _ _ _ _) hS.1) hlocks hex tw_5_211 tw_5_209 tw_5_210 tw_1_1 yd_X9_requireRange ⟨⟨(Nat.le_of_ble_eq_true rfl), (Nat.le_of_ble_eq_true rfl)⟩, by decide, by decide⟩ rfl hl.1 rfl (Nat.le_of_ble_eq_true rfl) dX9_spindleValue_15
  refine rcS (As := [.int x2, .int (0 : Int32), .int (7 : Int32)]) (rest := []) Fx0 (c_X9_requireRange l x2 (0 : Int32) (7 : Int32) z2) hP (hD1 _ (hAd _ _ _ _)) hS (hA1 _ _ (hAd _ _ _ _) hS.1) tw_5_211 tw_5_209 tw_5_210 tw_1_1 yd_X9_requireRange ⟨(Nat.le_of_ble_eq_true rfl), (Nat.le_of_ble_eq_true rfl)⟩ rfl hl.1 rfl (Nat.le_of_ble_eq_true rfl) dX9_spindleValue_15 (fun H locs hP hS => ?_)
  exact lif_no hD

noncomputable def D_X9_freeNozzles (x1 : Int32) (h : MM) (m : MM) : Option (Nat ⊕ Int32) := bX (D_X9_requireIndex x1 (gi m 24 3)) (fun _ => lif (if x1 < 0 ∨ 6 ≤ x1.toNatClampNeg then none else (some ((gi m 27 x1.toNatClampNeg)))))
set_option maxHeartbeats 4000000 in
set_option maxRecDepth 100000 in
theorem c_X9_freeNozzles (l : Launch) {D : va_G} {cs : Nat → ClassId} {adh ad ma : Nat → Nat} {Wf : MM → MM → va_W} (hLh : ∀ m : MM, Ln 8 adh (hsh cs adh ma) (fun z => Wf z m)) (hL : ∀ h : MM, Ln 51 ad (msh cs ad) (fun z => Wf h z)) (hAd : ∀ a0_ b0_ a1_ b1_ : MM, (Wf a0_ a1_).map (fun q => q.1) = (Wf b0_ b1_).map (fun q => q.1)) (hm1 : ma 1 = ad 24) (h : MM) (m : MM) (x1 : Int32) {rr : Int32} (hD : D_X9_freeNozzles x1 h m = some (.inr (rr))) : Ct l yX9_freeNozzles cX9_freeNozzles 2 (some .int) 7 103 D cs [.ref (adh 0), .int x1] (Wf h m) (Wf h m) (some (.int rr)) := by
  refine Ct.ofW (by decide) (Nat.le_of_ble_eq_true rfl) rfl ?_
  intro p e s m0 below meth c A Q ls args hx hb hr hml hlocks hown hts hK hP hD1 hSS hS hA1 hl hret
  have hT : ∀ w ∈ TBL, w.before args s = true := fun w h => hts w (List.mem_cons_of_mem _ h)
  have Fx0 : Fx p l m0 c cX9_freeNozzles 2 s args yX9_freeNozzles cX9_freeNozzles 2 (some .int) D cs A := ⟨hx, hb, hml, hown, hts, hK, hSS⟩
  have hown : s.vm.findClass RX9 = some m0.cls := hown
  have hl : lv_has ls 2 [(0, .ref (adh 0)), (1, .int x1)] := hl
  unfold D_X9_freeNozzles at hD
  refine lv_iload_n hx hb dX9_freeNozzles_0 rfl (lv_at hl 1 rfl) ?_
  refine lv_aload_n hx hb dX9_freeNozzles_1 rfl (lv_at hl 0 rfl) ?_
  refine rg (Wf := fun z => Wf z m) (mm := h) hx hb hT hu9 hown hK hP (hLh m) 0 3 (Nat.le_of_ble_eq_true rfl) (hs0 _ _) rfl (Nat.le_of_ble_eq_true rfl) (Fx0.T tw_3_4) rfl (v := .ref (ad 24)) (congrArg (fun z => some (Value.ref z)) hm1) dX9_freeNozzles_2 ?_
  refine rgN (Wf := fun z => Wf h z) (mm := m) hx hb hT hu6 hown hK hP (hL h) 24 3 (Nat.le_of_ble_eq_true rfl) (ms24 _ _) rfl (Nat.le_of_ble_eq_true rfl) tw_2_86 rfl (v := .int (gi m 24 3)) rfl dX9_freeNozzles_5 ?_
  obtain ⟨u_, z1, hD⟩ := bX_el hD
  refine rcS (As := [.int x1, .int (gi m 24 3)]) (rest := []) Fx0 (c_X9_requireIndex l x1 (gi m 24 3) z1) hP (hD1 _ (hAd _ _ _ _)) hS (hA1 _ _ (hAd _ _ _ _) hS.1) tw_5_96 tw_5_94 tw_5_95 tw_1_1 yd_X9_requireIndex ⟨(Nat.le_of_ble_eq_true rfl), (Nat.le_of_ble_eq_true rfl)⟩ rfl hl.1 rfl (Nat.le_of_ble_eq_true rfl) dX9_freeNozzles_8 (fun H locs hP hS => ?_)
  have hD := lif_el hD
  refine lv_aload_n hx hb dX9_freeNozzles_11 rfl (lv_at hl 0 rfl) ?_
  refine rg (Wf := fun z => Wf z m) (mm := h) hx hb hT hu9 hown hK hP (hLh m) 0 3 (Nat.le_of_ble_eq_true rfl) (hs0 _ _) rfl (Nat.le_of_ble_eq_true rfl) (Fx0.T tw_3_4) rfl (v := .ref (ad 24)) (congrArg (fun z => some (Value.ref z)) hm1) dX9_freeNozzles_12 ?_
  refine rgN (Wf := fun z => Wf h z) (mm := m) hx hb hT hu6 hown hK hP (hL h) 24 4 (Nat.le_of_ble_eq_true rfl) (ms24 _ _) rfl (Nat.le_of_ble_eq_true rfl) tw_2_90 rfl (v := .ref (ad 27)) rfl dX9_freeNozzles_15 ?_
  refine lv_iload_n hx hb dX9_freeNozzles_18 rfl (lv_at hl 1 rfl) ?_
  obtain ⟨h2, hD⟩ := gd_el hD
  refine riald (Wf := fun z => Wf h z) (mm := m) hx hb hK hP (hL h) 27 (Nat.le_of_ble_eq_true rfl) (ms27 _ _) h2 rfl dX9_freeNozzles_19 ?_
  obtain rfl := es1 hD
  exact hret _ _ _ hP hS (fun Qc hq => W.iret hx hb hr hq hS.2.2 dX9_freeNozzles_20 hlocks)
set_option maxHeartbeats 4000000 in
set_option maxRecDepth 100000 in
theorem x_X9_freeNozzles (l : Launch) (hst : l.stackTraces = false) {D : va_G} {cs : Nat → ClassId} {adh ad ma : Nat → Nat} {Wf : MM → MM → va_W} (hLh : ∀ m : MM, Ln 8 adh (hsh cs adh ma) (fun z => Wf z m)) (hL : ∀ h : MM, Ln 51 ad (msh cs ad) (fun z => Wf h z)) (hAd : ∀ a0_ b0_ a1_ b1_ : MM, (Wf a0_ a1_).map (fun q => q.1) = (Wf b0_ b1_).map (fun q => q.1)) (hm1 : ma 1 = ad 24) (h : MM) (m : MM) (x1 : Int32) {kx : Nat} (hD : D_X9_freeNozzles x1 h m = some (.inl kx)) : CtX l yX9_freeNozzles cX9_freeNozzles 2 (some .int) 7 103 D cs [.ref (adh 0), .int x1] (Wf h m) kx := by
  refine CtX.ofW (by decide) (Nat.le_of_ble_eq_true rfl) ?_
  intro p e s m0 below meth c A ls args hx hb hml hlocks hown hex hts hK hP hD1 hSS hS hA1 hl
  have hT : ∀ w ∈ TBL, w.before args s = true := fun w h => hts w (List.mem_cons_of_mem _ h)
  have Fx0 : Fx p l m0 c cX9_freeNozzles 2 s args yX9_freeNozzles cX9_freeNozzles 2 (some .int) D cs A := ⟨hx, hb, hml, hown, hts, hK, hSS⟩
  have hown : s.vm.findClass RX9 = some m0.cls := hown
  have hl : lv_has ls 2 [(0, .ref (adh 0)), (1, .int x1)] := hl
  unfold D_X9_freeNozzles at hD
  refine lv_iload_n hx hb dX9_freeNozzles_0 rfl (lv_at hl 1 rfl) ?_
  refine lv_aload_n hx hb dX9_freeNozzles_1 rfl (lv_at hl 0 rfl) ?_
  refine rg (Wf := fun z => Wf z m) (mm := h) hx hb hT hu9 hown hK hP (hLh m) 0 3 (Nat.le_of_ble_eq_true rfl) (hs0 _ _) rfl (Nat.le_of_ble_eq_true rfl) (Fx0.T tw_3_4) rfl (v := .ref (ad 24)) (congrArg (fun z => some (Value.ref z)) hm1) dX9_freeNozzles_2 ?_
  refine rgN (Wf := fun z => Wf h z) (mm := m) hx hb hT hu6 hown hK hP (hL h) 24 3 (Nat.le_of_ble_eq_true rfl) (ms24 _ _) rfl (Nat.le_of_ble_eq_true rfl) tw_2_86 rfl (v := .int (gi m 24 3)) rfl dX9_freeNozzles_5 ?_
  rcases bX_ex hD with z1 | ⟨u_, z1, hD⟩
  · exact rcX (As := [.int x1, .int (gi m 24 3)]) (rest := []) Fx0 (x_X9_requireIndex l hst x1 (gi m 24 3) z1) hP (hD1 _ (hAd _ _ _ _)) hS (hA1 _ _ (hAd _ _ _ _) hS.1) hlocks hex tw_5_96 tw_5_94 tw_5_95 tw_1_1 yd_X9_requireIndex ⟨⟨(Nat.le_of_ble_eq_true rfl), (Nat.le_of_ble_eq_true rfl)⟩, by decide, by decide⟩ rfl hl.1 rfl (Nat.le_of_ble_eq_true rfl) dX9_freeNozzles_8
  refine rcS (As := [.int x1, .int (gi m 24 3)]) (rest := []) Fx0 (c_X9_requireIndex l x1 (gi m 24 3) z1) hP (hD1 _ (hAd _ _ _ _)) hS (hA1 _ _ (hAd _ _ _ _) hS.1) tw_5_96 tw_5_94 tw_5_95 tw_1_1 yd_X9_requireIndex ⟨(Nat.le_of_ble_eq_true rfl), (Nat.le_of_ble_eq_true rfl)⟩ rfl hl.1 rfl (Nat.le_of_ble_eq_true rfl) dX9_freeNozzles_8 (fun H locs hP hS => ?_)
  exact lif_no hD

noncomputable def D_X9_nozzleFor (x1 : Int32) (h : MM) (m : MM) : Option (Nat ⊕ Int32) := bX (D_X9_requireIndex x1 (gi m 28 0)) (fun _ => lif (if x1 < 0 ∨ 8 ≤ x1.toNatClampNeg then none else (some ((gi m 29 x1.toNatClampNeg)))))
set_option maxHeartbeats 4000000 in
set_option maxRecDepth 100000 in
theorem c_X9_nozzleFor (l : Launch) {D : va_G} {cs : Nat → ClassId} {adh ad ma : Nat → Nat} {Wf : MM → MM → va_W} (hLh : ∀ m : MM, Ln 8 adh (hsh cs adh ma) (fun z => Wf z m)) (hL : ∀ h : MM, Ln 51 ad (msh cs ad) (fun z => Wf h z)) (hAd : ∀ a0_ b0_ a1_ b1_ : MM, (Wf a0_ a1_).map (fun q => q.1) = (Wf b0_ b1_).map (fun q => q.1)) (hm1 : ma 1 = ad 24) (h : MM) (m : MM) (x1 : Int32) {rr : Int32} (hD : D_X9_nozzleFor x1 h m = some (.inr (rr))) : Ct l yX9_nozzleFor cX9_nozzleFor 2 (some .int) 7 103 D cs [.ref (adh 0), .int x1] (Wf h m) (Wf h m) (some (.int rr)) := by
  refine Ct.ofW (by decide) (Nat.le_of_ble_eq_true rfl) rfl ?_
  intro p e s m0 below meth c A Q ls args hx hb hr hml hlocks hown hts hK hP hD1 hSS hS hA1 hl hret
  have hT : ∀ w ∈ TBL, w.before args s = true := fun w h => hts w (List.mem_cons_of_mem _ h)
  have Fx0 : Fx p l m0 c cX9_nozzleFor 2 s args yX9_nozzleFor cX9_nozzleFor 2 (some .int) D cs A := ⟨hx, hb, hml, hown, hts, hK, hSS⟩
  have hown : s.vm.findClass RX9 = some m0.cls := hown
  have hl : lv_has ls 2 [(0, .ref (adh 0)), (1, .int x1)] := hl
  unfold D_X9_nozzleFor at hD
  refine lv_iload_n hx hb dX9_nozzleFor_0 rfl (lv_at hl 1 rfl) ?_
  refine lv_aload_n hx hb dX9_nozzleFor_1 rfl (lv_at hl 0 rfl) ?_
  refine rg (Wf := fun z => Wf z m) (mm := h) hx hb hT hu9 hown hK hP (hLh m) 0 3 (Nat.le_of_ble_eq_true rfl) (hs0 _ _) rfl (Nat.le_of_ble_eq_true rfl) (Fx0.T tw_3_4) rfl (v := .ref (ad 24)) (congrArg (fun z => some (Value.ref z)) hm1) dX9_nozzleFor_2 ?_
  refine rgN (Wf := fun z => Wf h z) (mm := m) hx hb hT hu6 hown hK hP (hL h) 24 5 (Nat.le_of_ble_eq_true rfl) (ms24 _ _) rfl (Nat.le_of_ble_eq_true rfl) tw_2_92 rfl (v := .ref (ad 28)) rfl dX9_nozzleFor_5 ?_
  refine rgN (Wf := fun z => Wf h z) (mm := m) hx hb hT hu5 hown hK hP (hL h) 28 0 (Nat.le_of_ble_eq_true rfl) (ms28 _ _) rfl (Nat.le_of_ble_eq_true rfl) tw_1_52 rfl (v := .int (gi m 28 0)) rfl dX9_nozzleFor_8 ?_
  obtain ⟨u_, z1, hD⟩ := bX_el hD
  refine rcS (As := [.int x1, .int (gi m 28 0)]) (rest := []) Fx0 (c_X9_requireIndex l x1 (gi m 28 0) z1) hP (hD1 _ (hAd _ _ _ _)) hS (hA1 _ _ (hAd _ _ _ _) hS.1) tw_5_96 tw_5_94 tw_5_95 tw_1_1 yd_X9_requireIndex ⟨(Nat.le_of_ble_eq_true rfl), (Nat.le_of_ble_eq_true rfl)⟩ rfl hl.1 rfl (Nat.le_of_ble_eq_true rfl) dX9_nozzleFor_11 (fun H locs hP hS => ?_)
  have hD := lif_el hD
  refine lv_aload_n hx hb dX9_nozzleFor_14 rfl (lv_at hl 0 rfl) ?_
  refine rg (Wf := fun z => Wf z m) (mm := h) hx hb hT hu9 hown hK hP (hLh m) 0 3 (Nat.le_of_ble_eq_true rfl) (hs0 _ _) rfl (Nat.le_of_ble_eq_true rfl) (Fx0.T tw_3_4) rfl (v := .ref (ad 24)) (congrArg (fun z => some (Value.ref z)) hm1) dX9_nozzleFor_15 ?_
  refine rgN (Wf := fun z => Wf h z) (mm := m) hx hb hT hu6 hown hK hP (hL h) 24 5 (Nat.le_of_ble_eq_true rfl) (ms24 _ _) rfl (Nat.le_of_ble_eq_true rfl) tw_2_92 rfl (v := .ref (ad 28)) rfl dX9_nozzleFor_18 ?_
  refine rgN (Wf := fun z => Wf h z) (mm := m) hx hb hT hu5 hown hK hP (hL h) 28 1 (Nat.le_of_ble_eq_true rfl) (ms28 _ _) rfl (Nat.le_of_ble_eq_true rfl) tw_1_57 rfl (v := .ref (ad 29)) rfl dX9_nozzleFor_21 ?_
  refine lv_iload_n hx hb dX9_nozzleFor_24 rfl (lv_at hl 1 rfl) ?_
  obtain ⟨h2, hD⟩ := gd_el hD
  refine riald (Wf := fun z => Wf h z) (mm := m) hx hb hK hP (hL h) 29 (Nat.le_of_ble_eq_true rfl) (ms29 _ _) h2 rfl dX9_nozzleFor_25 ?_
  obtain rfl := es1 hD
  exact hret _ _ _ hP hS (fun Qc hq => W.iret hx hb hr hq hS.2.2 dX9_nozzleFor_26 hlocks)
set_option maxHeartbeats 4000000 in
set_option maxRecDepth 100000 in
theorem x_X9_nozzleFor (l : Launch) (hst : l.stackTraces = false) {D : va_G} {cs : Nat → ClassId} {adh ad ma : Nat → Nat} {Wf : MM → MM → va_W} (hLh : ∀ m : MM, Ln 8 adh (hsh cs adh ma) (fun z => Wf z m)) (hL : ∀ h : MM, Ln 51 ad (msh cs ad) (fun z => Wf h z)) (hAd : ∀ a0_ b0_ a1_ b1_ : MM, (Wf a0_ a1_).map (fun q => q.1) = (Wf b0_ b1_).map (fun q => q.1)) (hm1 : ma 1 = ad 24) (h : MM) (m : MM) (x1 : Int32) {kx : Nat} (hD : D_X9_nozzleFor x1 h m = some (.inl kx)) : CtX l yX9_nozzleFor cX9_nozzleFor 2 (some .int) 7 103 D cs [.ref (adh 0), .int x1] (Wf h m) kx := by
  refine CtX.ofW (by decide) (Nat.le_of_ble_eq_true rfl) ?_
  intro p e s m0 below meth c A ls args hx hb hml hlocks hown hex hts hK hP hD1 hSS hS hA1 hl
  have hT : ∀ w ∈ TBL, w.before args s = true := fun w h => hts w (List.mem_cons_of_mem _ h)
  have Fx0 : Fx p l m0 c cX9_nozzleFor 2 s args yX9_nozzleFor cX9_nozzleFor 2 (some .int) D cs A := ⟨hx, hb, hml, hown, hts, hK, hSS⟩
  have hown : s.vm.findClass RX9 = some m0.cls := hown
  have hl : lv_has ls 2 [(0, .ref (adh 0)), (1, .int x1)] := hl
  unfold D_X9_nozzleFor at hD
  refine lv_iload_n hx hb dX9_nozzleFor_0 rfl (lv_at hl 1 rfl) ?_
  refine lv_aload_n hx hb dX9_nozzleFor_1 rfl (lv_at hl 0 rfl) ?_
  refine rg (Wf := fun z => Wf z m) (mm := h) hx hb hT hu9 hown hK hP (hLh m) 0 3 (Nat.le_of_ble_eq_true rfl) (hs0 _ _) rfl (Nat.le_of_ble_eq_true rfl) (Fx0.T tw_3_4) rfl (v := .ref (ad 24)) (congrArg (fun z => some (Value.ref z)) hm1) dX9_nozzleFor_2 ?_
  refine rgN (Wf := fun z => Wf h z) (mm := m) hx hb hT hu6 hown hK hP (hL h) 24 5 (Nat.le_of_ble_eq_true rfl) (ms24 _ _) rfl (Nat.le_of_ble_eq_true rfl) tw_2_92 rfl (v := .ref (ad 28)) rfl dX9_nozzleFor_5 ?_
  refine rgN (Wf := fun z => Wf h z) (mm := m) hx hb hT hu5 hown hK hP (hL h) 28 0 (Nat.le_of_ble_eq_true rfl) (ms28 _ _) rfl (Nat.le_of_ble_eq_true rfl) tw_1_52 rfl (v := .int (gi m 28 0)) rfl dX9_nozzleFor_8 ?_
  rcases bX_ex hD with z1 | ⟨u_, z1, hD⟩
  · exact rcX (As := [.int x1, .int (gi m 28 0)]) (rest := []) Fx0 (x_X9_requireIndex l hst x1 (gi m 28 0) z1) hP (hD1 _ (hAd _ _ _ _)) hS (hA1 _ _ (hAd _ _ _ _) hS.1) hlocks hex tw_5_96 tw_5_94 tw_5_95 tw_1_1 yd_X9_requireIndex ⟨⟨(Nat.le_of_ble_eq_true rfl), (Nat.le_of_ble_eq_true rfl)⟩, by decide, by decide⟩ rfl hl.1 rfl (Nat.le_of_ble_eq_true rfl) dX9_nozzleFor_11
  refine rcS (As := [.int x1, .int (gi m 28 0)]) (rest := []) Fx0 (c_X9_requireIndex l x1 (gi m 28 0) z1) hP (hD1 _ (hAd _ _ _ _)) hS (hA1 _ _ (hAd _ _ _ _) hS.1) tw_5_96 tw_5_94 tw_5_95 tw_1_1 yd_X9_requireIndex ⟨(Nat.le_of_ble_eq_true rfl), (Nat.le_of_ble_eq_true rfl)⟩ rfl hl.1 rfl (Nat.le_of_ble_eq_true rfl) dX9_nozzleFor_11 (fun H locs hP hS => ?_)
  exact lif_no hD

noncomputable def D_X9_feederValue (x1 : Int32) (x2 : Int32) (h : MM) (m : MM) : Option (Nat ⊕ Int32) := bX (D_X9_requireIndex x1 (gi m 24 6)) (fun _ => bX (D_X9_requireRange x2 (0 : Int32) (7 : Int32)) (fun _ => lif (if x1 < 0 ∨ 10 ≤ x1.toNatClampNeg then none else (b1 (D_X2_valueOf (4 + x1.toNatClampNeg) x2 m) (fun v5 => some (v5))))))
set_option maxHeartbeats 4000000 in
set_option maxRecDepth 100000 in
theorem c_X9_feederValue (l : Launch) {D : va_G} {cs : Nat → ClassId} {adh ad ma : Nat → Nat} {Wf : MM → MM → va_W} (hLh : ∀ m : MM, Ln 8 adh (hsh cs adh ma) (fun z => Wf z m)) (hL : ∀ h : MM, Ln 51 ad (msh cs ad) (fun z => Wf h z)) (hAd : ∀ a0_ b0_ a1_ b1_ : MM, (Wf a0_ a1_).map (fun q => q.1) = (Wf b0_ b1_).map (fun q => q.1)) (hm1 : ma 1 = ad 24) (h : MM) (m : MM) (x1 : Int32) (x2 : Int32) {rr : Int32} (hD : D_X9_feederValue x1 x2 h m = some (.inr (rr))) : Ct l yX9_feederValue cX9_feederValue 3 (some .int) 7 104 D cs [.ref (adh 0), .int x1, .int x2] (Wf h m) (Wf h m) (some (.int rr)) := by
  refine Ct.ofW (by decide) (Nat.le_of_ble_eq_true rfl) rfl ?_
  intro p e s m0 below meth c A Q ls args hx hb hr hml hlocks hown hts hK hP hD1 hSS hS hA1 hl hret
  have hT : ∀ w ∈ TBL, w.before args s = true := fun w h => hts w (List.mem_cons_of_mem _ h)
  have Fx0 : Fx p l m0 c cX9_feederValue 3 s args yX9_feederValue cX9_feederValue 3 (some .int) D cs A := ⟨hx, hb, hml, hown, hts, hK, hSS⟩
  have hown : s.vm.findClass RX9 = some m0.cls := hown
  have hl : lv_has ls 3 [(0, .ref (adh 0)), (1, .int x1), (2, .int x2)] := hl
  unfold D_X9_feederValue at hD
  refine lv_iload_n hx hb dX9_feederValue_0 rfl (lv_at hl 1 rfl) ?_
  refine lv_aload_n hx hb dX9_feederValue_1 rfl (lv_at hl 0 rfl) ?_
  refine rg (Wf := fun z => Wf z m) (mm := h) hx hb hT hu9 hown hK hP (hLh m) 0 3 (Nat.le_of_ble_eq_true rfl) (hs0 _ _) rfl (Nat.le_of_ble_eq_true rfl) (Fx0.T tw_3_4) rfl (v := .ref (ad 24)) (congrArg (fun z => some (Value.ref z)) hm1) dX9_feederValue_2 ?_
  refine rgN (Wf := fun z => Wf h z) (mm := m) hx hb hT hu6 hown hK hP (hL h) 24 6 (Nat.le_of_ble_eq_true rfl) (ms24 _ _) rfl (Nat.le_of_ble_eq_true rfl) tw_2_96 rfl (v := .int (gi m 24 6)) rfl dX9_feederValue_5 ?_
  obtain ⟨u_, z1, hD⟩ := bX_el hD
  refine rcS (As := [.int x1, .int (gi m 24 6)]) (rest := []) Fx0 (c_X9_requireIndex l x1 (gi m 24 6) z1) hP (hD1 _ (hAd _ _ _ _)) hS (hA1 _ _ (hAd _ _ _ _) hS.1) tw_5_96 tw_5_94 tw_5_95 tw_1_1 yd_X9_requireIndex ⟨(Nat.le_of_ble_eq_true rfl), (Nat.le_of_ble_eq_true rfl)⟩ rfl hl.1 rfl (Nat.le_of_ble_eq_true rfl) dX9_feederValue_8 (fun H locs hP hS => ?_)
  refine lv_iload_n hx hb dX9_feederValue_11 rfl (lv_at hl 2 rfl) ?_
  refine lv_iconst (v := (0 : Int32)) hx hb dX9_feederValue_12 (by decide) ?_
  refine lv_bipush (v := (7 : Int32)) hx hb dX9_feederValue_13 (by decide) ?_
  obtain ⟨u_, z2, hD⟩ := bX_el hD
  refine rcS (As := [.int x2, .int (0 : Int32), .int (7 : Int32)]) (rest := []) Fx0 (c_X9_requireRange l x2 (0 : Int32) (7 : Int32) z2) hP (hD1 _ (hAd _ _ _ _)) hS (hA1 _ _ (hAd _ _ _ _) hS.1) tw_5_211 tw_5_209 tw_5_210 tw_1_1 yd_X9_requireRange ⟨(Nat.le_of_ble_eq_true rfl), (Nat.le_of_ble_eq_true rfl)⟩ rfl hl.1 rfl (Nat.le_of_ble_eq_true rfl) dX9_feederValue_15 (fun H locs hP hS => ?_)
  have hD := lif_el hD
  refine lv_aload_n hx hb dX9_feederValue_18 rfl (lv_at hl 0 rfl) ?_
  refine rg (Wf := fun z => Wf z m) (mm := h) hx hb hT hu9 hown hK hP (hLh m) 0 3 (Nat.le_of_ble_eq_true rfl) (hs0 _ _) rfl (Nat.le_of_ble_eq_true rfl) (Fx0.T tw_3_4) rfl (v := .ref (ad 24)) (congrArg (fun z => some (Value.ref z)) hm1) dX9_feederValue_19 ?_
  refine rgN (Wf := fun z => Wf h z) (mm := m) hx hb hT hu6 hown hK hP (hL h) 24 7 (Nat.le_of_ble_eq_true rfl) (ms24 _ _) rfl (Nat.le_of_ble_eq_true rfl) tw_2_102 rfl (v := .ref (ad 35)) rfl dX9_feederValue_22 ?_
  refine lv_iload_n hx hb dX9_feederValue_25 rfl (lv_at hl 1 rfl) ?_
  obtain ⟨h3, hD⟩ := gd_el hD
  have hq4a : 4 ≤ 4 + x1.toNatClampNeg := Nat.le_add_right _ _
  have hq4b : 4 + x1.toNatClampNeg < 14 := Nat.add_lt_add_left (Nat.lt_of_not_le (fun z => h3 (Or.inr z))) 4
  refine raald (Wf := fun z => Wf h z) (mm := m) hx hb hK hP (hL h) 35 5 (Nat.le_of_ble_eq_true rfl) (ms35 _ _) rfl h3 rfl dX9_feederValue_26 ?_
  refine lv_iload_n hx hb dX9_feederValue_27 rfl (lv_at hl 2 rfl) ?_
  obtain ⟨v5, z6, hD⟩ := b1_el hD
  refine rcVN (Wf := fun z => Wf h z) (mm := m) (As := [.int x2]) (rest := []) Fx0 (c_X2_valueOf l (Wf := fun z0_ => Wf h z0_) (hL h) (fun a0_ b0_ => hAd h h a0_ b0_) m (4 + x1.toNatClampNeg) hq4a hq4b x2 z6) hP (hD1 _ (hAd _ _ _ _)) hS (hA1 _ _ (hAd _ _ _ _) hS.1) (hL h) (Nat.lt_of_lt_of_le hq4b (Nat.le_of_ble_eq_true rfl)) ((mfe hq4a hq4b) _ _) rfl tw_6_166 tw_6_163 tw_6_165 ts_76 tw_1_7 yd_X2_valueOf ⟨(Nat.le_of_ble_eq_true rfl), (Nat.le_of_ble_eq_true rfl)⟩ rfl hl.1 rfl (Nat.le_of_ble_eq_true rfl) dX9_feederValue_28 (fun H locs hP hS => ?_)
  obtain rfl := es1 hD
  exact hret _ _ _ hP hS (fun Qc hq => W.iret hx hb hr hq hS.2.2 dX9_feederValue_31 hlocks)
set_option maxHeartbeats 4000000 in
set_option maxRecDepth 100000 in
theorem x_X9_feederValue (l : Launch) (hst : l.stackTraces = false) {D : va_G} {cs : Nat → ClassId} {adh ad ma : Nat → Nat} {Wf : MM → MM → va_W} (hLh : ∀ m : MM, Ln 8 adh (hsh cs adh ma) (fun z => Wf z m)) (hL : ∀ h : MM, Ln 51 ad (msh cs ad) (fun z => Wf h z)) (hAd : ∀ a0_ b0_ a1_ b1_ : MM, (Wf a0_ a1_).map (fun q => q.1) = (Wf b0_ b1_).map (fun q => q.1)) (hm1 : ma 1 = ad 24) (h : MM) (m : MM) (x1 : Int32) (x2 : Int32) {kx : Nat} (hD : D_X9_feederValue x1 x2 h m = some (.inl kx)) : CtX l yX9_feederValue cX9_feederValue 3 (some .int) 7 104 D cs [.ref (adh 0), .int x1, .int x2] (Wf h m) kx := by
  refine CtX.ofW (by decide) (Nat.le_of_ble_eq_true rfl) ?_
  intro p e s m0 below meth c A ls args hx hb hml hlocks hown hex hts hK hP hD1 hSS hS hA1 hl
  have hT : ∀ w ∈ TBL, w.before args s = true := fun w h => hts w (List.mem_cons_of_mem _ h)
  have Fx0 : Fx p l m0 c cX9_feederValue 3 s args yX9_feederValue cX9_feederValue 3 (some .int) D cs A := ⟨hx, hb, hml, hown, hts, hK, hSS⟩
  have hown : s.vm.findClass RX9 = some m0.cls := hown
  have hl : lv_has ls 3 [(0, .ref (adh 0)), (1, .int x1), (2, .int x2)] := hl
  unfold D_X9_feederValue at hD
  refine lv_iload_n hx hb dX9_feederValue_0 rfl (lv_at hl 1 rfl) ?_
  refine lv_aload_n hx hb dX9_feederValue_1 rfl (lv_at hl 0 rfl) ?_
  refine rg (Wf := fun z => Wf z m) (mm := h) hx hb hT hu9 hown hK hP (hLh m) 0 3 (Nat.le_of_ble_eq_true rfl) (hs0 _ _) rfl (Nat.le_of_ble_eq_true rfl) (Fx0.T tw_3_4) rfl (v := .ref (ad 24)) (congrArg (fun z => some (Value.ref z)) hm1) dX9_feederValue_2 ?_
  refine rgN (Wf := fun z => Wf h z) (mm := m) hx hb hT hu6 hown hK hP (hL h) 24 6 (Nat.le_of_ble_eq_true rfl) (ms24 _ _) rfl (Nat.le_of_ble_eq_true rfl) tw_2_96 rfl (v := .int (gi m 24 6)) rfl dX9_feederValue_5 ?_
  rcases bX_ex hD with z1 | ⟨u_, z1, hD⟩
  · exact rcX (As := [.int x1, .int (gi m 24 6)]) (rest := []) Fx0 (x_X9_requireIndex l hst x1 (gi m 24 6) z1) hP (hD1 _ (hAd _ _ _ _)) hS (hA1 _ _ (hAd _ _ _ _) hS.1) hlocks hex tw_5_96 tw_5_94 tw_5_95 tw_1_1 yd_X9_requireIndex ⟨⟨(Nat.le_of_ble_eq_true rfl), (Nat.le_of_ble_eq_true rfl)⟩, by decide, by decide⟩ rfl hl.1 rfl (Nat.le_of_ble_eq_true rfl) dX9_feederValue_8
  refine rcS (As := [.int x1, .int (gi m 24 6)]) (rest := []) Fx0 (c_X9_requireIndex l x1 (gi m 24 6) z1) hP (hD1 _ (hAd _ _ _ _)) hS (hA1 _ _ (hAd _ _ _ _) hS.1) tw_5_96 tw_5_94 tw_5_95 tw_1_1 yd_X9_requireIndex ⟨(Nat.le_of_ble_eq_true rfl), (Nat.le_of_ble_eq_true rfl)⟩ rfl hl.1 rfl (Nat.le_of_ble_eq_true rfl) dX9_feederValue_8 (fun H locs hP hS => ?_)
  refine lv_iload_n hx hb dX9_feederValue_11 rfl (lv_at hl 2 rfl) ?_
  refine lv_iconst (v := (0 : Int32)) hx hb dX9_feederValue_12 (by decide) ?_
  refine lv_bipush (v := (7 : Int32)) hx hb dX9_feederValue_13 (by decide) ?_
  rcases bX_ex hD with z2 | ⟨u_, z2, hD⟩
  · exact rcX (As := [.int x2, .int (0 : Int32), .int (7 : Int32)]) (rest := []) Fx0 (x_X9_requireRange l hst x2 (0 : Int32) (7 : Int32) z2) hP (hD1 _ (hAd _ _ _ _)) hS (hA1 _ _ (hAd _ _ _ _) hS.1) hlocks hex tw_5_211 tw_5_209 tw_5_210 tw_1_1 yd_X9_requireRange ⟨⟨(Nat.le_of_ble_eq_true rfl), (Nat.le_of_ble_eq_true rfl)⟩, by decide, by decide⟩ rfl hl.1 rfl (Nat.le_of_ble_eq_true rfl) dX9_feederValue_15
  refine rcS (As := [.int x2, .int (0 : Int32), .int (7 : Int32)]) (rest := []) Fx0 (c_X9_requireRange l x2 (0 : Int32) (7 : Int32) z2) hP (hD1 _ (hAd _ _ _ _)) hS (hA1 _ _ (hAd _ _ _ _) hS.1) tw_5_211 tw_5_209 tw_5_210 tw_1_1 yd_X9_requireRange ⟨(Nat.le_of_ble_eq_true rfl), (Nat.le_of_ble_eq_true rfl)⟩ rfl hl.1 rfl (Nat.le_of_ble_eq_true rfl) dX9_feederValue_15 (fun H locs hP hS => ?_)
  exact lif_no hD

noncomputable def D_X9_splice (x1 : Int32) (x2 : Int32) (h : MM) (m : MM) : Option (Nat ⊕ (Int32 × MM)) := bX (D_X9_requireIndex x1 (gi m 24 6)) (fun _ => bX (D_X9_requireRange x2 (0 : Int32) (500 : Int32)) (fun _ => lif (if x1 < 0 ∨ 10 ≤ x1.toNatClampNeg then none else (if (gi m (4 + x1.toNatClampNeg) 4) < (3 : Int32) then (b1 (D_X2_addReel (4 + x1.toNatClampNeg) x2 m) (fun m5 => bnd ((gi m5 (4 + x1.toNatClampNeg) 0)) (fun v7 => if v7 < 0 ∨ 8 ≤ v7.toNatClampNeg then none else (if v7 < 0 ∨ 8 ≤ v7.toNatClampNeg then none else (bnd (si m5 30 v7.toNatClampNeg ((gi m5 30 v7.toNatClampNeg) + x2)) (fun m10 => b2 (D_X2_spliceIfEmpty (4 + x1.toNatClampNeg) m10) (fun v11 m12 => bnd (si m12 45 8 ((gi m10 45 8) + v11)) (fun m14 => some ((gi m14 (4 + x1.toNatClampNeg) 4), m14))))))))) else (some ((-2 : Int32), m))))))
set_option maxHeartbeats 4000000 in
set_option maxRecDepth 100000 in
theorem c_X9_splice (l : Launch) {D : va_G} {cs : Nat → ClassId} {adh ad ma : Nat → Nat} {Wf : MM → MM → va_W} (hLh : ∀ m : MM, Ln 8 adh (hsh cs adh ma) (fun z => Wf z m)) (hL : ∀ h : MM, Ln 51 ad (msh cs ad) (fun z => Wf h z)) (hAd : ∀ a0_ b0_ a1_ b1_ : MM, (Wf a0_ a1_).map (fun q => q.1) = (Wf b0_ b1_).map (fun q => q.1)) (hm1 : ma 1 = ad 24) (h : MM) (m : MM) (x1 : Int32) (x2 : Int32) {rr : Int32} {m' : MM} (hD : D_X9_splice x1 x2 h m = some (.inr (rr, m'))) : Ct l yX9_splice cX9_splice 4 (some .int) 7 104 D cs [.ref (adh 0), .int x1, .int x2] (Wf h m) (Wf h m') (some (.int rr)) := by
  refine Ct.ofW (by decide) (Nat.le_of_ble_eq_true rfl) (hAd _ _ _ _) ?_
  intro p e s m0 below meth c A Q ls args hx hb hr hml hlocks hown hts hK hP hD1 hSS hS hA1 hl hret
  have hT : ∀ w ∈ TBL, w.before args s = true := fun w h => hts w (List.mem_cons_of_mem _ h)
  have Fx0 : Fx p l m0 c cX9_splice 4 s args yX9_splice cX9_splice 4 (some .int) D cs A := ⟨hx, hb, hml, hown, hts, hK, hSS⟩
  have hown : s.vm.findClass RX9 = some m0.cls := hown
  have hl : lv_has ls 4 [(0, .ref (adh 0)), (1, .int x1), (2, .int x2)] := hl
  unfold D_X9_splice at hD
  refine lv_iload_n hx hb dX9_splice_0 rfl (lv_at hl 1 rfl) ?_
  refine lv_aload_n hx hb dX9_splice_1 rfl (lv_at hl 0 rfl) ?_
  refine rg (Wf := fun z => Wf z m) (mm := h) hx hb hT hu9 hown hK hP (hLh m) 0 3 (Nat.le_of_ble_eq_true rfl) (hs0 _ _) rfl (Nat.le_of_ble_eq_true rfl) (Fx0.T tw_3_4) rfl (v := .ref (ad 24)) (congrArg (fun z => some (Value.ref z)) hm1) dX9_splice_2 ?_
  refine rgN (Wf := fun z => Wf h z) (mm := m) hx hb hT hu6 hown hK hP (hL h) 24 6 (Nat.le_of_ble_eq_true rfl) (ms24 _ _) rfl (Nat.le_of_ble_eq_true rfl) tw_2_96 rfl (v := .int (gi m 24 6)) rfl dX9_splice_5 ?_
  obtain ⟨u_, z1, hD⟩ := bX_el hD
  refine rcS (As := [.int x1, .int (gi m 24 6)]) (rest := []) Fx0 (c_X9_requireIndex l x1 (gi m 24 6) z1) hP (hD1 _ (hAd _ _ _ _)) hS (hA1 _ _ (hAd _ _ _ _) hS.1) tw_5_96 tw_5_94 tw_5_95 tw_1_1 yd_X9_requireIndex ⟨(Nat.le_of_ble_eq_true rfl), (Nat.le_of_ble_eq_true rfl)⟩ rfl hl.1 rfl (Nat.le_of_ble_eq_true rfl) dX9_splice_8 (fun H locs hP hS => ?_)
  refine lv_iload_n hx hb dX9_splice_11 rfl (lv_at hl 2 rfl) ?_
  refine lv_iconst (v := (0 : Int32)) hx hb dX9_splice_12 (by decide) ?_
  refine lv_sipush (v := (500 : Int32)) hx hb dX9_splice_13 (by decide) ?_
  obtain ⟨u_, z2, hD⟩ := bX_el hD
  refine rcS (As := [.int x2, .int (0 : Int32), .int (500 : Int32)]) (rest := []) Fx0 (c_X9_requireRange l x2 (0 : Int32) (500 : Int32) z2) hP (hD1 _ (hAd _ _ _ _)) hS (hA1 _ _ (hAd _ _ _ _) hS.1) tw_5_211 tw_5_209 tw_5_210 tw_1_1 yd_X9_requireRange ⟨(Nat.le_of_ble_eq_true rfl), (Nat.le_of_ble_eq_true rfl)⟩ rfl hl.1 rfl (Nat.le_of_ble_eq_true rfl) dX9_splice_16 (fun H locs hP hS => ?_)
  have hD := lif_el hD
  refine lv_aload_n hx hb dX9_splice_19 rfl (lv_at hl 0 rfl) ?_
  refine rg (Wf := fun z => Wf z m) (mm := h) hx hb hT hu9 hown hK hP (hLh m) 0 3 (Nat.le_of_ble_eq_true rfl) (hs0 _ _) rfl (Nat.le_of_ble_eq_true rfl) (Fx0.T tw_3_4) rfl (v := .ref (ad 24)) (congrArg (fun z => some (Value.ref z)) hm1) dX9_splice_20 ?_
  refine rgN (Wf := fun z => Wf h z) (mm := m) hx hb hT hu6 hown hK hP (hL h) 24 7 (Nat.le_of_ble_eq_true rfl) (ms24 _ _) rfl (Nat.le_of_ble_eq_true rfl) tw_2_102 rfl (v := .ref (ad 35)) rfl dX9_splice_23 ?_
  refine lv_iload_n hx hb dX9_splice_26 rfl (lv_at hl 1 rfl) ?_
  obtain ⟨h3, hD⟩ := gd_el hD
  have hq4a : 4 ≤ 4 + x1.toNatClampNeg := Nat.le_add_right _ _
  have hq4b : 4 + x1.toNatClampNeg < 14 := Nat.add_lt_add_left (Nat.lt_of_not_le (fun z => h3 (Or.inr z))) 4
  refine raald (Wf := fun z => Wf h z) (mm := m) hx hb hK hP (hL h) 35 5 (Nat.le_of_ble_eq_true rfl) (ms35 _ _) rfl h3 rfl dX9_splice_27 ?_
  refine lv_astore_n (lv' := [(3, .ref (ad (4 + x1.toNatClampNeg))), (0, .ref (adh 0)), (1, .int x1), (2, .int x2)]) hx hb dX9_splice_28 rfl hl (by decide) rfl (fun ls hl => ?_)
  refine lv_aload_n hx hb dX9_splice_29 rfl (lv_at hl 0 rfl) ?_
  refine rgN (Wf := fun z => Wf h z) (mm := m) hx hb hT hu2 hown hK hP (hL h) (4 + x1.toNatClampNeg) 4 (Nat.lt_of_lt_of_le hq4b (Nat.le_of_ble_eq_true rfl)) ((mfe hq4a hq4b) _ _) rfl (Nat.le_of_ble_eq_true rfl) tw_2_12 rfl (v := .int (gi m (4 + x1.toNatClampNeg) 4)) rfl dX9_splice_30 ?_
  refine lv_iconst (v := (3 : Int32)) hx hb dX9_splice_33 (by decide) ?_
  refine lv_icmp_lt (tgt := 40) hx hb dX9_splice_34 (by decide) (fun c => ?_) (fun c => ?_)
  · have hD := ifp hD c
    refine lv_aload_n hx hb dX9_splice_40 rfl (lv_at hl 0 rfl) ?_
    refine lv_iload_n hx hb dX9_splice_41 rfl (lv_at hl 3 rfl) ?_
    obtain ⟨m5, z6, hD⟩ := b1_el hD
    refine rcVN (Wf := fun z => Wf h z) (mm := m) (As := [.int x2]) (rest := []) Fx0 (c_X2_addReel l (Wf := fun z0_ => Wf h z0_) (hL h) (fun a0_ b0_ => hAd h h a0_ b0_) m (4 + x1.toNatClampNeg) hq4a hq4b x2 z6) hP (hD1 _ (hAd _ _ _ _)) hS (hA1 _ _ (hAd _ _ _ _) hS.1) (hL h) (Nat.lt_of_lt_of_le hq4b (Nat.le_of_ble_eq_true rfl)) ((mfe hq4a hq4b) _ _) rfl tw_5_216 tw_5_213 tw_5_215 ts_57 tw_1_7 yd_X2_addReel ⟨(Nat.le_of_ble_eq_true rfl), (Nat.le_of_ble_eq_true rfl)⟩ rfl hl.1 rfl (Nat.le_of_ble_eq_true rfl) dX9_splice_42 (fun H locs hP hS => ?_)
    refine lv_aload_n hx hb dX9_splice_45 rfl (lv_at hl 1 rfl) ?_
    refine rg (Wf := fun z => Wf z m5) (mm := h) hx hb hT hu9 hown hK hP (hLh m5) 0 3 (Nat.le_of_ble_eq_true rfl) (hs0 _ _) rfl (Nat.le_of_ble_eq_true rfl) (Fx0.T tw_3_4) rfl (v := .ref (ad 24)) (congrArg (fun z => some (Value.ref z)) hm1) dX9_splice_46 ?_
    refine rgN (Wf := fun z => Wf h z) (mm := m5) hx hb hT hu6 hown hK hP (hL h) 24 5 (Nat.le_of_ble_eq_true rfl) (ms24 _ _) rfl (Nat.le_of_ble_eq_true rfl) tw_2_92 rfl (v := .ref (ad 28)) rfl dX9_splice_49 ?_
    refine rgN (Wf := fun z => Wf h z) (mm := m5) hx hb hT hu5 hown hK hP (hL h) 28 2 (Nat.le_of_ble_eq_true rfl) (ms28 _ _) rfl (Nat.le_of_ble_eq_true rfl) tw_1_60 rfl (v := .ref (ad 30)) rfl dX9_splice_52 ?_
    refine lv_aload_n hx hb dX9_splice_55 rfl (lv_at hl 0 rfl) ?_
    refine rgN (Wf := fun z => Wf h z) (mm := m5) hx hb hT hu2 hown hK hP (hL h) (4 + x1.toNatClampNeg) 0 (Nat.lt_of_lt_of_le hq4b (Nat.le_of_ble_eq_true rfl)) ((mfe hq4a hq4b) _ _) rfl (Nat.le_of_ble_eq_true rfl) tw_2_0 rfl (v := .int (gi m5 (4 + x1.toNatClampNeg) 0)) rfl dX9_splice_56 ?_
    obtain ⟨v7, ev7, hD⟩ := bnd_el hD
    refine lv_nmi ev7 ?_
    refine lv_dup2_11 hx hb dX9_splice_59 rfl rfl ?_
    obtain ⟨h8, hD⟩ := gd_el hD
    refine riald (Wf := fun z => Wf h z) (mm := m5) hx hb hK hP (hL h) 30 (Nat.le_of_ble_eq_true rfl) (ms30 _ _) h8 rfl dX9_splice_60 ?_
    refine lv_iload_n hx hb dX9_splice_61 rfl (lv_at hl 3 rfl) ?_
    refine lv_iadd hx hb dX9_splice_62 ?_
    obtain ⟨h9, hD⟩ := gd_el hD
    obtain ⟨m10, em10, hD⟩ := bnd_el hD
    refine riast (Wf := fun z => Wf h z) (mm := m5) hx hb hK hP (hD1 _ (hAd _ _ _ _)) hS (hL h) 30 (Nat.le_of_ble_eq_true rfl) (fun _ => ms30 _ _) h9 rfl dX9_splice_63 em10 (fun H locs hP hS => ?_)
    refine lv_aload_n hx hb dX9_splice_64 rfl (lv_at hl 1 rfl) ?_
    refine rg (Wf := fun z => Wf z m10) (mm := h) hx hb hT hu9 hown hK hP (hLh m10) 0 3 (Nat.le_of_ble_eq_true rfl) (hs0 _ _) rfl (Nat.le_of_ble_eq_true rfl) (Fx0.T tw_3_4) rfl (v := .ref (ad 24)) (congrArg (fun z => some (Value.ref z)) hm1) dX9_splice_65 ?_
    refine rgN (Wf := fun z => Wf h z) (mm := m10) hx hb hT hu6 hown hK hP (hL h) 24 10 (Nat.le_of_ble_eq_true rfl) (ms24 _ _) rfl (Nat.le_of_ble_eq_true rfl) tw_2_110 rfl (v := .ref (ad 45)) rfl dX9_splice_68 ?_
    refine lv_dup hx hb dX9_splice_71 rfl ?_
    refine rgN (Wf := fun z => Wf h z) (mm := m10) hx hb hT hu4 hown hK hP (hL h) 45 8 (Nat.le_of_ble_eq_true rfl) (ms45 _ _) rfl (Nat.le_of_ble_eq_true rfl) tw_1_167 rfl (v := .int (gi m10 45 8)) rfl dX9_splice_72 ?_
    refine lv_aload_n hx hb dX9_splice_75 rfl (lv_at hl 0 rfl) ?_
    obtain ⟨v11, m12, z13, hD⟩ := b2_el hD
    refine rcVN (Wf := fun z => Wf h z) (mm := m10) (As := []) (rest := [.int (gi m10 45 8), .ref (ad 45)]) Fx0 (c_X2_spliceIfEmpty l (Wf := fun z0_ => Wf h z0_) (hL h) (fun a0_ b0_ => hAd h h a0_ b0_) m10 (4 + x1.toNatClampNeg) hq4a hq4b z13) hP (hD1 _ (hAd _ _ _ _)) hS (hA1 _ _ (hAd _ _ _ _) hS.1) (hL h) (Nat.lt_of_lt_of_le hq4b (Nat.le_of_ble_eq_true rfl)) ((mfe hq4a hq4b) _ _) rfl tw_5_150 tw_5_217 tw_5_149 ts_49 tw_1_7 yd_X2_spliceIfEmpty ⟨(Nat.le_of_ble_eq_true rfl), (Nat.le_of_ble_eq_true rfl)⟩ rfl hl.1 rfl (Nat.le_of_ble_eq_true rfl) dX9_splice_76 (fun H locs hP hS => ?_)
    refine lv_iadd hx hb dX9_splice_79 ?_
    obtain ⟨m14, em14, hD⟩ := bnd_el hD
    refine rpN (Wf := fun z => Wf h z) (mm := m12) hx hb hT hu4 tyX4_ok nmX4 hown hK hP (hD1 _ (hAd _ _ _ _)) hS (hL h) 45 8 (Nat.le_of_ble_eq_true rfl) (ms45 _ _) (ms45 _ _) rfl (Nat.le_of_ble_eq_true rfl) tw_1_167 rfl rfl rfl rfl (Nat.le_of_ble_eq_true rfl) dX9_splice_80 em14 (fun H locs hP hS => ?_)
    refine lv_aload_n hx hb dX9_splice_83 rfl (lv_at hl 0 rfl) ?_
    refine rgN (Wf := fun z => Wf h z) (mm := m14) hx hb hT hu2 hown hK hP (hL h) (4 + x1.toNatClampNeg) 4 (Nat.lt_of_lt_of_le hq4b (Nat.le_of_ble_eq_true rfl)) ((mfe hq4a hq4b) _ _) rfl (Nat.le_of_ble_eq_true rfl) tw_2_12 rfl (v := .int (gi m14 (4 + x1.toNatClampNeg) 4)) rfl dX9_splice_84 ?_
    obtain ⟨rfl, rfl⟩ := es2 hD
    exact hret _ _ _ hP hS (fun Qc hq => W.iret hx hb hr hq hS.2.2 dX9_splice_87 hlocks)
  · have hD := ifn hD c
    refine lv_bipush (v := (-2 : Int32)) hx hb dX9_splice_37 (by decide) ?_
    obtain ⟨rfl, rfl⟩ := es2 hD
    exact hret _ _ _ hP hS (fun Qc hq => W.iret hx hb hr hq hS.2.2 dX9_splice_39 hlocks)
set_option maxHeartbeats 4000000 in
set_option maxRecDepth 100000 in
theorem x_X9_splice (l : Launch) (hst : l.stackTraces = false) {D : va_G} {cs : Nat → ClassId} {adh ad ma : Nat → Nat} {Wf : MM → MM → va_W} (hLh : ∀ m : MM, Ln 8 adh (hsh cs adh ma) (fun z => Wf z m)) (hL : ∀ h : MM, Ln 51 ad (msh cs ad) (fun z => Wf h z)) (hAd : ∀ a0_ b0_ a1_ b1_ : MM, (Wf a0_ a1_).map (fun q => q.1) = (Wf b0_ b1_).map (fun q => q.1)) (hm1 : ma 1 = ad 24) (h : MM) (m : MM) (x1 : Int32) (x2 : Int32) {kx : Nat} (hD : D_X9_splice x1 x2 h m = some (.inl kx)) : CtX l yX9_splice cX9_splice 4 (some .int) 7 104 D cs [.ref (adh 0), .int x1, .int x2] (Wf h m) kx := by
  refine CtX.ofW (by decide) (Nat.le_of_ble_eq_true rfl) ?_
  intro p e s m0 below meth c A ls args hx hb hml hlocks hown hex hts hK hP hD1 hSS hS hA1 hl
  have hT : ∀ w ∈ TBL, w.before args s = true := fun w h => hts w (List.mem_cons_of_mem _ h)
  have Fx0 : Fx p l m0 c cX9_splice 4 s args yX9_splice cX9_splice 4 (some .int) D cs A := ⟨hx, hb, hml, hown, hts, hK, hSS⟩
  have hown : s.vm.findClass RX9 = some m0.cls := hown
  have hl : lv_has ls 4 [(0, .ref (adh 0)), (1, .int x1), (2, .int x2)] := hl
  unfold D_X9_splice at hD
  refine lv_iload_n hx hb dX9_splice_0 rfl (lv_at hl 1 rfl) ?_
  refine lv_aload_n hx hb dX9_splice_1 rfl (lv_at hl 0 rfl) ?_
  refine rg (Wf := fun z => Wf z m) (mm := h) hx hb hT hu9 hown hK hP (hLh m) 0 3 (Nat.le_of_ble_eq_true rfl) (hs0 _ _) rfl (Nat.le_of_ble_eq_true rfl) (Fx0.T tw_3_4) rfl (v := .ref (ad 24)) (congrArg (fun z => some (Value.ref z)) hm1) dX9_splice_2 ?_
  refine rgN (Wf := fun z => Wf h z) (mm := m) hx hb hT hu6 hown hK hP (hL h) 24 6 (Nat.le_of_ble_eq_true rfl) (ms24 _ _) rfl (Nat.le_of_ble_eq_true rfl) tw_2_96 rfl (v := .int (gi m 24 6)) rfl dX9_splice_5 ?_
  rcases bX_ex hD with z1 | ⟨u_, z1, hD⟩
  · exact rcX (As := [.int x1, .int (gi m 24 6)]) (rest := []) Fx0 (x_X9_requireIndex l hst x1 (gi m 24 6) z1) hP (hD1 _ (hAd _ _ _ _)) hS (hA1 _ _ (hAd _ _ _ _) hS.1) hlocks hex tw_5_96 tw_5_94 tw_5_95 tw_1_1 yd_X9_requireIndex ⟨⟨(Nat.le_of_ble_eq_true rfl), (Nat.le_of_ble_eq_true rfl)⟩, by decide, by decide⟩ rfl hl.1 rfl (Nat.le_of_ble_eq_true rfl) dX9_splice_8
  refine rcS (As := [.int x1, .int (gi m 24 6)]) (rest := []) Fx0 (c_X9_requireIndex l x1 (gi m 24 6) z1) hP (hD1 _ (hAd _ _ _ _)) hS (hA1 _ _ (hAd _ _ _ _) hS.1) tw_5_96 tw_5_94 tw_5_95 tw_1_1 yd_X9_requireIndex ⟨(Nat.le_of_ble_eq_true rfl), (Nat.le_of_ble_eq_true rfl)⟩ rfl hl.1 rfl (Nat.le_of_ble_eq_true rfl) dX9_splice_8 (fun H locs hP hS => ?_)
  refine lv_iload_n hx hb dX9_splice_11 rfl (lv_at hl 2 rfl) ?_
  refine lv_iconst (v := (0 : Int32)) hx hb dX9_splice_12 (by decide) ?_
  refine lv_sipush (v := (500 : Int32)) hx hb dX9_splice_13 (by decide) ?_
  rcases bX_ex hD with z2 | ⟨u_, z2, hD⟩
  · exact rcX (As := [.int x2, .int (0 : Int32), .int (500 : Int32)]) (rest := []) Fx0 (x_X9_requireRange l hst x2 (0 : Int32) (500 : Int32) z2) hP (hD1 _ (hAd _ _ _ _)) hS (hA1 _ _ (hAd _ _ _ _) hS.1) hlocks hex tw_5_211 tw_5_209 tw_5_210 tw_1_1 yd_X9_requireRange ⟨⟨(Nat.le_of_ble_eq_true rfl), (Nat.le_of_ble_eq_true rfl)⟩, by decide, by decide⟩ rfl hl.1 rfl (Nat.le_of_ble_eq_true rfl) dX9_splice_16
  refine rcS (As := [.int x2, .int (0 : Int32), .int (500 : Int32)]) (rest := []) Fx0 (c_X9_requireRange l x2 (0 : Int32) (500 : Int32) z2) hP (hD1 _ (hAd _ _ _ _)) hS (hA1 _ _ (hAd _ _ _ _) hS.1) tw_5_211 tw_5_209 tw_5_210 tw_1_1 yd_X9_requireRange ⟨(Nat.le_of_ble_eq_true rfl), (Nat.le_of_ble_eq_true rfl)⟩ rfl hl.1 rfl (Nat.le_of_ble_eq_true rfl) dX9_splice_16 (fun H locs hP hS => ?_)
  exact lif_no hD

noncomputable def D_X9_takeReel (x1 : Int32) (h : MM) (m : MM) : Option (Nat ⊕ (Int32 × MM)) := bX (D_X9_requireIndex x1 (gi m 24 6)) (fun _ => lif (if x1 < 0 ∨ 10 ≤ x1.toNatClampNeg then none else (if (gi m (4 + x1.toNatClampNeg) 4) = 0 then (some ((-1 : Int32), m)) else (b2 (D_X2_removeLastReel (4 + x1.toNatClampNeg) m) (fun v4 m5 => bnd ((gi m5 (4 + x1.toNatClampNeg) 0)) (fun v7 => if v7 < 0 ∨ 8 ≤ v7.toNatClampNeg then none else (if v7 < 0 ∨ 8 ≤ v7.toNatClampNeg then none else (bnd (si m5 34 v7.toNatClampNeg ((gi m5 34 v7.toNatClampNeg) + v4)) (fun m10 => some (v4, m10))))))))))
set_option maxHeartbeats 4000000 in
set_option maxRecDepth 100000 in
theorem c_X9_takeReel (l : Launch) {D : va_G} {cs : Nat → ClassId} {adh ad ma : Nat → Nat} {Wf : MM → MM → va_W} (hLh : ∀ m : MM, Ln 8 adh (hsh cs adh ma) (fun z => Wf z m)) (hL : ∀ h : MM, Ln 51 ad (msh cs ad) (fun z => Wf h z)) (hAd : ∀ a0_ b0_ a1_ b1_ : MM, (Wf a0_ a1_).map (fun q => q.1) = (Wf b0_ b1_).map (fun q => q.1)) (hm1 : ma 1 = ad 24) (h : MM) (m : MM) (x1 : Int32) {rr : Int32} {m' : MM} (hD : D_X9_takeReel x1 h m = some (.inr (rr, m'))) : Ct l yX9_takeReel cX9_takeReel 4 (some .int) 7 103 D cs [.ref (adh 0), .int x1] (Wf h m) (Wf h m') (some (.int rr)) := by
  refine Ct.ofW (by decide) (Nat.le_of_ble_eq_true rfl) (hAd _ _ _ _) ?_
  intro p e s m0 below meth c A Q ls args hx hb hr hml hlocks hown hts hK hP hD1 hSS hS hA1 hl hret
  have hT : ∀ w ∈ TBL, w.before args s = true := fun w h => hts w (List.mem_cons_of_mem _ h)
  have Fx0 : Fx p l m0 c cX9_takeReel 4 s args yX9_takeReel cX9_takeReel 4 (some .int) D cs A := ⟨hx, hb, hml, hown, hts, hK, hSS⟩
  have hown : s.vm.findClass RX9 = some m0.cls := hown
  have hl : lv_has ls 4 [(0, .ref (adh 0)), (1, .int x1)] := hl
  unfold D_X9_takeReel at hD
  refine lv_iload_n hx hb dX9_takeReel_0 rfl (lv_at hl 1 rfl) ?_
  refine lv_aload_n hx hb dX9_takeReel_1 rfl (lv_at hl 0 rfl) ?_
  refine rg (Wf := fun z => Wf z m) (mm := h) hx hb hT hu9 hown hK hP (hLh m) 0 3 (Nat.le_of_ble_eq_true rfl) (hs0 _ _) rfl (Nat.le_of_ble_eq_true rfl) (Fx0.T tw_3_4) rfl (v := .ref (ad 24)) (congrArg (fun z => some (Value.ref z)) hm1) dX9_takeReel_2 ?_
  refine rgN (Wf := fun z => Wf h z) (mm := m) hx hb hT hu6 hown hK hP (hL h) 24 6 (Nat.le_of_ble_eq_true rfl) (ms24 _ _) rfl (Nat.le_of_ble_eq_true rfl) tw_2_96 rfl (v := .int (gi m 24 6)) rfl dX9_takeReel_5 ?_
  obtain ⟨u_, z1, hD⟩ := bX_el hD
  refine rcS (As := [.int x1, .int (gi m 24 6)]) (rest := []) Fx0 (c_X9_requireIndex l x1 (gi m 24 6) z1) hP (hD1 _ (hAd _ _ _ _)) hS (hA1 _ _ (hAd _ _ _ _) hS.1) tw_5_96 tw_5_94 tw_5_95 tw_1_1 yd_X9_requireIndex ⟨(Nat.le_of_ble_eq_true rfl), (Nat.le_of_ble_eq_true rfl)⟩ rfl hl.1 rfl (Nat.le_of_ble_eq_true rfl) dX9_takeReel_8 (fun H locs hP hS => ?_)
  have hD := lif_el hD
  refine lv_aload_n hx hb dX9_takeReel_11 rfl (lv_at hl 0 rfl) ?_
  refine rg (Wf := fun z => Wf z m) (mm := h) hx hb hT hu9 hown hK hP (hLh m) 0 3 (Nat.le_of_ble_eq_true rfl) (hs0 _ _) rfl (Nat.le_of_ble_eq_true rfl) (Fx0.T tw_3_4) rfl (v := .ref (ad 24)) (congrArg (fun z => some (Value.ref z)) hm1) dX9_takeReel_12 ?_
  refine rgN (Wf := fun z => Wf h z) (mm := m) hx hb hT hu6 hown hK hP (hL h) 24 7 (Nat.le_of_ble_eq_true rfl) (ms24 _ _) rfl (Nat.le_of_ble_eq_true rfl) tw_2_102 rfl (v := .ref (ad 35)) rfl dX9_takeReel_15 ?_
  refine lv_iload_n hx hb dX9_takeReel_18 rfl (lv_at hl 1 rfl) ?_
  obtain ⟨h2, hD⟩ := gd_el hD
  have hq3a : 4 ≤ 4 + x1.toNatClampNeg := Nat.le_add_right _ _
  have hq3b : 4 + x1.toNatClampNeg < 14 := Nat.add_lt_add_left (Nat.lt_of_not_le (fun z => h2 (Or.inr z))) 4
  refine raald (Wf := fun z => Wf h z) (mm := m) hx hb hK hP (hL h) 35 5 (Nat.le_of_ble_eq_true rfl) (ms35 _ _) rfl h2 rfl dX9_takeReel_19 ?_
  refine lv_astore_n (lv' := [(2, .ref (ad (4 + x1.toNatClampNeg))), (0, .ref (adh 0)), (1, .int x1)]) hx hb dX9_takeReel_20 rfl hl (by decide) rfl (fun ls hl => ?_)
  refine lv_aload_n hx hb dX9_takeReel_21 rfl (lv_at hl 0 rfl) ?_
  refine rgN (Wf := fun z => Wf h z) (mm := m) hx hb hT hu2 hown hK hP (hL h) (4 + x1.toNatClampNeg) 4 (Nat.lt_of_lt_of_le hq3b (Nat.le_of_ble_eq_true rfl)) ((mfe hq3a hq3b) _ _) rfl (Nat.le_of_ble_eq_true rfl) tw_2_12 rfl (v := .int (gi m (4 + x1.toNatClampNeg) 4)) rfl dX9_takeReel_22 ?_
  refine lv_if_ne (tgt := 30) hx hb dX9_takeReel_25 (by decide) (fun c => ?_) (fun c => ?_)
  · have hD := ifn hD c
    refine lv_aload_n hx hb dX9_takeReel_30 rfl (lv_at hl 0 rfl) ?_
    obtain ⟨v4, m5, z6, hD⟩ := b2_el hD
    refine rcVN (Wf := fun z => Wf h z) (mm := m) (As := []) (rest := []) Fx0 (c_X2_removeLastReel l (Wf := fun z0_ => Wf h z0_) (hL h) (fun a0_ b0_ => hAd h h a0_ b0_) m (4 + x1.toNatClampNeg) hq3a hq3b z6) hP (hD1 _ (hAd _ _ _ _)) hS (hA1 _ _ (hAd _ _ _ _) hS.1) (hL h) (Nat.lt_of_lt_of_le hq3b (Nat.le_of_ble_eq_true rfl)) ((mfe hq3a hq3b) _ _) rfl tw_5_225 tw_5_222 tw_5_224 ts_58 tw_1_7 yd_X2_removeLastReel ⟨(Nat.le_of_ble_eq_true rfl), (Nat.le_of_ble_eq_true rfl)⟩ rfl hl.1 rfl (Nat.le_of_ble_eq_true rfl) dX9_takeReel_31 (fun H locs hP hS => ?_)
    refine lv_istore_n (lv' := [(3, .int v4), (2, .ref (ad (4 + x1.toNatClampNeg))), (0, .ref (adh 0)), (1, .int x1)]) hx hb dX9_takeReel_34 rfl hl (by decide) rfl (fun ls hl => ?_)
    refine lv_aload_n hx hb dX9_takeReel_35 rfl (lv_at hl 2 rfl) ?_
    refine rg (Wf := fun z => Wf z m5) (mm := h) hx hb hT hu9 hown hK hP (hLh m5) 0 3 (Nat.le_of_ble_eq_true rfl) (hs0 _ _) rfl (Nat.le_of_ble_eq_true rfl) (Fx0.T tw_3_4) rfl (v := .ref (ad 24)) (congrArg (fun z => some (Value.ref z)) hm1) dX9_takeReel_36 ?_
    refine rgN (Wf := fun z => Wf h z) (mm := m5) hx hb hT hu6 hown hK hP (hL h) 24 5 (Nat.le_of_ble_eq_true rfl) (ms24 _ _) rfl (Nat.le_of_ble_eq_true rfl) tw_2_92 rfl (v := .ref (ad 28)) rfl dX9_takeReel_39 ?_
    refine rgN (Wf := fun z => Wf h z) (mm := m5) hx hb hT hu5 hown hK hP (hL h) 28 6 (Nat.le_of_ble_eq_true rfl) (ms28 _ _) rfl (Nat.le_of_ble_eq_true rfl) tw_1_69 rfl (v := .ref (ad 34)) rfl dX9_takeReel_42 ?_
    refine lv_aload_n hx hb dX9_takeReel_45 rfl (lv_at hl 1 rfl) ?_
    refine rgN (Wf := fun z => Wf h z) (mm := m5) hx hb hT hu2 hown hK hP (hL h) (4 + x1.toNatClampNeg) 0 (Nat.lt_of_lt_of_le hq3b (Nat.le_of_ble_eq_true rfl)) ((mfe hq3a hq3b) _ _) rfl (Nat.le_of_ble_eq_true rfl) tw_2_0 rfl (v := .int (gi m5 (4 + x1.toNatClampNeg) 0)) rfl dX9_takeReel_46 ?_
    obtain ⟨v7, ev7, hD⟩ := bnd_el hD
    refine lv_nmi ev7 ?_
    refine lv_dup2_11 hx hb dX9_takeReel_49 rfl rfl ?_
    obtain ⟨h8, hD⟩ := gd_el hD
    refine riald (Wf := fun z => Wf h z) (mm := m5) hx hb hK hP (hL h) 34 (Nat.le_of_ble_eq_true rfl) (ms34 _ _) h8 rfl dX9_takeReel_50 ?_
    refine lv_iload_n hx hb dX9_takeReel_51 rfl (lv_at hl 0 rfl) ?_
    refine lv_iadd hx hb dX9_takeReel_52 ?_
    obtain ⟨h9, hD⟩ := gd_el hD
    obtain ⟨m10, em10, hD⟩ := bnd_el hD
    refine riast (Wf := fun z => Wf h z) (mm := m5) hx hb hK hP (hD1 _ (hAd _ _ _ _)) hS (hL h) 34 (Nat.le_of_ble_eq_true rfl) (fun _ => ms34 _ _) h9 rfl dX9_takeReel_53 em10 (fun H locs hP hS => ?_)
    refine lv_iload_n hx hb dX9_takeReel_54 rfl (lv_at hl 0 rfl) ?_
    obtain ⟨rfl, rfl⟩ := es2 hD
    exact hret _ _ _ hP hS (fun Qc hq => W.iret hx hb hr hq hS.2.2 dX9_takeReel_55 hlocks)
  · have hD := ifp hD c
    refine lv_iconst (v := (-1 : Int32)) hx hb dX9_takeReel_28 (by decide) ?_
    obtain ⟨rfl, rfl⟩ := es2 hD
    exact hret _ _ _ hP hS (fun Qc hq => W.iret hx hb hr hq hS.2.2 dX9_takeReel_29 hlocks)
set_option maxHeartbeats 4000000 in
set_option maxRecDepth 100000 in
theorem x_X9_takeReel (l : Launch) (hst : l.stackTraces = false) {D : va_G} {cs : Nat → ClassId} {adh ad ma : Nat → Nat} {Wf : MM → MM → va_W} (hLh : ∀ m : MM, Ln 8 adh (hsh cs adh ma) (fun z => Wf z m)) (hL : ∀ h : MM, Ln 51 ad (msh cs ad) (fun z => Wf h z)) (hAd : ∀ a0_ b0_ a1_ b1_ : MM, (Wf a0_ a1_).map (fun q => q.1) = (Wf b0_ b1_).map (fun q => q.1)) (hm1 : ma 1 = ad 24) (h : MM) (m : MM) (x1 : Int32) {kx : Nat} (hD : D_X9_takeReel x1 h m = some (.inl kx)) : CtX l yX9_takeReel cX9_takeReel 4 (some .int) 7 103 D cs [.ref (adh 0), .int x1] (Wf h m) kx := by
  refine CtX.ofW (by decide) (Nat.le_of_ble_eq_true rfl) ?_
  intro p e s m0 below meth c A ls args hx hb hml hlocks hown hex hts hK hP hD1 hSS hS hA1 hl
  have hT : ∀ w ∈ TBL, w.before args s = true := fun w h => hts w (List.mem_cons_of_mem _ h)
  have Fx0 : Fx p l m0 c cX9_takeReel 4 s args yX9_takeReel cX9_takeReel 4 (some .int) D cs A := ⟨hx, hb, hml, hown, hts, hK, hSS⟩
  have hown : s.vm.findClass RX9 = some m0.cls := hown
  have hl : lv_has ls 4 [(0, .ref (adh 0)), (1, .int x1)] := hl
  unfold D_X9_takeReel at hD
  refine lv_iload_n hx hb dX9_takeReel_0 rfl (lv_at hl 1 rfl) ?_
  refine lv_aload_n hx hb dX9_takeReel_1 rfl (lv_at hl 0 rfl) ?_
  refine rg (Wf := fun z => Wf z m) (mm := h) hx hb hT hu9 hown hK hP (hLh m) 0 3 (Nat.le_of_ble_eq_true rfl) (hs0 _ _) rfl (Nat.le_of_ble_eq_true rfl) (Fx0.T tw_3_4) rfl (v := .ref (ad 24)) (congrArg (fun z => some (Value.ref z)) hm1) dX9_takeReel_2 ?_
  refine rgN (Wf := fun z => Wf h z) (mm := m) hx hb hT hu6 hown hK hP (hL h) 24 6 (Nat.le_of_ble_eq_true rfl) (ms24 _ _) rfl (Nat.le_of_ble_eq_true rfl) tw_2_96 rfl (v := .int (gi m 24 6)) rfl dX9_takeReel_5 ?_
  rcases bX_ex hD with z1 | ⟨u_, z1, hD⟩
  · exact rcX (As := [.int x1, .int (gi m 24 6)]) (rest := []) Fx0 (x_X9_requireIndex l hst x1 (gi m 24 6) z1) hP (hD1 _ (hAd _ _ _ _)) hS (hA1 _ _ (hAd _ _ _ _) hS.1) hlocks hex tw_5_96 tw_5_94 tw_5_95 tw_1_1 yd_X9_requireIndex ⟨⟨(Nat.le_of_ble_eq_true rfl), (Nat.le_of_ble_eq_true rfl)⟩, by decide, by decide⟩ rfl hl.1 rfl (Nat.le_of_ble_eq_true rfl) dX9_takeReel_8
  refine rcS (As := [.int x1, .int (gi m 24 6)]) (rest := []) Fx0 (c_X9_requireIndex l x1 (gi m 24 6) z1) hP (hD1 _ (hAd _ _ _ _)) hS (hA1 _ _ (hAd _ _ _ _) hS.1) tw_5_96 tw_5_94 tw_5_95 tw_1_1 yd_X9_requireIndex ⟨(Nat.le_of_ble_eq_true rfl), (Nat.le_of_ble_eq_true rfl)⟩ rfl hl.1 rfl (Nat.le_of_ble_eq_true rfl) dX9_takeReel_8 (fun H locs hP hS => ?_)
  exact lif_no hD

noncomputable def D_X9_setMiss (x1 : Int32) (x2 : Int32) (h : MM) (m : MM) : Option (Nat ⊕ (Int32 × MM)) := bX (D_X9_requireIndex x1 (gi m 24 6)) (fun _ => bX (D_X9_requireRange x2 (0 : Int32) (100 : Int32)) (fun _ => lif (if x1 < 0 ∨ 10 ≤ x1.toNatClampNeg then none else (bnd ((gi m (4 + x1.toNatClampNeg) 3)) (fun v5 => if x1 < 0 ∨ 10 ≤ x1.toNatClampNeg then none else (bnd (si m (4 + x1.toNatClampNeg) 3 x2) (fun m8 => some (v5, m8))))))))
noncomputable def D_X9_moveFeeder (x1 : Int32) (x2 : Int32) (h : MM) (m : MM) : Option (Nat ⊕ (Int32 × MM)) := bX (D_X9_requireIndex x1 (gi m 24 6)) (fun _ => bX (D_X9_requireRange x2 (0 : Int32) (999 : Int32)) (fun _ => lif (if x1 < 0 ∨ 10 ≤ x1.toNatClampNeg then none else (bnd ((gi m (4 + x1.toNatClampNeg) 1)) (fun v5 => if x1 < 0 ∨ 10 ≤ x1.toNatClampNeg then none else (bnd (si m (4 + x1.toNatClampNeg) 1 x2) (fun m8 => some (v5, m8))))))))
noncomputable def D_X9_nearestFeeder (x1 : Int32) (h : MM) (m : MM) : Option (Nat ⊕ Int32) := bX (D_X9_requireIndex x1 (gi m 28 0)) (fun _ => lif (b1 (D_X6_nearestWith x1 m) (fun v2 => some (v2))))
noncomputable def D_X9_spotValue (x1 : Int32) (x2 : Int32) (h : MM) (m : MM) : Option (Nat ⊕ Int32) := bX (D_X9_requireIndex x1 (gi m 36 0)) (fun _ => bX (D_X9_requireRange x2 (0 : Int32) (5 : Int32)) (fun _ => lif (b1 (D_X0_valueOf x1 x2 m) (fun v3 => some (v3)))))
set_option maxHeartbeats 4000000 in
set_option maxRecDepth 100000 in
theorem c_X9_spotValue (l : Launch) {D : va_G} {cs : Nat → ClassId} {adh ad ma : Nat → Nat} {Wf : MM → MM → va_W} (hLh : ∀ m : MM, Ln 8 adh (hsh cs adh ma) (fun z => Wf z m)) (hL : ∀ h : MM, Ln 51 ad (msh cs ad) (fun z => Wf h z)) (hAd : ∀ a0_ b0_ a1_ b1_ : MM, (Wf a0_ a1_).map (fun q => q.1) = (Wf b0_ b1_).map (fun q => q.1)) (hm1 : ma 1 = ad 24) (h : MM) (m : MM) (x1 : Int32) (x2 : Int32) {rr : Int32} (hD : D_X9_spotValue x1 x2 h m = some (.inr (rr))) : Ct l yX9_spotValue cX9_spotValue 3 (some .int) 7 104 D cs [.ref (adh 0), .int x1, .int x2] (Wf h m) (Wf h m) (some (.int rr)) := by
  refine Ct.ofW (by decide) (Nat.le_of_ble_eq_true rfl) rfl ?_
  intro p e s m0 below meth c A Q ls args hx hb hr hml hlocks hown hts hK hP hD1 hSS hS hA1 hl hret
  have hT : ∀ w ∈ TBL, w.before args s = true := fun w h => hts w (List.mem_cons_of_mem _ h)
  have Fx0 : Fx p l m0 c cX9_spotValue 3 s args yX9_spotValue cX9_spotValue 3 (some .int) D cs A := ⟨hx, hb, hml, hown, hts, hK, hSS⟩
  have hown : s.vm.findClass RX9 = some m0.cls := hown
  have hl : lv_has ls 3 [(0, .ref (adh 0)), (1, .int x1), (2, .int x2)] := hl
  unfold D_X9_spotValue at hD
  refine lv_iload_n hx hb dX9_spotValue_0 rfl (lv_at hl 1 rfl) ?_
  refine lv_aload_n hx hb dX9_spotValue_1 rfl (lv_at hl 0 rfl) ?_
  refine rg (Wf := fun z => Wf z m) (mm := h) hx hb hT hu9 hown hK hP (hLh m) 0 3 (Nat.le_of_ble_eq_true rfl) (hs0 _ _) rfl (Nat.le_of_ble_eq_true rfl) (Fx0.T tw_3_4) rfl (v := .ref (ad 24)) (congrArg (fun z => some (Value.ref z)) hm1) dX9_spotValue_2 ?_
  refine rgN (Wf := fun z => Wf h z) (mm := m) hx hb hT hu6 hown hK hP (hL h) 24 8 (Nat.le_of_ble_eq_true rfl) (ms24 _ _) rfl (Nat.le_of_ble_eq_true rfl) tw_2_105 rfl (v := .ref (ad 36)) rfl dX9_spotValue_5 ?_
  refine rgN (Wf := fun z => Wf h z) (mm := m) hx hb hT hu0 hown hK hP (hL h) 36 0 (Nat.le_of_ble_eq_true rfl) (ms36 _ _) rfl (Nat.le_of_ble_eq_true rfl) tw_1_96 rfl (v := .int (gi m 36 0)) rfl dX9_spotValue_8 ?_
  obtain ⟨u_, z1, hD⟩ := bX_el hD
  refine rcS (As := [.int x1, .int (gi m 36 0)]) (rest := []) Fx0 (c_X9_requireIndex l x1 (gi m 36 0) z1) hP (hD1 _ (hAd _ _ _ _)) hS (hA1 _ _ (hAd _ _ _ _) hS.1) tw_5_96 tw_5_94 tw_5_95 tw_1_1 yd_X9_requireIndex ⟨(Nat.le_of_ble_eq_true rfl), (Nat.le_of_ble_eq_true rfl)⟩ rfl hl.1 rfl (Nat.le_of_ble_eq_true rfl) dX9_spotValue_11 (fun H locs hP hS => ?_)
  refine lv_iload_n hx hb dX9_spotValue_14 rfl (lv_at hl 2 rfl) ?_
  refine lv_iconst (v := (0 : Int32)) hx hb dX9_spotValue_15 (by decide) ?_
  refine lv_iconst (v := (5 : Int32)) hx hb dX9_spotValue_16 (by decide) ?_
  obtain ⟨u_, z2, hD⟩ := bX_el hD
  refine rcS (As := [.int x2, .int (0 : Int32), .int (5 : Int32)]) (rest := []) Fx0 (c_X9_requireRange l x2 (0 : Int32) (5 : Int32) z2) hP (hD1 _ (hAd _ _ _ _)) hS (hA1 _ _ (hAd _ _ _ _) hS.1) tw_5_211 tw_5_209 tw_5_210 tw_1_1 yd_X9_requireRange ⟨(Nat.le_of_ble_eq_true rfl), (Nat.le_of_ble_eq_true rfl)⟩ rfl hl.1 rfl (Nat.le_of_ble_eq_true rfl) dX9_spotValue_17 (fun H locs hP hS => ?_)
  have hD := lif_el hD
  refine lv_aload_n hx hb dX9_spotValue_20 rfl (lv_at hl 0 rfl) ?_
  refine rg (Wf := fun z => Wf z m) (mm := h) hx hb hT hu9 hown hK hP (hLh m) 0 3 (Nat.le_of_ble_eq_true rfl) (hs0 _ _) rfl (Nat.le_of_ble_eq_true rfl) (Fx0.T tw_3_4) rfl (v := .ref (ad 24)) (congrArg (fun z => some (Value.ref z)) hm1) dX9_spotValue_21 ?_
  refine rgN (Wf := fun z => Wf h z) (mm := m) hx hb hT hu6 hown hK hP (hL h) 24 8 (Nat.le_of_ble_eq_true rfl) (ms24 _ _) rfl (Nat.le_of_ble_eq_true rfl) tw_2_105 rfl (v := .ref (ad 36)) rfl dX9_spotValue_24 ?_
  refine lv_iload_n hx hb dX9_spotValue_27 rfl (lv_at hl 1 rfl) ?_
  refine lv_iload_n hx hb dX9_spotValue_28 rfl (lv_at hl 2 rfl) ?_
  obtain ⟨v3, z4, hD⟩ := b1_el hD
  refine rcVN (Wf := fun z => Wf h z) (mm := m) (As := [.int x1, .int x2]) (rest := []) Fx0 (c_X0_valueOf l (Wf := fun z0_ => Wf h z0_) (hL h) (fun a0_ b0_ => hAd h h a0_ b0_) m x1 x2 z4) hP (hD1 _ (hAd _ _ _ _)) hS (hA1 _ _ (hAd _ _ _ _) hS.1) (hL h) (Nat.le_of_ble_eq_true rfl) (ms36 _ _) rfl tw_6_127 tw_6_124 tw_6_126 ts_75 tw_1_4 yd_X0_valueOf ⟨(Nat.le_of_ble_eq_true rfl), (Nat.le_of_ble_eq_true rfl)⟩ rfl hl.1 rfl (Nat.le_of_ble_eq_true rfl) dX9_spotValue_29 (fun H locs hP hS => ?_)
  obtain rfl := es1 hD
  exact hret _ _ _ hP hS (fun Qc hq => W.iret hx hb hr hq hS.2.2 dX9_spotValue_32 hlocks)
set_option maxHeartbeats 4000000 in
set_option maxRecDepth 100000 in
theorem x_X9_spotValue (l : Launch) (hst : l.stackTraces = false) {D : va_G} {cs : Nat → ClassId} {adh ad ma : Nat → Nat} {Wf : MM → MM → va_W} (hLh : ∀ m : MM, Ln 8 adh (hsh cs adh ma) (fun z => Wf z m)) (hL : ∀ h : MM, Ln 51 ad (msh cs ad) (fun z => Wf h z)) (hAd : ∀ a0_ b0_ a1_ b1_ : MM, (Wf a0_ a1_).map (fun q => q.1) = (Wf b0_ b1_).map (fun q => q.1)) (hm1 : ma 1 = ad 24) (h : MM) (m : MM) (x1 : Int32) (x2 : Int32) {kx : Nat} (hD : D_X9_spotValue x1 x2 h m = some (.inl kx)) : CtX l yX9_spotValue cX9_spotValue 3 (some .int) 7 104 D cs [.ref (adh 0), .int x1, .int x2] (Wf h m) kx := by
  refine CtX.ofW (by decide) (Nat.le_of_ble_eq_true rfl) ?_
  intro p e s m0 below meth c A ls args hx hb hml hlocks hown hex hts hK hP hD1 hSS hS hA1 hl
  have hT : ∀ w ∈ TBL, w.before args s = true := fun w h => hts w (List.mem_cons_of_mem _ h)
  have Fx0 : Fx p l m0 c cX9_spotValue 3 s args yX9_spotValue cX9_spotValue 3 (some .int) D cs A := ⟨hx, hb, hml, hown, hts, hK, hSS⟩
  have hown : s.vm.findClass RX9 = some m0.cls := hown
  have hl : lv_has ls 3 [(0, .ref (adh 0)), (1, .int x1), (2, .int x2)] := hl
  unfold D_X9_spotValue at hD
  refine lv_iload_n hx hb dX9_spotValue_0 rfl (lv_at hl 1 rfl) ?_
  refine lv_aload_n hx hb dX9_spotValue_1 rfl (lv_at hl 0 rfl) ?_
  refine rg (Wf := fun z => Wf z m) (mm := h) hx hb hT hu9 hown hK hP (hLh m) 0 3 (Nat.le_of_ble_eq_true rfl) (hs0 _ _) rfl (Nat.le_of_ble_eq_true rfl) (Fx0.T tw_3_4) rfl (v := .ref (ad 24)) (congrArg (fun z => some (Value.ref z)) hm1) dX9_spotValue_2 ?_
  refine rgN (Wf := fun z => Wf h z) (mm := m) hx hb hT hu6 hown hK hP (hL h) 24 8 (Nat.le_of_ble_eq_true rfl) (ms24 _ _) rfl (Nat.le_of_ble_eq_true rfl) tw_2_105 rfl (v := .ref (ad 36)) rfl dX9_spotValue_5 ?_
  refine rgN (Wf := fun z => Wf h z) (mm := m) hx hb hT hu0 hown hK hP (hL h) 36 0 (Nat.le_of_ble_eq_true rfl) (ms36 _ _) rfl (Nat.le_of_ble_eq_true rfl) tw_1_96 rfl (v := .int (gi m 36 0)) rfl dX9_spotValue_8 ?_
  rcases bX_ex hD with z1 | ⟨u_, z1, hD⟩
  · exact rcX (As := [.int x1, .int (gi m 36 0)]) (rest := []) Fx0 (x_X9_requireIndex l hst x1 (gi m 36 0) z1) hP (hD1 _ (hAd _ _ _ _)) hS (hA1 _ _ (hAd _ _ _ _) hS.1) hlocks hex tw_5_96 tw_5_94 tw_5_95 tw_1_1 yd_X9_requireIndex ⟨⟨(Nat.le_of_ble_eq_true rfl), (Nat.le_of_ble_eq_true rfl)⟩, by decide, by decide⟩ rfl hl.1 rfl (Nat.le_of_ble_eq_true rfl) dX9_spotValue_11
  refine rcS (As := [.int x1, .int (gi m 36 0)]) (rest := []) Fx0 (c_X9_requireIndex l x1 (gi m 36 0) z1) hP (hD1 _ (hAd _ _ _ _)) hS (hA1 _ _ (hAd _ _ _ _) hS.1) tw_5_96 tw_5_94 tw_5_95 tw_1_1 yd_X9_requireIndex ⟨(Nat.le_of_ble_eq_true rfl), (Nat.le_of_ble_eq_true rfl)⟩ rfl hl.1 rfl (Nat.le_of_ble_eq_true rfl) dX9_spotValue_11 (fun H locs hP hS => ?_)
  refine lv_iload_n hx hb dX9_spotValue_14 rfl (lv_at hl 2 rfl) ?_
  refine lv_iconst (v := (0 : Int32)) hx hb dX9_spotValue_15 (by decide) ?_
  refine lv_iconst (v := (5 : Int32)) hx hb dX9_spotValue_16 (by decide) ?_
  rcases bX_ex hD with z2 | ⟨u_, z2, hD⟩
  · exact rcX (As := [.int x2, .int (0 : Int32), .int (5 : Int32)]) (rest := []) Fx0 (x_X9_requireRange l hst x2 (0 : Int32) (5 : Int32) z2) hP (hD1 _ (hAd _ _ _ _)) hS (hA1 _ _ (hAd _ _ _ _) hS.1) hlocks hex tw_5_211 tw_5_209 tw_5_210 tw_1_1 yd_X9_requireRange ⟨⟨(Nat.le_of_ble_eq_true rfl), (Nat.le_of_ble_eq_true rfl)⟩, by decide, by decide⟩ rfl hl.1 rfl (Nat.le_of_ble_eq_true rfl) dX9_spotValue_17
  refine rcS (As := [.int x2, .int (0 : Int32), .int (5 : Int32)]) (rest := []) Fx0 (c_X9_requireRange l x2 (0 : Int32) (5 : Int32) z2) hP (hD1 _ (hAd _ _ _ _)) hS (hA1 _ _ (hAd _ _ _ _) hS.1) tw_5_211 tw_5_209 tw_5_210 tw_1_1 yd_X9_requireRange ⟨(Nat.le_of_ble_eq_true rfl), (Nat.le_of_ble_eq_true rfl)⟩ rfl hl.1 rfl (Nat.le_of_ble_eq_true rfl) dX9_spotValue_17 (fun H locs hP hS => ?_)
  exact lif_no hD

noncomputable def D_X9_leaveOut (x1 : Int32) (x2 : Int32) (h : MM) (m : MM) : Option (Nat ⊕ (Int32 × MM)) := bX (D_X9_requireIndex x1 (gi m 36 0)) (fun _ => lif (if x2 = 0 then (b2 (D_X0_reopen x1 m) (fun v2 m3 => if v2 = 0 ∨ v2 = 1 then some (v2, m3) else none)) else (b2 (D_X0_close x1 m) (fun v6 m7 => if v6 = 0 ∨ v6 = 1 then some (v6, m7) else none))))
set_option maxHeartbeats 4000000 in
set_option maxRecDepth 100000 in
theorem c_X9_leaveOut (l : Launch) {D : va_G} {cs : Nat → ClassId} {adh ad ma : Nat → Nat} {Wf : MM → MM → va_W} (hLh : ∀ m : MM, Ln 8 adh (hsh cs adh ma) (fun z => Wf z m)) (hL : ∀ h : MM, Ln 51 ad (msh cs ad) (fun z => Wf h z)) (hAd : ∀ a0_ b0_ a1_ b1_ : MM, (Wf a0_ a1_).map (fun q => q.1) = (Wf b0_ b1_).map (fun q => q.1)) (hm1 : ma 1 = ad 24) (h : MM) (m : MM) (x1 : Int32) (x2 : Int32) {rr : Int32} {m' : MM} (hD : D_X9_leaveOut x1 x2 h m = some (.inr (rr, m'))) : Ct l yX9_leaveOut cX9_leaveOut 3 (some .boolean) 7 103 D cs [.ref (adh 0), .int x1, .int x2] (Wf h m) (Wf h m') (some (.int rr)) := by
  refine Ct.ofW (by decide) (Nat.le_of_ble_eq_true rfl) (hAd _ _ _ _) ?_
  intro p e s m0 below meth c A Q ls args hx hb hr hml hlocks hown hts hK hP hD1 hSS hS hA1 hl hret
  have hT : ∀ w ∈ TBL, w.before args s = true := fun w h => hts w (List.mem_cons_of_mem _ h)
  have Fx0 : Fx p l m0 c cX9_leaveOut 3 s args yX9_leaveOut cX9_leaveOut 3 (some .boolean) D cs A := ⟨hx, hb, hml, hown, hts, hK, hSS⟩
  have hown : s.vm.findClass RX9 = some m0.cls := hown
  have hl : lv_has ls 3 [(0, .ref (adh 0)), (1, .int x1), (2, .int x2)] := hl
  unfold D_X9_leaveOut at hD
  refine lv_iload_n hx hb dX9_leaveOut_0 rfl (lv_at hl 1 rfl) ?_
  refine lv_aload_n hx hb dX9_leaveOut_1 rfl (lv_at hl 0 rfl) ?_
  refine rg (Wf := fun z => Wf z m) (mm := h) hx hb hT hu9 hown hK hP (hLh m) 0 3 (Nat.le_of_ble_eq_true rfl) (hs0 _ _) rfl (Nat.le_of_ble_eq_true rfl) (Fx0.T tw_3_4) rfl (v := .ref (ad 24)) (congrArg (fun z => some (Value.ref z)) hm1) dX9_leaveOut_2 ?_
  refine rgN (Wf := fun z => Wf h z) (mm := m) hx hb hT hu6 hown hK hP (hL h) 24 8 (Nat.le_of_ble_eq_true rfl) (ms24 _ _) rfl (Nat.le_of_ble_eq_true rfl) tw_2_105 rfl (v := .ref (ad 36)) rfl dX9_leaveOut_5 ?_
  refine rgN (Wf := fun z => Wf h z) (mm := m) hx hb hT hu0 hown hK hP (hL h) 36 0 (Nat.le_of_ble_eq_true rfl) (ms36 _ _) rfl (Nat.le_of_ble_eq_true rfl) tw_1_96 rfl (v := .int (gi m 36 0)) rfl dX9_leaveOut_8 ?_
  obtain ⟨u_, z1, hD⟩ := bX_el hD
  refine rcS (As := [.int x1, .int (gi m 36 0)]) (rest := []) Fx0 (c_X9_requireIndex l x1 (gi m 36 0) z1) hP (hD1 _ (hAd _ _ _ _)) hS (hA1 _ _ (hAd _ _ _ _) hS.1) tw_5_96 tw_5_94 tw_5_95 tw_1_1 yd_X9_requireIndex ⟨(Nat.le_of_ble_eq_true rfl), (Nat.le_of_ble_eq_true rfl)⟩ rfl hl.1 rfl (Nat.le_of_ble_eq_true rfl) dX9_leaveOut_11 (fun H locs hP hS => ?_)
  have hD := lif_el hD
  refine lv_iload_n hx hb dX9_leaveOut_14 rfl (lv_at hl 2 rfl) ?_
  refine lv_if_eq (tgt := 32) hx hb dX9_leaveOut_15 (by decide) (fun c => ?_) (fun c => ?_)
  · have hD := ifp hD c
    refine lv_aload_n hx hb dX9_leaveOut_32 rfl (lv_at hl 0 rfl) ?_
    refine rg (Wf := fun z => Wf z m) (mm := h) hx hb hT hu9 hown hK hP (hLh m) 0 3 (Nat.le_of_ble_eq_true rfl) (hs0 _ _) rfl (Nat.le_of_ble_eq_true rfl) (Fx0.T tw_3_4) rfl (v := .ref (ad 24)) (congrArg (fun z => some (Value.ref z)) hm1) dX9_leaveOut_33 ?_
    refine rgN (Wf := fun z => Wf h z) (mm := m) hx hb hT hu6 hown hK hP (hL h) 24 8 (Nat.le_of_ble_eq_true rfl) (ms24 _ _) rfl (Nat.le_of_ble_eq_true rfl) tw_2_105 rfl (v := .ref (ad 36)) rfl dX9_leaveOut_36 ?_
    refine lv_iload_n hx hb dX9_leaveOut_39 rfl (lv_at hl 1 rfl) ?_
    obtain ⟨v2, m3, z4, hD⟩ := b2_el hD
    refine rcVN (Wf := fun z => Wf h z) (mm := m) (As := [.int x1]) (rest := []) Fx0 (c_X0_reopen l (Wf := fun z0_ => Wf h z0_) (hL h) (fun a0_ b0_ => hAd h h a0_ b0_) m x1 z4) hP (hD1 _ (hAd _ _ _ _)) hS (hA1 _ _ (hAd _ _ _ _) hS.1) (hL h) (Nat.le_of_ble_eq_true rfl) (ms36 _ _) rfl tw_5_238 tw_5_235 tw_5_237 ts_60 tw_1_4 yd_X0_reopen ⟨(Nat.le_of_ble_eq_true rfl), (Nat.le_of_ble_eq_true rfl)⟩ rfl hl.1 rfl (Nat.le_of_ble_eq_true rfl) dX9_leaveOut_40 (fun H locs hP hS => ?_)
    obtain ⟨h5, hD⟩ := gb_el hD
    obtain ⟨rfl, rfl⟩ := es2 hD
    exact hret _ _ _ hP hS (fun Qc hq => W.zret hx hb hr (nbz h5).1 hq hS.2.2 dX9_leaveOut_43 hlocks)
  · have hD := ifn hD c
    refine lv_aload_n hx hb dX9_leaveOut_18 rfl (lv_at hl 0 rfl) ?_
    refine rg (Wf := fun z => Wf z m) (mm := h) hx hb hT hu9 hown hK hP (hLh m) 0 3 (Nat.le_of_ble_eq_true rfl) (hs0 _ _) rfl (Nat.le_of_ble_eq_true rfl) (Fx0.T tw_3_4) rfl (v := .ref (ad 24)) (congrArg (fun z => some (Value.ref z)) hm1) dX9_leaveOut_19 ?_
    refine rgN (Wf := fun z => Wf h z) (mm := m) hx hb hT hu6 hown hK hP (hL h) 24 8 (Nat.le_of_ble_eq_true rfl) (ms24 _ _) rfl (Nat.le_of_ble_eq_true rfl) tw_2_105 rfl (v := .ref (ad 36)) rfl dX9_leaveOut_22 ?_
    refine lv_iload_n hx hb dX9_leaveOut_25 rfl (lv_at hl 1 rfl) ?_
    obtain ⟨v6, m7, z8, hD⟩ := b2_el hD
    refine rcVN (Wf := fun z => Wf h z) (mm := m) (As := [.int x1]) (rest := []) Fx0 (c_X0_close l (Wf := fun z0_ => Wf h z0_) (hL h) (fun a0_ b0_ => hAd h h a0_ b0_) m x1 z8) hP (hD1 _ (hAd _ _ _ _)) hS (hA1 _ _ (hAd _ _ _ _) hS.1) (hL h) (Nat.le_of_ble_eq_true rfl) (ms36 _ _) rfl tw_5_233 tw_5_230 tw_5_232 ts_59 tw_1_4 yd_X0_close ⟨(Nat.le_of_ble_eq_true rfl), (Nat.le_of_ble_eq_true rfl)⟩ rfl hl.1 rfl (Nat.le_of_ble_eq_true rfl) dX9_leaveOut_26 (fun H locs hP hS => ?_)
    refine lv_goto (tgt := 43) hx hb dX9_leaveOut_29 (by decide) ?_
    obtain ⟨h9, hD⟩ := gb_el hD
    obtain ⟨rfl, rfl⟩ := es2 hD
    exact hret _ _ _ hP hS (fun Qc hq => W.zret hx hb hr (nbz h9).1 hq hS.2.2 dX9_leaveOut_43 hlocks)
set_option maxHeartbeats 4000000 in
set_option maxRecDepth 100000 in
theorem x_X9_leaveOut (l : Launch) (hst : l.stackTraces = false) {D : va_G} {cs : Nat → ClassId} {adh ad ma : Nat → Nat} {Wf : MM → MM → va_W} (hLh : ∀ m : MM, Ln 8 adh (hsh cs adh ma) (fun z => Wf z m)) (hL : ∀ h : MM, Ln 51 ad (msh cs ad) (fun z => Wf h z)) (hAd : ∀ a0_ b0_ a1_ b1_ : MM, (Wf a0_ a1_).map (fun q => q.1) = (Wf b0_ b1_).map (fun q => q.1)) (hm1 : ma 1 = ad 24) (h : MM) (m : MM) (x1 : Int32) (x2 : Int32) {kx : Nat} (hD : D_X9_leaveOut x1 x2 h m = some (.inl kx)) : CtX l yX9_leaveOut cX9_leaveOut 3 (some .boolean) 7 103 D cs [.ref (adh 0), .int x1, .int x2] (Wf h m) kx := by
  refine CtX.ofW (by decide) (Nat.le_of_ble_eq_true rfl) ?_
  intro p e s m0 below meth c A ls args hx hb hml hlocks hown hex hts hK hP hD1 hSS hS hA1 hl
  have hT : ∀ w ∈ TBL, w.before args s = true := fun w h => hts w (List.mem_cons_of_mem _ h)
  have Fx0 : Fx p l m0 c cX9_leaveOut 3 s args yX9_leaveOut cX9_leaveOut 3 (some .boolean) D cs A := ⟨hx, hb, hml, hown, hts, hK, hSS⟩
  have hown : s.vm.findClass RX9 = some m0.cls := hown
  have hl : lv_has ls 3 [(0, .ref (adh 0)), (1, .int x1), (2, .int x2)] := hl
  unfold D_X9_leaveOut at hD
  refine lv_iload_n hx hb dX9_leaveOut_0 rfl (lv_at hl 1 rfl) ?_
  refine lv_aload_n hx hb dX9_leaveOut_1 rfl (lv_at hl 0 rfl) ?_
  refine rg (Wf := fun z => Wf z m) (mm := h) hx hb hT hu9 hown hK hP (hLh m) 0 3 (Nat.le_of_ble_eq_true rfl) (hs0 _ _) rfl (Nat.le_of_ble_eq_true rfl) (Fx0.T tw_3_4) rfl (v := .ref (ad 24)) (congrArg (fun z => some (Value.ref z)) hm1) dX9_leaveOut_2 ?_
  refine rgN (Wf := fun z => Wf h z) (mm := m) hx hb hT hu6 hown hK hP (hL h) 24 8 (Nat.le_of_ble_eq_true rfl) (ms24 _ _) rfl (Nat.le_of_ble_eq_true rfl) tw_2_105 rfl (v := .ref (ad 36)) rfl dX9_leaveOut_5 ?_
  refine rgN (Wf := fun z => Wf h z) (mm := m) hx hb hT hu0 hown hK hP (hL h) 36 0 (Nat.le_of_ble_eq_true rfl) (ms36 _ _) rfl (Nat.le_of_ble_eq_true rfl) tw_1_96 rfl (v := .int (gi m 36 0)) rfl dX9_leaveOut_8 ?_
  rcases bX_ex hD with z1 | ⟨u_, z1, hD⟩
  · exact rcX (As := [.int x1, .int (gi m 36 0)]) (rest := []) Fx0 (x_X9_requireIndex l hst x1 (gi m 36 0) z1) hP (hD1 _ (hAd _ _ _ _)) hS (hA1 _ _ (hAd _ _ _ _) hS.1) hlocks hex tw_5_96 tw_5_94 tw_5_95 tw_1_1 yd_X9_requireIndex ⟨⟨(Nat.le_of_ble_eq_true rfl), (Nat.le_of_ble_eq_true rfl)⟩, by decide, by decide⟩ rfl hl.1 rfl (Nat.le_of_ble_eq_true rfl) dX9_leaveOut_11
  refine rcS (As := [.int x1, .int (gi m 36 0)]) (rest := []) Fx0 (c_X9_requireIndex l x1 (gi m 36 0) z1) hP (hD1 _ (hAd _ _ _ _)) hS (hA1 _ _ (hAd _ _ _ _) hS.1) tw_5_96 tw_5_94 tw_5_95 tw_1_1 yd_X9_requireIndex ⟨(Nat.le_of_ble_eq_true rfl), (Nat.le_of_ble_eq_true rfl)⟩ rfl hl.1 rfl (Nat.le_of_ble_eq_true rfl) dX9_leaveOut_11 (fun H locs hP hS => ?_)
  exact lif_no hD

noncomputable def D_X9_openSpots (x1 : Int32) (h : MM) (m : MM) : Option (Nat ⊕ Int32) := bX (D_X9_requireIndex x1 (gi m 28 0)) (fun _ => lif (b1 (D_X0_openOf x1 m) (fun v2 => some (v2))))
noncomputable def D_X9_addBefore (x1 : Int32) (x2 : Int32) (h : MM) (m : MM) : Option (Nat ⊕ (Int32 × MM)) := bX (D_X9_requireIndex x1 (gi m 36 0)) (fun _ => bX (D_X9_requireIndex x2 (gi m 36 0)) (fun _ => lif (b1 (D_X0_wouldCircle x1 x2 m) (fun v3 => if v3 = 0 then (b1 (D_X0_pairIndex x1 x2 m) (fun v5 => if v5 = (-1 : Int32) then (if (gi m 36 9) < (20 : Int32) then (b1 (D_X0_addPair x1 x2 m) (fun m7 => some ((gi m7 36 9), m7))) else (some ((-2 : Int32), m))) else (some ((gi m 36 9), m)))) else (some ((-7 : Int32), m))))))
noncomputable def D_X9_dropBefore (x1 : Int32) (x2 : Int32) (h : MM) (m : MM) : Option (Nat ⊕ (Int32 × MM)) := bX (D_X9_requireIndex x1 (gi m 36 0)) (fun _ => bX (D_X9_requireIndex x2 (gi m 36 0)) (fun _ => lif (b1 (D_X0_pairIndex x1 x2 m) (fun v3 => if v3 = (-1 : Int32) then (some ((0 : Int32), m)) else (b1 (D_X0_removePair v3 m) (fun m5 => some ((1 : Int32), m5)))))))
noncomputable def D_X9_blockedBy (x1 : Int32) (h : MM) (m : MM) : Option (Nat ⊕ Int64) := bX (D_X9_requireIndex x1 (gi m 36 0)) (fun _ => lif (b1 (D_X0_firstsOf ((1 : Int64) <<< (x1.toInt64 &&& 63)) m) (fun v2 => some ((v2 &&& (gl m 36 7))))))
set_option maxHeartbeats 4000000 in
set_option maxRecDepth 100000 in
theorem c_X9_blockedBy (l : Launch) {D : va_G} {cs : Nat → ClassId} {adh ad ma : Nat → Nat} {Wf : MM → MM → va_W} (hLh : ∀ m : MM, Ln 8 adh (hsh cs adh ma) (fun z => Wf z m)) (hL : ∀ h : MM, Ln 51 ad (msh cs ad) (fun z => Wf h z)) (hAd : ∀ a0_ b0_ a1_ b1_ : MM, (Wf a0_ a1_).map (fun q => q.1) = (Wf b0_ b1_).map (fun q => q.1)) (hm1 : ma 1 = ad 24) (h : MM) (m : MM) (x1 : Int32) {rr : Int64} (hD : D_X9_blockedBy x1 h m = some (.inr (rr))) : Ct l yX9_blockedBy cX9_blockedBy 2 (some .long) 7 103 D cs [.ref (adh 0), .int x1] (Wf h m) (Wf h m) (some (.long rr)) := by
  refine Ct.ofW (by decide) (Nat.le_of_ble_eq_true rfl) rfl ?_
  intro p e s m0 below meth c A Q ls args hx hb hr hml hlocks hown hts hK hP hD1 hSS hS hA1 hl hret
  have hT : ∀ w ∈ TBL, w.before args s = true := fun w h => hts w (List.mem_cons_of_mem _ h)
  have Fx0 : Fx p l m0 c cX9_blockedBy 2 s args yX9_blockedBy cX9_blockedBy 2 (some .long) D cs A := ⟨hx, hb, hml, hown, hts, hK, hSS⟩
  have hown : s.vm.findClass RX9 = some m0.cls := hown
  have hl : lv_has ls 2 [(0, .ref (adh 0)), (1, .int x1)] := hl
  unfold D_X9_blockedBy at hD
  refine lv_iload_n hx hb dX9_blockedBy_0 rfl (lv_at hl 1 rfl) ?_
  refine lv_aload_n hx hb dX9_blockedBy_1 rfl (lv_at hl 0 rfl) ?_
  refine rg (Wf := fun z => Wf z m) (mm := h) hx hb hT hu9 hown hK hP (hLh m) 0 3 (Nat.le_of_ble_eq_true rfl) (hs0 _ _) rfl (Nat.le_of_ble_eq_true rfl) (Fx0.T tw_3_4) rfl (v := .ref (ad 24)) (congrArg (fun z => some (Value.ref z)) hm1) dX9_blockedBy_2 ?_
  refine rgN (Wf := fun z => Wf h z) (mm := m) hx hb hT hu6 hown hK hP (hL h) 24 8 (Nat.le_of_ble_eq_true rfl) (ms24 _ _) rfl (Nat.le_of_ble_eq_true rfl) tw_2_105 rfl (v := .ref (ad 36)) rfl dX9_blockedBy_5 ?_
  refine rgN (Wf := fun z => Wf h z) (mm := m) hx hb hT hu0 hown hK hP (hL h) 36 0 (Nat.le_of_ble_eq_true rfl) (ms36 _ _) rfl (Nat.le_of_ble_eq_true rfl) tw_1_96 rfl (v := .int (gi m 36 0)) rfl dX9_blockedBy_8 ?_
  obtain ⟨u_, z1, hD⟩ := bX_el hD
  refine rcS (As := [.int x1, .int (gi m 36 0)]) (rest := []) Fx0 (c_X9_requireIndex l x1 (gi m 36 0) z1) hP (hD1 _ (hAd _ _ _ _)) hS (hA1 _ _ (hAd _ _ _ _) hS.1) tw_5_96 tw_5_94 tw_5_95 tw_1_1 yd_X9_requireIndex ⟨(Nat.le_of_ble_eq_true rfl), (Nat.le_of_ble_eq_true rfl)⟩ rfl hl.1 rfl (Nat.le_of_ble_eq_true rfl) dX9_blockedBy_11 (fun H locs hP hS => ?_)
  have hD := lif_el hD
  refine lv_aload_n hx hb dX9_blockedBy_14 rfl (lv_at hl 0 rfl) ?_
  refine rg (Wf := fun z => Wf z m) (mm := h) hx hb hT hu9 hown hK hP (hLh m) 0 3 (Nat.le_of_ble_eq_true rfl) (hs0 _ _) rfl (Nat.le_of_ble_eq_true rfl) (Fx0.T tw_3_4) rfl (v := .ref (ad 24)) (congrArg (fun z => some (Value.ref z)) hm1) dX9_blockedBy_15 ?_
  refine rgN (Wf := fun z => Wf h z) (mm := m) hx hb hT hu6 hown hK hP (hL h) 24 8 (Nat.le_of_ble_eq_true rfl) (ms24 _ _) rfl (Nat.le_of_ble_eq_true rfl) tw_2_105 rfl (v := .ref (ad 36)) rfl dX9_blockedBy_18 ?_
  refine lv_lconst (v := (1 : Int64)) hx hb dX9_blockedBy_21 (by decide) ?_
  refine lv_iload_n hx hb dX9_blockedBy_22 rfl (lv_at hl 1 rfl) ?_
  refine lv_lshl (v := ((1 : Int64) <<< (x1.toInt64 &&& 63))) hx hb dX9_blockedBy_23 rfl ?_
  obtain ⟨v2, z3, hD⟩ := b1_el hD
  refine rcVN (Wf := fun z => Wf h z) (mm := m) (As := [.long ((1 : Int64) <<< (x1.toInt64 &&& 63))]) (rest := []) Fx0 (c_X0_firstsOf l (Wf := fun z0_ => Wf h z0_) (hL h) (fun a0_ b0_ => hAd h h a0_ b0_) m ((1 : Int64) <<< (x1.toInt64 &&& 63)) z3) hP (hD1 _ (hAd _ _ _ _)) hS (hA1 _ _ (hAd _ _ _ _) hS.1) (hL h) (Nat.le_of_ble_eq_true rfl) (ms36 _ _) rfl tw_3_230 tw_5_196 tw_3_229 ts_32 tw_1_4 yd_X0_firstsOf ⟨(Nat.le_of_ble_eq_true rfl), (Nat.le_of_ble_eq_true rfl)⟩ rfl hl.1 rfl (Nat.le_of_ble_eq_true rfl) dX9_blockedBy_24 (fun H locs hP hS => ?_)
  refine lv_aload_n hx hb dX9_blockedBy_27 rfl (lv_at hl 0 rfl) ?_
  refine rg (Wf := fun z => Wf z m) (mm := h) hx hb hT hu9 hown hK hP (hLh m) 0 3 (Nat.le_of_ble_eq_true rfl) (hs0 _ _) rfl (Nat.le_of_ble_eq_true rfl) (Fx0.T tw_3_4) rfl (v := .ref (ad 24)) (congrArg (fun z => some (Value.ref z)) hm1) dX9_blockedBy_28 ?_
  refine rgN (Wf := fun z => Wf h z) (mm := m) hx hb hT hu6 hown hK hP (hL h) 24 8 (Nat.le_of_ble_eq_true rfl) (ms24 _ _) rfl (Nat.le_of_ble_eq_true rfl) tw_2_105 rfl (v := .ref (ad 36)) rfl dX9_blockedBy_31 ?_
  refine rgN (Wf := fun z => Wf h z) (mm := m) hx hb hT hu0 hown hK hP (hL h) 36 7 (Nat.le_of_ble_eq_true rfl) (ms36 _ _) rfl (Nat.le_of_ble_eq_true rfl) tw_1_112 rfl (v := .long (gl m 36 7)) rfl dX9_blockedBy_34 ?_
  refine lv_land hx hb dX9_blockedBy_37 ?_
  obtain rfl := es1 hD
  exact hret _ _ _ hP hS (fun Qc hq => W.lret hx hb hr hq hS.2.2 dX9_blockedBy_38 hlocks)
set_option maxHeartbeats 4000000 in
set_option maxRecDepth 100000 in
theorem x_X9_blockedBy (l : Launch) (hst : l.stackTraces = false) {D : va_G} {cs : Nat → ClassId} {adh ad ma : Nat → Nat} {Wf : MM → MM → va_W} (hLh : ∀ m : MM, Ln 8 adh (hsh cs adh ma) (fun z => Wf z m)) (hL : ∀ h : MM, Ln 51 ad (msh cs ad) (fun z => Wf h z)) (hAd : ∀ a0_ b0_ a1_ b1_ : MM, (Wf a0_ a1_).map (fun q => q.1) = (Wf b0_ b1_).map (fun q => q.1)) (hm1 : ma 1 = ad 24) (h : MM) (m : MM) (x1 : Int32) {kx : Nat} (hD : D_X9_blockedBy x1 h m = some (.inl kx)) : CtX l yX9_blockedBy cX9_blockedBy 2 (some .long) 7 103 D cs [.ref (adh 0), .int x1] (Wf h m) kx := by
  refine CtX.ofW (by decide) (Nat.le_of_ble_eq_true rfl) ?_
  intro p e s m0 below meth c A ls args hx hb hml hlocks hown hex hts hK hP hD1 hSS hS hA1 hl
  have hT : ∀ w ∈ TBL, w.before args s = true := fun w h => hts w (List.mem_cons_of_mem _ h)
  have Fx0 : Fx p l m0 c cX9_blockedBy 2 s args yX9_blockedBy cX9_blockedBy 2 (some .long) D cs A := ⟨hx, hb, hml, hown, hts, hK, hSS⟩
  have hown : s.vm.findClass RX9 = some m0.cls := hown
  have hl : lv_has ls 2 [(0, .ref (adh 0)), (1, .int x1)] := hl
  unfold D_X9_blockedBy at hD
  refine lv_iload_n hx hb dX9_blockedBy_0 rfl (lv_at hl 1 rfl) ?_
  refine lv_aload_n hx hb dX9_blockedBy_1 rfl (lv_at hl 0 rfl) ?_
  refine rg (Wf := fun z => Wf z m) (mm := h) hx hb hT hu9 hown hK hP (hLh m) 0 3 (Nat.le_of_ble_eq_true rfl) (hs0 _ _) rfl (Nat.le_of_ble_eq_true rfl) (Fx0.T tw_3_4) rfl (v := .ref (ad 24)) (congrArg (fun z => some (Value.ref z)) hm1) dX9_blockedBy_2 ?_
  refine rgN (Wf := fun z => Wf h z) (mm := m) hx hb hT hu6 hown hK hP (hL h) 24 8 (Nat.le_of_ble_eq_true rfl) (ms24 _ _) rfl (Nat.le_of_ble_eq_true rfl) tw_2_105 rfl (v := .ref (ad 36)) rfl dX9_blockedBy_5 ?_
  refine rgN (Wf := fun z => Wf h z) (mm := m) hx hb hT hu0 hown hK hP (hL h) 36 0 (Nat.le_of_ble_eq_true rfl) (ms36 _ _) rfl (Nat.le_of_ble_eq_true rfl) tw_1_96 rfl (v := .int (gi m 36 0)) rfl dX9_blockedBy_8 ?_
  rcases bX_ex hD with z1 | ⟨u_, z1, hD⟩
  · exact rcX (As := [.int x1, .int (gi m 36 0)]) (rest := []) Fx0 (x_X9_requireIndex l hst x1 (gi m 36 0) z1) hP (hD1 _ (hAd _ _ _ _)) hS (hA1 _ _ (hAd _ _ _ _) hS.1) hlocks hex tw_5_96 tw_5_94 tw_5_95 tw_1_1 yd_X9_requireIndex ⟨⟨(Nat.le_of_ble_eq_true rfl), (Nat.le_of_ble_eq_true rfl)⟩, by decide, by decide⟩ rfl hl.1 rfl (Nat.le_of_ble_eq_true rfl) dX9_blockedBy_11
  refine rcS (As := [.int x1, .int (gi m 36 0)]) (rest := []) Fx0 (c_X9_requireIndex l x1 (gi m 36 0) z1) hP (hD1 _ (hAd _ _ _ _)) hS (hA1 _ _ (hAd _ _ _ _) hS.1) tw_5_96 tw_5_94 tw_5_95 tw_1_1 yd_X9_requireIndex ⟨(Nat.le_of_ble_eq_true rfl), (Nat.le_of_ble_eq_true rfl)⟩ rfl hl.1 rfl (Nat.le_of_ble_eq_true rfl) dX9_blockedBy_11 (fun H locs hP hS => ?_)
  exact lif_no hD

noncomputable def D_X9_chain (x1 : Int32) (h : MM) (m : MM) : Option (Nat ⊕ Int32) := bX (D_X9_requireIndex x1 (gi m 36 0)) (fun _ => lif (b1 (D_X0_longestChain x1 m) (fun v2 => some (v2))))
noncomputable def D_X9_changeNozzle (x1 : Int32) (x2 : Int32) (h : MM) (m : MM) : Option (Nat ⊕ (Int32 × MM)) := bX (D_X9_requireIndex x1 (gi m 24 1)) (fun _ => bX (D_X9_requireIndex x2 (gi m 24 3)) (fun _ => lif (if x1 < 0 ∨ 4 ≤ x1.toNatClampNeg then none else (if (gi m x1.toNatClampNeg 1) = (-1 : Int32) then (if (gi m x1.toNatClampNeg 0) = x2 then (some ((-5 : Int32), m)) else (if x2 < 0 ∨ 6 ≤ x2.toNatClampNeg then none else (if (gi m 27 x2.toNatClampNeg) = 0 then (some ((-4 : Int32), m)) else (b2 (D_X6_perform (1 : Int32) x1 x2 m) (fun v6 m7 => some (v6, m7)))))) else (some ((-3 : Int32), m))))))
set_option maxHeartbeats 4000000 in
set_option maxRecDepth 100000 in
theorem c_X9_changeNozzle (l : Launch) {D : va_G} {cs : Nat → ClassId} {adh ad ma : Nat → Nat} {Wf : MM → MM → va_W} (hLh : ∀ m : MM, Ln 8 adh (hsh cs adh ma) (fun z => Wf z m)) (hL : ∀ h : MM, Ln 51 ad (msh cs ad) (fun z => Wf h z)) (hAd : ∀ a0_ b0_ a1_ b1_ : MM, (Wf a0_ a1_).map (fun q => q.1) = (Wf b0_ b1_).map (fun q => q.1)) (hm1 : ma 1 = ad 24) (h : MM) (m : MM) (x1 : Int32) (x2 : Int32) {rr : Int32} {m' : MM} (hD : D_X9_changeNozzle x1 x2 h m = some (.inr (rr, m'))) : Ct l yX9_changeNozzle cX9_changeNozzle 4 (some .int) 7 135 D cs [.ref (adh 0), .int x1, .int x2] (Wf h m) (Wf h m') (some (.int rr)) := by
  refine Ct.ofW (by decide) (Nat.le_of_ble_eq_true rfl) (hAd _ _ _ _) ?_
  intro p e s m0 below meth c A Q ls args hx hb hr hml hlocks hown hts hK hP hD1 hSS hS hA1 hl hret
  have hT : ∀ w ∈ TBL, w.before args s = true := fun w h => hts w (List.mem_cons_of_mem _ h)
  have Fx0 : Fx p l m0 c cX9_changeNozzle 4 s args yX9_changeNozzle cX9_changeNozzle 4 (some .int) D cs A := ⟨hx, hb, hml, hown, hts, hK, hSS⟩
  have hown : s.vm.findClass RX9 = some m0.cls := hown
  have hl : lv_has ls 4 [(0, .ref (adh 0)), (1, .int x1), (2, .int x2)] := hl
  unfold D_X9_changeNozzle at hD
  refine lv_iload_n hx hb dX9_changeNozzle_0 rfl (lv_at hl 1 rfl) ?_
  refine lv_aload_n hx hb dX9_changeNozzle_1 rfl (lv_at hl 0 rfl) ?_
  refine rg (Wf := fun z => Wf z m) (mm := h) hx hb hT hu9 hown hK hP (hLh m) 0 3 (Nat.le_of_ble_eq_true rfl) (hs0 _ _) rfl (Nat.le_of_ble_eq_true rfl) (Fx0.T tw_3_4) rfl (v := .ref (ad 24)) (congrArg (fun z => some (Value.ref z)) hm1) dX9_changeNozzle_2 ?_
  refine rgN (Wf := fun z => Wf h z) (mm := m) hx hb hT hu6 hown hK hP (hL h) 24 1 (Nat.le_of_ble_eq_true rfl) (ms24 _ _) rfl (Nat.le_of_ble_eq_true rfl) tw_2_80 rfl (v := .int (gi m 24 1)) rfl dX9_changeNozzle_5 ?_
  obtain ⟨u_, z1, hD⟩ := bX_el hD
  refine rcS (As := [.int x1, .int (gi m 24 1)]) (rest := []) Fx0 (c_X9_requireIndex l x1 (gi m 24 1) z1) hP (hD1 _ (hAd _ _ _ _)) hS (hA1 _ _ (hAd _ _ _ _) hS.1) tw_5_96 tw_5_94 tw_5_95 tw_1_1 yd_X9_requireIndex ⟨(Nat.le_of_ble_eq_true rfl), (Nat.le_of_ble_eq_true rfl)⟩ rfl hl.1 rfl (Nat.le_of_ble_eq_true rfl) dX9_changeNozzle_8 (fun H locs hP hS => ?_)
  refine lv_iload_n hx hb dX9_changeNozzle_11 rfl (lv_at hl 2 rfl) ?_
  refine lv_aload_n hx hb dX9_changeNozzle_12 rfl (lv_at hl 0 rfl) ?_
  refine rg (Wf := fun z => Wf z m) (mm := h) hx hb hT hu9 hown hK hP (hLh m) 0 3 (Nat.le_of_ble_eq_true rfl) (hs0 _ _) rfl (Nat.le_of_ble_eq_true rfl) (Fx0.T tw_3_4) rfl (v := .ref (ad 24)) (congrArg (fun z => some (Value.ref z)) hm1) dX9_changeNozzle_13 ?_
  refine rgN (Wf := fun z => Wf h z) (mm := m) hx hb hT hu6 hown hK hP (hL h) 24 3 (Nat.le_of_ble_eq_true rfl) (ms24 _ _) rfl (Nat.le_of_ble_eq_true rfl) tw_2_86 rfl (v := .int (gi m 24 3)) rfl dX9_changeNozzle_16 ?_
  obtain ⟨u_, z2, hD⟩ := bX_el hD
  refine rcS (As := [.int x2, .int (gi m 24 3)]) (rest := []) Fx0 (c_X9_requireIndex l x2 (gi m 24 3) z2) hP (hD1 _ (hAd _ _ _ _)) hS (hA1 _ _ (hAd _ _ _ _) hS.1) tw_5_96 tw_5_94 tw_5_95 tw_1_1 yd_X9_requireIndex ⟨(Nat.le_of_ble_eq_true rfl), (Nat.le_of_ble_eq_true rfl)⟩ rfl hl.1 rfl (Nat.le_of_ble_eq_true rfl) dX9_changeNozzle_19 (fun H locs hP hS => ?_)
  have hD := lif_el hD
  refine lv_aload_n hx hb dX9_changeNozzle_22 rfl (lv_at hl 0 rfl) ?_
  refine rg (Wf := fun z => Wf z m) (mm := h) hx hb hT hu9 hown hK hP (hLh m) 0 3 (Nat.le_of_ble_eq_true rfl) (hs0 _ _) rfl (Nat.le_of_ble_eq_true rfl) (Fx0.T tw_3_4) rfl (v := .ref (ad 24)) (congrArg (fun z => some (Value.ref z)) hm1) dX9_changeNozzle_23 ?_
  refine rgN (Wf := fun z => Wf h z) (mm := m) hx hb hT hu6 hown hK hP (hL h) 24 2 (Nat.le_of_ble_eq_true rfl) (ms24 _ _) rfl (Nat.le_of_ble_eq_true rfl) tw_2_84 rfl (v := .ref (ad 26)) rfl dX9_changeNozzle_26 ?_
  refine lv_iload_n hx hb dX9_changeNozzle_29 rfl (lv_at hl 1 rfl) ?_
  obtain ⟨h3, hD⟩ := gd_el hD
  have hq4 : x1.toNatClampNeg < 4 := Nat.lt_of_not_le (fun z => h3 (Or.inr z))
  refine raald (Wf := fun z => Wf h z) (mm := m) hx hb hK hP (hL h) 26 4 (Nat.le_of_ble_eq_true rfl) (ms26 _ _) rfl h3 rfl dX9_changeNozzle_30 ?_
  refine lv_astore_n (lv' := [(3, .ref (ad x1.toNatClampNeg)), (0, .ref (adh 0)), (1, .int x1), (2, .int x2)]) hx hb dX9_changeNozzle_31 rfl hl (by decide) rfl (fun ls hl => ?_)
  refine lv_aload_n hx hb dX9_changeNozzle_32 rfl (lv_at hl 0 rfl) ?_
  refine rgN (Wf := fun z => Wf h z) (mm := m) hx hb hT hu8 hown hK hP (hL h) x1.toNatClampNeg 1 (Nat.lt_of_lt_of_le hq4 (Nat.le_of_ble_eq_true rfl)) ((msp hq4) _ _) rfl (Nat.le_of_ble_eq_true rfl) tw_1_200 rfl (v := .int (gi m x1.toNatClampNeg 1)) rfl dX9_changeNozzle_33 ?_
  refine lv_iconst (v := (-1 : Int32)) hx hb dX9_changeNozzle_36 (by decide) ?_
  refine lv_icmp_eq (tgt := 43) hx hb dX9_changeNozzle_37 (by decide) (fun c => ?_) (fun c => ?_)
  · have hD := ifp hD c
    refine lv_aload_n hx hb dX9_changeNozzle_43 rfl (lv_at hl 0 rfl) ?_
    refine rgN (Wf := fun z => Wf h z) (mm := m) hx hb hT hu8 hown hK hP (hL h) x1.toNatClampNeg 0 (Nat.lt_of_lt_of_le hq4 (Nat.le_of_ble_eq_true rfl)) ((msp hq4) _ _) rfl (Nat.le_of_ble_eq_true rfl) tw_1_196 rfl (v := .int (gi m x1.toNatClampNeg 0)) rfl dX9_changeNozzle_44 ?_
    refine lv_iload_n hx hb dX9_changeNozzle_47 rfl (lv_at hl 3 rfl) ?_
    refine lv_icmp_ne (tgt := 54) hx hb dX9_changeNozzle_48 (by decide) (fun c => ?_) (fun c => ?_)
    · have hD := ifn hD c
      refine lv_aload_n hx hb dX9_changeNozzle_54 rfl (lv_at hl 1 rfl) ?_
      refine rg (Wf := fun z => Wf z m) (mm := h) hx hb hT hu9 hown hK hP (hLh m) 0 3 (Nat.le_of_ble_eq_true rfl) (hs0 _ _) rfl (Nat.le_of_ble_eq_true rfl) (Fx0.T tw_3_4) rfl (v := .ref (ad 24)) (congrArg (fun z => some (Value.ref z)) hm1) dX9_changeNozzle_55 ?_
      refine rgN (Wf := fun z => Wf h z) (mm := m) hx hb hT hu6 hown hK hP (hL h) 24 4 (Nat.le_of_ble_eq_true rfl) (ms24 _ _) rfl (Nat.le_of_ble_eq_true rfl) tw_2_90 rfl (v := .ref (ad 27)) rfl dX9_changeNozzle_58 ?_
      refine lv_iload_n hx hb dX9_changeNozzle_61 rfl (lv_at hl 3 rfl) ?_
      obtain ⟨h5, hD⟩ := gd_el hD
      refine riald (Wf := fun z => Wf h z) (mm := m) hx hb hK hP (hL h) 27 (Nat.le_of_ble_eq_true rfl) (ms27 _ _) h5 rfl dX9_changeNozzle_62 ?_
      refine lv_if_ne (tgt := 69) hx hb dX9_changeNozzle_63 (by decide) (fun c => ?_) (fun c => ?_)
      · have hD := ifn hD c
        refine lv_aload_n hx hb dX9_changeNozzle_69 rfl (lv_at hl 1 rfl) ?_
        refine rg (Wf := fun z => Wf z m) (mm := h) hx hb hT hu9 hown hK hP (hLh m) 0 3 (Nat.le_of_ble_eq_true rfl) (hs0 _ _) rfl (Nat.le_of_ble_eq_true rfl) (Fx0.T tw_3_4) rfl (v := .ref (ad 24)) (congrArg (fun z => some (Value.ref z)) hm1) dX9_changeNozzle_70 ?_
        refine lv_iconst (v := (1 : Int32)) hx hb dX9_changeNozzle_73 (by decide) ?_
        refine lv_iload_n hx hb dX9_changeNozzle_74 rfl (lv_at hl 2 rfl) ?_
        refine lv_iload_n hx hb dX9_changeNozzle_75 rfl (lv_at hl 3 rfl) ?_
        obtain ⟨v6, m7, z8, hD⟩ := b2_el hD
        refine rcVN (Wf := fun z => Wf h z) (mm := m) (As := [.int (1 : Int32), .int x1, .int x2]) (rest := []) Fx0 (c_X6_perform l (Wf := fun z0_ => Wf h z0_) (hL h) (fun a0_ b0_ => hAd h h a0_ b0_) m (1 : Int32) x1 x2 z8) hP (hD1 _ (hAd _ _ _ _)) hS (hA1 _ _ (hAd _ _ _ _) hS.1) (hL h) (Nat.le_of_ble_eq_true rfl) (ms24 _ _) rfl tw_5_116 tw_5_113 tw_5_115 ts_42 tw_1_2 yd_X6_perform ⟨(Nat.le_of_ble_eq_true rfl), (Nat.le_of_ble_eq_true rfl)⟩ rfl hl.1 rfl (Nat.le_of_ble_eq_true rfl) dX9_changeNozzle_76 (fun H locs hP hS => ?_)
        obtain ⟨rfl, rfl⟩ := es2 hD
        exact hret _ _ _ hP hS (fun Qc hq => W.iret hx hb hr hq hS.2.2 dX9_changeNozzle_79 hlocks)
      · have hD := ifp hD c
        refine lv_bipush (v := (-4 : Int32)) hx hb dX9_changeNozzle_66 (by decide) ?_
        obtain ⟨rfl, rfl⟩ := es2 hD
        exact hret _ _ _ hP hS (fun Qc hq => W.iret hx hb hr hq hS.2.2 dX9_changeNozzle_68 hlocks)
    · have hD := ifp hD c
      refine lv_bipush (v := (-5 : Int32)) hx hb dX9_changeNozzle_51 (by decide) ?_
      obtain ⟨rfl, rfl⟩ := es2 hD
      exact hret _ _ _ hP hS (fun Qc hq => W.iret hx hb hr hq hS.2.2 dX9_changeNozzle_53 hlocks)
  · have hD := ifn hD c
    refine lv_bipush (v := (-3 : Int32)) hx hb dX9_changeNozzle_40 (by decide) ?_
    obtain ⟨rfl, rfl⟩ := es2 hD
    exact hret _ _ _ hP hS (fun Qc hq => W.iret hx hb hr hq hS.2.2 dX9_changeNozzle_42 hlocks)
set_option maxHeartbeats 4000000 in
set_option maxRecDepth 100000 in
theorem x_X9_changeNozzle (l : Launch) (hst : l.stackTraces = false) {D : va_G} {cs : Nat → ClassId} {adh ad ma : Nat → Nat} {Wf : MM → MM → va_W} (hLh : ∀ m : MM, Ln 8 adh (hsh cs adh ma) (fun z => Wf z m)) (hL : ∀ h : MM, Ln 51 ad (msh cs ad) (fun z => Wf h z)) (hAd : ∀ a0_ b0_ a1_ b1_ : MM, (Wf a0_ a1_).map (fun q => q.1) = (Wf b0_ b1_).map (fun q => q.1)) (hm1 : ma 1 = ad 24) (h : MM) (m : MM) (x1 : Int32) (x2 : Int32) {kx : Nat} (hD : D_X9_changeNozzle x1 x2 h m = some (.inl kx)) : CtX l yX9_changeNozzle cX9_changeNozzle 4 (some .int) 7 135 D cs [.ref (adh 0), .int x1, .int x2] (Wf h m) kx := by
  refine CtX.ofW (by decide) (Nat.le_of_ble_eq_true rfl) ?_
  intro p e s m0 below meth c A ls args hx hb hml hlocks hown hex hts hK hP hD1 hSS hS hA1 hl
  have hT : ∀ w ∈ TBL, w.before args s = true := fun w h => hts w (List.mem_cons_of_mem _ h)
  have Fx0 : Fx p l m0 c cX9_changeNozzle 4 s args yX9_changeNozzle cX9_changeNozzle 4 (some .int) D cs A := ⟨hx, hb, hml, hown, hts, hK, hSS⟩
  have hown : s.vm.findClass RX9 = some m0.cls := hown
  have hl : lv_has ls 4 [(0, .ref (adh 0)), (1, .int x1), (2, .int x2)] := hl
  unfold D_X9_changeNozzle at hD
  refine lv_iload_n hx hb dX9_changeNozzle_0 rfl (lv_at hl 1 rfl) ?_
  refine lv_aload_n hx hb dX9_changeNozzle_1 rfl (lv_at hl 0 rfl) ?_
  refine rg (Wf := fun z => Wf z m) (mm := h) hx hb hT hu9 hown hK hP (hLh m) 0 3 (Nat.le_of_ble_eq_true rfl) (hs0 _ _) rfl (Nat.le_of_ble_eq_true rfl) (Fx0.T tw_3_4) rfl (v := .ref (ad 24)) (congrArg (fun z => some (Value.ref z)) hm1) dX9_changeNozzle_2 ?_
  refine rgN (Wf := fun z => Wf h z) (mm := m) hx hb hT hu6 hown hK hP (hL h) 24 1 (Nat.le_of_ble_eq_true rfl) (ms24 _ _) rfl (Nat.le_of_ble_eq_true rfl) tw_2_80 rfl (v := .int (gi m 24 1)) rfl dX9_changeNozzle_5 ?_
  rcases bX_ex hD with z1 | ⟨u_, z1, hD⟩
  · exact rcX (As := [.int x1, .int (gi m 24 1)]) (rest := []) Fx0 (x_X9_requireIndex l hst x1 (gi m 24 1) z1) hP (hD1 _ (hAd _ _ _ _)) hS (hA1 _ _ (hAd _ _ _ _) hS.1) hlocks hex tw_5_96 tw_5_94 tw_5_95 tw_1_1 yd_X9_requireIndex ⟨⟨(Nat.le_of_ble_eq_true rfl), (Nat.le_of_ble_eq_true rfl)⟩, by decide, by decide⟩ rfl hl.1 rfl (Nat.le_of_ble_eq_true rfl) dX9_changeNozzle_8
  refine rcS (As := [.int x1, .int (gi m 24 1)]) (rest := []) Fx0 (c_X9_requireIndex l x1 (gi m 24 1) z1) hP (hD1 _ (hAd _ _ _ _)) hS (hA1 _ _ (hAd _ _ _ _) hS.1) tw_5_96 tw_5_94 tw_5_95 tw_1_1 yd_X9_requireIndex ⟨(Nat.le_of_ble_eq_true rfl), (Nat.le_of_ble_eq_true rfl)⟩ rfl hl.1 rfl (Nat.le_of_ble_eq_true rfl) dX9_changeNozzle_8 (fun H locs hP hS => ?_)
  refine lv_iload_n hx hb dX9_changeNozzle_11 rfl (lv_at hl 2 rfl) ?_
  refine lv_aload_n hx hb dX9_changeNozzle_12 rfl (lv_at hl 0 rfl) ?_
  refine rg (Wf := fun z => Wf z m) (mm := h) hx hb hT hu9 hown hK hP (hLh m) 0 3 (Nat.le_of_ble_eq_true rfl) (hs0 _ _) rfl (Nat.le_of_ble_eq_true rfl) (Fx0.T tw_3_4) rfl (v := .ref (ad 24)) (congrArg (fun z => some (Value.ref z)) hm1) dX9_changeNozzle_13 ?_
  refine rgN (Wf := fun z => Wf h z) (mm := m) hx hb hT hu6 hown hK hP (hL h) 24 3 (Nat.le_of_ble_eq_true rfl) (ms24 _ _) rfl (Nat.le_of_ble_eq_true rfl) tw_2_86 rfl (v := .int (gi m 24 3)) rfl dX9_changeNozzle_16 ?_
  rcases bX_ex hD with z2 | ⟨u_, z2, hD⟩
  · exact rcX (As := [.int x2, .int (gi m 24 3)]) (rest := []) Fx0 (x_X9_requireIndex l hst x2 (gi m 24 3) z2) hP (hD1 _ (hAd _ _ _ _)) hS (hA1 _ _ (hAd _ _ _ _) hS.1) hlocks hex tw_5_96 tw_5_94 tw_5_95 tw_1_1 yd_X9_requireIndex ⟨⟨(Nat.le_of_ble_eq_true rfl), (Nat.le_of_ble_eq_true rfl)⟩, by decide, by decide⟩ rfl hl.1 rfl (Nat.le_of_ble_eq_true rfl) dX9_changeNozzle_19
  refine rcS (As := [.int x2, .int (gi m 24 3)]) (rest := []) Fx0 (c_X9_requireIndex l x2 (gi m 24 3) z2) hP (hD1 _ (hAd _ _ _ _)) hS (hA1 _ _ (hAd _ _ _ _) hS.1) tw_5_96 tw_5_94 tw_5_95 tw_1_1 yd_X9_requireIndex ⟨(Nat.le_of_ble_eq_true rfl), (Nat.le_of_ble_eq_true rfl)⟩ rfl hl.1 rfl (Nat.le_of_ble_eq_true rfl) dX9_changeNozzle_19 (fun H locs hP hS => ?_)
  exact lif_no hD

noncomputable def D_X9_pick (x1 : Int32) (x2 : Int32) (h : MM) (m : MM) : Option (Nat ⊕ (Int32 × MM)) := bX (D_X9_requireIndex x1 (gi m 24 1)) (fun _ => bX (D_X9_requireIndex x2 (gi m 24 6)) (fun _ => lif (if x1 < 0 ∨ 4 ≤ x1.toNatClampNeg then none else (if x2 < 0 ∨ 10 ≤ x2.toNatClampNeg then none else (if (gi m x1.toNatClampNeg 1) = (-1 : Int32) then (if (gi m (4 + x2.toNatClampNeg) 0) < 0 ∨ 8 ≤ (gi m (4 + x2.toNatClampNeg) 0).toNatClampNeg then none else (if (gi m x1.toNatClampNeg 0) = (gi m 29 ((gi m (4 + x2.toNatClampNeg) 0).toNatClampNeg)) then (if (gi m (4 + x2.toNatClampNeg) 2) = 0 then (some ((-4 : Int32), m)) else (b2 (D_X6_perform (2 : Int32) x1 x2 m) (fun v8 m9 => some (v8, m9)))) else (some ((-5 : Int32), m)))) else (some ((-3 : Int32), m)))))))
set_option maxHeartbeats 4000000 in
set_option maxRecDepth 100000 in
theorem c_X9_pick (l : Launch) {D : va_G} {cs : Nat → ClassId} {adh ad ma : Nat → Nat} {Wf : MM → MM → va_W} (hLh : ∀ m : MM, Ln 8 adh (hsh cs adh ma) (fun z => Wf z m)) (hL : ∀ h : MM, Ln 51 ad (msh cs ad) (fun z => Wf h z)) (hAd : ∀ a0_ b0_ a1_ b1_ : MM, (Wf a0_ a1_).map (fun q => q.1) = (Wf b0_ b1_).map (fun q => q.1)) (hm1 : ma 1 = ad 24) (h : MM) (m : MM) (x1 : Int32) (x2 : Int32) {rr : Int32} {m' : MM} (hD : D_X9_pick x1 x2 h m = some (.inr (rr, m'))) : Ct l yX9_pick cX9_pick 5 (some .int) 7 135 D cs [.ref (adh 0), .int x1, .int x2] (Wf h m) (Wf h m') (some (.int rr)) := by
  refine Ct.ofW (by decide) (Nat.le_of_ble_eq_true rfl) (hAd _ _ _ _) ?_
  intro p e s m0 below meth c A Q ls args hx hb hr hml hlocks hown hts hK hP hD1 hSS hS hA1 hl hret
  have hT : ∀ w ∈ TBL, w.before args s = true := fun w h => hts w (List.mem_cons_of_mem _ h)
  have Fx0 : Fx p l m0 c cX9_pick 5 s args yX9_pick cX9_pick 5 (some .int) D cs A := ⟨hx, hb, hml, hown, hts, hK, hSS⟩
  have hown : s.vm.findClass RX9 = some m0.cls := hown
  have hl : lv_has ls 5 [(0, .ref (adh 0)), (1, .int x1), (2, .int x2)] := hl
  unfold D_X9_pick at hD
  refine lv_iload_n hx hb dX9_pick_0 rfl (lv_at hl 1 rfl) ?_
  refine lv_aload_n hx hb dX9_pick_1 rfl (lv_at hl 0 rfl) ?_
  refine rg (Wf := fun z => Wf z m) (mm := h) hx hb hT hu9 hown hK hP (hLh m) 0 3 (Nat.le_of_ble_eq_true rfl) (hs0 _ _) rfl (Nat.le_of_ble_eq_true rfl) (Fx0.T tw_3_4) rfl (v := .ref (ad 24)) (congrArg (fun z => some (Value.ref z)) hm1) dX9_pick_2 ?_
  refine rgN (Wf := fun z => Wf h z) (mm := m) hx hb hT hu6 hown hK hP (hL h) 24 1 (Nat.le_of_ble_eq_true rfl) (ms24 _ _) rfl (Nat.le_of_ble_eq_true rfl) tw_2_80 rfl (v := .int (gi m 24 1)) rfl dX9_pick_5 ?_
  obtain ⟨u_, z1, hD⟩ := bX_el hD
  refine rcS (As := [.int x1, .int (gi m 24 1)]) (rest := []) Fx0 (c_X9_requireIndex l x1 (gi m 24 1) z1) hP (hD1 _ (hAd _ _ _ _)) hS (hA1 _ _ (hAd _ _ _ _) hS.1) tw_5_96 tw_5_94 tw_5_95 tw_1_1 yd_X9_requireIndex ⟨(Nat.le_of_ble_eq_true rfl), (Nat.le_of_ble_eq_true rfl)⟩ rfl hl.1 rfl (Nat.le_of_ble_eq_true rfl) dX9_pick_8 (fun H locs hP hS => ?_)
  refine lv_iload_n hx hb dX9_pick_11 rfl (lv_at hl 2 rfl) ?_
  refine lv_aload_n hx hb dX9_pick_12 rfl (lv_at hl 0 rfl) ?_
  refine rg (Wf := fun z => Wf z m) (mm := h) hx hb hT hu9 hown hK hP (hLh m) 0 3 (Nat.le_of_ble_eq_true rfl) (hs0 _ _) rfl (Nat.le_of_ble_eq_true rfl) (Fx0.T tw_3_4) rfl (v := .ref (ad 24)) (congrArg (fun z => some (Value.ref z)) hm1) dX9_pick_13 ?_
  refine rgN (Wf := fun z => Wf h z) (mm := m) hx hb hT hu6 hown hK hP (hL h) 24 6 (Nat.le_of_ble_eq_true rfl) (ms24 _ _) rfl (Nat.le_of_ble_eq_true rfl) tw_2_96 rfl (v := .int (gi m 24 6)) rfl dX9_pick_16 ?_
  obtain ⟨u_, z2, hD⟩ := bX_el hD
  refine rcS (As := [.int x2, .int (gi m 24 6)]) (rest := []) Fx0 (c_X9_requireIndex l x2 (gi m 24 6) z2) hP (hD1 _ (hAd _ _ _ _)) hS (hA1 _ _ (hAd _ _ _ _) hS.1) tw_5_96 tw_5_94 tw_5_95 tw_1_1 yd_X9_requireIndex ⟨(Nat.le_of_ble_eq_true rfl), (Nat.le_of_ble_eq_true rfl)⟩ rfl hl.1 rfl (Nat.le_of_ble_eq_true rfl) dX9_pick_19 (fun H locs hP hS => ?_)
  have hD := lif_el hD
  refine lv_aload_n hx hb dX9_pick_22 rfl (lv_at hl 0 rfl) ?_
  refine rg (Wf := fun z => Wf z m) (mm := h) hx hb hT hu9 hown hK hP (hLh m) 0 3 (Nat.le_of_ble_eq_true rfl) (hs0 _ _) rfl (Nat.le_of_ble_eq_true rfl) (Fx0.T tw_3_4) rfl (v := .ref (ad 24)) (congrArg (fun z => some (Value.ref z)) hm1) dX9_pick_23 ?_
  refine rgN (Wf := fun z => Wf h z) (mm := m) hx hb hT hu6 hown hK hP (hL h) 24 2 (Nat.le_of_ble_eq_true rfl) (ms24 _ _) rfl (Nat.le_of_ble_eq_true rfl) tw_2_84 rfl (v := .ref (ad 26)) rfl dX9_pick_26 ?_
  refine lv_iload_n hx hb dX9_pick_29 rfl (lv_at hl 1 rfl) ?_
  obtain ⟨h3, hD⟩ := gd_el hD
  have hq4 : x1.toNatClampNeg < 4 := Nat.lt_of_not_le (fun z => h3 (Or.inr z))
  refine raald (Wf := fun z => Wf h z) (mm := m) hx hb hK hP (hL h) 26 4 (Nat.le_of_ble_eq_true rfl) (ms26 _ _) rfl h3 rfl dX9_pick_30 ?_
  refine lv_astore_n (lv' := [(3, .ref (ad x1.toNatClampNeg)), (0, .ref (adh 0)), (1, .int x1), (2, .int x2)]) hx hb dX9_pick_31 rfl hl (by decide) rfl (fun ls hl => ?_)
  refine lv_aload_n hx hb dX9_pick_32 rfl (lv_at hl 1 rfl) ?_
  refine rg (Wf := fun z => Wf z m) (mm := h) hx hb hT hu9 hown hK hP (hLh m) 0 3 (Nat.le_of_ble_eq_true rfl) (hs0 _ _) rfl (Nat.le_of_ble_eq_true rfl) (Fx0.T tw_3_4) rfl (v := .ref (ad 24)) (congrArg (fun z => some (Value.ref z)) hm1) dX9_pick_33 ?_
  refine rgN (Wf := fun z => Wf h z) (mm := m) hx hb hT hu6 hown hK hP (hL h) 24 7 (Nat.le_of_ble_eq_true rfl) (ms24 _ _) rfl (Nat.le_of_ble_eq_true rfl) tw_2_102 rfl (v := .ref (ad 35)) rfl dX9_pick_36 ?_
  refine lv_iload_n hx hb dX9_pick_39 rfl (lv_at hl 3 rfl) ?_
  obtain ⟨h5, hD⟩ := gd_el hD
  have hq6a : 4 ≤ 4 + x2.toNatClampNeg := Nat.le_add_right _ _
  have hq6b : 4 + x2.toNatClampNeg < 14 := Nat.add_lt_add_left (Nat.lt_of_not_le (fun z => h5 (Or.inr z))) 4
  refine raald (Wf := fun z => Wf h z) (mm := m) hx hb hK hP (hL h) 35 5 (Nat.le_of_ble_eq_true rfl) (ms35 _ _) rfl h5 rfl dX9_pick_40 ?_
  refine lv_astore (lv' := [(4, .ref (ad (4 + x2.toNatClampNeg))), (3, .ref (ad x1.toNatClampNeg)), (0, .ref (adh 0)), (1, .int x1), (2, .int x2)]) hx hb dX9_pick_41 hl (by decide) rfl (fun ls hl => ?_)
  refine lv_aload_n hx hb dX9_pick_43 rfl (lv_at hl 1 rfl) ?_
  refine rgN (Wf := fun z => Wf h z) (mm := m) hx hb hT hu8 hown hK hP (hL h) x1.toNatClampNeg 1 (Nat.lt_of_lt_of_le hq4 (Nat.le_of_ble_eq_true rfl)) ((msp hq4) _ _) rfl (Nat.le_of_ble_eq_true rfl) tw_1_200 rfl (v := .int (gi m x1.toNatClampNeg 1)) rfl dX9_pick_44 ?_
  refine lv_iconst (v := (-1 : Int32)) hx hb dX9_pick_47 (by decide) ?_
  refine lv_icmp_eq (tgt := 54) hx hb dX9_pick_48 (by decide) (fun c => ?_) (fun c => ?_)
  · have hD := ifp hD c
    refine lv_aload_n hx hb dX9_pick_54 rfl (lv_at hl 1 rfl) ?_
    refine rgN (Wf := fun z => Wf h z) (mm := m) hx hb hT hu8 hown hK hP (hL h) x1.toNatClampNeg 0 (Nat.lt_of_lt_of_le hq4 (Nat.le_of_ble_eq_true rfl)) ((msp hq4) _ _) rfl (Nat.le_of_ble_eq_true rfl) tw_1_196 rfl (v := .int (gi m x1.toNatClampNeg 0)) rfl dX9_pick_55 ?_
    refine lv_aload_n hx hb dX9_pick_58 rfl (lv_at hl 2 rfl) ?_
    refine rg (Wf := fun z => Wf z m) (mm := h) hx hb hT hu9 hown hK hP (hLh m) 0 3 (Nat.le_of_ble_eq_true rfl) (hs0 _ _) rfl (Nat.le_of_ble_eq_true rfl) (Fx0.T tw_3_4) rfl (v := .ref (ad 24)) (congrArg (fun z => some (Value.ref z)) hm1) dX9_pick_59 ?_
    refine rgN (Wf := fun z => Wf h z) (mm := m) hx hb hT hu6 hown hK hP (hL h) 24 5 (Nat.le_of_ble_eq_true rfl) (ms24 _ _) rfl (Nat.le_of_ble_eq_true rfl) tw_2_92 rfl (v := .ref (ad 28)) rfl dX9_pick_62 ?_
    refine rgN (Wf := fun z => Wf h z) (mm := m) hx hb hT hu5 hown hK hP (hL h) 28 1 (Nat.le_of_ble_eq_true rfl) (ms28 _ _) rfl (Nat.le_of_ble_eq_true rfl) tw_1_57 rfl (v := .ref (ad 29)) rfl dX9_pick_65 ?_
    refine lv_aload hx hb dX9_pick_68 (lv_at hl 0 rfl) ?_
    refine rgN (Wf := fun z => Wf h z) (mm := m) hx hb hT hu2 hown hK hP (hL h) (4 + x2.toNatClampNeg) 0 (Nat.lt_of_lt_of_le hq6b (Nat.le_of_ble_eq_true rfl)) ((mfe hq6a hq6b) _ _) rfl (Nat.le_of_ble_eq_true rfl) tw_2_0 rfl (v := .int (gi m (4 + x2.toNatClampNeg) 0)) rfl dX9_pick_70 ?_
    obtain ⟨h7, hD⟩ := gd_el hD
    refine riald (Wf := fun z => Wf h z) (mm := m) hx hb hK hP (hL h) 29 (Nat.le_of_ble_eq_true rfl) (ms29 _ _) h7 rfl dX9_pick_73 ?_
    refine lv_icmp_eq (tgt := 80) hx hb dX9_pick_74 (by decide) (fun c => ?_) (fun c => ?_)
    · have hD := ifp hD c
      refine lv_aload hx hb dX9_pick_80 (lv_at hl 0 rfl) ?_
      refine rgN (Wf := fun z => Wf h z) (mm := m) hx hb hT hu2 hown hK hP (hL h) (4 + x2.toNatClampNeg) 2 (Nat.lt_of_lt_of_le hq6b (Nat.le_of_ble_eq_true rfl)) ((mfe hq6a hq6b) _ _) rfl (Nat.le_of_ble_eq_true rfl) tw_2_7 rfl (v := .int (gi m (4 + x2.toNatClampNeg) 2)) rfl dX9_pick_82 ?_
      refine lv_if_ne (tgt := 91) hx hb dX9_pick_85 (by decide) (fun c => ?_) (fun c => ?_)
      · have hD := ifn hD c
        refine lv_aload_n hx hb dX9_pick_91 rfl (lv_at hl 2 rfl) ?_
        refine rg (Wf := fun z => Wf z m) (mm := h) hx hb hT hu9 hown hK hP (hLh m) 0 3 (Nat.le_of_ble_eq_true rfl) (hs0 _ _) rfl (Nat.le_of_ble_eq_true rfl) (Fx0.T tw_3_4) rfl (v := .ref (ad 24)) (congrArg (fun z => some (Value.ref z)) hm1) dX9_pick_92 ?_
        refine lv_iconst (v := (2 : Int32)) hx hb dX9_pick_95 (by decide) ?_
        refine lv_iload_n hx hb dX9_pick_96 rfl (lv_at hl 3 rfl) ?_
        refine lv_iload_n hx hb dX9_pick_97 rfl (lv_at hl 4 rfl) ?_
        obtain ⟨v8, m9, z10, hD⟩ := b2_el hD
        refine rcVN (Wf := fun z => Wf h z) (mm := m) (As := [.int (2 : Int32), .int x1, .int x2]) (rest := []) Fx0 (c_X6_perform l (Wf := fun z0_ => Wf h z0_) (hL h) (fun a0_ b0_ => hAd h h a0_ b0_) m (2 : Int32) x1 x2 z10) hP (hD1 _ (hAd _ _ _ _)) hS (hA1 _ _ (hAd _ _ _ _) hS.1) (hL h) (Nat.le_of_ble_eq_true rfl) (ms24 _ _) rfl tw_5_116 tw_5_113 tw_5_115 ts_42 tw_1_2 yd_X6_perform ⟨(Nat.le_of_ble_eq_true rfl), (Nat.le_of_ble_eq_true rfl)⟩ rfl hl.1 rfl (Nat.le_of_ble_eq_true rfl) dX9_pick_98 (fun H locs hP hS => ?_)
        obtain ⟨rfl, rfl⟩ := es2 hD
        exact hret _ _ _ hP hS (fun Qc hq => W.iret hx hb hr hq hS.2.2 dX9_pick_101 hlocks)
      · have hD := ifp hD c
        refine lv_bipush (v := (-4 : Int32)) hx hb dX9_pick_88 (by decide) ?_
        obtain ⟨rfl, rfl⟩ := es2 hD
        exact hret _ _ _ hP hS (fun Qc hq => W.iret hx hb hr hq hS.2.2 dX9_pick_90 hlocks)
    · have hD := ifn hD c
      refine lv_bipush (v := (-5 : Int32)) hx hb dX9_pick_77 (by decide) ?_
      obtain ⟨rfl, rfl⟩ := es2 hD
      exact hret _ _ _ hP hS (fun Qc hq => W.iret hx hb hr hq hS.2.2 dX9_pick_79 hlocks)
  · have hD := ifn hD c
    refine lv_bipush (v := (-3 : Int32)) hx hb dX9_pick_51 (by decide) ?_
    obtain ⟨rfl, rfl⟩ := es2 hD
    exact hret _ _ _ hP hS (fun Qc hq => W.iret hx hb hr hq hS.2.2 dX9_pick_53 hlocks)
set_option maxHeartbeats 4000000 in
set_option maxRecDepth 100000 in
theorem x_X9_pick (l : Launch) (hst : l.stackTraces = false) {D : va_G} {cs : Nat → ClassId} {adh ad ma : Nat → Nat} {Wf : MM → MM → va_W} (hLh : ∀ m : MM, Ln 8 adh (hsh cs adh ma) (fun z => Wf z m)) (hL : ∀ h : MM, Ln 51 ad (msh cs ad) (fun z => Wf h z)) (hAd : ∀ a0_ b0_ a1_ b1_ : MM, (Wf a0_ a1_).map (fun q => q.1) = (Wf b0_ b1_).map (fun q => q.1)) (hm1 : ma 1 = ad 24) (h : MM) (m : MM) (x1 : Int32) (x2 : Int32) {kx : Nat} (hD : D_X9_pick x1 x2 h m = some (.inl kx)) : CtX l yX9_pick cX9_pick 5 (some .int) 7 135 D cs [.ref (adh 0), .int x1, .int x2] (Wf h m) kx := by
  refine CtX.ofW (by decide) (Nat.le_of_ble_eq_true rfl) ?_
  intro p e s m0 below meth c A ls args hx hb hml hlocks hown hex hts hK hP hD1 hSS hS hA1 hl
  have hT : ∀ w ∈ TBL, w.before args s = true := fun w h => hts w (List.mem_cons_of_mem _ h)
  have Fx0 : Fx p l m0 c cX9_pick 5 s args yX9_pick cX9_pick 5 (some .int) D cs A := ⟨hx, hb, hml, hown, hts, hK, hSS⟩
  have hown : s.vm.findClass RX9 = some m0.cls := hown
  have hl : lv_has ls 5 [(0, .ref (adh 0)), (1, .int x1), (2, .int x2)] := hl
  unfold D_X9_pick at hD
  refine lv_iload_n hx hb dX9_pick_0 rfl (lv_at hl 1 rfl) ?_
  refine lv_aload_n hx hb dX9_pick_1 rfl (lv_at hl 0 rfl) ?_
  refine rg (Wf := fun z => Wf z m) (mm := h) hx hb hT hu9 hown hK hP (hLh m) 0 3 (Nat.le_of_ble_eq_true rfl) (hs0 _ _) rfl (Nat.le_of_ble_eq_true rfl) (Fx0.T tw_3_4) rfl (v := .ref (ad 24)) (congrArg (fun z => some (Value.ref z)) hm1) dX9_pick_2 ?_
  refine rgN (Wf := fun z => Wf h z) (mm := m) hx hb hT hu6 hown hK hP (hL h) 24 1 (Nat.le_of_ble_eq_true rfl) (ms24 _ _) rfl (Nat.le_of_ble_eq_true rfl) tw_2_80 rfl (v := .int (gi m 24 1)) rfl dX9_pick_5 ?_
  rcases bX_ex hD with z1 | ⟨u_, z1, hD⟩
  · exact rcX (As := [.int x1, .int (gi m 24 1)]) (rest := []) Fx0 (x_X9_requireIndex l hst x1 (gi m 24 1) z1) hP (hD1 _ (hAd _ _ _ _)) hS (hA1 _ _ (hAd _ _ _ _) hS.1) hlocks hex tw_5_96 tw_5_94 tw_5_95 tw_1_1 yd_X9_requireIndex ⟨⟨(Nat.le_of_ble_eq_true rfl), (Nat.le_of_ble_eq_true rfl)⟩, by decide, by decide⟩ rfl hl.1 rfl (Nat.le_of_ble_eq_true rfl) dX9_pick_8
  refine rcS (As := [.int x1, .int (gi m 24 1)]) (rest := []) Fx0 (c_X9_requireIndex l x1 (gi m 24 1) z1) hP (hD1 _ (hAd _ _ _ _)) hS (hA1 _ _ (hAd _ _ _ _) hS.1) tw_5_96 tw_5_94 tw_5_95 tw_1_1 yd_X9_requireIndex ⟨(Nat.le_of_ble_eq_true rfl), (Nat.le_of_ble_eq_true rfl)⟩ rfl hl.1 rfl (Nat.le_of_ble_eq_true rfl) dX9_pick_8 (fun H locs hP hS => ?_)
  refine lv_iload_n hx hb dX9_pick_11 rfl (lv_at hl 2 rfl) ?_
  refine lv_aload_n hx hb dX9_pick_12 rfl (lv_at hl 0 rfl) ?_
  refine rg (Wf := fun z => Wf z m) (mm := h) hx hb hT hu9 hown hK hP (hLh m) 0 3 (Nat.le_of_ble_eq_true rfl) (hs0 _ _) rfl (Nat.le_of_ble_eq_true rfl) (Fx0.T tw_3_4) rfl (v := .ref (ad 24)) (congrArg (fun z => some (Value.ref z)) hm1) dX9_pick_13 ?_
  refine rgN (Wf := fun z => Wf h z) (mm := m) hx hb hT hu6 hown hK hP (hL h) 24 6 (Nat.le_of_ble_eq_true rfl) (ms24 _ _) rfl (Nat.le_of_ble_eq_true rfl) tw_2_96 rfl (v := .int (gi m 24 6)) rfl dX9_pick_16 ?_
  rcases bX_ex hD with z2 | ⟨u_, z2, hD⟩
  · exact rcX (As := [.int x2, .int (gi m 24 6)]) (rest := []) Fx0 (x_X9_requireIndex l hst x2 (gi m 24 6) z2) hP (hD1 _ (hAd _ _ _ _)) hS (hA1 _ _ (hAd _ _ _ _) hS.1) hlocks hex tw_5_96 tw_5_94 tw_5_95 tw_1_1 yd_X9_requireIndex ⟨⟨(Nat.le_of_ble_eq_true rfl), (Nat.le_of_ble_eq_true rfl)⟩, by decide, by decide⟩ rfl hl.1 rfl (Nat.le_of_ble_eq_true rfl) dX9_pick_19
  refine rcS (As := [.int x2, .int (gi m 24 6)]) (rest := []) Fx0 (c_X9_requireIndex l x2 (gi m 24 6) z2) hP (hD1 _ (hAd _ _ _ _)) hS (hA1 _ _ (hAd _ _ _ _) hS.1) tw_5_96 tw_5_94 tw_5_95 tw_1_1 yd_X9_requireIndex ⟨(Nat.le_of_ble_eq_true rfl), (Nat.le_of_ble_eq_true rfl)⟩ rfl hl.1 rfl (Nat.le_of_ble_eq_true rfl) dX9_pick_19 (fun H locs hP hS => ?_)
  exact lif_no hD

noncomputable def D_X9_look (x1 : Int32) (h : MM) (m : MM) : Option (Nat ⊕ (Int32 × MM)) := bX (D_X9_requireIndex x1 (gi m 24 1)) (fun _ => lif (if x1 < 0 ∨ 4 ≤ x1.toNatClampNeg then none else (if (gi m x1.toNatClampNeg 1) = (-1 : Int32) then (some ((-3 : Int32), m)) else (if (gi m x1.toNatClampNeg 2) = 0 then (b2 (D_X6_perform (3 : Int32) x1 (0 : Int32) m) (fun v4 m5 => some (v4, m5))) else (some ((-3 : Int32), m))))))
set_option maxHeartbeats 4000000 in
set_option maxRecDepth 100000 in
theorem c_X9_look (l : Launch) {D : va_G} {cs : Nat → ClassId} {adh ad ma : Nat → Nat} {Wf : MM → MM → va_W} (hLh : ∀ m : MM, Ln 8 adh (hsh cs adh ma) (fun z => Wf z m)) (hL : ∀ h : MM, Ln 51 ad (msh cs ad) (fun z => Wf h z)) (hAd : ∀ a0_ b0_ a1_ b1_ : MM, (Wf a0_ a1_).map (fun q => q.1) = (Wf b0_ b1_).map (fun q => q.1)) (hm1 : ma 1 = ad 24) (h : MM) (m : MM) (x1 : Int32) {rr : Int32} {m' : MM} (hD : D_X9_look x1 h m = some (.inr (rr, m'))) : Ct l yX9_look cX9_look 3 (some .int) 7 135 D cs [.ref (adh 0), .int x1] (Wf h m) (Wf h m') (some (.int rr)) := by
  refine Ct.ofW (by decide) (Nat.le_of_ble_eq_true rfl) (hAd _ _ _ _) ?_
  intro p e s m0 below meth c A Q ls args hx hb hr hml hlocks hown hts hK hP hD1 hSS hS hA1 hl hret
  have hT : ∀ w ∈ TBL, w.before args s = true := fun w h => hts w (List.mem_cons_of_mem _ h)
  have Fx0 : Fx p l m0 c cX9_look 3 s args yX9_look cX9_look 3 (some .int) D cs A := ⟨hx, hb, hml, hown, hts, hK, hSS⟩
  have hown : s.vm.findClass RX9 = some m0.cls := hown
  have hl : lv_has ls 3 [(0, .ref (adh 0)), (1, .int x1)] := hl
  unfold D_X9_look at hD
  refine lv_iload_n hx hb dX9_look_0 rfl (lv_at hl 1 rfl) ?_
  refine lv_aload_n hx hb dX9_look_1 rfl (lv_at hl 0 rfl) ?_
  refine rg (Wf := fun z => Wf z m) (mm := h) hx hb hT hu9 hown hK hP (hLh m) 0 3 (Nat.le_of_ble_eq_true rfl) (hs0 _ _) rfl (Nat.le_of_ble_eq_true rfl) (Fx0.T tw_3_4) rfl (v := .ref (ad 24)) (congrArg (fun z => some (Value.ref z)) hm1) dX9_look_2 ?_
  refine rgN (Wf := fun z => Wf h z) (mm := m) hx hb hT hu6 hown hK hP (hL h) 24 1 (Nat.le_of_ble_eq_true rfl) (ms24 _ _) rfl (Nat.le_of_ble_eq_true rfl) tw_2_80 rfl (v := .int (gi m 24 1)) rfl dX9_look_5 ?_
  obtain ⟨u_, z1, hD⟩ := bX_el hD
  refine rcS (As := [.int x1, .int (gi m 24 1)]) (rest := []) Fx0 (c_X9_requireIndex l x1 (gi m 24 1) z1) hP (hD1 _ (hAd _ _ _ _)) hS (hA1 _ _ (hAd _ _ _ _) hS.1) tw_5_96 tw_5_94 tw_5_95 tw_1_1 yd_X9_requireIndex ⟨(Nat.le_of_ble_eq_true rfl), (Nat.le_of_ble_eq_true rfl)⟩ rfl hl.1 rfl (Nat.le_of_ble_eq_true rfl) dX9_look_8 (fun H locs hP hS => ?_)
  have hD := lif_el hD
  refine lv_aload_n hx hb dX9_look_11 rfl (lv_at hl 0 rfl) ?_
  refine rg (Wf := fun z => Wf z m) (mm := h) hx hb hT hu9 hown hK hP (hLh m) 0 3 (Nat.le_of_ble_eq_true rfl) (hs0 _ _) rfl (Nat.le_of_ble_eq_true rfl) (Fx0.T tw_3_4) rfl (v := .ref (ad 24)) (congrArg (fun z => some (Value.ref z)) hm1) dX9_look_12 ?_
  refine rgN (Wf := fun z => Wf h z) (mm := m) hx hb hT hu6 hown hK hP (hL h) 24 2 (Nat.le_of_ble_eq_true rfl) (ms24 _ _) rfl (Nat.le_of_ble_eq_true rfl) tw_2_84 rfl (v := .ref (ad 26)) rfl dX9_look_15 ?_
  refine lv_iload_n hx hb dX9_look_18 rfl (lv_at hl 1 rfl) ?_
  obtain ⟨h2, hD⟩ := gd_el hD
  have hq3 : x1.toNatClampNeg < 4 := Nat.lt_of_not_le (fun z => h2 (Or.inr z))
  refine raald (Wf := fun z => Wf h z) (mm := m) hx hb hK hP (hL h) 26 4 (Nat.le_of_ble_eq_true rfl) (ms26 _ _) rfl h2 rfl dX9_look_19 ?_
  refine lv_astore_n (lv' := [(2, .ref (ad x1.toNatClampNeg)), (0, .ref (adh 0)), (1, .int x1)]) hx hb dX9_look_20 rfl hl (by decide) rfl (fun ls hl => ?_)
  refine lv_aload_n hx hb dX9_look_21 rfl (lv_at hl 0 rfl) ?_
  refine rgN (Wf := fun z => Wf h z) (mm := m) hx hb hT hu8 hown hK hP (hL h) x1.toNatClampNeg 1 (Nat.lt_of_lt_of_le hq3 (Nat.le_of_ble_eq_true rfl)) ((msp hq3) _ _) rfl (Nat.le_of_ble_eq_true rfl) tw_1_200 rfl (v := .int (gi m x1.toNatClampNeg 1)) rfl dX9_look_22 ?_
  refine lv_iconst (v := (-1 : Int32)) hx hb dX9_look_25 (by decide) ?_
  refine lv_icmp_eq (tgt := 36) hx hb dX9_look_26 (by decide) (fun c => ?_) (fun c => ?_)
  · have hD := ifp hD c
    refine lv_bipush (v := (-3 : Int32)) hx hb dX9_look_36 (by decide) ?_
    obtain ⟨rfl, rfl⟩ := es2 hD
    exact hret _ _ _ hP hS (fun Qc hq => W.iret hx hb hr hq hS.2.2 dX9_look_38 hlocks)
  · have hD := ifn hD c
    refine lv_aload_n hx hb dX9_look_29 rfl (lv_at hl 0 rfl) ?_
    refine rgN (Wf := fun z => Wf h z) (mm := m) hx hb hT hu8 hown hK hP (hL h) x1.toNatClampNeg 2 (Nat.lt_of_lt_of_le hq3 (Nat.le_of_ble_eq_true rfl)) ((msp hq3) _ _) rfl (Nat.le_of_ble_eq_true rfl) tw_1_204 rfl (v := .int (gi m x1.toNatClampNeg 2)) rfl dX9_look_30 ?_
    refine lv_if_eq (tgt := 39) hx hb dX9_look_33 (by decide) (fun c => ?_) (fun c => ?_)
    · have hD := ifp hD c
      refine lv_aload_n hx hb dX9_look_39 rfl (lv_at hl 1 rfl) ?_
      refine rg (Wf := fun z => Wf z m) (mm := h) hx hb hT hu9 hown hK hP (hLh m) 0 3 (Nat.le_of_ble_eq_true rfl) (hs0 _ _) rfl (Nat.le_of_ble_eq_true rfl) (Fx0.T tw_3_4) rfl (v := .ref (ad 24)) (congrArg (fun z => some (Value.ref z)) hm1) dX9_look_40 ?_
      refine lv_iconst (v := (3 : Int32)) hx hb dX9_look_43 (by decide) ?_
      refine lv_iload_n hx hb dX9_look_44 rfl (lv_at hl 2 rfl) ?_
      refine lv_iconst (v := (0 : Int32)) hx hb dX9_look_45 (by decide) ?_
      obtain ⟨v4, m5, z6, hD⟩ := b2_el hD
      refine rcVN (Wf := fun z => Wf h z) (mm := m) (As := [.int (3 : Int32), .int x1, .int (0 : Int32)]) (rest := []) Fx0 (c_X6_perform l (Wf := fun z0_ => Wf h z0_) (hL h) (fun a0_ b0_ => hAd h h a0_ b0_) m (3 : Int32) x1 (0 : Int32) z6) hP (hD1 _ (hAd _ _ _ _)) hS (hA1 _ _ (hAd _ _ _ _) hS.1) (hL h) (Nat.le_of_ble_eq_true rfl) (ms24 _ _) rfl tw_5_116 tw_5_113 tw_5_115 ts_42 tw_1_2 yd_X6_perform ⟨(Nat.le_of_ble_eq_true rfl), (Nat.le_of_ble_eq_true rfl)⟩ rfl hl.1 rfl (Nat.le_of_ble_eq_true rfl) dX9_look_46 (fun H locs hP hS => ?_)
      obtain ⟨rfl, rfl⟩ := es2 hD
      exact hret _ _ _ hP hS (fun Qc hq => W.iret hx hb hr hq hS.2.2 dX9_look_49 hlocks)
    · have hD := ifn hD c
      refine lv_bipush (v := (-3 : Int32)) hx hb dX9_look_36 (by decide) ?_
      obtain ⟨rfl, rfl⟩ := es2 hD
      exact hret _ _ _ hP hS (fun Qc hq => W.iret hx hb hr hq hS.2.2 dX9_look_38 hlocks)
set_option maxHeartbeats 4000000 in
set_option maxRecDepth 100000 in
theorem x_X9_look (l : Launch) (hst : l.stackTraces = false) {D : va_G} {cs : Nat → ClassId} {adh ad ma : Nat → Nat} {Wf : MM → MM → va_W} (hLh : ∀ m : MM, Ln 8 adh (hsh cs adh ma) (fun z => Wf z m)) (hL : ∀ h : MM, Ln 51 ad (msh cs ad) (fun z => Wf h z)) (hAd : ∀ a0_ b0_ a1_ b1_ : MM, (Wf a0_ a1_).map (fun q => q.1) = (Wf b0_ b1_).map (fun q => q.1)) (hm1 : ma 1 = ad 24) (h : MM) (m : MM) (x1 : Int32) {kx : Nat} (hD : D_X9_look x1 h m = some (.inl kx)) : CtX l yX9_look cX9_look 3 (some .int) 7 135 D cs [.ref (adh 0), .int x1] (Wf h m) kx := by
  refine CtX.ofW (by decide) (Nat.le_of_ble_eq_true rfl) ?_
  intro p e s m0 below meth c A ls args hx hb hml hlocks hown hex hts hK hP hD1 hSS hS hA1 hl
  have hT : ∀ w ∈ TBL, w.before args s = true := fun w h => hts w (List.mem_cons_of_mem _ h)
  have Fx0 : Fx p l m0 c cX9_look 3 s args yX9_look cX9_look 3 (some .int) D cs A := ⟨hx, hb, hml, hown, hts, hK, hSS⟩
  have hown : s.vm.findClass RX9 = some m0.cls := hown
  have hl : lv_has ls 3 [(0, .ref (adh 0)), (1, .int x1)] := hl
  unfold D_X9_look at hD
  refine lv_iload_n hx hb dX9_look_0 rfl (lv_at hl 1 rfl) ?_
  refine lv_aload_n hx hb dX9_look_1 rfl (lv_at hl 0 rfl) ?_
  refine rg (Wf := fun z => Wf z m) (mm := h) hx hb hT hu9 hown hK hP (hLh m) 0 3 (Nat.le_of_ble_eq_true rfl) (hs0 _ _) rfl (Nat.le_of_ble_eq_true rfl) (Fx0.T tw_3_4) rfl (v := .ref (ad 24)) (congrArg (fun z => some (Value.ref z)) hm1) dX9_look_2 ?_
  refine rgN (Wf := fun z => Wf h z) (mm := m) hx hb hT hu6 hown hK hP (hL h) 24 1 (Nat.le_of_ble_eq_true rfl) (ms24 _ _) rfl (Nat.le_of_ble_eq_true rfl) tw_2_80 rfl (v := .int (gi m 24 1)) rfl dX9_look_5 ?_
  rcases bX_ex hD with z1 | ⟨u_, z1, hD⟩
  · exact rcX (As := [.int x1, .int (gi m 24 1)]) (rest := []) Fx0 (x_X9_requireIndex l hst x1 (gi m 24 1) z1) hP (hD1 _ (hAd _ _ _ _)) hS (hA1 _ _ (hAd _ _ _ _) hS.1) hlocks hex tw_5_96 tw_5_94 tw_5_95 tw_1_1 yd_X9_requireIndex ⟨⟨(Nat.le_of_ble_eq_true rfl), (Nat.le_of_ble_eq_true rfl)⟩, by decide, by decide⟩ rfl hl.1 rfl (Nat.le_of_ble_eq_true rfl) dX9_look_8
  refine rcS (As := [.int x1, .int (gi m 24 1)]) (rest := []) Fx0 (c_X9_requireIndex l x1 (gi m 24 1) z1) hP (hD1 _ (hAd _ _ _ _)) hS (hA1 _ _ (hAd _ _ _ _) hS.1) tw_5_96 tw_5_94 tw_5_95 tw_1_1 yd_X9_requireIndex ⟨(Nat.le_of_ble_eq_true rfl), (Nat.le_of_ble_eq_true rfl)⟩ rfl hl.1 rfl (Nat.le_of_ble_eq_true rfl) dX9_look_8 (fun H locs hP hS => ?_)
  exact lif_no hD

noncomputable def D_X9_place (x1 : Int32) (x2 : Int32) (h : MM) (m : MM) : Option (Nat ⊕ (Int32 × MM)) := bX (D_X9_requireIndex x1 (gi m 24 1)) (fun _ => bX (D_X9_requireIndex x2 (gi m 36 0)) (fun _ => lif (if x1 < 0 ∨ 4 ≤ x1.toNatClampNeg then none else (if (gi m x1.toNatClampNeg 1) = (-1 : Int32) then (some ((-3 : Int32), m)) else (if (gi m x1.toNatClampNeg 2) = 0 then (some ((-3 : Int32), m)) else (b1 (D_X0_isOpen x2 m) (fun v5 => if v5 = 0 then (some ((-3 : Int32), m)) else (if x2 < 0 ∨ 40 ≤ x2.toNatClampNeg then none else (if (gi m x1.toNatClampNeg 1) = (gi m 37 x2.toNatClampNeg) then (b1 (D_X0_firstsOf ((1 : Int64) <<< (x2.toInt64 &&& 63)) m) (fun v8 => if (v8 &&& (gl m 36 7)) = (0 : Int64) then (b2 (D_X6_perform (4 : Int32) x1 x2 m) (fun v10 m11 => some (v10, m11))) else (some ((-6 : Int32), m)))) else (some ((-5 : Int32), m)))))))))))
set_option maxHeartbeats 4000000 in
set_option maxRecDepth 100000 in
theorem c_X9_place (l : Launch) {D : va_G} {cs : Nat → ClassId} {adh ad ma : Nat → Nat} {Wf : MM → MM → va_W} (hLh : ∀ m : MM, Ln 8 adh (hsh cs adh ma) (fun z => Wf z m)) (hL : ∀ h : MM, Ln 51 ad (msh cs ad) (fun z => Wf h z)) (hAd : ∀ a0_ b0_ a1_ b1_ : MM, (Wf a0_ a1_).map (fun q => q.1) = (Wf b0_ b1_).map (fun q => q.1)) (hm1 : ma 1 = ad 24) (h : MM) (m : MM) (x1 : Int32) (x2 : Int32) {rr : Int32} {m' : MM} (hD : D_X9_place x1 x2 h m = some (.inr (rr, m'))) : Ct l yX9_place cX9_place 5 (some .int) 7 135 D cs [.ref (adh 0), .int x1, .int x2] (Wf h m) (Wf h m') (some (.int rr)) := by
  refine Ct.ofW (by decide) (Nat.le_of_ble_eq_true rfl) (hAd _ _ _ _) ?_
  intro p e s m0 below meth c A Q ls args hx hb hr hml hlocks hown hts hK hP hD1 hSS hS hA1 hl hret
  have hT : ∀ w ∈ TBL, w.before args s = true := fun w h => hts w (List.mem_cons_of_mem _ h)
  have Fx0 : Fx p l m0 c cX9_place 5 s args yX9_place cX9_place 5 (some .int) D cs A := ⟨hx, hb, hml, hown, hts, hK, hSS⟩
  have hown : s.vm.findClass RX9 = some m0.cls := hown
  have hl : lv_has ls 5 [(0, .ref (adh 0)), (1, .int x1), (2, .int x2)] := hl
  unfold D_X9_place at hD
  refine lv_iload_n hx hb dX9_place_0 rfl (lv_at hl 1 rfl) ?_
  refine lv_aload_n hx hb dX9_place_1 rfl (lv_at hl 0 rfl) ?_
  refine rg (Wf := fun z => Wf z m) (mm := h) hx hb hT hu9 hown hK hP (hLh m) 0 3 (Nat.le_of_ble_eq_true rfl) (hs0 _ _) rfl (Nat.le_of_ble_eq_true rfl) (Fx0.T tw_3_4) rfl (v := .ref (ad 24)) (congrArg (fun z => some (Value.ref z)) hm1) dX9_place_2 ?_
  refine rgN (Wf := fun z => Wf h z) (mm := m) hx hb hT hu6 hown hK hP (hL h) 24 1 (Nat.le_of_ble_eq_true rfl) (ms24 _ _) rfl (Nat.le_of_ble_eq_true rfl) tw_2_80 rfl (v := .int (gi m 24 1)) rfl dX9_place_5 ?_
  obtain ⟨u_, z1, hD⟩ := bX_el hD
  refine rcS (As := [.int x1, .int (gi m 24 1)]) (rest := []) Fx0 (c_X9_requireIndex l x1 (gi m 24 1) z1) hP (hD1 _ (hAd _ _ _ _)) hS (hA1 _ _ (hAd _ _ _ _) hS.1) tw_5_96 tw_5_94 tw_5_95 tw_1_1 yd_X9_requireIndex ⟨(Nat.le_of_ble_eq_true rfl), (Nat.le_of_ble_eq_true rfl)⟩ rfl hl.1 rfl (Nat.le_of_ble_eq_true rfl) dX9_place_8 (fun H locs hP hS => ?_)
  refine lv_iload_n hx hb dX9_place_11 rfl (lv_at hl 2 rfl) ?_
  refine lv_aload_n hx hb dX9_place_12 rfl (lv_at hl 0 rfl) ?_
  refine rg (Wf := fun z => Wf z m) (mm := h) hx hb hT hu9 hown hK hP (hLh m) 0 3 (Nat.le_of_ble_eq_true rfl) (hs0 _ _) rfl (Nat.le_of_ble_eq_true rfl) (Fx0.T tw_3_4) rfl (v := .ref (ad 24)) (congrArg (fun z => some (Value.ref z)) hm1) dX9_place_13 ?_
  refine rgN (Wf := fun z => Wf h z) (mm := m) hx hb hT hu6 hown hK hP (hL h) 24 8 (Nat.le_of_ble_eq_true rfl) (ms24 _ _) rfl (Nat.le_of_ble_eq_true rfl) tw_2_105 rfl (v := .ref (ad 36)) rfl dX9_place_16 ?_
  refine rgN (Wf := fun z => Wf h z) (mm := m) hx hb hT hu0 hown hK hP (hL h) 36 0 (Nat.le_of_ble_eq_true rfl) (ms36 _ _) rfl (Nat.le_of_ble_eq_true rfl) tw_1_96 rfl (v := .int (gi m 36 0)) rfl dX9_place_19 ?_
  obtain ⟨u_, z2, hD⟩ := bX_el hD
  refine rcS (As := [.int x2, .int (gi m 36 0)]) (rest := []) Fx0 (c_X9_requireIndex l x2 (gi m 36 0) z2) hP (hD1 _ (hAd _ _ _ _)) hS (hA1 _ _ (hAd _ _ _ _) hS.1) tw_5_96 tw_5_94 tw_5_95 tw_1_1 yd_X9_requireIndex ⟨(Nat.le_of_ble_eq_true rfl), (Nat.le_of_ble_eq_true rfl)⟩ rfl hl.1 rfl (Nat.le_of_ble_eq_true rfl) dX9_place_22 (fun H locs hP hS => ?_)
  have hD := lif_el hD
  refine lv_aload_n hx hb dX9_place_25 rfl (lv_at hl 0 rfl) ?_
  refine rg (Wf := fun z => Wf z m) (mm := h) hx hb hT hu9 hown hK hP (hLh m) 0 3 (Nat.le_of_ble_eq_true rfl) (hs0 _ _) rfl (Nat.le_of_ble_eq_true rfl) (Fx0.T tw_3_4) rfl (v := .ref (ad 24)) (congrArg (fun z => some (Value.ref z)) hm1) dX9_place_26 ?_
  refine rgN (Wf := fun z => Wf h z) (mm := m) hx hb hT hu6 hown hK hP (hL h) 24 2 (Nat.le_of_ble_eq_true rfl) (ms24 _ _) rfl (Nat.le_of_ble_eq_true rfl) tw_2_84 rfl (v := .ref (ad 26)) rfl dX9_place_29 ?_
  refine lv_iload_n hx hb dX9_place_32 rfl (lv_at hl 1 rfl) ?_
  obtain ⟨h3, hD⟩ := gd_el hD
  have hq4 : x1.toNatClampNeg < 4 := Nat.lt_of_not_le (fun z => h3 (Or.inr z))
  refine raald (Wf := fun z => Wf h z) (mm := m) hx hb hK hP (hL h) 26 4 (Nat.le_of_ble_eq_true rfl) (ms26 _ _) rfl h3 rfl dX9_place_33 ?_
  refine lv_astore_n (lv' := [(3, .ref (ad x1.toNatClampNeg)), (0, .ref (adh 0)), (1, .int x1), (2, .int x2)]) hx hb dX9_place_34 rfl hl (by decide) rfl (fun ls hl => ?_)
  refine lv_aload_n hx hb dX9_place_35 rfl (lv_at hl 1 rfl) ?_
  refine rg (Wf := fun z => Wf z m) (mm := h) hx hb hT hu9 hown hK hP (hLh m) 0 3 (Nat.le_of_ble_eq_true rfl) (hs0 _ _) rfl (Nat.le_of_ble_eq_true rfl) (Fx0.T tw_3_4) rfl (v := .ref (ad 24)) (congrArg (fun z => some (Value.ref z)) hm1) dX9_place_36 ?_
  refine rgN (Wf := fun z => Wf h z) (mm := m) hx hb hT hu6 hown hK hP (hL h) 24 8 (Nat.le_of_ble_eq_true rfl) (ms24 _ _) rfl (Nat.le_of_ble_eq_true rfl) tw_2_105 rfl (v := .ref (ad 36)) rfl dX9_place_39 ?_
  refine lv_astore (lv' := [(4, .ref (ad 36)), (3, .ref (ad x1.toNatClampNeg)), (0, .ref (adh 0)), (1, .int x1), (2, .int x2)]) hx hb dX9_place_42 hl (by decide) rfl (fun ls hl => ?_)
  refine lv_aload_n hx hb dX9_place_44 rfl (lv_at hl 1 rfl) ?_
  refine rgN (Wf := fun z => Wf h z) (mm := m) hx hb hT hu8 hown hK hP (hL h) x1.toNatClampNeg 1 (Nat.lt_of_lt_of_le hq4 (Nat.le_of_ble_eq_true rfl)) ((msp hq4) _ _) rfl (Nat.le_of_ble_eq_true rfl) tw_1_200 rfl (v := .int (gi m x1.toNatClampNeg 1)) rfl dX9_place_45 ?_
  refine lv_iconst (v := (-1 : Int32)) hx hb dX9_place_48 (by decide) ?_
  refine lv_icmp_eq (tgt := 68) hx hb dX9_place_49 (by decide) (fun c => ?_) (fun c => ?_)
  · have hD := ifp hD c
    refine lv_bipush (v := (-3 : Int32)) hx hb dX9_place_68 (by decide) ?_
    obtain ⟨rfl, rfl⟩ := es2 hD
    exact hret _ _ _ hP hS (fun Qc hq => W.iret hx hb hr hq hS.2.2 dX9_place_70 hlocks)
  · have hD := ifn hD c
    refine lv_aload_n hx hb dX9_place_52 rfl (lv_at hl 1 rfl) ?_
    refine rgN (Wf := fun z => Wf h z) (mm := m) hx hb hT hu8 hown hK hP (hL h) x1.toNatClampNeg 2 (Nat.lt_of_lt_of_le hq4 (Nat.le_of_ble_eq_true rfl)) ((msp hq4) _ _) rfl (Nat.le_of_ble_eq_true rfl) tw_1_204 rfl (v := .int (gi m x1.toNatClampNeg 2)) rfl dX9_place_53 ?_
    refine lv_if_eq (tgt := 68) hx hb dX9_place_56 (by decide) (fun c => ?_) (fun c => ?_)
    · have hD := ifp hD c
      refine lv_bipush (v := (-3 : Int32)) hx hb dX9_place_68 (by decide) ?_
      obtain ⟨rfl, rfl⟩ := es2 hD
      exact hret _ _ _ hP hS (fun Qc hq => W.iret hx hb hr hq hS.2.2 dX9_place_70 hlocks)
    · have hD := ifn hD c
      refine lv_aload hx hb dX9_place_59 (lv_at hl 0 rfl) ?_
      refine lv_iload_n hx hb dX9_place_61 rfl (lv_at hl 4 rfl) ?_
      obtain ⟨v5, z6, hD⟩ := b1_el hD
      refine rcVN (Wf := fun z => Wf h z) (mm := m) (As := [.int x2]) (rest := []) Fx0 (c_X0_isOpen l (Wf := fun z0_ => Wf h z0_) (hL h) (fun a0_ b0_ => hAd h h a0_ b0_) m x2 z6) hP (hD1 _ (hAd _ _ _ _)) hS (hA1 _ _ (hAd _ _ _ _) hS.1) (hL h) (Nat.le_of_ble_eq_true rfl) (ms36 _ _) rfl tw_5_195 tw_5_192 tw_5_194 ts_56 tw_1_4 yd_X0_isOpen ⟨(Nat.le_of_ble_eq_true rfl), (Nat.le_of_ble_eq_true rfl)⟩ rfl hl.1 rfl (Nat.le_of_ble_eq_true rfl) dX9_place_62 (fun H locs hP hS => ?_)
      refine lv_if_ne (tgt := 71) hx hb dX9_place_65 (by decide) (fun c => ?_) (fun c => ?_)
      · have hD := ifn hD c
        refine lv_aload_n hx hb dX9_place_71 rfl (lv_at hl 1 rfl) ?_
        refine rgN (Wf := fun z => Wf h z) (mm := m) hx hb hT hu8 hown hK hP (hL h) x1.toNatClampNeg 1 (Nat.lt_of_lt_of_le hq4 (Nat.le_of_ble_eq_true rfl)) ((msp hq4) _ _) rfl (Nat.le_of_ble_eq_true rfl) tw_1_200 rfl (v := .int (gi m x1.toNatClampNeg 1)) rfl dX9_place_72 ?_
        refine lv_aload hx hb dX9_place_75 (lv_at hl 0 rfl) ?_
        refine rgN (Wf := fun z => Wf h z) (mm := m) hx hb hT hu0 hown hK hP (hL h) 36 1 (Nat.le_of_ble_eq_true rfl) (ms36 _ _) rfl (Nat.le_of_ble_eq_true rfl) tw_1_100 rfl (v := .ref (ad 37)) rfl dX9_place_77 ?_
        refine lv_iload_n hx hb dX9_place_80 rfl (lv_at hl 4 rfl) ?_
        obtain ⟨h7, hD⟩ := gd_el hD
        refine riald (Wf := fun z => Wf h z) (mm := m) hx hb hK hP (hL h) 37 (Nat.le_of_ble_eq_true rfl) (ms37 _ _) h7 rfl dX9_place_81 ?_
        refine lv_icmp_eq (tgt := 88) hx hb dX9_place_82 (by decide) (fun c => ?_) (fun c => ?_)
        · have hD := ifp hD c
          refine lv_aload hx hb dX9_place_88 (lv_at hl 0 rfl) ?_
          refine lv_lconst (v := (1 : Int64)) hx hb dX9_place_90 (by decide) ?_
          refine lv_iload_n hx hb dX9_place_91 rfl (lv_at hl 4 rfl) ?_
          refine lv_lshl (v := ((1 : Int64) <<< (x2.toInt64 &&& 63))) hx hb dX9_place_92 rfl ?_
          obtain ⟨v8, z9, hD⟩ := b1_el hD
          refine rcVN (Wf := fun z => Wf h z) (mm := m) (As := [.long ((1 : Int64) <<< (x2.toInt64 &&& 63))]) (rest := []) Fx0 (c_X0_firstsOf l (Wf := fun z0_ => Wf h z0_) (hL h) (fun a0_ b0_ => hAd h h a0_ b0_) m ((1 : Int64) <<< (x2.toInt64 &&& 63)) z9) hP (hD1 _ (hAd _ _ _ _)) hS (hA1 _ _ (hAd _ _ _ _) hS.1) (hL h) (Nat.le_of_ble_eq_true rfl) (ms36 _ _) rfl tw_3_230 tw_5_196 tw_3_229 ts_32 tw_1_4 yd_X0_firstsOf ⟨(Nat.le_of_ble_eq_true rfl), (Nat.le_of_ble_eq_true rfl)⟩ rfl hl.1 rfl (Nat.le_of_ble_eq_true rfl) dX9_place_93 (fun H locs hP hS => ?_)
          refine lv_aload hx hb dX9_place_96 (lv_at hl 0 rfl) ?_
          refine rgN (Wf := fun z => Wf h z) (mm := m) hx hb hT hu0 hown hK hP (hL h) 36 7 (Nat.le_of_ble_eq_true rfl) (ms36 _ _) rfl (Nat.le_of_ble_eq_true rfl) tw_1_112 rfl (v := .long (gl m 36 7)) rfl dX9_place_98 ?_
          refine lv_land hx hb dX9_place_101 ?_
          refine lv_lconst (v := (0 : Int64)) hx hb dX9_place_102 (by decide) ?_
          refine rlc_eq (tgt := 110) hx hb dX9_place_103 dX9_place_104 (by decide) (fun c => ?_) (fun c => ?_)
          · have hD := ifp hD c
            refine lv_aload_n hx hb dX9_place_110 rfl (lv_at hl 2 rfl) ?_
            refine rg (Wf := fun z => Wf z m) (mm := h) hx hb hT hu9 hown hK hP (hLh m) 0 3 (Nat.le_of_ble_eq_true rfl) (hs0 _ _) rfl (Nat.le_of_ble_eq_true rfl) (Fx0.T tw_3_4) rfl (v := .ref (ad 24)) (congrArg (fun z => some (Value.ref z)) hm1) dX9_place_111 ?_
            refine lv_iconst (v := (4 : Int32)) hx hb dX9_place_114 (by decide) ?_
            refine lv_iload_n hx hb dX9_place_115 rfl (lv_at hl 3 rfl) ?_
            refine lv_iload_n hx hb dX9_place_116 rfl (lv_at hl 4 rfl) ?_
            obtain ⟨v10, m11, z12, hD⟩ := b2_el hD
            refine rcVN (Wf := fun z => Wf h z) (mm := m) (As := [.int (4 : Int32), .int x1, .int x2]) (rest := []) Fx0 (c_X6_perform l (Wf := fun z0_ => Wf h z0_) (hL h) (fun a0_ b0_ => hAd h h a0_ b0_) m (4 : Int32) x1 x2 z12) hP (hD1 _ (hAd _ _ _ _)) hS (hA1 _ _ (hAd _ _ _ _) hS.1) (hL h) (Nat.le_of_ble_eq_true rfl) (ms24 _ _) rfl tw_5_116 tw_5_113 tw_5_115 ts_42 tw_1_2 yd_X6_perform ⟨(Nat.le_of_ble_eq_true rfl), (Nat.le_of_ble_eq_true rfl)⟩ rfl hl.1 rfl (Nat.le_of_ble_eq_true rfl) dX9_place_117 (fun H locs hP hS => ?_)
            obtain ⟨rfl, rfl⟩ := es2 hD
            exact hret _ _ _ hP hS (fun Qc hq => W.iret hx hb hr hq hS.2.2 dX9_place_120 hlocks)
          · have hD := ifn hD c
            refine lv_bipush (v := (-6 : Int32)) hx hb dX9_place_107 (by decide) ?_
            obtain ⟨rfl, rfl⟩ := es2 hD
            exact hret _ _ _ hP hS (fun Qc hq => W.iret hx hb hr hq hS.2.2 dX9_place_109 hlocks)
        · have hD := ifn hD c
          refine lv_bipush (v := (-5 : Int32)) hx hb dX9_place_85 (by decide) ?_
          obtain ⟨rfl, rfl⟩ := es2 hD
          exact hret _ _ _ hP hS (fun Qc hq => W.iret hx hb hr hq hS.2.2 dX9_place_87 hlocks)
      · have hD := ifp hD c
        refine lv_bipush (v := (-3 : Int32)) hx hb dX9_place_68 (by decide) ?_
        obtain ⟨rfl, rfl⟩ := es2 hD
        exact hret _ _ _ hP hS (fun Qc hq => W.iret hx hb hr hq hS.2.2 dX9_place_70 hlocks)
set_option maxHeartbeats 4000000 in
set_option maxRecDepth 100000 in
theorem x_X9_place (l : Launch) (hst : l.stackTraces = false) {D : va_G} {cs : Nat → ClassId} {adh ad ma : Nat → Nat} {Wf : MM → MM → va_W} (hLh : ∀ m : MM, Ln 8 adh (hsh cs adh ma) (fun z => Wf z m)) (hL : ∀ h : MM, Ln 51 ad (msh cs ad) (fun z => Wf h z)) (hAd : ∀ a0_ b0_ a1_ b1_ : MM, (Wf a0_ a1_).map (fun q => q.1) = (Wf b0_ b1_).map (fun q => q.1)) (hm1 : ma 1 = ad 24) (h : MM) (m : MM) (x1 : Int32) (x2 : Int32) {kx : Nat} (hD : D_X9_place x1 x2 h m = some (.inl kx)) : CtX l yX9_place cX9_place 5 (some .int) 7 135 D cs [.ref (adh 0), .int x1, .int x2] (Wf h m) kx := by
  refine CtX.ofW (by decide) (Nat.le_of_ble_eq_true rfl) ?_
  intro p e s m0 below meth c A ls args hx hb hml hlocks hown hex hts hK hP hD1 hSS hS hA1 hl
  have hT : ∀ w ∈ TBL, w.before args s = true := fun w h => hts w (List.mem_cons_of_mem _ h)
  have Fx0 : Fx p l m0 c cX9_place 5 s args yX9_place cX9_place 5 (some .int) D cs A := ⟨hx, hb, hml, hown, hts, hK, hSS⟩
  have hown : s.vm.findClass RX9 = some m0.cls := hown
  have hl : lv_has ls 5 [(0, .ref (adh 0)), (1, .int x1), (2, .int x2)] := hl
  unfold D_X9_place at hD
  refine lv_iload_n hx hb dX9_place_0 rfl (lv_at hl 1 rfl) ?_
  refine lv_aload_n hx hb dX9_place_1 rfl (lv_at hl 0 rfl) ?_
  refine rg (Wf := fun z => Wf z m) (mm := h) hx hb hT hu9 hown hK hP (hLh m) 0 3 (Nat.le_of_ble_eq_true rfl) (hs0 _ _) rfl (Nat.le_of_ble_eq_true rfl) (Fx0.T tw_3_4) rfl (v := .ref (ad 24)) (congrArg (fun z => some (Value.ref z)) hm1) dX9_place_2 ?_
  refine rgN (Wf := fun z => Wf h z) (mm := m) hx hb hT hu6 hown hK hP (hL h) 24 1 (Nat.le_of_ble_eq_true rfl) (ms24 _ _) rfl (Nat.le_of_ble_eq_true rfl) tw_2_80 rfl (v := .int (gi m 24 1)) rfl dX9_place_5 ?_
  rcases bX_ex hD with z1 | ⟨u_, z1, hD⟩
  · exact rcX (As := [.int x1, .int (gi m 24 1)]) (rest := []) Fx0 (x_X9_requireIndex l hst x1 (gi m 24 1) z1) hP (hD1 _ (hAd _ _ _ _)) hS (hA1 _ _ (hAd _ _ _ _) hS.1) hlocks hex tw_5_96 tw_5_94 tw_5_95 tw_1_1 yd_X9_requireIndex ⟨⟨(Nat.le_of_ble_eq_true rfl), (Nat.le_of_ble_eq_true rfl)⟩, by decide, by decide⟩ rfl hl.1 rfl (Nat.le_of_ble_eq_true rfl) dX9_place_8
  refine rcS (As := [.int x1, .int (gi m 24 1)]) (rest := []) Fx0 (c_X9_requireIndex l x1 (gi m 24 1) z1) hP (hD1 _ (hAd _ _ _ _)) hS (hA1 _ _ (hAd _ _ _ _) hS.1) tw_5_96 tw_5_94 tw_5_95 tw_1_1 yd_X9_requireIndex ⟨(Nat.le_of_ble_eq_true rfl), (Nat.le_of_ble_eq_true rfl)⟩ rfl hl.1 rfl (Nat.le_of_ble_eq_true rfl) dX9_place_8 (fun H locs hP hS => ?_)
  refine lv_iload_n hx hb dX9_place_11 rfl (lv_at hl 2 rfl) ?_
  refine lv_aload_n hx hb dX9_place_12 rfl (lv_at hl 0 rfl) ?_
  refine rg (Wf := fun z => Wf z m) (mm := h) hx hb hT hu9 hown hK hP (hLh m) 0 3 (Nat.le_of_ble_eq_true rfl) (hs0 _ _) rfl (Nat.le_of_ble_eq_true rfl) (Fx0.T tw_3_4) rfl (v := .ref (ad 24)) (congrArg (fun z => some (Value.ref z)) hm1) dX9_place_13 ?_
  refine rgN (Wf := fun z => Wf h z) (mm := m) hx hb hT hu6 hown hK hP (hL h) 24 8 (Nat.le_of_ble_eq_true rfl) (ms24 _ _) rfl (Nat.le_of_ble_eq_true rfl) tw_2_105 rfl (v := .ref (ad 36)) rfl dX9_place_16 ?_
  refine rgN (Wf := fun z => Wf h z) (mm := m) hx hb hT hu0 hown hK hP (hL h) 36 0 (Nat.le_of_ble_eq_true rfl) (ms36 _ _) rfl (Nat.le_of_ble_eq_true rfl) tw_1_96 rfl (v := .int (gi m 36 0)) rfl dX9_place_19 ?_
  rcases bX_ex hD with z2 | ⟨u_, z2, hD⟩
  · exact rcX (As := [.int x2, .int (gi m 36 0)]) (rest := []) Fx0 (x_X9_requireIndex l hst x2 (gi m 36 0) z2) hP (hD1 _ (hAd _ _ _ _)) hS (hA1 _ _ (hAd _ _ _ _) hS.1) hlocks hex tw_5_96 tw_5_94 tw_5_95 tw_1_1 yd_X9_requireIndex ⟨⟨(Nat.le_of_ble_eq_true rfl), (Nat.le_of_ble_eq_true rfl)⟩, by decide, by decide⟩ rfl hl.1 rfl (Nat.le_of_ble_eq_true rfl) dX9_place_22
  refine rcS (As := [.int x2, .int (gi m 36 0)]) (rest := []) Fx0 (c_X9_requireIndex l x2 (gi m 36 0) z2) hP (hD1 _ (hAd _ _ _ _)) hS (hA1 _ _ (hAd _ _ _ _) hS.1) tw_5_96 tw_5_94 tw_5_95 tw_1_1 yd_X9_requireIndex ⟨(Nat.le_of_ble_eq_true rfl), (Nat.le_of_ble_eq_true rfl)⟩ rfl hl.1 rfl (Nat.le_of_ble_eq_true rfl) dX9_place_22 (fun H locs hP hS => ?_)
  exact lif_no hD

noncomputable def D_X9_discard (x1 : Int32) (h : MM) (m : MM) : Option (Nat ⊕ (Int32 × MM)) := bX (D_X9_requireIndex x1 (gi m 24 1)) (fun _ => lif (if x1 < 0 ∨ 4 ≤ x1.toNatClampNeg then none else (if (gi m x1.toNatClampNeg 1) = (-1 : Int32) then (some ((-3 : Int32), m)) else (b2 (D_X6_perform (5 : Int32) x1 (0 : Int32) m) (fun v4 m5 => some (v4, m5))))))
set_option maxHeartbeats 4000000 in
set_option maxRecDepth 100000 in
theorem c_X9_discard (l : Launch) {D : va_G} {cs : Nat → ClassId} {adh ad ma : Nat → Nat} {Wf : MM → MM → va_W} (hLh : ∀ m : MM, Ln 8 adh (hsh cs adh ma) (fun z => Wf z m)) (hL : ∀ h : MM, Ln 51 ad (msh cs ad) (fun z => Wf h z)) (hAd : ∀ a0_ b0_ a1_ b1_ : MM, (Wf a0_ a1_).map (fun q => q.1) = (Wf b0_ b1_).map (fun q => q.1)) (hm1 : ma 1 = ad 24) (h : MM) (m : MM) (x1 : Int32) {rr : Int32} {m' : MM} (hD : D_X9_discard x1 h m = some (.inr (rr, m'))) : Ct l yX9_discard cX9_discard 2 (some .int) 7 135 D cs [.ref (adh 0), .int x1] (Wf h m) (Wf h m') (some (.int rr)) := by
  refine Ct.ofW (by decide) (Nat.le_of_ble_eq_true rfl) (hAd _ _ _ _) ?_
  intro p e s m0 below meth c A Q ls args hx hb hr hml hlocks hown hts hK hP hD1 hSS hS hA1 hl hret
  have hT : ∀ w ∈ TBL, w.before args s = true := fun w h => hts w (List.mem_cons_of_mem _ h)
  have Fx0 : Fx p l m0 c cX9_discard 2 s args yX9_discard cX9_discard 2 (some .int) D cs A := ⟨hx, hb, hml, hown, hts, hK, hSS⟩
  have hown : s.vm.findClass RX9 = some m0.cls := hown
  have hl : lv_has ls 2 [(0, .ref (adh 0)), (1, .int x1)] := hl
  unfold D_X9_discard at hD
  refine lv_iload_n hx hb dX9_discard_0 rfl (lv_at hl 1 rfl) ?_
  refine lv_aload_n hx hb dX9_discard_1 rfl (lv_at hl 0 rfl) ?_
  refine rg (Wf := fun z => Wf z m) (mm := h) hx hb hT hu9 hown hK hP (hLh m) 0 3 (Nat.le_of_ble_eq_true rfl) (hs0 _ _) rfl (Nat.le_of_ble_eq_true rfl) (Fx0.T tw_3_4) rfl (v := .ref (ad 24)) (congrArg (fun z => some (Value.ref z)) hm1) dX9_discard_2 ?_
  refine rgN (Wf := fun z => Wf h z) (mm := m) hx hb hT hu6 hown hK hP (hL h) 24 1 (Nat.le_of_ble_eq_true rfl) (ms24 _ _) rfl (Nat.le_of_ble_eq_true rfl) tw_2_80 rfl (v := .int (gi m 24 1)) rfl dX9_discard_5 ?_
  obtain ⟨u_, z1, hD⟩ := bX_el hD
  refine rcS (As := [.int x1, .int (gi m 24 1)]) (rest := []) Fx0 (c_X9_requireIndex l x1 (gi m 24 1) z1) hP (hD1 _ (hAd _ _ _ _)) hS (hA1 _ _ (hAd _ _ _ _) hS.1) tw_5_96 tw_5_94 tw_5_95 tw_1_1 yd_X9_requireIndex ⟨(Nat.le_of_ble_eq_true rfl), (Nat.le_of_ble_eq_true rfl)⟩ rfl hl.1 rfl (Nat.le_of_ble_eq_true rfl) dX9_discard_8 (fun H locs hP hS => ?_)
  have hD := lif_el hD
  refine lv_aload_n hx hb dX9_discard_11 rfl (lv_at hl 0 rfl) ?_
  refine rg (Wf := fun z => Wf z m) (mm := h) hx hb hT hu9 hown hK hP (hLh m) 0 3 (Nat.le_of_ble_eq_true rfl) (hs0 _ _) rfl (Nat.le_of_ble_eq_true rfl) (Fx0.T tw_3_4) rfl (v := .ref (ad 24)) (congrArg (fun z => some (Value.ref z)) hm1) dX9_discard_12 ?_
  refine rgN (Wf := fun z => Wf h z) (mm := m) hx hb hT hu6 hown hK hP (hL h) 24 2 (Nat.le_of_ble_eq_true rfl) (ms24 _ _) rfl (Nat.le_of_ble_eq_true rfl) tw_2_84 rfl (v := .ref (ad 26)) rfl dX9_discard_15 ?_
  refine lv_iload_n hx hb dX9_discard_18 rfl (lv_at hl 1 rfl) ?_
  obtain ⟨h2, hD⟩ := gd_el hD
  have hq3 : x1.toNatClampNeg < 4 := Nat.lt_of_not_le (fun z => h2 (Or.inr z))
  refine raald (Wf := fun z => Wf h z) (mm := m) hx hb hK hP (hL h) 26 4 (Nat.le_of_ble_eq_true rfl) (ms26 _ _) rfl h2 rfl dX9_discard_19 ?_
  refine rgN (Wf := fun z => Wf h z) (mm := m) hx hb hT hu8 hown hK hP (hL h) x1.toNatClampNeg 1 (Nat.lt_of_lt_of_le hq3 (Nat.le_of_ble_eq_true rfl)) ((msp hq3) _ _) rfl (Nat.le_of_ble_eq_true rfl) tw_1_200 rfl (v := .int (gi m x1.toNatClampNeg 1)) rfl dX9_discard_20 ?_
  refine lv_iconst (v := (-1 : Int32)) hx hb dX9_discard_23 (by decide) ?_
  refine lv_icmp_ne (tgt := 30) hx hb dX9_discard_24 (by decide) (fun c => ?_) (fun c => ?_)
  · have hD := ifn hD c
    refine lv_aload_n hx hb dX9_discard_30 rfl (lv_at hl 0 rfl) ?_
    refine rg (Wf := fun z => Wf z m) (mm := h) hx hb hT hu9 hown hK hP (hLh m) 0 3 (Nat.le_of_ble_eq_true rfl) (hs0 _ _) rfl (Nat.le_of_ble_eq_true rfl) (Fx0.T tw_3_4) rfl (v := .ref (ad 24)) (congrArg (fun z => some (Value.ref z)) hm1) dX9_discard_31 ?_
    refine lv_iconst (v := (5 : Int32)) hx hb dX9_discard_34 (by decide) ?_
    refine lv_iload_n hx hb dX9_discard_35 rfl (lv_at hl 1 rfl) ?_
    refine lv_iconst (v := (0 : Int32)) hx hb dX9_discard_36 (by decide) ?_
    obtain ⟨v4, m5, z6, hD⟩ := b2_el hD
    refine rcVN (Wf := fun z => Wf h z) (mm := m) (As := [.int (5 : Int32), .int x1, .int (0 : Int32)]) (rest := []) Fx0 (c_X6_perform l (Wf := fun z0_ => Wf h z0_) (hL h) (fun a0_ b0_ => hAd h h a0_ b0_) m (5 : Int32) x1 (0 : Int32) z6) hP (hD1 _ (hAd _ _ _ _)) hS (hA1 _ _ (hAd _ _ _ _) hS.1) (hL h) (Nat.le_of_ble_eq_true rfl) (ms24 _ _) rfl tw_5_116 tw_5_113 tw_5_115 ts_42 tw_1_2 yd_X6_perform ⟨(Nat.le_of_ble_eq_true rfl), (Nat.le_of_ble_eq_true rfl)⟩ rfl hl.1 rfl (Nat.le_of_ble_eq_true rfl) dX9_discard_37 (fun H locs hP hS => ?_)
    obtain ⟨rfl, rfl⟩ := es2 hD
    exact hret _ _ _ hP hS (fun Qc hq => W.iret hx hb hr hq hS.2.2 dX9_discard_40 hlocks)
  · have hD := ifp hD c
    refine lv_bipush (v := (-3 : Int32)) hx hb dX9_discard_27 (by decide) ?_
    obtain ⟨rfl, rfl⟩ := es2 hD
    exact hret _ _ _ hP hS (fun Qc hq => W.iret hx hb hr hq hS.2.2 dX9_discard_29 hlocks)
set_option maxHeartbeats 4000000 in
set_option maxRecDepth 100000 in
theorem x_X9_discard (l : Launch) (hst : l.stackTraces = false) {D : va_G} {cs : Nat → ClassId} {adh ad ma : Nat → Nat} {Wf : MM → MM → va_W} (hLh : ∀ m : MM, Ln 8 adh (hsh cs adh ma) (fun z => Wf z m)) (hL : ∀ h : MM, Ln 51 ad (msh cs ad) (fun z => Wf h z)) (hAd : ∀ a0_ b0_ a1_ b1_ : MM, (Wf a0_ a1_).map (fun q => q.1) = (Wf b0_ b1_).map (fun q => q.1)) (hm1 : ma 1 = ad 24) (h : MM) (m : MM) (x1 : Int32) {kx : Nat} (hD : D_X9_discard x1 h m = some (.inl kx)) : CtX l yX9_discard cX9_discard 2 (some .int) 7 135 D cs [.ref (adh 0), .int x1] (Wf h m) kx := by
  refine CtX.ofW (by decide) (Nat.le_of_ble_eq_true rfl) ?_
  intro p e s m0 below meth c A ls args hx hb hml hlocks hown hex hts hK hP hD1 hSS hS hA1 hl
  have hT : ∀ w ∈ TBL, w.before args s = true := fun w h => hts w (List.mem_cons_of_mem _ h)
  have Fx0 : Fx p l m0 c cX9_discard 2 s args yX9_discard cX9_discard 2 (some .int) D cs A := ⟨hx, hb, hml, hown, hts, hK, hSS⟩
  have hown : s.vm.findClass RX9 = some m0.cls := hown
  have hl : lv_has ls 2 [(0, .ref (adh 0)), (1, .int x1)] := hl
  unfold D_X9_discard at hD
  refine lv_iload_n hx hb dX9_discard_0 rfl (lv_at hl 1 rfl) ?_
  refine lv_aload_n hx hb dX9_discard_1 rfl (lv_at hl 0 rfl) ?_
  refine rg (Wf := fun z => Wf z m) (mm := h) hx hb hT hu9 hown hK hP (hLh m) 0 3 (Nat.le_of_ble_eq_true rfl) (hs0 _ _) rfl (Nat.le_of_ble_eq_true rfl) (Fx0.T tw_3_4) rfl (v := .ref (ad 24)) (congrArg (fun z => some (Value.ref z)) hm1) dX9_discard_2 ?_
  refine rgN (Wf := fun z => Wf h z) (mm := m) hx hb hT hu6 hown hK hP (hL h) 24 1 (Nat.le_of_ble_eq_true rfl) (ms24 _ _) rfl (Nat.le_of_ble_eq_true rfl) tw_2_80 rfl (v := .int (gi m 24 1)) rfl dX9_discard_5 ?_
  rcases bX_ex hD with z1 | ⟨u_, z1, hD⟩
  · exact rcX (As := [.int x1, .int (gi m 24 1)]) (rest := []) Fx0 (x_X9_requireIndex l hst x1 (gi m 24 1) z1) hP (hD1 _ (hAd _ _ _ _)) hS (hA1 _ _ (hAd _ _ _ _) hS.1) hlocks hex tw_5_96 tw_5_94 tw_5_95 tw_1_1 yd_X9_requireIndex ⟨⟨(Nat.le_of_ble_eq_true rfl), (Nat.le_of_ble_eq_true rfl)⟩, by decide, by decide⟩ rfl hl.1 rfl (Nat.le_of_ble_eq_true rfl) dX9_discard_8
  refine rcS (As := [.int x1, .int (gi m 24 1)]) (rest := []) Fx0 (c_X9_requireIndex l x1 (gi m 24 1) z1) hP (hD1 _ (hAd _ _ _ _)) hS (hA1 _ _ (hAd _ _ _ _) hS.1) tw_5_96 tw_5_94 tw_5_95 tw_1_1 yd_X9_requireIndex ⟨(Nat.le_of_ble_eq_true rfl), (Nat.le_of_ble_eq_true rfl)⟩ rfl hl.1 rfl (Nat.le_of_ble_eq_true rfl) dX9_discard_8 (fun H locs hP hS => ?_)
  exact lif_no hD

noncomputable def D_X9_clean (x1 : Int32) (h : MM) (m : MM) : Option (Nat ⊕ (Int32 × MM)) := bX (D_X9_requireIndex x1 (gi m 24 1)) (fun _ => lif (if x1 < 0 ∨ 4 ≤ x1.toNatClampNeg then none else (if (gi m x1.toNatClampNeg 1) = (-1 : Int32) then (if (gi m x1.toNatClampNeg 0) = (-1 : Int32) then (some ((-4 : Int32), m)) else (b2 (D_X6_perform (6 : Int32) x1 (0 : Int32) m) (fun v4 m5 => some (v4, m5)))) else (some ((-3 : Int32), m)))))
set_option maxHeartbeats 4000000 in
set_option maxRecDepth 100000 in
theorem c_X9_clean (l : Launch) {D : va_G} {cs : Nat → ClassId} {adh ad ma : Nat → Nat} {Wf : MM → MM → va_W} (hLh : ∀ m : MM, Ln 8 adh (hsh cs adh ma) (fun z => Wf z m)) (hL : ∀ h : MM, Ln 51 ad (msh cs ad) (fun z => Wf h z)) (hAd : ∀ a0_ b0_ a1_ b1_ : MM, (Wf a0_ a1_).map (fun q => q.1) = (Wf b0_ b1_).map (fun q => q.1)) (hm1 : ma 1 = ad 24) (h : MM) (m : MM) (x1 : Int32) {rr : Int32} {m' : MM} (hD : D_X9_clean x1 h m = some (.inr (rr, m'))) : Ct l yX9_clean cX9_clean 3 (some .int) 7 135 D cs [.ref (adh 0), .int x1] (Wf h m) (Wf h m') (some (.int rr)) := by
  refine Ct.ofW (by decide) (Nat.le_of_ble_eq_true rfl) (hAd _ _ _ _) ?_
  intro p e s m0 below meth c A Q ls args hx hb hr hml hlocks hown hts hK hP hD1 hSS hS hA1 hl hret
  have hT : ∀ w ∈ TBL, w.before args s = true := fun w h => hts w (List.mem_cons_of_mem _ h)
  have Fx0 : Fx p l m0 c cX9_clean 3 s args yX9_clean cX9_clean 3 (some .int) D cs A := ⟨hx, hb, hml, hown, hts, hK, hSS⟩
  have hown : s.vm.findClass RX9 = some m0.cls := hown
  have hl : lv_has ls 3 [(0, .ref (adh 0)), (1, .int x1)] := hl
  unfold D_X9_clean at hD
  refine lv_iload_n hx hb dX9_clean_0 rfl (lv_at hl 1 rfl) ?_
  refine lv_aload_n hx hb dX9_clean_1 rfl (lv_at hl 0 rfl) ?_
  refine rg (Wf := fun z => Wf z m) (mm := h) hx hb hT hu9 hown hK hP (hLh m) 0 3 (Nat.le_of_ble_eq_true rfl) (hs0 _ _) rfl (Nat.le_of_ble_eq_true rfl) (Fx0.T tw_3_4) rfl (v := .ref (ad 24)) (congrArg (fun z => some (Value.ref z)) hm1) dX9_clean_2 ?_
  refine rgN (Wf := fun z => Wf h z) (mm := m) hx hb hT hu6 hown hK hP (hL h) 24 1 (Nat.le_of_ble_eq_true rfl) (ms24 _ _) rfl (Nat.le_of_ble_eq_true rfl) tw_2_80 rfl (v := .int (gi m 24 1)) rfl dX9_clean_5 ?_
  obtain ⟨u_, z1, hD⟩ := bX_el hD
  refine rcS (As := [.int x1, .int (gi m 24 1)]) (rest := []) Fx0 (c_X9_requireIndex l x1 (gi m 24 1) z1) hP (hD1 _ (hAd _ _ _ _)) hS (hA1 _ _ (hAd _ _ _ _) hS.1) tw_5_96 tw_5_94 tw_5_95 tw_1_1 yd_X9_requireIndex ⟨(Nat.le_of_ble_eq_true rfl), (Nat.le_of_ble_eq_true rfl)⟩ rfl hl.1 rfl (Nat.le_of_ble_eq_true rfl) dX9_clean_8 (fun H locs hP hS => ?_)
  have hD := lif_el hD
  refine lv_aload_n hx hb dX9_clean_11 rfl (lv_at hl 0 rfl) ?_
  refine rg (Wf := fun z => Wf z m) (mm := h) hx hb hT hu9 hown hK hP (hLh m) 0 3 (Nat.le_of_ble_eq_true rfl) (hs0 _ _) rfl (Nat.le_of_ble_eq_true rfl) (Fx0.T tw_3_4) rfl (v := .ref (ad 24)) (congrArg (fun z => some (Value.ref z)) hm1) dX9_clean_12 ?_
  refine rgN (Wf := fun z => Wf h z) (mm := m) hx hb hT hu6 hown hK hP (hL h) 24 2 (Nat.le_of_ble_eq_true rfl) (ms24 _ _) rfl (Nat.le_of_ble_eq_true rfl) tw_2_84 rfl (v := .ref (ad 26)) rfl dX9_clean_15 ?_
  refine lv_iload_n hx hb dX9_clean_18 rfl (lv_at hl 1 rfl) ?_
  obtain ⟨h2, hD⟩ := gd_el hD
  have hq3 : x1.toNatClampNeg < 4 := Nat.lt_of_not_le (fun z => h2 (Or.inr z))
  refine raald (Wf := fun z => Wf h z) (mm := m) hx hb hK hP (hL h) 26 4 (Nat.le_of_ble_eq_true rfl) (ms26 _ _) rfl h2 rfl dX9_clean_19 ?_
  refine lv_astore_n (lv' := [(2, .ref (ad x1.toNatClampNeg)), (0, .ref (adh 0)), (1, .int x1)]) hx hb dX9_clean_20 rfl hl (by decide) rfl (fun ls hl => ?_)
  refine lv_aload_n hx hb dX9_clean_21 rfl (lv_at hl 0 rfl) ?_
  refine rgN (Wf := fun z => Wf h z) (mm := m) hx hb hT hu8 hown hK hP (hL h) x1.toNatClampNeg 1 (Nat.lt_of_lt_of_le hq3 (Nat.le_of_ble_eq_true rfl)) ((msp hq3) _ _) rfl (Nat.le_of_ble_eq_true rfl) tw_1_200 rfl (v := .int (gi m x1.toNatClampNeg 1)) rfl dX9_clean_22 ?_
  refine lv_iconst (v := (-1 : Int32)) hx hb dX9_clean_25 (by decide) ?_
  refine lv_icmp_eq (tgt := 32) hx hb dX9_clean_26 (by decide) (fun c => ?_) (fun c => ?_)
  · have hD := ifp hD c
    refine lv_aload_n hx hb dX9_clean_32 rfl (lv_at hl 0 rfl) ?_
    refine rgN (Wf := fun z => Wf h z) (mm := m) hx hb hT hu8 hown hK hP (hL h) x1.toNatClampNeg 0 (Nat.lt_of_lt_of_le hq3 (Nat.le_of_ble_eq_true rfl)) ((msp hq3) _ _) rfl (Nat.le_of_ble_eq_true rfl) tw_1_196 rfl (v := .int (gi m x1.toNatClampNeg 0)) rfl dX9_clean_33 ?_
    refine lv_iconst (v := (-1 : Int32)) hx hb dX9_clean_36 (by decide) ?_
    refine lv_icmp_ne (tgt := 43) hx hb dX9_clean_37 (by decide) (fun c => ?_) (fun c => ?_)
    · have hD := ifn hD c
      refine lv_aload_n hx hb dX9_clean_43 rfl (lv_at hl 1 rfl) ?_
      refine rg (Wf := fun z => Wf z m) (mm := h) hx hb hT hu9 hown hK hP (hLh m) 0 3 (Nat.le_of_ble_eq_true rfl) (hs0 _ _) rfl (Nat.le_of_ble_eq_true rfl) (Fx0.T tw_3_4) rfl (v := .ref (ad 24)) (congrArg (fun z => some (Value.ref z)) hm1) dX9_clean_44 ?_
      refine lv_bipush (v := (6 : Int32)) hx hb dX9_clean_47 (by decide) ?_
      refine lv_iload_n hx hb dX9_clean_49 rfl (lv_at hl 2 rfl) ?_
      refine lv_iconst (v := (0 : Int32)) hx hb dX9_clean_50 (by decide) ?_
      obtain ⟨v4, m5, z6, hD⟩ := b2_el hD
      refine rcVN (Wf := fun z => Wf h z) (mm := m) (As := [.int (6 : Int32), .int x1, .int (0 : Int32)]) (rest := []) Fx0 (c_X6_perform l (Wf := fun z0_ => Wf h z0_) (hL h) (fun a0_ b0_ => hAd h h a0_ b0_) m (6 : Int32) x1 (0 : Int32) z6) hP (hD1 _ (hAd _ _ _ _)) hS (hA1 _ _ (hAd _ _ _ _) hS.1) (hL h) (Nat.le_of_ble_eq_true rfl) (ms24 _ _) rfl tw_5_116 tw_5_113 tw_5_115 ts_42 tw_1_2 yd_X6_perform ⟨(Nat.le_of_ble_eq_true rfl), (Nat.le_of_ble_eq_true rfl)⟩ rfl hl.1 rfl (Nat.le_of_ble_eq_true rfl) dX9_clean_51 (fun H locs hP hS => ?_)
      obtain ⟨rfl, rfl⟩ := es2 hD
      exact hret _ _ _ hP hS (fun Qc hq => W.iret hx hb hr hq hS.2.2 dX9_clean_54 hlocks)
    · have hD := ifp hD c
      refine lv_bipush (v := (-4 : Int32)) hx hb dX9_clean_40 (by decide) ?_
      obtain ⟨rfl, rfl⟩ := es2 hD
      exact hret _ _ _ hP hS (fun Qc hq => W.iret hx hb hr hq hS.2.2 dX9_clean_42 hlocks)
  · have hD := ifn hD c
    refine lv_bipush (v := (-3 : Int32)) hx hb dX9_clean_29 (by decide) ?_
    obtain ⟨rfl, rfl⟩ := es2 hD
    exact hret _ _ _ hP hS (fun Qc hq => W.iret hx hb hr hq hS.2.2 dX9_clean_31 hlocks)
set_option maxHeartbeats 4000000 in
set_option maxRecDepth 100000 in
theorem x_X9_clean (l : Launch) (hst : l.stackTraces = false) {D : va_G} {cs : Nat → ClassId} {adh ad ma : Nat → Nat} {Wf : MM → MM → va_W} (hLh : ∀ m : MM, Ln 8 adh (hsh cs adh ma) (fun z => Wf z m)) (hL : ∀ h : MM, Ln 51 ad (msh cs ad) (fun z => Wf h z)) (hAd : ∀ a0_ b0_ a1_ b1_ : MM, (Wf a0_ a1_).map (fun q => q.1) = (Wf b0_ b1_).map (fun q => q.1)) (hm1 : ma 1 = ad 24) (h : MM) (m : MM) (x1 : Int32) {kx : Nat} (hD : D_X9_clean x1 h m = some (.inl kx)) : CtX l yX9_clean cX9_clean 3 (some .int) 7 135 D cs [.ref (adh 0), .int x1] (Wf h m) kx := by
  refine CtX.ofW (by decide) (Nat.le_of_ble_eq_true rfl) ?_
  intro p e s m0 below meth c A ls args hx hb hml hlocks hown hex hts hK hP hD1 hSS hS hA1 hl
  have hT : ∀ w ∈ TBL, w.before args s = true := fun w h => hts w (List.mem_cons_of_mem _ h)
  have Fx0 : Fx p l m0 c cX9_clean 3 s args yX9_clean cX9_clean 3 (some .int) D cs A := ⟨hx, hb, hml, hown, hts, hK, hSS⟩
  have hown : s.vm.findClass RX9 = some m0.cls := hown
  have hl : lv_has ls 3 [(0, .ref (adh 0)), (1, .int x1)] := hl
  unfold D_X9_clean at hD
  refine lv_iload_n hx hb dX9_clean_0 rfl (lv_at hl 1 rfl) ?_
  refine lv_aload_n hx hb dX9_clean_1 rfl (lv_at hl 0 rfl) ?_
  refine rg (Wf := fun z => Wf z m) (mm := h) hx hb hT hu9 hown hK hP (hLh m) 0 3 (Nat.le_of_ble_eq_true rfl) (hs0 _ _) rfl (Nat.le_of_ble_eq_true rfl) (Fx0.T tw_3_4) rfl (v := .ref (ad 24)) (congrArg (fun z => some (Value.ref z)) hm1) dX9_clean_2 ?_
  refine rgN (Wf := fun z => Wf h z) (mm := m) hx hb hT hu6 hown hK hP (hL h) 24 1 (Nat.le_of_ble_eq_true rfl) (ms24 _ _) rfl (Nat.le_of_ble_eq_true rfl) tw_2_80 rfl (v := .int (gi m 24 1)) rfl dX9_clean_5 ?_
  rcases bX_ex hD with z1 | ⟨u_, z1, hD⟩
  · exact rcX (As := [.int x1, .int (gi m 24 1)]) (rest := []) Fx0 (x_X9_requireIndex l hst x1 (gi m 24 1) z1) hP (hD1 _ (hAd _ _ _ _)) hS (hA1 _ _ (hAd _ _ _ _) hS.1) hlocks hex tw_5_96 tw_5_94 tw_5_95 tw_1_1 yd_X9_requireIndex ⟨⟨(Nat.le_of_ble_eq_true rfl), (Nat.le_of_ble_eq_true rfl)⟩, by decide, by decide⟩ rfl hl.1 rfl (Nat.le_of_ble_eq_true rfl) dX9_clean_8
  refine rcS (As := [.int x1, .int (gi m 24 1)]) (rest := []) Fx0 (c_X9_requireIndex l x1 (gi m 24 1) z1) hP (hD1 _ (hAd _ _ _ _)) hS (hA1 _ _ (hAd _ _ _ _) hS.1) tw_5_96 tw_5_94 tw_5_95 tw_1_1 yd_X9_requireIndex ⟨(Nat.le_of_ble_eq_true rfl), (Nat.le_of_ble_eq_true rfl)⟩ rfl hl.1 rfl (Nat.le_of_ble_eq_true rfl) dX9_clean_8 (fun H locs hP hS => ?_)
  exact lif_no hD

noncomputable def D_X9_run_10 : Nat → Int32 → Int32 → MM → MM → Option (Int32 × MM × MM)
  | 0, _, _, _, _ => none
  | n + 1, x1, x2, h, m => if x1 ≤ x2 then (some (x1, h, m)) else (b3 (D_X7_follow 1 h m) (fun v2 m3 m4 => if v2 = (-1 : Int32) then (some (x2, m3, m4)) else (bnd (x2 + (1 : Int32)) (fun v6 => D_X9_run_10 n x1 v6 m3 m4))))
noncomputable def D_X9_run (x1 : Int32) (h : MM) (m : MM) : Option (Nat ⊕ (Int32 × MM × MM)) := bX (D_X9_requireRange x1 (1 : Int32) (500 : Int32)) (fun _ => lif (D_X9_run_10 FU x1 (0 : Int32) h m))
set_option maxHeartbeats 4000000 in
set_option maxRecDepth 100000 in
theorem c_X9_run (l : Launch) {D : va_G} {cs : Nat → ClassId} {adh ad ma : Nat → Nat} {Wf : MM → MM → va_W} (hLh : ∀ m : MM, Ln 8 adh (hsh cs adh ma) (fun z => Wf z m)) (hL : ∀ h : MM, Ln 51 ad (msh cs ad) (fun z => Wf h z)) (hAd : ∀ a0_ b0_ a1_ b1_ : MM, (Wf a0_ a1_).map (fun q => q.1) = (Wf b0_ b1_).map (fun q => q.1)) (hm1 : ma 1 = ad 24) (h : MM) (m : MM) (x1 : Int32) {rr : Int32} {h' : MM} {m' : MM} (hD : D_X9_run x1 h m = some (.inr (rr, h', m'))) : Ct l yX9_run cX9_run 3 (some .int) 7 155 D cs [.ref (adh 0), .int x1] (Wf h m) (Wf h' m') (some (.int rr)) := by
  refine Ct.ofW (by decide) (Nat.le_of_ble_eq_true rfl) (hAd _ _ _ _) ?_
  intro p e s m0 below meth c A Q ls args hx hb hr hml hlocks hown hts hK hP hD1 hSS hS hA1 hl hret
  have hT : ∀ w ∈ TBL, w.before args s = true := fun w h => hts w (List.mem_cons_of_mem _ h)
  have Fx0 : Fx p l m0 c cX9_run 3 s args yX9_run cX9_run 3 (some .int) D cs A := ⟨hx, hb, hml, hown, hts, hK, hSS⟩
  have hown : s.vm.findClass RX9 = some m0.cls := hown
  have hl : lv_has ls 3 [(0, .ref (adh 0)), (1, .int x1)] := hl
  unfold D_X9_run at hD
  have c_10 : ∀ (n : Nat), ∀ (x1 : Int32) (x2 : Int32) (h : MM) (m : MM) (H : Heap) (locs : List Loc) (ls : Array Slot), D_X9_run_10 n x1 x2 h m = some (rr, h', m') → va_P D vwCl (Wf h m) H → va_S A s.heap H locs → lv_has ls 3 [(0, .ref (adh 0)), (1, .int x1), (2, .int x2)] → W p l e ({ frames := 7, cells := 0, slots := 0, locals := 155 } : Room) s m0 args below meth c H locs 0 0 Q (F0 m0 10 ls []) := by
    intro n
    induction n with
    | zero =>
      intro x1 x2 h m H locs ls hD hP hS hl
      exact nn_el hD
    | succ n ih =>
      intro x1 x2 h m H locs ls hD hP hS hl
      rw [D_X9_run_10] at hD
      refine lv_iload_n hx hb dX9_run_10 rfl (lv_at hl 2 rfl) ?_
      refine lv_iload_n hx hb dX9_run_11 rfl (lv_at hl 1 rfl) ?_
      refine lv_icmp_ge (tgt := 34) hx hb dX9_run_12 (by decide) (fun c => ?_) (fun c => ?_)
      · have hD := ifp hD c
        refine lv_iload_n hx hb dX9_run_34 rfl (lv_at hl 1 rfl) ?_
        obtain ⟨rfl, rfl, rfl⟩ := es3 hD
        exact hret _ _ _ hP hS (fun Qc hq => W.iret hx hb hr hq hS.2.2 dX9_run_35 hlocks)
      · have hD := ifn hD c
        refine lv_aload_n hx hb dX9_run_15 rfl (lv_at hl 0 rfl) ?_
        refine rg (Wf := fun z => Wf z m) (mm := h) hx hb hT hu9 hown hK hP (hLh m) 0 4 (Nat.le_of_ble_eq_true rfl) (hs0 _ _) rfl (Nat.le_of_ble_eq_true rfl) (Fx0.T tw_3_5) rfl (v := .ref (adh 1)) rfl dX9_run_16 ?_
        obtain ⟨v2, m3, m4, z5, hD⟩ := b3_el hD
        refine rcVN (Wf := fun z => Wf z m) (mm := h) (As := []) (rest := []) Fx0 (c_X7_follow l (Wf := fun z0_ z1_ => Wf z0_ z1_) (fun z1_ => hLh z1_) (fun z0_ => hL z0_) (fun a0_ b0_ a1_ b1_ => hAd a0_ b0_ a1_ b1_) h m 1 (by decide) (by decide) hm1 z5) hP (hD1 _ (hAd _ _ _ _)) hS (hA1 _ _ (hAd _ _ _ _) hS.1) (hLh m) (hplq (by decide)) ((hpl (by decide) (by decide)) _ _) rfl tw_6_35 tw_6_32 tw_6_34 ts_63 tw_1_10 yd_X7_follow ⟨(Nat.le_of_ble_eq_true rfl), (Nat.le_of_ble_eq_true rfl)⟩ rfl hl.1 rfl (Nat.le_of_ble_eq_true rfl) dX9_run_19 (fun H locs hP hS => ?_)
        refine lv_iconst (v := (-1 : Int32)) hx hb dX9_run_22 (by decide) ?_
        refine lv_icmp_ne (tgt := 28) hx hb dX9_run_23 (by decide) (fun c => ?_) (fun c => ?_)
        · have hD := ifn hD c
          obtain ⟨v6, ev6, hD⟩ := bnd_el hD
          refine lv_iinc (v := v6) (lv' := [(2, .int v6), (0, .ref (adh 0)), (1, .int x1)]) hx hb dX9_run_28 hl (k := 2) rfl (by rw [ev6]; rfl) (by decide) rfl (fun ls hl => ?_)
          refine lv_goto (tgt := 10) hx hb dX9_run_31 (by decide) ?_
          exact ih _ _ _ _ _ _ _ hD hP hS (lv_sub hl [1, 2, 0] rfl)
        · have hD := ifp hD c
          refine lv_iload_n hx hb dX9_run_26 rfl (lv_at hl 2 rfl) ?_
          obtain ⟨rfl, rfl, rfl⟩ := es3 hD
          exact hret _ _ _ hP hS (fun Qc hq => W.iret hx hb hr hq hS.2.2 dX9_run_27 hlocks)
  refine lv_iload_n hx hb dX9_run_0 rfl (lv_at hl 1 rfl) ?_
  refine lv_iconst (v := (1 : Int32)) hx hb dX9_run_1 (by decide) ?_
  refine lv_sipush (v := (500 : Int32)) hx hb dX9_run_2 (by decide) ?_
  obtain ⟨u_, z1, hD⟩ := bX_el hD
  refine rcS (As := [.int x1, .int (1 : Int32), .int (500 : Int32)]) (rest := []) Fx0 (c_X9_requireRange l x1 (1 : Int32) (500 : Int32) z1) hP (hD1 _ (hAd _ _ _ _)) hS (hA1 _ _ (hAd _ _ _ _) hS.1) tw_5_211 tw_5_209 tw_5_210 tw_1_1 yd_X9_requireRange ⟨(Nat.le_of_ble_eq_true rfl), (Nat.le_of_ble_eq_true rfl)⟩ rfl hl.1 rfl (Nat.le_of_ble_eq_true rfl) dX9_run_5 (fun H locs hP hS => ?_)
  have hD := lif_el hD
  refine lv_iconst (v := (0 : Int32)) hx hb dX9_run_8 (by decide) ?_
  refine lv_istore_n (lv' := [(2, .int (0 : Int32)), (0, .ref (adh 0)), (1, .int x1)]) hx hb dX9_run_9 rfl hl (by decide) rfl (fun ls hl => ?_)
  exact c_10 FU _ _ _ _ _ _ _ hD hP hS (lv_sub hl [1, 2, 0] rfl)
set_option maxHeartbeats 4000000 in
set_option maxRecDepth 100000 in
theorem x_X9_run (l : Launch) (hst : l.stackTraces = false) {D : va_G} {cs : Nat → ClassId} {adh ad ma : Nat → Nat} {Wf : MM → MM → va_W} (hLh : ∀ m : MM, Ln 8 adh (hsh cs adh ma) (fun z => Wf z m)) (hL : ∀ h : MM, Ln 51 ad (msh cs ad) (fun z => Wf h z)) (hAd : ∀ a0_ b0_ a1_ b1_ : MM, (Wf a0_ a1_).map (fun q => q.1) = (Wf b0_ b1_).map (fun q => q.1)) (hm1 : ma 1 = ad 24) (h : MM) (m : MM) (x1 : Int32) {kx : Nat} (hD : D_X9_run x1 h m = some (.inl kx)) : CtX l yX9_run cX9_run 3 (some .int) 7 155 D cs [.ref (adh 0), .int x1] (Wf h m) kx := by
  refine CtX.ofW (by decide) (Nat.le_of_ble_eq_true rfl) ?_
  intro p e s m0 below meth c A ls args hx hb hml hlocks hown hex hts hK hP hD1 hSS hS hA1 hl
  have hT : ∀ w ∈ TBL, w.before args s = true := fun w h => hts w (List.mem_cons_of_mem _ h)
  have Fx0 : Fx p l m0 c cX9_run 3 s args yX9_run cX9_run 3 (some .int) D cs A := ⟨hx, hb, hml, hown, hts, hK, hSS⟩
  have hown : s.vm.findClass RX9 = some m0.cls := hown
  have hl : lv_has ls 3 [(0, .ref (adh 0)), (1, .int x1)] := hl
  unfold D_X9_run at hD
  refine lv_iload_n hx hb dX9_run_0 rfl (lv_at hl 1 rfl) ?_
  refine lv_iconst (v := (1 : Int32)) hx hb dX9_run_1 (by decide) ?_
  refine lv_sipush (v := (500 : Int32)) hx hb dX9_run_2 (by decide) ?_
  rcases bX_ex hD with z1 | ⟨u_, z1, hD⟩
  · exact rcX (As := [.int x1, .int (1 : Int32), .int (500 : Int32)]) (rest := []) Fx0 (x_X9_requireRange l hst x1 (1 : Int32) (500 : Int32) z1) hP (hD1 _ (hAd _ _ _ _)) hS (hA1 _ _ (hAd _ _ _ _) hS.1) hlocks hex tw_5_211 tw_5_209 tw_5_210 tw_1_1 yd_X9_requireRange ⟨⟨(Nat.le_of_ble_eq_true rfl), (Nat.le_of_ble_eq_true rfl)⟩, by decide, by decide⟩ rfl hl.1 rfl (Nat.le_of_ble_eq_true rfl) dX9_run_5
  refine rcS (As := [.int x1, .int (1 : Int32), .int (500 : Int32)]) (rest := []) Fx0 (c_X9_requireRange l x1 (1 : Int32) (500 : Int32) z1) hP (hD1 _ (hAd _ _ _ _)) hS (hA1 _ _ (hAd _ _ _ _) hS.1) tw_5_211 tw_5_209 tw_5_210 tw_1_1 yd_X9_requireRange ⟨(Nat.le_of_ble_eq_true rfl), (Nat.le_of_ble_eq_true rfl)⟩ rfl hl.1 rfl (Nat.le_of_ble_eq_true rfl) dX9_run_5 (fun H locs hP hS => ?_)
  exact lif_no hD

noncomputable def D_X9_ledger (x1 : Int32) (x2 : Int32) (h : MM) (m : MM) : Option (Nat ⊕ Int32) := bX (D_X9_requireIndex x1 (gi m 28 0)) (fun _ => bX (D_X9_requireRange x2 (0 : Int32) (6 : Int32)) (fun _ => lif (b1 (D_X6_partsOf x1 x2 m) (fun v3 => some (v3)))))
set_option maxHeartbeats 4000000 in
set_option maxRecDepth 100000 in
theorem c_X9_ledger (l : Launch) {D : va_G} {cs : Nat → ClassId} {adh ad ma : Nat → Nat} {Wf : MM → MM → va_W} (hLh : ∀ m : MM, Ln 8 adh (hsh cs adh ma) (fun z => Wf z m)) (hL : ∀ h : MM, Ln 51 ad (msh cs ad) (fun z => Wf h z)) (hAd : ∀ a0_ b0_ a1_ b1_ : MM, (Wf a0_ a1_).map (fun q => q.1) = (Wf b0_ b1_).map (fun q => q.1)) (hm1 : ma 1 = ad 24) (h : MM) (m : MM) (x1 : Int32) (x2 : Int32) {rr : Int32} (hD : D_X9_ledger x1 x2 h m = some (.inr (rr))) : Ct l yX9_ledger cX9_ledger 3 (some .int) 7 104 D cs [.ref (adh 0), .int x1, .int x2] (Wf h m) (Wf h m) (some (.int rr)) := by
  refine Ct.ofW (by decide) (Nat.le_of_ble_eq_true rfl) rfl ?_
  intro p e s m0 below meth c A Q ls args hx hb hr hml hlocks hown hts hK hP hD1 hSS hS hA1 hl hret
  have hT : ∀ w ∈ TBL, w.before args s = true := fun w h => hts w (List.mem_cons_of_mem _ h)
  have Fx0 : Fx p l m0 c cX9_ledger 3 s args yX9_ledger cX9_ledger 3 (some .int) D cs A := ⟨hx, hb, hml, hown, hts, hK, hSS⟩
  have hown : s.vm.findClass RX9 = some m0.cls := hown
  have hl : lv_has ls 3 [(0, .ref (adh 0)), (1, .int x1), (2, .int x2)] := hl
  unfold D_X9_ledger at hD
  refine lv_iload_n hx hb dX9_ledger_0 rfl (lv_at hl 1 rfl) ?_
  refine lv_aload_n hx hb dX9_ledger_1 rfl (lv_at hl 0 rfl) ?_
  refine rg (Wf := fun z => Wf z m) (mm := h) hx hb hT hu9 hown hK hP (hLh m) 0 3 (Nat.le_of_ble_eq_true rfl) (hs0 _ _) rfl (Nat.le_of_ble_eq_true rfl) (Fx0.T tw_3_4) rfl (v := .ref (ad 24)) (congrArg (fun z => some (Value.ref z)) hm1) dX9_ledger_2 ?_
  refine rgN (Wf := fun z => Wf h z) (mm := m) hx hb hT hu6 hown hK hP (hL h) 24 5 (Nat.le_of_ble_eq_true rfl) (ms24 _ _) rfl (Nat.le_of_ble_eq_true rfl) tw_2_92 rfl (v := .ref (ad 28)) rfl dX9_ledger_5 ?_
  refine rgN (Wf := fun z => Wf h z) (mm := m) hx hb hT hu5 hown hK hP (hL h) 28 0 (Nat.le_of_ble_eq_true rfl) (ms28 _ _) rfl (Nat.le_of_ble_eq_true rfl) tw_1_52 rfl (v := .int (gi m 28 0)) rfl dX9_ledger_8 ?_
  obtain ⟨u_, z1, hD⟩ := bX_el hD
  refine rcS (As := [.int x1, .int (gi m 28 0)]) (rest := []) Fx0 (c_X9_requireIndex l x1 (gi m 28 0) z1) hP (hD1 _ (hAd _ _ _ _)) hS (hA1 _ _ (hAd _ _ _ _) hS.1) tw_5_96 tw_5_94 tw_5_95 tw_1_1 yd_X9_requireIndex ⟨(Nat.le_of_ble_eq_true rfl), (Nat.le_of_ble_eq_true rfl)⟩ rfl hl.1 rfl (Nat.le_of_ble_eq_true rfl) dX9_ledger_11 (fun H locs hP hS => ?_)
  refine lv_iload_n hx hb dX9_ledger_14 rfl (lv_at hl 2 rfl) ?_
  refine lv_iconst (v := (0 : Int32)) hx hb dX9_ledger_15 (by decide) ?_
  refine lv_bipush (v := (6 : Int32)) hx hb dX9_ledger_16 (by decide) ?_
  obtain ⟨u_, z2, hD⟩ := bX_el hD
  refine rcS (As := [.int x2, .int (0 : Int32), .int (6 : Int32)]) (rest := []) Fx0 (c_X9_requireRange l x2 (0 : Int32) (6 : Int32) z2) hP (hD1 _ (hAd _ _ _ _)) hS (hA1 _ _ (hAd _ _ _ _) hS.1) tw_5_211 tw_5_209 tw_5_210 tw_1_1 yd_X9_requireRange ⟨(Nat.le_of_ble_eq_true rfl), (Nat.le_of_ble_eq_true rfl)⟩ rfl hl.1 rfl (Nat.le_of_ble_eq_true rfl) dX9_ledger_18 (fun H locs hP hS => ?_)
  have hD := lif_el hD
  refine lv_aload_n hx hb dX9_ledger_21 rfl (lv_at hl 0 rfl) ?_
  refine rg (Wf := fun z => Wf z m) (mm := h) hx hb hT hu9 hown hK hP (hLh m) 0 3 (Nat.le_of_ble_eq_true rfl) (hs0 _ _) rfl (Nat.le_of_ble_eq_true rfl) (Fx0.T tw_3_4) rfl (v := .ref (ad 24)) (congrArg (fun z => some (Value.ref z)) hm1) dX9_ledger_22 ?_
  refine lv_iload_n hx hb dX9_ledger_25 rfl (lv_at hl 1 rfl) ?_
  refine lv_iload_n hx hb dX9_ledger_26 rfl (lv_at hl 2 rfl) ?_
  obtain ⟨v3, z4, hD⟩ := b1_el hD
  refine rcVN (Wf := fun z => Wf h z) (mm := m) (As := [.int x1, .int x2]) (rest := []) Fx0 (c_X6_partsOf l (Wf := fun z0_ => Wf h z0_) (hL h) (fun a0_ b0_ => hAd h h a0_ b0_) m x1 x2 z4) hP (hD1 _ (hAd _ _ _ _)) hS (hA1 _ _ (hAd _ _ _ _) hS.1) (hL h) (Nat.le_of_ble_eq_true rfl) (ms24 _ _) rfl tw_3_40 tw_3_37 tw_3_39 ts_6 tw_1_2 yd_X6_partsOf ⟨(Nat.le_of_ble_eq_true rfl), (Nat.le_of_ble_eq_true rfl)⟩ rfl hl.1 rfl (Nat.le_of_ble_eq_true rfl) dX9_ledger_27 (fun H locs hP hS => ?_)
  obtain rfl := es1 hD
  exact hret _ _ _ hP hS (fun Qc hq => W.iret hx hb hr hq hS.2.2 dX9_ledger_30 hlocks)
set_option maxHeartbeats 4000000 in
set_option maxRecDepth 100000 in
theorem x_X9_ledger (l : Launch) (hst : l.stackTraces = false) {D : va_G} {cs : Nat → ClassId} {adh ad ma : Nat → Nat} {Wf : MM → MM → va_W} (hLh : ∀ m : MM, Ln 8 adh (hsh cs adh ma) (fun z => Wf z m)) (hL : ∀ h : MM, Ln 51 ad (msh cs ad) (fun z => Wf h z)) (hAd : ∀ a0_ b0_ a1_ b1_ : MM, (Wf a0_ a1_).map (fun q => q.1) = (Wf b0_ b1_).map (fun q => q.1)) (hm1 : ma 1 = ad 24) (h : MM) (m : MM) (x1 : Int32) (x2 : Int32) {kx : Nat} (hD : D_X9_ledger x1 x2 h m = some (.inl kx)) : CtX l yX9_ledger cX9_ledger 3 (some .int) 7 104 D cs [.ref (adh 0), .int x1, .int x2] (Wf h m) kx := by
  refine CtX.ofW (by decide) (Nat.le_of_ble_eq_true rfl) ?_
  intro p e s m0 below meth c A ls args hx hb hml hlocks hown hex hts hK hP hD1 hSS hS hA1 hl
  have hT : ∀ w ∈ TBL, w.before args s = true := fun w h => hts w (List.mem_cons_of_mem _ h)
  have Fx0 : Fx p l m0 c cX9_ledger 3 s args yX9_ledger cX9_ledger 3 (some .int) D cs A := ⟨hx, hb, hml, hown, hts, hK, hSS⟩
  have hown : s.vm.findClass RX9 = some m0.cls := hown
  have hl : lv_has ls 3 [(0, .ref (adh 0)), (1, .int x1), (2, .int x2)] := hl
  unfold D_X9_ledger at hD
  refine lv_iload_n hx hb dX9_ledger_0 rfl (lv_at hl 1 rfl) ?_
  refine lv_aload_n hx hb dX9_ledger_1 rfl (lv_at hl 0 rfl) ?_
  refine rg (Wf := fun z => Wf z m) (mm := h) hx hb hT hu9 hown hK hP (hLh m) 0 3 (Nat.le_of_ble_eq_true rfl) (hs0 _ _) rfl (Nat.le_of_ble_eq_true rfl) (Fx0.T tw_3_4) rfl (v := .ref (ad 24)) (congrArg (fun z => some (Value.ref z)) hm1) dX9_ledger_2 ?_
  refine rgN (Wf := fun z => Wf h z) (mm := m) hx hb hT hu6 hown hK hP (hL h) 24 5 (Nat.le_of_ble_eq_true rfl) (ms24 _ _) rfl (Nat.le_of_ble_eq_true rfl) tw_2_92 rfl (v := .ref (ad 28)) rfl dX9_ledger_5 ?_
  refine rgN (Wf := fun z => Wf h z) (mm := m) hx hb hT hu5 hown hK hP (hL h) 28 0 (Nat.le_of_ble_eq_true rfl) (ms28 _ _) rfl (Nat.le_of_ble_eq_true rfl) tw_1_52 rfl (v := .int (gi m 28 0)) rfl dX9_ledger_8 ?_
  rcases bX_ex hD with z1 | ⟨u_, z1, hD⟩
  · exact rcX (As := [.int x1, .int (gi m 28 0)]) (rest := []) Fx0 (x_X9_requireIndex l hst x1 (gi m 28 0) z1) hP (hD1 _ (hAd _ _ _ _)) hS (hA1 _ _ (hAd _ _ _ _) hS.1) hlocks hex tw_5_96 tw_5_94 tw_5_95 tw_1_1 yd_X9_requireIndex ⟨⟨(Nat.le_of_ble_eq_true rfl), (Nat.le_of_ble_eq_true rfl)⟩, by decide, by decide⟩ rfl hl.1 rfl (Nat.le_of_ble_eq_true rfl) dX9_ledger_11
  refine rcS (As := [.int x1, .int (gi m 28 0)]) (rest := []) Fx0 (c_X9_requireIndex l x1 (gi m 28 0) z1) hP (hD1 _ (hAd _ _ _ _)) hS (hA1 _ _ (hAd _ _ _ _) hS.1) tw_5_96 tw_5_94 tw_5_95 tw_1_1 yd_X9_requireIndex ⟨(Nat.le_of_ble_eq_true rfl), (Nat.le_of_ble_eq_true rfl)⟩ rfl hl.1 rfl (Nat.le_of_ble_eq_true rfl) dX9_ledger_11 (fun H locs hP hS => ?_)
  refine lv_iload_n hx hb dX9_ledger_14 rfl (lv_at hl 2 rfl) ?_
  refine lv_iconst (v := (0 : Int32)) hx hb dX9_ledger_15 (by decide) ?_
  refine lv_bipush (v := (6 : Int32)) hx hb dX9_ledger_16 (by decide) ?_
  rcases bX_ex hD with z2 | ⟨u_, z2, hD⟩
  · exact rcX (As := [.int x2, .int (0 : Int32), .int (6 : Int32)]) (rest := []) Fx0 (x_X9_requireRange l hst x2 (0 : Int32) (6 : Int32) z2) hP (hD1 _ (hAd _ _ _ _)) hS (hA1 _ _ (hAd _ _ _ _) hS.1) hlocks hex tw_5_211 tw_5_209 tw_5_210 tw_1_1 yd_X9_requireRange ⟨⟨(Nat.le_of_ble_eq_true rfl), (Nat.le_of_ble_eq_true rfl)⟩, by decide, by decide⟩ rfl hl.1 rfl (Nat.le_of_ble_eq_true rfl) dX9_ledger_18
  refine rcS (As := [.int x2, .int (0 : Int32), .int (6 : Int32)]) (rest := []) Fx0 (c_X9_requireRange l x2 (0 : Int32) (6 : Int32) z2) hP (hD1 _ (hAd _ _ _ _)) hS (hA1 _ _ (hAd _ _ _ _) hS.1) tw_5_211 tw_5_209 tw_5_210 tw_1_1 yd_X9_requireRange ⟨(Nat.le_of_ble_eq_true rfl), (Nat.le_of_ble_eq_true rfl)⟩ rfl hl.1 rfl (Nat.le_of_ble_eq_true rfl) dX9_ledger_18 (fun H locs hP hS => ?_)
  exact lif_no hD

noncomputable def D_X9_head (x1 : Int32) (h : MM) (m : MM) : Option (Nat ⊕ Int32) := bX (D_X9_requireRange x1 (0 : Int32) (1 : Int32)) (fun _ => lif (if x1 = 0 then (some ((gi m 24 11))) else (some ((gi m 24 12)))))
set_option maxHeartbeats 4000000 in
set_option maxRecDepth 100000 in
theorem c_X9_head (l : Launch) {D : va_G} {cs : Nat → ClassId} {adh ad ma : Nat → Nat} {Wf : MM → MM → va_W} (hLh : ∀ m : MM, Ln 8 adh (hsh cs adh ma) (fun z => Wf z m)) (hL : ∀ h : MM, Ln 51 ad (msh cs ad) (fun z => Wf h z)) (hAd : ∀ a0_ b0_ a1_ b1_ : MM, (Wf a0_ a1_).map (fun q => q.1) = (Wf b0_ b1_).map (fun q => q.1)) (hm1 : ma 1 = ad 24) (h : MM) (m : MM) (x1 : Int32) {rr : Int32} (hD : D_X9_head x1 h m = some (.inr (rr))) : Ct l yX9_head cX9_head 2 (some .int) 7 104 D cs [.ref (adh 0), .int x1] (Wf h m) (Wf h m) (some (.int rr)) := by
  refine Ct.ofW (by decide) (Nat.le_of_ble_eq_true rfl) rfl ?_
  intro p e s m0 below meth c A Q ls args hx hb hr hml hlocks hown hts hK hP hD1 hSS hS hA1 hl hret
  have hT : ∀ w ∈ TBL, w.before args s = true := fun w h => hts w (List.mem_cons_of_mem _ h)
  have Fx0 : Fx p l m0 c cX9_head 2 s args yX9_head cX9_head 2 (some .int) D cs A := ⟨hx, hb, hml, hown, hts, hK, hSS⟩
  have hown : s.vm.findClass RX9 = some m0.cls := hown
  have hl : lv_has ls 2 [(0, .ref (adh 0)), (1, .int x1)] := hl
  unfold D_X9_head at hD
  refine lv_iload_n hx hb dX9_head_0 rfl (lv_at hl 1 rfl) ?_
  refine lv_iconst (v := (0 : Int32)) hx hb dX9_head_1 (by decide) ?_
  refine lv_iconst (v := (1 : Int32)) hx hb dX9_head_2 (by decide) ?_
  obtain ⟨u_, z1, hD⟩ := bX_el hD
  refine rcS (As := [.int x1, .int (0 : Int32), .int (1 : Int32)]) (rest := []) Fx0 (c_X9_requireRange l x1 (0 : Int32) (1 : Int32) z1) hP (hD1 _ (hAd _ _ _ _)) hS (hA1 _ _ (hAd _ _ _ _) hS.1) tw_5_211 tw_5_209 tw_5_210 tw_1_1 yd_X9_requireRange ⟨(Nat.le_of_ble_eq_true rfl), (Nat.le_of_ble_eq_true rfl)⟩ rfl hl.1 rfl (Nat.le_of_ble_eq_true rfl) dX9_head_3 (fun H locs hP hS => ?_)
  have hD := lif_el hD
  refine lv_iload_n hx hb dX9_head_6 rfl (lv_at hl 1 rfl) ?_
  refine lv_if_ne (tgt := 20) hx hb dX9_head_7 (by decide) (fun c => ?_) (fun c => ?_)
  · have hD := ifn hD c
    refine lv_aload_n hx hb dX9_head_20 rfl (lv_at hl 0 rfl) ?_
    refine rg (Wf := fun z => Wf z m) (mm := h) hx hb hT hu9 hown hK hP (hLh m) 0 3 (Nat.le_of_ble_eq_true rfl) (hs0 _ _) rfl (Nat.le_of_ble_eq_true rfl) (Fx0.T tw_3_4) rfl (v := .ref (ad 24)) (congrArg (fun z => some (Value.ref z)) hm1) dX9_head_21 ?_
    refine rgN (Wf := fun z => Wf h z) (mm := m) hx hb hT hu6 hown hK hP (hL h) 24 12 (Nat.le_of_ble_eq_true rfl) (ms24 _ _) rfl (Nat.le_of_ble_eq_true rfl) tw_2_114 rfl (v := .int (gi m 24 12)) rfl dX9_head_24 ?_
    obtain rfl := es1 hD
    exact hret _ _ _ hP hS (fun Qc hq => W.iret hx hb hr hq hS.2.2 dX9_head_27 hlocks)
  · have hD := ifp hD c
    refine lv_aload_n hx hb dX9_head_10 rfl (lv_at hl 0 rfl) ?_
    refine rg (Wf := fun z => Wf z m) (mm := h) hx hb hT hu9 hown hK hP (hLh m) 0 3 (Nat.le_of_ble_eq_true rfl) (hs0 _ _) rfl (Nat.le_of_ble_eq_true rfl) (Fx0.T tw_3_4) rfl (v := .ref (ad 24)) (congrArg (fun z => some (Value.ref z)) hm1) dX9_head_11 ?_
    refine rgN (Wf := fun z => Wf h z) (mm := m) hx hb hT hu6 hown hK hP (hL h) 24 11 (Nat.le_of_ble_eq_true rfl) (ms24 _ _) rfl (Nat.le_of_ble_eq_true rfl) tw_2_112 rfl (v := .int (gi m 24 11)) rfl dX9_head_14 ?_
    refine lv_goto (tgt := 27) hx hb dX9_head_17 (by decide) ?_
    obtain rfl := es1 hD
    exact hret _ _ _ hP hS (fun Qc hq => W.iret hx hb hr hq hS.2.2 dX9_head_27 hlocks)
set_option maxHeartbeats 4000000 in
set_option maxRecDepth 100000 in
theorem x_X9_head (l : Launch) (hst : l.stackTraces = false) {D : va_G} {cs : Nat → ClassId} {adh ad ma : Nat → Nat} {Wf : MM → MM → va_W} (hLh : ∀ m : MM, Ln 8 adh (hsh cs adh ma) (fun z => Wf z m)) (hL : ∀ h : MM, Ln 51 ad (msh cs ad) (fun z => Wf h z)) (hAd : ∀ a0_ b0_ a1_ b1_ : MM, (Wf a0_ a1_).map (fun q => q.1) = (Wf b0_ b1_).map (fun q => q.1)) (hm1 : ma 1 = ad 24) (h : MM) (m : MM) (x1 : Int32) {kx : Nat} (hD : D_X9_head x1 h m = some (.inl kx)) : CtX l yX9_head cX9_head 2 (some .int) 7 104 D cs [.ref (adh 0), .int x1] (Wf h m) kx := by
  refine CtX.ofW (by decide) (Nat.le_of_ble_eq_true rfl) ?_
  intro p e s m0 below meth c A ls args hx hb hml hlocks hown hex hts hK hP hD1 hSS hS hA1 hl
  have hT : ∀ w ∈ TBL, w.before args s = true := fun w h => hts w (List.mem_cons_of_mem _ h)
  have Fx0 : Fx p l m0 c cX9_head 2 s args yX9_head cX9_head 2 (some .int) D cs A := ⟨hx, hb, hml, hown, hts, hK, hSS⟩
  have hown : s.vm.findClass RX9 = some m0.cls := hown
  have hl : lv_has ls 2 [(0, .ref (adh 0)), (1, .int x1)] := hl
  unfold D_X9_head at hD
  refine lv_iload_n hx hb dX9_head_0 rfl (lv_at hl 1 rfl) ?_
  refine lv_iconst (v := (0 : Int32)) hx hb dX9_head_1 (by decide) ?_
  refine lv_iconst (v := (1 : Int32)) hx hb dX9_head_2 (by decide) ?_
  rcases bX_ex hD with z1 | ⟨u_, z1, hD⟩
  · exact rcX (As := [.int x1, .int (0 : Int32), .int (1 : Int32)]) (rest := []) Fx0 (x_X9_requireRange l hst x1 (0 : Int32) (1 : Int32) z1) hP (hD1 _ (hAd _ _ _ _)) hS (hA1 _ _ (hAd _ _ _ _) hS.1) hlocks hex tw_5_211 tw_5_209 tw_5_210 tw_1_1 yd_X9_requireRange ⟨⟨(Nat.le_of_ble_eq_true rfl), (Nat.le_of_ble_eq_true rfl)⟩, by decide, by decide⟩ rfl hl.1 rfl (Nat.le_of_ble_eq_true rfl) dX9_head_3
  refine rcS (As := [.int x1, .int (0 : Int32), .int (1 : Int32)]) (rest := []) Fx0 (c_X9_requireRange l x1 (0 : Int32) (1 : Int32) z1) hP (hD1 _ (hAd _ _ _ _)) hS (hA1 _ _ (hAd _ _ _ _) hS.1) tw_5_211 tw_5_209 tw_5_210 tw_1_1 yd_X9_requireRange ⟨(Nat.le_of_ble_eq_true rfl), (Nat.le_of_ble_eq_true rfl)⟩ rfl hl.1 rfl (Nat.le_of_ble_eq_true rfl) dX9_head_3 (fun H locs hP hS => ?_)
  exact lif_no hD

noncomputable def D_X9_done (x1 : Int32) (h : MM) (m : MM) : Option (Nat ⊕ Int32) := bX (D_X9_requireRange x1 (1 : Int32) (6 : Int32)) (fun _ => lif (if x1 < 0 ∨ 7 ≤ x1.toNatClampNeg then none else (some ((gi m 49 x1.toNatClampNeg)))))
set_option maxHeartbeats 4000000 in
set_option maxRecDepth 100000 in
theorem c_X9_done (l : Launch) {D : va_G} {cs : Nat → ClassId} {adh ad ma : Nat → Nat} {Wf : MM → MM → va_W} (hLh : ∀ m : MM, Ln 8 adh (hsh cs adh ma) (fun z => Wf z m)) (hL : ∀ h : MM, Ln 51 ad (msh cs ad) (fun z => Wf h z)) (hAd : ∀ a0_ b0_ a1_ b1_ : MM, (Wf a0_ a1_).map (fun q => q.1) = (Wf b0_ b1_).map (fun q => q.1)) (hm1 : ma 1 = ad 24) (h : MM) (m : MM) (x1 : Int32) {rr : Int32} (hD : D_X9_done x1 h m = some (.inr (rr))) : Ct l yX9_done cX9_done 2 (some .int) 7 104 D cs [.ref (adh 0), .int x1] (Wf h m) (Wf h m) (some (.int rr)) := by
  refine Ct.ofW (by decide) (Nat.le_of_ble_eq_true rfl) rfl ?_
  intro p e s m0 below meth c A Q ls args hx hb hr hml hlocks hown hts hK hP hD1 hSS hS hA1 hl hret
  have hT : ∀ w ∈ TBL, w.before args s = true := fun w h => hts w (List.mem_cons_of_mem _ h)
  have Fx0 : Fx p l m0 c cX9_done 2 s args yX9_done cX9_done 2 (some .int) D cs A := ⟨hx, hb, hml, hown, hts, hK, hSS⟩
  have hown : s.vm.findClass RX9 = some m0.cls := hown
  have hl : lv_has ls 2 [(0, .ref (adh 0)), (1, .int x1)] := hl
  unfold D_X9_done at hD
  refine lv_iload_n hx hb dX9_done_0 rfl (lv_at hl 1 rfl) ?_
  refine lv_iconst (v := (1 : Int32)) hx hb dX9_done_1 (by decide) ?_
  refine lv_bipush (v := (6 : Int32)) hx hb dX9_done_2 (by decide) ?_
  obtain ⟨u_, z1, hD⟩ := bX_el hD
  refine rcS (As := [.int x1, .int (1 : Int32), .int (6 : Int32)]) (rest := []) Fx0 (c_X9_requireRange l x1 (1 : Int32) (6 : Int32) z1) hP (hD1 _ (hAd _ _ _ _)) hS (hA1 _ _ (hAd _ _ _ _) hS.1) tw_5_211 tw_5_209 tw_5_210 tw_1_1 yd_X9_requireRange ⟨(Nat.le_of_ble_eq_true rfl), (Nat.le_of_ble_eq_true rfl)⟩ rfl hl.1 rfl (Nat.le_of_ble_eq_true rfl) dX9_done_4 (fun H locs hP hS => ?_)
  have hD := lif_el hD
  refine lv_aload_n hx hb dX9_done_7 rfl (lv_at hl 0 rfl) ?_
  refine rg (Wf := fun z => Wf z m) (mm := h) hx hb hT hu9 hown hK hP (hLh m) 0 3 (Nat.le_of_ble_eq_true rfl) (hs0 _ _) rfl (Nat.le_of_ble_eq_true rfl) (Fx0.T tw_3_4) rfl (v := .ref (ad 24)) (congrArg (fun z => some (Value.ref z)) hm1) dX9_done_8 ?_
  refine rgN (Wf := fun z => Wf h z) (mm := m) hx hb hT hu6 hown hK hP (hL h) 24 10 (Nat.le_of_ble_eq_true rfl) (ms24 _ _) rfl (Nat.le_of_ble_eq_true rfl) tw_2_110 rfl (v := .ref (ad 45)) rfl dX9_done_11 ?_
  refine rgN (Wf := fun z => Wf h z) (mm := m) hx hb hT hu4 hown hK hP (hL h) 45 5 (Nat.le_of_ble_eq_true rfl) (ms45 _ _) rfl (Nat.le_of_ble_eq_true rfl) tw_1_160 rfl (v := .ref (ad 49)) rfl dX9_done_14 ?_
  refine lv_iload_n hx hb dX9_done_17 rfl (lv_at hl 1 rfl) ?_
  obtain ⟨h2, hD⟩ := gd_el hD
  refine riald (Wf := fun z => Wf h z) (mm := m) hx hb hK hP (hL h) 49 (Nat.le_of_ble_eq_true rfl) (ms49 _ _) h2 rfl dX9_done_18 ?_
  obtain rfl := es1 hD
  exact hret _ _ _ hP hS (fun Qc hq => W.iret hx hb hr hq hS.2.2 dX9_done_19 hlocks)
set_option maxHeartbeats 4000000 in
set_option maxRecDepth 100000 in
theorem x_X9_done (l : Launch) (hst : l.stackTraces = false) {D : va_G} {cs : Nat → ClassId} {adh ad ma : Nat → Nat} {Wf : MM → MM → va_W} (hLh : ∀ m : MM, Ln 8 adh (hsh cs adh ma) (fun z => Wf z m)) (hL : ∀ h : MM, Ln 51 ad (msh cs ad) (fun z => Wf h z)) (hAd : ∀ a0_ b0_ a1_ b1_ : MM, (Wf a0_ a1_).map (fun q => q.1) = (Wf b0_ b1_).map (fun q => q.1)) (hm1 : ma 1 = ad 24) (h : MM) (m : MM) (x1 : Int32) {kx : Nat} (hD : D_X9_done x1 h m = some (.inl kx)) : CtX l yX9_done cX9_done 2 (some .int) 7 104 D cs [.ref (adh 0), .int x1] (Wf h m) kx := by
  refine CtX.ofW (by decide) (Nat.le_of_ble_eq_true rfl) ?_
  intro p e s m0 below meth c A ls args hx hb hml hlocks hown hex hts hK hP hD1 hSS hS hA1 hl
  have hT : ∀ w ∈ TBL, w.before args s = true := fun w h => hts w (List.mem_cons_of_mem _ h)
  have Fx0 : Fx p l m0 c cX9_done 2 s args yX9_done cX9_done 2 (some .int) D cs A := ⟨hx, hb, hml, hown, hts, hK, hSS⟩
  have hown : s.vm.findClass RX9 = some m0.cls := hown
  have hl : lv_has ls 2 [(0, .ref (adh 0)), (1, .int x1)] := hl
  unfold D_X9_done at hD
  refine lv_iload_n hx hb dX9_done_0 rfl (lv_at hl 1 rfl) ?_
  refine lv_iconst (v := (1 : Int32)) hx hb dX9_done_1 (by decide) ?_
  refine lv_bipush (v := (6 : Int32)) hx hb dX9_done_2 (by decide) ?_
  rcases bX_ex hD with z1 | ⟨u_, z1, hD⟩
  · exact rcX (As := [.int x1, .int (1 : Int32), .int (6 : Int32)]) (rest := []) Fx0 (x_X9_requireRange l hst x1 (1 : Int32) (6 : Int32) z1) hP (hD1 _ (hAd _ _ _ _)) hS (hA1 _ _ (hAd _ _ _ _) hS.1) hlocks hex tw_5_211 tw_5_209 tw_5_210 tw_1_1 yd_X9_requireRange ⟨⟨(Nat.le_of_ble_eq_true rfl), (Nat.le_of_ble_eq_true rfl)⟩, by decide, by decide⟩ rfl hl.1 rfl (Nat.le_of_ble_eq_true rfl) dX9_done_4
  refine rcS (As := [.int x1, .int (1 : Int32), .int (6 : Int32)]) (rest := []) Fx0 (c_X9_requireRange l x1 (1 : Int32) (6 : Int32) z1) hP (hD1 _ (hAd _ _ _ _)) hS (hA1 _ _ (hAd _ _ _ _) hS.1) tw_5_211 tw_5_209 tw_5_210 tw_1_1 yd_X9_requireRange ⟨(Nat.le_of_ble_eq_true rfl), (Nat.le_of_ble_eq_true rfl)⟩ rfl hl.1 rfl (Nat.le_of_ble_eq_true rfl) dX9_done_4 (fun H locs hP hS => ?_)
  exact lif_no hD

noncomputable def D_X9_timeOf (x1 : Int32) (h : MM) (m : MM) : Option (Nat ⊕ Int32) := bX (D_X9_requireRange x1 (1 : Int32) (6 : Int32)) (fun _ => lif (if x1 < 0 ∨ 7 ≤ x1.toNatClampNeg then none else (some ((gi m 50 x1.toNatClampNeg)))))
set_option maxHeartbeats 4000000 in
set_option maxRecDepth 100000 in
theorem c_X9_timeOf (l : Launch) {D : va_G} {cs : Nat → ClassId} {adh ad ma : Nat → Nat} {Wf : MM → MM → va_W} (hLh : ∀ m : MM, Ln 8 adh (hsh cs adh ma) (fun z => Wf z m)) (hL : ∀ h : MM, Ln 51 ad (msh cs ad) (fun z => Wf h z)) (hAd : ∀ a0_ b0_ a1_ b1_ : MM, (Wf a0_ a1_).map (fun q => q.1) = (Wf b0_ b1_).map (fun q => q.1)) (hm1 : ma 1 = ad 24) (h : MM) (m : MM) (x1 : Int32) {rr : Int32} (hD : D_X9_timeOf x1 h m = some (.inr (rr))) : Ct l yX9_timeOf cX9_timeOf 2 (some .int) 7 104 D cs [.ref (adh 0), .int x1] (Wf h m) (Wf h m) (some (.int rr)) := by
  refine Ct.ofW (by decide) (Nat.le_of_ble_eq_true rfl) rfl ?_
  intro p e s m0 below meth c A Q ls args hx hb hr hml hlocks hown hts hK hP hD1 hSS hS hA1 hl hret
  have hT : ∀ w ∈ TBL, w.before args s = true := fun w h => hts w (List.mem_cons_of_mem _ h)
  have Fx0 : Fx p l m0 c cX9_timeOf 2 s args yX9_timeOf cX9_timeOf 2 (some .int) D cs A := ⟨hx, hb, hml, hown, hts, hK, hSS⟩
  have hown : s.vm.findClass RX9 = some m0.cls := hown
  have hl : lv_has ls 2 [(0, .ref (adh 0)), (1, .int x1)] := hl
  unfold D_X9_timeOf at hD
  refine lv_iload_n hx hb dX9_timeOf_0 rfl (lv_at hl 1 rfl) ?_
  refine lv_iconst (v := (1 : Int32)) hx hb dX9_timeOf_1 (by decide) ?_
  refine lv_bipush (v := (6 : Int32)) hx hb dX9_timeOf_2 (by decide) ?_
  obtain ⟨u_, z1, hD⟩ := bX_el hD
  refine rcS (As := [.int x1, .int (1 : Int32), .int (6 : Int32)]) (rest := []) Fx0 (c_X9_requireRange l x1 (1 : Int32) (6 : Int32) z1) hP (hD1 _ (hAd _ _ _ _)) hS (hA1 _ _ (hAd _ _ _ _) hS.1) tw_5_211 tw_5_209 tw_5_210 tw_1_1 yd_X9_requireRange ⟨(Nat.le_of_ble_eq_true rfl), (Nat.le_of_ble_eq_true rfl)⟩ rfl hl.1 rfl (Nat.le_of_ble_eq_true rfl) dX9_timeOf_4 (fun H locs hP hS => ?_)
  have hD := lif_el hD
  refine lv_aload_n hx hb dX9_timeOf_7 rfl (lv_at hl 0 rfl) ?_
  refine rg (Wf := fun z => Wf z m) (mm := h) hx hb hT hu9 hown hK hP (hLh m) 0 3 (Nat.le_of_ble_eq_true rfl) (hs0 _ _) rfl (Nat.le_of_ble_eq_true rfl) (Fx0.T tw_3_4) rfl (v := .ref (ad 24)) (congrArg (fun z => some (Value.ref z)) hm1) dX9_timeOf_8 ?_
  refine rgN (Wf := fun z => Wf h z) (mm := m) hx hb hT hu6 hown hK hP (hL h) 24 10 (Nat.le_of_ble_eq_true rfl) (ms24 _ _) rfl (Nat.le_of_ble_eq_true rfl) tw_2_110 rfl (v := .ref (ad 45)) rfl dX9_timeOf_11 ?_
  refine rgN (Wf := fun z => Wf h z) (mm := m) hx hb hT hu4 hown hK hP (hL h) 45 6 (Nat.le_of_ble_eq_true rfl) (ms45 _ _) rfl (Nat.le_of_ble_eq_true rfl) tw_1_163 rfl (v := .ref (ad 50)) rfl dX9_timeOf_14 ?_
  refine lv_iload_n hx hb dX9_timeOf_17 rfl (lv_at hl 1 rfl) ?_
  obtain ⟨h2, hD⟩ := gd_el hD
  refine riald (Wf := fun z => Wf h z) (mm := m) hx hb hK hP (hL h) 50 (Nat.le_of_ble_eq_true rfl) (ms50 _ _) h2 rfl dX9_timeOf_18 ?_
  obtain rfl := es1 hD
  exact hret _ _ _ hP hS (fun Qc hq => W.iret hx hb hr hq hS.2.2 dX9_timeOf_19 hlocks)
set_option maxHeartbeats 4000000 in
set_option maxRecDepth 100000 in
theorem x_X9_timeOf (l : Launch) (hst : l.stackTraces = false) {D : va_G} {cs : Nat → ClassId} {adh ad ma : Nat → Nat} {Wf : MM → MM → va_W} (hLh : ∀ m : MM, Ln 8 adh (hsh cs adh ma) (fun z => Wf z m)) (hL : ∀ h : MM, Ln 51 ad (msh cs ad) (fun z => Wf h z)) (hAd : ∀ a0_ b0_ a1_ b1_ : MM, (Wf a0_ a1_).map (fun q => q.1) = (Wf b0_ b1_).map (fun q => q.1)) (hm1 : ma 1 = ad 24) (h : MM) (m : MM) (x1 : Int32) {kx : Nat} (hD : D_X9_timeOf x1 h m = some (.inl kx)) : CtX l yX9_timeOf cX9_timeOf 2 (some .int) 7 104 D cs [.ref (adh 0), .int x1] (Wf h m) kx := by
  refine CtX.ofW (by decide) (Nat.le_of_ble_eq_true rfl) ?_
  intro p e s m0 below meth c A ls args hx hb hml hlocks hown hex hts hK hP hD1 hSS hS hA1 hl
  have hT : ∀ w ∈ TBL, w.before args s = true := fun w h => hts w (List.mem_cons_of_mem _ h)
  have Fx0 : Fx p l m0 c cX9_timeOf 2 s args yX9_timeOf cX9_timeOf 2 (some .int) D cs A := ⟨hx, hb, hml, hown, hts, hK, hSS⟩
  have hown : s.vm.findClass RX9 = some m0.cls := hown
  have hl : lv_has ls 2 [(0, .ref (adh 0)), (1, .int x1)] := hl
  unfold D_X9_timeOf at hD
  refine lv_iload_n hx hb dX9_timeOf_0 rfl (lv_at hl 1 rfl) ?_
  refine lv_iconst (v := (1 : Int32)) hx hb dX9_timeOf_1 (by decide) ?_
  refine lv_bipush (v := (6 : Int32)) hx hb dX9_timeOf_2 (by decide) ?_
  rcases bX_ex hD with z1 | ⟨u_, z1, hD⟩
  · exact rcX (As := [.int x1, .int (1 : Int32), .int (6 : Int32)]) (rest := []) Fx0 (x_X9_requireRange l hst x1 (1 : Int32) (6 : Int32) z1) hP (hD1 _ (hAd _ _ _ _)) hS (hA1 _ _ (hAd _ _ _ _) hS.1) hlocks hex tw_5_211 tw_5_209 tw_5_210 tw_1_1 yd_X9_requireRange ⟨⟨(Nat.le_of_ble_eq_true rfl), (Nat.le_of_ble_eq_true rfl)⟩, by decide, by decide⟩ rfl hl.1 rfl (Nat.le_of_ble_eq_true rfl) dX9_timeOf_4
  refine rcS (As := [.int x1, .int (1 : Int32), .int (6 : Int32)]) (rest := []) Fx0 (c_X9_requireRange l x1 (1 : Int32) (6 : Int32) z1) hP (hD1 _ (hAd _ _ _ _)) hS (hA1 _ _ (hAd _ _ _ _) hS.1) tw_5_211 tw_5_209 tw_5_210 tw_1_1 yd_X9_requireRange ⟨(Nat.le_of_ble_eq_true rfl), (Nat.le_of_ble_eq_true rfl)⟩ rfl hl.1 rfl (Nat.le_of_ble_eq_true rfl) dX9_timeOf_4 (fun H locs hP hS => ?_)
  exact lif_no hD

noncomputable def D_X9_shareOf (x1 : Int32) (h : MM) (m : MM) : Option (Nat ⊕ Int32) := bX (D_X9_requireRange x1 (1 : Int32) (6 : Int32)) (fun _ => lif (if x1 < 0 ∨ 7 ≤ x1.toNatClampNeg then none else (b1 (D_X9_perMille (gi m 50 x1.toNatClampNeg) (gi m 24 13)) (fun v3 => some (v3)))))
noncomputable def D_X9_logEntry (x1 : Int32) (x2 : Int32) (h : MM) (m : MM) : Option (Nat ⊕ Int32) := bX (D_X9_requireRange x2 (0 : Int32) (2 : Int32)) (fun _ => lif (if x1 < 0 then (some ((-1 : Int32))) else (if x1 < (gi m 45 0) then (b1 (D_X4_entry x1 x2 m) (fun v2 => some (v2))) else (some ((-1 : Int32))))))
set_option maxHeartbeats 4000000 in
set_option maxRecDepth 100000 in
theorem c_X9_logEntry (l : Launch) {D : va_G} {cs : Nat → ClassId} {adh ad ma : Nat → Nat} {Wf : MM → MM → va_W} (hLh : ∀ m : MM, Ln 8 adh (hsh cs adh ma) (fun z => Wf z m)) (hL : ∀ h : MM, Ln 51 ad (msh cs ad) (fun z => Wf h z)) (hAd : ∀ a0_ b0_ a1_ b1_ : MM, (Wf a0_ a1_).map (fun q => q.1) = (Wf b0_ b1_).map (fun q => q.1)) (hm1 : ma 1 = ad 24) (h : MM) (m : MM) (x1 : Int32) (x2 : Int32) {rr : Int32} (hD : D_X9_logEntry x1 x2 h m = some (.inr (rr))) : Ct l yX9_logEntry cX9_logEntry 3 (some .int) 7 104 D cs [.ref (adh 0), .int x1, .int x2] (Wf h m) (Wf h m) (some (.int rr)) := by
  refine Ct.ofW (by decide) (Nat.le_of_ble_eq_true rfl) rfl ?_
  intro p e s m0 below meth c A Q ls args hx hb hr hml hlocks hown hts hK hP hD1 hSS hS hA1 hl hret
  have hT : ∀ w ∈ TBL, w.before args s = true := fun w h => hts w (List.mem_cons_of_mem _ h)
  have Fx0 : Fx p l m0 c cX9_logEntry 3 s args yX9_logEntry cX9_logEntry 3 (some .int) D cs A := ⟨hx, hb, hml, hown, hts, hK, hSS⟩
  have hown : s.vm.findClass RX9 = some m0.cls := hown
  have hl : lv_has ls 3 [(0, .ref (adh 0)), (1, .int x1), (2, .int x2)] := hl
  unfold D_X9_logEntry at hD
  refine lv_iload_n hx hb dX9_logEntry_0 rfl (lv_at hl 2 rfl) ?_
  refine lv_iconst (v := (0 : Int32)) hx hb dX9_logEntry_1 (by decide) ?_
  refine lv_iconst (v := (2 : Int32)) hx hb dX9_logEntry_2 (by decide) ?_
  obtain ⟨u_, z1, hD⟩ := bX_el hD
  refine rcS (As := [.int x2, .int (0 : Int32), .int (2 : Int32)]) (rest := []) Fx0 (c_X9_requireRange l x2 (0 : Int32) (2 : Int32) z1) hP (hD1 _ (hAd _ _ _ _)) hS (hA1 _ _ (hAd _ _ _ _) hS.1) tw_5_211 tw_5_209 tw_5_210 tw_1_1 yd_X9_requireRange ⟨(Nat.le_of_ble_eq_true rfl), (Nat.le_of_ble_eq_true rfl)⟩ rfl hl.1 rfl (Nat.le_of_ble_eq_true rfl) dX9_logEntry_3 (fun H locs hP hS => ?_)
  have hD := lif_el hD
  refine lv_iload_n hx hb dX9_logEntry_6 rfl (lv_at hl 1 rfl) ?_
  refine lv_if_lt (tgt := 24) hx hb dX9_logEntry_7 (by decide) (fun c => ?_) (fun c => ?_)
  · have hD := ifp hD c
    refine lv_iconst (v := (-1 : Int32)) hx hb dX9_logEntry_24 (by decide) ?_
    obtain rfl := es1 hD
    exact hret _ _ _ hP hS (fun Qc hq => W.iret hx hb hr hq hS.2.2 dX9_logEntry_25 hlocks)
  · have hD := ifn hD c
    refine lv_iload_n hx hb dX9_logEntry_10 rfl (lv_at hl 1 rfl) ?_
    refine lv_aload_n hx hb dX9_logEntry_11 rfl (lv_at hl 0 rfl) ?_
    refine rg (Wf := fun z => Wf z m) (mm := h) hx hb hT hu9 hown hK hP (hLh m) 0 3 (Nat.le_of_ble_eq_true rfl) (hs0 _ _) rfl (Nat.le_of_ble_eq_true rfl) (Fx0.T tw_3_4) rfl (v := .ref (ad 24)) (congrArg (fun z => some (Value.ref z)) hm1) dX9_logEntry_12 ?_
    refine rgN (Wf := fun z => Wf h z) (mm := m) hx hb hT hu6 hown hK hP (hL h) 24 10 (Nat.le_of_ble_eq_true rfl) (ms24 _ _) rfl (Nat.le_of_ble_eq_true rfl) tw_2_110 rfl (v := .ref (ad 45)) rfl dX9_logEntry_15 ?_
    refine rgN (Wf := fun z => Wf h z) (mm := m) hx hb hT hu4 hown hK hP (hL h) 45 0 (Nat.le_of_ble_eq_true rfl) (ms45 _ _) rfl (Nat.le_of_ble_eq_true rfl) tw_1_153 rfl (v := .int (gi m 45 0)) rfl dX9_logEntry_18 ?_
    refine lv_icmp_lt (tgt := 26) hx hb dX9_logEntry_21 (by decide) (fun c => ?_) (fun c => ?_)
    · have hD := ifp hD c
      refine lv_aload_n hx hb dX9_logEntry_26 rfl (lv_at hl 0 rfl) ?_
      refine rg (Wf := fun z => Wf z m) (mm := h) hx hb hT hu9 hown hK hP (hLh m) 0 3 (Nat.le_of_ble_eq_true rfl) (hs0 _ _) rfl (Nat.le_of_ble_eq_true rfl) (Fx0.T tw_3_4) rfl (v := .ref (ad 24)) (congrArg (fun z => some (Value.ref z)) hm1) dX9_logEntry_27 ?_
      refine rgN (Wf := fun z => Wf h z) (mm := m) hx hb hT hu6 hown hK hP (hL h) 24 10 (Nat.le_of_ble_eq_true rfl) (ms24 _ _) rfl (Nat.le_of_ble_eq_true rfl) tw_2_110 rfl (v := .ref (ad 45)) rfl dX9_logEntry_30 ?_
      refine lv_iload_n hx hb dX9_logEntry_33 rfl (lv_at hl 1 rfl) ?_
      refine lv_iload_n hx hb dX9_logEntry_34 rfl (lv_at hl 2 rfl) ?_
      obtain ⟨v2, z3, hD⟩ := b1_el hD
      refine rcVN (Wf := fun z => Wf h z) (mm := m) (As := [.int x1, .int x2]) (rest := []) Fx0 (c_X4_entry l (Wf := fun z0_ => Wf h z0_) (hL h) (fun a0_ b0_ => hAd h h a0_ b0_) m x1 x2 z3) hP (hD1 _ (hAd _ _ _ _)) hS (hA1 _ _ (hAd _ _ _ _) hS.1) (hL h) (Nat.le_of_ble_eq_true rfl) (ms45 _ _) rfl tw_6_236 tw_6_233 tw_6_235 ts_80 tw_1_5 yd_X4_entry ⟨(Nat.le_of_ble_eq_true rfl), (Nat.le_of_ble_eq_true rfl)⟩ rfl hl.1 rfl (Nat.le_of_ble_eq_true rfl) dX9_logEntry_35 (fun H locs hP hS => ?_)
      obtain rfl := es1 hD
      exact hret _ _ _ hP hS (fun Qc hq => W.iret hx hb hr hq hS.2.2 dX9_logEntry_38 hlocks)
    · have hD := ifn hD c
      refine lv_iconst (v := (-1 : Int32)) hx hb dX9_logEntry_24 (by decide) ?_
      obtain rfl := es1 hD
      exact hret _ _ _ hP hS (fun Qc hq => W.iret hx hb hr hq hS.2.2 dX9_logEntry_25 hlocks)
set_option maxHeartbeats 4000000 in
set_option maxRecDepth 100000 in
theorem x_X9_logEntry (l : Launch) (hst : l.stackTraces = false) {D : va_G} {cs : Nat → ClassId} {adh ad ma : Nat → Nat} {Wf : MM → MM → va_W} (hLh : ∀ m : MM, Ln 8 adh (hsh cs adh ma) (fun z => Wf z m)) (hL : ∀ h : MM, Ln 51 ad (msh cs ad) (fun z => Wf h z)) (hAd : ∀ a0_ b0_ a1_ b1_ : MM, (Wf a0_ a1_).map (fun q => q.1) = (Wf b0_ b1_).map (fun q => q.1)) (hm1 : ma 1 = ad 24) (h : MM) (m : MM) (x1 : Int32) (x2 : Int32) {kx : Nat} (hD : D_X9_logEntry x1 x2 h m = some (.inl kx)) : CtX l yX9_logEntry cX9_logEntry 3 (some .int) 7 104 D cs [.ref (adh 0), .int x1, .int x2] (Wf h m) kx := by
  refine CtX.ofW (by decide) (Nat.le_of_ble_eq_true rfl) ?_
  intro p e s m0 below meth c A ls args hx hb hml hlocks hown hex hts hK hP hD1 hSS hS hA1 hl
  have hT : ∀ w ∈ TBL, w.before args s = true := fun w h => hts w (List.mem_cons_of_mem _ h)
  have Fx0 : Fx p l m0 c cX9_logEntry 3 s args yX9_logEntry cX9_logEntry 3 (some .int) D cs A := ⟨hx, hb, hml, hown, hts, hK, hSS⟩
  have hown : s.vm.findClass RX9 = some m0.cls := hown
  have hl : lv_has ls 3 [(0, .ref (adh 0)), (1, .int x1), (2, .int x2)] := hl
  unfold D_X9_logEntry at hD
  refine lv_iload_n hx hb dX9_logEntry_0 rfl (lv_at hl 2 rfl) ?_
  refine lv_iconst (v := (0 : Int32)) hx hb dX9_logEntry_1 (by decide) ?_
  refine lv_iconst (v := (2 : Int32)) hx hb dX9_logEntry_2 (by decide) ?_
  rcases bX_ex hD with z1 | ⟨u_, z1, hD⟩
  · exact rcX (As := [.int x2, .int (0 : Int32), .int (2 : Int32)]) (rest := []) Fx0 (x_X9_requireRange l hst x2 (0 : Int32) (2 : Int32) z1) hP (hD1 _ (hAd _ _ _ _)) hS (hA1 _ _ (hAd _ _ _ _) hS.1) hlocks hex tw_5_211 tw_5_209 tw_5_210 tw_1_1 yd_X9_requireRange ⟨⟨(Nat.le_of_ble_eq_true rfl), (Nat.le_of_ble_eq_true rfl)⟩, by decide, by decide⟩ rfl hl.1 rfl (Nat.le_of_ble_eq_true rfl) dX9_logEntry_3
  refine rcS (As := [.int x2, .int (0 : Int32), .int (2 : Int32)]) (rest := []) Fx0 (c_X9_requireRange l x2 (0 : Int32) (2 : Int32) z1) hP (hD1 _ (hAd _ _ _ _)) hS (hA1 _ _ (hAd _ _ _ _) hS.1) tw_5_211 tw_5_209 tw_5_210 tw_1_1 yd_X9_requireRange ⟨(Nat.le_of_ble_eq_true rfl), (Nat.le_of_ble_eq_true rfl)⟩ rfl hl.1 rfl (Nat.le_of_ble_eq_true rfl) dX9_logEntry_3 (fun H locs hP hS => ?_)
  exact lif_no hD

noncomputable def D_X9_shortage (x1 : Int32) (h : MM) (m : MM) : Option (Nat ⊕ Int32) := bX (D_X9_requireIndex x1 (gi m 28 0)) (fun _ => lif (b1 (D_X6_missing x1 (1 : Int32) m) (fun v2 => some (v2))))
noncomputable def D_X9_shortageFor (x1 : Int32) (x2 : Int32) (h : MM) (m : MM) : Option (Nat ⊕ Int32) := bX (D_X9_requireIndex x1 (gi m 28 0)) (fun _ => bX (D_X9_requireRange x2 (1 : Int32) (1000 : Int32)) (fun _ => lif (b1 (D_X6_missing x1 x2 m) (fun v3 => some (v3)))))
noncomputable def D_X9_runsOut (x1 : Int32) (h : MM) (m : MM) (f : MM) : Option (Nat ⊕ (Int32 × MM × MM)) := bX (D_X9_requireIndex x1 (gi m 24 6)) (fun _ => lif (b1 (D_X3_begin h m f) (fun m2 => b3 (D_X3_actionsUntilEmpty x1 h m m2) (fun v4 m5 m6 => some (v4, m5, m6)))))
set_option maxHeartbeats 4000000 in
set_option maxRecDepth 100000 in
theorem c_X9_runsOut (l : Launch) {D : va_G} {cs : Nat → ClassId} {adh ad adf ma : Nat → Nat} {Wf : MM → MM → MM → va_W} (hLh : ∀ m f : MM, Ln 8 adh (hsh cs adh ma) (fun z => Wf z m f)) (hL : ∀ h f : MM, Ln 51 ad (msh cs ad) (fun z => Wf h z f)) (hLf : ∀ h m : MM, Ln 51 adf (msh cs adf) (fun z => Wf h m z)) (hAd : ∀ a0_ b0_ a1_ b1_ a2_ b2_ : MM, (Wf a0_ a1_ a2_).map (fun q => q.1) = (Wf b0_ b1_ b2_).map (fun q => q.1)) (hm1 : ma 1 = ad 24) (hm2 : ma 2 = adf 24) (h : MM) (m : MM) (f : MM) (x1 : Int32) {rr : Int32} {h' : MM} {f' : MM} (hD : D_X9_runsOut x1 h m f = some (.inr (rr, h', f'))) : Ct l yX9_runsOut cX9_runsOut 2 (some .int) 7 158 D cs [.ref (adh 0), .int x1] (Wf h m f) (Wf h' m f') (some (.int rr)) := by
  refine Ct.ofW (by decide) (Nat.le_of_ble_eq_true rfl) (hAd _ _ _ _ _ _) ?_
  intro p e s m0 below meth c A Q ls args hx hb hr hml hlocks hown hts hK hP hD1 hSS hS hA1 hl hret
  have hT : ∀ w ∈ TBL, w.before args s = true := fun w h => hts w (List.mem_cons_of_mem _ h)
  have Fx0 : Fx p l m0 c cX9_runsOut 2 s args yX9_runsOut cX9_runsOut 2 (some .int) D cs A := ⟨hx, hb, hml, hown, hts, hK, hSS⟩
  have hown : s.vm.findClass RX9 = some m0.cls := hown
  have hl : lv_has ls 2 [(0, .ref (adh 0)), (1, .int x1)] := hl
  unfold D_X9_runsOut at hD
  refine lv_iload_n hx hb dX9_runsOut_0 rfl (lv_at hl 1 rfl) ?_
  refine lv_aload_n hx hb dX9_runsOut_1 rfl (lv_at hl 0 rfl) ?_
  refine rg (Wf := fun z => Wf z m f) (mm := h) hx hb hT hu9 hown hK hP (hLh m f) 0 3 (Nat.le_of_ble_eq_true rfl) (hs0 _ _) rfl (Nat.le_of_ble_eq_true rfl) (Fx0.T tw_3_4) rfl (v := .ref (ad 24)) (congrArg (fun z => some (Value.ref z)) hm1) dX9_runsOut_2 ?_
  refine rgN (Wf := fun z => Wf h z f) (mm := m) hx hb hT hu6 hown hK hP (hL h f) 24 6 (Nat.le_of_ble_eq_true rfl) (ms24 _ _) rfl (Nat.le_of_ble_eq_true rfl) tw_2_96 rfl (v := .int (gi m 24 6)) rfl dX9_runsOut_5 ?_
  obtain ⟨u_, z1, hD⟩ := bX_el hD
  refine rcS (As := [.int x1, .int (gi m 24 6)]) (rest := []) Fx0 (c_X9_requireIndex l x1 (gi m 24 6) z1) hP (hD1 _ (hAd _ _ _ _ _ _)) hS (hA1 _ _ (hAd _ _ _ _ _ _) hS.1) tw_5_96 tw_5_94 tw_5_95 tw_1_1 yd_X9_requireIndex ⟨(Nat.le_of_ble_eq_true rfl), (Nat.le_of_ble_eq_true rfl)⟩ rfl hl.1 rfl (Nat.le_of_ble_eq_true rfl) dX9_runsOut_8 (fun H locs hP hS => ?_)
  have hD := lif_el hD
  refine lv_aload_n hx hb dX9_runsOut_11 rfl (lv_at hl 0 rfl) ?_
  refine rg (Wf := fun z => Wf z m f) (mm := h) hx hb hT hu9 hown hK hP (hLh m f) 0 5 (Nat.le_of_ble_eq_true rfl) (hs0 _ _) rfl (Nat.le_of_ble_eq_true rfl) (Fx0.T tw_3_6) rfl (v := .ref (adh 3)) rfl dX9_runsOut_12 ?_
  obtain ⟨m2, z3, hD⟩ := b1_el hD
  refine rcVN (Wf := fun z => Wf z m f) (mm := h) (As := []) (rest := []) Fx0 (c_X3_begin l (Wf := fun z0_ z1_ z2_ => Wf z0_ z1_ z2_) (fun z1_ z2_ => hLh z1_ z2_) (fun z0_ z2_ => hL z0_ z2_) (fun z0_ z1_ => hLf z0_ z1_) (fun a0_ b0_ a1_ b1_ a2_ b2_ => hAd a0_ b0_ a1_ b1_ a2_ b2_) hm1 hm2 h m f z3) hP (hD1 _ (hAd _ _ _ _ _ _)) hS (hA1 _ _ (hAd _ _ _ _ _ _) hS.1) (hLh m f) (Nat.le_of_ble_eq_true rfl) (hs3 _ _) rfl tw_6_180 tw_6_177 tw_6_179 ts_77 tw_1_11 yd_X3_begin ⟨(Nat.le_of_ble_eq_true rfl), (Nat.le_of_ble_eq_true rfl)⟩ rfl hl.1 rfl (Nat.le_of_ble_eq_true rfl) dX9_runsOut_15 (fun H locs hP hS => ?_)
  refine lv_aload_n hx hb dX9_runsOut_18 rfl (lv_at hl 0 rfl) ?_
  refine rg (Wf := fun z => Wf z m m2) (mm := h) hx hb hT hu9 hown hK hP (hLh m m2) 0 5 (Nat.le_of_ble_eq_true rfl) (hs0 _ _) rfl (Nat.le_of_ble_eq_true rfl) (Fx0.T tw_3_6) rfl (v := .ref (adh 3)) rfl dX9_runsOut_19 ?_
  refine lv_iload_n hx hb dX9_runsOut_22 rfl (lv_at hl 1 rfl) ?_
  obtain ⟨v4, m5, m6, z7, hD⟩ := b3_el hD
  refine rcVN (Wf := fun z => Wf z m m2) (mm := h) (As := [.int x1]) (rest := []) Fx0 (c_X3_actionsUntilEmpty l (Wf := fun z0_ z1_ z2_ => Wf z0_ z1_ z2_) (fun z1_ z2_ => hLh z1_ z2_) (fun z0_ z2_ => hL z0_ z2_) (fun z0_ z1_ => hLf z0_ z1_) (fun a0_ b0_ a1_ b1_ a2_ b2_ => hAd a0_ b0_ a1_ b1_ a2_ b2_) hm1 hm2 h m m2 x1 z7) hP (hD1 _ (hAd _ _ _ _ _ _)) hS (hA1 _ _ (hAd _ _ _ _ _ _) hS.1) (hLh m m2) (Nat.le_of_ble_eq_true rfl) (hs3 _ _) rfl tw_6_220 tw_6_217 tw_6_219 ts_79 tw_1_11 yd_X3_actionsUntilEmpty ⟨(Nat.le_of_ble_eq_true rfl), (Nat.le_of_ble_eq_true rfl)⟩ rfl hl.1 rfl (Nat.le_of_ble_eq_true rfl) dX9_runsOut_23 (fun H locs hP hS => ?_)
  obtain ⟨rfl, rfl, rfl⟩ := es3 hD
  exact hret _ _ _ hP hS (fun Qc hq => W.iret hx hb hr hq hS.2.2 dX9_runsOut_26 hlocks)
set_option maxHeartbeats 4000000 in
set_option maxRecDepth 100000 in
theorem x_X9_runsOut (l : Launch) (hst : l.stackTraces = false) {D : va_G} {cs : Nat → ClassId} {adh ad adf ma : Nat → Nat} {Wf : MM → MM → MM → va_W} (hLh : ∀ m f : MM, Ln 8 adh (hsh cs adh ma) (fun z => Wf z m f)) (hL : ∀ h f : MM, Ln 51 ad (msh cs ad) (fun z => Wf h z f)) (hLf : ∀ h m : MM, Ln 51 adf (msh cs adf) (fun z => Wf h m z)) (hAd : ∀ a0_ b0_ a1_ b1_ a2_ b2_ : MM, (Wf a0_ a1_ a2_).map (fun q => q.1) = (Wf b0_ b1_ b2_).map (fun q => q.1)) (hm1 : ma 1 = ad 24) (hm2 : ma 2 = adf 24) (h : MM) (m : MM) (f : MM) (x1 : Int32) {kx : Nat} (hD : D_X9_runsOut x1 h m f = some (.inl kx)) : CtX l yX9_runsOut cX9_runsOut 2 (some .int) 7 158 D cs [.ref (adh 0), .int x1] (Wf h m f) kx := by
  refine CtX.ofW (by decide) (Nat.le_of_ble_eq_true rfl) ?_
  intro p e s m0 below meth c A ls args hx hb hml hlocks hown hex hts hK hP hD1 hSS hS hA1 hl
  have hT : ∀ w ∈ TBL, w.before args s = true := fun w h => hts w (List.mem_cons_of_mem _ h)
  have Fx0 : Fx p l m0 c cX9_runsOut 2 s args yX9_runsOut cX9_runsOut 2 (some .int) D cs A := ⟨hx, hb, hml, hown, hts, hK, hSS⟩
  have hown : s.vm.findClass RX9 = some m0.cls := hown
  have hl : lv_has ls 2 [(0, .ref (adh 0)), (1, .int x1)] := hl
  unfold D_X9_runsOut at hD
  refine lv_iload_n hx hb dX9_runsOut_0 rfl (lv_at hl 1 rfl) ?_
  refine lv_aload_n hx hb dX9_runsOut_1 rfl (lv_at hl 0 rfl) ?_
  refine rg (Wf := fun z => Wf z m f) (mm := h) hx hb hT hu9 hown hK hP (hLh m f) 0 3 (Nat.le_of_ble_eq_true rfl) (hs0 _ _) rfl (Nat.le_of_ble_eq_true rfl) (Fx0.T tw_3_4) rfl (v := .ref (ad 24)) (congrArg (fun z => some (Value.ref z)) hm1) dX9_runsOut_2 ?_
  refine rgN (Wf := fun z => Wf h z f) (mm := m) hx hb hT hu6 hown hK hP (hL h f) 24 6 (Nat.le_of_ble_eq_true rfl) (ms24 _ _) rfl (Nat.le_of_ble_eq_true rfl) tw_2_96 rfl (v := .int (gi m 24 6)) rfl dX9_runsOut_5 ?_
  rcases bX_ex hD with z1 | ⟨u_, z1, hD⟩
  · exact rcX (As := [.int x1, .int (gi m 24 6)]) (rest := []) Fx0 (x_X9_requireIndex l hst x1 (gi m 24 6) z1) hP (hD1 _ (hAd _ _ _ _ _ _)) hS (hA1 _ _ (hAd _ _ _ _ _ _) hS.1) hlocks hex tw_5_96 tw_5_94 tw_5_95 tw_1_1 yd_X9_requireIndex ⟨⟨(Nat.le_of_ble_eq_true rfl), (Nat.le_of_ble_eq_true rfl)⟩, by decide, by decide⟩ rfl hl.1 rfl (Nat.le_of_ble_eq_true rfl) dX9_runsOut_8
  refine rcS (As := [.int x1, .int (gi m 24 6)]) (rest := []) Fx0 (c_X9_requireIndex l x1 (gi m 24 6) z1) hP (hD1 _ (hAd _ _ _ _ _ _)) hS (hA1 _ _ (hAd _ _ _ _ _ _) hS.1) tw_5_96 tw_5_94 tw_5_95 tw_1_1 yd_X9_requireIndex ⟨(Nat.le_of_ble_eq_true rfl), (Nat.le_of_ble_eq_true rfl)⟩ rfl hl.1 rfl (Nat.le_of_ble_eq_true rfl) dX9_runsOut_8 (fun H locs hP hS => ?_)
  exact lif_no hD

noncomputable def D_X9_saveSnapshot (x1 : Int32) (h : MM) (m : MM) (c0 : MM) (c1 : MM) : Option (Nat ⊕ (Int32 × MM × MM × MM)) := bX (D_X9_requireRange x1 (0 : Int32) (1 : Int32)) (fun _ => lif (if x1 = (0 : Int32) then (b1 (D_X6_copyFrom c0 m) (fun m2 => if x1 < 0 ∨ 2 ≤ x1.toNatClampNeg then none else (bnd (si h 6 x1.toNatClampNeg (vp_nar .boolean (1 : Int32))) (fun m5 => some ((gi m 24 13), m5, m2, c1))))) else if x1 = (1 : Int32) then (b1 (D_X6_copyFrom c1 m) (fun m6 => if x1 < 0 ∨ 2 ≤ x1.toNatClampNeg then none else (bnd (si h 6 x1.toNatClampNeg (vp_nar .boolean (1 : Int32))) (fun m9 => some ((gi m 24 13), m9, c0, m6))))) else none))
set_option maxHeartbeats 4000000 in
set_option maxRecDepth 100000 in
theorem c_X9_saveSnapshot (l : Launch) {D : va_G} {cs : Nat → ClassId} {adh ad ad0 ad1 ma : Nat → Nat} {Wf : MM → MM → MM → MM → va_W} (hLh : ∀ m c0 c1 : MM, Ln 8 adh (hsh cs adh ma) (fun z => Wf z m c0 c1)) (hL : ∀ h c0 c1 : MM, Ln 51 ad (msh cs ad) (fun z => Wf h z c0 c1)) (hL0 : ∀ h m c1 : MM, Ln 51 ad0 (msh cs ad0) (fun z => Wf h m z c1)) (hL1 : ∀ h m c0 : MM, Ln 51 ad1 (msh cs ad1) (fun z => Wf h m c0 z)) (hAd : ∀ a0_ b0_ a1_ b1_ a2_ b2_ a3_ b3_ : MM, (Wf a0_ a1_ a2_ a3_).map (fun q => q.1) = (Wf b0_ b1_ b2_ b3_).map (fun q => q.1)) (hm1 : ma 1 = ad 24) (hm3 : ma 3 = ad0 24) (hm4 : ma 4 = ad1 24) (h : MM) (m : MM) (c0 : MM) (c1 : MM) (x1 : Int32) {rr : Int32} {h' : MM} {c0' : MM} {c1' : MM} (hD : D_X9_saveSnapshot x1 h m c0 c1 = some (.inr (rr, h', c0', c1'))) : Ct l yX9_saveSnapshot cX9_saveSnapshot 2 (some .int) 7 107 D cs [.ref (adh 0), .int x1] (Wf h m c0 c1) (Wf h' m c0' c1') (some (.int rr)) := by
  refine Ct.ofW (by decide) (Nat.le_of_ble_eq_true rfl) (hAd _ _ _ _ _ _ _ _) ?_
  intro p e s m0 below meth c A Q ls args hx hb hr hml hlocks hown hts hK hP hD1 hSS hS hA1 hl hret
  have hT : ∀ w ∈ TBL, w.before args s = true := fun w h => hts w (List.mem_cons_of_mem _ h)
  have Fx0 : Fx p l m0 c cX9_saveSnapshot 2 s args yX9_saveSnapshot cX9_saveSnapshot 2 (some .int) D cs A := ⟨hx, hb, hml, hown, hts, hK, hSS⟩
  have hown : s.vm.findClass RX9 = some m0.cls := hown
  have hl : lv_has ls 2 [(0, .ref (adh 0)), (1, .int x1)] := hl
  unfold D_X9_saveSnapshot at hD
  refine lv_iload_n hx hb dX9_saveSnapshot_0 rfl (lv_at hl 1 rfl) ?_
  refine lv_iconst (v := (0 : Int32)) hx hb dX9_saveSnapshot_1 (by decide) ?_
  refine lv_iconst (v := (1 : Int32)) hx hb dX9_saveSnapshot_2 (by decide) ?_
  obtain ⟨u_, z1, hD⟩ := bX_el hD
  refine rcS (As := [.int x1, .int (0 : Int32), .int (1 : Int32)]) (rest := []) Fx0 (c_X9_requireRange l x1 (0 : Int32) (1 : Int32) z1) hP (hD1 _ (hAd _ _ _ _ _ _ _ _)) hS (hA1 _ _ (hAd _ _ _ _ _ _ _ _) hS.1) tw_5_211 tw_5_209 tw_5_210 tw_1_1 yd_X9_requireRange ⟨(Nat.le_of_ble_eq_true rfl), (Nat.le_of_ble_eq_true rfl)⟩ rfl hl.1 rfl (Nat.le_of_ble_eq_true rfl) dX9_saveSnapshot_3 (fun H locs hP hS => ?_)
  have hD := lif_el hD
  refine lv_aload_n hx hb dX9_saveSnapshot_6 rfl (lv_at hl 0 rfl) ?_
  refine rg (Wf := fun z => Wf z m c0 c1) (mm := h) hx hb hT hu9 hown hK hP (hLh m c0 c1) 0 8 (Nat.le_of_ble_eq_true rfl) (hs0 _ _) rfl (Nat.le_of_ble_eq_true rfl) (Fx0.T tw_3_9) rfl (v := .ref (adh 7)) rfl dX9_saveSnapshot_7 ?_
  refine lv_iload_n hx hb dX9_saveSnapshot_10 rfl (lv_at hl 1 rfl) ?_
  by_cases hr0 : x1 = (0 : Int32)
  · have hD := ifp hD hr0
    refine raald (Wf := fun z => Wf z m c0 c1) (mm := h) hx hb hK hP (hLh m c0 c1) 7 6 (Nat.le_of_ble_eq_true rfl) (hs7 _ _) rfl (by rw [hr0]; decide) (j := 0) (by rw [hr0]; first | done | rfl | decide) dX9_saveSnapshot_11 ?_
    refine lv_nmr (y := ad0 24) hm3 ?_
    refine lv_aload_n hx hb dX9_saveSnapshot_12 rfl (lv_at hl 0 rfl) ?_
    refine rg (Wf := fun z => Wf z m c0 c1) (mm := h) hx hb hT hu9 hown hK hP (hLh m c0 c1) 0 3 (Nat.le_of_ble_eq_true rfl) (hs0 _ _) rfl (Nat.le_of_ble_eq_true rfl) (Fx0.T tw_3_4) rfl (v := .ref (ad 24)) (congrArg (fun z => some (Value.ref z)) hm1) dX9_saveSnapshot_13 ?_
    obtain ⟨m2, z3, hD⟩ := b1_el hD
    refine rcVN (Wf := fun z => Wf h m z c1) (mm := c0) (As := [.ref (ad 24)]) (rest := []) Fx0 (c_X6_copyFrom l (Wf := fun z0_ z1_ => Wf h z1_ z0_ c1) (fun z1_ => hL0 h z1_ c1) (fun z0_ => hL h z0_ c1) (fun a0_ b0_ a1_ b1_ => hAd h h a1_ b1_ a0_ b0_ c1 c1) c0 m z3) hP (hD1 _ (hAd _ _ _ _ _ _ _ _)) hS (hA1 _ _ (hAd _ _ _ _ _ _ _ _) hS.1) (hL0 h m c1) (Nat.le_of_ble_eq_true rfl) (ms24 _ _) rfl tw_4_2 tw_3_239 tw_4_1 ts_35 tw_1_2 yd_X6_copyFrom ⟨(Nat.le_of_ble_eq_true rfl), (Nat.le_of_ble_eq_true rfl)⟩ rfl hl.1 rfl (Nat.le_of_ble_eq_true rfl) dX9_saveSnapshot_16 (fun H locs hP hS => ?_)
    refine lv_aload_n hx hb dX9_saveSnapshot_19 rfl (lv_at hl 0 rfl) ?_
    refine rg (Wf := fun z => Wf z m m2 c1) (mm := h) hx hb hT hu9 hown hK hP (hLh m m2 c1) 0 9 (Nat.le_of_ble_eq_true rfl) (hs0 _ _) rfl (Nat.le_of_ble_eq_true rfl) (Fx0.T tw_3_10) rfl (v := .ref (adh 6)) rfl dX9_saveSnapshot_20 ?_
    refine lv_iload_n hx hb dX9_saveSnapshot_23 rfl (lv_at hl 1 rfl) ?_
    refine lv_iconst (v := (1 : Int32)) hx hb dX9_saveSnapshot_24 (by decide) ?_
    obtain ⟨h4, hD⟩ := gd_el hD
    obtain ⟨m5, em5, hD⟩ := bnd_el hD
    refine rzast (Wf := fun z => Wf z m m2 c1) (mm := h) hx hb hK hP (hD1 _ (hAd _ _ _ _ _ _ _ _)) hS (hLh m m2 c1) 6 (Nat.le_of_ble_eq_true rfl) (fun _ => hs6 _ _) h4 rfl dX9_saveSnapshot_25 em5 (fun H locs hP hS => ?_)
    refine lv_aload_n hx hb dX9_saveSnapshot_26 rfl (lv_at hl 0 rfl) ?_
    refine rg (Wf := fun z => Wf z m m2 c1) (mm := m5) hx hb hT hu9 hown hK hP (hLh m m2 c1) 0 3 (Nat.le_of_ble_eq_true rfl) (hs0 _ _) rfl (Nat.le_of_ble_eq_true rfl) (Fx0.T tw_3_4) rfl (v := .ref (ad 24)) (congrArg (fun z => some (Value.ref z)) hm1) dX9_saveSnapshot_27 ?_
    refine rgN (Wf := fun z => Wf m5 z m2 c1) (mm := m) hx hb hT hu6 hown hK hP (hL m5 m2 c1) 24 13 (Nat.le_of_ble_eq_true rfl) (ms24 _ _) rfl (Nat.le_of_ble_eq_true rfl) tw_2_117 rfl (v := .int (gi m 24 13)) rfl dX9_saveSnapshot_30 ?_
    obtain ⟨rfl, rfl, rfl, rfl⟩ := es4 hD
    exact hret _ _ _ hP hS (fun Qc hq => W.iret hx hb hr hq hS.2.2 dX9_saveSnapshot_33 hlocks)
  · have hD := ifn hD hr0
    by_cases hr1 : x1 = (1 : Int32)
    · have hD := ifp hD hr1
      refine raald (Wf := fun z => Wf z m c0 c1) (mm := h) hx hb hK hP (hLh m c0 c1) 7 6 (Nat.le_of_ble_eq_true rfl) (hs7 _ _) rfl (by rw [hr1]; decide) (j := 1) (by rw [hr1]; first | done | rfl | decide) dX9_saveSnapshot_11 ?_
      refine lv_nmr (y := ad1 24) hm4 ?_
      refine lv_aload_n hx hb dX9_saveSnapshot_12 rfl (lv_at hl 0 rfl) ?_
      refine rg (Wf := fun z => Wf z m c0 c1) (mm := h) hx hb hT hu9 hown hK hP (hLh m c0 c1) 0 3 (Nat.le_of_ble_eq_true rfl) (hs0 _ _) rfl (Nat.le_of_ble_eq_true rfl) (Fx0.T tw_3_4) rfl (v := .ref (ad 24)) (congrArg (fun z => some (Value.ref z)) hm1) dX9_saveSnapshot_13 ?_
      obtain ⟨m6, z7, hD⟩ := b1_el hD
      refine rcVN (Wf := fun z => Wf h m c0 z) (mm := c1) (As := [.ref (ad 24)]) (rest := []) Fx0 (c_X6_copyFrom l (Wf := fun z0_ z1_ => Wf h z1_ c0 z0_) (fun z1_ => hL1 h z1_ c0) (fun z0_ => hL h c0 z0_) (fun a0_ b0_ a1_ b1_ => hAd h h a1_ b1_ c0 c0 a0_ b0_) c1 m z7) hP (hD1 _ (hAd _ _ _ _ _ _ _ _)) hS (hA1 _ _ (hAd _ _ _ _ _ _ _ _) hS.1) (hL1 h m c0) (Nat.le_of_ble_eq_true rfl) (ms24 _ _) rfl tw_4_2 tw_3_239 tw_4_1 ts_35 tw_1_2 yd_X6_copyFrom ⟨(Nat.le_of_ble_eq_true rfl), (Nat.le_of_ble_eq_true rfl)⟩ rfl hl.1 rfl (Nat.le_of_ble_eq_true rfl) dX9_saveSnapshot_16 (fun H locs hP hS => ?_)
      refine lv_aload_n hx hb dX9_saveSnapshot_19 rfl (lv_at hl 0 rfl) ?_
      refine rg (Wf := fun z => Wf z m c0 m6) (mm := h) hx hb hT hu9 hown hK hP (hLh m c0 m6) 0 9 (Nat.le_of_ble_eq_true rfl) (hs0 _ _) rfl (Nat.le_of_ble_eq_true rfl) (Fx0.T tw_3_10) rfl (v := .ref (adh 6)) rfl dX9_saveSnapshot_20 ?_
      refine lv_iload_n hx hb dX9_saveSnapshot_23 rfl (lv_at hl 1 rfl) ?_
      refine lv_iconst (v := (1 : Int32)) hx hb dX9_saveSnapshot_24 (by decide) ?_
      obtain ⟨h8, hD⟩ := gd_el hD
      obtain ⟨m9, em9, hD⟩ := bnd_el hD
      refine rzast (Wf := fun z => Wf z m c0 m6) (mm := h) hx hb hK hP (hD1 _ (hAd _ _ _ _ _ _ _ _)) hS (hLh m c0 m6) 6 (Nat.le_of_ble_eq_true rfl) (fun _ => hs6 _ _) h8 rfl dX9_saveSnapshot_25 em9 (fun H locs hP hS => ?_)
      refine lv_aload_n hx hb dX9_saveSnapshot_26 rfl (lv_at hl 0 rfl) ?_
      refine rg (Wf := fun z => Wf z m c0 m6) (mm := m9) hx hb hT hu9 hown hK hP (hLh m c0 m6) 0 3 (Nat.le_of_ble_eq_true rfl) (hs0 _ _) rfl (Nat.le_of_ble_eq_true rfl) (Fx0.T tw_3_4) rfl (v := .ref (ad 24)) (congrArg (fun z => some (Value.ref z)) hm1) dX9_saveSnapshot_27 ?_
      refine rgN (Wf := fun z => Wf m9 z c0 m6) (mm := m) hx hb hT hu6 hown hK hP (hL m9 c0 m6) 24 13 (Nat.le_of_ble_eq_true rfl) (ms24 _ _) rfl (Nat.le_of_ble_eq_true rfl) tw_2_117 rfl (v := .int (gi m 24 13)) rfl dX9_saveSnapshot_30 ?_
      obtain ⟨rfl, rfl, rfl, rfl⟩ := es4 hD
      exact hret _ _ _ hP hS (fun Qc hq => W.iret hx hb hr hq hS.2.2 dX9_saveSnapshot_33 hlocks)
    · have hD := ifn hD hr1
      exact nn_el hD
set_option maxHeartbeats 4000000 in
set_option maxRecDepth 100000 in
theorem x_X9_saveSnapshot (l : Launch) (hst : l.stackTraces = false) {D : va_G} {cs : Nat → ClassId} {adh ad ad0 ad1 ma : Nat → Nat} {Wf : MM → MM → MM → MM → va_W} (hLh : ∀ m c0 c1 : MM, Ln 8 adh (hsh cs adh ma) (fun z => Wf z m c0 c1)) (hL : ∀ h c0 c1 : MM, Ln 51 ad (msh cs ad) (fun z => Wf h z c0 c1)) (hL0 : ∀ h m c1 : MM, Ln 51 ad0 (msh cs ad0) (fun z => Wf h m z c1)) (hL1 : ∀ h m c0 : MM, Ln 51 ad1 (msh cs ad1) (fun z => Wf h m c0 z)) (hAd : ∀ a0_ b0_ a1_ b1_ a2_ b2_ a3_ b3_ : MM, (Wf a0_ a1_ a2_ a3_).map (fun q => q.1) = (Wf b0_ b1_ b2_ b3_).map (fun q => q.1)) (hm1 : ma 1 = ad 24) (hm3 : ma 3 = ad0 24) (hm4 : ma 4 = ad1 24) (h : MM) (m : MM) (c0 : MM) (c1 : MM) (x1 : Int32) {kx : Nat} (hD : D_X9_saveSnapshot x1 h m c0 c1 = some (.inl kx)) : CtX l yX9_saveSnapshot cX9_saveSnapshot 2 (some .int) 7 107 D cs [.ref (adh 0), .int x1] (Wf h m c0 c1) kx := by
  refine CtX.ofW (by decide) (Nat.le_of_ble_eq_true rfl) ?_
  intro p e s m0 below meth c A ls args hx hb hml hlocks hown hex hts hK hP hD1 hSS hS hA1 hl
  have hT : ∀ w ∈ TBL, w.before args s = true := fun w h => hts w (List.mem_cons_of_mem _ h)
  have Fx0 : Fx p l m0 c cX9_saveSnapshot 2 s args yX9_saveSnapshot cX9_saveSnapshot 2 (some .int) D cs A := ⟨hx, hb, hml, hown, hts, hK, hSS⟩
  have hown : s.vm.findClass RX9 = some m0.cls := hown
  have hl : lv_has ls 2 [(0, .ref (adh 0)), (1, .int x1)] := hl
  unfold D_X9_saveSnapshot at hD
  refine lv_iload_n hx hb dX9_saveSnapshot_0 rfl (lv_at hl 1 rfl) ?_
  refine lv_iconst (v := (0 : Int32)) hx hb dX9_saveSnapshot_1 (by decide) ?_
  refine lv_iconst (v := (1 : Int32)) hx hb dX9_saveSnapshot_2 (by decide) ?_
  rcases bX_ex hD with z1 | ⟨u_, z1, hD⟩
  · exact rcX (As := [.int x1, .int (0 : Int32), .int (1 : Int32)]) (rest := []) Fx0 (x_X9_requireRange l hst x1 (0 : Int32) (1 : Int32) z1) hP (hD1 _ (hAd _ _ _ _ _ _ _ _)) hS (hA1 _ _ (hAd _ _ _ _ _ _ _ _) hS.1) hlocks hex tw_5_211 tw_5_209 tw_5_210 tw_1_1 yd_X9_requireRange ⟨⟨(Nat.le_of_ble_eq_true rfl), (Nat.le_of_ble_eq_true rfl)⟩, by decide, by decide⟩ rfl hl.1 rfl (Nat.le_of_ble_eq_true rfl) dX9_saveSnapshot_3
  refine rcS (As := [.int x1, .int (0 : Int32), .int (1 : Int32)]) (rest := []) Fx0 (c_X9_requireRange l x1 (0 : Int32) (1 : Int32) z1) hP (hD1 _ (hAd _ _ _ _ _ _ _ _)) hS (hA1 _ _ (hAd _ _ _ _ _ _ _ _) hS.1) tw_5_211 tw_5_209 tw_5_210 tw_1_1 yd_X9_requireRange ⟨(Nat.le_of_ble_eq_true rfl), (Nat.le_of_ble_eq_true rfl)⟩ rfl hl.1 rfl (Nat.le_of_ble_eq_true rfl) dX9_saveSnapshot_3 (fun H locs hP hS => ?_)
  exact lif_no hD

noncomputable def D_X9_restoreSnapshot (x1 : Int32) (h : MM) (m : MM) (c0 : MM) (c1 : MM) : Option (Nat ⊕ (Int32 × MM)) := bX (D_X9_requireRange x1 (0 : Int32) (1 : Int32)) (fun _ => lif (if x1 < 0 ∨ 2 ≤ x1.toNatClampNeg then none else (if (gi h 6 x1.toNatClampNeg) = 0 then (some ((-1 : Int32), m)) else (if x1 = (0 : Int32) then (b1 (D_X6_copyFrom m c0) (fun m3 => some ((gi m3 24 13), m3))) else if x1 = (1 : Int32) then (b1 (D_X6_copyFrom m c1) (fun m5 => some ((gi m5 24 13), m5))) else none))))
set_option maxHeartbeats 4000000 in
set_option maxRecDepth 100000 in
theorem c_X9_restoreSnapshot (l : Launch) {D : va_G} {cs : Nat → ClassId} {adh ad ad0 ad1 ma : Nat → Nat} {Wf : MM → MM → MM → MM → va_W} (hLh : ∀ m c0 c1 : MM, Ln 8 adh (hsh cs adh ma) (fun z => Wf z m c0 c1)) (hL : ∀ h c0 c1 : MM, Ln 51 ad (msh cs ad) (fun z => Wf h z c0 c1)) (hL0 : ∀ h m c1 : MM, Ln 51 ad0 (msh cs ad0) (fun z => Wf h m z c1)) (hL1 : ∀ h m c0 : MM, Ln 51 ad1 (msh cs ad1) (fun z => Wf h m c0 z)) (hAd : ∀ a0_ b0_ a1_ b1_ a2_ b2_ a3_ b3_ : MM, (Wf a0_ a1_ a2_ a3_).map (fun q => q.1) = (Wf b0_ b1_ b2_ b3_).map (fun q => q.1)) (hm1 : ma 1 = ad 24) (hm3 : ma 3 = ad0 24) (hm4 : ma 4 = ad1 24) (h : MM) (m : MM) (c0 : MM) (c1 : MM) (x1 : Int32) {rr : Int32} {m' : MM} (hD : D_X9_restoreSnapshot x1 h m c0 c1 = some (.inr (rr, m'))) : Ct l yX9_restoreSnapshot cX9_restoreSnapshot 2 (some .int) 7 107 D cs [.ref (adh 0), .int x1] (Wf h m c0 c1) (Wf h m' c0 c1) (some (.int rr)) := by
  refine Ct.ofW (by decide) (Nat.le_of_ble_eq_true rfl) (hAd _ _ _ _ _ _ _ _) ?_
  intro p e s m0 below meth c A Q ls args hx hb hr hml hlocks hown hts hK hP hD1 hSS hS hA1 hl hret
  have hT : ∀ w ∈ TBL, w.before args s = true := fun w h => hts w (List.mem_cons_of_mem _ h)
  have Fx0 : Fx p l m0 c cX9_restoreSnapshot 2 s args yX9_restoreSnapshot cX9_restoreSnapshot 2 (some .int) D cs A := ⟨hx, hb, hml, hown, hts, hK, hSS⟩
  have hown : s.vm.findClass RX9 = some m0.cls := hown
  have hl : lv_has ls 2 [(0, .ref (adh 0)), (1, .int x1)] := hl
  unfold D_X9_restoreSnapshot at hD
  refine lv_iload_n hx hb dX9_restoreSnapshot_0 rfl (lv_at hl 1 rfl) ?_
  refine lv_iconst (v := (0 : Int32)) hx hb dX9_restoreSnapshot_1 (by decide) ?_
  refine lv_iconst (v := (1 : Int32)) hx hb dX9_restoreSnapshot_2 (by decide) ?_
  obtain ⟨u_, z1, hD⟩ := bX_el hD
  refine rcS (As := [.int x1, .int (0 : Int32), .int (1 : Int32)]) (rest := []) Fx0 (c_X9_requireRange l x1 (0 : Int32) (1 : Int32) z1) hP (hD1 _ (hAd _ _ _ _ _ _ _ _)) hS (hA1 _ _ (hAd _ _ _ _ _ _ _ _) hS.1) tw_5_211 tw_5_209 tw_5_210 tw_1_1 yd_X9_requireRange ⟨(Nat.le_of_ble_eq_true rfl), (Nat.le_of_ble_eq_true rfl)⟩ rfl hl.1 rfl (Nat.le_of_ble_eq_true rfl) dX9_restoreSnapshot_3 (fun H locs hP hS => ?_)
  have hD := lif_el hD
  refine lv_aload_n hx hb dX9_restoreSnapshot_6 rfl (lv_at hl 0 rfl) ?_
  refine rg (Wf := fun z => Wf z m c0 c1) (mm := h) hx hb hT hu9 hown hK hP (hLh m c0 c1) 0 9 (Nat.le_of_ble_eq_true rfl) (hs0 _ _) rfl (Nat.le_of_ble_eq_true rfl) (Fx0.T tw_3_10) rfl (v := .ref (adh 6)) rfl dX9_restoreSnapshot_7 ?_
  refine lv_iload_n hx hb dX9_restoreSnapshot_10 rfl (lv_at hl 1 rfl) ?_
  obtain ⟨h2, hD⟩ := gd_el hD
  refine rzald (Wf := fun z => Wf z m c0 c1) (mm := h) hx hb hK hP (hLh m c0 c1) 6 (Nat.le_of_ble_eq_true rfl) (hs6 _ _) h2 rfl dX9_restoreSnapshot_11 ?_
  refine lv_if_ne (tgt := 17) hx hb dX9_restoreSnapshot_12 (by decide) (fun c => ?_) (fun c => ?_)
  · have hD := ifn hD c
    refine lv_aload_n hx hb dX9_restoreSnapshot_17 rfl (lv_at hl 0 rfl) ?_
    refine rg (Wf := fun z => Wf z m c0 c1) (mm := h) hx hb hT hu9 hown hK hP (hLh m c0 c1) 0 3 (Nat.le_of_ble_eq_true rfl) (hs0 _ _) rfl (Nat.le_of_ble_eq_true rfl) (Fx0.T tw_3_4) rfl (v := .ref (ad 24)) (congrArg (fun z => some (Value.ref z)) hm1) dX9_restoreSnapshot_18 ?_
    refine lv_aload_n hx hb dX9_restoreSnapshot_21 rfl (lv_at hl 0 rfl) ?_
    refine rg (Wf := fun z => Wf z m c0 c1) (mm := h) hx hb hT hu9 hown hK hP (hLh m c0 c1) 0 8 (Nat.le_of_ble_eq_true rfl) (hs0 _ _) rfl (Nat.le_of_ble_eq_true rfl) (Fx0.T tw_3_9) rfl (v := .ref (adh 7)) rfl dX9_restoreSnapshot_22 ?_
    refine lv_iload_n hx hb dX9_restoreSnapshot_25 rfl (lv_at hl 1 rfl) ?_
    by_cases hr0 : x1 = (0 : Int32)
    · have hD := ifp hD hr0
      refine raald (Wf := fun z => Wf z m c0 c1) (mm := h) hx hb hK hP (hLh m c0 c1) 7 6 (Nat.le_of_ble_eq_true rfl) (hs7 _ _) rfl (by rw [hr0]; decide) (j := 0) (by rw [hr0]; first | done | rfl | decide) dX9_restoreSnapshot_26 ?_
      refine lv_nmr (y := ad0 24) hm3 ?_
      obtain ⟨m3, z4, hD⟩ := b1_el hD
      refine rcVN (Wf := fun z => Wf h z c0 c1) (mm := m) (As := [.ref (ad0 24)]) (rest := []) Fx0 (c_X6_copyFrom l (Wf := fun z0_ z1_ => Wf h z0_ z1_ c1) (fun z1_ => hL h z1_ c1) (fun z0_ => hL0 h z0_ c1) (fun a0_ b0_ a1_ b1_ => hAd h h a0_ b0_ a1_ b1_ c1 c1) m c0 z4) hP (hD1 _ (hAd _ _ _ _ _ _ _ _)) hS (hA1 _ _ (hAd _ _ _ _ _ _ _ _) hS.1) (hL h c0 c1) (Nat.le_of_ble_eq_true rfl) (ms24 _ _) rfl tw_4_2 tw_3_239 tw_4_1 ts_35 tw_1_2 yd_X6_copyFrom ⟨(Nat.le_of_ble_eq_true rfl), (Nat.le_of_ble_eq_true rfl)⟩ rfl hl.1 rfl (Nat.le_of_ble_eq_true rfl) dX9_restoreSnapshot_27 (fun H locs hP hS => ?_)
      refine lv_aload_n hx hb dX9_restoreSnapshot_30 rfl (lv_at hl 0 rfl) ?_
      refine rg (Wf := fun z => Wf z m3 c0 c1) (mm := h) hx hb hT hu9 hown hK hP (hLh m3 c0 c1) 0 3 (Nat.le_of_ble_eq_true rfl) (hs0 _ _) rfl (Nat.le_of_ble_eq_true rfl) (Fx0.T tw_3_4) rfl (v := .ref (ad 24)) (congrArg (fun z => some (Value.ref z)) hm1) dX9_restoreSnapshot_31 ?_
      refine rgN (Wf := fun z => Wf h z c0 c1) (mm := m3) hx hb hT hu6 hown hK hP (hL h c0 c1) 24 13 (Nat.le_of_ble_eq_true rfl) (ms24 _ _) rfl (Nat.le_of_ble_eq_true rfl) tw_2_117 rfl (v := .int (gi m3 24 13)) rfl dX9_restoreSnapshot_34 ?_
      obtain ⟨rfl, rfl⟩ := es2 hD
      exact hret _ _ _ hP hS (fun Qc hq => W.iret hx hb hr hq hS.2.2 dX9_restoreSnapshot_37 hlocks)
    · have hD := ifn hD hr0
      by_cases hr1 : x1 = (1 : Int32)
      · have hD := ifp hD hr1
        refine raald (Wf := fun z => Wf z m c0 c1) (mm := h) hx hb hK hP (hLh m c0 c1) 7 6 (Nat.le_of_ble_eq_true rfl) (hs7 _ _) rfl (by rw [hr1]; decide) (j := 1) (by rw [hr1]; first | done | rfl | decide) dX9_restoreSnapshot_26 ?_
        refine lv_nmr (y := ad1 24) hm4 ?_
        obtain ⟨m5, z6, hD⟩ := b1_el hD
        refine rcVN (Wf := fun z => Wf h z c0 c1) (mm := m) (As := [.ref (ad1 24)]) (rest := []) Fx0 (c_X6_copyFrom l (Wf := fun z0_ z1_ => Wf h z0_ c0 z1_) (fun z1_ => hL h c0 z1_) (fun z0_ => hL1 h z0_ c0) (fun a0_ b0_ a1_ b1_ => hAd h h a0_ b0_ c0 c0 a1_ b1_) m c1 z6) hP (hD1 _ (hAd _ _ _ _ _ _ _ _)) hS (hA1 _ _ (hAd _ _ _ _ _ _ _ _) hS.1) (hL h c0 c1) (Nat.le_of_ble_eq_true rfl) (ms24 _ _) rfl tw_4_2 tw_3_239 tw_4_1 ts_35 tw_1_2 yd_X6_copyFrom ⟨(Nat.le_of_ble_eq_true rfl), (Nat.le_of_ble_eq_true rfl)⟩ rfl hl.1 rfl (Nat.le_of_ble_eq_true rfl) dX9_restoreSnapshot_27 (fun H locs hP hS => ?_)
        refine lv_aload_n hx hb dX9_restoreSnapshot_30 rfl (lv_at hl 0 rfl) ?_
        refine rg (Wf := fun z => Wf z m5 c0 c1) (mm := h) hx hb hT hu9 hown hK hP (hLh m5 c0 c1) 0 3 (Nat.le_of_ble_eq_true rfl) (hs0 _ _) rfl (Nat.le_of_ble_eq_true rfl) (Fx0.T tw_3_4) rfl (v := .ref (ad 24)) (congrArg (fun z => some (Value.ref z)) hm1) dX9_restoreSnapshot_31 ?_
        refine rgN (Wf := fun z => Wf h z c0 c1) (mm := m5) hx hb hT hu6 hown hK hP (hL h c0 c1) 24 13 (Nat.le_of_ble_eq_true rfl) (ms24 _ _) rfl (Nat.le_of_ble_eq_true rfl) tw_2_117 rfl (v := .int (gi m5 24 13)) rfl dX9_restoreSnapshot_34 ?_
        obtain ⟨rfl, rfl⟩ := es2 hD
        exact hret _ _ _ hP hS (fun Qc hq => W.iret hx hb hr hq hS.2.2 dX9_restoreSnapshot_37 hlocks)
      · have hD := ifn hD hr1
        exact nn_el hD
  · have hD := ifp hD c
    refine lv_iconst (v := (-1 : Int32)) hx hb dX9_restoreSnapshot_15 (by decide) ?_
    obtain ⟨rfl, rfl⟩ := es2 hD
    exact hret _ _ _ hP hS (fun Qc hq => W.iret hx hb hr hq hS.2.2 dX9_restoreSnapshot_16 hlocks)
set_option maxHeartbeats 4000000 in
set_option maxRecDepth 100000 in
theorem x_X9_restoreSnapshot (l : Launch) (hst : l.stackTraces = false) {D : va_G} {cs : Nat → ClassId} {adh ad ad0 ad1 ma : Nat → Nat} {Wf : MM → MM → MM → MM → va_W} (hLh : ∀ m c0 c1 : MM, Ln 8 adh (hsh cs adh ma) (fun z => Wf z m c0 c1)) (hL : ∀ h c0 c1 : MM, Ln 51 ad (msh cs ad) (fun z => Wf h z c0 c1)) (hL0 : ∀ h m c1 : MM, Ln 51 ad0 (msh cs ad0) (fun z => Wf h m z c1)) (hL1 : ∀ h m c0 : MM, Ln 51 ad1 (msh cs ad1) (fun z => Wf h m c0 z)) (hAd : ∀ a0_ b0_ a1_ b1_ a2_ b2_ a3_ b3_ : MM, (Wf a0_ a1_ a2_ a3_).map (fun q => q.1) = (Wf b0_ b1_ b2_ b3_).map (fun q => q.1)) (hm1 : ma 1 = ad 24) (hm3 : ma 3 = ad0 24) (hm4 : ma 4 = ad1 24) (h : MM) (m : MM) (c0 : MM) (c1 : MM) (x1 : Int32) {kx : Nat} (hD : D_X9_restoreSnapshot x1 h m c0 c1 = some (.inl kx)) : CtX l yX9_restoreSnapshot cX9_restoreSnapshot 2 (some .int) 7 107 D cs [.ref (adh 0), .int x1] (Wf h m c0 c1) kx := by
  refine CtX.ofW (by decide) (Nat.le_of_ble_eq_true rfl) ?_
  intro p e s m0 below meth c A ls args hx hb hml hlocks hown hex hts hK hP hD1 hSS hS hA1 hl
  have hT : ∀ w ∈ TBL, w.before args s = true := fun w h => hts w (List.mem_cons_of_mem _ h)
  have Fx0 : Fx p l m0 c cX9_restoreSnapshot 2 s args yX9_restoreSnapshot cX9_restoreSnapshot 2 (some .int) D cs A := ⟨hx, hb, hml, hown, hts, hK, hSS⟩
  have hown : s.vm.findClass RX9 = some m0.cls := hown
  have hl : lv_has ls 2 [(0, .ref (adh 0)), (1, .int x1)] := hl
  unfold D_X9_restoreSnapshot at hD
  refine lv_iload_n hx hb dX9_restoreSnapshot_0 rfl (lv_at hl 1 rfl) ?_
  refine lv_iconst (v := (0 : Int32)) hx hb dX9_restoreSnapshot_1 (by decide) ?_
  refine lv_iconst (v := (1 : Int32)) hx hb dX9_restoreSnapshot_2 (by decide) ?_
  rcases bX_ex hD with z1 | ⟨u_, z1, hD⟩
  · exact rcX (As := [.int x1, .int (0 : Int32), .int (1 : Int32)]) (rest := []) Fx0 (x_X9_requireRange l hst x1 (0 : Int32) (1 : Int32) z1) hP (hD1 _ (hAd _ _ _ _ _ _ _ _)) hS (hA1 _ _ (hAd _ _ _ _ _ _ _ _) hS.1) hlocks hex tw_5_211 tw_5_209 tw_5_210 tw_1_1 yd_X9_requireRange ⟨⟨(Nat.le_of_ble_eq_true rfl), (Nat.le_of_ble_eq_true rfl)⟩, by decide, by decide⟩ rfl hl.1 rfl (Nat.le_of_ble_eq_true rfl) dX9_restoreSnapshot_3
  refine rcS (As := [.int x1, .int (0 : Int32), .int (1 : Int32)]) (rest := []) Fx0 (c_X9_requireRange l x1 (0 : Int32) (1 : Int32) z1) hP (hD1 _ (hAd _ _ _ _ _ _ _ _)) hS (hA1 _ _ (hAd _ _ _ _ _ _ _ _) hS.1) tw_5_211 tw_5_209 tw_5_210 tw_1_1 yd_X9_requireRange ⟨(Nat.le_of_ble_eq_true rfl), (Nat.le_of_ble_eq_true rfl)⟩ rfl hl.1 rfl (Nat.le_of_ble_eq_true rfl) dX9_restoreSnapshot_3 (fun H locs hP hS => ?_)
  exact lif_no hD
