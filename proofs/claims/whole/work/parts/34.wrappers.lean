/-! the law's own methods -/
noncomputable def D_L_count (x1 : Int32) (h : MM) (m : MM) (u : MM) : Option (Int32 × MM) := wL (D_X9_count x1 h m) (none) (some ((1 : Int32), u)) (fun x => some ((0 : Int32), sl u 0 0 (x.toInt64)))
set_option maxHeartbeats 4000000 in
set_option maxRecDepth 100000 in
theorem c_L_count (l : Launch) (hst : l.stackTraces = false) {D : va_G} {cs : Nat → ClassId} {adh ad adu ma : Nat → Nat} {Wf : MM → MM → MM → va_W} (hLh : ∀ m u : MM, Ln 8 adh (hsh cs adh ma) (fun z => Wf z m u)) (hL : ∀ h u : MM, Ln 51 ad (msh cs ad) (fun z => Wf h z u)) (hLu : ∀ h m : MM, Ln 1 adu (ush cs) (fun z => Wf h m z)) (hAd : ∀ a0_ b0_ a1_ b1_ a2_ b2_ : MM, (Wf a0_ a1_ a2_).map (fun q => q.1) = (Wf b0_ b1_ b2_).map (fun q => q.1)) (hm1 : ma 1 = ad 24) (h : MM) (m : MM) (u : MM) (x1 : Int32) {rr : Int32} {u' : MM} (hD : D_L_count x1 h m u = some (rr, u')) : CtL l yL_count cL_count 4 [(0, 9, 12, 13)] 7 103 D cs [.ref (adh 0), .int x1, .ref (adu 0)] (Wf h m u) (Wf h m u') (some (.int rr)) := by
  refine CtL.ofW (by decide) (Nat.le_of_ble_eq_true rfl) (hAd _ _ _ _ _ _) ?_
  intro p e s m0 below meth c A Q ls args hx hb hr hml hlocks hown hex hT hK hP hD1 hSS hS hA1 hl hret
  have Fx0 : Fl p m0 c cL_count 4 s args RL D cs A := ⟨hx, hb, hml, hown, hT, hK, hSS⟩
  have hown : s.vm.findClass RL = some m0.cls := hown
  have hl : lv_has ls 4 [(0, .ref (adh 0)), (1, .int x1), (2, .ref (adu 0))] := hl
  unfold D_L_count at hD
  refine lv_aload_n hx hb dL_count_0 rfl (lv_at hl 2 rfl) ?_
  refine lv_iconst (v := (0 : Int32)) hx hb dL_count_1 (by decide) ?_
  refine lv_aload_n hx hb dL_count_2 rfl (lv_at hl 0 rfl) ?_
  refine lv_iload_n hx hb dL_count_3 rfl (lv_at hl 1 rfl) ?_
  rcases wL_el hD with ⟨hz, hD⟩ | ⟨kx, hz, hD⟩ | ⟨r1, hz, hD⟩
  · exact nn_el hD
  · obtain ⟨rfl, rfl⟩ := es2 hD
    refine lrX (Wf := fun z => Wf z m u) (mm := h) (As := [.int x1]) (rest := [.int (0 : Int32), .ref (adu 0)]) Fx0 (x_X9_count l hst (Wf := fun z0_ z1_ => Wf z0_ z1_ u) (fun z1_ => hLh z1_ u) (fun z0_ => hL z0_ u) (fun a0_ b0_ a1_ b1_ => hAd a0_ b0_ a1_ b1_ u u) hm1 h m x1 hz) hP (hD1 _ (hAd _ _ _ _ _ _)) hS (hA1 _ _ (hAd _ _ _ _ _ _) hS.1) (hLh m u) (Nat.le_of_ble_eq_true rfl) (hs0 _ _) rfl tw_5_49 tw_5_46 tw_5_47 tw_5_48 tw_1_1 yd_X9_count ⟨(Nat.le_of_ble_eq_true rfl), (Nat.le_of_ble_eq_true rfl)⟩ (by decide) rfl hl.1 rfl (Nat.le_of_ble_eq_true rfl) dL_count_4 [] (⟨0, 9, 12, 13⟩ : ExceptionTableEntry) [] hex (fun z hz => nomatch hz) rfl (by decide) tw_5_45 tw_5_52 (fun H locs q9 hP hS => ?_)
    refine lv_astore_n (lv' := [(3, .ref q9), (0, .ref (adh 0)), (1, .int x1), (2, .ref (adu 0))]) hx hb dL_count_12 rfl hl (by decide) rfl (fun ls hl => ?_)
    refine lv_iconst (v := (1 : Int32)) hx hb dL_count_13 (by decide) ?_
    exact hret _ _ _ hP hS (fun Qc hq => W.iret hx hb hr hq hS.2.2 dL_count_14 hlocks)
  · have hD : some ((0 : Int32), sl u 0 0 (r1.toInt64)) = some (rr, u') := hD
    obtain ⟨rfl, rfl⟩ := es2 hD
    refine lrV (Wf := fun z => Wf z m u) (mm := h) (As := [.int x1]) (rest := [.int (0 : Int32), .ref (adu 0)]) Fx0 (c_X9_count l (Wf := fun z0_ z1_ => Wf z0_ z1_ u) (fun z1_ => hLh z1_ u) (fun z0_ => hL z0_ u) (fun a0_ b0_ a1_ b1_ => hAd a0_ b0_ a1_ b1_ u u) hm1 h m x1 hz) hP (hD1 _ (hAd _ _ _ _ _ _)) hS (hA1 _ _ (hAd _ _ _ _ _ _) hS.1) (hLh m u) (Nat.le_of_ble_eq_true rfl) (hs0 _ _) rfl tw_5_49 tw_5_46 tw_5_47 tw_5_48 tw_1_1 yd_X9_count ⟨(Nat.le_of_ble_eq_true rfl), (Nat.le_of_ble_eq_true rfl)⟩ (by decide) rfl hl.1 rfl (Nat.le_of_ble_eq_true rfl) dL_count_4 (fun H locs hP hS => ?_)
    refine lv_i2l (v := r1.toInt64) hx hb dL_count_7 rfl ?_
    refine rlast (Wf := fun z => Wf h m z) (mm := u) hx hb hK hP (hD1 _ (hAd _ _ _ _ _ _)) hS (hLu h m) 0 (Nat.le_of_ble_eq_true rfl) (fun _ => us0 _ _) (by decide) (j := 0) (by decide) dL_count_8 (m2 := sl u 0 0 (r1.toInt64)) rfl (fun H locs hP hS => ?_)
    refine lv_goto (tgt := 15) hx hb dL_count_9 (by decide) ?_
    refine lv_iconst (v := (0 : Int32)) hx hb dL_count_15 (by decide) ?_
    refine W.widen (k := 1) (n := 6) (by decide) (by decide) ?_
    exact hret _ _ _ hP hS (fun Qc hq => W.iret hx hb hr hq hS.2.2 dL_count_16 hlocks)

noncomputable def D_L_setting (x1 : Int32) (h : MM) (m : MM) (u : MM) : Option (Int32 × MM) := wL (D_X9_setting x1 h m) (none) (some ((1 : Int32), u)) (fun x => some ((0 : Int32), sl u 0 0 (x.toInt64)))
set_option maxHeartbeats 4000000 in
set_option maxRecDepth 100000 in
theorem c_L_setting (l : Launch) (hst : l.stackTraces = false) {D : va_G} {cs : Nat → ClassId} {adh ad adu ma : Nat → Nat} {Wf : MM → MM → MM → va_W} (hLh : ∀ m u : MM, Ln 8 adh (hsh cs adh ma) (fun z => Wf z m u)) (hL : ∀ h u : MM, Ln 51 ad (msh cs ad) (fun z => Wf h z u)) (hLu : ∀ h m : MM, Ln 1 adu (ush cs) (fun z => Wf h m z)) (hAd : ∀ a0_ b0_ a1_ b1_ a2_ b2_ : MM, (Wf a0_ a1_ a2_).map (fun q => q.1) = (Wf b0_ b1_ b2_).map (fun q => q.1)) (hm1 : ma 1 = ad 24) (h : MM) (m : MM) (u : MM) (x1 : Int32) {rr : Int32} {u' : MM} (hD : D_L_setting x1 h m u = some (rr, u')) : CtL l yL_setting cL_setting 4 [(0, 9, 12, 13)] 8 125 D cs [.ref (adh 0), .int x1, .ref (adu 0)] (Wf h m u) (Wf h m u') (some (.int rr)) := by
  refine CtL.ofW (by decide) (Nat.le_of_ble_eq_true rfl) (hAd _ _ _ _ _ _) ?_
  intro p e s m0 below meth c A Q ls args hx hb hr hml hlocks hown hex hT hK hP hD1 hSS hS hA1 hl hret
  have Fx0 : Fl p m0 c cL_setting 4 s args RL D cs A := ⟨hx, hb, hml, hown, hT, hK, hSS⟩
  have hown : s.vm.findClass RL = some m0.cls := hown
  have hl : lv_has ls 4 [(0, .ref (adh 0)), (1, .int x1), (2, .ref (adu 0))] := hl
  unfold D_L_setting at hD
  refine lv_aload_n hx hb dL_setting_0 rfl (lv_at hl 2 rfl) ?_
  refine lv_iconst (v := (0 : Int32)) hx hb dL_setting_1 (by decide) ?_
  refine lv_aload_n hx hb dL_setting_2 rfl (lv_at hl 0 rfl) ?_
  refine lv_iload_n hx hb dL_setting_3 rfl (lv_at hl 1 rfl) ?_
  rcases wL_el hD with ⟨hz, hD⟩ | ⟨kx, hz, hD⟩ | ⟨r1, hz, hD⟩
  · exact nn_el hD
  · obtain ⟨rfl, rfl⟩ := es2 hD
    refine lrX (Wf := fun z => Wf z m u) (mm := h) (As := [.int x1]) (rest := [.int (0 : Int32), .ref (adu 0)]) Fx0 (x_X9_setting l hst (Wf := fun z0_ z1_ => Wf z0_ z1_ u) (fun z1_ => hLh z1_ u) (fun z0_ => hL z0_ u) (fun a0_ b0_ a1_ b1_ => hAd a0_ b0_ a1_ b1_ u u) hm1 h m x1 hz) hP (hD1 _ (hAd _ _ _ _ _ _)) hS (hA1 _ _ (hAd _ _ _ _ _ _) hS.1) (hLh m u) (Nat.le_of_ble_eq_true rfl) (hs0 _ _) rfl tw_5_122 tw_5_119 tw_5_120 tw_5_121 tw_1_1 yd_X9_setting ⟨(Nat.le_of_ble_eq_true rfl), (Nat.le_of_ble_eq_true rfl)⟩ (by decide) rfl hl.1 rfl (Nat.le_of_ble_eq_true rfl) dL_setting_4 [] (⟨0, 9, 12, 13⟩ : ExceptionTableEntry) [] hex (fun z hz => nomatch hz) rfl (by decide) tw_5_45 tw_5_52 (fun H locs q9 hP hS => ?_)
    refine lv_astore_n (lv' := [(3, .ref q9), (0, .ref (adh 0)), (1, .int x1), (2, .ref (adu 0))]) hx hb dL_setting_12 rfl hl (by decide) rfl (fun ls hl => ?_)
    refine lv_iconst (v := (1 : Int32)) hx hb dL_setting_13 (by decide) ?_
    exact hret _ _ _ hP hS (fun Qc hq => W.iret hx hb hr hq hS.2.2 dL_setting_14 hlocks)
  · have hD : some ((0 : Int32), sl u 0 0 (r1.toInt64)) = some (rr, u') := hD
    obtain ⟨rfl, rfl⟩ := es2 hD
    refine lrV (Wf := fun z => Wf z m u) (mm := h) (As := [.int x1]) (rest := [.int (0 : Int32), .ref (adu 0)]) Fx0 (c_X9_setting l (Wf := fun z0_ z1_ => Wf z0_ z1_ u) (fun z1_ => hLh z1_ u) (fun z0_ => hL z0_ u) (fun a0_ b0_ a1_ b1_ => hAd a0_ b0_ a1_ b1_ u u) hm1 h m x1 hz) hP (hD1 _ (hAd _ _ _ _ _ _)) hS (hA1 _ _ (hAd _ _ _ _ _ _) hS.1) (hLh m u) (Nat.le_of_ble_eq_true rfl) (hs0 _ _) rfl tw_5_122 tw_5_119 tw_5_120 tw_5_121 tw_1_1 yd_X9_setting ⟨(Nat.le_of_ble_eq_true rfl), (Nat.le_of_ble_eq_true rfl)⟩ (by decide) rfl hl.1 rfl (Nat.le_of_ble_eq_true rfl) dL_setting_4 (fun H locs hP hS => ?_)
    refine lv_i2l (v := r1.toInt64) hx hb dL_setting_7 rfl ?_
    refine rlast (Wf := fun z => Wf h m z) (mm := u) hx hb hK hP (hD1 _ (hAd _ _ _ _ _ _)) hS (hLu h m) 0 (Nat.le_of_ble_eq_true rfl) (fun _ => us0 _ _) (by decide) (j := 0) (by decide) dL_setting_8 (m2 := sl u 0 0 (r1.toInt64)) rfl (fun H locs hP hS => ?_)
    refine lv_goto (tgt := 15) hx hb dL_setting_9 (by decide) ?_
    refine lv_iconst (v := (0 : Int32)) hx hb dL_setting_15 (by decide) ?_
    refine W.widen (k := 1) (n := 6) (by decide) (by decide) ?_
    exact hret _ _ _ hP hS (fun Qc hq => W.iret hx hb hr hq hS.2.2 dL_setting_16 hlocks)

noncomputable def D_L_set (x1 : Int32) (x2 : Int32) (h : MM) (m : MM) (u : MM) : Option (Int32 × MM × MM) := wL (D_X9_set x1 x2 h m) (none) (some ((1 : Int32), m, u)) (fun x => some ((0 : Int32), x.2, sl u 0 0 (x.1.toInt64)))
set_option maxHeartbeats 4000000 in
set_option maxRecDepth 100000 in
theorem c_L_set (l : Launch) (hst : l.stackTraces = false) {D : va_G} {cs : Nat → ClassId} {adh ad adu ma : Nat → Nat} {Wf : MM → MM → MM → va_W} (hLh : ∀ m u : MM, Ln 8 adh (hsh cs adh ma) (fun z => Wf z m u)) (hL : ∀ h u : MM, Ln 51 ad (msh cs ad) (fun z => Wf h z u)) (hLu : ∀ h m : MM, Ln 1 adu (ush cs) (fun z => Wf h m z)) (hAd : ∀ a0_ b0_ a1_ b1_ a2_ b2_ : MM, (Wf a0_ a1_ a2_).map (fun q => q.1) = (Wf b0_ b1_ b2_).map (fun q => q.1)) (hm1 : ma 1 = ad 24) (h : MM) (m : MM) (u : MM) (x1 : Int32) (x2 : Int32) {rr : Int32} {m' : MM} {u' : MM} (hD : D_L_set x1 x2 h m u = some (rr, m', u')) : CtL l yL_set cL_set 5 [(0, 10, 13, 13)] 8 128 D cs [.ref (adh 0), .int x1, .int x2, .ref (adu 0)] (Wf h m u) (Wf h m' u') (some (.int rr)) := by
  refine CtL.ofW (by decide) (Nat.le_of_ble_eq_true rfl) (hAd _ _ _ _ _ _) ?_
  intro p e s m0 below meth c A Q ls args hx hb hr hml hlocks hown hex hT hK hP hD1 hSS hS hA1 hl hret
  have Fx0 : Fl p m0 c cL_set 5 s args RL D cs A := ⟨hx, hb, hml, hown, hT, hK, hSS⟩
  have hown : s.vm.findClass RL = some m0.cls := hown
  have hl : lv_has ls 5 [(0, .ref (adh 0)), (1, .int x1), (2, .int x2), (3, .ref (adu 0))] := hl
  unfold D_L_set at hD
  refine lv_aload_n hx hb dL_set_0 rfl (lv_at hl 3 rfl) ?_
  refine lv_iconst (v := (0 : Int32)) hx hb dL_set_1 (by decide) ?_
  refine lv_aload_n hx hb dL_set_2 rfl (lv_at hl 0 rfl) ?_
  refine lv_iload_n hx hb dL_set_3 rfl (lv_at hl 1 rfl) ?_
  refine lv_iload_n hx hb dL_set_4 rfl (lv_at hl 2 rfl) ?_
  rcases wL_el hD with ⟨hz, hD⟩ | ⟨kx, hz, hD⟩ | ⟨⟨r1, m1⟩, hz, hD⟩
  · exact nn_el hD
  · obtain ⟨rfl, rfl, rfl⟩ := es3 hD
    refine lrX (Wf := fun z => Wf z m u) (mm := h) (As := [.int x1, .int x2]) (rest := [.int (0 : Int32), .ref (adu 0)]) Fx0 (x_X9_set l hst (Wf := fun z0_ z1_ => Wf z0_ z1_ u) (fun z1_ => hLh z1_ u) (fun z0_ => hL z0_ u) (fun a0_ b0_ a1_ b1_ => hAd a0_ b0_ a1_ b1_ u u) hm1 h m x1 x2 hz) hP (hD1 _ (hAd _ _ _ _ _ _)) hS (hA1 _ _ (hAd _ _ _ _ _ _) hS.1) (hLh m u) (Nat.le_of_ble_eq_true rfl) (hs0 _ _) rfl tw_5_133 tw_5_130 tw_5_131 tw_5_132 tw_1_1 yd_X9_set ⟨(Nat.le_of_ble_eq_true rfl), (Nat.le_of_ble_eq_true rfl)⟩ (by decide) rfl hl.1 rfl (Nat.le_of_ble_eq_true rfl) dL_set_5 [] (⟨0, 10, 13, 13⟩ : ExceptionTableEntry) [] hex (fun z hz => nomatch hz) rfl (by decide) tw_5_45 tw_5_52 (fun H locs q9 hP hS => ?_)
    refine lv_astore (lv' := [(4, .ref q9), (0, .ref (adh 0)), (1, .int x1), (2, .int x2), (3, .ref (adu 0))]) hx hb dL_set_13 hl (by decide) rfl (fun ls hl => ?_)
    refine lv_iconst (v := (1 : Int32)) hx hb dL_set_15 (by decide) ?_
    exact hret _ _ _ hP hS (fun Qc hq => W.iret hx hb hr hq hS.2.2 dL_set_16 hlocks)
  · have hD : some ((0 : Int32), m1, sl u 0 0 (r1.toInt64)) = some (rr, m', u') := hD
    obtain ⟨rfl, rfl, rfl⟩ := es3 hD
    refine lrV (Wf := fun z => Wf z m u) (mm := h) (As := [.int x1, .int x2]) (rest := [.int (0 : Int32), .ref (adu 0)]) Fx0 (c_X9_set l (Wf := fun z0_ z1_ => Wf z0_ z1_ u) (fun z1_ => hLh z1_ u) (fun z0_ => hL z0_ u) (fun a0_ b0_ a1_ b1_ => hAd a0_ b0_ a1_ b1_ u u) hm1 h m x1 x2 hz) hP (hD1 _ (hAd _ _ _ _ _ _)) hS (hA1 _ _ (hAd _ _ _ _ _ _) hS.1) (hLh m u) (Nat.le_of_ble_eq_true rfl) (hs0 _ _) rfl tw_5_133 tw_5_130 tw_5_131 tw_5_132 tw_1_1 yd_X9_set ⟨(Nat.le_of_ble_eq_true rfl), (Nat.le_of_ble_eq_true rfl)⟩ (by decide) rfl hl.1 rfl (Nat.le_of_ble_eq_true rfl) dL_set_5 (fun H locs hP hS => ?_)
    refine lv_i2l (v := r1.toInt64) hx hb dL_set_8 rfl ?_
    refine rlast (Wf := fun z => Wf h m1 z) (mm := u) hx hb hK hP (hD1 _ (hAd _ _ _ _ _ _)) hS (hLu h m1) 0 (Nat.le_of_ble_eq_true rfl) (fun _ => us0 _ _) (by decide) (j := 0) (by decide) dL_set_9 (m2 := sl u 0 0 (r1.toInt64)) rfl (fun H locs hP hS => ?_)
    refine lv_goto (tgt := 17) hx hb dL_set_10 (by decide) ?_
    refine lv_iconst (v := (0 : Int32)) hx hb dL_set_17 (by decide) ?_
    refine W.widen (k := 1) (n := 6) (by decide) (by decide) ?_
    exact hret _ _ _ hP hS (fun Qc hq => W.iret hx hb hr hq hS.2.2 dL_set_18 hlocks)

noncomputable def D_L_spindleValue (x1 : Int32) (x2 : Int32) (h : MM) (m : MM) (u : MM) : Option (Int32 × MM) := wL (D_X9_spindleValue x1 x2 h m) (some ((1 : Int32), u)) (some ((2 : Int32), u)) (fun x => some ((0 : Int32), sl u 0 0 (x.toInt64)))
set_option maxHeartbeats 4000000 in
set_option maxRecDepth 100000 in
theorem c_L_spindleValue (l : Launch) (hst : l.stackTraces = false) {D : va_G} {cs : Nat → ClassId} {adh ad adu ma : Nat → Nat} {Wf : MM → MM → MM → va_W} (hLh : ∀ m u : MM, Ln 8 adh (hsh cs adh ma) (fun z => Wf z m u)) (hL : ∀ h u : MM, Ln 51 ad (msh cs ad) (fun z => Wf h z u)) (hLu : ∀ h m : MM, Ln 1 adu (ush cs) (fun z => Wf h m z)) (hAd : ∀ a0_ b0_ a1_ b1_ a2_ b2_ : MM, (Wf a0_ a1_ a2_).map (fun q => q.1) = (Wf b0_ b1_ b2_).map (fun q => q.1)) (hm1 : ma 1 = ad 24) (h : MM) (m : MM) (u : MM) (x1 : Int32) (x2 : Int32) {rr : Int32} {u' : MM} (hD : D_L_spindleValue x1 x2 h m u = some (rr, u')) : CtL l yL_spindleValue cL_spindleValue 5 [(0, 10, 13, 25), (0, 10, 17, 13)] 8 126 D cs [.ref (adh 0), .int x1, .int x2, .ref (adu 0)] (Wf h m u) (Wf h m u') (some (.int rr)) := by
  refine CtL.ofW (by decide) (Nat.le_of_ble_eq_true rfl) (hAd _ _ _ _ _ _) ?_
  intro p e s m0 below meth c A Q ls args hx hb hr hml hlocks hown hex hT hK hP hD1 hSS hS hA1 hl hret
  have Fx0 : Fl p m0 c cL_spindleValue 5 s args RL D cs A := ⟨hx, hb, hml, hown, hT, hK, hSS⟩
  have hown : s.vm.findClass RL = some m0.cls := hown
  have hl : lv_has ls 5 [(0, .ref (adh 0)), (1, .int x1), (2, .int x2), (3, .ref (adu 0))] := hl
  unfold D_L_spindleValue at hD
  refine lv_aload_n hx hb dL_spindleValue_0 rfl (lv_at hl 3 rfl) ?_
  refine lv_iconst (v := (0 : Int32)) hx hb dL_spindleValue_1 (by decide) ?_
  refine lv_aload_n hx hb dL_spindleValue_2 rfl (lv_at hl 0 rfl) ?_
  refine lv_iload_n hx hb dL_spindleValue_3 rfl (lv_at hl 1 rfl) ?_
  refine lv_iload_n hx hb dL_spindleValue_4 rfl (lv_at hl 2 rfl) ?_
  rcases wL_el hD with ⟨hz, hD⟩ | ⟨kx, hz, hD⟩ | ⟨r1, hz, hD⟩
  · obtain ⟨rfl, rfl⟩ := es2 hD
    refine lrX (Wf := fun z => Wf z m u) (mm := h) (As := [.int x1, .int x2]) (rest := [.int (0 : Int32), .ref (adu 0)]) Fx0 (x_X9_spindleValue l hst (Wf := fun z0_ z1_ => Wf z0_ z1_ u) (fun z1_ => hLh z1_ u) (fun z0_ => hL z0_ u) (fun a0_ b0_ a1_ b1_ => hAd a0_ b0_ a1_ b1_ u u) hm1 h m x1 x2 hz) hP (hD1 _ (hAd _ _ _ _ _ _)) hS (hA1 _ _ (hAd _ _ _ _ _ _) hS.1) (hLh m u) (Nat.le_of_ble_eq_true rfl) (hs0 _ _) rfl tw_5_142 tw_5_139 tw_5_140 tw_5_141 tw_1_1 yd_X9_spindleValue ⟨(Nat.le_of_ble_eq_true rfl), (Nat.le_of_ble_eq_true rfl)⟩ (by decide) rfl hl.1 rfl (Nat.le_of_ble_eq_true rfl) dL_spindleValue_5 [] (⟨0, 10, 13, 25⟩ : ExceptionTableEntry) [(⟨0, 10, 17, 13⟩ : ExceptionTableEntry)] hex (fun z hz => nomatch hz) rfl (by decide) tw_5_138 tw_5_148 (fun H locs q9 hP hS => ?_)
    refine lv_astore (lv' := [(4, .ref q9), (0, .ref (adh 0)), (1, .int x1), (2, .int x2), (3, .ref (adu 0))]) hx hb dL_spindleValue_13 hl (by decide) rfl (fun ls hl => ?_)
    refine lv_iconst (v := (1 : Int32)) hx hb dL_spindleValue_15 (by decide) ?_
    exact hret _ _ _ hP hS (fun Qc hq => W.iret hx hb hr hq hS.2.2 dL_spindleValue_16 hlocks)
  · obtain ⟨rfl, rfl⟩ := es2 hD
    refine lrX (Wf := fun z => Wf z m u) (mm := h) (As := [.int x1, .int x2]) (rest := [.int (0 : Int32), .ref (adu 0)]) Fx0 (x_X9_spindleValue l hst (Wf := fun z0_ z1_ => Wf z0_ z1_ u) (fun z1_ => hLh z1_ u) (fun z0_ => hL z0_ u) (fun a0_ b0_ a1_ b1_ => hAd a0_ b0_ a1_ b1_ u u) hm1 h m x1 x2 hz) hP (hD1 _ (hAd _ _ _ _ _ _)) hS (hA1 _ _ (hAd _ _ _ _ _ _) hS.1) (hLh m u) (Nat.le_of_ble_eq_true rfl) (hs0 _ _) rfl tw_5_142 tw_5_139 tw_5_140 tw_5_141 tw_1_1 yd_X9_spindleValue ⟨(Nat.le_of_ble_eq_true rfl), (Nat.le_of_ble_eq_true rfl)⟩ (by decide) rfl hl.1 rfl (Nat.le_of_ble_eq_true rfl) dL_spindleValue_5 [(⟨0, 10, 13, 25⟩ : ExceptionTableEntry)] (⟨0, 10, 17, 13⟩ : ExceptionTableEntry) [] hex (fun z hz => by rcases List.mem_singleton.mp hz with rfl; exact Or.inr ⟨by decide, "java/lang/IndexOutOfBoundsException", Fx0.T tw_5_138, hK.2.2.2⟩) rfl (by decide) tw_5_45 tw_5_52 (fun H locs q9 hP hS => ?_)
    refine lv_astore (lv' := [(4, .ref q9), (0, .ref (adh 0)), (1, .int x1), (2, .int x2), (3, .ref (adu 0))]) hx hb dL_spindleValue_17 hl (by decide) rfl (fun ls hl => ?_)
    refine lv_iconst (v := (2 : Int32)) hx hb dL_spindleValue_19 (by decide) ?_
    exact hret _ _ _ hP hS (fun Qc hq => W.iret hx hb hr hq hS.2.2 dL_spindleValue_20 hlocks)
  · have hD : some ((0 : Int32), sl u 0 0 (r1.toInt64)) = some (rr, u') := hD
    obtain ⟨rfl, rfl⟩ := es2 hD
    refine lrV (Wf := fun z => Wf z m u) (mm := h) (As := [.int x1, .int x2]) (rest := [.int (0 : Int32), .ref (adu 0)]) Fx0 (c_X9_spindleValue l (Wf := fun z0_ z1_ => Wf z0_ z1_ u) (fun z1_ => hLh z1_ u) (fun z0_ => hL z0_ u) (fun a0_ b0_ a1_ b1_ => hAd a0_ b0_ a1_ b1_ u u) hm1 h m x1 x2 hz) hP (hD1 _ (hAd _ _ _ _ _ _)) hS (hA1 _ _ (hAd _ _ _ _ _ _) hS.1) (hLh m u) (Nat.le_of_ble_eq_true rfl) (hs0 _ _) rfl tw_5_142 tw_5_139 tw_5_140 tw_5_141 tw_1_1 yd_X9_spindleValue ⟨(Nat.le_of_ble_eq_true rfl), (Nat.le_of_ble_eq_true rfl)⟩ (by decide) rfl hl.1 rfl (Nat.le_of_ble_eq_true rfl) dL_spindleValue_5 (fun H locs hP hS => ?_)
    refine lv_i2l (v := r1.toInt64) hx hb dL_spindleValue_8 rfl ?_
    refine rlast (Wf := fun z => Wf h m z) (mm := u) hx hb hK hP (hD1 _ (hAd _ _ _ _ _ _)) hS (hLu h m) 0 (Nat.le_of_ble_eq_true rfl) (fun _ => us0 _ _) (by decide) (j := 0) (by decide) dL_spindleValue_9 (m2 := sl u 0 0 (r1.toInt64)) rfl (fun H locs hP hS => ?_)
    refine lv_goto (tgt := 21) hx hb dL_spindleValue_10 (by decide) ?_
    refine lv_iconst (v := (0 : Int32)) hx hb dL_spindleValue_21 (by decide) ?_
    refine W.widen (k := 1) (n := 6) (by decide) (by decide) ?_
    exact hret _ _ _ hP hS (fun Qc hq => W.iret hx hb hr hq hS.2.2 dL_spindleValue_22 hlocks)

noncomputable def D_L_freeNozzles (x1 : Int32) (h : MM) (m : MM) (u : MM) : Option (Int32 × MM) := wL (D_X9_freeNozzles x1 h m) (some ((1 : Int32), u)) (none) (fun x => some ((0 : Int32), sl u 0 0 (x.toInt64)))
set_option maxHeartbeats 4000000 in
set_option maxRecDepth 100000 in
theorem c_L_freeNozzles (l : Launch) (hst : l.stackTraces = false) {D : va_G} {cs : Nat → ClassId} {adh ad adu ma : Nat → Nat} {Wf : MM → MM → MM → va_W} (hLh : ∀ m u : MM, Ln 8 adh (hsh cs adh ma) (fun z => Wf z m u)) (hL : ∀ h u : MM, Ln 51 ad (msh cs ad) (fun z => Wf h z u)) (hLu : ∀ h m : MM, Ln 1 adu (ush cs) (fun z => Wf h m z)) (hAd : ∀ a0_ b0_ a1_ b1_ a2_ b2_ : MM, (Wf a0_ a1_ a2_).map (fun q => q.1) = (Wf b0_ b1_ b2_).map (fun q => q.1)) (hm1 : ma 1 = ad 24) (h : MM) (m : MM) (u : MM) (x1 : Int32) {rr : Int32} {u' : MM} (hD : D_L_freeNozzles x1 h m u = some (rr, u')) : CtL l yL_freeNozzles cL_freeNozzles 4 [(0, 9, 12, 25)] 8 124 D cs [.ref (adh 0), .int x1, .ref (adu 0)] (Wf h m u) (Wf h m u') (some (.int rr)) := by
  refine CtL.ofW (by decide) (Nat.le_of_ble_eq_true rfl) (hAd _ _ _ _ _ _) ?_
  intro p e s m0 below meth c A Q ls args hx hb hr hml hlocks hown hex hT hK hP hD1 hSS hS hA1 hl hret
  have Fx0 : Fl p m0 c cL_freeNozzles 4 s args RL D cs A := ⟨hx, hb, hml, hown, hT, hK, hSS⟩
  have hown : s.vm.findClass RL = some m0.cls := hown
  have hl : lv_has ls 4 [(0, .ref (adh 0)), (1, .int x1), (2, .ref (adu 0))] := hl
  unfold D_L_freeNozzles at hD
  refine lv_aload_n hx hb dL_freeNozzles_0 rfl (lv_at hl 2 rfl) ?_
  refine lv_iconst (v := (0 : Int32)) hx hb dL_freeNozzles_1 (by decide) ?_
  refine lv_aload_n hx hb dL_freeNozzles_2 rfl (lv_at hl 0 rfl) ?_
  refine lv_iload_n hx hb dL_freeNozzles_3 rfl (lv_at hl 1 rfl) ?_
  rcases wL_el hD with ⟨hz, hD⟩ | ⟨kx, hz, hD⟩ | ⟨r1, hz, hD⟩
  · obtain ⟨rfl, rfl⟩ := es2 hD
    refine lrX (Wf := fun z => Wf z m u) (mm := h) (As := [.int x1]) (rest := [.int (0 : Int32), .ref (adu 0)]) Fx0 (x_X9_freeNozzles l hst (Wf := fun z0_ z1_ => Wf z0_ z1_ u) (fun z1_ => hLh z1_ u) (fun z0_ => hL z0_ u) (fun a0_ b0_ a1_ b1_ => hAd a0_ b0_ a1_ b1_ u u) hm1 h m x1 hz) hP (hD1 _ (hAd _ _ _ _ _ _)) hS (hA1 _ _ (hAd _ _ _ _ _ _) hS.1) (hLh m u) (Nat.le_of_ble_eq_true rfl) (hs0 _ _) rfl tw_5_172 tw_5_169 tw_5_170 tw_5_171 tw_1_1 yd_X9_freeNozzles ⟨(Nat.le_of_ble_eq_true rfl), (Nat.le_of_ble_eq_true rfl)⟩ (by decide) rfl hl.1 rfl (Nat.le_of_ble_eq_true rfl) dL_freeNozzles_4 [] (⟨0, 9, 12, 25⟩ : ExceptionTableEntry) [] hex (fun z hz => nomatch hz) rfl (by decide) tw_5_138 tw_5_148 (fun H locs q9 hP hS => ?_)
    refine lv_astore_n (lv' := [(3, .ref q9), (0, .ref (adh 0)), (1, .int x1), (2, .ref (adu 0))]) hx hb dL_freeNozzles_12 rfl hl (by decide) rfl (fun ls hl => ?_)
    refine lv_iconst (v := (1 : Int32)) hx hb dL_freeNozzles_13 (by decide) ?_
    exact hret _ _ _ hP hS (fun Qc hq => W.iret hx hb hr hq hS.2.2 dL_freeNozzles_14 hlocks)
  · exact nn_el hD
  · have hD : some ((0 : Int32), sl u 0 0 (r1.toInt64)) = some (rr, u') := hD
    obtain ⟨rfl, rfl⟩ := es2 hD
    refine lrV (Wf := fun z => Wf z m u) (mm := h) (As := [.int x1]) (rest := [.int (0 : Int32), .ref (adu 0)]) Fx0 (c_X9_freeNozzles l (Wf := fun z0_ z1_ => Wf z0_ z1_ u) (fun z1_ => hLh z1_ u) (fun z0_ => hL z0_ u) (fun a0_ b0_ a1_ b1_ => hAd a0_ b0_ a1_ b1_ u u) hm1 h m x1 hz) hP (hD1 _ (hAd _ _ _ _ _ _)) hS (hA1 _ _ (hAd _ _ _ _ _ _) hS.1) (hLh m u) (Nat.le_of_ble_eq_true rfl) (hs0 _ _) rfl tw_5_172 tw_5_169 tw_5_170 tw_5_171 tw_1_1 yd_X9_freeNozzles ⟨(Nat.le_of_ble_eq_true rfl), (Nat.le_of_ble_eq_true rfl)⟩ (by decide) rfl hl.1 rfl (Nat.le_of_ble_eq_true rfl) dL_freeNozzles_4 (fun H locs hP hS => ?_)
    refine lv_i2l (v := r1.toInt64) hx hb dL_freeNozzles_7 rfl ?_
    refine rlast (Wf := fun z => Wf h m z) (mm := u) hx hb hK hP (hD1 _ (hAd _ _ _ _ _ _)) hS (hLu h m) 0 (Nat.le_of_ble_eq_true rfl) (fun _ => us0 _ _) (by decide) (j := 0) (by decide) dL_freeNozzles_8 (m2 := sl u 0 0 (r1.toInt64)) rfl (fun H locs hP hS => ?_)
    refine lv_goto (tgt := 15) hx hb dL_freeNozzles_9 (by decide) ?_
    refine lv_iconst (v := (0 : Int32)) hx hb dL_freeNozzles_15 (by decide) ?_
    refine W.widen (k := 1) (n := 6) (by decide) (by decide) ?_
    exact hret _ _ _ hP hS (fun Qc hq => W.iret hx hb hr hq hS.2.2 dL_freeNozzles_16 hlocks)

noncomputable def D_L_nozzleFor (x1 : Int32) (h : MM) (m : MM) (u : MM) : Option (Int32 × MM) := wL (D_X9_nozzleFor x1 h m) (some ((1 : Int32), u)) (none) (fun x => some ((0 : Int32), sl u 0 0 (x.toInt64)))
set_option maxHeartbeats 4000000 in
set_option maxRecDepth 100000 in
theorem c_L_nozzleFor (l : Launch) (hst : l.stackTraces = false) {D : va_G} {cs : Nat → ClassId} {adh ad adu ma : Nat → Nat} {Wf : MM → MM → MM → va_W} (hLh : ∀ m u : MM, Ln 8 adh (hsh cs adh ma) (fun z => Wf z m u)) (hL : ∀ h u : MM, Ln 51 ad (msh cs ad) (fun z => Wf h z u)) (hLu : ∀ h m : MM, Ln 1 adu (ush cs) (fun z => Wf h m z)) (hAd : ∀ a0_ b0_ a1_ b1_ a2_ b2_ : MM, (Wf a0_ a1_ a2_).map (fun q => q.1) = (Wf b0_ b1_ b2_).map (fun q => q.1)) (hm1 : ma 1 = ad 24) (h : MM) (m : MM) (u : MM) (x1 : Int32) {rr : Int32} {u' : MM} (hD : D_L_nozzleFor x1 h m u = some (rr, u')) : CtL l yL_nozzleFor cL_nozzleFor 4 [(0, 9, 12, 25)] 8 124 D cs [.ref (adh 0), .int x1, .ref (adu 0)] (Wf h m u) (Wf h m u') (some (.int rr)) := by
  refine CtL.ofW (by decide) (Nat.le_of_ble_eq_true rfl) (hAd _ _ _ _ _ _) ?_
  intro p e s m0 below meth c A Q ls args hx hb hr hml hlocks hown hex hT hK hP hD1 hSS hS hA1 hl hret
  have Fx0 : Fl p m0 c cL_nozzleFor 4 s args RL D cs A := ⟨hx, hb, hml, hown, hT, hK, hSS⟩
  have hown : s.vm.findClass RL = some m0.cls := hown
  have hl : lv_has ls 4 [(0, .ref (adh 0)), (1, .int x1), (2, .ref (adu 0))] := hl
  unfold D_L_nozzleFor at hD
  refine lv_aload_n hx hb dL_nozzleFor_0 rfl (lv_at hl 2 rfl) ?_
  refine lv_iconst (v := (0 : Int32)) hx hb dL_nozzleFor_1 (by decide) ?_
  refine lv_aload_n hx hb dL_nozzleFor_2 rfl (lv_at hl 0 rfl) ?_
  refine lv_iload_n hx hb dL_nozzleFor_3 rfl (lv_at hl 1 rfl) ?_
  rcases wL_el hD with ⟨hz, hD⟩ | ⟨kx, hz, hD⟩ | ⟨r1, hz, hD⟩
  · obtain ⟨rfl, rfl⟩ := es2 hD
    refine lrX (Wf := fun z => Wf z m u) (mm := h) (As := [.int x1]) (rest := [.int (0 : Int32), .ref (adu 0)]) Fx0 (x_X9_nozzleFor l hst (Wf := fun z0_ z1_ => Wf z0_ z1_ u) (fun z1_ => hLh z1_ u) (fun z0_ => hL z0_ u) (fun a0_ b0_ a1_ b1_ => hAd a0_ b0_ a1_ b1_ u u) hm1 h m x1 hz) hP (hD1 _ (hAd _ _ _ _ _ _)) hS (hA1 _ _ (hAd _ _ _ _ _ _) hS.1) (hLh m u) (Nat.le_of_ble_eq_true rfl) (hs0 _ _) rfl tw_5_179 tw_5_176 tw_5_177 tw_5_178 tw_1_1 yd_X9_nozzleFor ⟨(Nat.le_of_ble_eq_true rfl), (Nat.le_of_ble_eq_true rfl)⟩ (by decide) rfl hl.1 rfl (Nat.le_of_ble_eq_true rfl) dL_nozzleFor_4 [] (⟨0, 9, 12, 25⟩ : ExceptionTableEntry) [] hex (fun z hz => nomatch hz) rfl (by decide) tw_5_138 tw_5_148 (fun H locs q9 hP hS => ?_)
    refine lv_astore_n (lv' := [(3, .ref q9), (0, .ref (adh 0)), (1, .int x1), (2, .ref (adu 0))]) hx hb dL_nozzleFor_12 rfl hl (by decide) rfl (fun ls hl => ?_)
    refine lv_iconst (v := (1 : Int32)) hx hb dL_nozzleFor_13 (by decide) ?_
    exact hret _ _ _ hP hS (fun Qc hq => W.iret hx hb hr hq hS.2.2 dL_nozzleFor_14 hlocks)
  · exact nn_el hD
  · have hD : some ((0 : Int32), sl u 0 0 (r1.toInt64)) = some (rr, u') := hD
    obtain ⟨rfl, rfl⟩ := es2 hD
    refine lrV (Wf := fun z => Wf z m u) (mm := h) (As := [.int x1]) (rest := [.int (0 : Int32), .ref (adu 0)]) Fx0 (c_X9_nozzleFor l (Wf := fun z0_ z1_ => Wf z0_ z1_ u) (fun z1_ => hLh z1_ u) (fun z0_ => hL z0_ u) (fun a0_ b0_ a1_ b1_ => hAd a0_ b0_ a1_ b1_ u u) hm1 h m x1 hz) hP (hD1 _ (hAd _ _ _ _ _ _)) hS (hA1 _ _ (hAd _ _ _ _ _ _) hS.1) (hLh m u) (Nat.le_of_ble_eq_true rfl) (hs0 _ _) rfl tw_5_179 tw_5_176 tw_5_177 tw_5_178 tw_1_1 yd_X9_nozzleFor ⟨(Nat.le_of_ble_eq_true rfl), (Nat.le_of_ble_eq_true rfl)⟩ (by decide) rfl hl.1 rfl (Nat.le_of_ble_eq_true rfl) dL_nozzleFor_4 (fun H locs hP hS => ?_)
    refine lv_i2l (v := r1.toInt64) hx hb dL_nozzleFor_7 rfl ?_
    refine rlast (Wf := fun z => Wf h m z) (mm := u) hx hb hK hP (hD1 _ (hAd _ _ _ _ _ _)) hS (hLu h m) 0 (Nat.le_of_ble_eq_true rfl) (fun _ => us0 _ _) (by decide) (j := 0) (by decide) dL_nozzleFor_8 (m2 := sl u 0 0 (r1.toInt64)) rfl (fun H locs hP hS => ?_)
    refine lv_goto (tgt := 15) hx hb dL_nozzleFor_9 (by decide) ?_
    refine lv_iconst (v := (0 : Int32)) hx hb dL_nozzleFor_15 (by decide) ?_
    refine W.widen (k := 1) (n := 6) (by decide) (by decide) ?_
    exact hret _ _ _ hP hS (fun Qc hq => W.iret hx hb hr hq hS.2.2 dL_nozzleFor_16 hlocks)

noncomputable def D_L_feederValue (x1 : Int32) (x2 : Int32) (h : MM) (m : MM) (u : MM) : Option (Int32 × MM) := wL (D_X9_feederValue x1 x2 h m) (some ((1 : Int32), u)) (some ((2 : Int32), u)) (fun x => some ((0 : Int32), sl u 0 0 (x.toInt64)))
set_option maxHeartbeats 4000000 in
set_option maxRecDepth 100000 in
theorem c_L_feederValue (l : Launch) (hst : l.stackTraces = false) {D : va_G} {cs : Nat → ClassId} {adh ad adu ma : Nat → Nat} {Wf : MM → MM → MM → va_W} (hLh : ∀ m u : MM, Ln 8 adh (hsh cs adh ma) (fun z => Wf z m u)) (hL : ∀ h u : MM, Ln 51 ad (msh cs ad) (fun z => Wf h z u)) (hLu : ∀ h m : MM, Ln 1 adu (ush cs) (fun z => Wf h m z)) (hAd : ∀ a0_ b0_ a1_ b1_ a2_ b2_ : MM, (Wf a0_ a1_ a2_).map (fun q => q.1) = (Wf b0_ b1_ b2_).map (fun q => q.1)) (hm1 : ma 1 = ad 24) (h : MM) (m : MM) (u : MM) (x1 : Int32) (x2 : Int32) {rr : Int32} {u' : MM} (hD : D_L_feederValue x1 x2 h m u = some (rr, u')) : CtL l yL_feederValue cL_feederValue 5 [(0, 10, 13, 25), (0, 10, 17, 13)] 8 126 D cs [.ref (adh 0), .int x1, .int x2, .ref (adu 0)] (Wf h m u) (Wf h m u') (some (.int rr)) := by
  refine CtL.ofW (by decide) (Nat.le_of_ble_eq_true rfl) (hAd _ _ _ _ _ _) ?_
  intro p e s m0 below meth c A Q ls args hx hb hr hml hlocks hown hex hT hK hP hD1 hSS hS hA1 hl hret
  have Fx0 : Fl p m0 c cL_feederValue 5 s args RL D cs A := ⟨hx, hb, hml, hown, hT, hK, hSS⟩
  have hown : s.vm.findClass RL = some m0.cls := hown
  have hl : lv_has ls 5 [(0, .ref (adh 0)), (1, .int x1), (2, .int x2), (3, .ref (adu 0))] := hl
  unfold D_L_feederValue at hD
  refine lv_aload_n hx hb dL_feederValue_0 rfl (lv_at hl 3 rfl) ?_
  refine lv_iconst (v := (0 : Int32)) hx hb dL_feederValue_1 (by decide) ?_
  refine lv_aload_n hx hb dL_feederValue_2 rfl (lv_at hl 0 rfl) ?_
  refine lv_iload_n hx hb dL_feederValue_3 rfl (lv_at hl 1 rfl) ?_
  refine lv_iload_n hx hb dL_feederValue_4 rfl (lv_at hl 2 rfl) ?_
  rcases wL_el hD with ⟨hz, hD⟩ | ⟨kx, hz, hD⟩ | ⟨r1, hz, hD⟩
  · obtain ⟨rfl, rfl⟩ := es2 hD
    refine lrX (Wf := fun z => Wf z m u) (mm := h) (As := [.int x1, .int x2]) (rest := [.int (0 : Int32), .ref (adu 0)]) Fx0 (x_X9_feederValue l hst (Wf := fun z0_ z1_ => Wf z0_ z1_ u) (fun z1_ => hLh z1_ u) (fun z0_ => hL z0_ u) (fun a0_ b0_ a1_ b1_ => hAd a0_ b0_ a1_ b1_ u u) hm1 h m x1 x2 hz) hP (hD1 _ (hAd _ _ _ _ _ _)) hS (hA1 _ _ (hAd _ _ _ _ _ _) hS.1) (hLh m u) (Nat.le_of_ble_eq_true rfl) (hs0 _ _) rfl tw_5_186 tw_5_183 tw_5_184 tw_5_185 tw_1_1 yd_X9_feederValue ⟨(Nat.le_of_ble_eq_true rfl), (Nat.le_of_ble_eq_true rfl)⟩ (by decide) rfl hl.1 rfl (Nat.le_of_ble_eq_true rfl) dL_feederValue_5 [] (⟨0, 10, 13, 25⟩ : ExceptionTableEntry) [(⟨0, 10, 17, 13⟩ : ExceptionTableEntry)] hex (fun z hz => nomatch hz) rfl (by decide) tw_5_138 tw_5_148 (fun H locs q9 hP hS => ?_)
    refine lv_astore (lv' := [(4, .ref q9), (0, .ref (adh 0)), (1, .int x1), (2, .int x2), (3, .ref (adu 0))]) hx hb dL_feederValue_13 hl (by decide) rfl (fun ls hl => ?_)
    refine lv_iconst (v := (1 : Int32)) hx hb dL_feederValue_15 (by decide) ?_
    exact hret _ _ _ hP hS (fun Qc hq => W.iret hx hb hr hq hS.2.2 dL_feederValue_16 hlocks)
  · obtain ⟨rfl, rfl⟩ := es2 hD
    refine lrX (Wf := fun z => Wf z m u) (mm := h) (As := [.int x1, .int x2]) (rest := [.int (0 : Int32), .ref (adu 0)]) Fx0 (x_X9_feederValue l hst (Wf := fun z0_ z1_ => Wf z0_ z1_ u) (fun z1_ => hLh z1_ u) (fun z0_ => hL z0_ u) (fun a0_ b0_ a1_ b1_ => hAd a0_ b0_ a1_ b1_ u u) hm1 h m x1 x2 hz) hP (hD1 _ (hAd _ _ _ _ _ _)) hS (hA1 _ _ (hAd _ _ _ _ _ _) hS.1) (hLh m u) (Nat.le_of_ble_eq_true rfl) (hs0 _ _) rfl tw_5_186 tw_5_183 tw_5_184 tw_5_185 tw_1_1 yd_X9_feederValue ⟨(Nat.le_of_ble_eq_true rfl), (Nat.le_of_ble_eq_true rfl)⟩ (by decide) rfl hl.1 rfl (Nat.le_of_ble_eq_true rfl) dL_feederValue_5 [(⟨0, 10, 13, 25⟩ : ExceptionTableEntry)] (⟨0, 10, 17, 13⟩ : ExceptionTableEntry) [] hex (fun z hz => by rcases List.mem_singleton.mp hz with rfl; exact Or.inr ⟨by decide, "java/lang/IndexOutOfBoundsException", Fx0.T tw_5_138, hK.2.2.2⟩) rfl (by decide) tw_5_45 tw_5_52 (fun H locs q9 hP hS => ?_)
    refine lv_astore (lv' := [(4, .ref q9), (0, .ref (adh 0)), (1, .int x1), (2, .int x2), (3, .ref (adu 0))]) hx hb dL_feederValue_17 hl (by decide) rfl (fun ls hl => ?_)
    refine lv_iconst (v := (2 : Int32)) hx hb dL_feederValue_19 (by decide) ?_
    exact hret _ _ _ hP hS (fun Qc hq => W.iret hx hb hr hq hS.2.2 dL_feederValue_20 hlocks)
  · have hD : some ((0 : Int32), sl u 0 0 (r1.toInt64)) = some (rr, u') := hD
    obtain ⟨rfl, rfl⟩ := es2 hD
    refine lrV (Wf := fun z => Wf z m u) (mm := h) (As := [.int x1, .int x2]) (rest := [.int (0 : Int32), .ref (adu 0)]) Fx0 (c_X9_feederValue l (Wf := fun z0_ z1_ => Wf z0_ z1_ u) (fun z1_ => hLh z1_ u) (fun z0_ => hL z0_ u) (fun a0_ b0_ a1_ b1_ => hAd a0_ b0_ a1_ b1_ u u) hm1 h m x1 x2 hz) hP (hD1 _ (hAd _ _ _ _ _ _)) hS (hA1 _ _ (hAd _ _ _ _ _ _) hS.1) (hLh m u) (Nat.le_of_ble_eq_true rfl) (hs0 _ _) rfl tw_5_186 tw_5_183 tw_5_184 tw_5_185 tw_1_1 yd_X9_feederValue ⟨(Nat.le_of_ble_eq_true rfl), (Nat.le_of_ble_eq_true rfl)⟩ (by decide) rfl hl.1 rfl (Nat.le_of_ble_eq_true rfl) dL_feederValue_5 (fun H locs hP hS => ?_)
    refine lv_i2l (v := r1.toInt64) hx hb dL_feederValue_8 rfl ?_
    refine rlast (Wf := fun z => Wf h m z) (mm := u) hx hb hK hP (hD1 _ (hAd _ _ _ _ _ _)) hS (hLu h m) 0 (Nat.le_of_ble_eq_true rfl) (fun _ => us0 _ _) (by decide) (j := 0) (by decide) dL_feederValue_9 (m2 := sl u 0 0 (r1.toInt64)) rfl (fun H locs hP hS => ?_)
    refine lv_goto (tgt := 21) hx hb dL_feederValue_10 (by decide) ?_
    refine lv_iconst (v := (0 : Int32)) hx hb dL_feederValue_21 (by decide) ?_
    refine W.widen (k := 1) (n := 6) (by decide) (by decide) ?_
    exact hret _ _ _ hP hS (fun Qc hq => W.iret hx hb hr hq hS.2.2 dL_feederValue_22 hlocks)

noncomputable def D_L_splice (x1 : Int32) (x2 : Int32) (h : MM) (m : MM) (u : MM) : Option (Int32 × MM × MM) := wL (D_X9_splice x1 x2 h m) (some ((1 : Int32), m, u)) (some ((2 : Int32), m, u)) (fun x => some ((0 : Int32), x.2, sl u 0 0 (x.1.toInt64)))
set_option maxHeartbeats 4000000 in
set_option maxRecDepth 100000 in
theorem c_L_splice (l : Launch) (hst : l.stackTraces = false) {D : va_G} {cs : Nat → ClassId} {adh ad adu ma : Nat → Nat} {Wf : MM → MM → MM → va_W} (hLh : ∀ m u : MM, Ln 8 adh (hsh cs adh ma) (fun z => Wf z m u)) (hL : ∀ h u : MM, Ln 51 ad (msh cs ad) (fun z => Wf h z u)) (hLu : ∀ h m : MM, Ln 1 adu (ush cs) (fun z => Wf h m z)) (hAd : ∀ a0_ b0_ a1_ b1_ a2_ b2_ : MM, (Wf a0_ a1_ a2_).map (fun q => q.1) = (Wf b0_ b1_ b2_).map (fun q => q.1)) (hm1 : ma 1 = ad 24) (h : MM) (m : MM) (u : MM) (x1 : Int32) (x2 : Int32) {rr : Int32} {m' : MM} {u' : MM} (hD : D_L_splice x1 x2 h m u = some (rr, m', u')) : CtL l yL_splice cL_splice 5 [(0, 10, 13, 25), (0, 10, 17, 13)] 8 127 D cs [.ref (adh 0), .int x1, .int x2, .ref (adu 0)] (Wf h m u) (Wf h m' u') (some (.int rr)) := by
  refine CtL.ofW (by decide) (Nat.le_of_ble_eq_true rfl) (hAd _ _ _ _ _ _) ?_
  intro p e s m0 below meth c A Q ls args hx hb hr hml hlocks hown hex hT hK hP hD1 hSS hS hA1 hl hret
  have Fx0 : Fl p m0 c cL_splice 5 s args RL D cs A := ⟨hx, hb, hml, hown, hT, hK, hSS⟩
  have hown : s.vm.findClass RL = some m0.cls := hown
  have hl : lv_has ls 5 [(0, .ref (adh 0)), (1, .int x1), (2, .int x2), (3, .ref (adu 0))] := hl
  unfold D_L_splice at hD
  refine lv_aload_n hx hb dL_splice_0 rfl (lv_at hl 3 rfl) ?_
  refine lv_iconst (v := (0 : Int32)) hx hb dL_splice_1 (by decide) ?_
  refine lv_aload_n hx hb dL_splice_2 rfl (lv_at hl 0 rfl) ?_
  refine lv_iload_n hx hb dL_splice_3 rfl (lv_at hl 1 rfl) ?_
  refine lv_iload_n hx hb dL_splice_4 rfl (lv_at hl 2 rfl) ?_
  rcases wL_el hD with ⟨hz, hD⟩ | ⟨kx, hz, hD⟩ | ⟨⟨r1, m1⟩, hz, hD⟩
  · obtain ⟨rfl, rfl, rfl⟩ := es3 hD
    refine lrX (Wf := fun z => Wf z m u) (mm := h) (As := [.int x1, .int x2]) (rest := [.int (0 : Int32), .ref (adu 0)]) Fx0 (x_X9_splice l hst (Wf := fun z0_ z1_ => Wf z0_ z1_ u) (fun z1_ => hLh z1_ u) (fun z0_ => hL z0_ u) (fun a0_ b0_ a1_ b1_ => hAd a0_ b0_ a1_ b1_ u u) hm1 h m x1 x2 hz) hP (hD1 _ (hAd _ _ _ _ _ _)) hS (hA1 _ _ (hAd _ _ _ _ _ _) hS.1) (hLh m u) (Nat.le_of_ble_eq_true rfl) (hs0 _ _) rfl tw_5_197 tw_5_194 tw_5_195 tw_5_196 tw_1_1 yd_X9_splice ⟨(Nat.le_of_ble_eq_true rfl), (Nat.le_of_ble_eq_true rfl)⟩ (by decide) rfl hl.1 rfl (Nat.le_of_ble_eq_true rfl) dL_splice_5 [] (⟨0, 10, 13, 25⟩ : ExceptionTableEntry) [(⟨0, 10, 17, 13⟩ : ExceptionTableEntry)] hex (fun z hz => nomatch hz) rfl (by decide) tw_5_138 tw_5_148 (fun H locs q9 hP hS => ?_)
    refine lv_astore (lv' := [(4, .ref q9), (0, .ref (adh 0)), (1, .int x1), (2, .int x2), (3, .ref (adu 0))]) hx hb dL_splice_13 hl (by decide) rfl (fun ls hl => ?_)
    refine lv_iconst (v := (1 : Int32)) hx hb dL_splice_15 (by decide) ?_
    exact hret _ _ _ hP hS (fun Qc hq => W.iret hx hb hr hq hS.2.2 dL_splice_16 hlocks)
  · obtain ⟨rfl, rfl, rfl⟩ := es3 hD
    refine lrX (Wf := fun z => Wf z m u) (mm := h) (As := [.int x1, .int x2]) (rest := [.int (0 : Int32), .ref (adu 0)]) Fx0 (x_X9_splice l hst (Wf := fun z0_ z1_ => Wf z0_ z1_ u) (fun z1_ => hLh z1_ u) (fun z0_ => hL z0_ u) (fun a0_ b0_ a1_ b1_ => hAd a0_ b0_ a1_ b1_ u u) hm1 h m x1 x2 hz) hP (hD1 _ (hAd _ _ _ _ _ _)) hS (hA1 _ _ (hAd _ _ _ _ _ _) hS.1) (hLh m u) (Nat.le_of_ble_eq_true rfl) (hs0 _ _) rfl tw_5_197 tw_5_194 tw_5_195 tw_5_196 tw_1_1 yd_X9_splice ⟨(Nat.le_of_ble_eq_true rfl), (Nat.le_of_ble_eq_true rfl)⟩ (by decide) rfl hl.1 rfl (Nat.le_of_ble_eq_true rfl) dL_splice_5 [(⟨0, 10, 13, 25⟩ : ExceptionTableEntry)] (⟨0, 10, 17, 13⟩ : ExceptionTableEntry) [] hex (fun z hz => by rcases List.mem_singleton.mp hz with rfl; exact Or.inr ⟨by decide, "java/lang/IndexOutOfBoundsException", Fx0.T tw_5_138, hK.2.2.2⟩) rfl (by decide) tw_5_45 tw_5_52 (fun H locs q9 hP hS => ?_)
    refine lv_astore (lv' := [(4, .ref q9), (0, .ref (adh 0)), (1, .int x1), (2, .int x2), (3, .ref (adu 0))]) hx hb dL_splice_17 hl (by decide) rfl (fun ls hl => ?_)
    refine lv_iconst (v := (2 : Int32)) hx hb dL_splice_19 (by decide) ?_
    exact hret _ _ _ hP hS (fun Qc hq => W.iret hx hb hr hq hS.2.2 dL_splice_20 hlocks)
  · have hD : some ((0 : Int32), m1, sl u 0 0 (r1.toInt64)) = some (rr, m', u') := hD
    obtain ⟨rfl, rfl, rfl⟩ := es3 hD
    refine lrV (Wf := fun z => Wf z m u) (mm := h) (As := [.int x1, .int x2]) (rest := [.int (0 : Int32), .ref (adu 0)]) Fx0 (c_X9_splice l (Wf := fun z0_ z1_ => Wf z0_ z1_ u) (fun z1_ => hLh z1_ u) (fun z0_ => hL z0_ u) (fun a0_ b0_ a1_ b1_ => hAd a0_ b0_ a1_ b1_ u u) hm1 h m x1 x2 hz) hP (hD1 _ (hAd _ _ _ _ _ _)) hS (hA1 _ _ (hAd _ _ _ _ _ _) hS.1) (hLh m u) (Nat.le_of_ble_eq_true rfl) (hs0 _ _) rfl tw_5_197 tw_5_194 tw_5_195 tw_5_196 tw_1_1 yd_X9_splice ⟨(Nat.le_of_ble_eq_true rfl), (Nat.le_of_ble_eq_true rfl)⟩ (by decide) rfl hl.1 rfl (Nat.le_of_ble_eq_true rfl) dL_splice_5 (fun H locs hP hS => ?_)
    refine lv_i2l (v := r1.toInt64) hx hb dL_splice_8 rfl ?_
    refine rlast (Wf := fun z => Wf h m1 z) (mm := u) hx hb hK hP (hD1 _ (hAd _ _ _ _ _ _)) hS (hLu h m1) 0 (Nat.le_of_ble_eq_true rfl) (fun _ => us0 _ _) (by decide) (j := 0) (by decide) dL_splice_9 (m2 := sl u 0 0 (r1.toInt64)) rfl (fun H locs hP hS => ?_)
    refine lv_goto (tgt := 21) hx hb dL_splice_10 (by decide) ?_
    refine lv_iconst (v := (0 : Int32)) hx hb dL_splice_21 (by decide) ?_
    refine W.widen (k := 1) (n := 6) (by decide) (by decide) ?_
    exact hret _ _ _ hP hS (fun Qc hq => W.iret hx hb hr hq hS.2.2 dL_splice_22 hlocks)

noncomputable def D_L_takeReel (x1 : Int32) (h : MM) (m : MM) (u : MM) : Option (Int32 × MM × MM) := wL (D_X9_takeReel x1 h m) (some ((1 : Int32), m, u)) (none) (fun x => some ((0 : Int32), x.2, sl u 0 0 (x.1.toInt64)))
set_option maxHeartbeats 4000000 in
set_option maxRecDepth 100000 in
theorem c_L_takeReel (l : Launch) (hst : l.stackTraces = false) {D : va_G} {cs : Nat → ClassId} {adh ad adu ma : Nat → Nat} {Wf : MM → MM → MM → va_W} (hLh : ∀ m u : MM, Ln 8 adh (hsh cs adh ma) (fun z => Wf z m u)) (hL : ∀ h u : MM, Ln 51 ad (msh cs ad) (fun z => Wf h z u)) (hLu : ∀ h m : MM, Ln 1 adu (ush cs) (fun z => Wf h m z)) (hAd : ∀ a0_ b0_ a1_ b1_ a2_ b2_ : MM, (Wf a0_ a1_ a2_).map (fun q => q.1) = (Wf b0_ b1_ b2_).map (fun q => q.1)) (hm1 : ma 1 = ad 24) (h : MM) (m : MM) (u : MM) (x1 : Int32) {rr : Int32} {m' : MM} {u' : MM} (hD : D_L_takeReel x1 h m u = some (rr, m', u')) : CtL l yL_takeReel cL_takeReel 4 [(0, 9, 12, 25)] 8 126 D cs [.ref (adh 0), .int x1, .ref (adu 0)] (Wf h m u) (Wf h m' u') (some (.int rr)) := by
  refine CtL.ofW (by decide) (Nat.le_of_ble_eq_true rfl) (hAd _ _ _ _ _ _) ?_
  intro p e s m0 below meth c A Q ls args hx hb hr hml hlocks hown hex hT hK hP hD1 hSS hS hA1 hl hret
  have Fx0 : Fl p m0 c cL_takeReel 4 s args RL D cs A := ⟨hx, hb, hml, hown, hT, hK, hSS⟩
  have hown : s.vm.findClass RL = some m0.cls := hown
  have hl : lv_has ls 4 [(0, .ref (adh 0)), (1, .int x1), (2, .ref (adu 0))] := hl
  unfold D_L_takeReel at hD
  refine lv_aload_n hx hb dL_takeReel_0 rfl (lv_at hl 2 rfl) ?_
  refine lv_iconst (v := (0 : Int32)) hx hb dL_takeReel_1 (by decide) ?_
  refine lv_aload_n hx hb dL_takeReel_2 rfl (lv_at hl 0 rfl) ?_
  refine lv_iload_n hx hb dL_takeReel_3 rfl (lv_at hl 1 rfl) ?_
  rcases wL_el hD with ⟨hz, hD⟩ | ⟨kx, hz, hD⟩ | ⟨⟨r1, m1⟩, hz, hD⟩
  · obtain ⟨rfl, rfl, rfl⟩ := es3 hD
    refine lrX (Wf := fun z => Wf z m u) (mm := h) (As := [.int x1]) (rest := [.int (0 : Int32), .ref (adu 0)]) Fx0 (x_X9_takeReel l hst (Wf := fun z0_ z1_ => Wf z0_ z1_ u) (fun z1_ => hLh z1_ u) (fun z0_ => hL z0_ u) (fun a0_ b0_ a1_ b1_ => hAd a0_ b0_ a1_ b1_ u u) hm1 h m x1 hz) hP (hD1 _ (hAd _ _ _ _ _ _)) hS (hA1 _ _ (hAd _ _ _ _ _ _) hS.1) (hLh m u) (Nat.le_of_ble_eq_true rfl) (hs0 _ _) rfl tw_5_209 tw_5_206 tw_5_207 tw_5_208 tw_1_1 yd_X9_takeReel ⟨(Nat.le_of_ble_eq_true rfl), (Nat.le_of_ble_eq_true rfl)⟩ (by decide) rfl hl.1 rfl (Nat.le_of_ble_eq_true rfl) dL_takeReel_4 [] (⟨0, 9, 12, 25⟩ : ExceptionTableEntry) [] hex (fun z hz => nomatch hz) rfl (by decide) tw_5_138 tw_5_148 (fun H locs q9 hP hS => ?_)
    refine lv_astore_n (lv' := [(3, .ref q9), (0, .ref (adh 0)), (1, .int x1), (2, .ref (adu 0))]) hx hb dL_takeReel_12 rfl hl (by decide) rfl (fun ls hl => ?_)
    refine lv_iconst (v := (1 : Int32)) hx hb dL_takeReel_13 (by decide) ?_
    exact hret _ _ _ hP hS (fun Qc hq => W.iret hx hb hr hq hS.2.2 dL_takeReel_14 hlocks)
  · exact nn_el hD
  · have hD : some ((0 : Int32), m1, sl u 0 0 (r1.toInt64)) = some (rr, m', u') := hD
    obtain ⟨rfl, rfl, rfl⟩ := es3 hD
    refine lrV (Wf := fun z => Wf z m u) (mm := h) (As := [.int x1]) (rest := [.int (0 : Int32), .ref (adu 0)]) Fx0 (c_X9_takeReel l (Wf := fun z0_ z1_ => Wf z0_ z1_ u) (fun z1_ => hLh z1_ u) (fun z0_ => hL z0_ u) (fun a0_ b0_ a1_ b1_ => hAd a0_ b0_ a1_ b1_ u u) hm1 h m x1 hz) hP (hD1 _ (hAd _ _ _ _ _ _)) hS (hA1 _ _ (hAd _ _ _ _ _ _) hS.1) (hLh m u) (Nat.le_of_ble_eq_true rfl) (hs0 _ _) rfl tw_5_209 tw_5_206 tw_5_207 tw_5_208 tw_1_1 yd_X9_takeReel ⟨(Nat.le_of_ble_eq_true rfl), (Nat.le_of_ble_eq_true rfl)⟩ (by decide) rfl hl.1 rfl (Nat.le_of_ble_eq_true rfl) dL_takeReel_4 (fun H locs hP hS => ?_)
    refine lv_i2l (v := r1.toInt64) hx hb dL_takeReel_7 rfl ?_
    refine rlast (Wf := fun z => Wf h m1 z) (mm := u) hx hb hK hP (hD1 _ (hAd _ _ _ _ _ _)) hS (hLu h m1) 0 (Nat.le_of_ble_eq_true rfl) (fun _ => us0 _ _) (by decide) (j := 0) (by decide) dL_takeReel_8 (m2 := sl u 0 0 (r1.toInt64)) rfl (fun H locs hP hS => ?_)
    refine lv_goto (tgt := 15) hx hb dL_takeReel_9 (by decide) ?_
    refine lv_iconst (v := (0 : Int32)) hx hb dL_takeReel_15 (by decide) ?_
    refine W.widen (k := 1) (n := 6) (by decide) (by decide) ?_
    exact hret _ _ _ hP hS (fun Qc hq => W.iret hx hb hr hq hS.2.2 dL_takeReel_16 hlocks)

noncomputable def D_L_setMiss (x1 : Int32) (x2 : Int32) (h : MM) (m : MM) (u : MM) : Option (Int32 × MM × MM) := wL (D_X9_setMiss x1 x2 h m) (some ((1 : Int32), m, u)) (some ((2 : Int32), m, u)) (fun x => some ((0 : Int32), x.2, sl u 0 0 (x.1.toInt64)))
set_option maxHeartbeats 4000000 in
set_option maxRecDepth 100000 in
theorem c_L_setMiss (l : Launch) (hst : l.stackTraces = false) {D : va_G} {cs : Nat → ClassId} {adh ad adu ma : Nat → Nat} {Wf : MM → MM → MM → va_W} (hLh : ∀ m u : MM, Ln 8 adh (hsh cs adh ma) (fun z => Wf z m u)) (hL : ∀ h u : MM, Ln 51 ad (msh cs ad) (fun z => Wf h z u)) (hLu : ∀ h m : MM, Ln 1 adu (ush cs) (fun z => Wf h m z)) (hAd : ∀ a0_ b0_ a1_ b1_ a2_ b2_ : MM, (Wf a0_ a1_ a2_).map (fun q => q.1) = (Wf b0_ b1_ b2_).map (fun q => q.1)) (hm1 : ma 1 = ad 24) (h : MM) (m : MM) (u : MM) (x1 : Int32) (x2 : Int32) {rr : Int32} {m' : MM} {u' : MM} (hD : D_L_setMiss x1 x2 h m u = some (rr, m', u')) : CtL l yL_setMiss cL_setMiss 5 [(0, 10, 13, 25), (0, 10, 17, 13)] 8 127 D cs [.ref (adh 0), .int x1, .int x2, .ref (adu 0)] (Wf h m u) (Wf h m' u') (some (.int rr)) := by
  refine CtL.ofW (by decide) (Nat.le_of_ble_eq_true rfl) (hAd _ _ _ _ _ _) ?_
  intro p e s m0 below meth c A Q ls args hx hb hr hml hlocks hown hex hT hK hP hD1 hSS hS hA1 hl hret
  have Fx0 : Fl p m0 c cL_setMiss 5 s args RL D cs A := ⟨hx, hb, hml, hown, hT, hK, hSS⟩
  have hown : s.vm.findClass RL = some m0.cls := hown
  have hl : lv_has ls 5 [(0, .ref (adh 0)), (1, .int x1), (2, .int x2), (3, .ref (adu 0))] := hl
  unfold D_L_setMiss at hD
  refine lv_aload_n hx hb dL_setMiss_0 rfl (lv_at hl 3 rfl) ?_
  refine lv_iconst (v := (0 : Int32)) hx hb dL_setMiss_1 (by decide) ?_
  refine lv_aload_n hx hb dL_setMiss_2 rfl (lv_at hl 0 rfl) ?_
  refine lv_iload_n hx hb dL_setMiss_3 rfl (lv_at hl 1 rfl) ?_
  refine lv_iload_n hx hb dL_setMiss_4 rfl (lv_at hl 2 rfl) ?_
  rcases wL_el hD with ⟨hz, hD⟩ | ⟨kx, hz, hD⟩ | ⟨⟨r1, m1⟩, hz, hD⟩
  · obtain ⟨rfl, rfl, rfl⟩ := es3 hD
    refine lrX (Wf := fun z => Wf z m u) (mm := h) (As := [.int x1, .int x2]) (rest := [.int (0 : Int32), .ref (adu 0)]) Fx0 (x_X9_setMiss l hst (Wf := fun z0_ z1_ => Wf z0_ z1_ u) (fun z1_ => hLh z1_ u) (fun z0_ => hL z0_ u) (fun a0_ b0_ a1_ b1_ => hAd a0_ b0_ a1_ b1_ u u) hm1 h m x1 x2 hz) hP (hD1 _ (hAd _ _ _ _ _ _)) hS (hA1 _ _ (hAd _ _ _ _ _ _) hS.1) (hLh m u) (Nat.le_of_ble_eq_true rfl) (hs0 _ _) rfl tw_5_220 tw_5_217 tw_5_218 tw_5_219 tw_1_1 yd_X9_setMiss ⟨(Nat.le_of_ble_eq_true rfl), (Nat.le_of_ble_eq_true rfl)⟩ (by decide) rfl hl.1 rfl (Nat.le_of_ble_eq_true rfl) dL_setMiss_5 [] (⟨0, 10, 13, 25⟩ : ExceptionTableEntry) [(⟨0, 10, 17, 13⟩ : ExceptionTableEntry)] hex (fun z hz => nomatch hz) rfl (by decide) tw_5_138 tw_5_148 (fun H locs q9 hP hS => ?_)
    refine lv_astore (lv' := [(4, .ref q9), (0, .ref (adh 0)), (1, .int x1), (2, .int x2), (3, .ref (adu 0))]) hx hb dL_setMiss_13 hl (by decide) rfl (fun ls hl => ?_)
    refine lv_iconst (v := (1 : Int32)) hx hb dL_setMiss_15 (by decide) ?_
    exact hret _ _ _ hP hS (fun Qc hq => W.iret hx hb hr hq hS.2.2 dL_setMiss_16 hlocks)
  · obtain ⟨rfl, rfl, rfl⟩ := es3 hD
    refine lrX (Wf := fun z => Wf z m u) (mm := h) (As := [.int x1, .int x2]) (rest := [.int (0 : Int32), .ref (adu 0)]) Fx0 (x_X9_setMiss l hst (Wf := fun z0_ z1_ => Wf z0_ z1_ u) (fun z1_ => hLh z1_ u) (fun z0_ => hL z0_ u) (fun a0_ b0_ a1_ b1_ => hAd a0_ b0_ a1_ b1_ u u) hm1 h m x1 x2 hz) hP (hD1 _ (hAd _ _ _ _ _ _)) hS (hA1 _ _ (hAd _ _ _ _ _ _) hS.1) (hLh m u) (Nat.le_of_ble_eq_true rfl) (hs0 _ _) rfl tw_5_220 tw_5_217 tw_5_218 tw_5_219 tw_1_1 yd_X9_setMiss ⟨(Nat.le_of_ble_eq_true rfl), (Nat.le_of_ble_eq_true rfl)⟩ (by decide) rfl hl.1 rfl (Nat.le_of_ble_eq_true rfl) dL_setMiss_5 [(⟨0, 10, 13, 25⟩ : ExceptionTableEntry)] (⟨0, 10, 17, 13⟩ : ExceptionTableEntry) [] hex (fun z hz => by rcases List.mem_singleton.mp hz with rfl; exact Or.inr ⟨by decide, "java/lang/IndexOutOfBoundsException", Fx0.T tw_5_138, hK.2.2.2⟩) rfl (by decide) tw_5_45 tw_5_52 (fun H locs q9 hP hS => ?_)
    refine lv_astore (lv' := [(4, .ref q9), (0, .ref (adh 0)), (1, .int x1), (2, .int x2), (3, .ref (adu 0))]) hx hb dL_setMiss_17 hl (by decide) rfl (fun ls hl => ?_)
    refine lv_iconst (v := (2 : Int32)) hx hb dL_setMiss_19 (by decide) ?_
    exact hret _ _ _ hP hS (fun Qc hq => W.iret hx hb hr hq hS.2.2 dL_setMiss_20 hlocks)
  · have hD : some ((0 : Int32), m1, sl u 0 0 (r1.toInt64)) = some (rr, m', u') := hD
    obtain ⟨rfl, rfl, rfl⟩ := es3 hD
    refine lrV (Wf := fun z => Wf z m u) (mm := h) (As := [.int x1, .int x2]) (rest := [.int (0 : Int32), .ref (adu 0)]) Fx0 (c_X9_setMiss l (Wf := fun z0_ z1_ => Wf z0_ z1_ u) (fun z1_ => hLh z1_ u) (fun z0_ => hL z0_ u) (fun a0_ b0_ a1_ b1_ => hAd a0_ b0_ a1_ b1_ u u) hm1 h m x1 x2 hz) hP (hD1 _ (hAd _ _ _ _ _ _)) hS (hA1 _ _ (hAd _ _ _ _ _ _) hS.1) (hLh m u) (Nat.le_of_ble_eq_true rfl) (hs0 _ _) rfl tw_5_220 tw_5_217 tw_5_218 tw_5_219 tw_1_1 yd_X9_setMiss ⟨(Nat.le_of_ble_eq_true rfl), (Nat.le_of_ble_eq_true rfl)⟩ (by decide) rfl hl.1 rfl (Nat.le_of_ble_eq_true rfl) dL_setMiss_5 (fun H locs hP hS => ?_)
    refine lv_i2l (v := r1.toInt64) hx hb dL_setMiss_8 rfl ?_
    refine rlast (Wf := fun z => Wf h m1 z) (mm := u) hx hb hK hP (hD1 _ (hAd _ _ _ _ _ _)) hS (hLu h m1) 0 (Nat.le_of_ble_eq_true rfl) (fun _ => us0 _ _) (by decide) (j := 0) (by decide) dL_setMiss_9 (m2 := sl u 0 0 (r1.toInt64)) rfl (fun H locs hP hS => ?_)
    refine lv_goto (tgt := 21) hx hb dL_setMiss_10 (by decide) ?_
    refine lv_iconst (v := (0 : Int32)) hx hb dL_setMiss_21 (by decide) ?_
    refine W.widen (k := 1) (n := 6) (by decide) (by decide) ?_
    exact hret _ _ _ hP hS (fun Qc hq => W.iret hx hb hr hq hS.2.2 dL_setMiss_22 hlocks)

noncomputable def D_L_moveFeeder (x1 : Int32) (x2 : Int32) (h : MM) (m : MM) (u : MM) : Option (Int32 × MM × MM) := wL (D_X9_moveFeeder x1 x2 h m) (some ((1 : Int32), m, u)) (some ((2 : Int32), m, u)) (fun x => some ((0 : Int32), x.2, sl u 0 0 (x.1.toInt64)))
set_option maxHeartbeats 4000000 in
set_option maxRecDepth 100000 in
theorem c_L_moveFeeder (l : Launch) (hst : l.stackTraces = false) {D : va_G} {cs : Nat → ClassId} {adh ad adu ma : Nat → Nat} {Wf : MM → MM → MM → va_W} (hLh : ∀ m u : MM, Ln 8 adh (hsh cs adh ma) (fun z => Wf z m u)) (hL : ∀ h u : MM, Ln 51 ad (msh cs ad) (fun z => Wf h z u)) (hLu : ∀ h m : MM, Ln 1 adu (ush cs) (fun z => Wf h m z)) (hAd : ∀ a0_ b0_ a1_ b1_ a2_ b2_ : MM, (Wf a0_ a1_ a2_).map (fun q => q.1) = (Wf b0_ b1_ b2_).map (fun q => q.1)) (hm1 : ma 1 = ad 24) (h : MM) (m : MM) (u : MM) (x1 : Int32) (x2 : Int32) {rr : Int32} {m' : MM} {u' : MM} (hD : D_L_moveFeeder x1 x2 h m u = some (rr, m', u')) : CtL l yL_moveFeeder cL_moveFeeder 5 [(0, 10, 13, 25), (0, 10, 17, 13)] 8 127 D cs [.ref (adh 0), .int x1, .int x2, .ref (adu 0)] (Wf h m u) (Wf h m' u') (some (.int rr)) := by
  refine CtL.ofW (by decide) (Nat.le_of_ble_eq_true rfl) (hAd _ _ _ _ _ _) ?_
  intro p e s m0 below meth c A Q ls args hx hb hr hml hlocks hown hex hT hK hP hD1 hSS hS hA1 hl hret
  have Fx0 : Fl p m0 c cL_moveFeeder 5 s args RL D cs A := ⟨hx, hb, hml, hown, hT, hK, hSS⟩
  have hown : s.vm.findClass RL = some m0.cls := hown
  have hl : lv_has ls 5 [(0, .ref (adh 0)), (1, .int x1), (2, .int x2), (3, .ref (adu 0))] := hl
  unfold D_L_moveFeeder at hD
  refine lv_aload_n hx hb dL_moveFeeder_0 rfl (lv_at hl 3 rfl) ?_
  refine lv_iconst (v := (0 : Int32)) hx hb dL_moveFeeder_1 (by decide) ?_
  refine lv_aload_n hx hb dL_moveFeeder_2 rfl (lv_at hl 0 rfl) ?_
  refine lv_iload_n hx hb dL_moveFeeder_3 rfl (lv_at hl 1 rfl) ?_
  refine lv_iload_n hx hb dL_moveFeeder_4 rfl (lv_at hl 2 rfl) ?_
  rcases wL_el hD with ⟨hz, hD⟩ | ⟨kx, hz, hD⟩ | ⟨⟨r1, m1⟩, hz, hD⟩
  · obtain ⟨rfl, rfl, rfl⟩ := es3 hD
    refine lrX (Wf := fun z => Wf z m u) (mm := h) (As := [.int x1, .int x2]) (rest := [.int (0 : Int32), .ref (adu 0)]) Fx0 (x_X9_moveFeeder l hst (Wf := fun z0_ z1_ => Wf z0_ z1_ u) (fun z1_ => hLh z1_ u) (fun z0_ => hL z0_ u) (fun a0_ b0_ a1_ b1_ => hAd a0_ b0_ a1_ b1_ u u) hm1 h m x1 x2 hz) hP (hD1 _ (hAd _ _ _ _ _ _)) hS (hA1 _ _ (hAd _ _ _ _ _ _) hS.1) (hLh m u) (Nat.le_of_ble_eq_true rfl) (hs0 _ _) rfl tw_5_227 tw_5_224 tw_5_225 tw_5_226 tw_1_1 yd_X9_moveFeeder ⟨(Nat.le_of_ble_eq_true rfl), (Nat.le_of_ble_eq_true rfl)⟩ (by decide) rfl hl.1 rfl (Nat.le_of_ble_eq_true rfl) dL_moveFeeder_5 [] (⟨0, 10, 13, 25⟩ : ExceptionTableEntry) [(⟨0, 10, 17, 13⟩ : ExceptionTableEntry)] hex (fun z hz => nomatch hz) rfl (by decide) tw_5_138 tw_5_148 (fun H locs q9 hP hS => ?_)
    refine lv_astore (lv' := [(4, .ref q9), (0, .ref (adh 0)), (1, .int x1), (2, .int x2), (3, .ref (adu 0))]) hx hb dL_moveFeeder_13 hl (by decide) rfl (fun ls hl => ?_)
    refine lv_iconst (v := (1 : Int32)) hx hb dL_moveFeeder_15 (by decide) ?_
    exact hret _ _ _ hP hS (fun Qc hq => W.iret hx hb hr hq hS.2.2 dL_moveFeeder_16 hlocks)
  · obtain ⟨rfl, rfl, rfl⟩ := es3 hD
    refine lrX (Wf := fun z => Wf z m u) (mm := h) (As := [.int x1, .int x2]) (rest := [.int (0 : Int32), .ref (adu 0)]) Fx0 (x_X9_moveFeeder l hst (Wf := fun z0_ z1_ => Wf z0_ z1_ u) (fun z1_ => hLh z1_ u) (fun z0_ => hL z0_ u) (fun a0_ b0_ a1_ b1_ => hAd a0_ b0_ a1_ b1_ u u) hm1 h m x1 x2 hz) hP (hD1 _ (hAd _ _ _ _ _ _)) hS (hA1 _ _ (hAd _ _ _ _ _ _) hS.1) (hLh m u) (Nat.le_of_ble_eq_true rfl) (hs0 _ _) rfl tw_5_227 tw_5_224 tw_5_225 tw_5_226 tw_1_1 yd_X9_moveFeeder ⟨(Nat.le_of_ble_eq_true rfl), (Nat.le_of_ble_eq_true rfl)⟩ (by decide) rfl hl.1 rfl (Nat.le_of_ble_eq_true rfl) dL_moveFeeder_5 [(⟨0, 10, 13, 25⟩ : ExceptionTableEntry)] (⟨0, 10, 17, 13⟩ : ExceptionTableEntry) [] hex (fun z hz => by rcases List.mem_singleton.mp hz with rfl; exact Or.inr ⟨by decide, "java/lang/IndexOutOfBoundsException", Fx0.T tw_5_138, hK.2.2.2⟩) rfl (by decide) tw_5_45 tw_5_52 (fun H locs q9 hP hS => ?_)
    refine lv_astore (lv' := [(4, .ref q9), (0, .ref (adh 0)), (1, .int x1), (2, .int x2), (3, .ref (adu 0))]) hx hb dL_moveFeeder_17 hl (by decide) rfl (fun ls hl => ?_)
    refine lv_iconst (v := (2 : Int32)) hx hb dL_moveFeeder_19 (by decide) ?_
    exact hret _ _ _ hP hS (fun Qc hq => W.iret hx hb hr hq hS.2.2 dL_moveFeeder_20 hlocks)
  · have hD : some ((0 : Int32), m1, sl u 0 0 (r1.toInt64)) = some (rr, m', u') := hD
    obtain ⟨rfl, rfl, rfl⟩ := es3 hD
    refine lrV (Wf := fun z => Wf z m u) (mm := h) (As := [.int x1, .int x2]) (rest := [.int (0 : Int32), .ref (adu 0)]) Fx0 (c_X9_moveFeeder l (Wf := fun z0_ z1_ => Wf z0_ z1_ u) (fun z1_ => hLh z1_ u) (fun z0_ => hL z0_ u) (fun a0_ b0_ a1_ b1_ => hAd a0_ b0_ a1_ b1_ u u) hm1 h m x1 x2 hz) hP (hD1 _ (hAd _ _ _ _ _ _)) hS (hA1 _ _ (hAd _ _ _ _ _ _) hS.1) (hLh m u) (Nat.le_of_ble_eq_true rfl) (hs0 _ _) rfl tw_5_227 tw_5_224 tw_5_225 tw_5_226 tw_1_1 yd_X9_moveFeeder ⟨(Nat.le_of_ble_eq_true rfl), (Nat.le_of_ble_eq_true rfl)⟩ (by decide) rfl hl.1 rfl (Nat.le_of_ble_eq_true rfl) dL_moveFeeder_5 (fun H locs hP hS => ?_)
    refine lv_i2l (v := r1.toInt64) hx hb dL_moveFeeder_8 rfl ?_
    refine rlast (Wf := fun z => Wf h m1 z) (mm := u) hx hb hK hP (hD1 _ (hAd _ _ _ _ _ _)) hS (hLu h m1) 0 (Nat.le_of_ble_eq_true rfl) (fun _ => us0 _ _) (by decide) (j := 0) (by decide) dL_moveFeeder_9 (m2 := sl u 0 0 (r1.toInt64)) rfl (fun H locs hP hS => ?_)
    refine lv_goto (tgt := 21) hx hb dL_moveFeeder_10 (by decide) ?_
    refine lv_iconst (v := (0 : Int32)) hx hb dL_moveFeeder_21 (by decide) ?_
    refine W.widen (k := 1) (n := 6) (by decide) (by decide) ?_
    exact hret _ _ _ hP hS (fun Qc hq => W.iret hx hb hr hq hS.2.2 dL_moveFeeder_22 hlocks)

noncomputable def D_L_nearestFeeder (x1 : Int32) (h : MM) (m : MM) (u : MM) : Option (Int32 × MM) := wL (D_X9_nearestFeeder x1 h m) (some ((1 : Int32), u)) (none) (fun x => some ((0 : Int32), sl u 0 0 (x.toInt64)))
set_option maxHeartbeats 4000000 in
set_option maxRecDepth 100000 in
theorem c_L_nearestFeeder (l : Launch) (hst : l.stackTraces = false) {D : va_G} {cs : Nat → ClassId} {adh ad adu ma : Nat → Nat} {Wf : MM → MM → MM → va_W} (hLh : ∀ m u : MM, Ln 8 adh (hsh cs adh ma) (fun z => Wf z m u)) (hL : ∀ h u : MM, Ln 51 ad (msh cs ad) (fun z => Wf h z u)) (hLu : ∀ h m : MM, Ln 1 adu (ush cs) (fun z => Wf h m z)) (hAd : ∀ a0_ b0_ a1_ b1_ a2_ b2_ : MM, (Wf a0_ a1_ a2_).map (fun q => q.1) = (Wf b0_ b1_ b2_).map (fun q => q.1)) (hm1 : ma 1 = ad 24) (h : MM) (m : MM) (u : MM) (x1 : Int32) {rr : Int32} {u' : MM} (hD : D_L_nearestFeeder x1 h m u = some (rr, u')) : CtL l yL_nearestFeeder cL_nearestFeeder 4 [(0, 9, 12, 25)] 8 124 D cs [.ref (adh 0), .int x1, .ref (adu 0)] (Wf h m u) (Wf h m u') (some (.int rr)) := by
  refine CtL.ofW (by decide) (Nat.le_of_ble_eq_true rfl) (hAd _ _ _ _ _ _) ?_
  intro p e s m0 below meth c A Q ls args hx hb hr hml hlocks hown hex hT hK hP hD1 hSS hS hA1 hl hret
  have Fx0 : Fl p m0 c cL_nearestFeeder 4 s args RL D cs A := ⟨hx, hb, hml, hown, hT, hK, hSS⟩
  have hown : s.vm.findClass RL = some m0.cls := hown
  have hl : lv_has ls 4 [(0, .ref (adh 0)), (1, .int x1), (2, .ref (adu 0))] := hl
  unfold D_L_nearestFeeder at hD
  refine lv_aload_n hx hb dL_nearestFeeder_0 rfl (lv_at hl 2 rfl) ?_
  refine lv_iconst (v := (0 : Int32)) hx hb dL_nearestFeeder_1 (by decide) ?_
  refine lv_aload_n hx hb dL_nearestFeeder_2 rfl (lv_at hl 0 rfl) ?_
  refine lv_iload_n hx hb dL_nearestFeeder_3 rfl (lv_at hl 1 rfl) ?_
  rcases wL_el hD with ⟨hz, hD⟩ | ⟨kx, hz, hD⟩ | ⟨r1, hz, hD⟩
  · obtain ⟨rfl, rfl⟩ := es2 hD
    refine lrX (Wf := fun z => Wf z m u) (mm := h) (As := [.int x1]) (rest := [.int (0 : Int32), .ref (adu 0)]) Fx0 (x_X9_nearestFeeder l hst (Wf := fun z0_ z1_ => Wf z0_ z1_ u) (fun z1_ => hLh z1_ u) (fun z0_ => hL z0_ u) (fun a0_ b0_ a1_ b1_ => hAd a0_ b0_ a1_ b1_ u u) hm1 h m x1 hz) hP (hD1 _ (hAd _ _ _ _ _ _)) hS (hA1 _ _ (hAd _ _ _ _ _ _) hS.1) (hLh m u) (Nat.le_of_ble_eq_true rfl) (hs0 _ _) rfl tw_5_234 tw_5_231 tw_5_232 tw_5_233 tw_1_1 yd_X9_nearestFeeder ⟨(Nat.le_of_ble_eq_true rfl), (Nat.le_of_ble_eq_true rfl)⟩ (by decide) rfl hl.1 rfl (Nat.le_of_ble_eq_true rfl) dL_nearestFeeder_4 [] (⟨0, 9, 12, 25⟩ : ExceptionTableEntry) [] hex (fun z hz => nomatch hz) rfl (by decide) tw_5_138 tw_5_148 (fun H locs q9 hP hS => ?_)
    refine lv_astore_n (lv' := [(3, .ref q9), (0, .ref (adh 0)), (1, .int x1), (2, .ref (adu 0))]) hx hb dL_nearestFeeder_12 rfl hl (by decide) rfl (fun ls hl => ?_)
    refine lv_iconst (v := (1 : Int32)) hx hb dL_nearestFeeder_13 (by decide) ?_
    exact hret _ _ _ hP hS (fun Qc hq => W.iret hx hb hr hq hS.2.2 dL_nearestFeeder_14 hlocks)
  · exact nn_el hD
  · have hD : some ((0 : Int32), sl u 0 0 (r1.toInt64)) = some (rr, u') := hD
    obtain ⟨rfl, rfl⟩ := es2 hD
    refine lrV (Wf := fun z => Wf z m u) (mm := h) (As := [.int x1]) (rest := [.int (0 : Int32), .ref (adu 0)]) Fx0 (c_X9_nearestFeeder l (Wf := fun z0_ z1_ => Wf z0_ z1_ u) (fun z1_ => hLh z1_ u) (fun z0_ => hL z0_ u) (fun a0_ b0_ a1_ b1_ => hAd a0_ b0_ a1_ b1_ u u) hm1 h m x1 hz) hP (hD1 _ (hAd _ _ _ _ _ _)) hS (hA1 _ _ (hAd _ _ _ _ _ _) hS.1) (hLh m u) (Nat.le_of_ble_eq_true rfl) (hs0 _ _) rfl tw_5_234 tw_5_231 tw_5_232 tw_5_233 tw_1_1 yd_X9_nearestFeeder ⟨(Nat.le_of_ble_eq_true rfl), (Nat.le_of_ble_eq_true rfl)⟩ (by decide) rfl hl.1 rfl (Nat.le_of_ble_eq_true rfl) dL_nearestFeeder_4 (fun H locs hP hS => ?_)
    refine lv_i2l (v := r1.toInt64) hx hb dL_nearestFeeder_7 rfl ?_
    refine rlast (Wf := fun z => Wf h m z) (mm := u) hx hb hK hP (hD1 _ (hAd _ _ _ _ _ _)) hS (hLu h m) 0 (Nat.le_of_ble_eq_true rfl) (fun _ => us0 _ _) (by decide) (j := 0) (by decide) dL_nearestFeeder_8 (m2 := sl u 0 0 (r1.toInt64)) rfl (fun H locs hP hS => ?_)
    refine lv_goto (tgt := 15) hx hb dL_nearestFeeder_9 (by decide) ?_
    refine lv_iconst (v := (0 : Int32)) hx hb dL_nearestFeeder_15 (by decide) ?_
    refine W.widen (k := 1) (n := 6) (by decide) (by decide) ?_
    exact hret _ _ _ hP hS (fun Qc hq => W.iret hx hb hr hq hS.2.2 dL_nearestFeeder_16 hlocks)

noncomputable def D_L_spotValue (x1 : Int32) (x2 : Int32) (h : MM) (m : MM) (u : MM) : Option (Int32 × MM) := wL (D_X9_spotValue x1 x2 h m) (some ((1 : Int32), u)) (some ((2 : Int32), u)) (fun x => some ((0 : Int32), sl u 0 0 (x.toInt64)))
set_option maxHeartbeats 4000000 in
set_option maxRecDepth 100000 in
theorem c_L_spotValue (l : Launch) (hst : l.stackTraces = false) {D : va_G} {cs : Nat → ClassId} {adh ad adu ma : Nat → Nat} {Wf : MM → MM → MM → va_W} (hLh : ∀ m u : MM, Ln 8 adh (hsh cs adh ma) (fun z => Wf z m u)) (hL : ∀ h u : MM, Ln 51 ad (msh cs ad) (fun z => Wf h z u)) (hLu : ∀ h m : MM, Ln 1 adu (ush cs) (fun z => Wf h m z)) (hAd : ∀ a0_ b0_ a1_ b1_ a2_ b2_ : MM, (Wf a0_ a1_ a2_).map (fun q => q.1) = (Wf b0_ b1_ b2_).map (fun q => q.1)) (hm1 : ma 1 = ad 24) (h : MM) (m : MM) (u : MM) (x1 : Int32) (x2 : Int32) {rr : Int32} {u' : MM} (hD : D_L_spotValue x1 x2 h m u = some (rr, u')) : CtL l yL_spotValue cL_spotValue 5 [(0, 10, 13, 25), (0, 10, 17, 13)] 8 126 D cs [.ref (adh 0), .int x1, .int x2, .ref (adu 0)] (Wf h m u) (Wf h m u') (some (.int rr)) := by
  refine CtL.ofW (by decide) (Nat.le_of_ble_eq_true rfl) (hAd _ _ _ _ _ _) ?_
  intro p e s m0 below meth c A Q ls args hx hb hr hml hlocks hown hex hT hK hP hD1 hSS hS hA1 hl hret
  have Fx0 : Fl p m0 c cL_spotValue 5 s args RL D cs A := ⟨hx, hb, hml, hown, hT, hK, hSS⟩
  have hown : s.vm.findClass RL = some m0.cls := hown
  have hl : lv_has ls 5 [(0, .ref (adh 0)), (1, .int x1), (2, .int x2), (3, .ref (adu 0))] := hl
  unfold D_L_spotValue at hD
  refine lv_aload_n hx hb dL_spotValue_0 rfl (lv_at hl 3 rfl) ?_
  refine lv_iconst (v := (0 : Int32)) hx hb dL_spotValue_1 (by decide) ?_
  refine lv_aload_n hx hb dL_spotValue_2 rfl (lv_at hl 0 rfl) ?_
  refine lv_iload_n hx hb dL_spotValue_3 rfl (lv_at hl 1 rfl) ?_
  refine lv_iload_n hx hb dL_spotValue_4 rfl (lv_at hl 2 rfl) ?_
  rcases wL_el hD with ⟨hz, hD⟩ | ⟨kx, hz, hD⟩ | ⟨r1, hz, hD⟩
  · obtain ⟨rfl, rfl⟩ := es2 hD
    refine lrX (Wf := fun z => Wf z m u) (mm := h) (As := [.int x1, .int x2]) (rest := [.int (0 : Int32), .ref (adu 0)]) Fx0 (x_X9_spotValue l hst (Wf := fun z0_ z1_ => Wf z0_ z1_ u) (fun z1_ => hLh z1_ u) (fun z0_ => hL z0_ u) (fun a0_ b0_ a1_ b1_ => hAd a0_ b0_ a1_ b1_ u u) hm1 h m x1 x2 hz) hP (hD1 _ (hAd _ _ _ _ _ _)) hS (hA1 _ _ (hAd _ _ _ _ _ _) hS.1) (hLh m u) (Nat.le_of_ble_eq_true rfl) (hs0 _ _) rfl tw_6_2 tw_5_239 tw_6_0 tw_6_1 tw_1_1 yd_X9_spotValue ⟨(Nat.le_of_ble_eq_true rfl), (Nat.le_of_ble_eq_true rfl)⟩ (by decide) rfl hl.1 rfl (Nat.le_of_ble_eq_true rfl) dL_spotValue_5 [] (⟨0, 10, 13, 25⟩ : ExceptionTableEntry) [(⟨0, 10, 17, 13⟩ : ExceptionTableEntry)] hex (fun z hz => nomatch hz) rfl (by decide) tw_5_138 tw_5_148 (fun H locs q9 hP hS => ?_)
    refine lv_astore (lv' := [(4, .ref q9), (0, .ref (adh 0)), (1, .int x1), (2, .int x2), (3, .ref (adu 0))]) hx hb dL_spotValue_13 hl (by decide) rfl (fun ls hl => ?_)
    refine lv_iconst (v := (1 : Int32)) hx hb dL_spotValue_15 (by decide) ?_
    exact hret _ _ _ hP hS (fun Qc hq => W.iret hx hb hr hq hS.2.2 dL_spotValue_16 hlocks)
  · obtain ⟨rfl, rfl⟩ := es2 hD
    refine lrX (Wf := fun z => Wf z m u) (mm := h) (As := [.int x1, .int x2]) (rest := [.int (0 : Int32), .ref (adu 0)]) Fx0 (x_X9_spotValue l hst (Wf := fun z0_ z1_ => Wf z0_ z1_ u) (fun z1_ => hLh z1_ u) (fun z0_ => hL z0_ u) (fun a0_ b0_ a1_ b1_ => hAd a0_ b0_ a1_ b1_ u u) hm1 h m x1 x2 hz) hP (hD1 _ (hAd _ _ _ _ _ _)) hS (hA1 _ _ (hAd _ _ _ _ _ _) hS.1) (hLh m u) (Nat.le_of_ble_eq_true rfl) (hs0 _ _) rfl tw_6_2 tw_5_239 tw_6_0 tw_6_1 tw_1_1 yd_X9_spotValue ⟨(Nat.le_of_ble_eq_true rfl), (Nat.le_of_ble_eq_true rfl)⟩ (by decide) rfl hl.1 rfl (Nat.le_of_ble_eq_true rfl) dL_spotValue_5 [(⟨0, 10, 13, 25⟩ : ExceptionTableEntry)] (⟨0, 10, 17, 13⟩ : ExceptionTableEntry) [] hex (fun z hz => by rcases List.mem_singleton.mp hz with rfl; exact Or.inr ⟨by decide, "java/lang/IndexOutOfBoundsException", Fx0.T tw_5_138, hK.2.2.2⟩) rfl (by decide) tw_5_45 tw_5_52 (fun H locs q9 hP hS => ?_)
    refine lv_astore (lv' := [(4, .ref q9), (0, .ref (adh 0)), (1, .int x1), (2, .int x2), (3, .ref (adu 0))]) hx hb dL_spotValue_17 hl (by decide) rfl (fun ls hl => ?_)
    refine lv_iconst (v := (2 : Int32)) hx hb dL_spotValue_19 (by decide) ?_
    exact hret _ _ _ hP hS (fun Qc hq => W.iret hx hb hr hq hS.2.2 dL_spotValue_20 hlocks)
  · have hD : some ((0 : Int32), sl u 0 0 (r1.toInt64)) = some (rr, u') := hD
    obtain ⟨rfl, rfl⟩ := es2 hD
    refine lrV (Wf := fun z => Wf z m u) (mm := h) (As := [.int x1, .int x2]) (rest := [.int (0 : Int32), .ref (adu 0)]) Fx0 (c_X9_spotValue l (Wf := fun z0_ z1_ => Wf z0_ z1_ u) (fun z1_ => hLh z1_ u) (fun z0_ => hL z0_ u) (fun a0_ b0_ a1_ b1_ => hAd a0_ b0_ a1_ b1_ u u) hm1 h m x1 x2 hz) hP (hD1 _ (hAd _ _ _ _ _ _)) hS (hA1 _ _ (hAd _ _ _ _ _ _) hS.1) (hLh m u) (Nat.le_of_ble_eq_true rfl) (hs0 _ _) rfl tw_6_2 tw_5_239 tw_6_0 tw_6_1 tw_1_1 yd_X9_spotValue ⟨(Nat.le_of_ble_eq_true rfl), (Nat.le_of_ble_eq_true rfl)⟩ (by decide) rfl hl.1 rfl (Nat.le_of_ble_eq_true rfl) dL_spotValue_5 (fun H locs hP hS => ?_)
    refine lv_i2l (v := r1.toInt64) hx hb dL_spotValue_8 rfl ?_
    refine rlast (Wf := fun z => Wf h m z) (mm := u) hx hb hK hP (hD1 _ (hAd _ _ _ _ _ _)) hS (hLu h m) 0 (Nat.le_of_ble_eq_true rfl) (fun _ => us0 _ _) (by decide) (j := 0) (by decide) dL_spotValue_9 (m2 := sl u 0 0 (r1.toInt64)) rfl (fun H locs hP hS => ?_)
    refine lv_goto (tgt := 21) hx hb dL_spotValue_10 (by decide) ?_
    refine lv_iconst (v := (0 : Int32)) hx hb dL_spotValue_21 (by decide) ?_
    refine W.widen (k := 1) (n := 6) (by decide) (by decide) ?_
    exact hret _ _ _ hP hS (fun Qc hq => W.iret hx hb hr hq hS.2.2 dL_spotValue_22 hlocks)

noncomputable def D_L_leaveOut (x1 : Int32) (x2 : Int32) (h : MM) (m : MM) (u : MM) : Option (Int32 × MM × MM) := wL (D_X9_leaveOut x1 x2 h m) (some ((1 : Int32), m, u)) (none) (fun x => some ((0 : Int32), x.2, sl u 0 0 (if x.1 = 0 then (0 : Int64) else (1 : Int64))))
set_option maxHeartbeats 4000000 in
set_option maxRecDepth 100000 in
theorem c_L_leaveOut (l : Launch) (hst : l.stackTraces = false) {D : va_G} {cs : Nat → ClassId} {adh ad adu ma : Nat → Nat} {Wf : MM → MM → MM → va_W} (hLh : ∀ m u : MM, Ln 8 adh (hsh cs adh ma) (fun z => Wf z m u)) (hL : ∀ h u : MM, Ln 51 ad (msh cs ad) (fun z => Wf h z u)) (hLu : ∀ h m : MM, Ln 1 adu (ush cs) (fun z => Wf h m z)) (hAd : ∀ a0_ b0_ a1_ b1_ a2_ b2_ : MM, (Wf a0_ a1_ a2_).map (fun q => q.1) = (Wf b0_ b1_ b2_).map (fun q => q.1)) (hm1 : ma 1 = ad 24) (h : MM) (m : MM) (u : MM) (x1 : Int32) (x2 : Int32) {rr : Int32} {m' : MM} {u' : MM} (hD : D_L_leaveOut x1 x2 h m u = some (rr, m', u')) : CtL l yL_leaveOut cL_leaveOut 5 [(0, 17, 20, 25)] 8 125 D cs [.ref (adh 0), .int x1, .int x2, .ref (adu 0)] (Wf h m u) (Wf h m' u') (some (.int rr)) := by
  refine CtL.ofW (by decide) (Nat.le_of_ble_eq_true rfl) (hAd _ _ _ _ _ _) ?_
  intro p e s m0 below meth c A Q ls args hx hb hr hml hlocks hown hex hT hK hP hD1 hSS hS hA1 hl hret
  have Fx0 : Fl p m0 c cL_leaveOut 5 s args RL D cs A := ⟨hx, hb, hml, hown, hT, hK, hSS⟩
  have hown : s.vm.findClass RL = some m0.cls := hown
  have hl : lv_has ls 5 [(0, .ref (adh 0)), (1, .int x1), (2, .int x2), (3, .ref (adu 0))] := hl
  unfold D_L_leaveOut at hD
  refine lv_aload_n hx hb dL_leaveOut_0 rfl (lv_at hl 3 rfl) ?_
  refine lv_iconst (v := (0 : Int32)) hx hb dL_leaveOut_1 (by decide) ?_
  refine lv_aload_n hx hb dL_leaveOut_2 rfl (lv_at hl 0 rfl) ?_
  refine lv_iload_n hx hb dL_leaveOut_3 rfl (lv_at hl 1 rfl) ?_
  refine lv_iload_n hx hb dL_leaveOut_4 rfl (lv_at hl 2 rfl) ?_
  rcases wL_el hD with ⟨hz, hD⟩ | ⟨kx, hz, hD⟩ | ⟨⟨r1, m1⟩, hz, hD⟩
  · obtain ⟨rfl, rfl, rfl⟩ := es3 hD
    refine lrX (Wf := fun z => Wf z m u) (mm := h) (As := [.int x1, .int x2]) (rest := [.int (0 : Int32), .ref (adu 0)]) Fx0 (x_X9_leaveOut l hst (Wf := fun z0_ z1_ => Wf z0_ z1_ u) (fun z1_ => hLh z1_ u) (fun z0_ => hL z0_ u) (fun a0_ b0_ a1_ b1_ => hAd a0_ b0_ a1_ b1_ u u) hm1 h m x1 x2 hz) hP (hD1 _ (hAd _ _ _ _ _ _)) hS (hA1 _ _ (hAd _ _ _ _ _ _) hS.1) (hLh m u) (Nat.le_of_ble_eq_true rfl) (hs0 _ _) rfl tw_6_17 tw_6_14 tw_6_15 tw_6_16 tw_1_1 yd_X9_leaveOut ⟨(Nat.le_of_ble_eq_true rfl), (Nat.le_of_ble_eq_true rfl)⟩ (by decide) rfl hl.1 rfl (Nat.le_of_ble_eq_true rfl) dL_leaveOut_5 [] (⟨0, 17, 20, 25⟩ : ExceptionTableEntry) [] hex (fun z hz => nomatch hz) rfl (by decide) tw_5_138 tw_5_148 (fun H locs q9 hP hS => ?_)
    refine lv_astore (lv' := [(4, .ref q9), (0, .ref (adh 0)), (1, .int x1), (2, .int x2), (3, .ref (adu 0))]) hx hb dL_leaveOut_20 hl (by decide) rfl (fun ls hl => ?_)
    refine lv_iconst (v := (1 : Int32)) hx hb dL_leaveOut_22 (by decide) ?_
    exact hret _ _ _ hP hS (fun Qc hq => W.iret hx hb hr hq hS.2.2 dL_leaveOut_23 hlocks)
  · exact nn_el hD
  · have hD : some ((0 : Int32), m1, sl u 0 0 (if r1 = 0 then (0 : Int64) else (1 : Int64))) = some (rr, m', u') := hD
    obtain ⟨rfl, rfl, rfl⟩ := es3 hD
    refine lrV (Wf := fun z => Wf z m u) (mm := h) (As := [.int x1, .int x2]) (rest := [.int (0 : Int32), .ref (adu 0)]) Fx0 (c_X9_leaveOut l (Wf := fun z0_ z1_ => Wf z0_ z1_ u) (fun z1_ => hLh z1_ u) (fun z0_ => hL z0_ u) (fun a0_ b0_ a1_ b1_ => hAd a0_ b0_ a1_ b1_ u u) hm1 h m x1 x2 hz) hP (hD1 _ (hAd _ _ _ _ _ _)) hS (hA1 _ _ (hAd _ _ _ _ _ _) hS.1) (hLh m u) (Nat.le_of_ble_eq_true rfl) (hs0 _ _) rfl tw_6_17 tw_6_14 tw_6_15 tw_6_16 tw_1_1 yd_X9_leaveOut ⟨(Nat.le_of_ble_eq_true rfl), (Nat.le_of_ble_eq_true rfl)⟩ (by decide) rfl hl.1 rfl (Nat.le_of_ble_eq_true rfl) dL_leaveOut_5 (fun H locs hP hS => ?_)
    refine lv_if_eq (tgt := 15) hx hb dL_leaveOut_8 (by decide) (fun c => ?_) (fun c => ?_)
    · rw [if_pos c] at hret
      refine lv_lconst (v := (0 : Int64)) hx hb dL_leaveOut_15 (by decide) ?_
      refine rlast (Wf := fun z => Wf h m1 z) (mm := u) hx hb hK hP (hD1 _ (hAd _ _ _ _ _ _)) hS (hLu h m1) 0 (Nat.le_of_ble_eq_true rfl) (fun _ => us0 _ _) (by decide) (j := 0) (by decide) dL_leaveOut_16 (m2 := sl u 0 0 (0 : Int64)) rfl (fun H locs hP hS => ?_)
      refine lv_goto (tgt := 24) hx hb dL_leaveOut_17 (by decide) ?_
      refine lv_iconst (v := (0 : Int32)) hx hb dL_leaveOut_24 (by decide) ?_
      refine W.widen (k := 1) (n := 6) (by decide) (by decide) ?_
      exact hret _ _ _ hP hS (fun Qc hq => W.iret hx hb hr hq hS.2.2 dL_leaveOut_25 hlocks)
    · rw [if_neg c] at hret
      refine lv_lconst (v := (1 : Int64)) hx hb dL_leaveOut_11 (by decide) ?_
      refine lv_goto (tgt := 16) hx hb dL_leaveOut_12 (by decide) ?_
      refine rlast (Wf := fun z => Wf h m1 z) (mm := u) hx hb hK hP (hD1 _ (hAd _ _ _ _ _ _)) hS (hLu h m1) 0 (Nat.le_of_ble_eq_true rfl) (fun _ => us0 _ _) (by decide) (j := 0) (by decide) dL_leaveOut_16 (m2 := sl u 0 0 (1 : Int64)) rfl (fun H locs hP hS => ?_)
      refine lv_goto (tgt := 24) hx hb dL_leaveOut_17 (by decide) ?_
      refine lv_iconst (v := (0 : Int32)) hx hb dL_leaveOut_24 (by decide) ?_
      refine W.widen (k := 1) (n := 6) (by decide) (by decide) ?_
      exact hret _ _ _ hP hS (fun Qc hq => W.iret hx hb hr hq hS.2.2 dL_leaveOut_25 hlocks)

noncomputable def D_L_openSpots (x1 : Int32) (h : MM) (m : MM) (u : MM) : Option (Int32 × MM) := wL (D_X9_openSpots x1 h m) (some ((1 : Int32), u)) (none) (fun x => some ((0 : Int32), sl u 0 0 (x.toInt64)))
set_option maxHeartbeats 4000000 in
set_option maxRecDepth 100000 in
theorem c_L_openSpots (l : Launch) (hst : l.stackTraces = false) {D : va_G} {cs : Nat → ClassId} {adh ad adu ma : Nat → Nat} {Wf : MM → MM → MM → va_W} (hLh : ∀ m u : MM, Ln 8 adh (hsh cs adh ma) (fun z => Wf z m u)) (hL : ∀ h u : MM, Ln 51 ad (msh cs ad) (fun z => Wf h z u)) (hLu : ∀ h m : MM, Ln 1 adu (ush cs) (fun z => Wf h m z)) (hAd : ∀ a0_ b0_ a1_ b1_ a2_ b2_ : MM, (Wf a0_ a1_ a2_).map (fun q => q.1) = (Wf b0_ b1_ b2_).map (fun q => q.1)) (hm1 : ma 1 = ad 24) (h : MM) (m : MM) (u : MM) (x1 : Int32) {rr : Int32} {u' : MM} (hD : D_L_openSpots x1 h m u = some (rr, u')) : CtL l yL_openSpots cL_openSpots 4 [(0, 9, 12, 25)] 8 124 D cs [.ref (adh 0), .int x1, .ref (adu 0)] (Wf h m u) (Wf h m u') (some (.int rr)) := by
  refine CtL.ofW (by decide) (Nat.le_of_ble_eq_true rfl) (hAd _ _ _ _ _ _) ?_
  intro p e s m0 below meth c A Q ls args hx hb hr hml hlocks hown hex hT hK hP hD1 hSS hS hA1 hl hret
  have Fx0 : Fl p m0 c cL_openSpots 4 s args RL D cs A := ⟨hx, hb, hml, hown, hT, hK, hSS⟩
  have hown : s.vm.findClass RL = some m0.cls := hown
  have hl : lv_has ls 4 [(0, .ref (adh 0)), (1, .int x1), (2, .ref (adu 0))] := hl
  unfold D_L_openSpots at hD
  refine lv_aload_n hx hb dL_openSpots_0 rfl (lv_at hl 2 rfl) ?_
  refine lv_iconst (v := (0 : Int32)) hx hb dL_openSpots_1 (by decide) ?_
  refine lv_aload_n hx hb dL_openSpots_2 rfl (lv_at hl 0 rfl) ?_
  refine lv_iload_n hx hb dL_openSpots_3 rfl (lv_at hl 1 rfl) ?_
  rcases wL_el hD with ⟨hz, hD⟩ | ⟨kx, hz, hD⟩ | ⟨r1, hz, hD⟩
  · obtain ⟨rfl, rfl⟩ := es2 hD
    refine lrX (Wf := fun z => Wf z m u) (mm := h) (As := [.int x1]) (rest := [.int (0 : Int32), .ref (adu 0)]) Fx0 (x_X9_openSpots l hst (Wf := fun z0_ z1_ => Wf z0_ z1_ u) (fun z1_ => hLh z1_ u) (fun z0_ => hL z0_ u) (fun a0_ b0_ a1_ b1_ => hAd a0_ b0_ a1_ b1_ u u) hm1 h m x1 hz) hP (hD1 _ (hAd _ _ _ _ _ _)) hS (hA1 _ _ (hAd _ _ _ _ _ _) hS.1) (hLh m u) (Nat.le_of_ble_eq_true rfl) (hs0 _ _) rfl tw_6_28 tw_6_25 tw_6_26 tw_6_27 tw_1_1 yd_X9_openSpots ⟨(Nat.le_of_ble_eq_true rfl), (Nat.le_of_ble_eq_true rfl)⟩ (by decide) rfl hl.1 rfl (Nat.le_of_ble_eq_true rfl) dL_openSpots_4 [] (⟨0, 9, 12, 25⟩ : ExceptionTableEntry) [] hex (fun z hz => nomatch hz) rfl (by decide) tw_5_138 tw_5_148 (fun H locs q9 hP hS => ?_)
    refine lv_astore_n (lv' := [(3, .ref q9), (0, .ref (adh 0)), (1, .int x1), (2, .ref (adu 0))]) hx hb dL_openSpots_12 rfl hl (by decide) rfl (fun ls hl => ?_)
    refine lv_iconst (v := (1 : Int32)) hx hb dL_openSpots_13 (by decide) ?_
    exact hret _ _ _ hP hS (fun Qc hq => W.iret hx hb hr hq hS.2.2 dL_openSpots_14 hlocks)
  · exact nn_el hD
  · have hD : some ((0 : Int32), sl u 0 0 (r1.toInt64)) = some (rr, u') := hD
    obtain ⟨rfl, rfl⟩ := es2 hD
    refine lrV (Wf := fun z => Wf z m u) (mm := h) (As := [.int x1]) (rest := [.int (0 : Int32), .ref (adu 0)]) Fx0 (c_X9_openSpots l (Wf := fun z0_ z1_ => Wf z0_ z1_ u) (fun z1_ => hLh z1_ u) (fun z0_ => hL z0_ u) (fun a0_ b0_ a1_ b1_ => hAd a0_ b0_ a1_ b1_ u u) hm1 h m x1 hz) hP (hD1 _ (hAd _ _ _ _ _ _)) hS (hA1 _ _ (hAd _ _ _ _ _ _) hS.1) (hLh m u) (Nat.le_of_ble_eq_true rfl) (hs0 _ _) rfl tw_6_28 tw_6_25 tw_6_26 tw_6_27 tw_1_1 yd_X9_openSpots ⟨(Nat.le_of_ble_eq_true rfl), (Nat.le_of_ble_eq_true rfl)⟩ (by decide) rfl hl.1 rfl (Nat.le_of_ble_eq_true rfl) dL_openSpots_4 (fun H locs hP hS => ?_)
    refine lv_i2l (v := r1.toInt64) hx hb dL_openSpots_7 rfl ?_
    refine rlast (Wf := fun z => Wf h m z) (mm := u) hx hb hK hP (hD1 _ (hAd _ _ _ _ _ _)) hS (hLu h m) 0 (Nat.le_of_ble_eq_true rfl) (fun _ => us0 _ _) (by decide) (j := 0) (by decide) dL_openSpots_8 (m2 := sl u 0 0 (r1.toInt64)) rfl (fun H locs hP hS => ?_)
    refine lv_goto (tgt := 15) hx hb dL_openSpots_9 (by decide) ?_
    refine lv_iconst (v := (0 : Int32)) hx hb dL_openSpots_15 (by decide) ?_
    refine W.widen (k := 1) (n := 6) (by decide) (by decide) ?_
    exact hret _ _ _ hP hS (fun Qc hq => W.iret hx hb hr hq hS.2.2 dL_openSpots_16 hlocks)

noncomputable def D_L_addBefore (x1 : Int32) (x2 : Int32) (h : MM) (m : MM) (u : MM) : Option (Int32 × MM × MM) := wL (D_X9_addBefore x1 x2 h m) (some ((1 : Int32), m, u)) (none) (fun x => some ((0 : Int32), x.2, sl u 0 0 (x.1.toInt64)))
set_option maxHeartbeats 4000000 in
set_option maxRecDepth 100000 in
theorem c_L_addBefore (l : Launch) (hst : l.stackTraces = false) {D : va_G} {cs : Nat → ClassId} {adh ad adu ma : Nat → Nat} {Wf : MM → MM → MM → va_W} (hLh : ∀ m u : MM, Ln 8 adh (hsh cs adh ma) (fun z => Wf z m u)) (hL : ∀ h u : MM, Ln 51 ad (msh cs ad) (fun z => Wf h z u)) (hLu : ∀ h m : MM, Ln 1 adu (ush cs) (fun z => Wf h m z)) (hAd : ∀ a0_ b0_ a1_ b1_ a2_ b2_ : MM, (Wf a0_ a1_ a2_).map (fun q => q.1) = (Wf b0_ b1_ b2_).map (fun q => q.1)) (hm1 : ma 1 = ad 24) (h : MM) (m : MM) (u : MM) (x1 : Int32) (x2 : Int32) {rr : Int32} {m' : MM} {u' : MM} (hD : D_L_addBefore x1 x2 h m u = some (rr, m', u')) : CtL l yL_addBefore cL_addBefore 5 [(0, 10, 13, 25)] 8 126 D cs [.ref (adh 0), .int x1, .int x2, .ref (adu 0)] (Wf h m u) (Wf h m' u') (some (.int rr)) := by
  refine CtL.ofW (by decide) (Nat.le_of_ble_eq_true rfl) (hAd _ _ _ _ _ _) ?_
  intro p e s m0 below meth c A Q ls args hx hb hr hml hlocks hown hex hT hK hP hD1 hSS hS hA1 hl hret
  have Fx0 : Fl p m0 c cL_addBefore 5 s args RL D cs A := ⟨hx, hb, hml, hown, hT, hK, hSS⟩
  have hown : s.vm.findClass RL = some m0.cls := hown
  have hl : lv_has ls 5 [(0, .ref (adh 0)), (1, .int x1), (2, .int x2), (3, .ref (adu 0))] := hl
  unfold D_L_addBefore at hD
  refine lv_aload_n hx hb dL_addBefore_0 rfl (lv_at hl 3 rfl) ?_
  refine lv_iconst (v := (0 : Int32)) hx hb dL_addBefore_1 (by decide) ?_
  refine lv_aload_n hx hb dL_addBefore_2 rfl (lv_at hl 0 rfl) ?_
  refine lv_iload_n hx hb dL_addBefore_3 rfl (lv_at hl 1 rfl) ?_
  refine lv_iload_n hx hb dL_addBefore_4 rfl (lv_at hl 2 rfl) ?_
  rcases wL_el hD with ⟨hz, hD⟩ | ⟨kx, hz, hD⟩ | ⟨⟨r1, m1⟩, hz, hD⟩
  · obtain ⟨rfl, rfl, rfl⟩ := es3 hD
    refine lrX (Wf := fun z => Wf z m u) (mm := h) (As := [.int x1, .int x2]) (rest := [.int (0 : Int32), .ref (adu 0)]) Fx0 (x_X9_addBefore l hst (Wf := fun z0_ z1_ => Wf z0_ z1_ u) (fun z1_ => hLh z1_ u) (fun z0_ => hL z0_ u) (fun a0_ b0_ a1_ b1_ => hAd a0_ b0_ a1_ b1_ u u) hm1 h m x1 x2 hz) hP (hD1 _ (hAd _ _ _ _ _ _)) hS (hA1 _ _ (hAd _ _ _ _ _ _) hS.1) (hLh m u) (Nat.le_of_ble_eq_true rfl) (hs0 _ _) rfl tw_6_36 tw_6_33 tw_6_34 tw_6_35 tw_1_1 yd_X9_addBefore ⟨(Nat.le_of_ble_eq_true rfl), (Nat.le_of_ble_eq_true rfl)⟩ (by decide) rfl hl.1 rfl (Nat.le_of_ble_eq_true rfl) dL_addBefore_5 [] (⟨0, 10, 13, 25⟩ : ExceptionTableEntry) [] hex (fun z hz => nomatch hz) rfl (by decide) tw_5_138 tw_5_148 (fun H locs q9 hP hS => ?_)
    refine lv_astore (lv' := [(4, .ref q9), (0, .ref (adh 0)), (1, .int x1), (2, .int x2), (3, .ref (adu 0))]) hx hb dL_addBefore_13 hl (by decide) rfl (fun ls hl => ?_)
    refine lv_iconst (v := (1 : Int32)) hx hb dL_addBefore_15 (by decide) ?_
    exact hret _ _ _ hP hS (fun Qc hq => W.iret hx hb hr hq hS.2.2 dL_addBefore_16 hlocks)
  · exact nn_el hD
  · have hD : some ((0 : Int32), m1, sl u 0 0 (r1.toInt64)) = some (rr, m', u') := hD
    obtain ⟨rfl, rfl, rfl⟩ := es3 hD
    refine lrV (Wf := fun z => Wf z m u) (mm := h) (As := [.int x1, .int x2]) (rest := [.int (0 : Int32), .ref (adu 0)]) Fx0 (c_X9_addBefore l (Wf := fun z0_ z1_ => Wf z0_ z1_ u) (fun z1_ => hLh z1_ u) (fun z0_ => hL z0_ u) (fun a0_ b0_ a1_ b1_ => hAd a0_ b0_ a1_ b1_ u u) hm1 h m x1 x2 hz) hP (hD1 _ (hAd _ _ _ _ _ _)) hS (hA1 _ _ (hAd _ _ _ _ _ _) hS.1) (hLh m u) (Nat.le_of_ble_eq_true rfl) (hs0 _ _) rfl tw_6_36 tw_6_33 tw_6_34 tw_6_35 tw_1_1 yd_X9_addBefore ⟨(Nat.le_of_ble_eq_true rfl), (Nat.le_of_ble_eq_true rfl)⟩ (by decide) rfl hl.1 rfl (Nat.le_of_ble_eq_true rfl) dL_addBefore_5 (fun H locs hP hS => ?_)
    refine lv_i2l (v := r1.toInt64) hx hb dL_addBefore_8 rfl ?_
    refine rlast (Wf := fun z => Wf h m1 z) (mm := u) hx hb hK hP (hD1 _ (hAd _ _ _ _ _ _)) hS (hLu h m1) 0 (Nat.le_of_ble_eq_true rfl) (fun _ => us0 _ _) (by decide) (j := 0) (by decide) dL_addBefore_9 (m2 := sl u 0 0 (r1.toInt64)) rfl (fun H locs hP hS => ?_)
    refine lv_goto (tgt := 17) hx hb dL_addBefore_10 (by decide) ?_
    refine lv_iconst (v := (0 : Int32)) hx hb dL_addBefore_17 (by decide) ?_
    refine W.widen (k := 1) (n := 6) (by decide) (by decide) ?_
    exact hret _ _ _ hP hS (fun Qc hq => W.iret hx hb hr hq hS.2.2 dL_addBefore_18 hlocks)

noncomputable def D_L_dropBefore (x1 : Int32) (x2 : Int32) (h : MM) (m : MM) (u : MM) : Option (Int32 × MM × MM) := wL (D_X9_dropBefore x1 x2 h m) (some ((1 : Int32), m, u)) (none) (fun x => some ((0 : Int32), x.2, sl u 0 0 (if x.1 = 0 then (0 : Int64) else (1 : Int64))))
set_option maxHeartbeats 4000000 in
set_option maxRecDepth 100000 in
theorem c_L_dropBefore (l : Launch) (hst : l.stackTraces = false) {D : va_G} {cs : Nat → ClassId} {adh ad adu ma : Nat → Nat} {Wf : MM → MM → MM → va_W} (hLh : ∀ m u : MM, Ln 8 adh (hsh cs adh ma) (fun z => Wf z m u)) (hL : ∀ h u : MM, Ln 51 ad (msh cs ad) (fun z => Wf h z u)) (hLu : ∀ h m : MM, Ln 1 adu (ush cs) (fun z => Wf h m z)) (hAd : ∀ a0_ b0_ a1_ b1_ a2_ b2_ : MM, (Wf a0_ a1_ a2_).map (fun q => q.1) = (Wf b0_ b1_ b2_).map (fun q => q.1)) (hm1 : ma 1 = ad 24) (h : MM) (m : MM) (u : MM) (x1 : Int32) (x2 : Int32) {rr : Int32} {m' : MM} {u' : MM} (hD : D_L_dropBefore x1 x2 h m u = some (rr, m', u')) : CtL l yL_dropBefore cL_dropBefore 5 [(0, 17, 20, 25)] 8 126 D cs [.ref (adh 0), .int x1, .int x2, .ref (adu 0)] (Wf h m u) (Wf h m' u') (some (.int rr)) := by
  refine CtL.ofW (by decide) (Nat.le_of_ble_eq_true rfl) (hAd _ _ _ _ _ _) ?_
  intro p e s m0 below meth c A Q ls args hx hb hr hml hlocks hown hex hT hK hP hD1 hSS hS hA1 hl hret
  have Fx0 : Fl p m0 c cL_dropBefore 5 s args RL D cs A := ⟨hx, hb, hml, hown, hT, hK, hSS⟩
  have hown : s.vm.findClass RL = some m0.cls := hown
  have hl : lv_has ls 5 [(0, .ref (adh 0)), (1, .int x1), (2, .int x2), (3, .ref (adu 0))] := hl
  unfold D_L_dropBefore at hD
  refine lv_aload_n hx hb dL_dropBefore_0 rfl (lv_at hl 3 rfl) ?_
  refine lv_iconst (v := (0 : Int32)) hx hb dL_dropBefore_1 (by decide) ?_
  refine lv_aload_n hx hb dL_dropBefore_2 rfl (lv_at hl 0 rfl) ?_
  refine lv_iload_n hx hb dL_dropBefore_3 rfl (lv_at hl 1 rfl) ?_
  refine lv_iload_n hx hb dL_dropBefore_4 rfl (lv_at hl 2 rfl) ?_
  rcases wL_el hD with ⟨hz, hD⟩ | ⟨kx, hz, hD⟩ | ⟨⟨r1, m1⟩, hz, hD⟩
  · obtain ⟨rfl, rfl, rfl⟩ := es3 hD
    refine lrX (Wf := fun z => Wf z m u) (mm := h) (As := [.int x1, .int x2]) (rest := [.int (0 : Int32), .ref (adu 0)]) Fx0 (x_X9_dropBefore l hst (Wf := fun z0_ z1_ => Wf z0_ z1_ u) (fun z1_ => hLh z1_ u) (fun z0_ => hL z0_ u) (fun a0_ b0_ a1_ b1_ => hAd a0_ b0_ a1_ b1_ u u) hm1 h m x1 x2 hz) hP (hD1 _ (hAd _ _ _ _ _ _)) hS (hA1 _ _ (hAd _ _ _ _ _ _) hS.1) (hLh m u) (Nat.le_of_ble_eq_true rfl) (hs0 _ _) rfl tw_6_46 tw_6_43 tw_6_44 tw_6_45 tw_1_1 yd_X9_dropBefore ⟨(Nat.le_of_ble_eq_true rfl), (Nat.le_of_ble_eq_true rfl)⟩ (by decide) rfl hl.1 rfl (Nat.le_of_ble_eq_true rfl) dL_dropBefore_5 [] (⟨0, 17, 20, 25⟩ : ExceptionTableEntry) [] hex (fun z hz => nomatch hz) rfl (by decide) tw_5_138 tw_5_148 (fun H locs q9 hP hS => ?_)
    refine lv_astore (lv' := [(4, .ref q9), (0, .ref (adh 0)), (1, .int x1), (2, .int x2), (3, .ref (adu 0))]) hx hb dL_dropBefore_20 hl (by decide) rfl (fun ls hl => ?_)
    refine lv_iconst (v := (1 : Int32)) hx hb dL_dropBefore_22 (by decide) ?_
    exact hret _ _ _ hP hS (fun Qc hq => W.iret hx hb hr hq hS.2.2 dL_dropBefore_23 hlocks)
  · exact nn_el hD
  · have hD : some ((0 : Int32), m1, sl u 0 0 (if r1 = 0 then (0 : Int64) else (1 : Int64))) = some (rr, m', u') := hD
    obtain ⟨rfl, rfl, rfl⟩ := es3 hD
    refine lrV (Wf := fun z => Wf z m u) (mm := h) (As := [.int x1, .int x2]) (rest := [.int (0 : Int32), .ref (adu 0)]) Fx0 (c_X9_dropBefore l (Wf := fun z0_ z1_ => Wf z0_ z1_ u) (fun z1_ => hLh z1_ u) (fun z0_ => hL z0_ u) (fun a0_ b0_ a1_ b1_ => hAd a0_ b0_ a1_ b1_ u u) hm1 h m x1 x2 hz) hP (hD1 _ (hAd _ _ _ _ _ _)) hS (hA1 _ _ (hAd _ _ _ _ _ _) hS.1) (hLh m u) (Nat.le_of_ble_eq_true rfl) (hs0 _ _) rfl tw_6_46 tw_6_43 tw_6_44 tw_6_45 tw_1_1 yd_X9_dropBefore ⟨(Nat.le_of_ble_eq_true rfl), (Nat.le_of_ble_eq_true rfl)⟩ (by decide) rfl hl.1 rfl (Nat.le_of_ble_eq_true rfl) dL_dropBefore_5 (fun H locs hP hS => ?_)
    refine lv_if_eq (tgt := 15) hx hb dL_dropBefore_8 (by decide) (fun c => ?_) (fun c => ?_)
    · rw [if_pos c] at hret
      refine lv_lconst (v := (0 : Int64)) hx hb dL_dropBefore_15 (by decide) ?_
      refine rlast (Wf := fun z => Wf h m1 z) (mm := u) hx hb hK hP (hD1 _ (hAd _ _ _ _ _ _)) hS (hLu h m1) 0 (Nat.le_of_ble_eq_true rfl) (fun _ => us0 _ _) (by decide) (j := 0) (by decide) dL_dropBefore_16 (m2 := sl u 0 0 (0 : Int64)) rfl (fun H locs hP hS => ?_)
      refine lv_goto (tgt := 24) hx hb dL_dropBefore_17 (by decide) ?_
      refine lv_iconst (v := (0 : Int32)) hx hb dL_dropBefore_24 (by decide) ?_
      refine W.widen (k := 1) (n := 6) (by decide) (by decide) ?_
      exact hret _ _ _ hP hS (fun Qc hq => W.iret hx hb hr hq hS.2.2 dL_dropBefore_25 hlocks)
    · rw [if_neg c] at hret
      refine lv_lconst (v := (1 : Int64)) hx hb dL_dropBefore_11 (by decide) ?_
      refine lv_goto (tgt := 16) hx hb dL_dropBefore_12 (by decide) ?_
      refine rlast (Wf := fun z => Wf h m1 z) (mm := u) hx hb hK hP (hD1 _ (hAd _ _ _ _ _ _)) hS (hLu h m1) 0 (Nat.le_of_ble_eq_true rfl) (fun _ => us0 _ _) (by decide) (j := 0) (by decide) dL_dropBefore_16 (m2 := sl u 0 0 (1 : Int64)) rfl (fun H locs hP hS => ?_)
      refine lv_goto (tgt := 24) hx hb dL_dropBefore_17 (by decide) ?_
      refine lv_iconst (v := (0 : Int32)) hx hb dL_dropBefore_24 (by decide) ?_
      refine W.widen (k := 1) (n := 6) (by decide) (by decide) ?_
      exact hret _ _ _ hP hS (fun Qc hq => W.iret hx hb hr hq hS.2.2 dL_dropBefore_25 hlocks)

noncomputable def D_L_blockedBy (x1 : Int32) (h : MM) (m : MM) (u : MM) : Option (Int32 × MM) := wL (D_X9_blockedBy x1 h m) (some ((1 : Int32), u)) (none) (fun x => some ((0 : Int32), sl u 0 0 x))
set_option maxHeartbeats 4000000 in
set_option maxRecDepth 100000 in
theorem c_L_blockedBy (l : Launch) (hst : l.stackTraces = false) {D : va_G} {cs : Nat → ClassId} {adh ad adu ma : Nat → Nat} {Wf : MM → MM → MM → va_W} (hLh : ∀ m u : MM, Ln 8 adh (hsh cs adh ma) (fun z => Wf z m u)) (hL : ∀ h u : MM, Ln 51 ad (msh cs ad) (fun z => Wf h z u)) (hLu : ∀ h m : MM, Ln 1 adu (ush cs) (fun z => Wf h m z)) (hAd : ∀ a0_ b0_ a1_ b1_ a2_ b2_ : MM, (Wf a0_ a1_ a2_).map (fun q => q.1) = (Wf b0_ b1_ b2_).map (fun q => q.1)) (hm1 : ma 1 = ad 24) (h : MM) (m : MM) (u : MM) (x1 : Int32) {rr : Int32} {u' : MM} (hD : D_L_blockedBy x1 h m u = some (rr, u')) : CtL l yL_blockedBy cL_blockedBy 4 [(0, 8, 11, 25)] 8 124 D cs [.ref (adh 0), .int x1, .ref (adu 0)] (Wf h m u) (Wf h m u') (some (.int rr)) := by
  refine CtL.ofW (by decide) (Nat.le_of_ble_eq_true rfl) (hAd _ _ _ _ _ _) ?_
  intro p e s m0 below meth c A Q ls args hx hb hr hml hlocks hown hex hT hK hP hD1 hSS hS hA1 hl hret
  have Fx0 : Fl p m0 c cL_blockedBy 4 s args RL D cs A := ⟨hx, hb, hml, hown, hT, hK, hSS⟩
  have hown : s.vm.findClass RL = some m0.cls := hown
  have hl : lv_has ls 4 [(0, .ref (adh 0)), (1, .int x1), (2, .ref (adu 0))] := hl
  unfold D_L_blockedBy at hD
  refine lv_aload_n hx hb dL_blockedBy_0 rfl (lv_at hl 2 rfl) ?_
  refine lv_iconst (v := (0 : Int32)) hx hb dL_blockedBy_1 (by decide) ?_
  refine lv_aload_n hx hb dL_blockedBy_2 rfl (lv_at hl 0 rfl) ?_
  refine lv_iload_n hx hb dL_blockedBy_3 rfl (lv_at hl 1 rfl) ?_
  rcases wL_el hD with ⟨hz, hD⟩ | ⟨kx, hz, hD⟩ | ⟨r1, hz, hD⟩
  · obtain ⟨rfl, rfl⟩ := es2 hD
    refine lrX (Wf := fun z => Wf z m u) (mm := h) (As := [.int x1]) (rest := [.int (0 : Int32), .ref (adu 0)]) Fx0 (x_X9_blockedBy l hst (Wf := fun z0_ z1_ => Wf z0_ z1_ u) (fun z1_ => hLh z1_ u) (fun z0_ => hL z0_ u) (fun a0_ b0_ a1_ b1_ => hAd a0_ b0_ a1_ b1_ u u) hm1 h m x1 hz) hP (hD1 _ (hAd _ _ _ _ _ _)) hS (hA1 _ _ (hAd _ _ _ _ _ _) hS.1) (hLh m u) (Nat.le_of_ble_eq_true rfl) (hs0 _ _) rfl tw_6_57 tw_6_54 tw_6_55 tw_6_56 tw_1_1 yd_X9_blockedBy ⟨(Nat.le_of_ble_eq_true rfl), (Nat.le_of_ble_eq_true rfl)⟩ (by decide) rfl hl.1 rfl (Nat.le_of_ble_eq_true rfl) dL_blockedBy_4 [] (⟨0, 8, 11, 25⟩ : ExceptionTableEntry) [] hex (fun z hz => nomatch hz) rfl (by decide) tw_5_138 tw_5_148 (fun H locs q9 hP hS => ?_)
    refine lv_astore_n (lv' := [(3, .ref q9), (0, .ref (adh 0)), (1, .int x1), (2, .ref (adu 0))]) hx hb dL_blockedBy_11 rfl hl (by decide) rfl (fun ls hl => ?_)
    refine lv_iconst (v := (1 : Int32)) hx hb dL_blockedBy_12 (by decide) ?_
    exact hret _ _ _ hP hS (fun Qc hq => W.iret hx hb hr hq hS.2.2 dL_blockedBy_13 hlocks)
  · exact nn_el hD
  · have hD : some ((0 : Int32), sl u 0 0 r1) = some (rr, u') := hD
    obtain ⟨rfl, rfl⟩ := es2 hD
    refine lrV (Wf := fun z => Wf z m u) (mm := h) (As := [.int x1]) (rest := [.int (0 : Int32), .ref (adu 0)]) Fx0 (c_X9_blockedBy l (Wf := fun z0_ z1_ => Wf z0_ z1_ u) (fun z1_ => hLh z1_ u) (fun z0_ => hL z0_ u) (fun a0_ b0_ a1_ b1_ => hAd a0_ b0_ a1_ b1_ u u) hm1 h m x1 hz) hP (hD1 _ (hAd _ _ _ _ _ _)) hS (hA1 _ _ (hAd _ _ _ _ _ _) hS.1) (hLh m u) (Nat.le_of_ble_eq_true rfl) (hs0 _ _) rfl tw_6_57 tw_6_54 tw_6_55 tw_6_56 tw_1_1 yd_X9_blockedBy ⟨(Nat.le_of_ble_eq_true rfl), (Nat.le_of_ble_eq_true rfl)⟩ (by decide) rfl hl.1 rfl (Nat.le_of_ble_eq_true rfl) dL_blockedBy_4 (fun H locs hP hS => ?_)
    refine rlast (Wf := fun z => Wf h m z) (mm := u) hx hb hK hP (hD1 _ (hAd _ _ _ _ _ _)) hS (hLu h m) 0 (Nat.le_of_ble_eq_true rfl) (fun _ => us0 _ _) (by decide) (j := 0) (by decide) dL_blockedBy_7 (m2 := sl u 0 0 r1) rfl (fun H locs hP hS => ?_)
    refine lv_goto (tgt := 14) hx hb dL_blockedBy_8 (by decide) ?_
    refine lv_iconst (v := (0 : Int32)) hx hb dL_blockedBy_14 (by decide) ?_
    refine W.widen (k := 1) (n := 6) (by decide) (by decide) ?_
    exact hret _ _ _ hP hS (fun Qc hq => W.iret hx hb hr hq hS.2.2 dL_blockedBy_15 hlocks)

noncomputable def D_L_chain (x1 : Int32) (h : MM) (m : MM) (u : MM) : Option (Int32 × MM) := wL (D_X9_chain x1 h m) (some ((1 : Int32), u)) (none) (fun x => some ((0 : Int32), sl u 0 0 (x.toInt64)))
set_option maxHeartbeats 4000000 in
set_option maxRecDepth 100000 in
theorem c_L_chain (l : Launch) (hst : l.stackTraces = false) {D : va_G} {cs : Nat → ClassId} {adh ad adu ma : Nat → Nat} {Wf : MM → MM → MM → va_W} (hLh : ∀ m u : MM, Ln 8 adh (hsh cs adh ma) (fun z => Wf z m u)) (hL : ∀ h u : MM, Ln 51 ad (msh cs ad) (fun z => Wf h z u)) (hLu : ∀ h m : MM, Ln 1 adu (ush cs) (fun z => Wf h m z)) (hAd : ∀ a0_ b0_ a1_ b1_ a2_ b2_ : MM, (Wf a0_ a1_ a2_).map (fun q => q.1) = (Wf b0_ b1_ b2_).map (fun q => q.1)) (hm1 : ma 1 = ad 24) (h : MM) (m : MM) (u : MM) (x1 : Int32) {rr : Int32} {u' : MM} (hD : D_L_chain x1 h m u = some (rr, u')) : CtL l yL_chain cL_chain 4 [(0, 9, 12, 25)] 8 124 D cs [.ref (adh 0), .int x1, .ref (adu 0)] (Wf h m u) (Wf h m u') (some (.int rr)) := by
  refine CtL.ofW (by decide) (Nat.le_of_ble_eq_true rfl) (hAd _ _ _ _ _ _) ?_
  intro p e s m0 below meth c A Q ls args hx hb hr hml hlocks hown hex hT hK hP hD1 hSS hS hA1 hl hret
  have Fx0 : Fl p m0 c cL_chain 4 s args RL D cs A := ⟨hx, hb, hml, hown, hT, hK, hSS⟩
  have hown : s.vm.findClass RL = some m0.cls := hown
  have hl : lv_has ls 4 [(0, .ref (adh 0)), (1, .int x1), (2, .ref (adu 0))] := hl
  unfold D_L_chain at hD
  refine lv_aload_n hx hb dL_chain_0 rfl (lv_at hl 2 rfl) ?_
  refine lv_iconst (v := (0 : Int32)) hx hb dL_chain_1 (by decide) ?_
  refine lv_aload_n hx hb dL_chain_2 rfl (lv_at hl 0 rfl) ?_
  refine lv_iload_n hx hb dL_chain_3 rfl (lv_at hl 1 rfl) ?_
  rcases wL_el hD with ⟨hz, hD⟩ | ⟨kx, hz, hD⟩ | ⟨r1, hz, hD⟩
  · obtain ⟨rfl, rfl⟩ := es2 hD
    refine lrX (Wf := fun z => Wf z m u) (mm := h) (As := [.int x1]) (rest := [.int (0 : Int32), .ref (adu 0)]) Fx0 (x_X9_chain l hst (Wf := fun z0_ z1_ => Wf z0_ z1_ u) (fun z1_ => hLh z1_ u) (fun z0_ => hL z0_ u) (fun a0_ b0_ a1_ b1_ => hAd a0_ b0_ a1_ b1_ u u) hm1 h m x1 hz) hP (hD1 _ (hAd _ _ _ _ _ _)) hS (hA1 _ _ (hAd _ _ _ _ _ _) hS.1) (hLh m u) (Nat.le_of_ble_eq_true rfl) (hs0 _ _) rfl tw_6_65 tw_6_62 tw_6_63 tw_6_64 tw_1_1 yd_X9_chain ⟨(Nat.le_of_ble_eq_true rfl), (Nat.le_of_ble_eq_true rfl)⟩ (by decide) rfl hl.1 rfl (Nat.le_of_ble_eq_true rfl) dL_chain_4 [] (⟨0, 9, 12, 25⟩ : ExceptionTableEntry) [] hex (fun z hz => nomatch hz) rfl (by decide) tw_5_138 tw_5_148 (fun H locs q9 hP hS => ?_)
    refine lv_astore_n (lv' := [(3, .ref q9), (0, .ref (adh 0)), (1, .int x1), (2, .ref (adu 0))]) hx hb dL_chain_12 rfl hl (by decide) rfl (fun ls hl => ?_)
    refine lv_iconst (v := (1 : Int32)) hx hb dL_chain_13 (by decide) ?_
    exact hret _ _ _ hP hS (fun Qc hq => W.iret hx hb hr hq hS.2.2 dL_chain_14 hlocks)
  · exact nn_el hD
  · have hD : some ((0 : Int32), sl u 0 0 (r1.toInt64)) = some (rr, u') := hD
    obtain ⟨rfl, rfl⟩ := es2 hD
    refine lrV (Wf := fun z => Wf z m u) (mm := h) (As := [.int x1]) (rest := [.int (0 : Int32), .ref (adu 0)]) Fx0 (c_X9_chain l (Wf := fun z0_ z1_ => Wf z0_ z1_ u) (fun z1_ => hLh z1_ u) (fun z0_ => hL z0_ u) (fun a0_ b0_ a1_ b1_ => hAd a0_ b0_ a1_ b1_ u u) hm1 h m x1 hz) hP (hD1 _ (hAd _ _ _ _ _ _)) hS (hA1 _ _ (hAd _ _ _ _ _ _) hS.1) (hLh m u) (Nat.le_of_ble_eq_true rfl) (hs0 _ _) rfl tw_6_65 tw_6_62 tw_6_63 tw_6_64 tw_1_1 yd_X9_chain ⟨(Nat.le_of_ble_eq_true rfl), (Nat.le_of_ble_eq_true rfl)⟩ (by decide) rfl hl.1 rfl (Nat.le_of_ble_eq_true rfl) dL_chain_4 (fun H locs hP hS => ?_)
    refine lv_i2l (v := r1.toInt64) hx hb dL_chain_7 rfl ?_
    refine rlast (Wf := fun z => Wf h m z) (mm := u) hx hb hK hP (hD1 _ (hAd _ _ _ _ _ _)) hS (hLu h m) 0 (Nat.le_of_ble_eq_true rfl) (fun _ => us0 _ _) (by decide) (j := 0) (by decide) dL_chain_8 (m2 := sl u 0 0 (r1.toInt64)) rfl (fun H locs hP hS => ?_)
    refine lv_goto (tgt := 15) hx hb dL_chain_9 (by decide) ?_
    refine lv_iconst (v := (0 : Int32)) hx hb dL_chain_15 (by decide) ?_
    refine W.widen (k := 1) (n := 6) (by decide) (by decide) ?_
    exact hret _ _ _ hP hS (fun Qc hq => W.iret hx hb hr hq hS.2.2 dL_chain_16 hlocks)

noncomputable def D_L_changeNozzle (x1 : Int32) (x2 : Int32) (h : MM) (m : MM) (u : MM) : Option (Int32 × MM × MM) := wL (D_X9_changeNozzle x1 x2 h m) (some ((1 : Int32), m, u)) (none) (fun x => some ((0 : Int32), x.2, sl u 0 0 (x.1.toInt64)))
set_option maxHeartbeats 4000000 in
set_option maxRecDepth 100000 in
theorem c_L_changeNozzle (l : Launch) (hst : l.stackTraces = false) {D : va_G} {cs : Nat → ClassId} {adh ad adu ma : Nat → Nat} {Wf : MM → MM → MM → va_W} (hLh : ∀ m u : MM, Ln 8 adh (hsh cs adh ma) (fun z => Wf z m u)) (hL : ∀ h u : MM, Ln 51 ad (msh cs ad) (fun z => Wf h z u)) (hLu : ∀ h m : MM, Ln 1 adu (ush cs) (fun z => Wf h m z)) (hAd : ∀ a0_ b0_ a1_ b1_ a2_ b2_ : MM, (Wf a0_ a1_ a2_).map (fun q => q.1) = (Wf b0_ b1_ b2_).map (fun q => q.1)) (hm1 : ma 1 = ad 24) (h : MM) (m : MM) (u : MM) (x1 : Int32) (x2 : Int32) {rr : Int32} {m' : MM} {u' : MM} (hD : D_L_changeNozzle x1 x2 h m u = some (rr, m', u')) : CtL l yL_changeNozzle cL_changeNozzle 5 [(0, 10, 13, 25)] 8 158 D cs [.ref (adh 0), .int x1, .int x2, .ref (adu 0)] (Wf h m u) (Wf h m' u') (some (.int rr)) := by
  refine CtL.ofW (by decide) (Nat.le_of_ble_eq_true rfl) (hAd _ _ _ _ _ _) ?_
  intro p e s m0 below meth c A Q ls args hx hb hr hml hlocks hown hex hT hK hP hD1 hSS hS hA1 hl hret
  have Fx0 : Fl p m0 c cL_changeNozzle 5 s args RL D cs A := ⟨hx, hb, hml, hown, hT, hK, hSS⟩
  have hown : s.vm.findClass RL = some m0.cls := hown
  have hl : lv_has ls 5 [(0, .ref (adh 0)), (1, .int x1), (2, .int x2), (3, .ref (adu 0))] := hl
  unfold D_L_changeNozzle at hD
  refine lv_aload_n hx hb dL_changeNozzle_0 rfl (lv_at hl 3 rfl) ?_
  refine lv_iconst (v := (0 : Int32)) hx hb dL_changeNozzle_1 (by decide) ?_
  refine lv_aload_n hx hb dL_changeNozzle_2 rfl (lv_at hl 0 rfl) ?_
  refine lv_iload_n hx hb dL_changeNozzle_3 rfl (lv_at hl 1 rfl) ?_
  refine lv_iload_n hx hb dL_changeNozzle_4 rfl (lv_at hl 2 rfl) ?_
  rcases wL_el hD with ⟨hz, hD⟩ | ⟨kx, hz, hD⟩ | ⟨⟨r1, m1⟩, hz, hD⟩
  · obtain ⟨rfl, rfl, rfl⟩ := es3 hD
    refine lrX (Wf := fun z => Wf z m u) (mm := h) (As := [.int x1, .int x2]) (rest := [.int (0 : Int32), .ref (adu 0)]) Fx0 (x_X9_changeNozzle l hst (Wf := fun z0_ z1_ => Wf z0_ z1_ u) (fun z1_ => hLh z1_ u) (fun z0_ => hL z0_ u) (fun a0_ b0_ a1_ b1_ => hAd a0_ b0_ a1_ b1_ u u) hm1 h m x1 x2 hz) hP (hD1 _ (hAd _ _ _ _ _ _)) hS (hA1 _ _ (hAd _ _ _ _ _ _) hS.1) (hLh m u) (Nat.le_of_ble_eq_true rfl) (hs0 _ _) rfl tw_6_76 tw_6_73 tw_6_74 tw_6_75 tw_1_1 yd_X9_changeNozzle ⟨(Nat.le_of_ble_eq_true rfl), (Nat.le_of_ble_eq_true rfl)⟩ (by decide) rfl hl.1 rfl (Nat.le_of_ble_eq_true rfl) dL_changeNozzle_5 [] (⟨0, 10, 13, 25⟩ : ExceptionTableEntry) [] hex (fun z hz => nomatch hz) rfl (by decide) tw_5_138 tw_5_148 (fun H locs q9 hP hS => ?_)
    refine lv_astore (lv' := [(4, .ref q9), (0, .ref (adh 0)), (1, .int x1), (2, .int x2), (3, .ref (adu 0))]) hx hb dL_changeNozzle_13 hl (by decide) rfl (fun ls hl => ?_)
    refine lv_iconst (v := (1 : Int32)) hx hb dL_changeNozzle_15 (by decide) ?_
    exact hret _ _ _ hP hS (fun Qc hq => W.iret hx hb hr hq hS.2.2 dL_changeNozzle_16 hlocks)
  · exact nn_el hD
  · have hD : some ((0 : Int32), m1, sl u 0 0 (r1.toInt64)) = some (rr, m', u') := hD
    obtain ⟨rfl, rfl, rfl⟩ := es3 hD
    refine lrV (Wf := fun z => Wf z m u) (mm := h) (As := [.int x1, .int x2]) (rest := [.int (0 : Int32), .ref (adu 0)]) Fx0 (c_X9_changeNozzle l (Wf := fun z0_ z1_ => Wf z0_ z1_ u) (fun z1_ => hLh z1_ u) (fun z0_ => hL z0_ u) (fun a0_ b0_ a1_ b1_ => hAd a0_ b0_ a1_ b1_ u u) hm1 h m x1 x2 hz) hP (hD1 _ (hAd _ _ _ _ _ _)) hS (hA1 _ _ (hAd _ _ _ _ _ _) hS.1) (hLh m u) (Nat.le_of_ble_eq_true rfl) (hs0 _ _) rfl tw_6_76 tw_6_73 tw_6_74 tw_6_75 tw_1_1 yd_X9_changeNozzle ⟨(Nat.le_of_ble_eq_true rfl), (Nat.le_of_ble_eq_true rfl)⟩ (by decide) rfl hl.1 rfl (Nat.le_of_ble_eq_true rfl) dL_changeNozzle_5 (fun H locs hP hS => ?_)
    refine lv_i2l (v := r1.toInt64) hx hb dL_changeNozzle_8 rfl ?_
    refine rlast (Wf := fun z => Wf h m1 z) (mm := u) hx hb hK hP (hD1 _ (hAd _ _ _ _ _ _)) hS (hLu h m1) 0 (Nat.le_of_ble_eq_true rfl) (fun _ => us0 _ _) (by decide) (j := 0) (by decide) dL_changeNozzle_9 (m2 := sl u 0 0 (r1.toInt64)) rfl (fun H locs hP hS => ?_)
    refine lv_goto (tgt := 17) hx hb dL_changeNozzle_10 (by decide) ?_
    refine lv_iconst (v := (0 : Int32)) hx hb dL_changeNozzle_17 (by decide) ?_
    refine W.widen (k := 1) (n := 6) (by decide) (by decide) ?_
    exact hret _ _ _ hP hS (fun Qc hq => W.iret hx hb hr hq hS.2.2 dL_changeNozzle_18 hlocks)

noncomputable def D_L_pick (x1 : Int32) (x2 : Int32) (h : MM) (m : MM) (u : MM) : Option (Int32 × MM × MM) := wL (D_X9_pick x1 x2 h m) (some ((1 : Int32), m, u)) (none) (fun x => some ((0 : Int32), x.2, sl u 0 0 (x.1.toInt64)))
set_option maxHeartbeats 4000000 in
set_option maxRecDepth 100000 in
theorem c_L_pick (l : Launch) (hst : l.stackTraces = false) {D : va_G} {cs : Nat → ClassId} {adh ad adu ma : Nat → Nat} {Wf : MM → MM → MM → va_W} (hLh : ∀ m u : MM, Ln 8 adh (hsh cs adh ma) (fun z => Wf z m u)) (hL : ∀ h u : MM, Ln 51 ad (msh cs ad) (fun z => Wf h z u)) (hLu : ∀ h m : MM, Ln 1 adu (ush cs) (fun z => Wf h m z)) (hAd : ∀ a0_ b0_ a1_ b1_ a2_ b2_ : MM, (Wf a0_ a1_ a2_).map (fun q => q.1) = (Wf b0_ b1_ b2_).map (fun q => q.1)) (hm1 : ma 1 = ad 24) (h : MM) (m : MM) (u : MM) (x1 : Int32) (x2 : Int32) {rr : Int32} {m' : MM} {u' : MM} (hD : D_L_pick x1 x2 h m u = some (rr, m', u')) : CtL l yL_pick cL_pick 5 [(0, 10, 13, 25)] 8 159 D cs [.ref (adh 0), .int x1, .int x2, .ref (adu 0)] (Wf h m u) (Wf h m' u') (some (.int rr)) := by
  refine CtL.ofW (by decide) (Nat.le_of_ble_eq_true rfl) (hAd _ _ _ _ _ _) ?_
  intro p e s m0 below meth c A Q ls args hx hb hr hml hlocks hown hex hT hK hP hD1 hSS hS hA1 hl hret
  have Fx0 : Fl p m0 c cL_pick 5 s args RL D cs A := ⟨hx, hb, hml, hown, hT, hK, hSS⟩
  have hown : s.vm.findClass RL = some m0.cls := hown
  have hl : lv_has ls 5 [(0, .ref (adh 0)), (1, .int x1), (2, .int x2), (3, .ref (adu 0))] := hl
  unfold D_L_pick at hD
  refine lv_aload_n hx hb dL_pick_0 rfl (lv_at hl 3 rfl) ?_
  refine lv_iconst (v := (0 : Int32)) hx hb dL_pick_1 (by decide) ?_
  refine lv_aload_n hx hb dL_pick_2 rfl (lv_at hl 0 rfl) ?_
  refine lv_iload_n hx hb dL_pick_3 rfl (lv_at hl 1 rfl) ?_
  refine lv_iload_n hx hb dL_pick_4 rfl (lv_at hl 2 rfl) ?_
  rcases wL_el hD with ⟨hz, hD⟩ | ⟨kx, hz, hD⟩ | ⟨⟨r1, m1⟩, hz, hD⟩
  · obtain ⟨rfl, rfl, rfl⟩ := es3 hD
    refine lrX (Wf := fun z => Wf z m u) (mm := h) (As := [.int x1, .int x2]) (rest := [.int (0 : Int32), .ref (adu 0)]) Fx0 (x_X9_pick l hst (Wf := fun z0_ z1_ => Wf z0_ z1_ u) (fun z1_ => hLh z1_ u) (fun z0_ => hL z0_ u) (fun a0_ b0_ a1_ b1_ => hAd a0_ b0_ a1_ b1_ u u) hm1 h m x1 x2 hz) hP (hD1 _ (hAd _ _ _ _ _ _)) hS (hA1 _ _ (hAd _ _ _ _ _ _) hS.1) (hLh m u) (Nat.le_of_ble_eq_true rfl) (hs0 _ _) rfl tw_6_84 tw_6_81 tw_6_82 tw_6_83 tw_1_1 yd_X9_pick ⟨(Nat.le_of_ble_eq_true rfl), (Nat.le_of_ble_eq_true rfl)⟩ (by decide) rfl hl.1 rfl (Nat.le_of_ble_eq_true rfl) dL_pick_5 [] (⟨0, 10, 13, 25⟩ : ExceptionTableEntry) [] hex (fun z hz => nomatch hz) rfl (by decide) tw_5_138 tw_5_148 (fun H locs q9 hP hS => ?_)
    refine lv_astore (lv' := [(4, .ref q9), (0, .ref (adh 0)), (1, .int x1), (2, .int x2), (3, .ref (adu 0))]) hx hb dL_pick_13 hl (by decide) rfl (fun ls hl => ?_)
    refine lv_iconst (v := (1 : Int32)) hx hb dL_pick_15 (by decide) ?_
    exact hret _ _ _ hP hS (fun Qc hq => W.iret hx hb hr hq hS.2.2 dL_pick_16 hlocks)
  · exact nn_el hD
  · have hD : some ((0 : Int32), m1, sl u 0 0 (r1.toInt64)) = some (rr, m', u') := hD
    obtain ⟨rfl, rfl, rfl⟩ := es3 hD
    refine lrV (Wf := fun z => Wf z m u) (mm := h) (As := [.int x1, .int x2]) (rest := [.int (0 : Int32), .ref (adu 0)]) Fx0 (c_X9_pick l (Wf := fun z0_ z1_ => Wf z0_ z1_ u) (fun z1_ => hLh z1_ u) (fun z0_ => hL z0_ u) (fun a0_ b0_ a1_ b1_ => hAd a0_ b0_ a1_ b1_ u u) hm1 h m x1 x2 hz) hP (hD1 _ (hAd _ _ _ _ _ _)) hS (hA1 _ _ (hAd _ _ _ _ _ _) hS.1) (hLh m u) (Nat.le_of_ble_eq_true rfl) (hs0 _ _) rfl tw_6_84 tw_6_81 tw_6_82 tw_6_83 tw_1_1 yd_X9_pick ⟨(Nat.le_of_ble_eq_true rfl), (Nat.le_of_ble_eq_true rfl)⟩ (by decide) rfl hl.1 rfl (Nat.le_of_ble_eq_true rfl) dL_pick_5 (fun H locs hP hS => ?_)
    refine lv_i2l (v := r1.toInt64) hx hb dL_pick_8 rfl ?_
    refine rlast (Wf := fun z => Wf h m1 z) (mm := u) hx hb hK hP (hD1 _ (hAd _ _ _ _ _ _)) hS (hLu h m1) 0 (Nat.le_of_ble_eq_true rfl) (fun _ => us0 _ _) (by decide) (j := 0) (by decide) dL_pick_9 (m2 := sl u 0 0 (r1.toInt64)) rfl (fun H locs hP hS => ?_)
    refine lv_goto (tgt := 17) hx hb dL_pick_10 (by decide) ?_
    refine lv_iconst (v := (0 : Int32)) hx hb dL_pick_17 (by decide) ?_
    refine W.widen (k := 1) (n := 6) (by decide) (by decide) ?_
    exact hret _ _ _ hP hS (fun Qc hq => W.iret hx hb hr hq hS.2.2 dL_pick_18 hlocks)

noncomputable def D_L_look (x1 : Int32) (h : MM) (m : MM) (u : MM) : Option (Int32 × MM × MM) := wL (D_X9_look x1 h m) (some ((1 : Int32), m, u)) (none) (fun x => some ((0 : Int32), x.2, sl u 0 0 (x.1.toInt64)))
set_option maxHeartbeats 4000000 in
set_option maxRecDepth 100000 in
theorem c_L_look (l : Launch) (hst : l.stackTraces = false) {D : va_G} {cs : Nat → ClassId} {adh ad adu ma : Nat → Nat} {Wf : MM → MM → MM → va_W} (hLh : ∀ m u : MM, Ln 8 adh (hsh cs adh ma) (fun z => Wf z m u)) (hL : ∀ h u : MM, Ln 51 ad (msh cs ad) (fun z => Wf h z u)) (hLu : ∀ h m : MM, Ln 1 adu (ush cs) (fun z => Wf h m z)) (hAd : ∀ a0_ b0_ a1_ b1_ a2_ b2_ : MM, (Wf a0_ a1_ a2_).map (fun q => q.1) = (Wf b0_ b1_ b2_).map (fun q => q.1)) (hm1 : ma 1 = ad 24) (h : MM) (m : MM) (u : MM) (x1 : Int32) {rr : Int32} {m' : MM} {u' : MM} (hD : D_L_look x1 h m u = some (rr, m', u')) : CtL l yL_look cL_look 4 [(0, 9, 12, 25)] 8 157 D cs [.ref (adh 0), .int x1, .ref (adu 0)] (Wf h m u) (Wf h m' u') (some (.int rr)) := by
  refine CtL.ofW (by decide) (Nat.le_of_ble_eq_true rfl) (hAd _ _ _ _ _ _) ?_
  intro p e s m0 below meth c A Q ls args hx hb hr hml hlocks hown hex hT hK hP hD1 hSS hS hA1 hl hret
  have Fx0 : Fl p m0 c cL_look 4 s args RL D cs A := ⟨hx, hb, hml, hown, hT, hK, hSS⟩
  have hown : s.vm.findClass RL = some m0.cls := hown
  have hl : lv_has ls 4 [(0, .ref (adh 0)), (1, .int x1), (2, .ref (adu 0))] := hl
  unfold D_L_look at hD
  refine lv_aload_n hx hb dL_look_0 rfl (lv_at hl 2 rfl) ?_
  refine lv_iconst (v := (0 : Int32)) hx hb dL_look_1 (by decide) ?_
  refine lv_aload_n hx hb dL_look_2 rfl (lv_at hl 0 rfl) ?_
  refine lv_iload_n hx hb dL_look_3 rfl (lv_at hl 1 rfl) ?_
  rcases wL_el hD with ⟨hz, hD⟩ | ⟨kx, hz, hD⟩ | ⟨⟨r1, m1⟩, hz, hD⟩
  · obtain ⟨rfl, rfl, rfl⟩ := es3 hD
    refine lrX (Wf := fun z => Wf z m u) (mm := h) (As := [.int x1]) (rest := [.int (0 : Int32), .ref (adu 0)]) Fx0 (x_X9_look l hst (Wf := fun z0_ z1_ => Wf z0_ z1_ u) (fun z1_ => hLh z1_ u) (fun z0_ => hL z0_ u) (fun a0_ b0_ a1_ b1_ => hAd a0_ b0_ a1_ b1_ u u) hm1 h m x1 hz) hP (hD1 _ (hAd _ _ _ _ _ _)) hS (hA1 _ _ (hAd _ _ _ _ _ _) hS.1) (hLh m u) (Nat.le_of_ble_eq_true rfl) (hs0 _ _) rfl tw_6_91 tw_6_88 tw_6_89 tw_6_90 tw_1_1 yd_X9_look ⟨(Nat.le_of_ble_eq_true rfl), (Nat.le_of_ble_eq_true rfl)⟩ (by decide) rfl hl.1 rfl (Nat.le_of_ble_eq_true rfl) dL_look_4 [] (⟨0, 9, 12, 25⟩ : ExceptionTableEntry) [] hex (fun z hz => nomatch hz) rfl (by decide) tw_5_138 tw_5_148 (fun H locs q9 hP hS => ?_)
    refine lv_astore_n (lv' := [(3, .ref q9), (0, .ref (adh 0)), (1, .int x1), (2, .ref (adu 0))]) hx hb dL_look_12 rfl hl (by decide) rfl (fun ls hl => ?_)
    refine lv_iconst (v := (1 : Int32)) hx hb dL_look_13 (by decide) ?_
    exact hret _ _ _ hP hS (fun Qc hq => W.iret hx hb hr hq hS.2.2 dL_look_14 hlocks)
  · exact nn_el hD
  · have hD : some ((0 : Int32), m1, sl u 0 0 (r1.toInt64)) = some (rr, m', u') := hD
    obtain ⟨rfl, rfl, rfl⟩ := es3 hD
    refine lrV (Wf := fun z => Wf z m u) (mm := h) (As := [.int x1]) (rest := [.int (0 : Int32), .ref (adu 0)]) Fx0 (c_X9_look l (Wf := fun z0_ z1_ => Wf z0_ z1_ u) (fun z1_ => hLh z1_ u) (fun z0_ => hL z0_ u) (fun a0_ b0_ a1_ b1_ => hAd a0_ b0_ a1_ b1_ u u) hm1 h m x1 hz) hP (hD1 _ (hAd _ _ _ _ _ _)) hS (hA1 _ _ (hAd _ _ _ _ _ _) hS.1) (hLh m u) (Nat.le_of_ble_eq_true rfl) (hs0 _ _) rfl tw_6_91 tw_6_88 tw_6_89 tw_6_90 tw_1_1 yd_X9_look ⟨(Nat.le_of_ble_eq_true rfl), (Nat.le_of_ble_eq_true rfl)⟩ (by decide) rfl hl.1 rfl (Nat.le_of_ble_eq_true rfl) dL_look_4 (fun H locs hP hS => ?_)
    refine lv_i2l (v := r1.toInt64) hx hb dL_look_7 rfl ?_
    refine rlast (Wf := fun z => Wf h m1 z) (mm := u) hx hb hK hP (hD1 _ (hAd _ _ _ _ _ _)) hS (hLu h m1) 0 (Nat.le_of_ble_eq_true rfl) (fun _ => us0 _ _) (by decide) (j := 0) (by decide) dL_look_8 (m2 := sl u 0 0 (r1.toInt64)) rfl (fun H locs hP hS => ?_)
    refine lv_goto (tgt := 15) hx hb dL_look_9 (by decide) ?_
    refine lv_iconst (v := (0 : Int32)) hx hb dL_look_15 (by decide) ?_
    refine W.widen (k := 1) (n := 6) (by decide) (by decide) ?_
    exact hret _ _ _ hP hS (fun Qc hq => W.iret hx hb hr hq hS.2.2 dL_look_16 hlocks)

noncomputable def D_L_place (x1 : Int32) (x2 : Int32) (h : MM) (m : MM) (u : MM) : Option (Int32 × MM × MM) := wL (D_X9_place x1 x2 h m) (some ((1 : Int32), m, u)) (none) (fun x => some ((0 : Int32), x.2, sl u 0 0 (x.1.toInt64)))
set_option maxHeartbeats 4000000 in
set_option maxRecDepth 100000 in
theorem c_L_place (l : Launch) (hst : l.stackTraces = false) {D : va_G} {cs : Nat → ClassId} {adh ad adu ma : Nat → Nat} {Wf : MM → MM → MM → va_W} (hLh : ∀ m u : MM, Ln 8 adh (hsh cs adh ma) (fun z => Wf z m u)) (hL : ∀ h u : MM, Ln 51 ad (msh cs ad) (fun z => Wf h z u)) (hLu : ∀ h m : MM, Ln 1 adu (ush cs) (fun z => Wf h m z)) (hAd : ∀ a0_ b0_ a1_ b1_ a2_ b2_ : MM, (Wf a0_ a1_ a2_).map (fun q => q.1) = (Wf b0_ b1_ b2_).map (fun q => q.1)) (hm1 : ma 1 = ad 24) (h : MM) (m : MM) (u : MM) (x1 : Int32) (x2 : Int32) {rr : Int32} {m' : MM} {u' : MM} (hD : D_L_place x1 x2 h m u = some (rr, m', u')) : CtL l yL_place cL_place 5 [(0, 10, 13, 25)] 8 159 D cs [.ref (adh 0), .int x1, .int x2, .ref (adu 0)] (Wf h m u) (Wf h m' u') (some (.int rr)) := by
  refine CtL.ofW (by decide) (Nat.le_of_ble_eq_true rfl) (hAd _ _ _ _ _ _) ?_
  intro p e s m0 below meth c A Q ls args hx hb hr hml hlocks hown hex hT hK hP hD1 hSS hS hA1 hl hret
  have Fx0 : Fl p m0 c cL_place 5 s args RL D cs A := ⟨hx, hb, hml, hown, hT, hK, hSS⟩
  have hown : s.vm.findClass RL = some m0.cls := hown
  have hl : lv_has ls 5 [(0, .ref (adh 0)), (1, .int x1), (2, .int x2), (3, .ref (adu 0))] := hl
  unfold D_L_place at hD
  refine lv_aload_n hx hb dL_place_0 rfl (lv_at hl 3 rfl) ?_
  refine lv_iconst (v := (0 : Int32)) hx hb dL_place_1 (by decide) ?_
  refine lv_aload_n hx hb dL_place_2 rfl (lv_at hl 0 rfl) ?_
  refine lv_iload_n hx hb dL_place_3 rfl (lv_at hl 1 rfl) ?_
  refine lv_iload_n hx hb dL_place_4 rfl (lv_at hl 2 rfl) ?_
  rcases wL_el hD with ⟨hz, hD⟩ | ⟨kx, hz, hD⟩ | ⟨⟨r1, m1⟩, hz, hD⟩
  · obtain ⟨rfl, rfl, rfl⟩ := es3 hD
    refine lrX (Wf := fun z => Wf z m u) (mm := h) (As := [.int x1, .int x2]) (rest := [.int (0 : Int32), .ref (adu 0)]) Fx0 (x_X9_place l hst (Wf := fun z0_ z1_ => Wf z0_ z1_ u) (fun z1_ => hLh z1_ u) (fun z0_ => hL z0_ u) (fun a0_ b0_ a1_ b1_ => hAd a0_ b0_ a1_ b1_ u u) hm1 h m x1 x2 hz) hP (hD1 _ (hAd _ _ _ _ _ _)) hS (hA1 _ _ (hAd _ _ _ _ _ _) hS.1) (hLh m u) (Nat.le_of_ble_eq_true rfl) (hs0 _ _) rfl tw_6_98 tw_6_95 tw_6_96 tw_6_97 tw_1_1 yd_X9_place ⟨(Nat.le_of_ble_eq_true rfl), (Nat.le_of_ble_eq_true rfl)⟩ (by decide) rfl hl.1 rfl (Nat.le_of_ble_eq_true rfl) dL_place_5 [] (⟨0, 10, 13, 25⟩ : ExceptionTableEntry) [] hex (fun z hz => nomatch hz) rfl (by decide) tw_5_138 tw_5_148 (fun H locs q9 hP hS => ?_)
    refine lv_astore (lv' := [(4, .ref q9), (0, .ref (adh 0)), (1, .int x1), (2, .int x2), (3, .ref (adu 0))]) hx hb dL_place_13 hl (by decide) rfl (fun ls hl => ?_)
    refine lv_iconst (v := (1 : Int32)) hx hb dL_place_15 (by decide) ?_
    exact hret _ _ _ hP hS (fun Qc hq => W.iret hx hb hr hq hS.2.2 dL_place_16 hlocks)
  · exact nn_el hD
  · have hD : some ((0 : Int32), m1, sl u 0 0 (r1.toInt64)) = some (rr, m', u') := hD
    obtain ⟨rfl, rfl, rfl⟩ := es3 hD
    refine lrV (Wf := fun z => Wf z m u) (mm := h) (As := [.int x1, .int x2]) (rest := [.int (0 : Int32), .ref (adu 0)]) Fx0 (c_X9_place l (Wf := fun z0_ z1_ => Wf z0_ z1_ u) (fun z1_ => hLh z1_ u) (fun z0_ => hL z0_ u) (fun a0_ b0_ a1_ b1_ => hAd a0_ b0_ a1_ b1_ u u) hm1 h m x1 x2 hz) hP (hD1 _ (hAd _ _ _ _ _ _)) hS (hA1 _ _ (hAd _ _ _ _ _ _) hS.1) (hLh m u) (Nat.le_of_ble_eq_true rfl) (hs0 _ _) rfl tw_6_98 tw_6_95 tw_6_96 tw_6_97 tw_1_1 yd_X9_place ⟨(Nat.le_of_ble_eq_true rfl), (Nat.le_of_ble_eq_true rfl)⟩ (by decide) rfl hl.1 rfl (Nat.le_of_ble_eq_true rfl) dL_place_5 (fun H locs hP hS => ?_)
    refine lv_i2l (v := r1.toInt64) hx hb dL_place_8 rfl ?_
    refine rlast (Wf := fun z => Wf h m1 z) (mm := u) hx hb hK hP (hD1 _ (hAd _ _ _ _ _ _)) hS (hLu h m1) 0 (Nat.le_of_ble_eq_true rfl) (fun _ => us0 _ _) (by decide) (j := 0) (by decide) dL_place_9 (m2 := sl u 0 0 (r1.toInt64)) rfl (fun H locs hP hS => ?_)
    refine lv_goto (tgt := 17) hx hb dL_place_10 (by decide) ?_
    refine lv_iconst (v := (0 : Int32)) hx hb dL_place_17 (by decide) ?_
    refine W.widen (k := 1) (n := 6) (by decide) (by decide) ?_
    exact hret _ _ _ hP hS (fun Qc hq => W.iret hx hb hr hq hS.2.2 dL_place_18 hlocks)

noncomputable def D_L_discard (x1 : Int32) (h : MM) (m : MM) (u : MM) : Option (Int32 × MM × MM) := wL (D_X9_discard x1 h m) (some ((1 : Int32), m, u)) (none) (fun x => some ((0 : Int32), x.2, sl u 0 0 (x.1.toInt64)))
set_option maxHeartbeats 4000000 in
set_option maxRecDepth 100000 in
theorem c_L_discard (l : Launch) (hst : l.stackTraces = false) {D : va_G} {cs : Nat → ClassId} {adh ad adu ma : Nat → Nat} {Wf : MM → MM → MM → va_W} (hLh : ∀ m u : MM, Ln 8 adh (hsh cs adh ma) (fun z => Wf z m u)) (hL : ∀ h u : MM, Ln 51 ad (msh cs ad) (fun z => Wf h z u)) (hLu : ∀ h m : MM, Ln 1 adu (ush cs) (fun z => Wf h m z)) (hAd : ∀ a0_ b0_ a1_ b1_ a2_ b2_ : MM, (Wf a0_ a1_ a2_).map (fun q => q.1) = (Wf b0_ b1_ b2_).map (fun q => q.1)) (hm1 : ma 1 = ad 24) (h : MM) (m : MM) (u : MM) (x1 : Int32) {rr : Int32} {m' : MM} {u' : MM} (hD : D_L_discard x1 h m u = some (rr, m', u')) : CtL l yL_discard cL_discard 4 [(0, 9, 12, 25)] 8 156 D cs [.ref (adh 0), .int x1, .ref (adu 0)] (Wf h m u) (Wf h m' u') (some (.int rr)) := by
  refine CtL.ofW (by decide) (Nat.le_of_ble_eq_true rfl) (hAd _ _ _ _ _ _) ?_
  intro p e s m0 below meth c A Q ls args hx hb hr hml hlocks hown hex hT hK hP hD1 hSS hS hA1 hl hret
  have Fx0 : Fl p m0 c cL_discard 4 s args RL D cs A := ⟨hx, hb, hml, hown, hT, hK, hSS⟩
  have hown : s.vm.findClass RL = some m0.cls := hown
  have hl : lv_has ls 4 [(0, .ref (adh 0)), (1, .int x1), (2, .ref (adu 0))] := hl
  unfold D_L_discard at hD
  refine lv_aload_n hx hb dL_discard_0 rfl (lv_at hl 2 rfl) ?_
  refine lv_iconst (v := (0 : Int32)) hx hb dL_discard_1 (by decide) ?_
  refine lv_aload_n hx hb dL_discard_2 rfl (lv_at hl 0 rfl) ?_
  refine lv_iload_n hx hb dL_discard_3 rfl (lv_at hl 1 rfl) ?_
  rcases wL_el hD with ⟨hz, hD⟩ | ⟨kx, hz, hD⟩ | ⟨⟨r1, m1⟩, hz, hD⟩
  · obtain ⟨rfl, rfl, rfl⟩ := es3 hD
    refine lrX (Wf := fun z => Wf z m u) (mm := h) (As := [.int x1]) (rest := [.int (0 : Int32), .ref (adu 0)]) Fx0 (x_X9_discard l hst (Wf := fun z0_ z1_ => Wf z0_ z1_ u) (fun z1_ => hLh z1_ u) (fun z0_ => hL z0_ u) (fun a0_ b0_ a1_ b1_ => hAd a0_ b0_ a1_ b1_ u u) hm1 h m x1 hz) hP (hD1 _ (hAd _ _ _ _ _ _)) hS (hA1 _ _ (hAd _ _ _ _ _ _) hS.1) (hLh m u) (Nat.le_of_ble_eq_true rfl) (hs0 _ _) rfl tw_6_105 tw_6_102 tw_6_103 tw_6_104 tw_1_1 yd_X9_discard ⟨(Nat.le_of_ble_eq_true rfl), (Nat.le_of_ble_eq_true rfl)⟩ (by decide) rfl hl.1 rfl (Nat.le_of_ble_eq_true rfl) dL_discard_4 [] (⟨0, 9, 12, 25⟩ : ExceptionTableEntry) [] hex (fun z hz => nomatch hz) rfl (by decide) tw_5_138 tw_5_148 (fun H locs q9 hP hS => ?_)
    refine lv_astore_n (lv' := [(3, .ref q9), (0, .ref (adh 0)), (1, .int x1), (2, .ref (adu 0))]) hx hb dL_discard_12 rfl hl (by decide) rfl (fun ls hl => ?_)
    refine lv_iconst (v := (1 : Int32)) hx hb dL_discard_13 (by decide) ?_
    exact hret _ _ _ hP hS (fun Qc hq => W.iret hx hb hr hq hS.2.2 dL_discard_14 hlocks)
  · exact nn_el hD
  · have hD : some ((0 : Int32), m1, sl u 0 0 (r1.toInt64)) = some (rr, m', u') := hD
    obtain ⟨rfl, rfl, rfl⟩ := es3 hD
    refine lrV (Wf := fun z => Wf z m u) (mm := h) (As := [.int x1]) (rest := [.int (0 : Int32), .ref (adu 0)]) Fx0 (c_X9_discard l (Wf := fun z0_ z1_ => Wf z0_ z1_ u) (fun z1_ => hLh z1_ u) (fun z0_ => hL z0_ u) (fun a0_ b0_ a1_ b1_ => hAd a0_ b0_ a1_ b1_ u u) hm1 h m x1 hz) hP (hD1 _ (hAd _ _ _ _ _ _)) hS (hA1 _ _ (hAd _ _ _ _ _ _) hS.1) (hLh m u) (Nat.le_of_ble_eq_true rfl) (hs0 _ _) rfl tw_6_105 tw_6_102 tw_6_103 tw_6_104 tw_1_1 yd_X9_discard ⟨(Nat.le_of_ble_eq_true rfl), (Nat.le_of_ble_eq_true rfl)⟩ (by decide) rfl hl.1 rfl (Nat.le_of_ble_eq_true rfl) dL_discard_4 (fun H locs hP hS => ?_)
    refine lv_i2l (v := r1.toInt64) hx hb dL_discard_7 rfl ?_
    refine rlast (Wf := fun z => Wf h m1 z) (mm := u) hx hb hK hP (hD1 _ (hAd _ _ _ _ _ _)) hS (hLu h m1) 0 (Nat.le_of_ble_eq_true rfl) (fun _ => us0 _ _) (by decide) (j := 0) (by decide) dL_discard_8 (m2 := sl u 0 0 (r1.toInt64)) rfl (fun H locs hP hS => ?_)
    refine lv_goto (tgt := 15) hx hb dL_discard_9 (by decide) ?_
    refine lv_iconst (v := (0 : Int32)) hx hb dL_discard_15 (by decide) ?_
    refine W.widen (k := 1) (n := 6) (by decide) (by decide) ?_
    exact hret _ _ _ hP hS (fun Qc hq => W.iret hx hb hr hq hS.2.2 dL_discard_16 hlocks)

noncomputable def D_L_clean (x1 : Int32) (h : MM) (m : MM) (u : MM) : Option (Int32 × MM × MM) := wL (D_X9_clean x1 h m) (some ((1 : Int32), m, u)) (none) (fun x => some ((0 : Int32), x.2, sl u 0 0 (x.1.toInt64)))
set_option maxHeartbeats 4000000 in
set_option maxRecDepth 100000 in
theorem c_L_clean (l : Launch) (hst : l.stackTraces = false) {D : va_G} {cs : Nat → ClassId} {adh ad adu ma : Nat → Nat} {Wf : MM → MM → MM → va_W} (hLh : ∀ m u : MM, Ln 8 adh (hsh cs adh ma) (fun z => Wf z m u)) (hL : ∀ h u : MM, Ln 51 ad (msh cs ad) (fun z => Wf h z u)) (hLu : ∀ h m : MM, Ln 1 adu (ush cs) (fun z => Wf h m z)) (hAd : ∀ a0_ b0_ a1_ b1_ a2_ b2_ : MM, (Wf a0_ a1_ a2_).map (fun q => q.1) = (Wf b0_ b1_ b2_).map (fun q => q.1)) (hm1 : ma 1 = ad 24) (h : MM) (m : MM) (u : MM) (x1 : Int32) {rr : Int32} {m' : MM} {u' : MM} (hD : D_L_clean x1 h m u = some (rr, m', u')) : CtL l yL_clean cL_clean 4 [(0, 9, 12, 25)] 8 157 D cs [.ref (adh 0), .int x1, .ref (adu 0)] (Wf h m u) (Wf h m' u') (some (.int rr)) := by
  refine CtL.ofW (by decide) (Nat.le_of_ble_eq_true rfl) (hAd _ _ _ _ _ _) ?_
  intro p e s m0 below meth c A Q ls args hx hb hr hml hlocks hown hex hT hK hP hD1 hSS hS hA1 hl hret
  have Fx0 : Fl p m0 c cL_clean 4 s args RL D cs A := ⟨hx, hb, hml, hown, hT, hK, hSS⟩
  have hown : s.vm.findClass RL = some m0.cls := hown
  have hl : lv_has ls 4 [(0, .ref (adh 0)), (1, .int x1), (2, .ref (adu 0))] := hl
  unfold D_L_clean at hD
  refine lv_aload_n hx hb dL_clean_0 rfl (lv_at hl 2 rfl) ?_
  refine lv_iconst (v := (0 : Int32)) hx hb dL_clean_1 (by decide) ?_
  refine lv_aload_n hx hb dL_clean_2 rfl (lv_at hl 0 rfl) ?_
  refine lv_iload_n hx hb dL_clean_3 rfl (lv_at hl 1 rfl) ?_
  rcases wL_el hD with ⟨hz, hD⟩ | ⟨kx, hz, hD⟩ | ⟨⟨r1, m1⟩, hz, hD⟩
  · obtain ⟨rfl, rfl, rfl⟩ := es3 hD
    refine lrX (Wf := fun z => Wf z m u) (mm := h) (As := [.int x1]) (rest := [.int (0 : Int32), .ref (adu 0)]) Fx0 (x_X9_clean l hst (Wf := fun z0_ z1_ => Wf z0_ z1_ u) (fun z1_ => hLh z1_ u) (fun z0_ => hL z0_ u) (fun a0_ b0_ a1_ b1_ => hAd a0_ b0_ a1_ b1_ u u) hm1 h m x1 hz) hP (hD1 _ (hAd _ _ _ _ _ _)) hS (hA1 _ _ (hAd _ _ _ _ _ _) hS.1) (hLh m u) (Nat.le_of_ble_eq_true rfl) (hs0 _ _) rfl tw_6_112 tw_6_109 tw_6_110 tw_6_111 tw_1_1 yd_X9_clean ⟨(Nat.le_of_ble_eq_true rfl), (Nat.le_of_ble_eq_true rfl)⟩ (by decide) rfl hl.1 rfl (Nat.le_of_ble_eq_true rfl) dL_clean_4 [] (⟨0, 9, 12, 25⟩ : ExceptionTableEntry) [] hex (fun z hz => nomatch hz) rfl (by decide) tw_5_138 tw_5_148 (fun H locs q9 hP hS => ?_)
    refine lv_astore_n (lv' := [(3, .ref q9), (0, .ref (adh 0)), (1, .int x1), (2, .ref (adu 0))]) hx hb dL_clean_12 rfl hl (by decide) rfl (fun ls hl => ?_)
    refine lv_iconst (v := (1 : Int32)) hx hb dL_clean_13 (by decide) ?_
    exact hret _ _ _ hP hS (fun Qc hq => W.iret hx hb hr hq hS.2.2 dL_clean_14 hlocks)
  · exact nn_el hD
  · have hD : some ((0 : Int32), m1, sl u 0 0 (r1.toInt64)) = some (rr, m', u') := hD
    obtain ⟨rfl, rfl, rfl⟩ := es3 hD
    refine lrV (Wf := fun z => Wf z m u) (mm := h) (As := [.int x1]) (rest := [.int (0 : Int32), .ref (adu 0)]) Fx0 (c_X9_clean l (Wf := fun z0_ z1_ => Wf z0_ z1_ u) (fun z1_ => hLh z1_ u) (fun z0_ => hL z0_ u) (fun a0_ b0_ a1_ b1_ => hAd a0_ b0_ a1_ b1_ u u) hm1 h m x1 hz) hP (hD1 _ (hAd _ _ _ _ _ _)) hS (hA1 _ _ (hAd _ _ _ _ _ _) hS.1) (hLh m u) (Nat.le_of_ble_eq_true rfl) (hs0 _ _) rfl tw_6_112 tw_6_109 tw_6_110 tw_6_111 tw_1_1 yd_X9_clean ⟨(Nat.le_of_ble_eq_true rfl), (Nat.le_of_ble_eq_true rfl)⟩ (by decide) rfl hl.1 rfl (Nat.le_of_ble_eq_true rfl) dL_clean_4 (fun H locs hP hS => ?_)
    refine lv_i2l (v := r1.toInt64) hx hb dL_clean_7 rfl ?_
    refine rlast (Wf := fun z => Wf h m1 z) (mm := u) hx hb hK hP (hD1 _ (hAd _ _ _ _ _ _)) hS (hLu h m1) 0 (Nat.le_of_ble_eq_true rfl) (fun _ => us0 _ _) (by decide) (j := 0) (by decide) dL_clean_8 (m2 := sl u 0 0 (r1.toInt64)) rfl (fun H locs hP hS => ?_)
    refine lv_goto (tgt := 15) hx hb dL_clean_9 (by decide) ?_
    refine lv_iconst (v := (0 : Int32)) hx hb dL_clean_15 (by decide) ?_
    refine W.widen (k := 1) (n := 6) (by decide) (by decide) ?_
    exact hret _ _ _ hP hS (fun Qc hq => W.iret hx hb hr hq hS.2.2 dL_clean_16 hlocks)

noncomputable def D_L_run (x1 : Int32) (h : MM) (m : MM) (u : MM) : Option (Int32 × MM × MM × MM) := wL (D_X9_run x1 h m) (none) (some ((1 : Int32), h, m, u)) (fun x => some ((0 : Int32), x.2.1, x.2.2, sl u 0 0 (x.1.toInt64)))
set_option maxHeartbeats 4000000 in
set_option maxRecDepth 100000 in
theorem c_L_run (l : Launch) (hst : l.stackTraces = false) {D : va_G} {cs : Nat → ClassId} {adh ad adu ma : Nat → Nat} {Wf : MM → MM → MM → va_W} (hLh : ∀ m u : MM, Ln 8 adh (hsh cs adh ma) (fun z => Wf z m u)) (hL : ∀ h u : MM, Ln 51 ad (msh cs ad) (fun z => Wf h z u)) (hLu : ∀ h m : MM, Ln 1 adu (ush cs) (fun z => Wf h m z)) (hAd : ∀ a0_ b0_ a1_ b1_ a2_ b2_ : MM, (Wf a0_ a1_ a2_).map (fun q => q.1) = (Wf b0_ b1_ b2_).map (fun q => q.1)) (hm1 : ma 1 = ad 24) (h : MM) (m : MM) (u : MM) (x1 : Int32) {rr : Int32} {h' : MM} {m' : MM} {u' : MM} (hD : D_L_run x1 h m u = some (rr, h', m', u')) : CtL l yL_run cL_run 4 [(0, 9, 12, 13)] 8 177 D cs [.ref (adh 0), .int x1, .ref (adu 0)] (Wf h m u) (Wf h' m' u') (some (.int rr)) := by
  refine CtL.ofW (by decide) (Nat.le_of_ble_eq_true rfl) (hAd _ _ _ _ _ _) ?_
  intro p e s m0 below meth c A Q ls args hx hb hr hml hlocks hown hex hT hK hP hD1 hSS hS hA1 hl hret
  have Fx0 : Fl p m0 c cL_run 4 s args RL D cs A := ⟨hx, hb, hml, hown, hT, hK, hSS⟩
  have hown : s.vm.findClass RL = some m0.cls := hown
  have hl : lv_has ls 4 [(0, .ref (adh 0)), (1, .int x1), (2, .ref (adu 0))] := hl
  unfold D_L_run at hD
  refine lv_aload_n hx hb dL_run_0 rfl (lv_at hl 2 rfl) ?_
  refine lv_iconst (v := (0 : Int32)) hx hb dL_run_1 (by decide) ?_
  refine lv_aload_n hx hb dL_run_2 rfl (lv_at hl 0 rfl) ?_
  refine lv_iload_n hx hb dL_run_3 rfl (lv_at hl 1 rfl) ?_
  rcases wL_el hD with ⟨hz, hD⟩ | ⟨kx, hz, hD⟩ | ⟨⟨r1, h1, m1⟩, hz, hD⟩
  · exact nn_el hD
  · obtain ⟨rfl, rfl, rfl, rfl⟩ := es4 hD
    refine lrX (Wf := fun z => Wf z m u) (mm := h) (As := [.int x1]) (rest := [.int (0 : Int32), .ref (adu 0)]) Fx0 (x_X9_run l hst (Wf := fun z0_ z1_ => Wf z0_ z1_ u) (fun z1_ => hLh z1_ u) (fun z0_ => hL z0_ u) (fun a0_ b0_ a1_ b1_ => hAd a0_ b0_ a1_ b1_ u u) hm1 h m x1 hz) hP (hD1 _ (hAd _ _ _ _ _ _)) hS (hA1 _ _ (hAd _ _ _ _ _ _) hS.1) (hLh m u) (Nat.le_of_ble_eq_true rfl) (hs0 _ _) rfl tw_6_119 tw_6_116 tw_6_117 tw_6_118 tw_1_1 yd_X9_run ⟨(Nat.le_of_ble_eq_true rfl), (Nat.le_of_ble_eq_true rfl)⟩ (by decide) rfl hl.1 rfl (Nat.le_of_ble_eq_true rfl) dL_run_4 [] (⟨0, 9, 12, 13⟩ : ExceptionTableEntry) [] hex (fun z hz => nomatch hz) rfl (by decide) tw_5_45 tw_5_52 (fun H locs q9 hP hS => ?_)
    refine lv_astore_n (lv' := [(3, .ref q9), (0, .ref (adh 0)), (1, .int x1), (2, .ref (adu 0))]) hx hb dL_run_12 rfl hl (by decide) rfl (fun ls hl => ?_)
    refine lv_iconst (v := (1 : Int32)) hx hb dL_run_13 (by decide) ?_
    exact hret _ _ _ hP hS (fun Qc hq => W.iret hx hb hr hq hS.2.2 dL_run_14 hlocks)
  · have hD : some ((0 : Int32), h1, m1, sl u 0 0 (r1.toInt64)) = some (rr, h', m', u') := hD
    obtain ⟨rfl, rfl, rfl, rfl⟩ := es4 hD
    refine lrV (Wf := fun z => Wf z m u) (mm := h) (As := [.int x1]) (rest := [.int (0 : Int32), .ref (adu 0)]) Fx0 (c_X9_run l (Wf := fun z0_ z1_ => Wf z0_ z1_ u) (fun z1_ => hLh z1_ u) (fun z0_ => hL z0_ u) (fun a0_ b0_ a1_ b1_ => hAd a0_ b0_ a1_ b1_ u u) hm1 h m x1 hz) hP (hD1 _ (hAd _ _ _ _ _ _)) hS (hA1 _ _ (hAd _ _ _ _ _ _) hS.1) (hLh m u) (Nat.le_of_ble_eq_true rfl) (hs0 _ _) rfl tw_6_119 tw_6_116 tw_6_117 tw_6_118 tw_1_1 yd_X9_run ⟨(Nat.le_of_ble_eq_true rfl), (Nat.le_of_ble_eq_true rfl)⟩ (by decide) rfl hl.1 rfl (Nat.le_of_ble_eq_true rfl) dL_run_4 (fun H locs hP hS => ?_)
    refine lv_i2l (v := r1.toInt64) hx hb dL_run_7 rfl ?_
    refine rlast (Wf := fun z => Wf h1 m1 z) (mm := u) hx hb hK hP (hD1 _ (hAd _ _ _ _ _ _)) hS (hLu h1 m1) 0 (Nat.le_of_ble_eq_true rfl) (fun _ => us0 _ _) (by decide) (j := 0) (by decide) dL_run_8 (m2 := sl u 0 0 (r1.toInt64)) rfl (fun H locs hP hS => ?_)
    refine lv_goto (tgt := 15) hx hb dL_run_9 (by decide) ?_
    refine lv_iconst (v := (0 : Int32)) hx hb dL_run_15 (by decide) ?_
    refine W.widen (k := 1) (n := 6) (by decide) (by decide) ?_
    exact hret _ _ _ hP hS (fun Qc hq => W.iret hx hb hr hq hS.2.2 dL_run_16 hlocks)

noncomputable def D_L_ledger (x1 : Int32) (x2 : Int32) (h : MM) (m : MM) (u : MM) : Option (Int32 × MM) := wL (D_X9_ledger x1 x2 h m) (some ((1 : Int32), u)) (some ((2 : Int32), u)) (fun x => some ((0 : Int32), sl u 0 0 (x.toInt64)))
set_option maxHeartbeats 4000000 in
set_option maxRecDepth 100000 in
theorem c_L_ledger (l : Launch) (hst : l.stackTraces = false) {D : va_G} {cs : Nat → ClassId} {adh ad adu ma : Nat → Nat} {Wf : MM → MM → MM → va_W} (hLh : ∀ m u : MM, Ln 8 adh (hsh cs adh ma) (fun z => Wf z m u)) (hL : ∀ h u : MM, Ln 51 ad (msh cs ad) (fun z => Wf h z u)) (hLu : ∀ h m : MM, Ln 1 adu (ush cs) (fun z => Wf h m z)) (hAd : ∀ a0_ b0_ a1_ b1_ a2_ b2_ : MM, (Wf a0_ a1_ a2_).map (fun q => q.1) = (Wf b0_ b1_ b2_).map (fun q => q.1)) (hm1 : ma 1 = ad 24) (h : MM) (m : MM) (u : MM) (x1 : Int32) (x2 : Int32) {rr : Int32} {u' : MM} (hD : D_L_ledger x1 x2 h m u = some (rr, u')) : CtL l yL_ledger cL_ledger 5 [(0, 10, 13, 25), (0, 10, 17, 13)] 8 126 D cs [.ref (adh 0), .int x1, .int x2, .ref (adu 0)] (Wf h m u) (Wf h m u') (some (.int rr)) := by
  refine CtL.ofW (by decide) (Nat.le_of_ble_eq_true rfl) (hAd _ _ _ _ _ _) ?_
  intro p e s m0 below meth c A Q ls args hx hb hr hml hlocks hown hex hT hK hP hD1 hSS hS hA1 hl hret
  have Fx0 : Fl p m0 c cL_ledger 5 s args RL D cs A := ⟨hx, hb, hml, hown, hT, hK, hSS⟩
  have hown : s.vm.findClass RL = some m0.cls := hown
  have hl : lv_has ls 5 [(0, .ref (adh 0)), (1, .int x1), (2, .int x2), (3, .ref (adu 0))] := hl
  unfold D_L_ledger at hD
  refine lv_aload_n hx hb dL_ledger_0 rfl (lv_at hl 3 rfl) ?_
  refine lv_iconst (v := (0 : Int32)) hx hb dL_ledger_1 (by decide) ?_
  refine lv_aload_n hx hb dL_ledger_2 rfl (lv_at hl 0 rfl) ?_
  refine lv_iload_n hx hb dL_ledger_3 rfl (lv_at hl 1 rfl) ?_
  refine lv_iload_n hx hb dL_ledger_4 rfl (lv_at hl 2 rfl) ?_
  rcases wL_el hD with ⟨hz, hD⟩ | ⟨kx, hz, hD⟩ | ⟨r1, hz, hD⟩
  · obtain ⟨rfl, rfl⟩ := es2 hD
    refine lrX (Wf := fun z => Wf z m u) (mm := h) (As := [.int x1, .int x2]) (rest := [.int (0 : Int32), .ref (adu 0)]) Fx0 (x_X9_ledger l hst (Wf := fun z0_ z1_ => Wf z0_ z1_ u) (fun z1_ => hLh z1_ u) (fun z0_ => hL z0_ u) (fun a0_ b0_ a1_ b1_ => hAd a0_ b0_ a1_ b1_ u u) hm1 h m x1 x2 hz) hP (hD1 _ (hAd _ _ _ _ _ _)) hS (hA1 _ _ (hAd _ _ _ _ _ _) hS.1) (hLh m u) (Nat.le_of_ble_eq_true rfl) (hs0 _ _) rfl tw_6_126 tw_6_123 tw_6_124 tw_6_125 tw_1_1 yd_X9_ledger ⟨(Nat.le_of_ble_eq_true rfl), (Nat.le_of_ble_eq_true rfl)⟩ (by decide) rfl hl.1 rfl (Nat.le_of_ble_eq_true rfl) dL_ledger_5 [] (⟨0, 10, 13, 25⟩ : ExceptionTableEntry) [(⟨0, 10, 17, 13⟩ : ExceptionTableEntry)] hex (fun z hz => nomatch hz) rfl (by decide) tw_5_138 tw_5_148 (fun H locs q9 hP hS => ?_)
    refine lv_astore (lv' := [(4, .ref q9), (0, .ref (adh 0)), (1, .int x1), (2, .int x2), (3, .ref (adu 0))]) hx hb dL_ledger_13 hl (by decide) rfl (fun ls hl => ?_)
    refine lv_iconst (v := (1 : Int32)) hx hb dL_ledger_15 (by decide) ?_
    exact hret _ _ _ hP hS (fun Qc hq => W.iret hx hb hr hq hS.2.2 dL_ledger_16 hlocks)
  · obtain ⟨rfl, rfl⟩ := es2 hD
    refine lrX (Wf := fun z => Wf z m u) (mm := h) (As := [.int x1, .int x2]) (rest := [.int (0 : Int32), .ref (adu 0)]) Fx0 (x_X9_ledger l hst (Wf := fun z0_ z1_ => Wf z0_ z1_ u) (fun z1_ => hLh z1_ u) (fun z0_ => hL z0_ u) (fun a0_ b0_ a1_ b1_ => hAd a0_ b0_ a1_ b1_ u u) hm1 h m x1 x2 hz) hP (hD1 _ (hAd _ _ _ _ _ _)) hS (hA1 _ _ (hAd _ _ _ _ _ _) hS.1) (hLh m u) (Nat.le_of_ble_eq_true rfl) (hs0 _ _) rfl tw_6_126 tw_6_123 tw_6_124 tw_6_125 tw_1_1 yd_X9_ledger ⟨(Nat.le_of_ble_eq_true rfl), (Nat.le_of_ble_eq_true rfl)⟩ (by decide) rfl hl.1 rfl (Nat.le_of_ble_eq_true rfl) dL_ledger_5 [(⟨0, 10, 13, 25⟩ : ExceptionTableEntry)] (⟨0, 10, 17, 13⟩ : ExceptionTableEntry) [] hex (fun z hz => by rcases List.mem_singleton.mp hz with rfl; exact Or.inr ⟨by decide, "java/lang/IndexOutOfBoundsException", Fx0.T tw_5_138, hK.2.2.2⟩) rfl (by decide) tw_5_45 tw_5_52 (fun H locs q9 hP hS => ?_)
    refine lv_astore (lv' := [(4, .ref q9), (0, .ref (adh 0)), (1, .int x1), (2, .int x2), (3, .ref (adu 0))]) hx hb dL_ledger_17 hl (by decide) rfl (fun ls hl => ?_)
    refine lv_iconst (v := (2 : Int32)) hx hb dL_ledger_19 (by decide) ?_
    exact hret _ _ _ hP hS (fun Qc hq => W.iret hx hb hr hq hS.2.2 dL_ledger_20 hlocks)
  · have hD : some ((0 : Int32), sl u 0 0 (r1.toInt64)) = some (rr, u') := hD
    obtain ⟨rfl, rfl⟩ := es2 hD
    refine lrV (Wf := fun z => Wf z m u) (mm := h) (As := [.int x1, .int x2]) (rest := [.int (0 : Int32), .ref (adu 0)]) Fx0 (c_X9_ledger l (Wf := fun z0_ z1_ => Wf z0_ z1_ u) (fun z1_ => hLh z1_ u) (fun z0_ => hL z0_ u) (fun a0_ b0_ a1_ b1_ => hAd a0_ b0_ a1_ b1_ u u) hm1 h m x1 x2 hz) hP (hD1 _ (hAd _ _ _ _ _ _)) hS (hA1 _ _ (hAd _ _ _ _ _ _) hS.1) (hLh m u) (Nat.le_of_ble_eq_true rfl) (hs0 _ _) rfl tw_6_126 tw_6_123 tw_6_124 tw_6_125 tw_1_1 yd_X9_ledger ⟨(Nat.le_of_ble_eq_true rfl), (Nat.le_of_ble_eq_true rfl)⟩ (by decide) rfl hl.1 rfl (Nat.le_of_ble_eq_true rfl) dL_ledger_5 (fun H locs hP hS => ?_)
    refine lv_i2l (v := r1.toInt64) hx hb dL_ledger_8 rfl ?_
    refine rlast (Wf := fun z => Wf h m z) (mm := u) hx hb hK hP (hD1 _ (hAd _ _ _ _ _ _)) hS (hLu h m) 0 (Nat.le_of_ble_eq_true rfl) (fun _ => us0 _ _) (by decide) (j := 0) (by decide) dL_ledger_9 (m2 := sl u 0 0 (r1.toInt64)) rfl (fun H locs hP hS => ?_)
    refine lv_goto (tgt := 21) hx hb dL_ledger_10 (by decide) ?_
    refine lv_iconst (v := (0 : Int32)) hx hb dL_ledger_21 (by decide) ?_
    refine W.widen (k := 1) (n := 6) (by decide) (by decide) ?_
    exact hret _ _ _ hP hS (fun Qc hq => W.iret hx hb hr hq hS.2.2 dL_ledger_22 hlocks)

noncomputable def D_L_head (x1 : Int32) (h : MM) (m : MM) (u : MM) : Option (Int32 × MM) := wL (D_X9_head x1 h m) (none) (some ((1 : Int32), u)) (fun x => some ((0 : Int32), sl u 0 0 (x.toInt64)))
set_option maxHeartbeats 4000000 in
set_option maxRecDepth 100000 in
theorem c_L_head (l : Launch) (hst : l.stackTraces = false) {D : va_G} {cs : Nat → ClassId} {adh ad adu ma : Nat → Nat} {Wf : MM → MM → MM → va_W} (hLh : ∀ m u : MM, Ln 8 adh (hsh cs adh ma) (fun z => Wf z m u)) (hL : ∀ h u : MM, Ln 51 ad (msh cs ad) (fun z => Wf h z u)) (hLu : ∀ h m : MM, Ln 1 adu (ush cs) (fun z => Wf h m z)) (hAd : ∀ a0_ b0_ a1_ b1_ a2_ b2_ : MM, (Wf a0_ a1_ a2_).map (fun q => q.1) = (Wf b0_ b1_ b2_).map (fun q => q.1)) (hm1 : ma 1 = ad 24) (h : MM) (m : MM) (u : MM) (x1 : Int32) {rr : Int32} {u' : MM} (hD : D_L_head x1 h m u = some (rr, u')) : CtL l yL_head cL_head 4 [(0, 9, 12, 13)] 8 125 D cs [.ref (adh 0), .int x1, .ref (adu 0)] (Wf h m u) (Wf h m u') (some (.int rr)) := by
  refine CtL.ofW (by decide) (Nat.le_of_ble_eq_true rfl) (hAd _ _ _ _ _ _) ?_
  intro p e s m0 below meth c A Q ls args hx hb hr hml hlocks hown hex hT hK hP hD1 hSS hS hA1 hl hret
  have Fx0 : Fl p m0 c cL_head 4 s args RL D cs A := ⟨hx, hb, hml, hown, hT, hK, hSS⟩
  have hown : s.vm.findClass RL = some m0.cls := hown
  have hl : lv_has ls 4 [(0, .ref (adh 0)), (1, .int x1), (2, .ref (adu 0))] := hl
  unfold D_L_head at hD
  refine lv_aload_n hx hb dL_head_0 rfl (lv_at hl 2 rfl) ?_
  refine lv_iconst (v := (0 : Int32)) hx hb dL_head_1 (by decide) ?_
  refine lv_aload_n hx hb dL_head_2 rfl (lv_at hl 0 rfl) ?_
  refine lv_iload_n hx hb dL_head_3 rfl (lv_at hl 1 rfl) ?_
  rcases wL_el hD with ⟨hz, hD⟩ | ⟨kx, hz, hD⟩ | ⟨r1, hz, hD⟩
  · exact nn_el hD
  · obtain ⟨rfl, rfl⟩ := es2 hD
    refine lrX (Wf := fun z => Wf z m u) (mm := h) (As := [.int x1]) (rest := [.int (0 : Int32), .ref (adu 0)]) Fx0 (x_X9_head l hst (Wf := fun z0_ z1_ => Wf z0_ z1_ u) (fun z1_ => hLh z1_ u) (fun z0_ => hL z0_ u) (fun a0_ b0_ a1_ b1_ => hAd a0_ b0_ a1_ b1_ u u) hm1 h m x1 hz) hP (hD1 _ (hAd _ _ _ _ _ _)) hS (hA1 _ _ (hAd _ _ _ _ _ _) hS.1) (hLh m u) (Nat.le_of_ble_eq_true rfl) (hs0 _ _) rfl tw_6_133 tw_6_130 tw_6_131 tw_6_132 tw_1_1 yd_X9_head ⟨(Nat.le_of_ble_eq_true rfl), (Nat.le_of_ble_eq_true rfl)⟩ (by decide) rfl hl.1 rfl (Nat.le_of_ble_eq_true rfl) dL_head_4 [] (⟨0, 9, 12, 13⟩ : ExceptionTableEntry) [] hex (fun z hz => nomatch hz) rfl (by decide) tw_5_45 tw_5_52 (fun H locs q9 hP hS => ?_)
    refine lv_astore_n (lv' := [(3, .ref q9), (0, .ref (adh 0)), (1, .int x1), (2, .ref (adu 0))]) hx hb dL_head_12 rfl hl (by decide) rfl (fun ls hl => ?_)
    refine lv_iconst (v := (1 : Int32)) hx hb dL_head_13 (by decide) ?_
    exact hret _ _ _ hP hS (fun Qc hq => W.iret hx hb hr hq hS.2.2 dL_head_14 hlocks)
  · have hD : some ((0 : Int32), sl u 0 0 (r1.toInt64)) = some (rr, u') := hD
    obtain ⟨rfl, rfl⟩ := es2 hD
    refine lrV (Wf := fun z => Wf z m u) (mm := h) (As := [.int x1]) (rest := [.int (0 : Int32), .ref (adu 0)]) Fx0 (c_X9_head l (Wf := fun z0_ z1_ => Wf z0_ z1_ u) (fun z1_ => hLh z1_ u) (fun z0_ => hL z0_ u) (fun a0_ b0_ a1_ b1_ => hAd a0_ b0_ a1_ b1_ u u) hm1 h m x1 hz) hP (hD1 _ (hAd _ _ _ _ _ _)) hS (hA1 _ _ (hAd _ _ _ _ _ _) hS.1) (hLh m u) (Nat.le_of_ble_eq_true rfl) (hs0 _ _) rfl tw_6_133 tw_6_130 tw_6_131 tw_6_132 tw_1_1 yd_X9_head ⟨(Nat.le_of_ble_eq_true rfl), (Nat.le_of_ble_eq_true rfl)⟩ (by decide) rfl hl.1 rfl (Nat.le_of_ble_eq_true rfl) dL_head_4 (fun H locs hP hS => ?_)
    refine lv_i2l (v := r1.toInt64) hx hb dL_head_7 rfl ?_
    refine rlast (Wf := fun z => Wf h m z) (mm := u) hx hb hK hP (hD1 _ (hAd _ _ _ _ _ _)) hS (hLu h m) 0 (Nat.le_of_ble_eq_true rfl) (fun _ => us0 _ _) (by decide) (j := 0) (by decide) dL_head_8 (m2 := sl u 0 0 (r1.toInt64)) rfl (fun H locs hP hS => ?_)
    refine lv_goto (tgt := 15) hx hb dL_head_9 (by decide) ?_
    refine lv_iconst (v := (0 : Int32)) hx hb dL_head_15 (by decide) ?_
    refine W.widen (k := 1) (n := 6) (by decide) (by decide) ?_
    exact hret _ _ _ hP hS (fun Qc hq => W.iret hx hb hr hq hS.2.2 dL_head_16 hlocks)

noncomputable def D_L_done (x1 : Int32) (h : MM) (m : MM) (u : MM) : Option (Int32 × MM) := wL (D_X9_done x1 h m) (none) (some ((1 : Int32), u)) (fun x => some ((0 : Int32), sl u 0 0 (x.toInt64)))
set_option maxHeartbeats 4000000 in
set_option maxRecDepth 100000 in
theorem c_L_done (l : Launch) (hst : l.stackTraces = false) {D : va_G} {cs : Nat → ClassId} {adh ad adu ma : Nat → Nat} {Wf : MM → MM → MM → va_W} (hLh : ∀ m u : MM, Ln 8 adh (hsh cs adh ma) (fun z => Wf z m u)) (hL : ∀ h u : MM, Ln 51 ad (msh cs ad) (fun z => Wf h z u)) (hLu : ∀ h m : MM, Ln 1 adu (ush cs) (fun z => Wf h m z)) (hAd : ∀ a0_ b0_ a1_ b1_ a2_ b2_ : MM, (Wf a0_ a1_ a2_).map (fun q => q.1) = (Wf b0_ b1_ b2_).map (fun q => q.1)) (hm1 : ma 1 = ad 24) (h : MM) (m : MM) (u : MM) (x1 : Int32) {rr : Int32} {u' : MM} (hD : D_L_done x1 h m u = some (rr, u')) : CtL l yL_done cL_done 4 [(0, 9, 12, 13)] 8 125 D cs [.ref (adh 0), .int x1, .ref (adu 0)] (Wf h m u) (Wf h m u') (some (.int rr)) := by
  refine CtL.ofW (by decide) (Nat.le_of_ble_eq_true rfl) (hAd _ _ _ _ _ _) ?_
  intro p e s m0 below meth c A Q ls args hx hb hr hml hlocks hown hex hT hK hP hD1 hSS hS hA1 hl hret
  have Fx0 : Fl p m0 c cL_done 4 s args RL D cs A := ⟨hx, hb, hml, hown, hT, hK, hSS⟩
  have hown : s.vm.findClass RL = some m0.cls := hown
  have hl : lv_has ls 4 [(0, .ref (adh 0)), (1, .int x1), (2, .ref (adu 0))] := hl
  unfold D_L_done at hD
  refine lv_aload_n hx hb dL_done_0 rfl (lv_at hl 2 rfl) ?_
  refine lv_iconst (v := (0 : Int32)) hx hb dL_done_1 (by decide) ?_
  refine lv_aload_n hx hb dL_done_2 rfl (lv_at hl 0 rfl) ?_
  refine lv_iload_n hx hb dL_done_3 rfl (lv_at hl 1 rfl) ?_
  rcases wL_el hD with ⟨hz, hD⟩ | ⟨kx, hz, hD⟩ | ⟨r1, hz, hD⟩
  · exact nn_el hD
  · obtain ⟨rfl, rfl⟩ := es2 hD
    refine lrX (Wf := fun z => Wf z m u) (mm := h) (As := [.int x1]) (rest := [.int (0 : Int32), .ref (adu 0)]) Fx0 (x_X9_done l hst (Wf := fun z0_ z1_ => Wf z0_ z1_ u) (fun z1_ => hLh z1_ u) (fun z0_ => hL z0_ u) (fun a0_ b0_ a1_ b1_ => hAd a0_ b0_ a1_ b1_ u u) hm1 h m x1 hz) hP (hD1 _ (hAd _ _ _ _ _ _)) hS (hA1 _ _ (hAd _ _ _ _ _ _) hS.1) (hLh m u) (Nat.le_of_ble_eq_true rfl) (hs0 _ _) rfl tw_6_140 tw_6_137 tw_6_138 tw_6_139 tw_1_1 yd_X9_done ⟨(Nat.le_of_ble_eq_true rfl), (Nat.le_of_ble_eq_true rfl)⟩ (by decide) rfl hl.1 rfl (Nat.le_of_ble_eq_true rfl) dL_done_4 [] (⟨0, 9, 12, 13⟩ : ExceptionTableEntry) [] hex (fun z hz => nomatch hz) rfl (by decide) tw_5_45 tw_5_52 (fun H locs q9 hP hS => ?_)
    refine lv_astore_n (lv' := [(3, .ref q9), (0, .ref (adh 0)), (1, .int x1), (2, .ref (adu 0))]) hx hb dL_done_12 rfl hl (by decide) rfl (fun ls hl => ?_)
    refine lv_iconst (v := (1 : Int32)) hx hb dL_done_13 (by decide) ?_
    exact hret _ _ _ hP hS (fun Qc hq => W.iret hx hb hr hq hS.2.2 dL_done_14 hlocks)
  · have hD : some ((0 : Int32), sl u 0 0 (r1.toInt64)) = some (rr, u') := hD
    obtain ⟨rfl, rfl⟩ := es2 hD
    refine lrV (Wf := fun z => Wf z m u) (mm := h) (As := [.int x1]) (rest := [.int (0 : Int32), .ref (adu 0)]) Fx0 (c_X9_done l (Wf := fun z0_ z1_ => Wf z0_ z1_ u) (fun z1_ => hLh z1_ u) (fun z0_ => hL z0_ u) (fun a0_ b0_ a1_ b1_ => hAd a0_ b0_ a1_ b1_ u u) hm1 h m x1 hz) hP (hD1 _ (hAd _ _ _ _ _ _)) hS (hA1 _ _ (hAd _ _ _ _ _ _) hS.1) (hLh m u) (Nat.le_of_ble_eq_true rfl) (hs0 _ _) rfl tw_6_140 tw_6_137 tw_6_138 tw_6_139 tw_1_1 yd_X9_done ⟨(Nat.le_of_ble_eq_true rfl), (Nat.le_of_ble_eq_true rfl)⟩ (by decide) rfl hl.1 rfl (Nat.le_of_ble_eq_true rfl) dL_done_4 (fun H locs hP hS => ?_)
    refine lv_i2l (v := r1.toInt64) hx hb dL_done_7 rfl ?_
    refine rlast (Wf := fun z => Wf h m z) (mm := u) hx hb hK hP (hD1 _ (hAd _ _ _ _ _ _)) hS (hLu h m) 0 (Nat.le_of_ble_eq_true rfl) (fun _ => us0 _ _) (by decide) (j := 0) (by decide) dL_done_8 (m2 := sl u 0 0 (r1.toInt64)) rfl (fun H locs hP hS => ?_)
    refine lv_goto (tgt := 15) hx hb dL_done_9 (by decide) ?_
    refine lv_iconst (v := (0 : Int32)) hx hb dL_done_15 (by decide) ?_
    refine W.widen (k := 1) (n := 6) (by decide) (by decide) ?_
    exact hret _ _ _ hP hS (fun Qc hq => W.iret hx hb hr hq hS.2.2 dL_done_16 hlocks)

noncomputable def D_L_timeOf (x1 : Int32) (h : MM) (m : MM) (u : MM) : Option (Int32 × MM) := wL (D_X9_timeOf x1 h m) (none) (some ((1 : Int32), u)) (fun x => some ((0 : Int32), sl u 0 0 (x.toInt64)))
set_option maxHeartbeats 4000000 in
set_option maxRecDepth 100000 in
theorem c_L_timeOf (l : Launch) (hst : l.stackTraces = false) {D : va_G} {cs : Nat → ClassId} {adh ad adu ma : Nat → Nat} {Wf : MM → MM → MM → va_W} (hLh : ∀ m u : MM, Ln 8 adh (hsh cs adh ma) (fun z => Wf z m u)) (hL : ∀ h u : MM, Ln 51 ad (msh cs ad) (fun z => Wf h z u)) (hLu : ∀ h m : MM, Ln 1 adu (ush cs) (fun z => Wf h m z)) (hAd : ∀ a0_ b0_ a1_ b1_ a2_ b2_ : MM, (Wf a0_ a1_ a2_).map (fun q => q.1) = (Wf b0_ b1_ b2_).map (fun q => q.1)) (hm1 : ma 1 = ad 24) (h : MM) (m : MM) (u : MM) (x1 : Int32) {rr : Int32} {u' : MM} (hD : D_L_timeOf x1 h m u = some (rr, u')) : CtL l yL_timeOf cL_timeOf 4 [(0, 9, 12, 13)] 8 125 D cs [.ref (adh 0), .int x1, .ref (adu 0)] (Wf h m u) (Wf h m u') (some (.int rr)) := by
  refine CtL.ofW (by decide) (Nat.le_of_ble_eq_true rfl) (hAd _ _ _ _ _ _) ?_
  intro p e s m0 below meth c A Q ls args hx hb hr hml hlocks hown hex hT hK hP hD1 hSS hS hA1 hl hret
  have Fx0 : Fl p m0 c cL_timeOf 4 s args RL D cs A := ⟨hx, hb, hml, hown, hT, hK, hSS⟩
  have hown : s.vm.findClass RL = some m0.cls := hown
  have hl : lv_has ls 4 [(0, .ref (adh 0)), (1, .int x1), (2, .ref (adu 0))] := hl
  unfold D_L_timeOf at hD
  refine lv_aload_n hx hb dL_timeOf_0 rfl (lv_at hl 2 rfl) ?_
  refine lv_iconst (v := (0 : Int32)) hx hb dL_timeOf_1 (by decide) ?_
  refine lv_aload_n hx hb dL_timeOf_2 rfl (lv_at hl 0 rfl) ?_
  refine lv_iload_n hx hb dL_timeOf_3 rfl (lv_at hl 1 rfl) ?_
  rcases wL_el hD with ⟨hz, hD⟩ | ⟨kx, hz, hD⟩ | ⟨r1, hz, hD⟩
  · exact nn_el hD
  · obtain ⟨rfl, rfl⟩ := es2 hD
    refine lrX (Wf := fun z => Wf z m u) (mm := h) (As := [.int x1]) (rest := [.int (0 : Int32), .ref (adu 0)]) Fx0 (x_X9_timeOf l hst (Wf := fun z0_ z1_ => Wf z0_ z1_ u) (fun z1_ => hLh z1_ u) (fun z0_ => hL z0_ u) (fun a0_ b0_ a1_ b1_ => hAd a0_ b0_ a1_ b1_ u u) hm1 h m x1 hz) hP (hD1 _ (hAd _ _ _ _ _ _)) hS (hA1 _ _ (hAd _ _ _ _ _ _) hS.1) (hLh m u) (Nat.le_of_ble_eq_true rfl) (hs0 _ _) rfl tw_6_147 tw_6_144 tw_6_145 tw_6_146 tw_1_1 yd_X9_timeOf ⟨(Nat.le_of_ble_eq_true rfl), (Nat.le_of_ble_eq_true rfl)⟩ (by decide) rfl hl.1 rfl (Nat.le_of_ble_eq_true rfl) dL_timeOf_4 [] (⟨0, 9, 12, 13⟩ : ExceptionTableEntry) [] hex (fun z hz => nomatch hz) rfl (by decide) tw_5_45 tw_5_52 (fun H locs q9 hP hS => ?_)
    refine lv_astore_n (lv' := [(3, .ref q9), (0, .ref (adh 0)), (1, .int x1), (2, .ref (adu 0))]) hx hb dL_timeOf_12 rfl hl (by decide) rfl (fun ls hl => ?_)
    refine lv_iconst (v := (1 : Int32)) hx hb dL_timeOf_13 (by decide) ?_
    exact hret _ _ _ hP hS (fun Qc hq => W.iret hx hb hr hq hS.2.2 dL_timeOf_14 hlocks)
  · have hD : some ((0 : Int32), sl u 0 0 (r1.toInt64)) = some (rr, u') := hD
    obtain ⟨rfl, rfl⟩ := es2 hD
    refine lrV (Wf := fun z => Wf z m u) (mm := h) (As := [.int x1]) (rest := [.int (0 : Int32), .ref (adu 0)]) Fx0 (c_X9_timeOf l (Wf := fun z0_ z1_ => Wf z0_ z1_ u) (fun z1_ => hLh z1_ u) (fun z0_ => hL z0_ u) (fun a0_ b0_ a1_ b1_ => hAd a0_ b0_ a1_ b1_ u u) hm1 h m x1 hz) hP (hD1 _ (hAd _ _ _ _ _ _)) hS (hA1 _ _ (hAd _ _ _ _ _ _) hS.1) (hLh m u) (Nat.le_of_ble_eq_true rfl) (hs0 _ _) rfl tw_6_147 tw_6_144 tw_6_145 tw_6_146 tw_1_1 yd_X9_timeOf ⟨(Nat.le_of_ble_eq_true rfl), (Nat.le_of_ble_eq_true rfl)⟩ (by decide) rfl hl.1 rfl (Nat.le_of_ble_eq_true rfl) dL_timeOf_4 (fun H locs hP hS => ?_)
    refine lv_i2l (v := r1.toInt64) hx hb dL_timeOf_7 rfl ?_
    refine rlast (Wf := fun z => Wf h m z) (mm := u) hx hb hK hP (hD1 _ (hAd _ _ _ _ _ _)) hS (hLu h m) 0 (Nat.le_of_ble_eq_true rfl) (fun _ => us0 _ _) (by decide) (j := 0) (by decide) dL_timeOf_8 (m2 := sl u 0 0 (r1.toInt64)) rfl (fun H locs hP hS => ?_)
    refine lv_goto (tgt := 15) hx hb dL_timeOf_9 (by decide) ?_
    refine lv_iconst (v := (0 : Int32)) hx hb dL_timeOf_15 (by decide) ?_
    refine W.widen (k := 1) (n := 6) (by decide) (by decide) ?_
    exact hret _ _ _ hP hS (fun Qc hq => W.iret hx hb hr hq hS.2.2 dL_timeOf_16 hlocks)

noncomputable def D_L_shareOf (x1 : Int32) (h : MM) (m : MM) (u : MM) : Option (Int32 × MM) := wL (D_X9_shareOf x1 h m) (none) (some ((1 : Int32), u)) (fun x => some ((0 : Int32), sl u 0 0 (x.toInt64)))
set_option maxHeartbeats 4000000 in
set_option maxRecDepth 100000 in
theorem c_L_shareOf (l : Launch) (hst : l.stackTraces = false) {D : va_G} {cs : Nat → ClassId} {adh ad adu ma : Nat → Nat} {Wf : MM → MM → MM → va_W} (hLh : ∀ m u : MM, Ln 8 adh (hsh cs adh ma) (fun z => Wf z m u)) (hL : ∀ h u : MM, Ln 51 ad (msh cs ad) (fun z => Wf h z u)) (hLu : ∀ h m : MM, Ln 1 adu (ush cs) (fun z => Wf h m z)) (hAd : ∀ a0_ b0_ a1_ b1_ a2_ b2_ : MM, (Wf a0_ a1_ a2_).map (fun q => q.1) = (Wf b0_ b1_ b2_).map (fun q => q.1)) (hm1 : ma 1 = ad 24) (h : MM) (m : MM) (u : MM) (x1 : Int32) {rr : Int32} {u' : MM} (hD : D_L_shareOf x1 h m u = some (rr, u')) : CtL l yL_shareOf cL_shareOf 4 [(0, 9, 12, 13)] 8 125 D cs [.ref (adh 0), .int x1, .ref (adu 0)] (Wf h m u) (Wf h m u') (some (.int rr)) := by
  refine CtL.ofW (by decide) (Nat.le_of_ble_eq_true rfl) (hAd _ _ _ _ _ _) ?_
  intro p e s m0 below meth c A Q ls args hx hb hr hml hlocks hown hex hT hK hP hD1 hSS hS hA1 hl hret
  have Fx0 : Fl p m0 c cL_shareOf 4 s args RL D cs A := ⟨hx, hb, hml, hown, hT, hK, hSS⟩
  have hown : s.vm.findClass RL = some m0.cls := hown
  have hl : lv_has ls 4 [(0, .ref (adh 0)), (1, .int x1), (2, .ref (adu 0))] := hl
  unfold D_L_shareOf at hD
  refine lv_aload_n hx hb dL_shareOf_0 rfl (lv_at hl 2 rfl) ?_
  refine lv_iconst (v := (0 : Int32)) hx hb dL_shareOf_1 (by decide) ?_
  refine lv_aload_n hx hb dL_shareOf_2 rfl (lv_at hl 0 rfl) ?_
  refine lv_iload_n hx hb dL_shareOf_3 rfl (lv_at hl 1 rfl) ?_
  rcases wL_el hD with ⟨hz, hD⟩ | ⟨kx, hz, hD⟩ | ⟨r1, hz, hD⟩
  · exact nn_el hD
  · obtain ⟨rfl, rfl⟩ := es2 hD
    refine lrX (Wf := fun z => Wf z m u) (mm := h) (As := [.int x1]) (rest := [.int (0 : Int32), .ref (adu 0)]) Fx0 (x_X9_shareOf l hst (Wf := fun z0_ z1_ => Wf z0_ z1_ u) (fun z1_ => hLh z1_ u) (fun z0_ => hL z0_ u) (fun a0_ b0_ a1_ b1_ => hAd a0_ b0_ a1_ b1_ u u) hm1 h m x1 hz) hP (hD1 _ (hAd _ _ _ _ _ _)) hS (hA1 _ _ (hAd _ _ _ _ _ _) hS.1) (hLh m u) (Nat.le_of_ble_eq_true rfl) (hs0 _ _) rfl tw_6_154 tw_6_151 tw_6_152 tw_6_153 tw_1_1 yd_X9_shareOf ⟨(Nat.le_of_ble_eq_true rfl), (Nat.le_of_ble_eq_true rfl)⟩ (by decide) rfl hl.1 rfl (Nat.le_of_ble_eq_true rfl) dL_shareOf_4 [] (⟨0, 9, 12, 13⟩ : ExceptionTableEntry) [] hex (fun z hz => nomatch hz) rfl (by decide) tw_5_45 tw_5_52 (fun H locs q9 hP hS => ?_)
    refine lv_astore_n (lv' := [(3, .ref q9), (0, .ref (adh 0)), (1, .int x1), (2, .ref (adu 0))]) hx hb dL_shareOf_12 rfl hl (by decide) rfl (fun ls hl => ?_)
    refine lv_iconst (v := (1 : Int32)) hx hb dL_shareOf_13 (by decide) ?_
    exact hret _ _ _ hP hS (fun Qc hq => W.iret hx hb hr hq hS.2.2 dL_shareOf_14 hlocks)
  · have hD : some ((0 : Int32), sl u 0 0 (r1.toInt64)) = some (rr, u') := hD
    obtain ⟨rfl, rfl⟩ := es2 hD
    refine lrV (Wf := fun z => Wf z m u) (mm := h) (As := [.int x1]) (rest := [.int (0 : Int32), .ref (adu 0)]) Fx0 (c_X9_shareOf l (Wf := fun z0_ z1_ => Wf z0_ z1_ u) (fun z1_ => hLh z1_ u) (fun z0_ => hL z0_ u) (fun a0_ b0_ a1_ b1_ => hAd a0_ b0_ a1_ b1_ u u) hm1 h m x1 hz) hP (hD1 _ (hAd _ _ _ _ _ _)) hS (hA1 _ _ (hAd _ _ _ _ _ _) hS.1) (hLh m u) (Nat.le_of_ble_eq_true rfl) (hs0 _ _) rfl tw_6_154 tw_6_151 tw_6_152 tw_6_153 tw_1_1 yd_X9_shareOf ⟨(Nat.le_of_ble_eq_true rfl), (Nat.le_of_ble_eq_true rfl)⟩ (by decide) rfl hl.1 rfl (Nat.le_of_ble_eq_true rfl) dL_shareOf_4 (fun H locs hP hS => ?_)
    refine lv_i2l (v := r1.toInt64) hx hb dL_shareOf_7 rfl ?_
    refine rlast (Wf := fun z => Wf h m z) (mm := u) hx hb hK hP (hD1 _ (hAd _ _ _ _ _ _)) hS (hLu h m) 0 (Nat.le_of_ble_eq_true rfl) (fun _ => us0 _ _) (by decide) (j := 0) (by decide) dL_shareOf_8 (m2 := sl u 0 0 (r1.toInt64)) rfl (fun H locs hP hS => ?_)
    refine lv_goto (tgt := 15) hx hb dL_shareOf_9 (by decide) ?_
    refine lv_iconst (v := (0 : Int32)) hx hb dL_shareOf_15 (by decide) ?_
    refine W.widen (k := 1) (n := 6) (by decide) (by decide) ?_
    exact hret _ _ _ hP hS (fun Qc hq => W.iret hx hb hr hq hS.2.2 dL_shareOf_16 hlocks)

noncomputable def D_L_logEntry (x1 : Int32) (x2 : Int32) (h : MM) (m : MM) (u : MM) : Option (Int32 × MM) := wL (D_X9_logEntry x1 x2 h m) (none) (some ((1 : Int32), u)) (fun x => some ((0 : Int32), sl u 0 0 (x.toInt64)))
set_option maxHeartbeats 4000000 in
set_option maxRecDepth 100000 in
theorem c_L_logEntry (l : Launch) (hst : l.stackTraces = false) {D : va_G} {cs : Nat → ClassId} {adh ad adu ma : Nat → Nat} {Wf : MM → MM → MM → va_W} (hLh : ∀ m u : MM, Ln 8 adh (hsh cs adh ma) (fun z => Wf z m u)) (hL : ∀ h u : MM, Ln 51 ad (msh cs ad) (fun z => Wf h z u)) (hLu : ∀ h m : MM, Ln 1 adu (ush cs) (fun z => Wf h m z)) (hAd : ∀ a0_ b0_ a1_ b1_ a2_ b2_ : MM, (Wf a0_ a1_ a2_).map (fun q => q.1) = (Wf b0_ b1_ b2_).map (fun q => q.1)) (hm1 : ma 1 = ad 24) (h : MM) (m : MM) (u : MM) (x1 : Int32) (x2 : Int32) {rr : Int32} {u' : MM} (hD : D_L_logEntry x1 x2 h m u = some (rr, u')) : CtL l yL_logEntry cL_logEntry 5 [(0, 10, 13, 13)] 8 126 D cs [.ref (adh 0), .int x1, .int x2, .ref (adu 0)] (Wf h m u) (Wf h m u') (some (.int rr)) := by
  refine CtL.ofW (by decide) (Nat.le_of_ble_eq_true rfl) (hAd _ _ _ _ _ _) ?_
  intro p e s m0 below meth c A Q ls args hx hb hr hml hlocks hown hex hT hK hP hD1 hSS hS hA1 hl hret
  have Fx0 : Fl p m0 c cL_logEntry 5 s args RL D cs A := ⟨hx, hb, hml, hown, hT, hK, hSS⟩
  have hown : s.vm.findClass RL = some m0.cls := hown
  have hl : lv_has ls 5 [(0, .ref (adh 0)), (1, .int x1), (2, .int x2), (3, .ref (adu 0))] := hl
  unfold D_L_logEntry at hD
  refine lv_aload_n hx hb dL_logEntry_0 rfl (lv_at hl 3 rfl) ?_
  refine lv_iconst (v := (0 : Int32)) hx hb dL_logEntry_1 (by decide) ?_
  refine lv_aload_n hx hb dL_logEntry_2 rfl (lv_at hl 0 rfl) ?_
  refine lv_iload_n hx hb dL_logEntry_3 rfl (lv_at hl 1 rfl) ?_
  refine lv_iload_n hx hb dL_logEntry_4 rfl (lv_at hl 2 rfl) ?_
  rcases wL_el hD with ⟨hz, hD⟩ | ⟨kx, hz, hD⟩ | ⟨r1, hz, hD⟩
  · exact nn_el hD
  · obtain ⟨rfl, rfl⟩ := es2 hD
    refine lrX (Wf := fun z => Wf z m u) (mm := h) (As := [.int x1, .int x2]) (rest := [.int (0 : Int32), .ref (adu 0)]) Fx0 (x_X9_logEntry l hst (Wf := fun z0_ z1_ => Wf z0_ z1_ u) (fun z1_ => hLh z1_ u) (fun z0_ => hL z0_ u) (fun a0_ b0_ a1_ b1_ => hAd a0_ b0_ a1_ b1_ u u) hm1 h m x1 x2 hz) hP (hD1 _ (hAd _ _ _ _ _ _)) hS (hA1 _ _ (hAd _ _ _ _ _ _) hS.1) (hLh m u) (Nat.le_of_ble_eq_true rfl) (hs0 _ _) rfl tw_6_161 tw_6_158 tw_6_159 tw_6_160 tw_1_1 yd_X9_logEntry ⟨(Nat.le_of_ble_eq_true rfl), (Nat.le_of_ble_eq_true rfl)⟩ (by decide) rfl hl.1 rfl (Nat.le_of_ble_eq_true rfl) dL_logEntry_5 [] (⟨0, 10, 13, 13⟩ : ExceptionTableEntry) [] hex (fun z hz => nomatch hz) rfl (by decide) tw_5_45 tw_5_52 (fun H locs q9 hP hS => ?_)
    refine lv_astore (lv' := [(4, .ref q9), (0, .ref (adh 0)), (1, .int x1), (2, .int x2), (3, .ref (adu 0))]) hx hb dL_logEntry_13 hl (by decide) rfl (fun ls hl => ?_)
    refine lv_iconst (v := (1 : Int32)) hx hb dL_logEntry_15 (by decide) ?_
    exact hret _ _ _ hP hS (fun Qc hq => W.iret hx hb hr hq hS.2.2 dL_logEntry_16 hlocks)
  · have hD : some ((0 : Int32), sl u 0 0 (r1.toInt64)) = some (rr, u') := hD
    obtain ⟨rfl, rfl⟩ := es2 hD
    refine lrV (Wf := fun z => Wf z m u) (mm := h) (As := [.int x1, .int x2]) (rest := [.int (0 : Int32), .ref (adu 0)]) Fx0 (c_X9_logEntry l (Wf := fun z0_ z1_ => Wf z0_ z1_ u) (fun z1_ => hLh z1_ u) (fun z0_ => hL z0_ u) (fun a0_ b0_ a1_ b1_ => hAd a0_ b0_ a1_ b1_ u u) hm1 h m x1 x2 hz) hP (hD1 _ (hAd _ _ _ _ _ _)) hS (hA1 _ _ (hAd _ _ _ _ _ _) hS.1) (hLh m u) (Nat.le_of_ble_eq_true rfl) (hs0 _ _) rfl tw_6_161 tw_6_158 tw_6_159 tw_6_160 tw_1_1 yd_X9_logEntry ⟨(Nat.le_of_ble_eq_true rfl), (Nat.le_of_ble_eq_true rfl)⟩ (by decide) rfl hl.1 rfl (Nat.le_of_ble_eq_true rfl) dL_logEntry_5 (fun H locs hP hS => ?_)
    refine lv_i2l (v := r1.toInt64) hx hb dL_logEntry_8 rfl ?_
    refine rlast (Wf := fun z => Wf h m z) (mm := u) hx hb hK hP (hD1 _ (hAd _ _ _ _ _ _)) hS (hLu h m) 0 (Nat.le_of_ble_eq_true rfl) (fun _ => us0 _ _) (by decide) (j := 0) (by decide) dL_logEntry_9 (m2 := sl u 0 0 (r1.toInt64)) rfl (fun H locs hP hS => ?_)
    refine lv_goto (tgt := 17) hx hb dL_logEntry_10 (by decide) ?_
    refine lv_iconst (v := (0 : Int32)) hx hb dL_logEntry_17 (by decide) ?_
    refine W.widen (k := 1) (n := 6) (by decide) (by decide) ?_
    exact hret _ _ _ hP hS (fun Qc hq => W.iret hx hb hr hq hS.2.2 dL_logEntry_18 hlocks)

noncomputable def D_L_shortage (x1 : Int32) (h : MM) (m : MM) (u : MM) : Option (Int32 × MM) := wL (D_X9_shortage x1 h m) (some ((1 : Int32), u)) (none) (fun x => some ((0 : Int32), sl u 0 0 (x.toInt64)))
set_option maxHeartbeats 4000000 in
set_option maxRecDepth 100000 in
theorem c_L_shortage (l : Launch) (hst : l.stackTraces = false) {D : va_G} {cs : Nat → ClassId} {adh ad adu ma : Nat → Nat} {Wf : MM → MM → MM → va_W} (hLh : ∀ m u : MM, Ln 8 adh (hsh cs adh ma) (fun z => Wf z m u)) (hL : ∀ h u : MM, Ln 51 ad (msh cs ad) (fun z => Wf h z u)) (hLu : ∀ h m : MM, Ln 1 adu (ush cs) (fun z => Wf h m z)) (hAd : ∀ a0_ b0_ a1_ b1_ a2_ b2_ : MM, (Wf a0_ a1_ a2_).map (fun q => q.1) = (Wf b0_ b1_ b2_).map (fun q => q.1)) (hm1 : ma 1 = ad 24) (h : MM) (m : MM) (u : MM) (x1 : Int32) {rr : Int32} {u' : MM} (hD : D_L_shortage x1 h m u = some (rr, u')) : CtL l yL_shortage cL_shortage 4 [(0, 9, 12, 25)] 8 124 D cs [.ref (adh 0), .int x1, .ref (adu 0)] (Wf h m u) (Wf h m u') (some (.int rr)) := by
  refine CtL.ofW (by decide) (Nat.le_of_ble_eq_true rfl) (hAd _ _ _ _ _ _) ?_
  intro p e s m0 below meth c A Q ls args hx hb hr hml hlocks hown hex hT hK hP hD1 hSS hS hA1 hl hret
  have Fx0 : Fl p m0 c cL_shortage 4 s args RL D cs A := ⟨hx, hb, hml, hown, hT, hK, hSS⟩
  have hown : s.vm.findClass RL = some m0.cls := hown
  have hl : lv_has ls 4 [(0, .ref (adh 0)), (1, .int x1), (2, .ref (adu 0))] := hl
  unfold D_L_shortage at hD
  refine lv_aload_n hx hb dL_shortage_0 rfl (lv_at hl 2 rfl) ?_
  refine lv_iconst (v := (0 : Int32)) hx hb dL_shortage_1 (by decide) ?_
  refine lv_aload_n hx hb dL_shortage_2 rfl (lv_at hl 0 rfl) ?_
  refine lv_iload_n hx hb dL_shortage_3 rfl (lv_at hl 1 rfl) ?_
  rcases wL_el hD with ⟨hz, hD⟩ | ⟨kx, hz, hD⟩ | ⟨r1, hz, hD⟩
  · obtain ⟨rfl, rfl⟩ := es2 hD
    refine lrX (Wf := fun z => Wf z m u) (mm := h) (As := [.int x1]) (rest := [.int (0 : Int32), .ref (adu 0)]) Fx0 (x_X9_shortage l hst (Wf := fun z0_ z1_ => Wf z0_ z1_ u) (fun z1_ => hLh z1_ u) (fun z0_ => hL z0_ u) (fun a0_ b0_ a1_ b1_ => hAd a0_ b0_ a1_ b1_ u u) hm1 h m x1 hz) hP (hD1 _ (hAd _ _ _ _ _ _)) hS (hA1 _ _ (hAd _ _ _ _ _ _) hS.1) (hLh m u) (Nat.le_of_ble_eq_true rfl) (hs0 _ _) rfl tw_6_172 tw_6_169 tw_6_170 tw_6_171 tw_1_1 yd_X9_shortage ⟨(Nat.le_of_ble_eq_true rfl), (Nat.le_of_ble_eq_true rfl)⟩ (by decide) rfl hl.1 rfl (Nat.le_of_ble_eq_true rfl) dL_shortage_4 [] (⟨0, 9, 12, 25⟩ : ExceptionTableEntry) [] hex (fun z hz => nomatch hz) rfl (by decide) tw_5_138 tw_5_148 (fun H locs q9 hP hS => ?_)
    refine lv_astore_n (lv' := [(3, .ref q9), (0, .ref (adh 0)), (1, .int x1), (2, .ref (adu 0))]) hx hb dL_shortage_12 rfl hl (by decide) rfl (fun ls hl => ?_)
    refine lv_iconst (v := (1 : Int32)) hx hb dL_shortage_13 (by decide) ?_
    exact hret _ _ _ hP hS (fun Qc hq => W.iret hx hb hr hq hS.2.2 dL_shortage_14 hlocks)
  · exact nn_el hD
  · have hD : some ((0 : Int32), sl u 0 0 (r1.toInt64)) = some (rr, u') := hD
    obtain ⟨rfl, rfl⟩ := es2 hD
    refine lrV (Wf := fun z => Wf z m u) (mm := h) (As := [.int x1]) (rest := [.int (0 : Int32), .ref (adu 0)]) Fx0 (c_X9_shortage l (Wf := fun z0_ z1_ => Wf z0_ z1_ u) (fun z1_ => hLh z1_ u) (fun z0_ => hL z0_ u) (fun a0_ b0_ a1_ b1_ => hAd a0_ b0_ a1_ b1_ u u) hm1 h m x1 hz) hP (hD1 _ (hAd _ _ _ _ _ _)) hS (hA1 _ _ (hAd _ _ _ _ _ _) hS.1) (hLh m u) (Nat.le_of_ble_eq_true rfl) (hs0 _ _) rfl tw_6_172 tw_6_169 tw_6_170 tw_6_171 tw_1_1 yd_X9_shortage ⟨(Nat.le_of_ble_eq_true rfl), (Nat.le_of_ble_eq_true rfl)⟩ (by decide) rfl hl.1 rfl (Nat.le_of_ble_eq_true rfl) dL_shortage_4 (fun H locs hP hS => ?_)
    refine lv_i2l (v := r1.toInt64) hx hb dL_shortage_7 rfl ?_
    refine rlast (Wf := fun z => Wf h m z) (mm := u) hx hb hK hP (hD1 _ (hAd _ _ _ _ _ _)) hS (hLu h m) 0 (Nat.le_of_ble_eq_true rfl) (fun _ => us0 _ _) (by decide) (j := 0) (by decide) dL_shortage_8 (m2 := sl u 0 0 (r1.toInt64)) rfl (fun H locs hP hS => ?_)
    refine lv_goto (tgt := 15) hx hb dL_shortage_9 (by decide) ?_
    refine lv_iconst (v := (0 : Int32)) hx hb dL_shortage_15 (by decide) ?_
    refine W.widen (k := 1) (n := 6) (by decide) (by decide) ?_
    exact hret _ _ _ hP hS (fun Qc hq => W.iret hx hb hr hq hS.2.2 dL_shortage_16 hlocks)

noncomputable def D_L_shortageFor (x1 : Int32) (x2 : Int32) (h : MM) (m : MM) (u : MM) : Option (Int32 × MM) := wL (D_X9_shortageFor x1 x2 h m) (some ((1 : Int32), u)) (some ((2 : Int32), u)) (fun x => some ((0 : Int32), sl u 0 0 (x.toInt64)))
set_option maxHeartbeats 4000000 in
set_option maxRecDepth 100000 in
theorem c_L_shortageFor (l : Launch) (hst : l.stackTraces = false) {D : va_G} {cs : Nat → ClassId} {adh ad adu ma : Nat → Nat} {Wf : MM → MM → MM → va_W} (hLh : ∀ m u : MM, Ln 8 adh (hsh cs adh ma) (fun z => Wf z m u)) (hL : ∀ h u : MM, Ln 51 ad (msh cs ad) (fun z => Wf h z u)) (hLu : ∀ h m : MM, Ln 1 adu (ush cs) (fun z => Wf h m z)) (hAd : ∀ a0_ b0_ a1_ b1_ a2_ b2_ : MM, (Wf a0_ a1_ a2_).map (fun q => q.1) = (Wf b0_ b1_ b2_).map (fun q => q.1)) (hm1 : ma 1 = ad 24) (h : MM) (m : MM) (u : MM) (x1 : Int32) (x2 : Int32) {rr : Int32} {u' : MM} (hD : D_L_shortageFor x1 x2 h m u = some (rr, u')) : CtL l yL_shortageFor cL_shortageFor 5 [(0, 10, 13, 25), (0, 10, 17, 13)] 8 126 D cs [.ref (adh 0), .int x1, .int x2, .ref (adu 0)] (Wf h m u) (Wf h m u') (some (.int rr)) := by
  refine CtL.ofW (by decide) (Nat.le_of_ble_eq_true rfl) (hAd _ _ _ _ _ _) ?_
  intro p e s m0 below meth c A Q ls args hx hb hr hml hlocks hown hex hT hK hP hD1 hSS hS hA1 hl hret
  have Fx0 : Fl p m0 c cL_shortageFor 5 s args RL D cs A := ⟨hx, hb, hml, hown, hT, hK, hSS⟩
  have hown : s.vm.findClass RL = some m0.cls := hown
  have hl : lv_has ls 5 [(0, .ref (adh 0)), (1, .int x1), (2, .int x2), (3, .ref (adu 0))] := hl
  unfold D_L_shortageFor at hD
  refine lv_aload_n hx hb dL_shortageFor_0 rfl (lv_at hl 3 rfl) ?_
  refine lv_iconst (v := (0 : Int32)) hx hb dL_shortageFor_1 (by decide) ?_
  refine lv_aload_n hx hb dL_shortageFor_2 rfl (lv_at hl 0 rfl) ?_
  refine lv_iload_n hx hb dL_shortageFor_3 rfl (lv_at hl 1 rfl) ?_
  refine lv_iload_n hx hb dL_shortageFor_4 rfl (lv_at hl 2 rfl) ?_
  rcases wL_el hD with ⟨hz, hD⟩ | ⟨kx, hz, hD⟩ | ⟨r1, hz, hD⟩
  · obtain ⟨rfl, rfl⟩ := es2 hD
    refine lrX (Wf := fun z => Wf z m u) (mm := h) (As := [.int x1, .int x2]) (rest := [.int (0 : Int32), .ref (adu 0)]) Fx0 (x_X9_shortageFor l hst (Wf := fun z0_ z1_ => Wf z0_ z1_ u) (fun z1_ => hLh z1_ u) (fun z0_ => hL z0_ u) (fun a0_ b0_ a1_ b1_ => hAd a0_ b0_ a1_ b1_ u u) hm1 h m x1 x2 hz) hP (hD1 _ (hAd _ _ _ _ _ _)) hS (hA1 _ _ (hAd _ _ _ _ _ _) hS.1) (hLh m u) (Nat.le_of_ble_eq_true rfl) (hs0 _ _) rfl tw_6_180 tw_6_177 tw_6_178 tw_6_179 tw_1_1 yd_X9_shortageFor ⟨(Nat.le_of_ble_eq_true rfl), (Nat.le_of_ble_eq_true rfl)⟩ (by decide) rfl hl.1 rfl (Nat.le_of_ble_eq_true rfl) dL_shortageFor_5 [] (⟨0, 10, 13, 25⟩ : ExceptionTableEntry) [(⟨0, 10, 17, 13⟩ : ExceptionTableEntry)] hex (fun z hz => nomatch hz) rfl (by decide) tw_5_138 tw_5_148 (fun H locs q9 hP hS => ?_)
    refine lv_astore (lv' := [(4, .ref q9), (0, .ref (adh 0)), (1, .int x1), (2, .int x2), (3, .ref (adu 0))]) hx hb dL_shortageFor_13 hl (by decide) rfl (fun ls hl => ?_)
    refine lv_iconst (v := (1 : Int32)) hx hb dL_shortageFor_15 (by decide) ?_
    exact hret _ _ _ hP hS (fun Qc hq => W.iret hx hb hr hq hS.2.2 dL_shortageFor_16 hlocks)
  · obtain ⟨rfl, rfl⟩ := es2 hD
    refine lrX (Wf := fun z => Wf z m u) (mm := h) (As := [.int x1, .int x2]) (rest := [.int (0 : Int32), .ref (adu 0)]) Fx0 (x_X9_shortageFor l hst (Wf := fun z0_ z1_ => Wf z0_ z1_ u) (fun z1_ => hLh z1_ u) (fun z0_ => hL z0_ u) (fun a0_ b0_ a1_ b1_ => hAd a0_ b0_ a1_ b1_ u u) hm1 h m x1 x2 hz) hP (hD1 _ (hAd _ _ _ _ _ _)) hS (hA1 _ _ (hAd _ _ _ _ _ _) hS.1) (hLh m u) (Nat.le_of_ble_eq_true rfl) (hs0 _ _) rfl tw_6_180 tw_6_177 tw_6_178 tw_6_179 tw_1_1 yd_X9_shortageFor ⟨(Nat.le_of_ble_eq_true rfl), (Nat.le_of_ble_eq_true rfl)⟩ (by decide) rfl hl.1 rfl (Nat.le_of_ble_eq_true rfl) dL_shortageFor_5 [(⟨0, 10, 13, 25⟩ : ExceptionTableEntry)] (⟨0, 10, 17, 13⟩ : ExceptionTableEntry) [] hex (fun z hz => by rcases List.mem_singleton.mp hz with rfl; exact Or.inr ⟨by decide, "java/lang/IndexOutOfBoundsException", Fx0.T tw_5_138, hK.2.2.2⟩) rfl (by decide) tw_5_45 tw_5_52 (fun H locs q9 hP hS => ?_)
    refine lv_astore (lv' := [(4, .ref q9), (0, .ref (adh 0)), (1, .int x1), (2, .int x2), (3, .ref (adu 0))]) hx hb dL_shortageFor_17 hl (by decide) rfl (fun ls hl => ?_)
    refine lv_iconst (v := (2 : Int32)) hx hb dL_shortageFor_19 (by decide) ?_
    exact hret _ _ _ hP hS (fun Qc hq => W.iret hx hb hr hq hS.2.2 dL_shortageFor_20 hlocks)
  · have hD : some ((0 : Int32), sl u 0 0 (r1.toInt64)) = some (rr, u') := hD
    obtain ⟨rfl, rfl⟩ := es2 hD
    refine lrV (Wf := fun z => Wf z m u) (mm := h) (As := [.int x1, .int x2]) (rest := [.int (0 : Int32), .ref (adu 0)]) Fx0 (c_X9_shortageFor l (Wf := fun z0_ z1_ => Wf z0_ z1_ u) (fun z1_ => hLh z1_ u) (fun z0_ => hL z0_ u) (fun a0_ b0_ a1_ b1_ => hAd a0_ b0_ a1_ b1_ u u) hm1 h m x1 x2 hz) hP (hD1 _ (hAd _ _ _ _ _ _)) hS (hA1 _ _ (hAd _ _ _ _ _ _) hS.1) (hLh m u) (Nat.le_of_ble_eq_true rfl) (hs0 _ _) rfl tw_6_180 tw_6_177 tw_6_178 tw_6_179 tw_1_1 yd_X9_shortageFor ⟨(Nat.le_of_ble_eq_true rfl), (Nat.le_of_ble_eq_true rfl)⟩ (by decide) rfl hl.1 rfl (Nat.le_of_ble_eq_true rfl) dL_shortageFor_5 (fun H locs hP hS => ?_)
    refine lv_i2l (v := r1.toInt64) hx hb dL_shortageFor_8 rfl ?_
    refine rlast (Wf := fun z => Wf h m z) (mm := u) hx hb hK hP (hD1 _ (hAd _ _ _ _ _ _)) hS (hLu h m) 0 (Nat.le_of_ble_eq_true rfl) (fun _ => us0 _ _) (by decide) (j := 0) (by decide) dL_shortageFor_9 (m2 := sl u 0 0 (r1.toInt64)) rfl (fun H locs hP hS => ?_)
    refine lv_goto (tgt := 21) hx hb dL_shortageFor_10 (by decide) ?_
    refine lv_iconst (v := (0 : Int32)) hx hb dL_shortageFor_21 (by decide) ?_
    refine W.widen (k := 1) (n := 6) (by decide) (by decide) ?_
    exact hret _ _ _ hP hS (fun Qc hq => W.iret hx hb hr hq hS.2.2 dL_shortageFor_22 hlocks)

noncomputable def D_L_runsOut (x1 : Int32) (h : MM) (m : MM) (f : MM) (u : MM) : Option (Int32 × MM × MM × MM) := wL (D_X9_runsOut x1 h m f) (some ((1 : Int32), h, f, u)) (none) (fun x => some ((0 : Int32), x.2.1, x.2.2, sl u 0 0 (x.1.toInt64)))
set_option maxHeartbeats 4000000 in
set_option maxRecDepth 100000 in
theorem c_L_runsOut (l : Launch) (hst : l.stackTraces = false) {D : va_G} {cs : Nat → ClassId} {adh ad adf adu ma : Nat → Nat} {Wf : MM → MM → MM → MM → va_W} (hLh : ∀ m f u : MM, Ln 8 adh (hsh cs adh ma) (fun z => Wf z m f u)) (hL : ∀ h f u : MM, Ln 51 ad (msh cs ad) (fun z => Wf h z f u)) (hLf : ∀ h m u : MM, Ln 51 adf (msh cs adf) (fun z => Wf h m z u)) (hLu : ∀ h m f : MM, Ln 1 adu (ush cs) (fun z => Wf h m f z)) (hAd : ∀ a0_ b0_ a1_ b1_ a2_ b2_ a3_ b3_ : MM, (Wf a0_ a1_ a2_ a3_).map (fun q => q.1) = (Wf b0_ b1_ b2_ b3_).map (fun q => q.1)) (hm1 : ma 1 = ad 24) (hm2 : ma 2 = adf 24) (h : MM) (m : MM) (f : MM) (u : MM) (x1 : Int32) {rr : Int32} {h' : MM} {f' : MM} {u' : MM} (hD : D_L_runsOut x1 h m f u = some (rr, h', f', u')) : CtL l yL_runsOut cL_runsOut 4 [(0, 9, 12, 25)] 8 179 D cs [.ref (adh 0), .int x1, .ref (adu 0)] (Wf h m f u) (Wf h' m f' u') (some (.int rr)) := by
  refine CtL.ofW (by decide) (Nat.le_of_ble_eq_true rfl) (hAd _ _ _ _ _ _ _ _) ?_
  intro p e s m0 below meth c A Q ls args hx hb hr hml hlocks hown hex hT hK hP hD1 hSS hS hA1 hl hret
  have Fx0 : Fl p m0 c cL_runsOut 4 s args RL D cs A := ⟨hx, hb, hml, hown, hT, hK, hSS⟩
  have hown : s.vm.findClass RL = some m0.cls := hown
  have hl : lv_has ls 4 [(0, .ref (adh 0)), (1, .int x1), (2, .ref (adu 0))] := hl
  unfold D_L_runsOut at hD
  refine lv_aload_n hx hb dL_runsOut_0 rfl (lv_at hl 2 rfl) ?_
  refine lv_iconst (v := (0 : Int32)) hx hb dL_runsOut_1 (by decide) ?_
  refine lv_aload_n hx hb dL_runsOut_2 rfl (lv_at hl 0 rfl) ?_
  refine lv_iload_n hx hb dL_runsOut_3 rfl (lv_at hl 1 rfl) ?_
  rcases wL_el hD with ⟨hz, hD⟩ | ⟨kx, hz, hD⟩ | ⟨⟨r1, h1, f1⟩, hz, hD⟩
  · obtain ⟨rfl, rfl, rfl, rfl⟩ := es4 hD
    refine lrX (Wf := fun z => Wf z m f u) (mm := h) (As := [.int x1]) (rest := [.int (0 : Int32), .ref (adu 0)]) Fx0 (x_X9_runsOut l hst (Wf := fun z0_ z1_ z2_ => Wf z0_ z1_ z2_ u) (fun z1_ z2_ => hLh z1_ z2_ u) (fun z0_ z2_ => hL z0_ z2_ u) (fun z0_ z1_ => hLf z0_ z1_ u) (fun a0_ b0_ a1_ b1_ a2_ b2_ => hAd a0_ b0_ a1_ b1_ a2_ b2_ u u) hm1 hm2 h m f x1 hz) hP (hD1 _ (hAd _ _ _ _ _ _ _ _)) hS (hA1 _ _ (hAd _ _ _ _ _ _ _ _) hS.1) (hLh m f u) (Nat.le_of_ble_eq_true rfl) (hs0 _ _) rfl tw_6_187 tw_6_184 tw_6_185 tw_6_186 tw_1_1 yd_X9_runsOut ⟨(Nat.le_of_ble_eq_true rfl), (Nat.le_of_ble_eq_true rfl)⟩ (by decide) rfl hl.1 rfl (Nat.le_of_ble_eq_true rfl) dL_runsOut_4 [] (⟨0, 9, 12, 25⟩ : ExceptionTableEntry) [] hex (fun z hz => nomatch hz) rfl (by decide) tw_5_138 tw_5_148 (fun H locs q9 hP hS => ?_)
    refine lv_astore_n (lv' := [(3, .ref q9), (0, .ref (adh 0)), (1, .int x1), (2, .ref (adu 0))]) hx hb dL_runsOut_12 rfl hl (by decide) rfl (fun ls hl => ?_)
    refine lv_iconst (v := (1 : Int32)) hx hb dL_runsOut_13 (by decide) ?_
    exact hret _ _ _ hP hS (fun Qc hq => W.iret hx hb hr hq hS.2.2 dL_runsOut_14 hlocks)
  · exact nn_el hD
  · have hD : some ((0 : Int32), h1, f1, sl u 0 0 (r1.toInt64)) = some (rr, h', f', u') := hD
    obtain ⟨rfl, rfl, rfl, rfl⟩ := es4 hD
    refine lrV (Wf := fun z => Wf z m f u) (mm := h) (As := [.int x1]) (rest := [.int (0 : Int32), .ref (adu 0)]) Fx0 (c_X9_runsOut l (Wf := fun z0_ z1_ z2_ => Wf z0_ z1_ z2_ u) (fun z1_ z2_ => hLh z1_ z2_ u) (fun z0_ z2_ => hL z0_ z2_ u) (fun z0_ z1_ => hLf z0_ z1_ u) (fun a0_ b0_ a1_ b1_ a2_ b2_ => hAd a0_ b0_ a1_ b1_ a2_ b2_ u u) hm1 hm2 h m f x1 hz) hP (hD1 _ (hAd _ _ _ _ _ _ _ _)) hS (hA1 _ _ (hAd _ _ _ _ _ _ _ _) hS.1) (hLh m f u) (Nat.le_of_ble_eq_true rfl) (hs0 _ _) rfl tw_6_187 tw_6_184 tw_6_185 tw_6_186 tw_1_1 yd_X9_runsOut ⟨(Nat.le_of_ble_eq_true rfl), (Nat.le_of_ble_eq_true rfl)⟩ (by decide) rfl hl.1 rfl (Nat.le_of_ble_eq_true rfl) dL_runsOut_4 (fun H locs hP hS => ?_)
    refine lv_i2l (v := r1.toInt64) hx hb dL_runsOut_7 rfl ?_
    refine rlast (Wf := fun z => Wf h1 m f1 z) (mm := u) hx hb hK hP (hD1 _ (hAd _ _ _ _ _ _ _ _)) hS (hLu h1 m f1) 0 (Nat.le_of_ble_eq_true rfl) (fun _ => us0 _ _) (by decide) (j := 0) (by decide) dL_runsOut_8 (m2 := sl u 0 0 (r1.toInt64)) rfl (fun H locs hP hS => ?_)
    refine lv_goto (tgt := 15) hx hb dL_runsOut_9 (by decide) ?_
    refine lv_iconst (v := (0 : Int32)) hx hb dL_runsOut_15 (by decide) ?_
    refine W.widen (k := 1) (n := 6) (by decide) (by decide) ?_
    exact hret _ _ _ hP hS (fun Qc hq => W.iret hx hb hr hq hS.2.2 dL_runsOut_16 hlocks)

noncomputable def D_L_saveSnapshot (x1 : Int32) (h : MM) (m : MM) (c0 : MM) (c1 : MM) (u : MM) : Option (Int32 × MM × MM × MM × MM) := wL (D_X9_saveSnapshot x1 h m c0 c1) (none) (some ((1 : Int32), h, c0, c1, u)) (fun x => some ((0 : Int32), x.2.1, x.2.2.1, x.2.2.2, sl u 0 0 (x.1.toInt64)))
set_option maxHeartbeats 4000000 in
set_option maxRecDepth 100000 in
theorem c_L_saveSnapshot (l : Launch) (hst : l.stackTraces = false) {D : va_G} {cs : Nat → ClassId} {adh ad ad0 ad1 adu ma : Nat → Nat} {Wf : MM → MM → MM → MM → MM → va_W} (hLh : ∀ m c0 c1 u : MM, Ln 8 adh (hsh cs adh ma) (fun z => Wf z m c0 c1 u)) (hL : ∀ h c0 c1 u : MM, Ln 51 ad (msh cs ad) (fun z => Wf h z c0 c1 u)) (hL0 : ∀ h m c1 u : MM, Ln 51 ad0 (msh cs ad0) (fun z => Wf h m z c1 u)) (hL1 : ∀ h m c0 u : MM, Ln 51 ad1 (msh cs ad1) (fun z => Wf h m c0 z u)) (hLu : ∀ h m c0 c1 : MM, Ln 1 adu (ush cs) (fun z => Wf h m c0 c1 z)) (hAd : ∀ a0_ b0_ a1_ b1_ a2_ b2_ a3_ b3_ a4_ b4_ : MM, (Wf a0_ a1_ a2_ a3_ a4_).map (fun q => q.1) = (Wf b0_ b1_ b2_ b3_ b4_).map (fun q => q.1)) (hm1 : ma 1 = ad 24) (hm3 : ma 3 = ad0 24) (hm4 : ma 4 = ad1 24) (h : MM) (m : MM) (c0 : MM) (c1 : MM) (u : MM) (x1 : Int32) {rr : Int32} {h' : MM} {c0' : MM} {c1' : MM} {u' : MM} (hD : D_L_saveSnapshot x1 h m c0 c1 u = some (rr, h', c0', c1', u')) : CtL l yL_saveSnapshot cL_saveSnapshot 4 [(0, 9, 12, 13)] 8 128 D cs [.ref (adh 0), .int x1, .ref (adu 0)] (Wf h m c0 c1 u) (Wf h' m c0' c1' u') (some (.int rr)) := by
  refine CtL.ofW (by decide) (Nat.le_of_ble_eq_true rfl) (hAd _ _ _ _ _ _ _ _ _ _) ?_
  intro p e s m0 below meth c A Q ls args hx hb hr hml hlocks hown hex hT hK hP hD1 hSS hS hA1 hl hret
  have Fx0 : Fl p m0 c cL_saveSnapshot 4 s args RL D cs A := ⟨hx, hb, hml, hown, hT, hK, hSS⟩
  have hown : s.vm.findClass RL = some m0.cls := hown
  have hl : lv_has ls 4 [(0, .ref (adh 0)), (1, .int x1), (2, .ref (adu 0))] := hl
  unfold D_L_saveSnapshot at hD
  refine lv_aload_n hx hb dL_saveSnapshot_0 rfl (lv_at hl 2 rfl) ?_
  refine lv_iconst (v := (0 : Int32)) hx hb dL_saveSnapshot_1 (by decide) ?_
  refine lv_aload_n hx hb dL_saveSnapshot_2 rfl (lv_at hl 0 rfl) ?_
  refine lv_iload_n hx hb dL_saveSnapshot_3 rfl (lv_at hl 1 rfl) ?_
  rcases wL_el hD with ⟨hz, hD⟩ | ⟨kx, hz, hD⟩ | ⟨⟨r1, h1, c01, c11⟩, hz, hD⟩
  · exact nn_el hD
  · obtain ⟨rfl, rfl, rfl, rfl, rfl⟩ := es5 hD
    refine lrX (Wf := fun z => Wf z m c0 c1 u) (mm := h) (As := [.int x1]) (rest := [.int (0 : Int32), .ref (adu 0)]) Fx0 (x_X9_saveSnapshot l hst (Wf := fun z0_ z1_ z2_ z3_ => Wf z0_ z1_ z2_ z3_ u) (fun z1_ z2_ z3_ => hLh z1_ z2_ z3_ u) (fun z0_ z2_ z3_ => hL z0_ z2_ z3_ u) (fun z0_ z1_ z3_ => hL0 z0_ z1_ z3_ u) (fun z0_ z1_ z2_ => hL1 z0_ z1_ z2_ u) (fun a0_ b0_ a1_ b1_ a2_ b2_ a3_ b3_ => hAd a0_ b0_ a1_ b1_ a2_ b2_ a3_ b3_ u u) hm1 hm3 hm4 h m c0 c1 x1 hz) hP (hD1 _ (hAd _ _ _ _ _ _ _ _ _ _)) hS (hA1 _ _ (hAd _ _ _ _ _ _ _ _ _ _) hS.1) (hLh m c0 c1 u) (Nat.le_of_ble_eq_true rfl) (hs0 _ _) rfl tw_6_198 tw_6_195 tw_6_196 tw_6_197 tw_1_1 yd_X9_saveSnapshot ⟨(Nat.le_of_ble_eq_true rfl), (Nat.le_of_ble_eq_true rfl)⟩ (by decide) rfl hl.1 rfl (Nat.le_of_ble_eq_true rfl) dL_saveSnapshot_4 [] (⟨0, 9, 12, 13⟩ : ExceptionTableEntry) [] hex (fun z hz => nomatch hz) rfl (by decide) tw_5_45 tw_5_52 (fun H locs q9 hP hS => ?_)
    refine lv_astore_n (lv' := [(3, .ref q9), (0, .ref (adh 0)), (1, .int x1), (2, .ref (adu 0))]) hx hb dL_saveSnapshot_12 rfl hl (by decide) rfl (fun ls hl => ?_)
    refine lv_iconst (v := (1 : Int32)) hx hb dL_saveSnapshot_13 (by decide) ?_
    exact hret _ _ _ hP hS (fun Qc hq => W.iret hx hb hr hq hS.2.2 dL_saveSnapshot_14 hlocks)
  · have hD : some ((0 : Int32), h1, c01, c11, sl u 0 0 (r1.toInt64)) = some (rr, h', c0', c1', u') := hD
    obtain ⟨rfl, rfl, rfl, rfl, rfl⟩ := es5 hD
    refine lrV (Wf := fun z => Wf z m c0 c1 u) (mm := h) (As := [.int x1]) (rest := [.int (0 : Int32), .ref (adu 0)]) Fx0 (c_X9_saveSnapshot l (Wf := fun z0_ z1_ z2_ z3_ => Wf z0_ z1_ z2_ z3_ u) (fun z1_ z2_ z3_ => hLh z1_ z2_ z3_ u) (fun z0_ z2_ z3_ => hL z0_ z2_ z3_ u) (fun z0_ z1_ z3_ => hL0 z0_ z1_ z3_ u) (fun z0_ z1_ z2_ => hL1 z0_ z1_ z2_ u) (fun a0_ b0_ a1_ b1_ a2_ b2_ a3_ b3_ => hAd a0_ b0_ a1_ b1_ a2_ b2_ a3_ b3_ u u) hm1 hm3 hm4 h m c0 c1 x1 hz) hP (hD1 _ (hAd _ _ _ _ _ _ _ _ _ _)) hS (hA1 _ _ (hAd _ _ _ _ _ _ _ _ _ _) hS.1) (hLh m c0 c1 u) (Nat.le_of_ble_eq_true rfl) (hs0 _ _) rfl tw_6_198 tw_6_195 tw_6_196 tw_6_197 tw_1_1 yd_X9_saveSnapshot ⟨(Nat.le_of_ble_eq_true rfl), (Nat.le_of_ble_eq_true rfl)⟩ (by decide) rfl hl.1 rfl (Nat.le_of_ble_eq_true rfl) dL_saveSnapshot_4 (fun H locs hP hS => ?_)
    refine lv_i2l (v := r1.toInt64) hx hb dL_saveSnapshot_7 rfl ?_
    refine rlast (Wf := fun z => Wf h1 m c01 c11 z) (mm := u) hx hb hK hP (hD1 _ (hAd _ _ _ _ _ _ _ _ _ _)) hS (hLu h1 m c01 c11) 0 (Nat.le_of_ble_eq_true rfl) (fun _ => us0 _ _) (by decide) (j := 0) (by decide) dL_saveSnapshot_8 (m2 := sl u 0 0 (r1.toInt64)) rfl (fun H locs hP hS => ?_)
    refine lv_goto (tgt := 15) hx hb dL_saveSnapshot_9 (by decide) ?_
    refine lv_iconst (v := (0 : Int32)) hx hb dL_saveSnapshot_15 (by decide) ?_
    refine W.widen (k := 1) (n := 6) (by decide) (by decide) ?_
    exact hret _ _ _ hP hS (fun Qc hq => W.iret hx hb hr hq hS.2.2 dL_saveSnapshot_16 hlocks)

noncomputable def D_L_restoreSnapshot (x1 : Int32) (h : MM) (m : MM) (c0 : MM) (c1 : MM) (u : MM) : Option (Int32 × MM × MM) := wL (D_X9_restoreSnapshot x1 h m c0 c1) (none) (some ((1 : Int32), m, u)) (fun x => some ((0 : Int32), x.2, sl u 0 0 (x.1.toInt64)))
set_option maxHeartbeats 4000000 in
set_option maxRecDepth 100000 in
theorem c_L_restoreSnapshot (l : Launch) (hst : l.stackTraces = false) {D : va_G} {cs : Nat → ClassId} {adh ad ad0 ad1 adu ma : Nat → Nat} {Wf : MM → MM → MM → MM → MM → va_W} (hLh : ∀ m c0 c1 u : MM, Ln 8 adh (hsh cs adh ma) (fun z => Wf z m c0 c1 u)) (hL : ∀ h c0 c1 u : MM, Ln 51 ad (msh cs ad) (fun z => Wf h z c0 c1 u)) (hL0 : ∀ h m c1 u : MM, Ln 51 ad0 (msh cs ad0) (fun z => Wf h m z c1 u)) (hL1 : ∀ h m c0 u : MM, Ln 51 ad1 (msh cs ad1) (fun z => Wf h m c0 z u)) (hLu : ∀ h m c0 c1 : MM, Ln 1 adu (ush cs) (fun z => Wf h m c0 c1 z)) (hAd : ∀ a0_ b0_ a1_ b1_ a2_ b2_ a3_ b3_ a4_ b4_ : MM, (Wf a0_ a1_ a2_ a3_ a4_).map (fun q => q.1) = (Wf b0_ b1_ b2_ b3_ b4_).map (fun q => q.1)) (hm1 : ma 1 = ad 24) (hm3 : ma 3 = ad0 24) (hm4 : ma 4 = ad1 24) (h : MM) (m : MM) (c0 : MM) (c1 : MM) (u : MM) (x1 : Int32) {rr : Int32} {m' : MM} {u' : MM} (hD : D_L_restoreSnapshot x1 h m c0 c1 u = some (rr, m', u')) : CtL l yL_restoreSnapshot cL_restoreSnapshot 4 [(0, 9, 12, 13)] 8 128 D cs [.ref (adh 0), .int x1, .ref (adu 0)] (Wf h m c0 c1 u) (Wf h m' c0 c1 u') (some (.int rr)) := by
  refine CtL.ofW (by decide) (Nat.le_of_ble_eq_true rfl) (hAd _ _ _ _ _ _ _ _ _ _) ?_
  intro p e s m0 below meth c A Q ls args hx hb hr hml hlocks hown hex hT hK hP hD1 hSS hS hA1 hl hret
  have Fx0 : Fl p m0 c cL_restoreSnapshot 4 s args RL D cs A := ⟨hx, hb, hml, hown, hT, hK, hSS⟩
  have hown : s.vm.findClass RL = some m0.cls := hown
  have hl : lv_has ls 4 [(0, .ref (adh 0)), (1, .int x1), (2, .ref (adu 0))] := hl
  unfold D_L_restoreSnapshot at hD
  refine lv_aload_n hx hb dL_restoreSnapshot_0 rfl (lv_at hl 2 rfl) ?_
  refine lv_iconst (v := (0 : Int32)) hx hb dL_restoreSnapshot_1 (by decide) ?_
  refine lv_aload_n hx hb dL_restoreSnapshot_2 rfl (lv_at hl 0 rfl) ?_
  refine lv_iload_n hx hb dL_restoreSnapshot_3 rfl (lv_at hl 1 rfl) ?_
  rcases wL_el hD with ⟨hz, hD⟩ | ⟨kx, hz, hD⟩ | ⟨⟨r1, m1⟩, hz, hD⟩
  · exact nn_el hD
  · obtain ⟨rfl, rfl, rfl⟩ := es3 hD
    refine lrX (Wf := fun z => Wf z m c0 c1 u) (mm := h) (As := [.int x1]) (rest := [.int (0 : Int32), .ref (adu 0)]) Fx0 (x_X9_restoreSnapshot l hst (Wf := fun z0_ z1_ z2_ z3_ => Wf z0_ z1_ z2_ z3_ u) (fun z1_ z2_ z3_ => hLh z1_ z2_ z3_ u) (fun z0_ z2_ z3_ => hL z0_ z2_ z3_ u) (fun z0_ z1_ z3_ => hL0 z0_ z1_ z3_ u) (fun z0_ z1_ z2_ => hL1 z0_ z1_ z2_ u) (fun a0_ b0_ a1_ b1_ a2_ b2_ a3_ b3_ => hAd a0_ b0_ a1_ b1_ a2_ b2_ a3_ b3_ u u) hm1 hm3 hm4 h m c0 c1 x1 hz) hP (hD1 _ (hAd _ _ _ _ _ _ _ _ _ _)) hS (hA1 _ _ (hAd _ _ _ _ _ _ _ _ _ _) hS.1) (hLh m c0 c1 u) (Nat.le_of_ble_eq_true rfl) (hs0 _ _) rfl tw_6_205 tw_6_202 tw_6_203 tw_6_204 tw_1_1 yd_X9_restoreSnapshot ⟨(Nat.le_of_ble_eq_true rfl), (Nat.le_of_ble_eq_true rfl)⟩ (by decide) rfl hl.1 rfl (Nat.le_of_ble_eq_true rfl) dL_restoreSnapshot_4 [] (⟨0, 9, 12, 13⟩ : ExceptionTableEntry) [] hex (fun z hz => nomatch hz) rfl (by decide) tw_5_45 tw_5_52 (fun H locs q9 hP hS => ?_)
    refine lv_astore_n (lv' := [(3, .ref q9), (0, .ref (adh 0)), (1, .int x1), (2, .ref (adu 0))]) hx hb dL_restoreSnapshot_12 rfl hl (by decide) rfl (fun ls hl => ?_)
    refine lv_iconst (v := (1 : Int32)) hx hb dL_restoreSnapshot_13 (by decide) ?_
    exact hret _ _ _ hP hS (fun Qc hq => W.iret hx hb hr hq hS.2.2 dL_restoreSnapshot_14 hlocks)
  · have hD : some ((0 : Int32), m1, sl u 0 0 (r1.toInt64)) = some (rr, m', u') := hD
    obtain ⟨rfl, rfl, rfl⟩ := es3 hD
    refine lrV (Wf := fun z => Wf z m c0 c1 u) (mm := h) (As := [.int x1]) (rest := [.int (0 : Int32), .ref (adu 0)]) Fx0 (c_X9_restoreSnapshot l (Wf := fun z0_ z1_ z2_ z3_ => Wf z0_ z1_ z2_ z3_ u) (fun z1_ z2_ z3_ => hLh z1_ z2_ z3_ u) (fun z0_ z2_ z3_ => hL z0_ z2_ z3_ u) (fun z0_ z1_ z3_ => hL0 z0_ z1_ z3_ u) (fun z0_ z1_ z2_ => hL1 z0_ z1_ z2_ u) (fun a0_ b0_ a1_ b1_ a2_ b2_ a3_ b3_ => hAd a0_ b0_ a1_ b1_ a2_ b2_ a3_ b3_ u u) hm1 hm3 hm4 h m c0 c1 x1 hz) hP (hD1 _ (hAd _ _ _ _ _ _ _ _ _ _)) hS (hA1 _ _ (hAd _ _ _ _ _ _ _ _ _ _) hS.1) (hLh m c0 c1 u) (Nat.le_of_ble_eq_true rfl) (hs0 _ _) rfl tw_6_205 tw_6_202 tw_6_203 tw_6_204 tw_1_1 yd_X9_restoreSnapshot ⟨(Nat.le_of_ble_eq_true rfl), (Nat.le_of_ble_eq_true rfl)⟩ (by decide) rfl hl.1 rfl (Nat.le_of_ble_eq_true rfl) dL_restoreSnapshot_4 (fun H locs hP hS => ?_)
    refine lv_i2l (v := r1.toInt64) hx hb dL_restoreSnapshot_7 rfl ?_
    refine rlast (Wf := fun z => Wf h m1 c0 c1 z) (mm := u) hx hb hK hP (hD1 _ (hAd _ _ _ _ _ _ _ _ _ _)) hS (hLu h m1 c0 c1) 0 (Nat.le_of_ble_eq_true rfl) (fun _ => us0 _ _) (by decide) (j := 0) (by decide) dL_restoreSnapshot_8 (m2 := sl u 0 0 (r1.toInt64)) rfl (fun H locs hP hS => ?_)
    refine lv_goto (tgt := 15) hx hb dL_restoreSnapshot_9 (by decide) ?_
    refine lv_iconst (v := (0 : Int32)) hx hb dL_restoreSnapshot_15 (by decide) ?_
    refine W.widen (k := 1) (n := 6) (by decide) (by decide) ?_
    exact hret _ _ _ hP hS (fun Qc hq => W.iret hx hb hr hq hS.2.2 dL_restoreSnapshot_16 hlocks)
