/-! texts -/
noncomputable def D_J0_coder_7d493 (q0 : Nat) : Option Int32 := some ((0 : Int32))
set_option maxHeartbeats 4000000 in
set_option maxRecDepth 100000 in
theorem c_J0_coder_7d493 (l : Launch) {D : va_G} {cs : Nat → ClassId} {w : va_W} (q0 : Nat) (haq0 : q0 < 12) {rr : Int32} (hD : D_J0_coder_7d493 q0 = some (rr)) : Ct l yJ0_coder_7d493 cJ0_coder_7d493 1 (some .byte) 0 0 D cs [.ref (sK D q0)] (w) (w) (some (.int rr)) := by
  refine Ct.ofW (by decide) (Nat.le_of_ble_eq_true rfl) rfl ?_
  intro p e s m0 below meth c A Q ls args hx hb hr hml hlocks hown hts hK hP hD1 hSS hS hA1 hl hret
  have hT : ∀ w ∈ TBL, w.before args s = true := fun w h => hts w (List.mem_cons_of_mem _ h)
  have Fx0 : Fx p l m0 c cJ0_coder_7d493 1 s args yJ0_coder_7d493 cJ0_coder_7d493 1 (some .byte) D cs A := ⟨hx, hb, hml, hown, hts, hK, hSS⟩
  have hown : s.vm.findClass RJ0 = some m0.cls := hown
  have hl : lv_has ls 1 [(0, .ref (sK D q0))] := hl
  unfold D_J0_coder_7d493 at hD
  refine rgz hx hb hSS hS hown (Fx0.T tw_3_68) dJ0_coder_7d493_0 ?_
  refine lv_if_eq (tgt := 13) hx hb dJ0_coder_7d493_3 (by decide) (fun c => absurd c (by decide)) (fun _ => ?_)
  refine lv_aload_n hx hb dJ0_coder_7d493_6 rfl (lv_at hl 0 rfl) ?_
  refine rsc hx hb haq0 hSS hS hown (Fx0.T tw_5_1) dJ0_coder_7d493_7 ?_
  refine lv_goto (tgt := 14) hx hb dJ0_coder_7d493_10 (by decide) ?_
  cases hD
  exact hret _ _ _ hP hS (fun Qc hq => W.zret hx hb hr rfl hq hS.2.2 dJ0_coder_7d493_14 hlocks)

noncomputable def D_J0_isLatin1_aae02 (q0 : Nat) : Option Int32 := some ((1 : Int32))
set_option maxHeartbeats 4000000 in
set_option maxRecDepth 100000 in
theorem c_J0_isLatin1_aae02 (l : Launch) {D : va_G} {cs : Nat → ClassId} {w : va_W} (q0 : Nat) (haq0 : q0 < 12) {rr : Int32} (hD : D_J0_isLatin1_aae02 q0 = some (rr)) : Ct l yJ0_isLatin1_aae02 cJ0_isLatin1_aae02 1 (some .boolean) 0 0 D cs [.ref (sK D q0)] (w) (w) (some (.int rr)) := by
  refine Ct.ofW (by decide) (Nat.le_of_ble_eq_true rfl) rfl ?_
  intro p e s m0 below meth c A Q ls args hx hb hr hml hlocks hown hts hK hP hD1 hSS hS hA1 hl hret
  have hT : ∀ w ∈ TBL, w.before args s = true := fun w h => hts w (List.mem_cons_of_mem _ h)
  have Fx0 : Fx p l m0 c cJ0_isLatin1_aae02 1 s args yJ0_isLatin1_aae02 cJ0_isLatin1_aae02 1 (some .boolean) D cs A := ⟨hx, hb, hml, hown, hts, hK, hSS⟩
  have hown : s.vm.findClass RJ0 = some m0.cls := hown
  have hl : lv_has ls 1 [(0, .ref (sK D q0))] := hl
  unfold D_J0_isLatin1_aae02 at hD
  refine rgz hx hb hSS hS hown (Fx0.T tw_3_68) dJ0_isLatin1_aae02_0 ?_
  refine lv_if_eq (tgt := 17) hx hb dJ0_isLatin1_aae02_3 (by decide) (fun c => absurd c (by decide)) (fun _ => ?_)
  refine lv_aload_n hx hb dJ0_isLatin1_aae02_6 rfl (lv_at hl 0 rfl) ?_
  refine rsc hx hb haq0 hSS hS hown (Fx0.T tw_5_1) dJ0_isLatin1_aae02_7 ?_
  refine lv_if_ne (tgt := 17) hx hb dJ0_isLatin1_aae02_10 (by decide) (fun c => absurd c (by decide)) (fun _ => ?_)
  refine lv_iconst (v := (1 : Int32)) hx hb dJ0_isLatin1_aae02_13 (by decide) ?_
  refine lv_goto (tgt := 18) hx hb dJ0_isLatin1_aae02_14 (by decide) ?_
  cases hD
  exact hret _ _ _ hP hS (fun Qc hq => W.zret hx hb hr rfl hq hS.2.2 dJ0_isLatin1_aae02_18 hlocks)

noncomputable def D_J0_length_8abf5 (q0 : Nat) : Option Int32 := b1 (D_J0_coder_7d493 q0) (fun v1 => some (((Int32.ofNat (strL q0)) >>> (v1 &&& 31))))
set_option maxHeartbeats 4000000 in
set_option maxRecDepth 100000 in
theorem c_J0_length_8abf5 (l : Launch) {D : va_G} {cs : Nat → ClassId} {w : va_W} (q0 : Nat) (haq0 : q0 < 12) {rr : Int32} (hD : D_J0_length_8abf5 q0 = some (rr)) : Ct l yJ0_length_8abf5 cJ0_length_8abf5 1 (some .int) 1 20 D cs [.ref (sK D q0)] (w) (w) (some (.int rr)) := by
  refine Ct.ofW (by decide) (Nat.le_of_ble_eq_true rfl) rfl ?_
  intro p e s m0 below meth c A Q ls args hx hb hr hml hlocks hown hts hK hP hD1 hSS hS hA1 hl hret
  have hT : ∀ w ∈ TBL, w.before args s = true := fun w h => hts w (List.mem_cons_of_mem _ h)
  have Fx0 : Fx p l m0 c cJ0_length_8abf5 1 s args yJ0_length_8abf5 cJ0_length_8abf5 1 (some .int) D cs A := ⟨hx, hb, hml, hown, hts, hK, hSS⟩
  have hown : s.vm.findClass RJ0 = some m0.cls := hown
  have hl : lv_has ls 1 [(0, .ref (sK D q0))] := hl
  unfold D_J0_length_8abf5 at hD
  refine lv_aload_n hx hb dJ0_length_8abf5_0 rfl (lv_at hl 0 rfl) ?_
  refine rsv hx hb haq0 hSS hS hown (Fx0.T tw_5_0) dJ0_length_8abf5_1 ?_
  refine rtl hx hb haq0 hSS hS dJ0_length_8abf5_4 ?_
  refine lv_aload_n hx hb dJ0_length_8abf5_5 rfl (lv_at hl 0 rfl) ?_
  obtain ⟨v1, z2, hD⟩ := b1_el hD
  refine rcT (As := []) (rest := [.int (Int32.ofNat (strL q0))]) Fx0 haq0 (c_J0_coder_7d493 l q0 haq0 z2) hP (hD1 _ rfl) hS (hA1 _ _ rfl hS.1) tw_3_67 tw_3_64 tw_3_65 tw_3_66 tw_1_15 yd_J0_coder_7d493 ⟨(Nat.le_of_ble_eq_true rfl), (Nat.le_of_ble_eq_true rfl)⟩ rfl hl.1 rfl (Nat.le_of_ble_eq_true rfl) dJ0_length_8abf5_6 (fun H locs hP hS => ?_)
  refine lv_ishr hx hb dJ0_length_8abf5_9 ?_
  cases hD
  exact hret _ _ _ hP hS (fun Qc hq => W.iret hx hb hr hq hS.2.2 dJ0_length_8abf5_10 hlocks)

noncomputable def D_J3_checkIndex_8e157 (x0 : Int32) (x1 : Int32) : Option Int32 := if x0 < 0 then (none) else (if x0 < x1 then (some (x0)) else (none))
set_option maxHeartbeats 4000000 in
set_option maxRecDepth 100000 in
theorem c_J3_checkIndex_8e157_n (l : Launch) {D : va_G} {cs : Nat → ClassId} {w : va_W} (x0 : Int32) (x1 : Int32) {rr : Int32} (hD : D_J3_checkIndex_8e157 x0 x1 = some (rr)) : Ct l yJ3_checkIndex_8e157 cJ3_checkIndex_8e157 3 (some .int) 0 0 D cs [.int x0, .int x1, .null] (w) (w) (some (.int rr)) := by
  refine Ct.ofW (by decide) (Nat.le_of_ble_eq_true rfl) rfl ?_
  intro p e s m0 below meth c A Q ls args hx hb hr hml hlocks hown hts hK hP hD1 hSS hS hA1 hl hret
  have hT : ∀ w ∈ TBL, w.before args s = true := fun w h => hts w (List.mem_cons_of_mem _ h)
  have Fx0 : Fx p l m0 c cJ3_checkIndex_8e157 3 s args yJ3_checkIndex_8e157 cJ3_checkIndex_8e157 3 (some .int) D cs A := ⟨hx, hb, hml, hown, hts, hK, hSS⟩
  have hown : s.vm.findClass RJ3 = some m0.cls := hown
  have hl : lv_has ls 3 [(0, .int x0), (1, .int x1), (2, .null)] := hl
  unfold D_J3_checkIndex_8e157 at hD
  refine lv_iload_n hx hb dJ3_checkIndex_8e157_0 rfl (lv_at hl 0 rfl) ?_
  refine lv_if_lt (tgt := 9) hx hb dJ3_checkIndex_8e157_1 (by decide) (fun c => ?_) (fun c => ?_)
  · have hD := ifp hD c
    exact nn_el hD
  · have hD := ifn hD c
    refine lv_iload_n hx hb dJ3_checkIndex_8e157_4 rfl (lv_at hl 0 rfl) ?_
    refine lv_iload_n hx hb dJ3_checkIndex_8e157_5 rfl (lv_at hl 1 rfl) ?_
    refine lv_icmp_lt (tgt := 16) hx hb dJ3_checkIndex_8e157_6 (by decide) (fun c => ?_) (fun c => ?_)
    · have hD := ifp hD c
      refine lv_iload_n hx hb dJ3_checkIndex_8e157_16 rfl (lv_at hl 0 rfl) ?_
      cases hD
      exact hret _ _ _ hP hS (fun Qc hq => W.iret hx hb hr hq hS.2.2 dJ3_checkIndex_8e157_17 hlocks)
    · have hD := ifn hD c
      exact nn_el hD

set_option maxHeartbeats 4000000 in
set_option maxRecDepth 100000 in
theorem c_J3_checkIndex_8e157_r (l : Launch) {D : va_G} {cs : Nat → ClassId} {w : va_W} (x0 : Int32) (x1 : Int32) (t2 : Nat) {rr : Int32} (hD : D_J3_checkIndex_8e157 x0 x1 = some (rr)) : Ct l yJ3_checkIndex_8e157 cJ3_checkIndex_8e157 3 (some .int) 0 0 D cs [.int x0, .int x1, .ref t2] (w) (w) (some (.int rr)) := by
  refine Ct.ofW (by decide) (Nat.le_of_ble_eq_true rfl) rfl ?_
  intro p e s m0 below meth c A Q ls args hx hb hr hml hlocks hown hts hK hP hD1 hSS hS hA1 hl hret
  have hT : ∀ w ∈ TBL, w.before args s = true := fun w h => hts w (List.mem_cons_of_mem _ h)
  have Fx0 : Fx p l m0 c cJ3_checkIndex_8e157 3 s args yJ3_checkIndex_8e157 cJ3_checkIndex_8e157 3 (some .int) D cs A := ⟨hx, hb, hml, hown, hts, hK, hSS⟩
  have hown : s.vm.findClass RJ3 = some m0.cls := hown
  have hl : lv_has ls 3 [(0, .int x0), (1, .int x1), (2, .ref t2)] := hl
  unfold D_J3_checkIndex_8e157 at hD
  refine lv_iload_n hx hb dJ3_checkIndex_8e157_0 rfl (lv_at hl 0 rfl) ?_
  refine lv_if_lt (tgt := 9) hx hb dJ3_checkIndex_8e157_1 (by decide) (fun c => ?_) (fun c => ?_)
  · have hD := ifp hD c
    exact nn_el hD
  · have hD := ifn hD c
    refine lv_iload_n hx hb dJ3_checkIndex_8e157_4 rfl (lv_at hl 0 rfl) ?_
    refine lv_iload_n hx hb dJ3_checkIndex_8e157_5 rfl (lv_at hl 1 rfl) ?_
    refine lv_icmp_lt (tgt := 16) hx hb dJ3_checkIndex_8e157_6 (by decide) (fun c => ?_) (fun c => ?_)
    · have hD := ifp hD c
      refine lv_iload_n hx hb dJ3_checkIndex_8e157_16 rfl (lv_at hl 0 rfl) ?_
      cases hD
      exact hret _ _ _ hP hS (fun Qc hq => W.iret hx hb hr hq hS.2.2 dJ3_checkIndex_8e157_17 hlocks)
    · have hD := ifn hD c
      exact nn_el hD

noncomputable def D_J0_checkIndex_df160 (x0 : Int32) (x1 : Int32) : Option Unit := b1 (D_J3_checkIndex_8e157 x0 x1) (fun v1 => some ())
set_option maxHeartbeats 4000000 in
set_option maxRecDepth 100000 in
theorem c_J0_checkIndex_df160 (l : Launch) {D : va_G} {cs : Nat → ClassId} {w : va_W} (x0 : Int32) (x1 : Int32) (hD : D_J0_checkIndex_df160 x0 x1 = some ()) : Ct l yJ0_checkIndex_df160 cJ0_checkIndex_df160 2 none 1 22 D cs [.int x0, .int x1] (w) (w) (none) := by
  refine Ct.ofW (by decide) (Nat.le_of_ble_eq_true rfl) rfl ?_
  intro p e s m0 below meth c A Q ls args hx hb hr hml hlocks hown hts hK hP hD1 hSS hS hA1 hl hret
  have hT : ∀ w ∈ TBL, w.before args s = true := fun w h => hts w (List.mem_cons_of_mem _ h)
  have Fx0 : Fx p l m0 c cJ0_checkIndex_df160 2 s args yJ0_checkIndex_df160 cJ0_checkIndex_df160 2 none D cs A := ⟨hx, hb, hml, hown, hts, hK, hSS⟩
  have hown : s.vm.findClass RJ0 = some m0.cls := hown
  have hl : lv_has ls 2 [(0, .int x0), (1, .int x1)] := hl
  unfold D_J0_checkIndex_df160 at hD
  refine lv_iload_n hx hb dJ0_checkIndex_df160_0 rfl (lv_at hl 0 rfl) ?_
  refine lv_iload_n hx hb dJ0_checkIndex_df160_1 rfl (lv_at hl 1 rfl) ?_
  rcases hSS.2.2.2.2.1 with hz | ⟨t9, hz⟩
  · refine va_gets hx hb hz hS hown (Fx0.T tw_3_84) (fun _ h => h) dJ0_checkIndex_df160_2 ?_
    obtain ⟨v1, z2, hD⟩ := b1_el hD
    refine rcS (As := [.int x0, .int x1, .null]) (rest := []) Fx0 (c_J3_checkIndex_8e157_n l x0 x1 z2) hP (hD1 _ rfl) hS (hA1 _ _ rfl hS.1) tw_3_88 tw_3_86 tw_3_87 tw_1_19 yd_J3_checkIndex_8e157 ⟨(Nat.le_of_ble_eq_true rfl), (Nat.le_of_ble_eq_true rfl)⟩ rfl hl.1 rfl (Nat.le_of_ble_eq_true rfl) dJ0_checkIndex_df160_5 (fun H locs hP hS => ?_)
    refine lv_pop hx hb dJ0_checkIndex_df160_8 rfl ?_
    cases hD
    exact hret _ _ _ hP hS (fun Qc hq => W.vret hx hb hr hq hS.2.2 dJ0_checkIndex_df160_9 hlocks)
  · refine va_gets hx hb hz hS hown (Fx0.T tw_3_84) (fun _ h => h) dJ0_checkIndex_df160_2 ?_
    obtain ⟨v3, z4, hD⟩ := b1_el hD
    refine rcS (As := [.int x0, .int x1, .ref t9]) (rest := []) Fx0 (c_J3_checkIndex_8e157_r l x0 x1 t9 z4) hP (hD1 _ rfl) hS (hA1 _ _ rfl hS.1) tw_3_88 tw_3_86 tw_3_87 tw_1_19 yd_J3_checkIndex_8e157 ⟨(Nat.le_of_ble_eq_true rfl), (Nat.le_of_ble_eq_true rfl)⟩ rfl hl.1 rfl (Nat.le_of_ble_eq_true rfl) dJ0_checkIndex_df160_5 (fun H locs hP hS => ?_)
    refine lv_pop hx hb dJ0_checkIndex_df160_8 rfl ?_
    cases hD
    exact hret _ _ _ hP hS (fun Qc hq => W.vret hx hb hr hq hS.2.2 dJ0_checkIndex_df160_9 hlocks)

noncomputable def D_J1_charAt_3b067 (q0 : Nat) (x1 : Int32) : Option Int32 := b1 (D_J0_checkIndex_df160 x1 (Int32.ofNat (strL q0))) (fun _ => if x1 < 0 ∨ strL q0 ≤ x1.toNatClampNeg then none else (if vp_nar .char ((((strC q0 x1.toNatClampNeg) &&& (255 : Int32)).toUInt32 % 65536).toInt32) = (((strC q0 x1.toNatClampNeg) &&& (255 : Int32)).toUInt32 % 65536).toInt32 then some ((((strC q0 x1.toNatClampNeg) &&& (255 : Int32)).toUInt32 % 65536).toInt32) else none))
set_option maxHeartbeats 4000000 in
set_option maxRecDepth 100000 in
theorem c_J1_charAt_3b067 (l : Launch) {D : va_G} {cs : Nat → ClassId} {w : va_W} (q0 : Nat) (haq0 : q0 < 12) (x1 : Int32) {rr : Int32} (hD : D_J1_charAt_3b067 q0 x1 = some (rr)) : Ct l yJ1_charAt_3b067 cJ1_charAt_3b067 2 (some .char) 2 43 D cs [.ref (sV D q0), .int x1] (w) (w) (some (.int rr)) := by
  refine Ct.ofW (by decide) (Nat.le_of_ble_eq_true rfl) rfl ?_
  intro p e s m0 below meth c A Q ls args hx hb hr hml hlocks hown hts hK hP hD1 hSS hS hA1 hl hret
  have hT : ∀ w ∈ TBL, w.before args s = true := fun w h => hts w (List.mem_cons_of_mem _ h)
  have Fx0 : Fx p l m0 c cJ1_charAt_3b067 2 s args yJ1_charAt_3b067 cJ1_charAt_3b067 2 (some .char) D cs A := ⟨hx, hb, hml, hown, hts, hK, hSS⟩
  have hown : s.vm.findClass RJ1 = some m0.cls := hown
  have hl : lv_has ls 2 [(0, .ref (sV D q0)), (1, .int x1)] := hl
  unfold D_J1_charAt_3b067 at hD
  refine lv_iload_n hx hb dJ1_charAt_3b067_0 rfl (lv_at hl 1 rfl) ?_
  refine lv_aload_n hx hb dJ1_charAt_3b067_1 rfl (lv_at hl 0 rfl) ?_
  refine rtl hx hb haq0 hSS hS dJ1_charAt_3b067_2 ?_
  obtain ⟨u_, z1, hD⟩ := b1_el hD
  refine rcS (As := [.int x1, .int (Int32.ofNat (strL q0))]) (rest := []) Fx0 (c_J0_checkIndex_df160 l x1 (Int32.ofNat (strL q0)) z1) hP (hD1 _ rfl) hS (hA1 _ _ rfl hS.1) tw_3_83 tw_3_81 tw_3_82 tw_1_15 yd_J0_checkIndex_df160 ⟨(Nat.le_of_ble_eq_true rfl), (Nat.le_of_ble_eq_true rfl)⟩ rfl hl.1 rfl (Nat.le_of_ble_eq_true rfl) dJ1_charAt_3b067_3 (fun H locs hP hS => ?_)
  refine lv_aload_n hx hb dJ1_charAt_3b067_6 rfl (lv_at hl 0 rfl) ?_
  refine lv_iload_n hx hb dJ1_charAt_3b067_7 rfl (lv_at hl 1 rfl) ?_
  obtain ⟨h2, hD⟩ := gd_el hD
  refine rtb hx hb haq0 hSS hS h2 rfl dJ1_charAt_3b067_8 ?_
  refine lv_sipush (v := (255 : Int32)) hx hb dJ1_charAt_3b067_9 (by decide) ?_
  refine lv_iand hx hb dJ1_charAt_3b067_12 ?_
  refine lv_i2c (v := (((strC q0 x1.toNatClampNeg) &&& (255 : Int32)).toUInt32 % 65536).toInt32) hx hb dJ1_charAt_3b067_13 rfl ?_
  obtain ⟨h3, hD⟩ := gb_el hD
  cases hD
  exact hret _ _ _ hP hS (fun Qc hq => W.zret hx hb hr (nch h3) hq hS.2.2 dJ1_charAt_3b067_14 hlocks)

noncomputable def D_J0_charAt_5068e (q0 : Nat) (x1 : Int32) : Option Int32 := b1 (D_J0_isLatin1_aae02 q0) (fun v1 => if v1 = 0 then (none) else (b1 (D_J1_charAt_3b067 q0 x1) (fun v3 => if vp_nar .char v3 = v3 then some (v3) else none)))
set_option maxHeartbeats 4000000 in
set_option maxRecDepth 100000 in
theorem c_J0_charAt_5068e (l : Launch) {D : va_G} {cs : Nat → ClassId} {w : va_W} (q0 : Nat) (haq0 : q0 < 12) (x1 : Int32) {rr : Int32} (hD : D_J0_charAt_5068e q0 x1 = some (rr)) : Ct l yJ0_charAt_5068e cJ0_charAt_5068e 2 (some .char) 3 64 D cs [.ref (sK D q0), .int x1] (w) (w) (some (.int rr)) := by
  refine Ct.ofW (by decide) (Nat.le_of_ble_eq_true rfl) rfl ?_
  intro p e s m0 below meth c A Q ls args hx hb hr hml hlocks hown hts hK hP hD1 hSS hS hA1 hl hret
  have hT : ∀ w ∈ TBL, w.before args s = true := fun w h => hts w (List.mem_cons_of_mem _ h)
  have Fx0 : Fx p l m0 c cJ0_charAt_5068e 2 s args yJ0_charAt_5068e cJ0_charAt_5068e 2 (some .char) D cs A := ⟨hx, hb, hml, hown, hts, hK, hSS⟩
  have hown : s.vm.findClass RJ0 = some m0.cls := hown
  have hl : lv_has ls 2 [(0, .ref (sK D q0)), (1, .int x1)] := hl
  unfold D_J0_charAt_5068e at hD
  refine lv_aload_n hx hb dJ0_charAt_5068e_0 rfl (lv_at hl 0 rfl) ?_
  obtain ⟨v1, z2, hD⟩ := b1_el hD
  refine rcT (As := []) (rest := []) Fx0 haq0 (c_J0_isLatin1_aae02 l q0 haq0 z2) hP (hD1 _ rfl) hS (hA1 _ _ rfl hS.1) tw_3_77 tw_3_74 tw_3_75 tw_3_76 tw_1_15 yd_J0_isLatin1_aae02 ⟨(Nat.le_of_ble_eq_true rfl), (Nat.le_of_ble_eq_true rfl)⟩ rfl hl.1 rfl (Nat.le_of_ble_eq_true rfl) dJ0_charAt_5068e_1 (fun H locs hP hS => ?_)
  refine lv_if_eq (tgt := 16) hx hb dJ0_charAt_5068e_4 (by decide) (fun c => ?_) (fun c => ?_)
  · have hD := ifp hD c
    refine lv_aload_n hx hb dJ0_charAt_5068e_16 rfl (lv_at hl 0 rfl) ?_
    refine rsv hx hb haq0 hSS hS hown (Fx0.T tw_5_0) dJ0_charAt_5068e_17 ?_
    refine lv_iload_n hx hb dJ0_charAt_5068e_20 rfl (lv_at hl 1 rfl) ?_
    exact nn_el hD
  · have hD := ifn hD c
    refine lv_aload_n hx hb dJ0_charAt_5068e_7 rfl (lv_at hl 0 rfl) ?_
    refine rsv hx hb haq0 hSS hS hown (Fx0.T tw_5_0) dJ0_charAt_5068e_8 ?_
    refine lv_iload_n hx hb dJ0_charAt_5068e_11 rfl (lv_at hl 1 rfl) ?_
    obtain ⟨v3, z4, hD⟩ := b1_el hD
    refine rcS (As := [.ref (sV D q0), .int x1]) (rest := []) Fx0 (c_J1_charAt_3b067 l q0 haq0 x1 z4) hP (hD1 _ rfl) hS (hA1 _ _ rfl hS.1) tw_3_80 tw_3_78 tw_3_79 tw_1_20 yd_J1_charAt_3b067 ⟨(Nat.le_of_ble_eq_true rfl), (Nat.le_of_ble_eq_true rfl)⟩ rfl hl.1 rfl (Nat.le_of_ble_eq_true rfl) dJ0_charAt_5068e_12 (fun H locs hP hS => ?_)
    obtain ⟨h5, hD⟩ := gb_el hD
    cases hD
    exact hret _ _ _ hP hS (fun Qc hq => W.zret hx hb hr (nch h5) hq hS.2.2 dJ0_charAt_5068e_15 hlocks)
