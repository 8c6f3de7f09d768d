/-! the methods of one machine -/
noncomputable def D_X6_addType (x1 : Int32) (m : MM) : Option MM := if (6 : Int32) ≤ (gi m 24 3) then (some (m)) else (if (gi m 24 3) < 0 ∨ 6 ≤ (gi m 24 3).toNatClampNeg then none else (bnd (si m 27 ((gi m 24 3).toNatClampNeg) x1) (fun m2 => bnd (si m2 24 3 ((gi m2 24 3) + (1 : Int32))) (fun m3 => some (m3)))))
set_option maxHeartbeats 4000000 in
set_option maxRecDepth 100000 in
theorem c_X6_addType (l : Launch) {D : va_G} {cs : Nat → ClassId} {ad : Nat → Nat} {Wf : MM → va_W} (hL : Ln 51 ad (msh cs ad) Wf) (hAd : ∀ a0_ b0_ : MM, (Wf a0_).map (fun q => q.1) = (Wf b0_).map (fun q => q.1)) (m : MM) (x1 : Int32) {m' : MM} (hD : D_X6_addType x1 m = some (m')) : Ct l yX6_addType cX6_addType 2 none 0 0 D cs [.ref (ad 24), .int x1] (Wf m) (Wf m') (none) := by
  refine Ct.ofW (by decide) (Nat.le_of_ble_eq_true rfl) (hAd _ _) ?_
  intro p e s m0 below meth c A Q ls args hx hb hr hml hlocks hown hts hK hP hD1 hSS hS hA1 hl hret
  have hT : ∀ w ∈ TBL, w.before args s = true := fun w h => hts w (List.mem_cons_of_mem _ h)
  have Fx0 : Fx p l m0 c cX6_addType 2 s args yX6_addType cX6_addType 2 none D cs A := ⟨hx, hb, hml, hown, hts, hK, hSS⟩
  have hown : s.vm.findClass RX6 = some m0.cls := hown
  have hl : lv_has ls 2 [(0, .ref (ad 24)), (1, .int x1)] := hl
  unfold D_X6_addType at hD
  refine lv_aload_n hx hb dX6_addType_0 rfl (lv_at hl 0 rfl) ?_
  refine rg  hx hb hT hu6 hown hK hP hL 24 3 (Nat.le_of_ble_eq_true rfl) (ms24 _ _) rfl (Nat.le_of_ble_eq_true rfl) (Fx0.T tw_2_85) rfl (v := .int (gi m 24 3)) rfl dX6_addType_1 ?_
  refine lv_bipush (v := (6 : Int32)) hx hb dX6_addType_4 (by decide) ?_
  refine lv_icmp_ge (tgt := 29) hx hb dX6_addType_6 (by decide) (fun c => ?_) (fun c => ?_)
  · have hD := ifp hD c
    cases hD
    exact hret _ _ _ hP hS (fun Qc hq => W.vret hx hb hr hq hS.2.2 dX6_addType_29 hlocks)
  · have hD := ifn hD c
    refine lv_aload_n hx hb dX6_addType_9 rfl (lv_at hl 0 rfl) ?_
    refine rg  hx hb hT hu6 hown hK hP hL 24 4 (Nat.le_of_ble_eq_true rfl) (ms24 _ _) rfl (Nat.le_of_ble_eq_true rfl) (Fx0.T tw_2_88) rfl (v := .ref (ad 27)) rfl dX6_addType_10 ?_
    refine lv_aload_n hx hb dX6_addType_13 rfl (lv_at hl 0 rfl) ?_
    refine rg  hx hb hT hu6 hown hK hP hL 24 3 (Nat.le_of_ble_eq_true rfl) (ms24 _ _) rfl (Nat.le_of_ble_eq_true rfl) (Fx0.T tw_2_85) rfl (v := .int (gi m 24 3)) rfl dX6_addType_14 ?_
    refine lv_iload_n hx hb dX6_addType_17 rfl (lv_at hl 1 rfl) ?_
    obtain ⟨h1, hD⟩ := gd_el hD
    obtain ⟨m2, em2, hD⟩ := bnd_el hD
    refine riast  hx hb hK hP (hD1 _ (hAd _ _)) hS hL 27 (Nat.le_of_ble_eq_true rfl) (fun _ => ms27 _ _) h1 rfl dX6_addType_18 em2 (fun H locs hP hS => ?_)
    refine lv_aload_n hx hb dX6_addType_19 rfl (lv_at hl 0 rfl) ?_
    refine lv_dup hx hb dX6_addType_20 rfl ?_
    refine rg  hx hb hT hu6 hown hK hP hL 24 3 (Nat.le_of_ble_eq_true rfl) (ms24 _ _) rfl (Nat.le_of_ble_eq_true rfl) (Fx0.T tw_2_85) rfl (v := .int (gi m2 24 3)) rfl dX6_addType_21 ?_
    refine lv_iconst (v := (1 : Int32)) hx hb dX6_addType_24 (by decide) ?_
    refine lv_iadd hx hb dX6_addType_25 ?_
    obtain ⟨m3, em3, hD⟩ := bnd_el hD
    refine rp  hx hb hT hu6 tyX6_ok nmX6 hown hK hP (hD1 _ (hAd _ _)) hS hL 24 3 (Nat.le_of_ble_eq_true rfl) (ms24 _ _) (ms24 _ _) rfl (Nat.le_of_ble_eq_true rfl) (Fx0.T tw_2_85) rfl rfl rfl rfl (Nat.le_of_ble_eq_true rfl) dX6_addType_26 em3 (fun H locs hP hS => ?_)
    cases hD
    exact hret _ _ _ hP hS (fun Qc hq => W.vret hx hb hr hq hS.2.2 dX6_addType_29 hlocks)

noncomputable def D_X6_addFeeder (x1 : Int32) (x2 : Int32) (x3 : Int32) (x4 : Int32) (m : MM) : Option MM := if (10 : Int32) ≤ (gi m 24 6) then (some (m)) else (if (gi m 24 6) < 0 ∨ 10 ≤ (gi m 24 6).toNatClampNeg then none else (b1 (D_X2_clear (4 + (gi m 24 6).toNatClampNeg) x1 x2 x3 x4 m) (fun m3 => if x1 < 0 ∨ 8 ≤ x1.toNatClampNeg then none else (if x1 < 0 ∨ 8 ≤ x1.toNatClampNeg then none else (bnd (si m3 30 x1.toNatClampNeg ((gi m3 30 x1.toNatClampNeg) + x3)) (fun m7 => bnd (si m7 24 6 ((gi m7 24 6) + (1 : Int32))) (fun m8 => some (m8))))))))
set_option maxHeartbeats 4000000 in
set_option maxRecDepth 100000 in
theorem c_X6_addFeeder (l : Launch) {D : va_G} {cs : Nat → ClassId} {ad : Nat → Nat} {Wf : MM → va_W} (hL : Ln 51 ad (msh cs ad) Wf) (hAd : ∀ a0_ b0_ : MM, (Wf a0_).map (fun q => q.1) = (Wf b0_).map (fun q => q.1)) (m : MM) (x1 : Int32) (x2 : Int32) (x3 : Int32) (x4 : Int32) {m' : MM} (hD : D_X6_addFeeder x1 x2 x3 x4 m = some (m')) : Ct l yX6_addFeeder cX6_addFeeder 5 none 1 24 D cs [.ref (ad 24), .int x1, .int x2, .int x3, .int x4] (Wf m) (Wf m') (none) := by
  refine Ct.ofW (by decide) (Nat.le_of_ble_eq_true rfl) (hAd _ _) ?_
  intro p e s m0 below meth c A Q ls args hx hb hr hml hlocks hown hts hK hP hD1 hSS hS hA1 hl hret
  have hT : ∀ w ∈ TBL, w.before args s = true := fun w h => hts w (List.mem_cons_of_mem _ h)
  have Fx0 : Fx p l m0 c cX6_addFeeder 5 s args yX6_addFeeder cX6_addFeeder 5 none D cs A := ⟨hx, hb, hml, hown, hts, hK, hSS⟩
  have hown : s.vm.findClass RX6 = some m0.cls := hown
  have hl : lv_has ls 5 [(0, .ref (ad 24)), (1, .int x1), (2, .int x2), (3, .int x3), (4, .int x4)] := hl
  unfold D_X6_addFeeder at hD
  refine lv_aload_n hx hb dX6_addFeeder_0 rfl (lv_at hl 0 rfl) ?_
  refine rg  hx hb hT hu6 hown hK hP hL 24 6 (Nat.le_of_ble_eq_true rfl) (ms24 _ _) rfl (Nat.le_of_ble_eq_true rfl) (Fx0.T tw_2_95) rfl (v := .int (gi m 24 6)) rfl dX6_addFeeder_1 ?_
  refine lv_bipush (v := (10 : Int32)) hx hb dX6_addFeeder_4 (by decide) ?_
  refine lv_icmp_ge (tgt := 49) hx hb dX6_addFeeder_6 (by decide) (fun c => ?_) (fun c => ?_)
  · have hD := ifp hD c
    cases hD
    exact hret _ _ _ hP hS (fun Qc hq => W.vret hx hb hr hq hS.2.2 dX6_addFeeder_49 hlocks)
  · have hD := ifn hD c
    refine lv_aload_n hx hb dX6_addFeeder_9 rfl (lv_at hl 0 rfl) ?_
    refine rg  hx hb hT hu6 hown hK hP hL 24 7 (Nat.le_of_ble_eq_true rfl) (ms24 _ _) rfl (Nat.le_of_ble_eq_true rfl) (Fx0.T tw_2_99) rfl (v := .ref (ad 35)) rfl dX6_addFeeder_10 ?_
    refine lv_aload_n hx hb dX6_addFeeder_13 rfl (lv_at hl 0 rfl) ?_
    refine rg  hx hb hT hu6 hown hK hP hL 24 6 (Nat.le_of_ble_eq_true rfl) (ms24 _ _) rfl (Nat.le_of_ble_eq_true rfl) (Fx0.T tw_2_95) rfl (v := .int (gi m 24 6)) rfl dX6_addFeeder_14 ?_
    obtain ⟨h1, hD⟩ := gd_el hD
    have hq2a : 4 ≤ 4 + (gi m 24 6).toNatClampNeg := Nat.le_add_right _ _
    have hq2b : 4 + (gi m 24 6).toNatClampNeg < 14 := Nat.add_lt_add_left (Nat.lt_of_not_le (fun z => h1 (Or.inr z))) 4
    refine raald  hx hb hK hP hL 35 5 (Nat.le_of_ble_eq_true rfl) (ms35 _ _) rfl h1 rfl dX6_addFeeder_17 ?_
    refine lv_iload_n hx hb dX6_addFeeder_18 rfl (lv_at hl 1 rfl) ?_
    refine lv_iload_n hx hb dX6_addFeeder_19 rfl (lv_at hl 2 rfl) ?_
    refine lv_iload_n hx hb dX6_addFeeder_20 rfl (lv_at hl 3 rfl) ?_
    refine lv_iload hx hb dX6_addFeeder_21 (lv_at hl 4 rfl) ?_
    obtain ⟨m3, z4, hD⟩ := b1_el hD
    refine rcVN  (As := [.int x1, .int x2, .int x3, .int x4]) (rest := []) Fx0 (c_X2_clear l hL hAd m (4 + (gi m 24 6).toNatClampNeg) hq2a hq2b x1 x2 x3 x4 z4) hP (hD1 _ (hAd _ _)) hS (hA1 _ _ (hAd _ _) hS.1) hL (Nat.lt_of_lt_of_le hq2b (Nat.le_of_ble_eq_true rfl)) ((mfe hq2a hq2b) _ _) rfl tw_3_208 tw_3_205 tw_3_207 ts_27 tw_1_7 yd_X2_clear ⟨(Nat.le_of_ble_eq_true rfl), (Nat.le_of_ble_eq_true rfl)⟩ rfl hl.1 rfl (Nat.le_of_ble_eq_true rfl) dX6_addFeeder_23 (fun H locs hP hS => ?_)
    refine lv_aload_n hx hb dX6_addFeeder_26 rfl (lv_at hl 0 rfl) ?_
    refine rg  hx hb hT hu6 hown hK hP hL 24 5 (Nat.le_of_ble_eq_true rfl) (ms24 _ _) rfl (Nat.le_of_ble_eq_true rfl) (Fx0.T tw_2_91) rfl (v := .ref (ad 28)) rfl dX6_addFeeder_27 ?_
    refine rgN  hx hb hT hu5 hown hK hP hL 28 2 (Nat.le_of_ble_eq_true rfl) (ms28 _ _) rfl (Nat.le_of_ble_eq_true rfl) tw_1_59 rfl (v := .ref (ad 30)) rfl dX6_addFeeder_30 ?_
    refine lv_iload_n hx hb dX6_addFeeder_33 rfl (lv_at hl 1 rfl) ?_
    refine lv_dup2_11 hx hb dX6_addFeeder_34 rfl rfl ?_
    obtain ⟨h5, hD⟩ := gd_el hD
    refine riald  hx hb hK hP hL 30 (Nat.le_of_ble_eq_true rfl) (ms30 _ _) h5 rfl dX6_addFeeder_35 ?_
    refine lv_iload_n hx hb dX6_addFeeder_36 rfl (lv_at hl 3 rfl) ?_
    refine lv_iadd hx hb dX6_addFeeder_37 ?_
    obtain ⟨h6, hD⟩ := gd_el hD
    obtain ⟨m7, em7, hD⟩ := bnd_el hD
    refine riast  hx hb hK hP (hD1 _ (hAd _ _)) hS hL 30 (Nat.le_of_ble_eq_true rfl) (fun _ => ms30 _ _) h6 rfl dX6_addFeeder_38 em7 (fun H locs hP hS => ?_)
    refine lv_aload_n hx hb dX6_addFeeder_39 rfl (lv_at hl 0 rfl) ?_
    refine lv_dup hx hb dX6_addFeeder_40 rfl ?_
    refine rg  hx hb hT hu6 hown hK hP hL 24 6 (Nat.le_of_ble_eq_true rfl) (ms24 _ _) rfl (Nat.le_of_ble_eq_true rfl) (Fx0.T tw_2_95) rfl (v := .int (gi m7 24 6)) rfl dX6_addFeeder_41 ?_
    refine lv_iconst (v := (1 : Int32)) hx hb dX6_addFeeder_44 (by decide) ?_
    refine lv_iadd hx hb dX6_addFeeder_45 ?_
    obtain ⟨m8, em8, hD⟩ := bnd_el hD
    refine rp  hx hb hT hu6 tyX6_ok nmX6 hown hK hP (hD1 _ (hAd _ _)) hS hL 24 6 (Nat.le_of_ble_eq_true rfl) (ms24 _ _) (ms24 _ _) rfl (Nat.le_of_ble_eq_true rfl) (Fx0.T tw_2_95) rfl rfl rfl rfl (Nat.le_of_ble_eq_true rfl) dX6_addFeeder_46 em8 (fun H locs hP hS => ?_)
    cases hD
    exact hret _ _ _ hP hS (fun Qc hq => W.vret hx hb hr hq hS.2.2 dX6_addFeeder_49 hlocks)

noncomputable def D_X6_nearestWith_7 (m : MM) : Nat → Int32 → Int32 → Int32 → Int32 → Option Int32
  | 0, _, _, _, _ => none
  | n + 1, x1, x2, x3, x4 => if (gi m 24 6) ≤ x4 then (some (x2)) else (if x4 < 0 ∨ 10 ≤ x4.toNatClampNeg then none else (if (gi m (4 + x4.toNatClampNeg) 0) = x1 then (if x4 < 0 ∨ 10 ≤ x4.toNatClampNeg then none else (if (gi m (4 + x4.toNatClampNeg) 2) ≤ 0 then (bnd (x4 + (1 : Int32)) (fun v6 => D_X6_nearestWith_7 m n x1 x2 x3 v6)) else (if x4 < 0 ∨ 10 ≤ x4.toNatClampNeg then none else (bnd (if 0 ≤ ((gi m (4 + x4.toNatClampNeg) 1) - (gi m 24 11)) then ((gi m (4 + x4.toNatClampNeg) 1) - (gi m 24 11)) else 0 - ((gi m (4 + x4.toNatClampNeg) 1) - (gi m 24 11))) (fun v9 => if x2 = (-1 : Int32) then (bnd (x4 + (1 : Int32)) (fun v10 => D_X6_nearestWith_7 m n x1 x4 v9 v10)) else (if x3 ≤ v9 then (bnd (x4 + (1 : Int32)) (fun v11 => D_X6_nearestWith_7 m n x1 x2 x3 v11)) else (bnd (x4 + (1 : Int32)) (fun v12 => D_X6_nearestWith_7 m n x1 x4 v9 v12)))))))) else (bnd (x4 + (1 : Int32)) (fun v3 => D_X6_nearestWith_7 m n x1 x2 x3 v3))))
noncomputable def D_X6_nearestWith (x1 : Int32) (m : MM) : Option Int32 := D_X6_nearestWith_7 m FU x1 (-1 : Int32) (0 : Int32) (0 : Int32)
set_option maxHeartbeats 4000000 in
set_option maxRecDepth 100000 in
theorem c_X6_nearestWith (l : Launch) {D : va_G} {cs : Nat → ClassId} {ad : Nat → Nat} {Wf : MM → va_W} (hL : Ln 51 ad (msh cs ad) Wf) (hAd : ∀ a0_ b0_ : MM, (Wf a0_).map (fun q => q.1) = (Wf b0_).map (fun q => q.1)) (m : MM) (x1 : Int32) {rr : Int32} (hD : D_X6_nearestWith x1 m = some (rr)) : Ct l yX6_nearestWith cX6_nearestWith 6 (some .int) 1 24 D cs [.ref (ad 24), .int x1] (Wf m) (Wf m) (some (.int rr)) := by
  refine Ct.ofW (by decide) (Nat.le_of_ble_eq_true rfl) rfl ?_
  intro p e s m0 below meth c A Q ls args hx hb hr hml hlocks hown hts hK hP hD1 hSS hS hA1 hl hret
  have hT : ∀ w ∈ TBL, w.before args s = true := fun w h => hts w (List.mem_cons_of_mem _ h)
  have Fx0 : Fx p l m0 c cX6_nearestWith 6 s args yX6_nearestWith cX6_nearestWith 6 (some .int) D cs A := ⟨hx, hb, hml, hown, hts, hK, hSS⟩
  have hown : s.vm.findClass RX6 = some m0.cls := hown
  have hl : lv_has ls 6 [(0, .ref (ad 24)), (1, .int x1)] := hl
  unfold D_X6_nearestWith at hD
  have c_7 : ∀ (n : Nat), ∀ (x1 : Int32) (x2 : Int32) (x3 : Int32) (x4 : Int32) (H : Heap) (locs : List Loc) (ls : Array Slot), D_X6_nearestWith_7 m n x1 x2 x3 x4 = some (rr) → va_P D vwCl (Wf m) H → va_S A s.heap H locs → lv_has ls 6 [(0, .ref (ad 24)), (1, .int x1), (2, .int x2), (3, .int x3), (4, .int x4)] → W p l e ({ frames := 1, cells := 0, slots := 0, locals := 24 } : Room) s m0 args below meth c H locs 0 0 Q (F0 m0 7 ls []) := by
    intro n
    induction n with
    | zero =>
      intro x1 x2 x3 x4 H locs ls hD hP hS hl
      exact nn_el hD
    | succ n ih =>
      intro x1 x2 x3 x4 H locs ls hD hP hS hl
      rw [D_X6_nearestWith_7] at hD
      refine lv_iload hx hb dX6_nearestWith_7 (lv_at hl 4 rfl) ?_
      refine lv_aload_n hx hb dX6_nearestWith_9 rfl (lv_at hl 0 rfl) ?_
      refine rg  hx hb hT hu6 hown hK hP hL 24 6 (Nat.le_of_ble_eq_true rfl) (ms24 _ _) rfl (Nat.le_of_ble_eq_true rfl) (Fx0.T tw_2_95) rfl (v := .int (gi m 24 6)) rfl dX6_nearestWith_10 ?_
      refine lv_icmp_ge (tgt := 86) hx hb dX6_nearestWith_13 (by decide) (fun c => ?_) (fun c => ?_)
      · have hD := ifp hD c
        refine lv_iload_n hx hb dX6_nearestWith_86 rfl (lv_at hl 2 rfl) ?_
        cases hD
        exact hret _ _ _ hP hS (fun Qc hq => W.iret hx hb hr hq hS.2.2 dX6_nearestWith_87 hlocks)
      · have hD := ifn hD c
        refine lv_aload_n hx hb dX6_nearestWith_16 rfl (lv_at hl 0 rfl) ?_
        refine rg  hx hb hT hu6 hown hK hP hL 24 7 (Nat.le_of_ble_eq_true rfl) (ms24 _ _) rfl (Nat.le_of_ble_eq_true rfl) (Fx0.T tw_2_99) rfl (v := .ref (ad 35)) rfl dX6_nearestWith_17 ?_
        refine lv_iload hx hb dX6_nearestWith_20 (lv_at hl 4 rfl) ?_
        obtain ⟨h1, hD⟩ := gd_el hD
        have hq2a : 4 ≤ 4 + x4.toNatClampNeg := Nat.le_add_right _ _
        have hq2b : 4 + x4.toNatClampNeg < 14 := Nat.add_lt_add_left (Nat.lt_of_not_le (fun z => h1 (Or.inr z))) 4
        refine raald  hx hb hK hP hL 35 5 (Nat.le_of_ble_eq_true rfl) (ms35 _ _) rfl h1 rfl dX6_nearestWith_22 ?_
        refine rgN  hx hb hT hu2 hown hK hP hL (4 + x4.toNatClampNeg) 0 (Nat.lt_of_lt_of_le hq2b (Nat.le_of_ble_eq_true rfl)) ((mfe hq2a hq2b) _ _) rfl (Nat.le_of_ble_eq_true rfl) tw_1_238 rfl (v := .int (gi m (4 + x4.toNatClampNeg) 0)) rfl dX6_nearestWith_23 ?_
        refine lv_iload_n hx hb dX6_nearestWith_26 rfl (lv_at hl 1 rfl) ?_
        refine lv_icmp_ne (tgt := 80) hx hb dX6_nearestWith_27 (by decide) (fun c => ?_) (fun c => ?_)
        · have hD := ifn hD c
          obtain ⟨v3, ev3, hD⟩ := bnd_el hD
          refine lv_iinc (v := v3) (lv' := [(4, .int v3), (0, .ref (ad 24)), (1, .int x1), (2, .int x2), (3, .int x3)]) hx hb dX6_nearestWith_80 hl (k := 4) rfl (by rw [ev3]; rfl) (by decide) rfl (fun ls hl => ?_)
          refine lv_goto (tgt := 7) hx hb dX6_nearestWith_83 (by decide) ?_
          exact ih _ _ _ _ _ _ _ hD hP hS (lv_sub hl [1, 2, 3, 4, 0] rfl)
        · have hD := ifp hD c
          refine lv_aload_n hx hb dX6_nearestWith_30 rfl (lv_at hl 0 rfl) ?_
          refine rg  hx hb hT hu6 hown hK hP hL 24 7 (Nat.le_of_ble_eq_true rfl) (ms24 _ _) rfl (Nat.le_of_ble_eq_true rfl) (Fx0.T tw_2_99) rfl (v := .ref (ad 35)) rfl dX6_nearestWith_31 ?_
          refine lv_iload hx hb dX6_nearestWith_34 (lv_at hl 4 rfl) ?_
          obtain ⟨h4, hD⟩ := gd_el hD
          have hq5a : 4 ≤ 4 + x4.toNatClampNeg := Nat.le_add_right _ _
          have hq5b : 4 + x4.toNatClampNeg < 14 := Nat.add_lt_add_left (Nat.lt_of_not_le (fun z => h4 (Or.inr z))) 4
          refine raald  hx hb hK hP hL 35 5 (Nat.le_of_ble_eq_true rfl) (ms35 _ _) rfl h4 rfl dX6_nearestWith_36 ?_
          refine rgN  hx hb hT hu2 hown hK hP hL (4 + x4.toNatClampNeg) 2 (Nat.lt_of_lt_of_le hq5b (Nat.le_of_ble_eq_true rfl)) ((mfe hq5a hq5b) _ _) rfl (Nat.le_of_ble_eq_true rfl) tw_2_5 rfl (v := .int (gi m (4 + x4.toNatClampNeg) 2)) rfl dX6_nearestWith_37 ?_
          refine lv_if_le (tgt := 80) hx hb dX6_nearestWith_40 (by decide) (fun c => ?_) (fun c => ?_)
          · have hD := ifp hD c
            obtain ⟨v6, ev6, hD⟩ := bnd_el hD
            refine lv_iinc (v := v6) (lv' := [(4, .int v6), (0, .ref (ad 24)), (1, .int x1), (2, .int x2), (3, .int x3)]) hx hb dX6_nearestWith_80 hl (k := 4) rfl (by rw [ev6]; rfl) (by decide) rfl (fun ls hl => ?_)
            refine lv_goto (tgt := 7) hx hb dX6_nearestWith_83 (by decide) ?_
            exact ih _ _ _ _ _ _ _ hD hP hS (lv_sub hl [1, 2, 3, 4, 0] rfl)
          · have hD := ifn hD c
            refine lv_aload_n hx hb dX6_nearestWith_43 rfl (lv_at hl 0 rfl) ?_
            refine rg  hx hb hT hu6 hown hK hP hL 24 7 (Nat.le_of_ble_eq_true rfl) (ms24 _ _) rfl (Nat.le_of_ble_eq_true rfl) (Fx0.T tw_2_99) rfl (v := .ref (ad 35)) rfl dX6_nearestWith_44 ?_
            refine lv_iload hx hb dX6_nearestWith_47 (lv_at hl 4 rfl) ?_
            obtain ⟨h7, hD⟩ := gd_el hD
            have hq8a : 4 ≤ 4 + x4.toNatClampNeg := Nat.le_add_right _ _
            have hq8b : 4 + x4.toNatClampNeg < 14 := Nat.add_lt_add_left (Nat.lt_of_not_le (fun z => h7 (Or.inr z))) 4
            refine raald  hx hb hK hP hL 35 5 (Nat.le_of_ble_eq_true rfl) (ms35 _ _) rfl h7 rfl dX6_nearestWith_49 ?_
            refine rgN  hx hb hT hu2 hown hK hP hL (4 + x4.toNatClampNeg) 1 (Nat.lt_of_lt_of_le hq8b (Nat.le_of_ble_eq_true rfl)) ((mfe hq8a hq8b) _ _) rfl (Nat.le_of_ble_eq_true rfl) tw_2_2 rfl (v := .int (gi m (4 + x4.toNatClampNeg) 1)) rfl dX6_nearestWith_50 ?_
            refine lv_aload_n hx hb dX6_nearestWith_53 rfl (lv_at hl 0 rfl) ?_
            refine rg  hx hb hT hu6 hown hK hP hL 24 11 (Nat.le_of_ble_eq_true rfl) (ms24 _ _) rfl (Nat.le_of_ble_eq_true rfl) (Fx0.T tw_2_111) rfl (v := .int (gi m 24 11)) rfl dX6_nearestWith_54 ?_
            refine lv_isub hx hb dX6_nearestWith_57 ?_
            refine va_mabs hx hb (hml.trans hl.1.symm) hown (Fx0.T tw_5_129) (Fx0.T tw_4_163) (Fx0.T tw_1_18) (Fx0.T tw_4_164) (Nat.le_of_ble_eq_true rfl) (Nat.le_of_ble_eq_true rfl) (Nat.le_refl _) (Nat.le_refl _) dX6_nearestWith_58 ?_
            obtain ⟨v9, ev9, hD⟩ := bnd_el hD
            refine lv_nmi ev9 ?_
            refine lv_istore (lv' := [(5, .int v9), (0, .ref (ad 24)), (1, .int x1), (2, .int x2), (3, .int x3), (4, .int x4)]) hx hb dX6_nearestWith_61 hl (by decide) rfl (fun ls hl => ?_)
            refine lv_iload_n hx hb dX6_nearestWith_63 rfl (lv_at hl 3 rfl) ?_
            refine lv_iconst (v := (-1 : Int32)) hx hb dX6_nearestWith_64 (by decide) ?_
            refine lv_icmp_eq (tgt := 74) hx hb dX6_nearestWith_65 (by decide) (fun c => ?_) (fun c => ?_)
            · have hD := ifp hD c
              refine lv_iload hx hb dX6_nearestWith_74 (lv_at hl 5 rfl) ?_
              refine lv_istore_n (lv' := [(2, .int x4), (5, .int v9), (0, .ref (ad 24)), (1, .int x1), (3, .int x3), (4, .int x4)]) hx hb dX6_nearestWith_76 rfl hl (by decide) rfl (fun ls hl => ?_)
              refine lv_iload hx hb dX6_nearestWith_77 (lv_at hl 1 rfl) ?_
              refine lv_istore_n (lv' := [(3, .int v9), (2, .int x4), (5, .int v9), (0, .ref (ad 24)), (1, .int x1), (4, .int x4)]) hx hb dX6_nearestWith_79 rfl hl (by decide) rfl (fun ls hl => ?_)
              obtain ⟨v10, ev10, hD⟩ := bnd_el hD
              refine lv_iinc (v := v10) (lv' := [(4, .int v10), (3, .int v9), (2, .int x4), (5, .int v9), (0, .ref (ad 24)), (1, .int x1)]) hx hb dX6_nearestWith_80 hl (k := 5) rfl (by rw [ev10]; rfl) (by decide) rfl (fun ls hl => ?_)
              refine lv_goto (tgt := 7) hx hb dX6_nearestWith_83 (by decide) ?_
              exact ih _ _ _ _ _ _ _ hD hP hS (lv_sub hl [4, 5, 2, 1, 0] rfl)
            · have hD := ifn hD c
              refine lv_iload hx hb dX6_nearestWith_68 (lv_at hl 0 rfl) ?_
              refine lv_iload_n hx hb dX6_nearestWith_70 rfl (lv_at hl 4 rfl) ?_
              refine lv_icmp_ge (tgt := 80) hx hb dX6_nearestWith_71 (by decide) (fun c => ?_) (fun c => ?_)
              · have hD := ifp hD c
                obtain ⟨v11, ev11, hD⟩ := bnd_el hD
                refine lv_iinc (v := v11) (lv' := [(4, .int v11), (5, .int v9), (0, .ref (ad 24)), (1, .int x1), (2, .int x2), (3, .int x3)]) hx hb dX6_nearestWith_80 hl (k := 5) rfl (by rw [ev11]; rfl) (by decide) rfl (fun ls hl => ?_)
                refine lv_goto (tgt := 7) hx hb dX6_nearestWith_83 (by decide) ?_
                exact ih _ _ _ _ _ _ _ hD hP hS (lv_sub hl [2, 3, 4, 5, 0] rfl)
              · have hD := ifn hD c
                refine lv_iload hx hb dX6_nearestWith_74 (lv_at hl 5 rfl) ?_
                refine lv_istore_n (lv' := [(2, .int x4), (5, .int v9), (0, .ref (ad 24)), (1, .int x1), (3, .int x3), (4, .int x4)]) hx hb dX6_nearestWith_76 rfl hl (by decide) rfl (fun ls hl => ?_)
                refine lv_iload hx hb dX6_nearestWith_77 (lv_at hl 1 rfl) ?_
                refine lv_istore_n (lv' := [(3, .int v9), (2, .int x4), (5, .int v9), (0, .ref (ad 24)), (1, .int x1), (4, .int x4)]) hx hb dX6_nearestWith_79 rfl hl (by decide) rfl (fun ls hl => ?_)
                obtain ⟨v12, ev12, hD⟩ := bnd_el hD
                refine lv_iinc (v := v12) (lv' := [(4, .int v12), (3, .int v9), (2, .int x4), (5, .int v9), (0, .ref (ad 24)), (1, .int x1)]) hx hb dX6_nearestWith_80 hl (k := 5) rfl (by rw [ev12]; rfl) (by decide) rfl (fun ls hl => ?_)
                refine lv_goto (tgt := 7) hx hb dX6_nearestWith_83 (by decide) ?_
                exact ih _ _ _ _ _ _ _ hD hP hS (lv_sub hl [4, 5, 2, 1, 0] rfl)
  refine lv_iconst (v := (-1 : Int32)) hx hb dX6_nearestWith_0 (by decide) ?_
  refine lv_istore_n (lv' := [(2, .int (-1 : Int32)), (0, .ref (ad 24)), (1, .int x1)]) hx hb dX6_nearestWith_1 rfl hl (by decide) rfl (fun ls hl => ?_)
  refine lv_iconst (v := (0 : Int32)) hx hb dX6_nearestWith_2 (by decide) ?_
  refine lv_istore_n (lv' := [(3, .int (0 : Int32)), (2, .int (-1 : Int32)), (0, .ref (ad 24)), (1, .int x1)]) hx hb dX6_nearestWith_3 rfl hl (by decide) rfl (fun ls hl => ?_)
  refine lv_iconst (v := (0 : Int32)) hx hb dX6_nearestWith_4 (by decide) ?_
  refine lv_istore (lv' := [(4, .int (0 : Int32)), (3, .int (0 : Int32)), (2, .int (-1 : Int32)), (0, .ref (ad 24)), (1, .int x1)]) hx hb dX6_nearestWith_5 hl (by decide) rfl (fun ls hl => ?_)
  exact c_7 FU _ _ _ _ _ _ _ hD hP hS (lv_sub hl [3, 4, 2, 1, 0] rfl)

noncomputable def D_X6_heldOf_4 (m : MM) : Nat → Int32 → Int32 → Int32 → Option Int32
  | 0, _, _, _ => none
  | n + 1, x1, x2, x3 => if (gi m 24 1) ≤ x3 then (some (x2)) else (if x3 < 0 ∨ 4 ≤ x3.toNatClampNeg then none else (if (gi m x3.toNatClampNeg 1) = x1 then (bnd (x2 + (1 : Int32)) (fun v4 => bnd (x3 + (1 : Int32)) (fun v5 => D_X6_heldOf_4 m n x1 v4 v5))) else (bnd (x3 + (1 : Int32)) (fun v3 => D_X6_heldOf_4 m n x1 x2 v3))))
noncomputable def D_X6_heldOf (x1 : Int32) (m : MM) : Option Int32 := D_X6_heldOf_4 m FU x1 (0 : Int32) (0 : Int32)
set_option maxHeartbeats 4000000 in
set_option maxRecDepth 100000 in
theorem c_X6_heldOf (l : Launch) {D : va_G} {cs : Nat → ClassId} {ad : Nat → Nat} {Wf : MM → va_W} (hL : Ln 51 ad (msh cs ad) Wf) (hAd : ∀ a0_ b0_ : MM, (Wf a0_).map (fun q => q.1) = (Wf b0_).map (fun q => q.1)) (m : MM) (x1 : Int32) {rr : Int32} (hD : D_X6_heldOf x1 m = some (rr)) : Ct l yX6_heldOf cX6_heldOf 4 (some .int) 0 0 D cs [.ref (ad 24), .int x1] (Wf m) (Wf m) (some (.int rr)) := by
  refine Ct.ofW (by decide) (Nat.le_of_ble_eq_true rfl) rfl ?_
  intro p e s m0 below meth c A Q ls args hx hb hr hml hlocks hown hts hK hP hD1 hSS hS hA1 hl hret
  have hT : ∀ w ∈ TBL, w.before args s = true := fun w h => hts w (List.mem_cons_of_mem _ h)
  have Fx0 : Fx p l m0 c cX6_heldOf 4 s args yX6_heldOf cX6_heldOf 4 (some .int) D cs A := ⟨hx, hb, hml, hown, hts, hK, hSS⟩
  have hown : s.vm.findClass RX6 = some m0.cls := hown
  have hl : lv_has ls 4 [(0, .ref (ad 24)), (1, .int x1)] := hl
  unfold D_X6_heldOf at hD
  have c_4 : ∀ (n : Nat), ∀ (x1 : Int32) (x2 : Int32) (x3 : Int32) (H : Heap) (locs : List Loc) (ls : Array Slot), D_X6_heldOf_4 m n x1 x2 x3 = some (rr) → va_P D vwCl (Wf m) H → va_S A s.heap H locs → lv_has ls 4 [(0, .ref (ad 24)), (1, .int x1), (2, .int x2), (3, .int x3)] → W p l e ({ frames := 0, cells := 0, slots := 0, locals := 0 } : Room) s m0 args below meth c H locs 0 0 Q (F0 m0 4 ls []) := by
    intro n
    induction n with
    | zero =>
      intro x1 x2 x3 H locs ls hD hP hS hl
      exact nn_el hD
    | succ n ih =>
      intro x1 x2 x3 H locs ls hD hP hS hl
      rw [D_X6_heldOf_4] at hD
      refine lv_iload_n hx hb dX6_heldOf_4 rfl (lv_at hl 3 rfl) ?_
      refine lv_aload_n hx hb dX6_heldOf_5 rfl (lv_at hl 0 rfl) ?_
      refine rg  hx hb hT hu6 hown hK hP hL 24 1 (Nat.le_of_ble_eq_true rfl) (ms24 _ _) rfl (Nat.le_of_ble_eq_true rfl) (Fx0.T tw_2_78) rfl (v := .int (gi m 24 1)) rfl dX6_heldOf_6 ?_
      refine lv_icmp_ge (tgt := 34) hx hb dX6_heldOf_9 (by decide) (fun c => ?_) (fun c => ?_)
      · have hD := ifp hD c
        refine lv_iload_n hx hb dX6_heldOf_34 rfl (lv_at hl 2 rfl) ?_
        cases hD
        exact hret _ _ _ hP hS (fun Qc hq => W.iret hx hb hr hq hS.2.2 dX6_heldOf_35 hlocks)
      · have hD := ifn hD c
        refine lv_aload_n hx hb dX6_heldOf_12 rfl (lv_at hl 0 rfl) ?_
        refine rg  hx hb hT hu6 hown hK hP hL 24 2 (Nat.le_of_ble_eq_true rfl) (ms24 _ _) rfl (Nat.le_of_ble_eq_true rfl) (Fx0.T tw_2_82) rfl (v := .ref (ad 26)) rfl dX6_heldOf_13 ?_
        refine lv_iload_n hx hb dX6_heldOf_16 rfl (lv_at hl 3 rfl) ?_
        obtain ⟨h1, hD⟩ := gd_el hD
        have hq2 : x3.toNatClampNeg < 4 := Nat.lt_of_not_le (fun z => h1 (Or.inr z))
        refine raald  hx hb hK hP hL 26 4 (Nat.le_of_ble_eq_true rfl) (ms26 _ _) rfl h1 rfl dX6_heldOf_17 ?_
        refine rgN  hx hb hT hu8 hown hK hP hL x3.toNatClampNeg 1 (Nat.lt_of_lt_of_le hq2 (Nat.le_of_ble_eq_true rfl)) ((msp hq2) _ _) rfl (Nat.le_of_ble_eq_true rfl) tw_1_199 rfl (v := .int (gi m x3.toNatClampNeg 1)) rfl dX6_heldOf_18 ?_
        refine lv_iload_n hx hb dX6_heldOf_21 rfl (lv_at hl 1 rfl) ?_
        refine lv_icmp_ne (tgt := 28) hx hb dX6_heldOf_22 (by decide) (fun c => ?_) (fun c => ?_)
        · have hD := ifn hD c
          obtain ⟨v3, ev3, hD⟩ := bnd_el hD
          refine lv_iinc (v := v3) (lv' := [(3, .int v3), (0, .ref (ad 24)), (1, .int x1), (2, .int x2)]) hx hb dX6_heldOf_28 hl (k := 3) rfl (by rw [ev3]; rfl) (by decide) rfl (fun ls hl => ?_)
          refine lv_goto (tgt := 4) hx hb dX6_heldOf_31 (by decide) ?_
          exact ih _ _ _ _ _ _ hD hP hS (lv_sub hl [1, 2, 3, 0] rfl)
        · have hD := ifp hD c
          obtain ⟨v4, ev4, hD⟩ := bnd_el hD
          refine lv_iinc (v := v4) (lv' := [(2, .int v4), (0, .ref (ad 24)), (1, .int x1), (3, .int x3)]) hx hb dX6_heldOf_25 hl (k := 2) rfl (by rw [ev4]; rfl) (by decide) rfl (fun ls hl => ?_)
          obtain ⟨v5, ev5, hD⟩ := bnd_el hD
          refine lv_iinc (v := v5) (lv' := [(3, .int v5), (2, .int v4), (0, .ref (ad 24)), (1, .int x1)]) hx hb dX6_heldOf_28 hl (k := 3) rfl (by rw [ev5]; rfl) (by decide) rfl (fun ls hl => ?_)
          refine lv_goto (tgt := 4) hx hb dX6_heldOf_31 (by decide) ?_
          exact ih _ _ _ _ _ _ hD hP hS (lv_sub hl [2, 3, 1, 0] rfl)
  refine lv_iconst (v := (0 : Int32)) hx hb dX6_heldOf_0 (by decide) ?_
  refine lv_istore_n (lv' := [(2, .int (0 : Int32)), (0, .ref (ad 24)), (1, .int x1)]) hx hb dX6_heldOf_1 rfl hl (by decide) rfl (fun ls hl => ?_)
  refine lv_iconst (v := (0 : Int32)) hx hb dX6_heldOf_2 (by decide) ?_
  refine lv_istore_n (lv' := [(3, .int (0 : Int32)), (2, .int (0 : Int32)), (0, .ref (ad 24)), (1, .int x1)]) hx hb dX6_heldOf_3 rfl hl (by decide) rfl (fun ls hl => ?_)
  exact c_4 FU _ _ _ _ _ _ hD hP hS (lv_sub hl [2, 3, 1, 0] rfl)

noncomputable def D_X6_inReels_4 (m : MM) : Nat → Int32 → Int32 → Int32 → Option Int32
  | 0, _, _, _ => none
  | n + 1, x1, x2, x3 => if (gi m 24 6) ≤ x3 then (some (x2)) else (if x3 < 0 ∨ 10 ≤ x3.toNatClampNeg then none else (if (gi m (4 + x3.toNatClampNeg) 0) = x1 then (if x3 < 0 ∨ 10 ≤ x3.toNatClampNeg then none else (b1 (D_X2_allParts (4 + x3.toNatClampNeg) m) (fun v6 => bnd ((x2 + v6)) (fun v8 => bnd (x3 + (1 : Int32)) (fun v9 => D_X6_inReels_4 m n x1 v8 v9))))) else (bnd (x3 + (1 : Int32)) (fun v3 => D_X6_inReels_4 m n x1 x2 v3))))
noncomputable def D_X6_inReels (x1 : Int32) (m : MM) : Option Int32 := D_X6_inReels_4 m FU x1 (0 : Int32) (0 : Int32)
set_option maxHeartbeats 4000000 in
set_option maxRecDepth 100000 in
theorem c_X6_inReels (l : Launch) {D : va_G} {cs : Nat → ClassId} {ad : Nat → Nat} {Wf : MM → va_W} (hL : Ln 51 ad (msh cs ad) Wf) (hAd : ∀ a0_ b0_ : MM, (Wf a0_).map (fun q => q.1) = (Wf b0_).map (fun q => q.1)) (m : MM) (x1 : Int32) {rr : Int32} (hD : D_X6_inReels x1 m = some (rr)) : Ct l yX6_inReels cX6_inReels 4 (some .int) 1 22 D cs [.ref (ad 24), .int x1] (Wf m) (Wf m) (some (.int rr)) := by
  refine Ct.ofW (by decide) (Nat.le_of_ble_eq_true rfl) rfl ?_
  intro p e s m0 below meth c A Q ls args hx hb hr hml hlocks hown hts hK hP hD1 hSS hS hA1 hl hret
  have hT : ∀ w ∈ TBL, w.before args s = true := fun w h => hts w (List.mem_cons_of_mem _ h)
  have Fx0 : Fx p l m0 c cX6_inReels 4 s args yX6_inReels cX6_inReels 4 (some .int) D cs A := ⟨hx, hb, hml, hown, hts, hK, hSS⟩
  have hown : s.vm.findClass RX6 = some m0.cls := hown
  have hl : lv_has ls 4 [(0, .ref (ad 24)), (1, .int x1)] := hl
  unfold D_X6_inReels at hD
  have c_4 : ∀ (n : Nat), ∀ (x1 : Int32) (x2 : Int32) (x3 : Int32) (H : Heap) (locs : List Loc) (ls : Array Slot), D_X6_inReels_4 m n x1 x2 x3 = some (rr) → va_P D vwCl (Wf m) H → va_S A s.heap H locs → lv_has ls 4 [(0, .ref (ad 24)), (1, .int x1), (2, .int x2), (3, .int x3)] → W p l e ({ frames := 1, cells := 0, slots := 0, locals := 22 } : Room) s m0 args below meth c H locs 0 0 Q (F0 m0 4 ls []) := by
    intro n
    induction n with
    | zero =>
      intro x1 x2 x3 H locs ls hD hP hS hl
      exact nn_el hD
    | succ n ih =>
      intro x1 x2 x3 H locs ls hD hP hS hl
      rw [D_X6_inReels_4] at hD
      refine lv_iload_n hx hb dX6_inReels_4 rfl (lv_at hl 3 rfl) ?_
      refine lv_aload_n hx hb dX6_inReels_5 rfl (lv_at hl 0 rfl) ?_
      refine rg  hx hb hT hu6 hown hK hP hL 24 6 (Nat.le_of_ble_eq_true rfl) (ms24 _ _) rfl (Nat.le_of_ble_eq_true rfl) (Fx0.T tw_2_95) rfl (v := .int (gi m 24 6)) rfl dX6_inReels_6 ?_
      refine lv_icmp_ge (tgt := 43) hx hb dX6_inReels_9 (by decide) (fun c => ?_) (fun c => ?_)
      · have hD := ifp hD c
        refine lv_iload_n hx hb dX6_inReels_43 rfl (lv_at hl 2 rfl) ?_
        cases hD
        exact hret _ _ _ hP hS (fun Qc hq => W.iret hx hb hr hq hS.2.2 dX6_inReels_44 hlocks)
      · have hD := ifn hD c
        refine lv_aload_n hx hb dX6_inReels_12 rfl (lv_at hl 0 rfl) ?_
        refine rg  hx hb hT hu6 hown hK hP hL 24 7 (Nat.le_of_ble_eq_true rfl) (ms24 _ _) rfl (Nat.le_of_ble_eq_true rfl) (Fx0.T tw_2_99) rfl (v := .ref (ad 35)) rfl dX6_inReels_13 ?_
        refine lv_iload_n hx hb dX6_inReels_16 rfl (lv_at hl 3 rfl) ?_
        obtain ⟨h1, hD⟩ := gd_el hD
        have hq2a : 4 ≤ 4 + x3.toNatClampNeg := Nat.le_add_right _ _
        have hq2b : 4 + x3.toNatClampNeg < 14 := Nat.add_lt_add_left (Nat.lt_of_not_le (fun z => h1 (Or.inr z))) 4
        refine raald  hx hb hK hP hL 35 5 (Nat.le_of_ble_eq_true rfl) (ms35 _ _) rfl h1 rfl dX6_inReels_17 ?_
        refine rgN  hx hb hT hu2 hown hK hP hL (4 + x3.toNatClampNeg) 0 (Nat.lt_of_lt_of_le hq2b (Nat.le_of_ble_eq_true rfl)) ((mfe hq2a hq2b) _ _) rfl (Nat.le_of_ble_eq_true rfl) tw_1_238 rfl (v := .int (gi m (4 + x3.toNatClampNeg) 0)) rfl dX6_inReels_18 ?_
        refine lv_iload_n hx hb dX6_inReels_21 rfl (lv_at hl 1 rfl) ?_
        refine lv_icmp_ne (tgt := 37) hx hb dX6_inReels_22 (by decide) (fun c => ?_) (fun c => ?_)
        · have hD := ifn hD c
          obtain ⟨v3, ev3, hD⟩ := bnd_el hD
          refine lv_iinc (v := v3) (lv' := [(3, .int v3), (0, .ref (ad 24)), (1, .int x1), (2, .int x2)]) hx hb dX6_inReels_37 hl (k := 3) rfl (by rw [ev3]; rfl) (by decide) rfl (fun ls hl => ?_)
          refine lv_goto (tgt := 4) hx hb dX6_inReels_40 (by decide) ?_
          exact ih _ _ _ _ _ _ hD hP hS (lv_sub hl [1, 2, 3, 0] rfl)
        · have hD := ifp hD c
          refine lv_iload_n hx hb dX6_inReels_25 rfl (lv_at hl 2 rfl) ?_
          refine lv_aload_n hx hb dX6_inReels_26 rfl (lv_at hl 0 rfl) ?_
          refine rg  hx hb hT hu6 hown hK hP hL 24 7 (Nat.le_of_ble_eq_true rfl) (ms24 _ _) rfl (Nat.le_of_ble_eq_true rfl) (Fx0.T tw_2_99) rfl (v := .ref (ad 35)) rfl dX6_inReels_27 ?_
          refine lv_iload_n hx hb dX6_inReels_30 rfl (lv_at hl 3 rfl) ?_
          obtain ⟨h4, hD⟩ := gd_el hD
          have hq5a : 4 ≤ 4 + x3.toNatClampNeg := Nat.le_add_right _ _
          have hq5b : 4 + x3.toNatClampNeg < 14 := Nat.add_lt_add_left (Nat.lt_of_not_le (fun z => h4 (Or.inr z))) 4
          refine raald  hx hb hK hP hL 35 5 (Nat.le_of_ble_eq_true rfl) (ms35 _ _) rfl h4 rfl dX6_inReels_31 ?_
          obtain ⟨v6, z7, hD⟩ := b1_el hD
          refine rcVN  (As := []) (rest := [.int x2]) Fx0 (c_X2_allParts l hL hAd m (4 + x3.toNatClampNeg) hq5a hq5b z7) hP (hD1 _ (hAd _ _)) hS (hA1 _ _ (hAd _ _) hS.1) hL (Nat.lt_of_lt_of_le hq5b (Nat.le_of_ble_eq_true rfl)) ((mfe hq5a hq5b) _ _) rfl tw_3_48 tw_3_45 tw_3_47 ts_8 tw_1_7 yd_X2_allParts ⟨(Nat.le_of_ble_eq_true rfl), (Nat.le_of_ble_eq_true rfl)⟩ rfl hl.1 rfl (Nat.le_of_ble_eq_true rfl) dX6_inReels_32 (fun H locs hP hS => ?_)
          refine lv_iadd hx hb dX6_inReels_35 ?_
          obtain ⟨v8, ev8, hD⟩ := bnd_el hD
          refine lv_nmi ev8 ?_
          refine lv_istore_n (lv' := [(2, .int v8), (0, .ref (ad 24)), (1, .int x1), (3, .int x3)]) hx hb dX6_inReels_36 rfl hl (by decide) rfl (fun ls hl => ?_)
          obtain ⟨v9, ev9, hD⟩ := bnd_el hD
          refine lv_iinc (v := v9) (lv' := [(3, .int v9), (2, .int v8), (0, .ref (ad 24)), (1, .int x1)]) hx hb dX6_inReels_37 hl (k := 3) rfl (by rw [ev9]; rfl) (by decide) rfl (fun ls hl => ?_)
          refine lv_goto (tgt := 4) hx hb dX6_inReels_40 (by decide) ?_
          exact ih _ _ _ _ _ _ hD hP hS (lv_sub hl [2, 3, 1, 0] rfl)
  refine lv_iconst (v := (0 : Int32)) hx hb dX6_inReels_0 (by decide) ?_
  refine lv_istore_n (lv' := [(2, .int (0 : Int32)), (0, .ref (ad 24)), (1, .int x1)]) hx hb dX6_inReels_1 rfl hl (by decide) rfl (fun ls hl => ?_)
  refine lv_iconst (v := (0 : Int32)) hx hb dX6_inReels_2 (by decide) ?_
  refine lv_istore_n (lv' := [(3, .int (0 : Int32)), (2, .int (0 : Int32)), (0, .ref (ad 24)), (1, .int x1)]) hx hb dX6_inReels_3 rfl hl (by decide) rfl (fun ls hl => ?_)
  exact c_4 FU _ _ _ _ _ _ hD hP hS (lv_sub hl [2, 3, 1, 0] rfl)

noncomputable def D_X6_partsOf (x1 : Int32) (x2 : Int32) (m : MM) : Option Int32 := if x2 = (0 : Int32) then (if x1 < 0 ∨ 8 ≤ x1.toNatClampNeg then none else (some ((gi m 30 x1.toNatClampNeg)))) else (if x2 = (1 : Int32) then (b1 (D_X6_inReels x1 m) (fun v2 => some (v2))) else (if x2 = (2 : Int32) then (b1 (D_X6_heldOf x1 m) (fun v4 => some (v4))) else (if x2 = (3 : Int32) then (if x1 < 0 ∨ 8 ≤ x1.toNatClampNeg then none else (some ((gi m 31 x1.toNatClampNeg)))) else (if x2 = (4 : Int32) then (if x1 < 0 ∨ 8 ≤ x1.toNatClampNeg then none else (some ((gi m 32 x1.toNatClampNeg)))) else (if x2 = (5 : Int32) then (if x1 < 0 ∨ 8 ≤ x1.toNatClampNeg then none else (some ((gi m 33 x1.toNatClampNeg)))) else (if x1 < 0 ∨ 8 ≤ x1.toNatClampNeg then none else (some ((gi m 34 x1.toNatClampNeg)))))))))
set_option maxHeartbeats 4000000 in
set_option maxRecDepth 100000 in
theorem c_X6_partsOf (l : Launch) {D : va_G} {cs : Nat → ClassId} {ad : Nat → Nat} {Wf : MM → va_W} (hL : Ln 51 ad (msh cs ad) Wf) (hAd : ∀ a0_ b0_ : MM, (Wf a0_).map (fun q => q.1) = (Wf b0_).map (fun q => q.1)) (m : MM) (x1 : Int32) (x2 : Int32) {rr : Int32} (hD : D_X6_partsOf x1 x2 m = some (rr)) : Ct l yX6_partsOf cX6_partsOf 3 (some .int) 2 45 D cs [.ref (ad 24), .int x1, .int x2] (Wf m) (Wf m) (some (.int rr)) := by
  refine Ct.ofW (by decide) (Nat.le_of_ble_eq_true rfl) rfl ?_
  intro p e s m0 below meth c A Q ls args hx hb hr hml hlocks hown hts hK hP hD1 hSS hS hA1 hl hret
  have hT : ∀ w ∈ TBL, w.before args s = true := fun w h => hts w (List.mem_cons_of_mem _ h)
  have Fx0 : Fx p l m0 c cX6_partsOf 3 s args yX6_partsOf cX6_partsOf 3 (some .int) D cs A := ⟨hx, hb, hml, hown, hts, hK, hSS⟩
  have hown : s.vm.findClass RX6 = some m0.cls := hown
  have hl : lv_has ls 3 [(0, .ref (ad 24)), (1, .int x1), (2, .int x2)] := hl
  unfold D_X6_partsOf at hD
  refine lv_iload_n hx hb dX6_partsOf_0 rfl (lv_at hl 2 rfl) ?_
  by_cases sw1_0 : x2 = (0 : Int32)
  · have hD := ifp hD sw1_0
    refine lv_tableIn (off := 39) (tgt := 40) hx hb dX6_partsOf_1 (by rw [sw1_0]; decide) (by rw [sw1_0]; decide) (by rw [sw1_0]; rfl) (by decide) ?_
    refine lv_aload_n hx hb dX6_partsOf_40 rfl (lv_at hl 0 rfl) ?_
    refine rg  hx hb hT hu6 hown hK hP hL 24 5 (Nat.le_of_ble_eq_true rfl) (ms24 _ _) rfl (Nat.le_of_ble_eq_true rfl) (Fx0.T tw_2_91) rfl (v := .ref (ad 28)) rfl dX6_partsOf_41 ?_
    refine rgN  hx hb hT hu5 hown hK hP hL 28 2 (Nat.le_of_ble_eq_true rfl) (ms28 _ _) rfl (Nat.le_of_ble_eq_true rfl) tw_1_59 rfl (v := .ref (ad 30)) rfl dX6_partsOf_44 ?_
    refine lv_iload_n hx hb dX6_partsOf_47 rfl (lv_at hl 1 rfl) ?_
    obtain ⟨h1, hD⟩ := gd_el hD
    refine riald  hx hb hK hP hL 30 (Nat.le_of_ble_eq_true rfl) (ms30 _ _) h1 rfl dX6_partsOf_48 ?_
    cases hD
    exact hret _ _ _ hP hS (fun Qc hq => W.iret hx hb hr hq hS.2.2 dX6_partsOf_49 hlocks)
  · have hD := ifn hD sw1_0
    by_cases sw1_1 : x2 = (1 : Int32)
    · have hD := ifp hD sw1_1
      refine lv_tableIn (off := 49) (tgt := 50) hx hb dX6_partsOf_1 (by rw [sw1_1]; decide) (by rw [sw1_1]; decide) (by rw [sw1_1]; rfl) (by decide) ?_
      refine lv_aload_n hx hb dX6_partsOf_50 rfl (lv_at hl 0 rfl) ?_
      refine lv_iload_n hx hb dX6_partsOf_51 rfl (lv_at hl 1 rfl) ?_
      obtain ⟨v2, z3, hD⟩ := b1_el hD
      refine rcV  (As := [.int x1]) (rest := []) Fx0 (c_X6_inReels l hL hAd m x1 z3) hP (hD1 _ (hAd _ _)) hS (hA1 _ _ (hAd _ _) hS.1) hL (Nat.le_of_ble_eq_true rfl) (ms24 _ _) rfl tw_3_44 tw_3_41 tw_3_43 ts_7 tw_1_2 yd_X6_inReels ⟨(Nat.le_of_ble_eq_true rfl), (Nat.le_of_ble_eq_true rfl)⟩ rfl hl.1 rfl (Nat.le_of_ble_eq_true rfl) dX6_partsOf_52 (fun H locs hP hS => ?_)
      cases hD
      exact hret _ _ _ hP hS (fun Qc hq => W.iret hx hb hr hq hS.2.2 dX6_partsOf_55 hlocks)
    · have hD := ifn hD sw1_1
      by_cases sw1_2 : x2 = (2 : Int32)
      · have hD := ifp hD sw1_2
        refine lv_tableIn (off := 55) (tgt := 56) hx hb dX6_partsOf_1 (by rw [sw1_2]; decide) (by rw [sw1_2]; decide) (by rw [sw1_2]; rfl) (by decide) ?_
        refine lv_aload_n hx hb dX6_partsOf_56 rfl (lv_at hl 0 rfl) ?_
        refine lv_iload_n hx hb dX6_partsOf_57 rfl (lv_at hl 1 rfl) ?_
        obtain ⟨v4, z5, hD⟩ := b1_el hD
        refine rcV  (As := [.int x1]) (rest := []) Fx0 (c_X6_heldOf l hL hAd m x1 z5) hP (hD1 _ (hAd _ _)) hS (hA1 _ _ (hAd _ _) hS.1) hL (Nat.le_of_ble_eq_true rfl) (ms24 _ _) rfl tw_3_52 tw_3_49 tw_3_51 ts_9 tw_1_2 yd_X6_heldOf ⟨(Nat.le_of_ble_eq_true rfl), (Nat.le_of_ble_eq_true rfl)⟩ rfl hl.1 rfl (Nat.le_of_ble_eq_true rfl) dX6_partsOf_58 (fun H locs hP hS => ?_)
        cases hD
        exact hret _ _ _ hP hS (fun Qc hq => W.iret hx hb hr hq hS.2.2 dX6_partsOf_61 hlocks)
      · have hD := ifn hD sw1_2
        by_cases sw1_3 : x2 = (3 : Int32)
        · have hD := ifp hD sw1_3
          refine lv_tableIn (off := 61) (tgt := 62) hx hb dX6_partsOf_1 (by rw [sw1_3]; decide) (by rw [sw1_3]; decide) (by rw [sw1_3]; rfl) (by decide) ?_
          refine lv_aload_n hx hb dX6_partsOf_62 rfl (lv_at hl 0 rfl) ?_
          refine rg  hx hb hT hu6 hown hK hP hL 24 5 (Nat.le_of_ble_eq_true rfl) (ms24 _ _) rfl (Nat.le_of_ble_eq_true rfl) (Fx0.T tw_2_91) rfl (v := .ref (ad 28)) rfl dX6_partsOf_63 ?_
          refine rgN  hx hb hT hu5 hown hK hP hL 28 3 (Nat.le_of_ble_eq_true rfl) (ms28 _ _) rfl (Nat.le_of_ble_eq_true rfl) tw_1_62 rfl (v := .ref (ad 31)) rfl dX6_partsOf_66 ?_
          refine lv_iload_n hx hb dX6_partsOf_69 rfl (lv_at hl 1 rfl) ?_
          obtain ⟨h6, hD⟩ := gd_el hD
          refine riald  hx hb hK hP hL 31 (Nat.le_of_ble_eq_true rfl) (ms31 _ _) h6 rfl dX6_partsOf_70 ?_
          cases hD
          exact hret _ _ _ hP hS (fun Qc hq => W.iret hx hb hr hq hS.2.2 dX6_partsOf_71 hlocks)
        · have hD := ifn hD sw1_3
          by_cases sw1_4 : x2 = (4 : Int32)
          · have hD := ifp hD sw1_4
            refine lv_tableIn (off := 71) (tgt := 72) hx hb dX6_partsOf_1 (by rw [sw1_4]; decide) (by rw [sw1_4]; decide) (by rw [sw1_4]; rfl) (by decide) ?_
            refine lv_aload_n hx hb dX6_partsOf_72 rfl (lv_at hl 0 rfl) ?_
            refine rg  hx hb hT hu6 hown hK hP hL 24 5 (Nat.le_of_ble_eq_true rfl) (ms24 _ _) rfl (Nat.le_of_ble_eq_true rfl) (Fx0.T tw_2_91) rfl (v := .ref (ad 28)) rfl dX6_partsOf_73 ?_
            refine rgN  hx hb hT hu5 hown hK hP hL 28 4 (Nat.le_of_ble_eq_true rfl) (ms28 _ _) rfl (Nat.le_of_ble_eq_true rfl) tw_1_64 rfl (v := .ref (ad 32)) rfl dX6_partsOf_76 ?_
            refine lv_iload_n hx hb dX6_partsOf_79 rfl (lv_at hl 1 rfl) ?_
            obtain ⟨h7, hD⟩ := gd_el hD
            refine riald  hx hb hK hP hL 32 (Nat.le_of_ble_eq_true rfl) (ms32 _ _) h7 rfl dX6_partsOf_80 ?_
            cases hD
            exact hret _ _ _ hP hS (fun Qc hq => W.iret hx hb hr hq hS.2.2 dX6_partsOf_81 hlocks)
          · have hD := ifn hD sw1_4
            by_cases sw1_5 : x2 = (5 : Int32)
            · have hD := ifp hD sw1_5
              refine lv_tableIn (off := 81) (tgt := 82) hx hb dX6_partsOf_1 (by rw [sw1_5]; decide) (by rw [sw1_5]; decide) (by rw [sw1_5]; rfl) (by decide) ?_
              refine lv_aload_n hx hb dX6_partsOf_82 rfl (lv_at hl 0 rfl) ?_
              refine rg  hx hb hT hu6 hown hK hP hL 24 5 (Nat.le_of_ble_eq_true rfl) (ms24 _ _) rfl (Nat.le_of_ble_eq_true rfl) (Fx0.T tw_2_91) rfl (v := .ref (ad 28)) rfl dX6_partsOf_83 ?_
              refine rgN  hx hb hT hu5 hown hK hP hL 28 5 (Nat.le_of_ble_eq_true rfl) (ms28 _ _) rfl (Nat.le_of_ble_eq_true rfl) tw_1_66 rfl (v := .ref (ad 33)) rfl dX6_partsOf_86 ?_
              refine lv_iload_n hx hb dX6_partsOf_89 rfl (lv_at hl 1 rfl) ?_
              obtain ⟨h8, hD⟩ := gd_el hD
              refine riald  hx hb hK hP hL 33 (Nat.le_of_ble_eq_true rfl) (ms33 _ _) h8 rfl dX6_partsOf_90 ?_
              cases hD
              exact hret _ _ _ hP hS (fun Qc hq => W.iret hx hb hr hq hS.2.2 dX6_partsOf_91 hlocks)
            · have hD := ifn hD sw1_5
              refine lv_tableOut (tgt := 92) hx hb dX6_partsOf_1 (swo 0 5 (fun k h1 h2 e => ?_)) (by decide) ?_
              · have h3 : k = 0 ∨ k = 1 ∨ k = 2 ∨ k = 3 ∨ k = 4 ∨ k = 5 ∨ False := by omega
                rcases h3 with rfl | rfl | rfl | rfl | rfl | rfl | h3
                · exact absurd e sw1_0
                · exact absurd e sw1_1
                · exact absurd e sw1_2
                · exact absurd e sw1_3
                · exact absurd e sw1_4
                · exact absurd e sw1_5
                · exact h3
              refine lv_aload_n hx hb dX6_partsOf_92 rfl (lv_at hl 0 rfl) ?_
              refine rg  hx hb hT hu6 hown hK hP hL 24 5 (Nat.le_of_ble_eq_true rfl) (ms24 _ _) rfl (Nat.le_of_ble_eq_true rfl) (Fx0.T tw_2_91) rfl (v := .ref (ad 28)) rfl dX6_partsOf_93 ?_
              refine rgN  hx hb hT hu5 hown hK hP hL 28 6 (Nat.le_of_ble_eq_true rfl) (ms28 _ _) rfl (Nat.le_of_ble_eq_true rfl) tw_1_68 rfl (v := .ref (ad 34)) rfl dX6_partsOf_96 ?_
              refine lv_iload_n hx hb dX6_partsOf_99 rfl (lv_at hl 1 rfl) ?_
              obtain ⟨h9, hD⟩ := gd_el hD
              refine riald  hx hb hK hP hL 34 (Nat.le_of_ble_eq_true rfl) (ms34 _ _) h9 rfl dX6_partsOf_100 ?_
              cases hD
              exact hret _ _ _ hP hS (fun Qc hq => W.iret hx hb hr hq hS.2.2 dX6_partsOf_101 hlocks)

noncomputable def D_X6_missing (x1 : Int32) (x2 : Int32) (m : MM) : Option Int32 := b1 (D_X0_openOf x1 m) (fun v1 => b1 (D_X0_boardNeeds x1 m) (fun v3 => bnd ((v1 + ((x2 - (1 : Int32)) * v3))) (fun v5 => b1 (D_X6_inReels x1 m) (fun v6 => b1 (D_X6_heldOf x1 m) (fun v8 => bnd (if (0 : Int32) < ((v5 - v6) - v8) then ((v5 - v6) - v8) else (0 : Int32)) (fun v10 => some (v10)))))))
noncomputable def D_X6_boardsFor (x1 : Int32) (m : MM) : Option Int32 := b1 (D_X6_missing x1 (1 : Int32) m) (fun v1 => if v1 ≤ 0 then (b1 (D_X0_boardNeeds x1 m) (fun v3 => b1 (D_X6_inReels x1 m) (fun v5 => b1 (D_X6_heldOf x1 m) (fun v7 => b1 (D_X0_openOf x1 m) (fun v9 => bnd (((v5 + v7) - v9)) (fun v11 => if (1 : Int32) ≤ v3 then (if v3 = 0 then none else bnd (if ((1 : Int32) + (v11 / v3)) < (1000 : Int32) then ((1 : Int32) + (v11 / v3)) else (1000 : Int32)) (fun v13 => some (v13))) else (some ((1000 : Int32))))))))) else (some ((0 : Int32))))
noncomputable def D_X6_isWorn (q1 : Nat) (m : MM) : Option Int32 := if (gi m 25 12) ≤ 0 then (some ((0 : Int32))) else (if (gi m q1 7) < (gi m 25 12) then (some ((0 : Int32))) else (some ((1 : Int32))))
set_option maxHeartbeats 4000000 in
set_option maxRecDepth 100000 in
theorem c_X6_isWorn (l : Launch) {D : va_G} {cs : Nat → ClassId} {ad : Nat → Nat} {Wf : MM → va_W} (hL : Ln 51 ad (msh cs ad) Wf) (hAd : ∀ a0_ b0_ : MM, (Wf a0_).map (fun q => q.1) = (Wf b0_).map (fun q => q.1)) (m : MM) (q1 : Nat) (haq1 : q1 < 4) {rr : Int32} (hD : D_X6_isWorn q1 m = some (rr)) : Ct l yX6_isWorn cX6_isWorn 2 (some .boolean) 0 0 D cs [.ref (ad 24), .ref (ad q1)] (Wf m) (Wf m) (some (.int rr)) := by
  refine Ct.ofW (by decide) (Nat.le_of_ble_eq_true rfl) rfl ?_
  intro p e s m0 below meth c A Q ls args hx hb hr hml hlocks hown hts hK hP hD1 hSS hS hA1 hl hret
  have hT : ∀ w ∈ TBL, w.before args s = true := fun w h => hts w (List.mem_cons_of_mem _ h)
  have Fx0 : Fx p l m0 c cX6_isWorn 2 s args yX6_isWorn cX6_isWorn 2 (some .boolean) D cs A := ⟨hx, hb, hml, hown, hts, hK, hSS⟩
  have hown : s.vm.findClass RX6 = some m0.cls := hown
  have hl : lv_has ls 2 [(0, .ref (ad 24)), (1, .ref (ad q1))] := hl
  unfold D_X6_isWorn at hD
  refine lv_aload_n hx hb dX6_isWorn_0 rfl (lv_at hl 0 rfl) ?_
  refine rg  hx hb hT hu6 hown hK hP hL 24 0 (Nat.le_of_ble_eq_true rfl) (ms24 _ _) rfl (Nat.le_of_ble_eq_true rfl) (Fx0.T tw_2_75) rfl (v := .ref (ad 25)) rfl dX6_isWorn_1 ?_
  refine lv_bipush (v := (12 : Int32)) hx hb dX6_isWorn_4 (by decide) ?_
  refine riald  hx hb hK hP hL 25 (Nat.le_of_ble_eq_true rfl) (ms25 _ _) (by decide) (j := 12) (by decide) dX6_isWorn_6 ?_
  refine lv_if_le (tgt := 28) hx hb dX6_isWorn_7 (by decide) (fun c => ?_) (fun c => ?_)
  · have hD := ifp hD c
    refine lv_iconst (v := (0 : Int32)) hx hb dX6_isWorn_28 (by decide) ?_
    cases hD
    exact hret _ _ _ hP hS (fun Qc hq => W.zret hx hb hr rfl hq hS.2.2 dX6_isWorn_29 hlocks)
  · have hD := ifn hD c
    refine lv_aload_n hx hb dX6_isWorn_10 rfl (lv_at hl 1 rfl) ?_
    refine rgN  hx hb hT hu8 hown hK hP hL q1 7 (Nat.lt_of_lt_of_le haq1 (Nat.le_of_ble_eq_true rfl)) ((msp haq1) _ _) rfl (Nat.le_of_ble_eq_true rfl) tw_1_214 rfl (v := .int (gi m q1 7)) rfl dX6_isWorn_11 ?_
    refine lv_aload_n hx hb dX6_isWorn_14 rfl (lv_at hl 0 rfl) ?_
    refine rg  hx hb hT hu6 hown hK hP hL 24 0 (Nat.le_of_ble_eq_true rfl) (ms24 _ _) rfl (Nat.le_of_ble_eq_true rfl) (Fx0.T tw_2_75) rfl (v := .ref (ad 25)) rfl dX6_isWorn_15 ?_
    refine lv_bipush (v := (12 : Int32)) hx hb dX6_isWorn_18 (by decide) ?_
    refine riald  hx hb hK hP hL 25 (Nat.le_of_ble_eq_true rfl) (ms25 _ _) (by decide) (j := 12) (by decide) dX6_isWorn_20 ?_
    refine lv_icmp_lt (tgt := 28) hx hb dX6_isWorn_21 (by decide) (fun c => ?_) (fun c => ?_)
    · have hD := ifp hD c
      refine lv_iconst (v := (0 : Int32)) hx hb dX6_isWorn_28 (by decide) ?_
      cases hD
      exact hret _ _ _ hP hS (fun Qc hq => W.zret hx hb hr rfl hq hS.2.2 dX6_isWorn_29 hlocks)
    · have hD := ifn hD c
      refine lv_iconst (v := (1 : Int32)) hx hb dX6_isWorn_24 (by decide) ?_
      refine lv_goto (tgt := 29) hx hb dX6_isWorn_25 (by decide) ?_
      cases hD
      exact hret _ _ _ hP hS (fun Qc hq => W.zret hx hb hr rfl hq hS.2.2 dX6_isWorn_29 hlocks)

noncomputable def D_X6_wayTo (x1 : Int32) (x2 : Int32) (m : MM) : Option Int32 := bnd (if 0 ≤ (x1 - (gi m 24 11)) then (x1 - (gi m 24 11)) else 0 - (x1 - (gi m 24 11))) (fun v1 => bnd (if 0 ≤ (x2 - (gi m 24 12)) then (x2 - (gi m 24 12)) else 0 - (x2 - (gi m 24 12))) (fun v2 => bnd (if v1 < v2 then v2 else v1) (fun v3 => bnd ((gi m 25 0)) (fun v4 => if (1 : Int32) ≤ v4 then (if v4 = 0 then none else some ((((v3 + v4) - (1 : Int32)) / v4))) else (some (v3))))))
set_option maxHeartbeats 4000000 in
set_option maxRecDepth 100000 in
theorem c_X6_wayTo (l : Launch) {D : va_G} {cs : Nat → ClassId} {ad : Nat → Nat} {Wf : MM → va_W} (hL : Ln 51 ad (msh cs ad) Wf) (hAd : ∀ a0_ b0_ : MM, (Wf a0_).map (fun q => q.1) = (Wf b0_).map (fun q => q.1)) (m : MM) (x1 : Int32) (x2 : Int32) {rr : Int32} (hD : D_X6_wayTo x1 x2 m = some (rr)) : Ct l yX6_wayTo cX6_wayTo 5 (some .int) 1 24 D cs [.ref (ad 24), .int x1, .int x2] (Wf m) (Wf m) (some (.int rr)) := by
  refine Ct.ofW (by decide) (Nat.le_of_ble_eq_true rfl) rfl ?_
  intro p e s m0 below meth c A Q ls args hx hb hr hml hlocks hown hts hK hP hD1 hSS hS hA1 hl hret
  have hT : ∀ w ∈ TBL, w.before args s = true := fun w h => hts w (List.mem_cons_of_mem _ h)
  have Fx0 : Fx p l m0 c cX6_wayTo 5 s args yX6_wayTo cX6_wayTo 5 (some .int) D cs A := ⟨hx, hb, hml, hown, hts, hK, hSS⟩
  have hown : s.vm.findClass RX6 = some m0.cls := hown
  have hl : lv_has ls 5 [(0, .ref (ad 24)), (1, .int x1), (2, .int x2)] := hl
  unfold D_X6_wayTo at hD
  refine lv_iload_n hx hb dX6_wayTo_0 rfl (lv_at hl 1 rfl) ?_
  refine lv_aload_n hx hb dX6_wayTo_1 rfl (lv_at hl 0 rfl) ?_
  refine rg  hx hb hT hu6 hown hK hP hL 24 11 (Nat.le_of_ble_eq_true rfl) (ms24 _ _) rfl (Nat.le_of_ble_eq_true rfl) (Fx0.T tw_2_111) rfl (v := .int (gi m 24 11)) rfl dX6_wayTo_2 ?_
  refine lv_isub hx hb dX6_wayTo_5 ?_
  refine va_mabs hx hb (hml.trans hl.1.symm) hown (Fx0.T tw_5_129) (Fx0.T tw_4_163) (Fx0.T tw_1_18) (Fx0.T tw_4_164) (Nat.le_of_ble_eq_true rfl) (Nat.le_of_ble_eq_true rfl) (Nat.le_refl _) (Nat.le_refl _) dX6_wayTo_6 ?_
  obtain ⟨v1, ev1, hD⟩ := bnd_el hD
  refine lv_nmi ev1 ?_
  refine lv_iload_n hx hb dX6_wayTo_9 rfl (lv_at hl 2 rfl) ?_
  refine lv_aload_n hx hb dX6_wayTo_10 rfl (lv_at hl 0 rfl) ?_
  refine rg  hx hb hT hu6 hown hK hP hL 24 12 (Nat.le_of_ble_eq_true rfl) (ms24 _ _) rfl (Nat.le_of_ble_eq_true rfl) (Fx0.T tw_2_113) rfl (v := .int (gi m 24 12)) rfl dX6_wayTo_11 ?_
  refine lv_isub hx hb dX6_wayTo_14 ?_
  refine va_mabs hx hb (hml.trans hl.1.symm) hown (Fx0.T tw_5_129) (Fx0.T tw_4_163) (Fx0.T tw_1_18) (Fx0.T tw_4_164) (Nat.le_of_ble_eq_true rfl) (Nat.le_of_ble_eq_true rfl) (Nat.le_refl _) (Nat.le_refl _) dX6_wayTo_15 ?_
  obtain ⟨v2, ev2, hD⟩ := bnd_el hD
  refine lv_nmi ev2 ?_
  refine va_mmax hx hb (hml.trans hl.1.symm) hown (Fx0.T tw_5_130) (Fx0.T tw_4_84) (Fx0.T tw_1_18) (Fx0.T tw_4_85) (Nat.le_of_ble_eq_true rfl) (Nat.le_of_ble_eq_true rfl) (Nat.le_refl _) (Nat.le_refl _) dX6_wayTo_18 ?_
  obtain ⟨v3, ev3, hD⟩ := bnd_el hD
  refine lv_nmi ev3 ?_
  refine lv_istore_n (lv' := [(3, .int v3), (0, .ref (ad 24)), (1, .int x1), (2, .int x2)]) hx hb dX6_wayTo_21 rfl hl (by decide) rfl (fun ls hl => ?_)
  refine lv_aload_n hx hb dX6_wayTo_22 rfl (lv_at hl 1 rfl) ?_
  refine rg  hx hb hT hu6 hown hK hP hL 24 0 (Nat.le_of_ble_eq_true rfl) (ms24 _ _) rfl (Nat.le_of_ble_eq_true rfl) (Fx0.T tw_2_75) rfl (v := .ref (ad 25)) rfl dX6_wayTo_23 ?_
  refine lv_iconst (v := (0 : Int32)) hx hb dX6_wayTo_26 (by decide) ?_
  refine riald  hx hb hK hP hL 25 (Nat.le_of_ble_eq_true rfl) (ms25 _ _) (by decide) (j := 0) (by decide) dX6_wayTo_27 ?_
  obtain ⟨v4, ev4, hD⟩ := bnd_el hD
  refine lv_nmi ev4 ?_
  refine lv_istore (lv' := [(4, .int v4), (3, .int v3), (0, .ref (ad 24)), (1, .int x1), (2, .int x2)]) hx hb dX6_wayTo_28 hl (by decide) rfl (fun ls hl => ?_)
  refine lv_iload hx hb dX6_wayTo_30 (lv_at hl 0 rfl) ?_
  refine lv_iconst (v := (1 : Int32)) hx hb dX6_wayTo_32 (by decide) ?_
  refine lv_icmp_ge (tgt := 40) hx hb dX6_wayTo_33 (by decide) (fun c => ?_) (fun c => ?_)
  · have hD := ifp hD c
    refine lv_iload_n hx hb dX6_wayTo_40 rfl (lv_at hl 1 rfl) ?_
    refine lv_iload hx hb dX6_wayTo_41 (lv_at hl 0 rfl) ?_
    refine lv_iadd hx hb dX6_wayTo_43 ?_
    refine lv_iconst (v := (1 : Int32)) hx hb dX6_wayTo_44 (by decide) ?_
    refine lv_isub hx hb dX6_wayTo_45 ?_
    refine lv_iload hx hb dX6_wayTo_46 (lv_at hl 0 rfl) ?_
    obtain ⟨h5, hD⟩ := gd_el hD
    refine lv_idiv hx hb dX6_wayTo_48 h5 ?_
    cases hD
    exact hret _ _ _ hP hS (fun Qc hq => W.iret hx hb hr hq hS.2.2 dX6_wayTo_49 hlocks)
  · have hD := ifn hD c
    refine lv_iload_n hx hb dX6_wayTo_36 rfl (lv_at hl 1 rfl) ?_
    refine lv_goto (tgt := 49) hx hb dX6_wayTo_37 (by decide) ?_
    cases hD
    exact hret _ _ _ hP hS (fun Qc hq => W.iret hx hb hr hq hS.2.2 dX6_wayTo_49 hlocks)

noncomputable def D_X6_goTo (x1 : Int32) (x2 : Int32) (x3 : Int32) (m : MM) : Option MM := b1 (D_X6_wayTo x1 x2 m) (fun v1 => bnd (si m 24 13 ((gi m 24 13) + (v1 + x3))) (fun m3 => bnd (si m3 24 11 x1) (fun m4 => bnd (si m4 24 12 x2) (fun m5 => some (m5)))))
set_option maxHeartbeats 4000000 in
set_option maxRecDepth 100000 in
theorem c_X6_goTo (l : Launch) {D : va_G} {cs : Nat → ClassId} {ad : Nat → Nat} {Wf : MM → va_W} (hL : Ln 51 ad (msh cs ad) Wf) (hAd : ∀ a0_ b0_ : MM, (Wf a0_).map (fun q => q.1) = (Wf b0_).map (fun q => q.1)) (m : MM) (x1 : Int32) (x2 : Int32) (x3 : Int32) {m' : MM} (hD : D_X6_goTo x1 x2 x3 m = some (m')) : Ct l yX6_goTo cX6_goTo 4 none 2 48 D cs [.ref (ad 24), .int x1, .int x2, .int x3] (Wf m) (Wf m') (none) := by
  refine Ct.ofW (by decide) (Nat.le_of_ble_eq_true rfl) (hAd _ _) ?_
  intro p e s m0 below meth c A Q ls args hx hb hr hml hlocks hown hts hK hP hD1 hSS hS hA1 hl hret
  have hT : ∀ w ∈ TBL, w.before args s = true := fun w h => hts w (List.mem_cons_of_mem _ h)
  have Fx0 : Fx p l m0 c cX6_goTo 4 s args yX6_goTo cX6_goTo 4 none D cs A := ⟨hx, hb, hml, hown, hts, hK, hSS⟩
  have hown : s.vm.findClass RX6 = some m0.cls := hown
  have hl : lv_has ls 4 [(0, .ref (ad 24)), (1, .int x1), (2, .int x2), (3, .int x3)] := hl
  unfold D_X6_goTo at hD
  refine lv_aload_n hx hb dX6_goTo_0 rfl (lv_at hl 0 rfl) ?_
  refine lv_dup hx hb dX6_goTo_1 rfl ?_
  refine rg  hx hb hT hu6 hown hK hP hL 24 13 (Nat.le_of_ble_eq_true rfl) (ms24 _ _) rfl (Nat.le_of_ble_eq_true rfl) (Fx0.T tw_2_115) rfl (v := .int (gi m 24 13)) rfl dX6_goTo_2 ?_
  refine lv_aload_n hx hb dX6_goTo_5 rfl (lv_at hl 0 rfl) ?_
  refine lv_iload_n hx hb dX6_goTo_6 rfl (lv_at hl 1 rfl) ?_
  refine lv_iload_n hx hb dX6_goTo_7 rfl (lv_at hl 2 rfl) ?_
  obtain ⟨v1, z2, hD⟩ := b1_el hD
  refine rcV  (As := [.int x1, .int x2]) (rest := [.int (gi m 24 13), .ref (ad 24)]) Fx0 (c_X6_wayTo l hL hAd m x1 x2 z2) hP (hD1 _ (hAd _ _)) hS (hA1 _ _ (hAd _ _) hS.1) hL (Nat.le_of_ble_eq_true rfl) (ms24 _ _) rfl tw_5_128 tw_5_125 tw_5_127 ts_45 tw_1_2 yd_X6_wayTo ⟨(Nat.le_of_ble_eq_true rfl), (Nat.le_of_ble_eq_true rfl)⟩ rfl hl.1 rfl (Nat.le_of_ble_eq_true rfl) dX6_goTo_8 (fun H locs hP hS => ?_)
  refine lv_iload_n hx hb dX6_goTo_11 rfl (lv_at hl 3 rfl) ?_
  refine lv_iadd hx hb dX6_goTo_12 ?_
  refine lv_iadd hx hb dX6_goTo_13 ?_
  obtain ⟨m3, em3, hD⟩ := bnd_el hD
  refine rp  hx hb hT hu6 tyX6_ok nmX6 hown hK hP (hD1 _ (hAd _ _)) hS hL 24 13 (Nat.le_of_ble_eq_true rfl) (ms24 _ _) (ms24 _ _) rfl (Nat.le_of_ble_eq_true rfl) (Fx0.T tw_2_115) rfl rfl rfl rfl (Nat.le_of_ble_eq_true rfl) dX6_goTo_14 em3 (fun H locs hP hS => ?_)
  refine lv_aload_n hx hb dX6_goTo_17 rfl (lv_at hl 0 rfl) ?_
  refine lv_iload_n hx hb dX6_goTo_18 rfl (lv_at hl 1 rfl) ?_
  obtain ⟨m4, em4, hD⟩ := bnd_el hD
  refine rp  hx hb hT hu6 tyX6_ok nmX6 hown hK hP (hD1 _ (hAd _ _)) hS hL 24 11 (Nat.le_of_ble_eq_true rfl) (ms24 _ _) (ms24 _ _) rfl (Nat.le_of_ble_eq_true rfl) (Fx0.T tw_2_111) rfl rfl rfl rfl (Nat.le_of_ble_eq_true rfl) dX6_goTo_19 em4 (fun H locs hP hS => ?_)
  refine lv_aload_n hx hb dX6_goTo_22 rfl (lv_at hl 0 rfl) ?_
  refine lv_iload_n hx hb dX6_goTo_23 rfl (lv_at hl 2 rfl) ?_
  obtain ⟨m5, em5, hD⟩ := bnd_el hD
  refine rp  hx hb hT hu6 tyX6_ok nmX6 hown hK hP (hD1 _ (hAd _ _)) hS hL 24 12 (Nat.le_of_ble_eq_true rfl) (ms24 _ _) (ms24 _ _) rfl (Nat.le_of_ble_eq_true rfl) (Fx0.T tw_2_113) rfl rfl rfl rfl (Nat.le_of_ble_eq_true rfl) dX6_goTo_24 em5 (fun H locs hP hS => ?_)
  cases hD
  exact hret _ _ _ hP hS (fun Qc hq => W.vret hx hb hr hq hS.2.2 dX6_goTo_27 hlocks)

noncomputable def D_X6_draw (m : MM) : Option (Int32 × MM) := bnd (si m 25 10 (((((gi m 25 10).toInt64 * (1103515245 : Int64)) + (12345 : Int64)) - (((gi m 25 10).toInt64 * (1103515245 : Int64)) + (12345 : Int64)) / (2147483648 : Int64) * (2147483648 : Int64)).toInt32)) (fun m1 => some ((((gi m1 25 10) / (65536 : Int32)) - ((gi m1 25 10) / (65536 : Int32)) / (100 : Int32) * (100 : Int32)), m1))
set_option maxHeartbeats 4000000 in
set_option maxRecDepth 100000 in
theorem c_X6_draw (l : Launch) {D : va_G} {cs : Nat → ClassId} {ad : Nat → Nat} {Wf : MM → va_W} (hL : Ln 51 ad (msh cs ad) Wf) (hAd : ∀ a0_ b0_ : MM, (Wf a0_).map (fun q => q.1) = (Wf b0_).map (fun q => q.1)) (m : MM) {rr : Int32} {m' : MM} (hD : D_X6_draw m = some (rr, m')) : Ct l yX6_draw cX6_draw 1 (some .int) 0 0 D cs [.ref (ad 24)] (Wf m) (Wf m') (some (.int rr)) := by
  refine Ct.ofW (by decide) (Nat.le_of_ble_eq_true rfl) (hAd _ _) ?_
  intro p e s m0 below meth c A Q ls args hx hb hr hml hlocks hown hts hK hP hD1 hSS hS hA1 hl hret
  have hT : ∀ w ∈ TBL, w.before args s = true := fun w h => hts w (List.mem_cons_of_mem _ h)
  have Fx0 : Fx p l m0 c cX6_draw 1 s args yX6_draw cX6_draw 1 (some .int) D cs A := ⟨hx, hb, hml, hown, hts, hK, hSS⟩
  have hown : s.vm.findClass RX6 = some m0.cls := hown
  have hl : lv_has ls 1 [(0, .ref (ad 24))] := hl
  unfold D_X6_draw at hD
  refine lv_aload_n hx hb dX6_draw_0 rfl (lv_at hl 0 rfl) ?_
  refine rg  hx hb hT hu6 hown hK hP hL 24 0 (Nat.le_of_ble_eq_true rfl) (ms24 _ _) rfl (Nat.le_of_ble_eq_true rfl) (Fx0.T tw_2_75) rfl (v := .ref (ad 25)) rfl dX6_draw_1 ?_
  refine lv_bipush (v := (10 : Int32)) hx hb dX6_draw_4 (by decide) ?_
  refine lv_aload_n hx hb dX6_draw_6 rfl (lv_at hl 0 rfl) ?_
  refine rg  hx hb hT hu6 hown hK hP hL 24 0 (Nat.le_of_ble_eq_true rfl) (ms24 _ _) rfl (Nat.le_of_ble_eq_true rfl) (Fx0.T tw_2_75) rfl (v := .ref (ad 25)) rfl dX6_draw_7 ?_
  refine lv_bipush (v := (10 : Int32)) hx hb dX6_draw_10 (by decide) ?_
  refine riald  hx hb hK hP hL 25 (Nat.le_of_ble_eq_true rfl) (ms25 _ _) (by decide) (j := 10) (by decide) dX6_draw_12 ?_
  refine lv_i2l (v := (gi m 25 10).toInt64) hx hb dX6_draw_13 rfl ?_
  refine lv_ldc2 (v := (1103515245 : Int64)) hx hb hown (Fx0.T tw_5_143) dX6_draw_14 ?_
  refine lv_lmul hx hb dX6_draw_17 ?_
  refine lv_ldc2 (v := (12345 : Int64)) hx hb hown (Fx0.T tw_5_144) dX6_draw_18 ?_
  refine lv_ladd hx hb dX6_draw_21 ?_
  refine lv_ldc2 (v := (2147483648 : Int64)) hx hb hown (Fx0.T tw_5_145) dX6_draw_22 ?_
  refine lv_lrem hx hb dX6_draw_25 (by decide) ?_
  refine lv_l2i (v := ((((gi m 25 10).toInt64 * (1103515245 : Int64)) + (12345 : Int64)) - (((gi m 25 10).toInt64 * (1103515245 : Int64)) + (12345 : Int64)) / (2147483648 : Int64) * (2147483648 : Int64)).toInt32) hx hb dX6_draw_26 rfl ?_
  obtain ⟨m1, em1, hD⟩ := bnd_el hD
  refine riast  hx hb hK hP (hD1 _ (hAd _ _)) hS hL 25 (Nat.le_of_ble_eq_true rfl) (fun _ => ms25 _ _) (by decide) (j := 10) (by decide) dX6_draw_27 em1 (fun H locs hP hS => ?_)
  refine lv_aload_n hx hb dX6_draw_28 rfl (lv_at hl 0 rfl) ?_
  refine rg  hx hb hT hu6 hown hK hP hL 24 0 (Nat.le_of_ble_eq_true rfl) (ms24 _ _) rfl (Nat.le_of_ble_eq_true rfl) (Fx0.T tw_2_75) rfl (v := .ref (ad 25)) rfl dX6_draw_29 ?_
  refine lv_bipush (v := (10 : Int32)) hx hb dX6_draw_32 (by decide) ?_
  refine riald  hx hb hK hP hL 25 (Nat.le_of_ble_eq_true rfl) (ms25 _ _) (by decide) (j := 10) (by decide) dX6_draw_34 ?_
  refine lv_ldcw (v := (65536 : Int32)) hx hb hown (Fx0.T tw_5_146) dX6_draw_35 ?_
  refine lv_idiv hx hb dX6_draw_38 (by decide) ?_
  refine lv_bipush (v := (100 : Int32)) hx hb dX6_draw_39 (by decide) ?_
  refine lv_irem hx hb dX6_draw_41 (by decide) ?_
  cases hD
  exact hret _ _ _ hP hS (fun Qc hq => W.iret hx hb hr hq hS.2.2 dX6_draw_42 hlocks)
