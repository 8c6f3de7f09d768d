/-! the methods of one machine -/
noncomputable def D_X6_changeTo_33 (q1 : Nat) (x2 : Int32) (m : MM) : Option MM := if x2 < 0 ∨ 6 ≤ x2.toNatClampNeg then none else (if x2 < 0 ∨ 6 ≤ x2.toNatClampNeg then none else (bnd (si m 27 x2.toNatClampNeg ((gi m 27 x2.toNatClampNeg) - (1 : Int32))) (fun m5 => bnd (si m5 q1 0 x2) (fun m6 => bnd (si m6 q1 7 (0 : Int32)) (fun m7 => bnd (si m7 q1 5 ((gi m7 q1 5) + (1 : Int32))) (fun m8 => some (m8)))))))
noncomputable def D_X6_changeTo (q1 : Nat) (x2 : Int32) (m : MM) : Option MM := b1 (D_X6_goTo (0 : Int32) (0 : Int32) (gi m 25 1) m) (fun m1 => if (gi m1 q1 0) = (-1 : Int32) then (D_X6_changeTo_33 q1 x2 m1) else (bnd ((gi m1 q1 0)) (fun v9 => if v9 < 0 ∨ 6 ≤ v9.toNatClampNeg then none else (if v9 < 0 ∨ 6 ≤ v9.toNatClampNeg then none else (bnd (si m1 27 v9.toNatClampNeg ((gi m1 27 v9.toNatClampNeg) + (1 : Int32))) (fun m12 => D_X6_changeTo_33 q1 x2 m12))))))
set_option maxHeartbeats 4000000 in
set_option maxRecDepth 100000 in
theorem c_X6_changeTo (l : Launch) {D : va_G} {cs : Nat → ClassId} {ad : Nat → Nat} {Wf : MM → va_W} (hL : Ln 51 ad (msh cs ad) Wf) (hAd : ∀ a0_ b0_ : MM, (Wf a0_).map (fun q => q.1) = (Wf b0_).map (fun q => q.1)) (m : MM) (q1 : Nat) (haq1 : q1 < 4) (x2 : Int32) {m' : MM} (hD : D_X6_changeTo q1 x2 m = some (m')) : Ct l yX6_changeTo cX6_changeTo 3 none 3 71 D cs [.ref (ad 24), .ref (ad q1), .int x2] (Wf m) (Wf m') (none) := by
  refine Ct.ofW (by decide) (Nat.le_of_ble_eq_true rfl) (hAd _ _) ?_
  intro p e s m0 below meth c A Q ls args hx hb hr hml hlocks hown hts hK hP hD1 hSS hS hA1 hl hret
  have hT : ∀ w ∈ TBL, w.before args s = true := fun w h => hts w (List.mem_cons_of_mem _ h)
  have Fx0 : Fx p l m0 c cX6_changeTo 3 s args yX6_changeTo cX6_changeTo 3 none D cs A := ⟨hx, hb, hml, hown, hts, hK, hSS⟩
  have hown : s.vm.findClass RX6 = some m0.cls := hown
  have hl : lv_has ls 3 [(0, .ref (ad 24)), (1, .ref (ad q1)), (2, .int x2)] := hl
  unfold D_X6_changeTo at hD
  have c_33 : ∀ (q1 : Nat) (x2 : Int32) (m : MM) (H : Heap) (locs : List Loc) (ls : Array Slot), D_X6_changeTo_33 q1 x2 m = some (m') → q1 < 4 → va_P D vwCl (Wf m) H → va_S A s.heap H locs → lv_has ls 3 [(0, .ref (ad 24)), (1, .ref (ad q1)), (2, .int x2)] → W p l e ({ frames := 3, cells := 0, slots := 0, locals := 71 } : Room) s m0 args below meth c H locs 0 0 Q (F0 m0 33 ls []) := by
    intro q1 x2 m H locs ls hD haq1 hP hS hl
    unfold D_X6_changeTo_33 at hD
    refine lv_aload_n hx hb dX6_changeTo_33 rfl (lv_at hl 0 rfl) ?_
    refine rg  hx hb hT hu6 hown hK hP hL 24 4 (Nat.le_of_ble_eq_true rfl) (ms24 _ _) rfl (Nat.le_of_ble_eq_true rfl) (Fx0.T tw_2_88) rfl (v := .ref (ad 27)) rfl dX6_changeTo_34 ?_
    refine lv_iload_n hx hb dX6_changeTo_37 rfl (lv_at hl 2 rfl) ?_
    refine lv_dup2_11 hx hb dX6_changeTo_38 rfl rfl ?_
    obtain ⟨h3, hD⟩ := gd_el hD
    refine riald  hx hb hK hP hL 27 (Nat.le_of_ble_eq_true rfl) (ms27 _ _) h3 rfl dX6_changeTo_39 ?_
    refine lv_iconst (v := (1 : Int32)) hx hb dX6_changeTo_40 (by decide) ?_
    refine lv_isub hx hb dX6_changeTo_41 ?_
    obtain ⟨h4, hD⟩ := gd_el hD
    obtain ⟨m5, em5, hD⟩ := bnd_el hD
    refine riast  hx hb hK hP (hD1 _ (hAd _ _)) hS hL 27 (Nat.le_of_ble_eq_true rfl) (fun _ => ms27 _ _) h4 rfl dX6_changeTo_42 em5 (fun H locs hP hS => ?_)
    refine lv_aload_n hx hb dX6_changeTo_43 rfl (lv_at hl 1 rfl) ?_
    refine lv_iload_n hx hb dX6_changeTo_44 rfl (lv_at hl 2 rfl) ?_
    obtain ⟨m6, em6, hD⟩ := bnd_el hD
    refine rpN  hx hb hT hu8 tyX8_ok nmX8 hown hK hP (hD1 _ (hAd _ _)) hS hL q1 0 (Nat.lt_of_lt_of_le haq1 (Nat.le_of_ble_eq_true rfl)) ((msp haq1) _ _) ((msp haq1) _ _) rfl (Nat.le_of_ble_eq_true rfl) tw_1_195 rfl rfl rfl rfl (Nat.le_of_ble_eq_true rfl) dX6_changeTo_45 em6 (fun H locs hP hS => ?_)
    refine lv_aload_n hx hb dX6_changeTo_48 rfl (lv_at hl 1 rfl) ?_
    refine lv_iconst (v := (0 : Int32)) hx hb dX6_changeTo_49 (by decide) ?_
    obtain ⟨m7, em7, hD⟩ := bnd_el hD
    refine rpN  hx hb hT hu8 tyX8_ok nmX8 hown hK hP (hD1 _ (hAd _ _)) hS hL q1 7 (Nat.lt_of_lt_of_le haq1 (Nat.le_of_ble_eq_true rfl)) ((msp haq1) _ _) ((msp haq1) _ _) rfl (Nat.le_of_ble_eq_true rfl) tw_1_214 rfl rfl rfl rfl (Nat.le_of_ble_eq_true rfl) dX6_changeTo_50 em7 (fun H locs hP hS => ?_)
    refine lv_aload_n hx hb dX6_changeTo_53 rfl (lv_at hl 1 rfl) ?_
    refine lv_dup hx hb dX6_changeTo_54 rfl ?_
    refine rgN  hx hb hT hu8 hown hK hP hL q1 5 (Nat.lt_of_lt_of_le haq1 (Nat.le_of_ble_eq_true rfl)) ((msp haq1) _ _) rfl (Nat.le_of_ble_eq_true rfl) tw_1_210 rfl (v := .int (gi m7 q1 5)) rfl dX6_changeTo_55 ?_
    refine lv_iconst (v := (1 : Int32)) hx hb dX6_changeTo_58 (by decide) ?_
    refine lv_iadd hx hb dX6_changeTo_59 ?_
    obtain ⟨m8, em8, hD⟩ := bnd_el hD
    refine rpN  hx hb hT hu8 tyX8_ok nmX8 hown hK hP (hD1 _ (hAd _ _)) hS hL q1 5 (Nat.lt_of_lt_of_le haq1 (Nat.le_of_ble_eq_true rfl)) ((msp haq1) _ _) ((msp haq1) _ _) rfl (Nat.le_of_ble_eq_true rfl) tw_1_210 rfl rfl rfl rfl (Nat.le_of_ble_eq_true rfl) dX6_changeTo_60 em8 (fun H locs hP hS => ?_)
    cases hD
    exact hret _ _ _ hP hS (fun Qc hq => W.vret hx hb hr hq hS.2.2 dX6_changeTo_63 hlocks)
  refine lv_aload_n hx hb dX6_changeTo_0 rfl (lv_at hl 0 rfl) ?_
  refine lv_iconst (v := (0 : Int32)) hx hb dX6_changeTo_1 (by decide) ?_
  refine lv_iconst (v := (0 : Int32)) hx hb dX6_changeTo_2 (by decide) ?_
  refine lv_aload_n hx hb dX6_changeTo_3 rfl (lv_at hl 0 rfl) ?_
  refine rg  hx hb hT hu6 hown hK hP hL 24 0 (Nat.le_of_ble_eq_true rfl) (ms24 _ _) rfl (Nat.le_of_ble_eq_true rfl) (Fx0.T tw_2_75) rfl (v := .ref (ad 25)) rfl dX6_changeTo_4 ?_
  refine lv_iconst (v := (1 : Int32)) hx hb dX6_changeTo_7 (by decide) ?_
  refine riald  hx hb hK hP hL 25 (Nat.le_of_ble_eq_true rfl) (ms25 _ _) (by decide) (j := 1) (by decide) dX6_changeTo_8 ?_
  obtain ⟨m1, z2, hD⟩ := b1_el hD
  refine rcV  (As := [.int (0 : Int32), .int (0 : Int32), .int (gi m 25 1)]) (rest := []) Fx0 (c_X6_goTo l hL hAd m (0 : Int32) (0 : Int32) (gi m 25 1) z2) hP (hD1 _ (hAd _ _)) hS (hA1 _ _ (hAd _ _) hS.1) hL (Nat.le_of_ble_eq_true rfl) (ms24 _ _) rfl tw_5_124 tw_5_121 tw_5_123 ts_44 tw_1_2 yd_X6_goTo ⟨(Nat.le_of_ble_eq_true rfl), (Nat.le_of_ble_eq_true rfl)⟩ rfl hl.1 rfl (Nat.le_of_ble_eq_true rfl) dX6_changeTo_9 (fun H locs hP hS => ?_)
  refine lv_aload_n hx hb dX6_changeTo_12 rfl (lv_at hl 1 rfl) ?_
  refine rgN  hx hb hT hu8 hown hK hP hL q1 0 (Nat.lt_of_lt_of_le haq1 (Nat.le_of_ble_eq_true rfl)) ((msp haq1) _ _) rfl (Nat.le_of_ble_eq_true rfl) tw_1_195 rfl (v := .int (gi m1 q1 0)) rfl dX6_changeTo_13 ?_
  refine lv_iconst (v := (-1 : Int32)) hx hb dX6_changeTo_16 (by decide) ?_
  refine lv_icmp_eq (tgt := 33) hx hb dX6_changeTo_17 (by decide) (fun c => ?_) (fun c => ?_)
  · have hD := ifp hD c
    exact c_33 _ _ _ _ _ _ hD haq1 hP hS (lv_sub hl [0, 1, 2] rfl)
  · have hD := ifn hD c
    refine lv_aload_n hx hb dX6_changeTo_20 rfl (lv_at hl 0 rfl) ?_
    refine rg  hx hb hT hu6 hown hK hP hL 24 4 (Nat.le_of_ble_eq_true rfl) (ms24 _ _) rfl (Nat.le_of_ble_eq_true rfl) (Fx0.T tw_2_88) rfl (v := .ref (ad 27)) rfl dX6_changeTo_21 ?_
    refine lv_aload_n hx hb dX6_changeTo_24 rfl (lv_at hl 1 rfl) ?_
    refine rgN  hx hb hT hu8 hown hK hP hL q1 0 (Nat.lt_of_lt_of_le haq1 (Nat.le_of_ble_eq_true rfl)) ((msp haq1) _ _) rfl (Nat.le_of_ble_eq_true rfl) tw_1_195 rfl (v := .int (gi m1 q1 0)) rfl dX6_changeTo_25 ?_
    obtain ⟨v9, ev9, hD⟩ := bnd_el hD
    refine lv_nmi ev9 ?_
    refine lv_dup2_11 hx hb dX6_changeTo_28 rfl rfl ?_
    obtain ⟨h10, hD⟩ := gd_el hD
    refine riald  hx hb hK hP hL 27 (Nat.le_of_ble_eq_true rfl) (ms27 _ _) h10 rfl dX6_changeTo_29 ?_
    refine lv_iconst (v := (1 : Int32)) hx hb dX6_changeTo_30 (by decide) ?_
    refine lv_iadd hx hb dX6_changeTo_31 ?_
    obtain ⟨h11, hD⟩ := gd_el hD
    obtain ⟨m12, em12, hD⟩ := bnd_el hD
    refine riast  hx hb hK hP (hD1 _ (hAd _ _)) hS hL 27 (Nat.le_of_ble_eq_true rfl) (fun _ => ms27 _ _) h11 rfl dX6_changeTo_32 em12 (fun H locs hP hS => ?_)
    exact c_33 _ _ _ _ _ _ hD haq1 hP hS (lv_sub hl [0, 1, 2] rfl)

noncomputable def D_X6_pickFrom_144 (q2 : Nat) (x4 : Int32) (m : MM) : Option (Int32 × MM) := b2 (D_X2_spliceIfEmpty q2 m) (fun v13 m14 => bnd (si m14 45 8 ((gi m 45 8) + v13)) (fun m16 => if x4 = 0 then (some ((1 : Int32), m16)) else (some ((0 : Int32), m16))))
noncomputable def D_X6_pickFrom_70 (q1 : Nat) (q2 : Nat) (xt0 : Int32) (m : MM) : Option (Int32 × MM) := bnd (si m q1 7 ((gi m q1 7) + (1 : Int32))) (fun m9 => bnd (si m9 q2 2 ((gi m9 q2 2) - (1 : Int32))) (fun m10 => if xt0 = 0 then (bnd (si m10 q2 6 ((gi m10 q2 6) + (1 : Int32))) (fun m11 => bnd (si m11 q1 1 (gi m11 q2 0)) (fun m12 => D_X6_pickFrom_144 q2 xt0 m12))) else (bnd (si m10 q2 7 ((gi m10 q2 7) + (1 : Int32))) (fun m17 => bnd ((gi m17 q2 0)) (fun v18 => if v18 < 0 ∨ 8 ≤ v18.toNatClampNeg then none else (if v18 < 0 ∨ 8 ≤ v18.toNatClampNeg then none else (bnd (si m17 33 v18.toNatClampNeg ((gi m17 33 v18.toNatClampNeg) + (1 : Int32))) (fun m21 => D_X6_pickFrom_144 q2 xt0 m21))))))))
noncomputable def D_X6_pickFrom (q1 : Nat) (q2 : Nat) (m : MM) : Option (Int32 × MM) := b1 (D_X6_goTo (gi m q2 1) (0 : Int32) (gi m 25 2) m) (fun m1 => if (gi m1 q2 8) = 0 then (b1 (D_X6_isWorn q1 m1) (fun v3 => if v3 = 0 then (bnd ((gi m1 q2 3)) (fun v5 => b2 (D_X6_draw m1) (fun v6 m7 => if v5 ≤ v6 then (D_X6_pickFrom_70 q1 q2 (0 : Int32) m7) else (D_X6_pickFrom_70 q1 q2 (1 : Int32) m7)))) else (bnd (((gi m1 q2 3) + (gi m1 25 13))) (fun v22 => b2 (D_X6_draw m1) (fun v23 m24 => if v22 ≤ v23 then (D_X6_pickFrom_70 q1 q2 (0 : Int32) m24) else (D_X6_pickFrom_70 q1 q2 (1 : Int32) m24)))))) else (bnd (si m1 q2 8 (0 : Int32)) (fun m26 => some ((0 : Int32), m26))))
set_option maxHeartbeats 4000000 in
set_option maxRecDepth 100000 in
theorem c_X6_pickFrom (l : Launch) {D : va_G} {cs : Nat → ClassId} {ad : Nat → Nat} {Wf : MM → va_W} (hL : Ln 51 ad (msh cs ad) Wf) (hAd : ∀ a0_ b0_ : MM, (Wf a0_).map (fun q => q.1) = (Wf b0_).map (fun q => q.1)) (m : MM) (q1 : Nat) (haq1 : q1 < 4) (q2 : Nat) (haq2 : 4 ≤ q2) (hbq2 : q2 < 14) {rr : Int32} {m' : MM} (hD : D_X6_pickFrom q1 q2 m = some (rr, m')) : Ct l yX6_pickFrom cX6_pickFrom 5 (some .int) 3 85 D cs [.ref (ad 24), .ref (ad q1), .ref (ad q2)] (Wf m) (Wf m') (some (.int rr)) := by
  refine Ct.ofW (by decide) (Nat.le_of_ble_eq_true rfl) (hAd _ _) ?_
  intro p e s m0 below meth c A Q ls args hx hb hr hml hlocks hown hts hK hP hD1 hSS hS hA1 hl hret
  have hT : ∀ w ∈ TBL, w.before args s = true := fun w h => hts w (List.mem_cons_of_mem _ h)
  have Fx0 : Fx p l m0 c cX6_pickFrom 5 s args yX6_pickFrom cX6_pickFrom 5 (some .int) D cs A := ⟨hx, hb, hml, hown, hts, hK, hSS⟩
  have hown : s.vm.findClass RX6 = some m0.cls := hown
  have hl : lv_has ls 5 [(0, .ref (ad 24)), (1, .ref (ad q1)), (2, .ref (ad q2))] := hl
  unfold D_X6_pickFrom at hD
  have c_144 : ∀ (q2 : Nat) (x4 : Int32) (m : MM) (H : Heap) (locs : List Loc) (ls : Array Slot), D_X6_pickFrom_144 q2 x4 m = some (rr, m') → 4 ≤ q2 → q2 < 14 → va_P D vwCl (Wf m) H → va_S A s.heap H locs → lv_has ls 5 [(0, .ref (ad 24)), (2, .ref (ad q2)), (4, .int x4)] → W p l e ({ frames := 3, cells := 0, slots := 0, locals := 85 } : Room) s m0 args below meth c H locs 0 0 Q (F0 m0 144 ls []) := by
    intro q2 x4 m H locs ls hD haq2 hbq2 hP hS hl
    unfold D_X6_pickFrom_144 at hD
    refine lv_aload_n hx hb dX6_pickFrom_144 rfl (lv_at hl 0 rfl) ?_
    refine rg  hx hb hT hu6 hown hK hP hL 24 10 (Nat.le_of_ble_eq_true rfl) (ms24 _ _) rfl (Nat.le_of_ble_eq_true rfl) (Fx0.T tw_2_109) rfl (v := .ref (ad 45)) rfl dX6_pickFrom_145 ?_
    refine lv_dup hx hb dX6_pickFrom_148 rfl ?_
    refine rgN  hx hb hT hu4 hown hK hP hL 45 8 (Nat.le_of_ble_eq_true rfl) (ms45 _ _) rfl (Nat.le_of_ble_eq_true rfl) tw_1_168 rfl (v := .int (gi m 45 8)) rfl dX6_pickFrom_149 ?_
    refine lv_aload_n hx hb dX6_pickFrom_152 rfl (lv_at hl 1 rfl) ?_
    obtain ⟨v13, m14, z15, hD⟩ := b2_el hD
    refine rcVN  (As := []) (rest := [.int (gi m 45 8), .ref (ad 45)]) Fx0 (c_X2_spliceIfEmpty l hL hAd m q2 haq2 hbq2 z15) hP (hD1 _ (hAd _ _)) hS (hA1 _ _ (hAd _ _) hS.1) hL (Nat.lt_of_lt_of_le hbq2 (Nat.le_of_ble_eq_true rfl)) ((mfe haq2 hbq2) _ _) rfl tw_5_150 tw_5_147 tw_5_149 ts_49 tw_1_7 yd_X2_spliceIfEmpty ⟨(Nat.le_of_ble_eq_true rfl), (Nat.le_of_ble_eq_true rfl)⟩ rfl hl.1 rfl (Nat.le_of_ble_eq_true rfl) dX6_pickFrom_153 (fun H locs hP hS => ?_)
    refine lv_iadd hx hb dX6_pickFrom_156 ?_
    obtain ⟨m16, em16, hD⟩ := bnd_el hD
    refine rpN  hx hb hT hu4 tyX4_ok nmX4 hown hK hP (hD1 _ (hAd _ _)) hS hL 45 8 (Nat.le_of_ble_eq_true rfl) (ms45 _ _) (ms45 _ _) rfl (Nat.le_of_ble_eq_true rfl) tw_1_168 rfl rfl rfl rfl (Nat.le_of_ble_eq_true rfl) dX6_pickFrom_157 em16 (fun H locs hP hS => ?_)
    refine lv_iload hx hb dX6_pickFrom_160 (lv_at hl 2 rfl) ?_
    refine lv_if_eq (tgt := 169) hx hb dX6_pickFrom_162 (by decide) (fun c => ?_) (fun c => ?_)
    · have hD := ifp hD c
      refine lv_iconst (v := (1 : Int32)) hx hb dX6_pickFrom_169 (by decide) ?_
      cases hD
      exact hret _ _ _ hP hS (fun Qc hq => W.iret hx hb hr hq hS.2.2 dX6_pickFrom_170 hlocks)
    · have hD := ifn hD c
      refine lv_iconst (v := (0 : Int32)) hx hb dX6_pickFrom_165 (by decide) ?_
      refine lv_goto (tgt := 170) hx hb dX6_pickFrom_166 (by decide) ?_
      cases hD
      exact hret _ _ _ hP hS (fun Qc hq => W.iret hx hb hr hq hS.2.2 dX6_pickFrom_170 hlocks)
  have c_70 : ∀ (q1 : Nat) (q2 : Nat) (xt0 : Int32) (m : MM) (H : Heap) (locs : List Loc) (ls : Array Slot), D_X6_pickFrom_70 q1 q2 xt0 m = some (rr, m') → q1 < 4 → 4 ≤ q2 → q2 < 14 → va_P D vwCl (Wf m) H → va_S A s.heap H locs → lv_has ls 5 [(0, .ref (ad 24)), (1, .ref (ad q1)), (2, .ref (ad q2))] → W p l e ({ frames := 3, cells := 0, slots := 0, locals := 85 } : Room) s m0 args below meth c H locs 0 0 Q (F0 m0 70 ls [.int xt0]) := by
    intro q1 q2 xt0 m H locs ls hD haq1 haq2 hbq2 hP hS hl
    unfold D_X6_pickFrom_70 at hD
    refine lv_istore (lv' := [(4, .int xt0), (0, .ref (ad 24)), (1, .ref (ad q1)), (2, .ref (ad q2))]) hx hb dX6_pickFrom_70 hl (by decide) rfl (fun ls hl => ?_)
    refine lv_aload_n hx hb dX6_pickFrom_72 rfl (lv_at hl 2 rfl) ?_
    refine lv_dup hx hb dX6_pickFrom_73 rfl ?_
    refine rgN  hx hb hT hu8 hown hK hP hL q1 7 (Nat.lt_of_lt_of_le haq1 (Nat.le_of_ble_eq_true rfl)) ((msp haq1) _ _) rfl (Nat.le_of_ble_eq_true rfl) tw_1_214 rfl (v := .int (gi m q1 7)) rfl dX6_pickFrom_74 ?_
    refine lv_iconst (v := (1 : Int32)) hx hb dX6_pickFrom_77 (by decide) ?_
    refine lv_iadd hx hb dX6_pickFrom_78 ?_
    obtain ⟨m9, em9, hD⟩ := bnd_el hD
    refine rpN  hx hb hT hu8 tyX8_ok nmX8 hown hK hP (hD1 _ (hAd _ _)) hS hL q1 7 (Nat.lt_of_lt_of_le haq1 (Nat.le_of_ble_eq_true rfl)) ((msp haq1) _ _) ((msp haq1) _ _) rfl (Nat.le_of_ble_eq_true rfl) tw_1_214 rfl rfl rfl rfl (Nat.le_of_ble_eq_true rfl) dX6_pickFrom_79 em9 (fun H locs hP hS => ?_)
    refine lv_aload_n hx hb dX6_pickFrom_82 rfl (lv_at hl 3 rfl) ?_
    refine lv_dup hx hb dX6_pickFrom_83 rfl ?_
    refine rgN  hx hb hT hu2 hown hK hP hL q2 2 (Nat.lt_of_lt_of_le hbq2 (Nat.le_of_ble_eq_true rfl)) ((mfe haq2 hbq2) _ _) rfl (Nat.le_of_ble_eq_true rfl) tw_2_5 rfl (v := .int (gi m9 q2 2)) rfl dX6_pickFrom_84 ?_
    refine lv_iconst (v := (1 : Int32)) hx hb dX6_pickFrom_87 (by decide) ?_
    refine lv_isub hx hb dX6_pickFrom_88 ?_
    obtain ⟨m10, em10, hD⟩ := bnd_el hD
    refine rpN  hx hb hT hu2 tyX2_ok nmX2 hown hK hP (hD1 _ (hAd _ _)) hS hL q2 2 (Nat.lt_of_lt_of_le hbq2 (Nat.le_of_ble_eq_true rfl)) ((mfe haq2 hbq2) _ _) ((mfe haq2 hbq2) _ _) rfl (Nat.le_of_ble_eq_true rfl) tw_2_5 rfl rfl rfl rfl (Nat.le_of_ble_eq_true rfl) dX6_pickFrom_89 em10 (fun H locs hP hS => ?_)
    refine lv_iload hx hb dX6_pickFrom_92 (lv_at hl 0 rfl) ?_
    refine lv_if_eq (tgt := 126) hx hb dX6_pickFrom_94 (by decide) (fun c => ?_) (fun c => ?_)
    · have hD := ifp hD c
      refine lv_aload_n hx hb dX6_pickFrom_126 rfl (lv_at hl 3 rfl) ?_
      refine lv_dup hx hb dX6_pickFrom_127 rfl ?_
      refine rgN  hx hb hT hu2 hown hK hP hL q2 6 (Nat.lt_of_lt_of_le hbq2 (Nat.le_of_ble_eq_true rfl)) ((mfe haq2 hbq2) _ _) rfl (Nat.le_of_ble_eq_true rfl) tw_2_15 rfl (v := .int (gi m10 q2 6)) rfl dX6_pickFrom_128 ?_
      refine lv_iconst (v := (1 : Int32)) hx hb dX6_pickFrom_131 (by decide) ?_
      refine lv_iadd hx hb dX6_pickFrom_132 ?_
      obtain ⟨m11, em11, hD⟩ := bnd_el hD
      refine rpN  hx hb hT hu2 tyX2_ok nmX2 hown hK hP (hD1 _ (hAd _ _)) hS hL q2 6 (Nat.lt_of_lt_of_le hbq2 (Nat.le_of_ble_eq_true rfl)) ((mfe haq2 hbq2) _ _) ((mfe haq2 hbq2) _ _) rfl (Nat.le_of_ble_eq_true rfl) tw_2_15 rfl rfl rfl rfl (Nat.le_of_ble_eq_true rfl) dX6_pickFrom_133 em11 (fun H locs hP hS => ?_)
      refine lv_aload_n hx hb dX6_pickFrom_136 rfl (lv_at hl 2 rfl) ?_
      refine lv_aload_n hx hb dX6_pickFrom_137 rfl (lv_at hl 3 rfl) ?_
      refine rgN  hx hb hT hu2 hown hK hP hL q2 0 (Nat.lt_of_lt_of_le hbq2 (Nat.le_of_ble_eq_true rfl)) ((mfe haq2 hbq2) _ _) rfl (Nat.le_of_ble_eq_true rfl) tw_1_238 rfl (v := .int (gi m11 q2 0)) rfl dX6_pickFrom_138 ?_
      obtain ⟨m12, em12, hD⟩ := bnd_el hD
      refine rpN  hx hb hT hu8 tyX8_ok nmX8 hown hK hP (hD1 _ (hAd _ _)) hS hL q1 1 (Nat.lt_of_lt_of_le haq1 (Nat.le_of_ble_eq_true rfl)) ((msp haq1) _ _) ((msp haq1) _ _) rfl (Nat.le_of_ble_eq_true rfl) tw_1_199 rfl rfl rfl rfl (Nat.le_of_ble_eq_true rfl) dX6_pickFrom_141 em12 (fun H locs hP hS => ?_)
      exact c_144 _ _ _ _ _ _ hD haq2 hbq2 hP hS (lv_sub hl [1, 3, 0] rfl)
    · have hD := ifn hD c
      refine lv_aload_n hx hb dX6_pickFrom_97 rfl (lv_at hl 3 rfl) ?_
      refine lv_dup hx hb dX6_pickFrom_98 rfl ?_
      refine rgN  hx hb hT hu2 hown hK hP hL q2 7 (Nat.lt_of_lt_of_le hbq2 (Nat.le_of_ble_eq_true rfl)) ((mfe haq2 hbq2) _ _) rfl (Nat.le_of_ble_eq_true rfl) tw_2_17 rfl (v := .int (gi m10 q2 7)) rfl dX6_pickFrom_99 ?_
      refine lv_iconst (v := (1 : Int32)) hx hb dX6_pickFrom_102 (by decide) ?_
      refine lv_iadd hx hb dX6_pickFrom_103 ?_
      obtain ⟨m17, em17, hD⟩ := bnd_el hD
      refine rpN  hx hb hT hu2 tyX2_ok nmX2 hown hK hP (hD1 _ (hAd _ _)) hS hL q2 7 (Nat.lt_of_lt_of_le hbq2 (Nat.le_of_ble_eq_true rfl)) ((mfe haq2 hbq2) _ _) ((mfe haq2 hbq2) _ _) rfl (Nat.le_of_ble_eq_true rfl) tw_2_17 rfl rfl rfl rfl (Nat.le_of_ble_eq_true rfl) dX6_pickFrom_104 em17 (fun H locs hP hS => ?_)
      refine lv_aload_n hx hb dX6_pickFrom_107 rfl (lv_at hl 1 rfl) ?_
      refine rg  hx hb hT hu6 hown hK hP hL 24 5 (Nat.le_of_ble_eq_true rfl) (ms24 _ _) rfl (Nat.le_of_ble_eq_true rfl) (Fx0.T tw_2_91) rfl (v := .ref (ad 28)) rfl dX6_pickFrom_108 ?_
      refine rgN  hx hb hT hu5 hown hK hP hL 28 5 (Nat.le_of_ble_eq_true rfl) (ms28 _ _) rfl (Nat.le_of_ble_eq_true rfl) tw_1_66 rfl (v := .ref (ad 33)) rfl dX6_pickFrom_111 ?_
      refine lv_aload_n hx hb dX6_pickFrom_114 rfl (lv_at hl 3 rfl) ?_
      refine rgN  hx hb hT hu2 hown hK hP hL q2 0 (Nat.lt_of_lt_of_le hbq2 (Nat.le_of_ble_eq_true rfl)) ((mfe haq2 hbq2) _ _) rfl (Nat.le_of_ble_eq_true rfl) tw_1_238 rfl (v := .int (gi m17 q2 0)) rfl dX6_pickFrom_115 ?_
      obtain ⟨v18, ev18, hD⟩ := bnd_el hD
      refine lv_nmi ev18 ?_
      refine lv_dup2_11 hx hb dX6_pickFrom_118 rfl rfl ?_
      obtain ⟨h19, hD⟩ := gd_el hD
      refine riald  hx hb hK hP hL 33 (Nat.le_of_ble_eq_true rfl) (ms33 _ _) h19 rfl dX6_pickFrom_119 ?_
      refine lv_iconst (v := (1 : Int32)) hx hb dX6_pickFrom_120 (by decide) ?_
      refine lv_iadd hx hb dX6_pickFrom_121 ?_
      obtain ⟨h20, hD⟩ := gd_el hD
      obtain ⟨m21, em21, hD⟩ := bnd_el hD
      refine riast  hx hb hK hP (hD1 _ (hAd _ _)) hS hL 33 (Nat.le_of_ble_eq_true rfl) (fun _ => ms33 _ _) h20 rfl dX6_pickFrom_122 em21 (fun H locs hP hS => ?_)
      refine lv_goto (tgt := 144) hx hb dX6_pickFrom_123 (by decide) ?_
      exact c_144 _ _ _ _ _ _ hD haq2 hbq2 hP hS (lv_sub hl [1, 3, 0] rfl)
  refine lv_aload_n hx hb dX6_pickFrom_0 rfl (lv_at hl 0 rfl) ?_
  refine lv_aload_n hx hb dX6_pickFrom_1 rfl (lv_at hl 2 rfl) ?_
  refine rgN  hx hb hT hu2 hown hK hP hL q2 1 (Nat.lt_of_lt_of_le hbq2 (Nat.le_of_ble_eq_true rfl)) ((mfe haq2 hbq2) _ _) rfl (Nat.le_of_ble_eq_true rfl) tw_2_2 rfl (v := .int (gi m q2 1)) rfl dX6_pickFrom_2 ?_
  refine lv_iconst (v := (0 : Int32)) hx hb dX6_pickFrom_5 (by decide) ?_
  refine lv_aload_n hx hb dX6_pickFrom_6 rfl (lv_at hl 0 rfl) ?_
  refine rg  hx hb hT hu6 hown hK hP hL 24 0 (Nat.le_of_ble_eq_true rfl) (ms24 _ _) rfl (Nat.le_of_ble_eq_true rfl) (Fx0.T tw_2_75) rfl (v := .ref (ad 25)) rfl dX6_pickFrom_7 ?_
  refine lv_iconst (v := (2 : Int32)) hx hb dX6_pickFrom_10 (by decide) ?_
  refine riald  hx hb hK hP hL 25 (Nat.le_of_ble_eq_true rfl) (ms25 _ _) (by decide) (j := 2) (by decide) dX6_pickFrom_11 ?_
  obtain ⟨m1, z2, hD⟩ := b1_el hD
  refine rcV  (As := [.int (gi m q2 1), .int (0 : Int32), .int (gi m 25 2)]) (rest := []) Fx0 (c_X6_goTo l hL hAd m (gi m q2 1) (0 : Int32) (gi m 25 2) z2) hP (hD1 _ (hAd _ _)) hS (hA1 _ _ (hAd _ _) hS.1) hL (Nat.le_of_ble_eq_true rfl) (ms24 _ _) rfl tw_5_124 tw_5_121 tw_5_123 ts_44 tw_1_2 yd_X6_goTo ⟨(Nat.le_of_ble_eq_true rfl), (Nat.le_of_ble_eq_true rfl)⟩ rfl hl.1 rfl (Nat.le_of_ble_eq_true rfl) dX6_pickFrom_12 (fun H locs hP hS => ?_)
  refine lv_aload_n hx hb dX6_pickFrom_15 rfl (lv_at hl 2 rfl) ?_
  refine rgN  hx hb hT hu2 hown hK hP hL q2 8 (Nat.lt_of_lt_of_le hbq2 (Nat.le_of_ble_eq_true rfl)) ((mfe haq2 hbq2) _ _) rfl (Nat.le_of_ble_eq_true rfl) tw_2_19 rfl (v := .int (gi m1 q2 8)) rfl dX6_pickFrom_16 ?_
  refine lv_if_eq (tgt := 29) hx hb dX6_pickFrom_19 (by decide) (fun c => ?_) (fun c => ?_)
  · have hD := ifp hD c
    refine lv_aload_n hx hb dX6_pickFrom_29 rfl (lv_at hl 0 rfl) ?_
    refine lv_aload_n hx hb dX6_pickFrom_30 rfl (lv_at hl 1 rfl) ?_
    obtain ⟨v3, z4, hD⟩ := b1_el hD
    refine rcV  (As := [.ref (ad q1)]) (rest := []) Fx0 (c_X6_isWorn l hL hAd m1 q1 haq1 z4) hP (hD1 _ (hAd _ _)) hS (hA1 _ _ (hAd _ _) hS.1) hL (Nat.le_of_ble_eq_true rfl) (ms24 _ _) rfl tw_5_138 tw_5_135 tw_5_137 ts_47 tw_1_2 yd_X6_isWorn ⟨(Nat.le_of_ble_eq_true rfl), (Nat.le_of_ble_eq_true rfl)⟩ rfl hl.1 rfl (Nat.le_of_ble_eq_true rfl) dX6_pickFrom_31 (fun H locs hP hS => ?_)
    refine lv_if_eq (tgt := 52) hx hb dX6_pickFrom_34 (by decide) (fun c => ?_) (fun c => ?_)
    · have hD := ifp hD c
      refine lv_aload_n hx hb dX6_pickFrom_52 rfl (lv_at hl 2 rfl) ?_
      refine rgN  hx hb hT hu2 hown hK hP hL q2 3 (Nat.lt_of_lt_of_le hbq2 (Nat.le_of_ble_eq_true rfl)) ((mfe haq2 hbq2) _ _) rfl (Nat.le_of_ble_eq_true rfl) tw_2_9 rfl (v := .int (gi m1 q2 3)) rfl dX6_pickFrom_53 ?_
      obtain ⟨v5, ev5, hD⟩ := bnd_el hD
      refine lv_nmi ev5 ?_
      refine lv_istore_n (lv' := [(3, .int v5), (0, .ref (ad 24)), (1, .ref (ad q1)), (2, .ref (ad q2))]) hx hb dX6_pickFrom_56 rfl hl (by decide) rfl (fun ls hl => ?_)
      refine lv_aload_n hx hb dX6_pickFrom_57 rfl (lv_at hl 1 rfl) ?_
      obtain ⟨v6, m7, z8, hD⟩ := b2_el hD
      refine rcV  (As := []) (rest := []) Fx0 (c_X6_draw l hL hAd m1 z8) hP (hD1 _ (hAd _ _)) hS (hA1 _ _ (hAd _ _) hS.1) hL (Nat.le_of_ble_eq_true rfl) (ms24 _ _) rfl tw_5_142 tw_5_139 tw_5_141 ts_48 tw_1_2 yd_X6_draw ⟨(Nat.le_of_ble_eq_true rfl), (Nat.le_of_ble_eq_true rfl)⟩ rfl hl.1 rfl (Nat.le_of_ble_eq_true rfl) dX6_pickFrom_58 (fun H locs hP hS => ?_)
      refine lv_iload_n hx hb dX6_pickFrom_61 rfl (lv_at hl 0 rfl) ?_
      refine lv_icmp_ge (tgt := 69) hx hb dX6_pickFrom_62 (by decide) (fun c => ?_) (fun c => ?_)
      · have hD := ifp hD c
        refine lv_iconst (v := (0 : Int32)) hx hb dX6_pickFrom_69 (by decide) ?_
        exact c_70 _ _ _ _ _ _ _ hD haq1 haq2 hbq2 hP hS (lv_sub hl [1, 2, 3] rfl)
      · have hD := ifn hD c
        refine lv_iconst (v := (1 : Int32)) hx hb dX6_pickFrom_65 (by decide) ?_
        refine lv_goto (tgt := 70) hx hb dX6_pickFrom_66 (by decide) ?_
        exact c_70 _ _ _ _ _ _ _ hD haq1 haq2 hbq2 hP hS (lv_sub hl [1, 2, 3] rfl)
    · have hD := ifn hD c
      refine lv_aload_n hx hb dX6_pickFrom_37 rfl (lv_at hl 2 rfl) ?_
      refine rgN  hx hb hT hu2 hown hK hP hL q2 3 (Nat.lt_of_lt_of_le hbq2 (Nat.le_of_ble_eq_true rfl)) ((mfe haq2 hbq2) _ _) rfl (Nat.le_of_ble_eq_true rfl) tw_2_9 rfl (v := .int (gi m1 q2 3)) rfl dX6_pickFrom_38 ?_
      refine lv_aload_n hx hb dX6_pickFrom_41 rfl (lv_at hl 0 rfl) ?_
      refine rg  hx hb hT hu6 hown hK hP hL 24 0 (Nat.le_of_ble_eq_true rfl) (ms24 _ _) rfl (Nat.le_of_ble_eq_true rfl) (Fx0.T tw_2_75) rfl (v := .ref (ad 25)) rfl dX6_pickFrom_42 ?_
      refine lv_bipush (v := (13 : Int32)) hx hb dX6_pickFrom_45 (by decide) ?_
      refine riald  hx hb hK hP hL 25 (Nat.le_of_ble_eq_true rfl) (ms25 _ _) (by decide) (j := 13) (by decide) dX6_pickFrom_47 ?_
      refine lv_iadd hx hb dX6_pickFrom_48 ?_
      refine lv_goto (tgt := 56) hx hb dX6_pickFrom_49 (by decide) ?_
      obtain ⟨v22, ev22, hD⟩ := bnd_el hD
      refine lv_nmi ev22 ?_
      refine lv_istore_n (lv' := [(3, .int v22), (0, .ref (ad 24)), (1, .ref (ad q1)), (2, .ref (ad q2))]) hx hb dX6_pickFrom_56 rfl hl (by decide) rfl (fun ls hl => ?_)
      refine lv_aload_n hx hb dX6_pickFrom_57 rfl (lv_at hl 1 rfl) ?_
      obtain ⟨v23, m24, z25, hD⟩ := b2_el hD
      refine rcV  (As := []) (rest := []) Fx0 (c_X6_draw l hL hAd m1 z25) hP (hD1 _ (hAd _ _)) hS (hA1 _ _ (hAd _ _) hS.1) hL (Nat.le_of_ble_eq_true rfl) (ms24 _ _) rfl tw_5_142 tw_5_139 tw_5_141 ts_48 tw_1_2 yd_X6_draw ⟨(Nat.le_of_ble_eq_true rfl), (Nat.le_of_ble_eq_true rfl)⟩ rfl hl.1 rfl (Nat.le_of_ble_eq_true rfl) dX6_pickFrom_58 (fun H locs hP hS => ?_)
      refine lv_iload_n hx hb dX6_pickFrom_61 rfl (lv_at hl 0 rfl) ?_
      refine lv_icmp_ge (tgt := 69) hx hb dX6_pickFrom_62 (by decide) (fun c => ?_) (fun c => ?_)
      · have hD := ifp hD c
        refine lv_iconst (v := (0 : Int32)) hx hb dX6_pickFrom_69 (by decide) ?_
        exact c_70 _ _ _ _ _ _ _ hD haq1 haq2 hbq2 hP hS (lv_sub hl [1, 2, 3] rfl)
      · have hD := ifn hD c
        refine lv_iconst (v := (1 : Int32)) hx hb dX6_pickFrom_65 (by decide) ?_
        refine lv_goto (tgt := 70) hx hb dX6_pickFrom_66 (by decide) ?_
        exact c_70 _ _ _ _ _ _ _ hD haq1 haq2 hbq2 hP hS (lv_sub hl [1, 2, 3] rfl)
  · have hD := ifn hD c
    refine lv_aload_n hx hb dX6_pickFrom_22 rfl (lv_at hl 2 rfl) ?_
    refine lv_iconst (v := (0 : Int32)) hx hb dX6_pickFrom_23 (by decide) ?_
    obtain ⟨m26, em26, hD⟩ := bnd_el hD
    refine rpN  hx hb hT hu2 tyX2_ok nmX2 hown hK hP (hD1 _ (hAd _ _)) hS hL q2 8 (Nat.lt_of_lt_of_le hbq2 (Nat.le_of_ble_eq_true rfl)) ((mfe haq2 hbq2) _ _) ((mfe haq2 hbq2) _ _) rfl (Nat.le_of_ble_eq_true rfl) tw_2_19 rfl rfl rfl rfl (Nat.le_of_ble_eq_true rfl) dX6_pickFrom_24 em26 (fun H locs hP hS => ?_)
    refine lv_iconst (v := (0 : Int32)) hx hb dX6_pickFrom_27 (by decide) ?_
    cases hD
    exact hret _ _ _ hP hS (fun Qc hq => W.iret hx hb hr hq hS.2.2 dX6_pickFrom_28 hlocks)

noncomputable def D_X6_reject (q1 : Nat) (m : MM) : Option MM := bnd ((gi m q1 1)) (fun v1 => if v1 < 0 ∨ 8 ≤ v1.toNatClampNeg then none else (if v1 < 0 ∨ 8 ≤ v1.toNatClampNeg then none else (bnd (si m 32 v1.toNatClampNeg ((gi m 32 v1.toNatClampNeg) + (1 : Int32))) (fun m4 => bnd (si m4 q1 6 ((gi m4 q1 6) + (1 : Int32))) (fun m5 => b1 (D_X8_dropPart q1 m5) (fun m6 => some (m6)))))))
set_option maxHeartbeats 4000000 in
set_option maxRecDepth 100000 in
theorem c_X6_reject (l : Launch) {D : va_G} {cs : Nat → ClassId} {ad : Nat → Nat} {Wf : MM → va_W} (hL : Ln 51 ad (msh cs ad) Wf) (hAd : ∀ a0_ b0_ : MM, (Wf a0_).map (fun q => q.1) = (Wf b0_).map (fun q => q.1)) (m : MM) (q1 : Nat) (haq1 : q1 < 4) {m' : MM} (hD : D_X6_reject q1 m = some (m')) : Ct l yX6_reject cX6_reject 2 none 1 20 D cs [.ref (ad 24), .ref (ad q1)] (Wf m) (Wf m') (none) := by
  refine Ct.ofW (by decide) (Nat.le_of_ble_eq_true rfl) (hAd _ _) ?_
  intro p e s m0 below meth c A Q ls args hx hb hr hml hlocks hown hts hK hP hD1 hSS hS hA1 hl hret
  have hT : ∀ w ∈ TBL, w.before args s = true := fun w h => hts w (List.mem_cons_of_mem _ h)
  have Fx0 : Fx p l m0 c cX6_reject 2 s args yX6_reject cX6_reject 2 none D cs A := ⟨hx, hb, hml, hown, hts, hK, hSS⟩
  have hown : s.vm.findClass RX6 = some m0.cls := hown
  have hl : lv_has ls 2 [(0, .ref (ad 24)), (1, .ref (ad q1))] := hl
  unfold D_X6_reject at hD
  refine lv_aload_n hx hb dX6_reject_0 rfl (lv_at hl 0 rfl) ?_
  refine rg  hx hb hT hu6 hown hK hP hL 24 5 (Nat.le_of_ble_eq_true rfl) (ms24 _ _) rfl (Nat.le_of_ble_eq_true rfl) (Fx0.T tw_2_91) rfl (v := .ref (ad 28)) rfl dX6_reject_1 ?_
  refine rgN  hx hb hT hu5 hown hK hP hL 28 4 (Nat.le_of_ble_eq_true rfl) (ms28 _ _) rfl (Nat.le_of_ble_eq_true rfl) tw_1_64 rfl (v := .ref (ad 32)) rfl dX6_reject_4 ?_
  refine lv_aload_n hx hb dX6_reject_7 rfl (lv_at hl 1 rfl) ?_
  refine rgN  hx hb hT hu8 hown hK hP hL q1 1 (Nat.lt_of_lt_of_le haq1 (Nat.le_of_ble_eq_true rfl)) ((msp haq1) _ _) rfl (Nat.le_of_ble_eq_true rfl) tw_1_199 rfl (v := .int (gi m q1 1)) rfl dX6_reject_8 ?_
  obtain ⟨v1, ev1, hD⟩ := bnd_el hD
  refine lv_nmi ev1 ?_
  refine lv_dup2_11 hx hb dX6_reject_11 rfl rfl ?_
  obtain ⟨h2, hD⟩ := gd_el hD
  refine riald  hx hb hK hP hL 32 (Nat.le_of_ble_eq_true rfl) (ms32 _ _) h2 rfl dX6_reject_12 ?_
  refine lv_iconst (v := (1 : Int32)) hx hb dX6_reject_13 (by decide) ?_
  refine lv_iadd hx hb dX6_reject_14 ?_
  obtain ⟨h3, hD⟩ := gd_el hD
  obtain ⟨m4, em4, hD⟩ := bnd_el hD
  refine riast  hx hb hK hP (hD1 _ (hAd _ _)) hS hL 32 (Nat.le_of_ble_eq_true rfl) (fun _ => ms32 _ _) h3 rfl dX6_reject_15 em4 (fun H locs hP hS => ?_)
  refine lv_aload_n hx hb dX6_reject_16 rfl (lv_at hl 1 rfl) ?_
  refine lv_dup hx hb dX6_reject_17 rfl ?_
  refine rgN  hx hb hT hu8 hown hK hP hL q1 6 (Nat.lt_of_lt_of_le haq1 (Nat.le_of_ble_eq_true rfl)) ((msp haq1) _ _) rfl (Nat.le_of_ble_eq_true rfl) tw_1_212 rfl (v := .int (gi m4 q1 6)) rfl dX6_reject_18 ?_
  refine lv_iconst (v := (1 : Int32)) hx hb dX6_reject_21 (by decide) ?_
  refine lv_iadd hx hb dX6_reject_22 ?_
  obtain ⟨m5, em5, hD⟩ := bnd_el hD
  refine rpN  hx hb hT hu8 tyX8_ok nmX8 hown hK hP (hD1 _ (hAd _ _)) hS hL q1 6 (Nat.lt_of_lt_of_le haq1 (Nat.le_of_ble_eq_true rfl)) ((msp haq1) _ _) ((msp haq1) _ _) rfl (Nat.le_of_ble_eq_true rfl) tw_1_212 rfl rfl rfl rfl (Nat.le_of_ble_eq_true rfl) dX6_reject_23 em5 (fun H locs hP hS => ?_)
  refine lv_aload_n hx hb dX6_reject_26 rfl (lv_at hl 1 rfl) ?_
  obtain ⟨m6, z7, hD⟩ := b1_el hD
  refine rcVN  (As := []) (rest := []) Fx0 (c_X8_dropPart l hL hAd m5 q1 haq1 z7) hP (hD1 _ (hAd _ _)) hS (hA1 _ _ (hAd _ _) hS.1) hL (Nat.lt_of_lt_of_le haq1 (Nat.le_of_ble_eq_true rfl)) ((msp haq1) _ _) rfl tw_2_55 tw_5_159 tw_2_54 ts_2 tw_1_6 yd_X8_dropPart ⟨(Nat.le_of_ble_eq_true rfl), (Nat.le_of_ble_eq_true rfl)⟩ rfl hl.1 rfl (Nat.le_of_ble_eq_true rfl) dX6_reject_27 (fun H locs hP hS => ?_)
  cases hD
  exact hret _ _ _ hP hS (fun Qc hq => W.vret hx hb hr hq hS.2.2 dX6_reject_30 hlocks)

noncomputable def D_X6_lookAt_108 (q1 : Nat) (m : MM) : Option (Int32 × MM) := b1 (D_X6_reject q1 m) (fun m7 => bnd (si m7 24 14 ((gi m7 24 14) + (1 : Int32))) (fun m9 => if (gi m9 25 11) ≤ 0 then (some ((2 : Int32), m9)) else (if (gi m9 24 14) < (gi m9 25 11) then (some ((2 : Int32), m9)) else (bnd (si m9 24 15 (1 : Int32)) (fun m10 => some ((2 : Int32), m10))))))
noncomputable def D_X6_lookAt (q1 : Nat) (m : MM) : Option (Int32 × MM) := b1 (D_X6_goTo (gi m 25 8) (gi m 25 9) (gi m 25 3) m) (fun m1 => bnd (si m1 q1 3 ((gi m1 q1 3) + (1 : Int32))) (fun m3 => b2 (D_X6_draw m3) (fun v4 m5 => if (gi m5 25 5) ≤ v4 then (if ((gi m5 25 5) + (gi m5 25 6)) ≤ v4 then (D_X6_lookAt_108 q1 m5) else (if (gi m5 25 7) < (gi m5 q1 3) then (D_X6_lookAt_108 q1 m5) else (some ((0 : Int32), m5)))) else (bnd (si m5 q1 2 (1 : Int32)) (fun m11 => bnd (si m11 45 7 ((gi m11 45 7) + (1 : Int32))) (fun m12 => bnd (si m12 24 14 (0 : Int32)) (fun m13 => some ((1 : Int32), m13))))))))
set_option maxHeartbeats 4000000 in
set_option maxRecDepth 100000 in
theorem c_X6_lookAt (l : Launch) {D : va_G} {cs : Nat → ClassId} {ad : Nat → Nat} {Wf : MM → va_W} (hL : Ln 51 ad (msh cs ad) Wf) (hAd : ∀ a0_ b0_ : MM, (Wf a0_).map (fun q => q.1) = (Wf b0_).map (fun q => q.1)) (m : MM) (q1 : Nat) (haq1 : q1 < 4) {rr : Int32} {m' : MM} (hD : D_X6_lookAt q1 m = some (rr, m')) : Ct l yX6_lookAt cX6_lookAt 3 (some .int) 3 71 D cs [.ref (ad 24), .ref (ad q1)] (Wf m) (Wf m') (some (.int rr)) := by
  refine Ct.ofW (by decide) (Nat.le_of_ble_eq_true rfl) (hAd _ _) ?_
  intro p e s m0 below meth c A Q ls args hx hb hr hml hlocks hown hts hK hP hD1 hSS hS hA1 hl hret
  have hT : ∀ w ∈ TBL, w.before args s = true := fun w h => hts w (List.mem_cons_of_mem _ h)
  have Fx0 : Fx p l m0 c cX6_lookAt 3 s args yX6_lookAt cX6_lookAt 3 (some .int) D cs A := ⟨hx, hb, hml, hown, hts, hK, hSS⟩
  have hown : s.vm.findClass RX6 = some m0.cls := hown
  have hl : lv_has ls 3 [(0, .ref (ad 24)), (1, .ref (ad q1))] := hl
  unfold D_X6_lookAt at hD
  have c_108 : ∀ (q1 : Nat) (m : MM) (H : Heap) (locs : List Loc) (ls : Array Slot), D_X6_lookAt_108 q1 m = some (rr, m') → q1 < 4 → va_P D vwCl (Wf m) H → va_S A s.heap H locs → lv_has ls 3 [(0, .ref (ad 24)), (1, .ref (ad q1))] → W p l e ({ frames := 3, cells := 0, slots := 0, locals := 71 } : Room) s m0 args below meth c H locs 0 0 Q (F0 m0 108 ls []) := by
    intro q1 m H locs ls hD haq1 hP hS hl
    unfold D_X6_lookAt_108 at hD
    refine lv_aload_n hx hb dX6_lookAt_108 rfl (lv_at hl 0 rfl) ?_
    refine lv_aload_n hx hb dX6_lookAt_109 rfl (lv_at hl 1 rfl) ?_
    obtain ⟨m7, z8, hD⟩ := b1_el hD
    refine rcV  (As := [.ref (ad q1)]) (rest := []) Fx0 (c_X6_reject l hL hAd m q1 haq1 z8) hP (hD1 _ (hAd _ _)) hS (hA1 _ _ (hAd _ _) hS.1) hL (Nat.le_of_ble_eq_true rfl) (ms24 _ _) rfl tw_5_158 tw_5_155 tw_5_157 ts_51 tw_1_2 yd_X6_reject ⟨(Nat.le_of_ble_eq_true rfl), (Nat.le_of_ble_eq_true rfl)⟩ rfl hl.1 rfl (Nat.le_of_ble_eq_true rfl) dX6_lookAt_110 (fun H locs hP hS => ?_)
    refine lv_aload_n hx hb dX6_lookAt_113 rfl (lv_at hl 0 rfl) ?_
    refine lv_dup hx hb dX6_lookAt_114 rfl ?_
    refine rg  hx hb hT hu6 hown hK hP hL 24 14 (Nat.le_of_ble_eq_true rfl) (ms24 _ _) rfl (Nat.le_of_ble_eq_true rfl) (Fx0.T tw_2_118) rfl (v := .int (gi m7 24 14)) rfl dX6_lookAt_115 ?_
    refine lv_iconst (v := (1 : Int32)) hx hb dX6_lookAt_118 (by decide) ?_
    refine lv_iadd hx hb dX6_lookAt_119 ?_
    obtain ⟨m9, em9, hD⟩ := bnd_el hD
    refine rp  hx hb hT hu6 tyX6_ok nmX6 hown hK hP (hD1 _ (hAd _ _)) hS hL 24 14 (Nat.le_of_ble_eq_true rfl) (ms24 _ _) (ms24 _ _) rfl (Nat.le_of_ble_eq_true rfl) (Fx0.T tw_2_118) rfl rfl rfl rfl (Nat.le_of_ble_eq_true rfl) dX6_lookAt_120 em9 (fun H locs hP hS => ?_)
    refine lv_aload_n hx hb dX6_lookAt_123 rfl (lv_at hl 0 rfl) ?_
    refine rg  hx hb hT hu6 hown hK hP hL 24 0 (Nat.le_of_ble_eq_true rfl) (ms24 _ _) rfl (Nat.le_of_ble_eq_true rfl) (Fx0.T tw_2_75) rfl (v := .ref (ad 25)) rfl dX6_lookAt_124 ?_
    refine lv_bipush (v := (11 : Int32)) hx hb dX6_lookAt_127 (by decide) ?_
    refine riald  hx hb hK hP hL 25 (Nat.le_of_ble_eq_true rfl) (ms25 _ _) (by decide) (j := 11) (by decide) dX6_lookAt_129 ?_
    refine lv_if_le (tgt := 152) hx hb dX6_lookAt_130 (by decide) (fun c => ?_) (fun c => ?_)
    · have hD := ifp hD c
      refine lv_iconst (v := (2 : Int32)) hx hb dX6_lookAt_152 (by decide) ?_
      cases hD
      exact hret _ _ _ hP hS (fun Qc hq => W.iret hx hb hr hq hS.2.2 dX6_lookAt_153 hlocks)
    · have hD := ifn hD c
      refine lv_aload_n hx hb dX6_lookAt_133 rfl (lv_at hl 0 rfl) ?_
      refine rg  hx hb hT hu6 hown hK hP hL 24 14 (Nat.le_of_ble_eq_true rfl) (ms24 _ _) rfl (Nat.le_of_ble_eq_true rfl) (Fx0.T tw_2_118) rfl (v := .int (gi m9 24 14)) rfl dX6_lookAt_134 ?_
      refine lv_aload_n hx hb dX6_lookAt_137 rfl (lv_at hl 0 rfl) ?_
      refine rg  hx hb hT hu6 hown hK hP hL 24 0 (Nat.le_of_ble_eq_true rfl) (ms24 _ _) rfl (Nat.le_of_ble_eq_true rfl) (Fx0.T tw_2_75) rfl (v := .ref (ad 25)) rfl dX6_lookAt_138 ?_
      refine lv_bipush (v := (11 : Int32)) hx hb dX6_lookAt_141 (by decide) ?_
      refine riald  hx hb hK hP hL 25 (Nat.le_of_ble_eq_true rfl) (ms25 _ _) (by decide) (j := 11) (by decide) dX6_lookAt_143 ?_
      refine lv_icmp_lt (tgt := 152) hx hb dX6_lookAt_144 (by decide) (fun c => ?_) (fun c => ?_)
      · have hD := ifp hD c
        refine lv_iconst (v := (2 : Int32)) hx hb dX6_lookAt_152 (by decide) ?_
        cases hD
        exact hret _ _ _ hP hS (fun Qc hq => W.iret hx hb hr hq hS.2.2 dX6_lookAt_153 hlocks)
      · have hD := ifn hD c
        refine lv_aload_n hx hb dX6_lookAt_147 rfl (lv_at hl 0 rfl) ?_
        refine lv_iconst (v := (1 : Int32)) hx hb dX6_lookAt_148 (by decide) ?_
        obtain ⟨m10, em10, hD⟩ := bnd_el hD
        refine rp  hx hb hT hu6 tyX6_ok nmX6 hown hK hP (hD1 _ (hAd _ _)) hS hL 24 15 (Nat.le_of_ble_eq_true rfl) (ms24 _ _) (ms24 _ _) rfl (Nat.le_of_ble_eq_true rfl) (Fx0.T tw_2_121) rfl rfl rfl rfl (Nat.le_of_ble_eq_true rfl) dX6_lookAt_149 em10 (fun H locs hP hS => ?_)
        refine lv_iconst (v := (2 : Int32)) hx hb dX6_lookAt_152 (by decide) ?_
        cases hD
        exact hret _ _ _ hP hS (fun Qc hq => W.iret hx hb hr hq hS.2.2 dX6_lookAt_153 hlocks)
  refine lv_aload_n hx hb dX6_lookAt_0 rfl (lv_at hl 0 rfl) ?_
  refine lv_aload_n hx hb dX6_lookAt_1 rfl (lv_at hl 0 rfl) ?_
  refine rg  hx hb hT hu6 hown hK hP hL 24 0 (Nat.le_of_ble_eq_true rfl) (ms24 _ _) rfl (Nat.le_of_ble_eq_true rfl) (Fx0.T tw_2_75) rfl (v := .ref (ad 25)) rfl dX6_lookAt_2 ?_
  refine lv_bipush (v := (8 : Int32)) hx hb dX6_lookAt_5 (by decide) ?_
  refine riald  hx hb hK hP hL 25 (Nat.le_of_ble_eq_true rfl) (ms25 _ _) (by decide) (j := 8) (by decide) dX6_lookAt_7 ?_
  refine lv_aload_n hx hb dX6_lookAt_8 rfl (lv_at hl 0 rfl) ?_
  refine rg  hx hb hT hu6 hown hK hP hL 24 0 (Nat.le_of_ble_eq_true rfl) (ms24 _ _) rfl (Nat.le_of_ble_eq_true rfl) (Fx0.T tw_2_75) rfl (v := .ref (ad 25)) rfl dX6_lookAt_9 ?_
  refine lv_bipush (v := (9 : Int32)) hx hb dX6_lookAt_12 (by decide) ?_
  refine riald  hx hb hK hP hL 25 (Nat.le_of_ble_eq_true rfl) (ms25 _ _) (by decide) (j := 9) (by decide) dX6_lookAt_14 ?_
  refine lv_aload_n hx hb dX6_lookAt_15 rfl (lv_at hl 0 rfl) ?_
  refine rg  hx hb hT hu6 hown hK hP hL 24 0 (Nat.le_of_ble_eq_true rfl) (ms24 _ _) rfl (Nat.le_of_ble_eq_true rfl) (Fx0.T tw_2_75) rfl (v := .ref (ad 25)) rfl dX6_lookAt_16 ?_
  refine lv_iconst (v := (3 : Int32)) hx hb dX6_lookAt_19 (by decide) ?_
  refine riald  hx hb hK hP hL 25 (Nat.le_of_ble_eq_true rfl) (ms25 _ _) (by decide) (j := 3) (by decide) dX6_lookAt_20 ?_
  obtain ⟨m1, z2, hD⟩ := b1_el hD
  refine rcV  (As := [.int (gi m 25 8), .int (gi m 25 9), .int (gi m 25 3)]) (rest := []) Fx0 (c_X6_goTo l hL hAd m (gi m 25 8) (gi m 25 9) (gi m 25 3) z2) hP (hD1 _ (hAd _ _)) hS (hA1 _ _ (hAd _ _) hS.1) hL (Nat.le_of_ble_eq_true rfl) (ms24 _ _) rfl tw_5_124 tw_5_121 tw_5_123 ts_44 tw_1_2 yd_X6_goTo ⟨(Nat.le_of_ble_eq_true rfl), (Nat.le_of_ble_eq_true rfl)⟩ rfl hl.1 rfl (Nat.le_of_ble_eq_true rfl) dX6_lookAt_21 (fun H locs hP hS => ?_)
  refine lv_aload_n hx hb dX6_lookAt_24 rfl (lv_at hl 1 rfl) ?_
  refine lv_dup hx hb dX6_lookAt_25 rfl ?_
  refine rgN  hx hb hT hu8 hown hK hP hL q1 3 (Nat.lt_of_lt_of_le haq1 (Nat.le_of_ble_eq_true rfl)) ((msp haq1) _ _) rfl (Nat.le_of_ble_eq_true rfl) tw_1_206 rfl (v := .int (gi m1 q1 3)) rfl dX6_lookAt_26 ?_
  refine lv_iconst (v := (1 : Int32)) hx hb dX6_lookAt_29 (by decide) ?_
  refine lv_iadd hx hb dX6_lookAt_30 ?_
  obtain ⟨m3, em3, hD⟩ := bnd_el hD
  refine rpN  hx hb hT hu8 tyX8_ok nmX8 hown hK hP (hD1 _ (hAd _ _)) hS hL q1 3 (Nat.lt_of_lt_of_le haq1 (Nat.le_of_ble_eq_true rfl)) ((msp haq1) _ _) ((msp haq1) _ _) rfl (Nat.le_of_ble_eq_true rfl) tw_1_206 rfl rfl rfl rfl (Nat.le_of_ble_eq_true rfl) dX6_lookAt_31 em3 (fun H locs hP hS => ?_)
  refine lv_aload_n hx hb dX6_lookAt_34 rfl (lv_at hl 0 rfl) ?_
  obtain ⟨v4, m5, z6, hD⟩ := b2_el hD
  refine rcV  (As := []) (rest := []) Fx0 (c_X6_draw l hL hAd m3 z6) hP (hD1 _ (hAd _ _)) hS (hA1 _ _ (hAd _ _) hS.1) hL (Nat.le_of_ble_eq_true rfl) (ms24 _ _) rfl tw_5_142 tw_5_139 tw_5_141 ts_48 tw_1_2 yd_X6_draw ⟨(Nat.le_of_ble_eq_true rfl), (Nat.le_of_ble_eq_true rfl)⟩ rfl hl.1 rfl (Nat.le_of_ble_eq_true rfl) dX6_lookAt_35 (fun H locs hP hS => ?_)
  refine lv_istore_n (lv' := [(2, .int v4), (0, .ref (ad 24)), (1, .ref (ad q1))]) hx hb dX6_lookAt_38 rfl hl (by decide) rfl (fun ls hl => ?_)
  refine lv_iload_n hx hb dX6_lookAt_39 rfl (lv_at hl 0 rfl) ?_
  refine lv_aload_n hx hb dX6_lookAt_40 rfl (lv_at hl 1 rfl) ?_
  refine rg  hx hb hT hu6 hown hK hP hL 24 0 (Nat.le_of_ble_eq_true rfl) (ms24 _ _) rfl (Nat.le_of_ble_eq_true rfl) (Fx0.T tw_2_75) rfl (v := .ref (ad 25)) rfl dX6_lookAt_41 ?_
  refine lv_iconst (v := (5 : Int32)) hx hb dX6_lookAt_44 (by decide) ?_
  refine riald  hx hb hK hP hL 25 (Nat.le_of_ble_eq_true rfl) (ms25 _ _) (by decide) (j := 5) (by decide) dX6_lookAt_45 ?_
  refine lv_icmp_ge (tgt := 74) hx hb dX6_lookAt_46 (by decide) (fun c => ?_) (fun c => ?_)
  · have hD := ifp hD c
    refine lv_iload_n hx hb dX6_lookAt_74 rfl (lv_at hl 0 rfl) ?_
    refine lv_aload_n hx hb dX6_lookAt_75 rfl (lv_at hl 1 rfl) ?_
    refine rg  hx hb hT hu6 hown hK hP hL 24 0 (Nat.le_of_ble_eq_true rfl) (ms24 _ _) rfl (Nat.le_of_ble_eq_true rfl) (Fx0.T tw_2_75) rfl (v := .ref (ad 25)) rfl dX6_lookAt_76 ?_
    refine lv_iconst (v := (5 : Int32)) hx hb dX6_lookAt_79 (by decide) ?_
    refine riald  hx hb hK hP hL 25 (Nat.le_of_ble_eq_true rfl) (ms25 _ _) (by decide) (j := 5) (by decide) dX6_lookAt_80 ?_
    refine lv_aload_n hx hb dX6_lookAt_81 rfl (lv_at hl 1 rfl) ?_
    refine rg  hx hb hT hu6 hown hK hP hL 24 0 (Nat.le_of_ble_eq_true rfl) (ms24 _ _) rfl (Nat.le_of_ble_eq_true rfl) (Fx0.T tw_2_75) rfl (v := .ref (ad 25)) rfl dX6_lookAt_82 ?_
    refine lv_bipush (v := (6 : Int32)) hx hb dX6_lookAt_85 (by decide) ?_
    refine riald  hx hb hK hP hL 25 (Nat.le_of_ble_eq_true rfl) (ms25 _ _) (by decide) (j := 6) (by decide) dX6_lookAt_87 ?_
    refine lv_iadd hx hb dX6_lookAt_88 ?_
    refine lv_icmp_ge (tgt := 108) hx hb dX6_lookAt_89 (by decide) (fun c => ?_) (fun c => ?_)
    · have hD := ifp hD c
      exact c_108 _ _ _ _ _ hD haq1 hP hS (lv_sub hl [1, 2] rfl)
    · have hD := ifn hD c
      refine lv_aload_n hx hb dX6_lookAt_92 rfl (lv_at hl 2 rfl) ?_
      refine rgN  hx hb hT hu8 hown hK hP hL q1 3 (Nat.lt_of_lt_of_le haq1 (Nat.le_of_ble_eq_true rfl)) ((msp haq1) _ _) rfl (Nat.le_of_ble_eq_true rfl) tw_1_206 rfl (v := .int (gi m5 q1 3)) rfl dX6_lookAt_93 ?_
      refine lv_aload_n hx hb dX6_lookAt_96 rfl (lv_at hl 1 rfl) ?_
      refine rg  hx hb hT hu6 hown hK hP hL 24 0 (Nat.le_of_ble_eq_true rfl) (ms24 _ _) rfl (Nat.le_of_ble_eq_true rfl) (Fx0.T tw_2_75) rfl (v := .ref (ad 25)) rfl dX6_lookAt_97 ?_
      refine lv_bipush (v := (7 : Int32)) hx hb dX6_lookAt_100 (by decide) ?_
      refine riald  hx hb hK hP hL 25 (Nat.le_of_ble_eq_true rfl) (ms25 _ _) (by decide) (j := 7) (by decide) dX6_lookAt_102 ?_
      refine lv_icmp_gt (tgt := 108) hx hb dX6_lookAt_103 (by decide) (fun c => ?_) (fun c => ?_)
      · have hD := ifp hD c
        exact c_108 _ _ _ _ _ hD haq1 hP hS (lv_sub hl [1, 2] rfl)
      · have hD := ifn hD c
        refine lv_iconst (v := (0 : Int32)) hx hb dX6_lookAt_106 (by decide) ?_
        cases hD
        exact hret _ _ _ hP hS (fun Qc hq => W.iret hx hb hr hq hS.2.2 dX6_lookAt_107 hlocks)
  · have hD := ifn hD c
    refine lv_aload_n hx hb dX6_lookAt_49 rfl (lv_at hl 2 rfl) ?_
    refine lv_iconst (v := (1 : Int32)) hx hb dX6_lookAt_50 (by decide) ?_
    obtain ⟨m11, em11, hD⟩ := bnd_el hD
    refine rpN  hx hb hT hu8 tyX8_ok nmX8 hown hK hP (hD1 _ (hAd _ _)) hS hL q1 2 (Nat.lt_of_lt_of_le haq1 (Nat.le_of_ble_eq_true rfl)) ((msp haq1) _ _) ((msp haq1) _ _) rfl (Nat.le_of_ble_eq_true rfl) tw_1_203 rfl rfl rfl rfl (Nat.le_of_ble_eq_true rfl) dX6_lookAt_51 em11 (fun H locs hP hS => ?_)
    refine lv_aload_n hx hb dX6_lookAt_54 rfl (lv_at hl 1 rfl) ?_
    refine rg  hx hb hT hu6 hown hK hP hL 24 10 (Nat.le_of_ble_eq_true rfl) (ms24 _ _) rfl (Nat.le_of_ble_eq_true rfl) (Fx0.T tw_2_109) rfl (v := .ref (ad 45)) rfl dX6_lookAt_55 ?_
    refine lv_dup hx hb dX6_lookAt_58 rfl ?_
    refine rgN  hx hb hT hu4 hown hK hP hL 45 7 (Nat.le_of_ble_eq_true rfl) (ms45 _ _) rfl (Nat.le_of_ble_eq_true rfl) tw_1_165 rfl (v := .int (gi m11 45 7)) rfl dX6_lookAt_59 ?_
    refine lv_iconst (v := (1 : Int32)) hx hb dX6_lookAt_62 (by decide) ?_
    refine lv_iadd hx hb dX6_lookAt_63 ?_
    obtain ⟨m12, em12, hD⟩ := bnd_el hD
    refine rpN  hx hb hT hu4 tyX4_ok nmX4 hown hK hP (hD1 _ (hAd _ _)) hS hL 45 7 (Nat.le_of_ble_eq_true rfl) (ms45 _ _) (ms45 _ _) rfl (Nat.le_of_ble_eq_true rfl) tw_1_165 rfl rfl rfl rfl (Nat.le_of_ble_eq_true rfl) dX6_lookAt_64 em12 (fun H locs hP hS => ?_)
    refine lv_aload_n hx hb dX6_lookAt_67 rfl (lv_at hl 1 rfl) ?_
    refine lv_iconst (v := (0 : Int32)) hx hb dX6_lookAt_68 (by decide) ?_
    obtain ⟨m13, em13, hD⟩ := bnd_el hD
    refine rp  hx hb hT hu6 tyX6_ok nmX6 hown hK hP (hD1 _ (hAd _ _)) hS hL 24 14 (Nat.le_of_ble_eq_true rfl) (ms24 _ _) (ms24 _ _) rfl (Nat.le_of_ble_eq_true rfl) (Fx0.T tw_2_118) rfl rfl rfl rfl (Nat.le_of_ble_eq_true rfl) dX6_lookAt_69 em13 (fun H locs hP hS => ?_)
    refine lv_iconst (v := (1 : Int32)) hx hb dX6_lookAt_72 (by decide) ?_
    cases hD
    exact hret _ _ _ hP hS (fun Qc hq => W.iret hx hb hr hq hS.2.2 dX6_lookAt_73 hlocks)

noncomputable def D_X6_putOn (q1 : Nat) (x2 : Int32) (x3 : Int32) (m : MM) : Option MM := if x3 < 0 ∨ 40 ≤ x3.toNatClampNeg then none else (if x3 < 0 ∨ 40 ≤ x3.toNatClampNeg then none else (b1 (D_X6_goTo (gi m 38 x3.toNatClampNeg) (gi m 39 x3.toNatClampNeg) (gi m 25 4) m) (fun m3 => b1 (D_X0_fill x3 x2 (gi m3 24 13) m3) (fun m5 => bnd ((gi m5 q1 1)) (fun v7 => if v7 < 0 ∨ 8 ≤ v7.toNatClampNeg then none else (if v7 < 0 ∨ 8 ≤ v7.toNatClampNeg then none else (bnd (si m5 31 v7.toNatClampNeg ((gi m5 31 v7.toNatClampNeg) + (1 : Int32))) (fun m10 => bnd (si m10 q1 4 ((gi m10 q1 4) + (1 : Int32))) (fun m11 => b1 (D_X8_dropPart q1 m11) (fun m12 => some (m12)))))))))))
set_option maxHeartbeats 4000000 in
set_option maxRecDepth 100000 in
theorem c_X6_putOn (l : Launch) {D : va_G} {cs : Nat → ClassId} {ad : Nat → Nat} {Wf : MM → va_W} (hL : Ln 51 ad (msh cs ad) Wf) (hAd : ∀ a0_ b0_ : MM, (Wf a0_).map (fun q => q.1) = (Wf b0_).map (fun q => q.1)) (m : MM) (q1 : Nat) (haq1 : q1 < 4) (x2 : Int32) (x3 : Int32) {m' : MM} (hD : D_X6_putOn q1 x2 x3 m = some (m')) : Ct l yX6_putOn cX6_putOn 4 none 3 71 D cs [.ref (ad 24), .ref (ad q1), .int x2, .int x3] (Wf m) (Wf m') (none) := by
  refine Ct.ofW (by decide) (Nat.le_of_ble_eq_true rfl) (hAd _ _) ?_
  intro p e s m0 below meth c A Q ls args hx hb hr hml hlocks hown hts hK hP hD1 hSS hS hA1 hl hret
  have hT : ∀ w ∈ TBL, w.before args s = true := fun w h => hts w (List.mem_cons_of_mem _ h)
  have Fx0 : Fx p l m0 c cX6_putOn 4 s args yX6_putOn cX6_putOn 4 none D cs A := ⟨hx, hb, hml, hown, hts, hK, hSS⟩
  have hown : s.vm.findClass RX6 = some m0.cls := hown
  have hl : lv_has ls 4 [(0, .ref (ad 24)), (1, .ref (ad q1)), (2, .int x2), (3, .int x3)] := hl
  unfold D_X6_putOn at hD
  refine lv_aload_n hx hb dX6_putOn_0 rfl (lv_at hl 0 rfl) ?_
  refine lv_aload_n hx hb dX6_putOn_1 rfl (lv_at hl 0 rfl) ?_
  refine rg  hx hb hT hu6 hown hK hP hL 24 8 (Nat.le_of_ble_eq_true rfl) (ms24 _ _) rfl (Nat.le_of_ble_eq_true rfl) (Fx0.T tw_2_103) rfl (v := .ref (ad 36)) rfl dX6_putOn_2 ?_
  refine rgN  hx hb hT hu0 hown hK hP hL 36 2 (Nat.le_of_ble_eq_true rfl) (ms36 _ _) rfl (Nat.le_of_ble_eq_true rfl) tw_1_103 rfl (v := .ref (ad 38)) rfl dX6_putOn_5 ?_
  refine lv_iload_n hx hb dX6_putOn_8 rfl (lv_at hl 3 rfl) ?_
  obtain ⟨h1, hD⟩ := gd_el hD
  refine riald  hx hb hK hP hL 38 (Nat.le_of_ble_eq_true rfl) (ms38 _ _) h1 rfl dX6_putOn_9 ?_
  refine lv_aload_n hx hb dX6_putOn_10 rfl (lv_at hl 0 rfl) ?_
  refine rg  hx hb hT hu6 hown hK hP hL 24 8 (Nat.le_of_ble_eq_true rfl) (ms24 _ _) rfl (Nat.le_of_ble_eq_true rfl) (Fx0.T tw_2_103) rfl (v := .ref (ad 36)) rfl dX6_putOn_11 ?_
  refine rgN  hx hb hT hu0 hown hK hP hL 36 3 (Nat.le_of_ble_eq_true rfl) (ms36 _ _) rfl (Nat.le_of_ble_eq_true rfl) tw_1_106 rfl (v := .ref (ad 39)) rfl dX6_putOn_14 ?_
  refine lv_iload_n hx hb dX6_putOn_17 rfl (lv_at hl 3 rfl) ?_
  obtain ⟨h2, hD⟩ := gd_el hD
  refine riald  hx hb hK hP hL 39 (Nat.le_of_ble_eq_true rfl) (ms39 _ _) h2 rfl dX6_putOn_18 ?_
  refine lv_aload_n hx hb dX6_putOn_19 rfl (lv_at hl 0 rfl) ?_
  refine rg  hx hb hT hu6 hown hK hP hL 24 0 (Nat.le_of_ble_eq_true rfl) (ms24 _ _) rfl (Nat.le_of_ble_eq_true rfl) (Fx0.T tw_2_75) rfl (v := .ref (ad 25)) rfl dX6_putOn_20 ?_
  refine lv_iconst (v := (4 : Int32)) hx hb dX6_putOn_23 (by decide) ?_
  refine riald  hx hb hK hP hL 25 (Nat.le_of_ble_eq_true rfl) (ms25 _ _) (by decide) (j := 4) (by decide) dX6_putOn_24 ?_
  obtain ⟨m3, z4, hD⟩ := b1_el hD
  refine rcV  (As := [.int (gi m 38 x3.toNatClampNeg), .int (gi m 39 x3.toNatClampNeg), .int (gi m 25 4)]) (rest := []) Fx0 (c_X6_goTo l hL hAd m (gi m 38 x3.toNatClampNeg) (gi m 39 x3.toNatClampNeg) (gi m 25 4) z4) hP (hD1 _ (hAd _ _)) hS (hA1 _ _ (hAd _ _) hS.1) hL (Nat.le_of_ble_eq_true rfl) (ms24 _ _) rfl tw_5_124 tw_5_121 tw_5_123 ts_44 tw_1_2 yd_X6_goTo ⟨(Nat.le_of_ble_eq_true rfl), (Nat.le_of_ble_eq_true rfl)⟩ rfl hl.1 rfl (Nat.le_of_ble_eq_true rfl) dX6_putOn_25 (fun H locs hP hS => ?_)
  refine lv_aload_n hx hb dX6_putOn_28 rfl (lv_at hl 0 rfl) ?_
  refine rg  hx hb hT hu6 hown hK hP hL 24 8 (Nat.le_of_ble_eq_true rfl) (ms24 _ _) rfl (Nat.le_of_ble_eq_true rfl) (Fx0.T tw_2_103) rfl (v := .ref (ad 36)) rfl dX6_putOn_29 ?_
  refine lv_iload_n hx hb dX6_putOn_32 rfl (lv_at hl 3 rfl) ?_
  refine lv_iload_n hx hb dX6_putOn_33 rfl (lv_at hl 2 rfl) ?_
  refine lv_aload_n hx hb dX6_putOn_34 rfl (lv_at hl 0 rfl) ?_
  refine rg  hx hb hT hu6 hown hK hP hL 24 13 (Nat.le_of_ble_eq_true rfl) (ms24 _ _) rfl (Nat.le_of_ble_eq_true rfl) (Fx0.T tw_2_115) rfl (v := .int (gi m3 24 13)) rfl dX6_putOn_35 ?_
  obtain ⟨m5, z6, hD⟩ := b1_el hD
  refine rcVN  (As := [.int x3, .int x2, .int (gi m3 24 13)]) (rest := []) Fx0 (c_X0_fill l hL hAd m3 x3 x2 (gi m3 24 13) z6) hP (hD1 _ (hAd _ _)) hS (hA1 _ _ (hAd _ _) hS.1) hL (Nat.le_of_ble_eq_true rfl) (ms36 _ _) rfl tw_5_167 tw_5_164 tw_5_166 ts_53 tw_1_4 yd_X0_fill ⟨(Nat.le_of_ble_eq_true rfl), (Nat.le_of_ble_eq_true rfl)⟩ rfl hl.1 rfl (Nat.le_of_ble_eq_true rfl) dX6_putOn_38 (fun H locs hP hS => ?_)
  refine lv_aload_n hx hb dX6_putOn_41 rfl (lv_at hl 0 rfl) ?_
  refine rg  hx hb hT hu6 hown hK hP hL 24 5 (Nat.le_of_ble_eq_true rfl) (ms24 _ _) rfl (Nat.le_of_ble_eq_true rfl) (Fx0.T tw_2_91) rfl (v := .ref (ad 28)) rfl dX6_putOn_42 ?_
  refine rgN  hx hb hT hu5 hown hK hP hL 28 3 (Nat.le_of_ble_eq_true rfl) (ms28 _ _) rfl (Nat.le_of_ble_eq_true rfl) tw_1_62 rfl (v := .ref (ad 31)) rfl dX6_putOn_45 ?_
  refine lv_aload_n hx hb dX6_putOn_48 rfl (lv_at hl 1 rfl) ?_
  refine rgN  hx hb hT hu8 hown hK hP hL q1 1 (Nat.lt_of_lt_of_le haq1 (Nat.le_of_ble_eq_true rfl)) ((msp haq1) _ _) rfl (Nat.le_of_ble_eq_true rfl) tw_1_199 rfl (v := .int (gi m5 q1 1)) rfl dX6_putOn_49 ?_
  obtain ⟨v7, ev7, hD⟩ := bnd_el hD
  refine lv_nmi ev7 ?_
  refine lv_dup2_11 hx hb dX6_putOn_52 rfl rfl ?_
  obtain ⟨h8, hD⟩ := gd_el hD
  refine riald  hx hb hK hP hL 31 (Nat.le_of_ble_eq_true rfl) (ms31 _ _) h8 rfl dX6_putOn_53 ?_
  refine lv_iconst (v := (1 : Int32)) hx hb dX6_putOn_54 (by decide) ?_
  refine lv_iadd hx hb dX6_putOn_55 ?_
  obtain ⟨h9, hD⟩ := gd_el hD
  obtain ⟨m10, em10, hD⟩ := bnd_el hD
  refine riast  hx hb hK hP (hD1 _ (hAd _ _)) hS hL 31 (Nat.le_of_ble_eq_true rfl) (fun _ => ms31 _ _) h9 rfl dX6_putOn_56 em10 (fun H locs hP hS => ?_)
  refine lv_aload_n hx hb dX6_putOn_57 rfl (lv_at hl 1 rfl) ?_
  refine lv_dup hx hb dX6_putOn_58 rfl ?_
  refine rgN  hx hb hT hu8 hown hK hP hL q1 4 (Nat.lt_of_lt_of_le haq1 (Nat.le_of_ble_eq_true rfl)) ((msp haq1) _ _) rfl (Nat.le_of_ble_eq_true rfl) tw_1_208 rfl (v := .int (gi m10 q1 4)) rfl dX6_putOn_59 ?_
  refine lv_iconst (v := (1 : Int32)) hx hb dX6_putOn_62 (by decide) ?_
  refine lv_iadd hx hb dX6_putOn_63 ?_
  obtain ⟨m11, em11, hD⟩ := bnd_el hD
  refine rpN  hx hb hT hu8 tyX8_ok nmX8 hown hK hP (hD1 _ (hAd _ _)) hS hL q1 4 (Nat.lt_of_lt_of_le haq1 (Nat.le_of_ble_eq_true rfl)) ((msp haq1) _ _) ((msp haq1) _ _) rfl (Nat.le_of_ble_eq_true rfl) tw_1_208 rfl rfl rfl rfl (Nat.le_of_ble_eq_true rfl) dX6_putOn_64 em11 (fun H locs hP hS => ?_)
  refine lv_aload_n hx hb dX6_putOn_67 rfl (lv_at hl 1 rfl) ?_
  obtain ⟨m12, z13, hD⟩ := b1_el hD
  refine rcVN  (As := []) (rest := []) Fx0 (c_X8_dropPart l hL hAd m11 q1 haq1 z13) hP (hD1 _ (hAd _ _)) hS (hA1 _ _ (hAd _ _) hS.1) hL (Nat.lt_of_lt_of_le haq1 (Nat.le_of_ble_eq_true rfl)) ((msp haq1) _ _) rfl tw_2_55 tw_5_159 tw_2_54 ts_2 tw_1_6 yd_X8_dropPart ⟨(Nat.le_of_ble_eq_true rfl), (Nat.le_of_ble_eq_true rfl)⟩ rfl hl.1 rfl (Nat.le_of_ble_eq_true rfl) dX6_putOn_68 (fun H locs hP hS => ?_)
  cases hD
  exact hret _ _ _ hP hS (fun Qc hq => W.vret hx hb hr hq hS.2.2 dX6_putOn_71 hlocks)

noncomputable def D_X6_cleanOf (q1 : Nat) (m : MM) : Option MM := b1 (D_X6_goTo (0 : Int32) (0 : Int32) (gi m 25 14) m) (fun m1 => bnd (si m1 q1 7 (0 : Int32)) (fun m3 => some (m3)))
set_option maxHeartbeats 4000000 in
set_option maxRecDepth 100000 in
theorem c_X6_cleanOf (l : Launch) {D : va_G} {cs : Nat → ClassId} {ad : Nat → Nat} {Wf : MM → va_W} (hL : Ln 51 ad (msh cs ad) Wf) (hAd : ∀ a0_ b0_ : MM, (Wf a0_).map (fun q => q.1) = (Wf b0_).map (fun q => q.1)) (m : MM) (q1 : Nat) (haq1 : q1 < 4) {m' : MM} (hD : D_X6_cleanOf q1 m = some (m')) : Ct l yX6_cleanOf cX6_cleanOf 2 none 3 71 D cs [.ref (ad 24), .ref (ad q1)] (Wf m) (Wf m') (none) := by
  refine Ct.ofW (by decide) (Nat.le_of_ble_eq_true rfl) (hAd _ _) ?_
  intro p e s m0 below meth c A Q ls args hx hb hr hml hlocks hown hts hK hP hD1 hSS hS hA1 hl hret
  have hT : ∀ w ∈ TBL, w.before args s = true := fun w h => hts w (List.mem_cons_of_mem _ h)
  have Fx0 : Fx p l m0 c cX6_cleanOf 2 s args yX6_cleanOf cX6_cleanOf 2 none D cs A := ⟨hx, hb, hml, hown, hts, hK, hSS⟩
  have hown : s.vm.findClass RX6 = some m0.cls := hown
  have hl : lv_has ls 2 [(0, .ref (ad 24)), (1, .ref (ad q1))] := hl
  unfold D_X6_cleanOf at hD
  refine lv_aload_n hx hb dX6_cleanOf_0 rfl (lv_at hl 0 rfl) ?_
  refine lv_iconst (v := (0 : Int32)) hx hb dX6_cleanOf_1 (by decide) ?_
  refine lv_iconst (v := (0 : Int32)) hx hb dX6_cleanOf_2 (by decide) ?_
  refine lv_aload_n hx hb dX6_cleanOf_3 rfl (lv_at hl 0 rfl) ?_
  refine rg  hx hb hT hu6 hown hK hP hL 24 0 (Nat.le_of_ble_eq_true rfl) (ms24 _ _) rfl (Nat.le_of_ble_eq_true rfl) (Fx0.T tw_2_75) rfl (v := .ref (ad 25)) rfl dX6_cleanOf_4 ?_
  refine lv_bipush (v := (14 : Int32)) hx hb dX6_cleanOf_7 (by decide) ?_
  refine riald  hx hb hK hP hL 25 (Nat.le_of_ble_eq_true rfl) (ms25 _ _) (by decide) (j := 14) (by decide) dX6_cleanOf_9 ?_
  obtain ⟨m1, z2, hD⟩ := b1_el hD
  refine rcV  (As := [.int (0 : Int32), .int (0 : Int32), .int (gi m 25 14)]) (rest := []) Fx0 (c_X6_goTo l hL hAd m (0 : Int32) (0 : Int32) (gi m 25 14) z2) hP (hD1 _ (hAd _ _)) hS (hA1 _ _ (hAd _ _) hS.1) hL (Nat.le_of_ble_eq_true rfl) (ms24 _ _) rfl tw_5_124 tw_5_121 tw_5_123 ts_44 tw_1_2 yd_X6_goTo ⟨(Nat.le_of_ble_eq_true rfl), (Nat.le_of_ble_eq_true rfl)⟩ rfl hl.1 rfl (Nat.le_of_ble_eq_true rfl) dX6_cleanOf_10 (fun H locs hP hS => ?_)
  refine lv_aload_n hx hb dX6_cleanOf_13 rfl (lv_at hl 1 rfl) ?_
  refine lv_iconst (v := (0 : Int32)) hx hb dX6_cleanOf_14 (by decide) ?_
  obtain ⟨m3, em3, hD⟩ := bnd_el hD
  refine rpN  hx hb hT hu8 tyX8_ok nmX8 hown hK hP (hD1 _ (hAd _ _)) hS hL q1 7 (Nat.lt_of_lt_of_le haq1 (Nat.le_of_ble_eq_true rfl)) ((msp haq1) _ _) ((msp haq1) _ _) rfl (Nat.le_of_ble_eq_true rfl) tw_1_214 rfl rfl rfl rfl (Nat.le_of_ble_eq_true rfl) dX6_cleanOf_15 em3 (fun H locs hP hS => ?_)
  cases hD
  exact hret _ _ _ hP hS (fun Qc hq => W.vret hx hb hr hq hS.2.2 dX6_cleanOf_18 hlocks)

noncomputable def D_X6_perform_116 (x1 : Int32) (x2 : Int32) (x3 : Int32) (x5 : Int32) (x6 : Int32) (m : MM) : Option (Int32 × MM) := b1 (D_X9_codeOf x1 x2 x3) (fun v6 => b1 (D_X4_note v6 x6 (gi m 24 13) m) (fun m8 => if x1 < 0 ∨ 7 ≤ x1.toNatClampNeg then none else (if x1 < 0 ∨ 7 ≤ x1.toNatClampNeg then none else (bnd (si m8 49 x1.toNatClampNeg ((gi m8 49 x1.toNatClampNeg) + (1 : Int32))) (fun m12 => if x1 < 0 ∨ 7 ≤ x1.toNatClampNeg then none else (if x1 < 0 ∨ 7 ≤ x1.toNatClampNeg then none else (bnd (si m12 50 x1.toNatClampNeg ((gi m12 50 x1.toNatClampNeg) + ((gi m12 24 13) - x5))) (fun m15 => some (x6, m15)))))))))
noncomputable def D_X6_perform (x1 : Int32) (x2 : Int32) (x3 : Int32) (m : MM) : Option (Int32 × MM) := if x2 < 0 ∨ 4 ≤ x2.toNatClampNeg then none else (bnd ((gi m 24 13)) (fun v3 => if x1 = (1 : Int32) then (b1 (D_X6_changeTo x2.toNatClampNeg x3 m) (fun m4 => D_X6_perform_116 x1 x2 x3 v3 (1 : Int32) m4)) else (if x1 = (2 : Int32) then (if x3 < 0 ∨ 10 ≤ x3.toNatClampNeg then none else (b2 (D_X6_pickFrom x2.toNatClampNeg (4 + x3.toNatClampNeg) m) (fun v18 m19 => D_X6_perform_116 x1 x2 x3 v3 v18 m19))) else (if x1 = (3 : Int32) then (b2 (D_X6_lookAt x2.toNatClampNeg m) (fun v21 m22 => D_X6_perform_116 x1 x2 x3 v3 v21 m22)) else (if x1 = (4 : Int32) then (b1 (D_X6_putOn x2.toNatClampNeg x2 x3 m) (fun m24 => D_X6_perform_116 x1 x2 x3 v3 (1 : Int32) m24)) else (if x1 = (5 : Int32) then (b1 (D_X6_reject x2.toNatClampNeg m) (fun m26 => D_X6_perform_116 x1 x2 x3 v3 (1 : Int32) m26)) else (b1 (D_X6_cleanOf x2.toNatClampNeg m) (fun m28 => D_X6_perform_116 x1 x2 x3 v3 (1 : Int32) m28))))))))
set_option maxHeartbeats 4000000 in
set_option maxRecDepth 100000 in
theorem c_X6_perform (l : Launch) {D : va_G} {cs : Nat → ClassId} {ad : Nat → Nat} {Wf : MM → va_W} (hL : Ln 51 ad (msh cs ad) Wf) (hAd : ∀ a0_ b0_ : MM, (Wf a0_).map (fun q => q.1) = (Wf b0_).map (fun q => q.1)) (m : MM) (x1 : Int32) (x2 : Int32) (x3 : Int32) {rr : Int32} {m' : MM} (hD : D_X6_perform x1 x2 x3 m = some (rr, m')) : Ct l yX6_perform cX6_perform 7 (some .int) 4 109 D cs [.ref (ad 24), .int x1, .int x2, .int x3] (Wf m) (Wf m') (some (.int rr)) := by
  refine Ct.ofW (by decide) (Nat.le_of_ble_eq_true rfl) (hAd _ _) ?_
  intro p e s m0 below meth c A Q ls args hx hb hr hml hlocks hown hts hK hP hD1 hSS hS hA1 hl hret
  have hT : ∀ w ∈ TBL, w.before args s = true := fun w h => hts w (List.mem_cons_of_mem _ h)
  have Fx0 : Fx p l m0 c cX6_perform 7 s args yX6_perform cX6_perform 7 (some .int) D cs A := ⟨hx, hb, hml, hown, hts, hK, hSS⟩
  have hown : s.vm.findClass RX6 = some m0.cls := hown
  have hl : lv_has ls 7 [(0, .ref (ad 24)), (1, .int x1), (2, .int x2), (3, .int x3)] := hl
  unfold D_X6_perform at hD
  have c_116 : ∀ (x1 : Int32) (x2 : Int32) (x3 : Int32) (x5 : Int32) (x6 : Int32) (m : MM) (H : Heap) (locs : List Loc) (ls : Array Slot), D_X6_perform_116 x1 x2 x3 x5 x6 m = some (rr, m') → va_P D vwCl (Wf m) H → va_S A s.heap H locs → lv_has ls 7 [(0, .ref (ad 24)), (1, .int x1), (2, .int x2), (3, .int x3), (5, .int x5), (6, .int x6)] → W p l e ({ frames := 4, cells := 0, slots := 0, locals := 109 } : Room) s m0 args below meth c H locs 0 0 Q (F0 m0 116 ls []) := by
    intro x1 x2 x3 x5 x6 m H locs ls hD hP hS hl
    unfold D_X6_perform_116 at hD
    refine lv_aload_n hx hb dX6_perform_116 rfl (lv_at hl 0 rfl) ?_
    refine rg  hx hb hT hu6 hown hK hP hL 24 10 (Nat.le_of_ble_eq_true rfl) (ms24 _ _) rfl (Nat.le_of_ble_eq_true rfl) (Fx0.T tw_2_109) rfl (v := .ref (ad 45)) rfl dX6_perform_117 ?_
    refine lv_iload_n hx hb dX6_perform_120 rfl (lv_at hl 1 rfl) ?_
    refine lv_iload_n hx hb dX6_perform_121 rfl (lv_at hl 2 rfl) ?_
    refine lv_iload_n hx hb dX6_perform_122 rfl (lv_at hl 3 rfl) ?_
    obtain ⟨v6, z7, hD⟩ := b1_el hD
    refine rcSN (As := [.int x1, .int x2, .int x3]) (rest := [.ref (ad 45)]) Fx0 (c_X9_codeOf l x1 x2 x3 z7) hP (hD1 _ (hAd _ _)) hS (hA1 _ _ (hAd _ _) hS.1) tw_5_175 tw_5_173 tw_5_174 tw_1_1 yd_X9_codeOf ⟨(Nat.le_of_ble_eq_true rfl), (Nat.le_of_ble_eq_true rfl)⟩ rfl hl.1 rfl (Nat.le_of_ble_eq_true rfl) dX6_perform_123 (fun H locs hP hS => ?_)
    refine lv_iload hx hb dX6_perform_126 (lv_at hl 5 rfl) ?_
    refine lv_aload_n hx hb dX6_perform_128 rfl (lv_at hl 0 rfl) ?_
    refine rg  hx hb hT hu6 hown hK hP hL 24 13 (Nat.le_of_ble_eq_true rfl) (ms24 _ _) rfl (Nat.le_of_ble_eq_true rfl) (Fx0.T tw_2_115) rfl (v := .int (gi m 24 13)) rfl dX6_perform_129 ?_
    obtain ⟨m8, z9, hD⟩ := b1_el hD
    refine rcVN  (As := [.int v6, .int x6, .int (gi m 24 13)]) (rest := []) Fx0 (c_X4_note l hL hAd m v6 x6 (gi m 24 13) z9) hP (hD1 _ (hAd _ _)) hS (hA1 _ _ (hAd _ _) hS.1) hL (Nat.le_of_ble_eq_true rfl) (ms45 _ _) rfl tw_5_179 tw_5_176 tw_5_178 ts_55 tw_1_5 yd_X4_note ⟨(Nat.le_of_ble_eq_true rfl), (Nat.le_of_ble_eq_true rfl)⟩ rfl hl.1 rfl (Nat.le_of_ble_eq_true rfl) dX6_perform_132 (fun H locs hP hS => ?_)
    refine lv_aload_n hx hb dX6_perform_135 rfl (lv_at hl 0 rfl) ?_
    refine rg  hx hb hT hu6 hown hK hP hL 24 10 (Nat.le_of_ble_eq_true rfl) (ms24 _ _) rfl (Nat.le_of_ble_eq_true rfl) (Fx0.T tw_2_109) rfl (v := .ref (ad 45)) rfl dX6_perform_136 ?_
    refine rgN  hx hb hT hu4 hown hK hP hL 45 5 (Nat.le_of_ble_eq_true rfl) (ms45 _ _) rfl (Nat.le_of_ble_eq_true rfl) tw_1_159 rfl (v := .ref (ad 49)) rfl dX6_perform_139 ?_
    refine lv_iload_n hx hb dX6_perform_142 rfl (lv_at hl 1 rfl) ?_
    refine lv_dup2_11 hx hb dX6_perform_143 rfl rfl ?_
    obtain ⟨h10, hD⟩ := gd_el hD
    refine riald  hx hb hK hP hL 49 (Nat.le_of_ble_eq_true rfl) (ms49 _ _) h10 rfl dX6_perform_144 ?_
    refine lv_iconst (v := (1 : Int32)) hx hb dX6_perform_145 (by decide) ?_
    refine lv_iadd hx hb dX6_perform_146 ?_
    obtain ⟨h11, hD⟩ := gd_el hD
    obtain ⟨m12, em12, hD⟩ := bnd_el hD
    refine riast  hx hb hK hP (hD1 _ (hAd _ _)) hS hL 49 (Nat.le_of_ble_eq_true rfl) (fun _ => ms49 _ _) h11 rfl dX6_perform_147 em12 (fun H locs hP hS => ?_)
    refine lv_aload_n hx hb dX6_perform_148 rfl (lv_at hl 0 rfl) ?_
    refine rg  hx hb hT hu6 hown hK hP hL 24 10 (Nat.le_of_ble_eq_true rfl) (ms24 _ _) rfl (Nat.le_of_ble_eq_true rfl) (Fx0.T tw_2_109) rfl (v := .ref (ad 45)) rfl dX6_perform_149 ?_
    refine rgN  hx hb hT hu4 hown hK hP hL 45 6 (Nat.le_of_ble_eq_true rfl) (ms45 _ _) rfl (Nat.le_of_ble_eq_true rfl) tw_1_162 rfl (v := .ref (ad 50)) rfl dX6_perform_152 ?_
    refine lv_iload_n hx hb dX6_perform_155 rfl (lv_at hl 1 rfl) ?_
    refine lv_dup2_11 hx hb dX6_perform_156 rfl rfl ?_
    obtain ⟨h13, hD⟩ := gd_el hD
    refine riald  hx hb hK hP hL 50 (Nat.le_of_ble_eq_true rfl) (ms50 _ _) h13 rfl dX6_perform_157 ?_
    refine lv_aload_n hx hb dX6_perform_158 rfl (lv_at hl 0 rfl) ?_
    refine rg  hx hb hT hu6 hown hK hP hL 24 13 (Nat.le_of_ble_eq_true rfl) (ms24 _ _) rfl (Nat.le_of_ble_eq_true rfl) (Fx0.T tw_2_115) rfl (v := .int (gi m12 24 13)) rfl dX6_perform_159 ?_
    refine lv_iload hx hb dX6_perform_162 (lv_at hl 4 rfl) ?_
    refine lv_isub hx hb dX6_perform_164 ?_
    refine lv_iadd hx hb dX6_perform_165 ?_
    obtain ⟨h14, hD⟩ := gd_el hD
    obtain ⟨m15, em15, hD⟩ := bnd_el hD
    refine riast  hx hb hK hP (hD1 _ (hAd _ _)) hS hL 50 (Nat.le_of_ble_eq_true rfl) (fun _ => ms50 _ _) h14 rfl dX6_perform_166 em15 (fun H locs hP hS => ?_)
    refine lv_iload hx hb dX6_perform_167 (lv_at hl 5 rfl) ?_
    cases hD
    exact hret _ _ _ hP hS (fun Qc hq => W.iret hx hb hr hq hS.2.2 dX6_perform_169 hlocks)
  refine lv_aload_n hx hb dX6_perform_0 rfl (lv_at hl 0 rfl) ?_
  refine rg  hx hb hT hu6 hown hK hP hL 24 2 (Nat.le_of_ble_eq_true rfl) (ms24 _ _) rfl (Nat.le_of_ble_eq_true rfl) (Fx0.T tw_2_82) rfl (v := .ref (ad 26)) rfl dX6_perform_1 ?_
  refine lv_iload_n hx hb dX6_perform_4 rfl (lv_at hl 2 rfl) ?_
  obtain ⟨h1, hD⟩ := gd_el hD
  have hq2 : x2.toNatClampNeg < 4 := Nat.lt_of_not_le (fun z => h1 (Or.inr z))
  refine raald  hx hb hK hP hL 26 4 (Nat.le_of_ble_eq_true rfl) (ms26 _ _) rfl h1 rfl dX6_perform_5 ?_
  refine lv_astore (lv' := [(4, .ref (ad x2.toNatClampNeg)), (0, .ref (ad 24)), (1, .int x1), (2, .int x2), (3, .int x3)]) hx hb dX6_perform_6 hl (by decide) rfl (fun ls hl => ?_)
  refine lv_aload_n hx hb dX6_perform_8 rfl (lv_at hl 1 rfl) ?_
  refine rg  hx hb hT hu6 hown hK hP hL 24 13 (Nat.le_of_ble_eq_true rfl) (ms24 _ _) rfl (Nat.le_of_ble_eq_true rfl) (Fx0.T tw_2_115) rfl (v := .int (gi m 24 13)) rfl dX6_perform_9 ?_
  obtain ⟨v3, ev3, hD⟩ := bnd_el hD
  refine lv_nmi ev3 ?_
  refine lv_istore (lv' := [(5, .int v3), (4, .ref (ad x2.toNatClampNeg)), (0, .ref (ad 24)), (1, .int x1), (2, .int x2), (3, .int x3)]) hx hb dX6_perform_12 hl (by decide) rfl (fun ls hl => ?_)
  refine lv_iconst (v := (1 : Int32)) hx hb dX6_perform_14 (by decide) ?_
  refine lv_istore (lv' := [(6, .int (1 : Int32)), (5, .int v3), (4, .ref (ad x2.toNatClampNeg)), (0, .ref (ad 24)), (1, .int x1), (2, .int x2), (3, .int x3)]) hx hb dX6_perform_15 hl (by decide) rfl (fun ls hl => ?_)
  refine lv_iload_n hx hb dX6_perform_17 rfl (lv_at hl 4 rfl) ?_
  by_cases sw18_1 : x1 = (1 : Int32)
  · have hD := ifp hD sw18_1
    refine lv_tableIn (off := 34) (tgt := 52) hx hb dX6_perform_18 (by rw [sw18_1]; decide) (by rw [sw18_1]; decide) (by rw [sw18_1]; rfl) (by decide) ?_
    refine lv_aload_n hx hb dX6_perform_52 rfl (lv_at hl 3 rfl) ?_
    refine lv_aload hx hb dX6_perform_53 (lv_at hl 2 rfl) ?_
    refine lv_iload_n hx hb dX6_perform_55 rfl (lv_at hl 6 rfl) ?_
    obtain ⟨m4, z5, hD⟩ := b1_el hD
    refine rcV  (As := [.ref (ad x2.toNatClampNeg), .int x3]) (rest := []) Fx0 (c_X6_changeTo l hL hAd m x2.toNatClampNeg hq2 x3 z5) hP (hD1 _ (hAd _ _)) hS (hA1 _ _ (hAd _ _) hS.1) hL (Nat.le_of_ble_eq_true rfl) (ms24 _ _) rfl tw_5_120 tw_5_117 tw_5_119 ts_43 tw_1_2 yd_X6_changeTo ⟨(Nat.le_of_ble_eq_true rfl), (Nat.le_of_ble_eq_true rfl)⟩ rfl hl.1 rfl (Nat.le_of_ble_eq_true rfl) dX6_perform_56 (fun H locs hP hS => ?_)
    refine lv_goto (tgt := 116) hx hb dX6_perform_59 (by decide) ?_
    exact c_116 _ _ _ _ _ _ _ _ _ hD hP hS (lv_sub hl [3, 4, 5, 6, 1, 0] rfl)
  · have hD := ifn hD sw18_1
    by_cases sw18_2 : x1 = (2 : Int32)
    · have hD := ifp hD sw18_2
      refine lv_tableIn (off := 44) (tgt := 62) hx hb dX6_perform_18 (by rw [sw18_2]; decide) (by rw [sw18_2]; decide) (by rw [sw18_2]; rfl) (by decide) ?_
      refine lv_aload_n hx hb dX6_perform_62 rfl (lv_at hl 3 rfl) ?_
      refine lv_aload hx hb dX6_perform_63 (lv_at hl 2 rfl) ?_
      refine lv_aload_n hx hb dX6_perform_65 rfl (lv_at hl 3 rfl) ?_
      refine rg  hx hb hT hu6 hown hK hP hL 24 7 (Nat.le_of_ble_eq_true rfl) (ms24 _ _) rfl (Nat.le_of_ble_eq_true rfl) (Fx0.T tw_2_99) rfl (v := .ref (ad 35)) rfl dX6_perform_66 ?_
      refine lv_iload_n hx hb dX6_perform_69 rfl (lv_at hl 6 rfl) ?_
      obtain ⟨h16, hD⟩ := gd_el hD
      have hq17a : 4 ≤ 4 + x3.toNatClampNeg := Nat.le_add_right _ _
      have hq17b : 4 + x3.toNatClampNeg < 14 := Nat.add_lt_add_left (Nat.lt_of_not_le (fun z => h16 (Or.inr z))) 4
      refine raald  hx hb hK hP hL 35 5 (Nat.le_of_ble_eq_true rfl) (ms35 _ _) rfl h16 rfl dX6_perform_70 ?_
      obtain ⟨v18, m19, z20, hD⟩ := b2_el hD
      refine rcV  (As := [.ref (ad x2.toNatClampNeg), .ref (ad (4 + x3.toNatClampNeg))]) (rest := []) Fx0 (c_X6_pickFrom l hL hAd m x2.toNatClampNeg hq2 (4 + x3.toNatClampNeg) hq17a hq17b z20) hP (hD1 _ (hAd _ _)) hS (hA1 _ _ (hAd _ _) hS.1) hL (Nat.le_of_ble_eq_true rfl) (ms24 _ _) rfl tw_5_134 tw_5_131 tw_5_133 ts_46 tw_1_2 yd_X6_pickFrom ⟨(Nat.le_of_ble_eq_true rfl), (Nat.le_of_ble_eq_true rfl)⟩ rfl hl.1 rfl (Nat.le_of_ble_eq_true rfl) dX6_perform_71 (fun H locs hP hS => ?_)
      refine lv_istore (lv' := [(6, .int v18), (5, .int v3), (4, .ref (ad x2.toNatClampNeg)), (0, .ref (ad 24)), (1, .int x1), (2, .int x2), (3, .int x3)]) hx hb dX6_perform_74 hl (by decide) rfl (fun ls hl => ?_)
      refine lv_goto (tgt := 116) hx hb dX6_perform_76 (by decide) ?_
      exact c_116 _ _ _ _ _ _ _ _ _ hD hP hS (lv_sub hl [3, 4, 5, 6, 1, 0] rfl)
    · have hD := ifn hD sw18_2
      by_cases sw18_3 : x1 = (3 : Int32)
      · have hD := ifp hD sw18_3
        refine lv_tableIn (off := 61) (tgt := 79) hx hb dX6_perform_18 (by rw [sw18_3]; decide) (by rw [sw18_3]; decide) (by rw [sw18_3]; rfl) (by decide) ?_
        refine lv_aload_n hx hb dX6_perform_79 rfl (lv_at hl 3 rfl) ?_
        refine lv_aload hx hb dX6_perform_80 (lv_at hl 2 rfl) ?_
        obtain ⟨v21, m22, z23, hD⟩ := b2_el hD
        refine rcV  (As := [.ref (ad x2.toNatClampNeg)]) (rest := []) Fx0 (c_X6_lookAt l hL hAd m x2.toNatClampNeg hq2 z23) hP (hD1 _ (hAd _ _)) hS (hA1 _ _ (hAd _ _) hS.1) hL (Nat.le_of_ble_eq_true rfl) (ms24 _ _) rfl tw_5_154 tw_5_151 tw_5_153 ts_50 tw_1_2 yd_X6_lookAt ⟨(Nat.le_of_ble_eq_true rfl), (Nat.le_of_ble_eq_true rfl)⟩ rfl hl.1 rfl (Nat.le_of_ble_eq_true rfl) dX6_perform_82 (fun H locs hP hS => ?_)
        refine lv_istore (lv' := [(6, .int v21), (5, .int v3), (4, .ref (ad x2.toNatClampNeg)), (0, .ref (ad 24)), (1, .int x1), (2, .int x2), (3, .int x3)]) hx hb dX6_perform_85 hl (by decide) rfl (fun ls hl => ?_)
        refine lv_goto (tgt := 116) hx hb dX6_perform_87 (by decide) ?_
        exact c_116 _ _ _ _ _ _ _ _ _ hD hP hS (lv_sub hl [3, 4, 5, 6, 1, 0] rfl)
      · have hD := ifn hD sw18_3
        by_cases sw18_4 : x1 = (4 : Int32)
        · have hD := ifp hD sw18_4
          refine lv_tableIn (off := 72) (tgt := 90) hx hb dX6_perform_18 (by rw [sw18_4]; decide) (by rw [sw18_4]; decide) (by rw [sw18_4]; rfl) (by decide) ?_
          refine lv_aload_n hx hb dX6_perform_90 rfl (lv_at hl 3 rfl) ?_
          refine lv_aload hx hb dX6_perform_91 (lv_at hl 2 rfl) ?_
          refine lv_iload_n hx hb dX6_perform_93 rfl (lv_at hl 5 rfl) ?_
          refine lv_iload_n hx hb dX6_perform_94 rfl (lv_at hl 6 rfl) ?_
          obtain ⟨m24, z25, hD⟩ := b1_el hD
          refine rcV  (As := [.ref (ad x2.toNatClampNeg), .int x2, .int x3]) (rest := []) Fx0 (c_X6_putOn l hL hAd m x2.toNatClampNeg hq2 x2 x3 z25) hP (hD1 _ (hAd _ _)) hS (hA1 _ _ (hAd _ _) hS.1) hL (Nat.le_of_ble_eq_true rfl) (ms24 _ _) rfl tw_5_163 tw_5_160 tw_5_162 ts_52 tw_1_2 yd_X6_putOn ⟨(Nat.le_of_ble_eq_true rfl), (Nat.le_of_ble_eq_true rfl)⟩ rfl hl.1 rfl (Nat.le_of_ble_eq_true rfl) dX6_perform_95 (fun H locs hP hS => ?_)
          refine lv_goto (tgt := 116) hx hb dX6_perform_98 (by decide) ?_
          exact c_116 _ _ _ _ _ _ _ _ _ hD hP hS (lv_sub hl [3, 4, 5, 6, 1, 0] rfl)
        · have hD := ifn hD sw18_4
          by_cases sw18_5 : x1 = (5 : Int32)
          · have hD := ifp hD sw18_5
            refine lv_tableIn (off := 83) (tgt := 101) hx hb dX6_perform_18 (by rw [sw18_5]; decide) (by rw [sw18_5]; decide) (by rw [sw18_5]; rfl) (by decide) ?_
            refine lv_aload_n hx hb dX6_perform_101 rfl (lv_at hl 3 rfl) ?_
            refine lv_aload hx hb dX6_perform_102 (lv_at hl 2 rfl) ?_
            obtain ⟨m26, z27, hD⟩ := b1_el hD
            refine rcV  (As := [.ref (ad x2.toNatClampNeg)]) (rest := []) Fx0 (c_X6_reject l hL hAd m x2.toNatClampNeg hq2 z27) hP (hD1 _ (hAd _ _)) hS (hA1 _ _ (hAd _ _) hS.1) hL (Nat.le_of_ble_eq_true rfl) (ms24 _ _) rfl tw_5_158 tw_5_155 tw_5_157 ts_51 tw_1_2 yd_X6_reject ⟨(Nat.le_of_ble_eq_true rfl), (Nat.le_of_ble_eq_true rfl)⟩ rfl hl.1 rfl (Nat.le_of_ble_eq_true rfl) dX6_perform_104 (fun H locs hP hS => ?_)
            refine lv_goto (tgt := 116) hx hb dX6_perform_107 (by decide) ?_
            exact c_116 _ _ _ _ _ _ _ _ _ hD hP hS (lv_sub hl [3, 4, 5, 6, 1, 0] rfl)
          · have hD := ifn hD sw18_5
            refine lv_tableOut (tgt := 110) hx hb dX6_perform_18 (swo 1 5 (fun k h1 h2 e => ?_)) (by decide) ?_
            · have h3 : k = 1 ∨ k = 2 ∨ k = 3 ∨ k = 4 ∨ k = 5 ∨ False := by omega
              rcases h3 with rfl | rfl | rfl | rfl | rfl | h3
              · exact absurd e sw18_1
              · exact absurd e sw18_2
              · exact absurd e sw18_3
              · exact absurd e sw18_4
              · exact absurd e sw18_5
              · exact h3
            refine lv_aload_n hx hb dX6_perform_110 rfl (lv_at hl 3 rfl) ?_
            refine lv_aload hx hb dX6_perform_111 (lv_at hl 2 rfl) ?_
            obtain ⟨m28, z29, hD⟩ := b1_el hD
            refine rcV  (As := [.ref (ad x2.toNatClampNeg)]) (rest := []) Fx0 (c_X6_cleanOf l hL hAd m x2.toNatClampNeg hq2 z29) hP (hD1 _ (hAd _ _)) hS (hA1 _ _ (hAd _ _) hS.1) hL (Nat.le_of_ble_eq_true rfl) (ms24 _ _) rfl tw_5_172 tw_5_169 tw_5_171 ts_54 tw_1_2 yd_X6_cleanOf ⟨(Nat.le_of_ble_eq_true rfl), (Nat.le_of_ble_eq_true rfl)⟩ rfl hl.1 rfl (Nat.le_of_ble_eq_true rfl) dX6_perform_113 (fun H locs hP hS => ?_)
            exact c_116 _ _ _ _ _ _ _ _ _ hD hP hS (lv_sub hl [3, 4, 5, 6, 1, 0] rfl)
