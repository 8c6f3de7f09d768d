/-! the plan -/
noncomputable def D_X7_decide (q0 : Nat) (x1 : Int32) (x2 : Int32) (x3 : Int32) (h : MM) (m : MM) : Option (Int32 × MM) := bnd (si h q0 1 x1) (fun m1 => bnd (si m1 q0 2 x2) (fun m2 => bnd (si m2 q0 3 x3) (fun m3 => some ((1 : Int32), m3))))
set_option maxHeartbeats 4000000 in
set_option maxRecDepth 100000 in
theorem c_X7_decide (l : Launch) {D : va_G} {cs : Nat → ClassId} {adh ad ma : Nat → Nat} {Wf : MM → MM → va_W} (hLh : ∀ m : MM, Ln 8 adh (hsh cs adh ma) (fun z => Wf z m)) (hL : ∀ h : MM, Ln 51 ad (msh cs ad) (fun z => Wf h z)) (hAd : ∀ a0_ b0_ a1_ b1_ : MM, (Wf a0_ a1_).map (fun q => q.1) = (Wf b0_ b1_).map (fun q => q.1)) (h : MM) (m : MM) (q0 : Nat) (haq0 : 1 ≤ q0) (hbq0 : q0 < 3) (hcq0 : ma q0 = ad 24) (x1 : Int32) (x2 : Int32) (x3 : Int32) {rr : Int32} {h' : MM} (hD : D_X7_decide q0 x1 x2 x3 h m = some (rr, h')) : Ct l yX7_decide cX7_decide 4 (some .boolean) 0 0 D cs [.ref (adh q0), .int x1, .int x2, .int x3] (Wf h m) (Wf h' m) (some (.int rr)) := by
  refine Ct.ofW (by decide) (Nat.le_of_ble_eq_true rfl) (hAd _ _ _ _) ?_
  intro p e s m0 below meth c A Q ls args hx hb hr hml hlocks hown hts hK hP hD1 hSS hS hA1 hl hret
  have hT : ∀ w ∈ TBL, w.before args s = true := fun w h => hts w (List.mem_cons_of_mem _ h)
  have Fx0 : Fx p l m0 c cX7_decide 4 s args yX7_decide cX7_decide 4 (some .boolean) D cs A := ⟨hx, hb, hml, hown, hts, hK, hSS⟩
  have hown : s.vm.findClass RX7 = some m0.cls := hown
  have hl : lv_has ls 4 [(0, .ref (adh q0)), (1, .int x1), (2, .int x2), (3, .int x3)] := hl
  unfold D_X7_decide at hD
  refine lv_aload_n hx hb dX7_decide_0 rfl (lv_at hl 0 rfl) ?_
  refine lv_iload_n hx hb dX7_decide_1 rfl (lv_at hl 1 rfl) ?_
  obtain ⟨m1, em1, hD⟩ := bnd_el hD
  refine rp (Wf := fun z => Wf z m) (mm := h) hx hb hT hu7 tyX7_ok nmX7 hown hK hP (hD1 _ (hAd _ _ _ _)) hS (hLh m) q0 1 (hplq hbq0) ((hpl haq0 hbq0) _ _) ((hpl haq0 hbq0) _ _) rfl (Nat.le_of_ble_eq_true rfl) (Fx0.T tw_2_163) rfl rfl rfl rfl (Nat.le_of_ble_eq_true rfl) dX7_decide_2 em1 (fun H locs hP hS => ?_)
  refine lv_aload_n hx hb dX7_decide_5 rfl (lv_at hl 0 rfl) ?_
  refine lv_iload_n hx hb dX7_decide_6 rfl (lv_at hl 2 rfl) ?_
  obtain ⟨m2, em2, hD⟩ := bnd_el hD
  refine rp (Wf := fun z => Wf z m) (mm := m1) hx hb hT hu7 tyX7_ok nmX7 hown hK hP (hD1 _ (hAd _ _ _ _)) hS (hLh m) q0 2 (hplq hbq0) ((hpl haq0 hbq0) _ _) ((hpl haq0 hbq0) _ _) rfl (Nat.le_of_ble_eq_true rfl) (Fx0.T tw_2_166) rfl rfl rfl rfl (Nat.le_of_ble_eq_true rfl) dX7_decide_7 em2 (fun H locs hP hS => ?_)
  refine lv_aload_n hx hb dX7_decide_10 rfl (lv_at hl 0 rfl) ?_
  refine lv_iload_n hx hb dX7_decide_11 rfl (lv_at hl 3 rfl) ?_
  obtain ⟨m3, em3, hD⟩ := bnd_el hD
  refine rp (Wf := fun z => Wf z m) (mm := m2) hx hb hT hu7 tyX7_ok nmX7 hown hK hP (hD1 _ (hAd _ _ _ _)) hS (hLh m) q0 3 (hplq hbq0) ((hpl haq0 hbq0) _ _) ((hpl haq0 hbq0) _ _) rfl (Nat.le_of_ble_eq_true rfl) (Fx0.T tw_2_169) rfl rfl rfl rfl (Nat.le_of_ble_eq_true rfl) dX7_decide_12 em3 (fun H locs hP hS => ?_)
  refine lv_iconst (v := (1 : Int32)) hx hb dX7_decide_15 (by decide) ?_
  cases hD
  exact hret _ _ _ hP hS (fun Qc hq => W.zret hx hb hr rfl hq hS.2.2 dX7_decide_16 hlocks)

noncomputable def D_X7_kindsToLoad_5 (h : MM) (m : MM) : Nat → Nat → Int64 → Int32 → Int32 → Option Int32
  | 0, _, _, _, _ => none
  | n + 1, q0, x1, x3, x4 => if (gi m 24 6) ≤ x4 then (some (x3)) else (if x4 < 0 ∨ 10 ≤ x4.toNatClampNeg then none else (bnd ((gi m (4 + x4.toNatClampNeg) 0)) (fun v3 => if v3 < 0 ∨ 8 ≤ v3.toNatClampNeg then none else (b1 (D_J13_bitCount_95d88 (x1 &&& (gl m 42 v3.toNatClampNeg))) (fun v5 => if x4 < 0 ∨ 10 ≤ x4.toNatClampNeg then none else (if (gi m (4 + x4.toNatClampNeg) 2) ≤ 0 then (bnd (x4 + (1 : Int32)) (fun v9 => D_X7_kindsToLoad_5 h m n q0 x1 x3 v9)) else (b1 (D_X6_heldOf v3 m) (fun v10 => if v5 ≤ v10 then (bnd (x4 + (1 : Int32)) (fun v12 => D_X7_kindsToLoad_5 h m n q0 x1 x3 v12)) else (bnd ((x3 ||| ((1 : Int32) <<< (v3 &&& 31)))) (fun v13 => bnd (x4 + (1 : Int32)) (fun v14 => D_X7_kindsToLoad_5 h m n q0 x1 v13 v14)))))))))))
noncomputable def D_X7_kindsToLoad (q0 : Nat) (x1 : Int64) (h : MM) (m : MM) : Option Int32 := D_X7_kindsToLoad_5 h m FU q0 x1 (0 : Int32) (0 : Int32)
set_option maxHeartbeats 4000000 in
set_option maxRecDepth 100000 in
theorem c_X7_kindsToLoad (l : Launch) {D : va_G} {cs : Nat → ClassId} {adh ad ma : Nat → Nat} {Wf : MM → MM → va_W} (hLh : ∀ m : MM, Ln 8 adh (hsh cs adh ma) (fun z => Wf z m)) (hL : ∀ h : MM, Ln 51 ad (msh cs ad) (fun z => Wf h z)) (hAd : ∀ a0_ b0_ a1_ b1_ : MM, (Wf a0_ a1_).map (fun q => q.1) = (Wf b0_ b1_).map (fun q => q.1)) (h : MM) (m : MM) (q0 : Nat) (haq0 : 1 ≤ q0) (hbq0 : q0 < 3) (hcq0 : ma q0 = ad 24) (x1 : Int64) {rr : Int32} (hD : D_X7_kindsToLoad q0 x1 h m = some (rr)) : Ct l yX7_kindsToLoad cX7_kindsToLoad 7 (some .int) 1 23 D cs [.ref (adh q0), .long x1] (Wf h m) (Wf h m) (some (.int rr)) := by
  refine Ct.ofW (by decide) (Nat.le_of_ble_eq_true rfl) rfl ?_
  intro p e s m0 below meth c A Q ls args hx hb hr hml hlocks hown hts hK hP hD1 hSS hS hA1 hl hret
  have hT : ∀ w ∈ TBL, w.before args s = true := fun w h => hts w (List.mem_cons_of_mem _ h)
  have Fx0 : Fx p l m0 c cX7_kindsToLoad 7 s args yX7_kindsToLoad cX7_kindsToLoad 7 (some .int) D cs A := ⟨hx, hb, hml, hown, hts, hK, hSS⟩
  have hown : s.vm.findClass RX7 = some m0.cls := hown
  have hl : lv_has ls 7 [(0, .ref (adh q0)), (1, .long x1)] := hl
  unfold D_X7_kindsToLoad at hD
  have c_5 : ∀ (n : Nat), ∀ (q0 : Nat) (x1 : Int64) (x3 : Int32) (x4 : Int32) (H : Heap) (locs : List Loc) (ls : Array Slot), D_X7_kindsToLoad_5 h m n q0 x1 x3 x4 = some (rr) → 1 ≤ q0 → q0 < 3 → ma q0 = ad 24 → va_P D vwCl (Wf h m) H → va_S A s.heap H locs → lv_has ls 7 [(0, .ref (adh q0)), (1, .long x1), (3, .int x3), (4, .int x4)] → W p l e ({ frames := 1, cells := 0, slots := 0, locals := 23 } : Room) s m0 args below meth c H locs 0 0 Q (F0 m0 5 ls []) := by
    intro n
    induction n with
    | zero =>
      intro q0 x1 x3 x4 H locs ls hD haq0 hbq0 hcq0 hP hS hl
      exact nn_el hD
    | succ n ih =>
      intro q0 x1 x3 x4 H locs ls hD haq0 hbq0 hcq0 hP hS hl
      rw [D_X7_kindsToLoad_5] at hD
      refine lv_iload hx hb dX7_kindsToLoad_5 (lv_at hl 3 rfl) ?_
      refine lv_aload_n hx hb dX7_kindsToLoad_7 rfl (lv_at hl 0 rfl) ?_
      refine rg (Wf := fun z => Wf z m) (mm := h) hx hb hT hu7 hown hK hP (hLh m) q0 0 (hplq hbq0) ((hpl haq0 hbq0) _ _) rfl (Nat.le_of_ble_eq_true rfl) (Fx0.T tw_2_162) rfl (v := .ref (ad 24)) (congrArg (fun z => some (Value.ref z)) hcq0) dX7_kindsToLoad_8 ?_
      refine rgN (Wf := fun z => Wf h z) (mm := m) hx hb hT hu6 hown hK hP (hL h) 24 6 (Nat.le_of_ble_eq_true rfl) (ms24 _ _) rfl (Nat.le_of_ble_eq_true rfl) tw_2_97 rfl (v := .int (gi m 24 6)) rfl dX7_kindsToLoad_11 ?_
      refine lv_icmp_ge (tgt := 95) hx hb dX7_kindsToLoad_14 (by decide) (fun c => ?_) (fun c => ?_)
      · have hD := ifp hD c
        refine lv_iload_n hx hb dX7_kindsToLoad_95 rfl (lv_at hl 2 rfl) ?_
        cases hD
        exact hret _ _ _ hP hS (fun Qc hq => W.iret hx hb hr hq hS.2.2 dX7_kindsToLoad_96 hlocks)
      · have hD := ifn hD c
        refine lv_aload_n hx hb dX7_kindsToLoad_17 rfl (lv_at hl 0 rfl) ?_
        refine rg (Wf := fun z => Wf z m) (mm := h) hx hb hT hu7 hown hK hP (hLh m) q0 0 (hplq hbq0) ((hpl haq0 hbq0) _ _) rfl (Nat.le_of_ble_eq_true rfl) (Fx0.T tw_2_162) rfl (v := .ref (ad 24)) (congrArg (fun z => some (Value.ref z)) hcq0) dX7_kindsToLoad_18 ?_
        refine rgN (Wf := fun z => Wf h z) (mm := m) hx hb hT hu6 hown hK hP (hL h) 24 7 (Nat.le_of_ble_eq_true rfl) (ms24 _ _) rfl (Nat.le_of_ble_eq_true rfl) tw_2_101 rfl (v := .ref (ad 35)) rfl dX7_kindsToLoad_21 ?_
        refine lv_iload hx hb dX7_kindsToLoad_24 (lv_at hl 3 rfl) ?_
        obtain ⟨h1, hD⟩ := gd_el hD
        have hq2a : 4 ≤ 4 + x4.toNatClampNeg := Nat.le_add_right _ _
        have hq2b : 4 + x4.toNatClampNeg < 14 := Nat.add_lt_add_left (Nat.lt_of_not_le (fun z => h1 (Or.inr z))) 4
        refine raald (Wf := fun z => Wf h z) (mm := m) hx hb hK hP (hL h) 35 5 (Nat.le_of_ble_eq_true rfl) (ms35 _ _) rfl h1 rfl dX7_kindsToLoad_26 ?_
        refine rgN (Wf := fun z => Wf h z) (mm := m) hx hb hT hu2 hown hK hP (hL h) (4 + x4.toNatClampNeg) 0 (Nat.lt_of_lt_of_le hq2b (Nat.le_of_ble_eq_true rfl)) ((mfe hq2a hq2b) _ _) rfl (Nat.le_of_ble_eq_true rfl) tw_1_239 rfl (v := .int (gi m (4 + x4.toNatClampNeg) 0)) rfl dX7_kindsToLoad_27 ?_
        obtain ⟨v3, ev3, hD⟩ := bnd_el hD
        refine lv_nmi ev3 ?_
        refine lv_istore (lv' := [(5, .int v3), (0, .ref (adh q0)), (1, .long x1), (3, .int x3), (4, .int x4)]) hx hb dX7_kindsToLoad_30 hl (by decide) rfl (fun ls hl => ?_)
        refine lv_lload_n hx hb dX7_kindsToLoad_32 rfl (lv_at hl 2 rfl) ?_
        refine lv_aload_n hx hb dX7_kindsToLoad_33 rfl (lv_at hl 1 rfl) ?_
        refine rg (Wf := fun z => Wf z m) (mm := h) hx hb hT hu7 hown hK hP (hLh m) q0 0 (hplq hbq0) ((hpl haq0 hbq0) _ _) rfl (Nat.le_of_ble_eq_true rfl) (Fx0.T tw_2_162) rfl (v := .ref (ad 24)) (congrArg (fun z => some (Value.ref z)) hcq0) dX7_kindsToLoad_34 ?_
        refine rgN (Wf := fun z => Wf h z) (mm := m) hx hb hT hu6 hown hK hP (hL h) 24 8 (Nat.le_of_ble_eq_true rfl) (ms24 _ _) rfl (Nat.le_of_ble_eq_true rfl) tw_2_104 rfl (v := .ref (ad 36)) rfl dX7_kindsToLoad_37 ?_
        refine rgN (Wf := fun z => Wf h z) (mm := m) hx hb hT hu0 hown hK hP (hL h) 36 6 (Nat.le_of_ble_eq_true rfl) (ms36 _ _) rfl (Nat.le_of_ble_eq_true rfl) tw_1_110 rfl (v := .ref (ad 42)) rfl dX7_kindsToLoad_40 ?_
        refine lv_iload hx hb dX7_kindsToLoad_43 (lv_at hl 0 rfl) ?_
        obtain ⟨h4, hD⟩ := gd_el hD
        refine rlald (Wf := fun z => Wf h z) (mm := m) hx hb hK hP (hL h) 42 (Nat.le_of_ble_eq_true rfl) (ms42 _ _) h4 rfl dX7_kindsToLoad_45 ?_
        refine lv_land hx hb dX7_kindsToLoad_46 ?_
        obtain ⟨v5, z6, hD⟩ := b1_el hD
        refine rcS (As := [.long (x1 &&& (gl m 42 v3.toNatClampNeg))]) (rest := []) Fx0 (c_J13_bitCount_95d88 l (x1 &&& (gl m 42 v3.toNatClampNeg)) z6) hP (hD1 _ (hAd _ _ _ _)) hS (hA1 _ _ (hAd _ _ _ _) hS.1) tw_6_13 tw_6_52 tw_6_12 tw_1_28 yd_J13_bitCount_95d88 ⟨(Nat.le_of_ble_eq_true rfl), (Nat.le_of_ble_eq_true rfl)⟩ rfl hl.1 rfl (Nat.le_of_ble_eq_true rfl) dX7_kindsToLoad_47 (fun H locs hP hS => ?_)
        refine lv_istore (lv' := [(6, .int v5), (5, .int v3), (0, .ref (adh q0)), (1, .long x1), (3, .int x3), (4, .int x4)]) hx hb dX7_kindsToLoad_50 hl (by decide) rfl (fun ls hl => ?_)
        refine lv_aload_n hx hb dX7_kindsToLoad_52 rfl (lv_at hl 2 rfl) ?_
        refine rg (Wf := fun z => Wf z m) (mm := h) hx hb hT hu7 hown hK hP (hLh m) q0 0 (hplq hbq0) ((hpl haq0 hbq0) _ _) rfl (Nat.le_of_ble_eq_true rfl) (Fx0.T tw_2_162) rfl (v := .ref (ad 24)) (congrArg (fun z => some (Value.ref z)) hcq0) dX7_kindsToLoad_53 ?_
        refine rgN (Wf := fun z => Wf h z) (mm := m) hx hb hT hu6 hown hK hP (hL h) 24 7 (Nat.le_of_ble_eq_true rfl) (ms24 _ _) rfl (Nat.le_of_ble_eq_true rfl) tw_2_101 rfl (v := .ref (ad 35)) rfl dX7_kindsToLoad_56 ?_
        refine lv_iload hx hb dX7_kindsToLoad_59 (lv_at hl 5 rfl) ?_
        obtain ⟨h7, hD⟩ := gd_el hD
        have hq8a : 4 ≤ 4 + x4.toNatClampNeg := Nat.le_add_right _ _
        have hq8b : 4 + x4.toNatClampNeg < 14 := Nat.add_lt_add_left (Nat.lt_of_not_le (fun z => h7 (Or.inr z))) 4
        refine raald (Wf := fun z => Wf h z) (mm := m) hx hb hK hP (hL h) 35 5 (Nat.le_of_ble_eq_true rfl) (ms35 _ _) rfl h7 rfl dX7_kindsToLoad_61 ?_
        refine rgN (Wf := fun z => Wf h z) (mm := m) hx hb hT hu2 hown hK hP (hL h) (4 + x4.toNatClampNeg) 2 (Nat.lt_of_lt_of_le hq8b (Nat.le_of_ble_eq_true rfl)) ((mfe hq8a hq8b) _ _) rfl (Nat.le_of_ble_eq_true rfl) tw_2_6 rfl (v := .int (gi m (4 + x4.toNatClampNeg) 2)) rfl dX7_kindsToLoad_62 ?_
        refine lv_if_le (tgt := 89) hx hb dX7_kindsToLoad_65 (by decide) (fun c => ?_) (fun c => ?_)
        · have hD := ifp hD c
          obtain ⟨v9, ev9, hD⟩ := bnd_el hD
          refine lv_iinc (v := v9) (lv' := [(4, .int v9), (6, .int v5), (5, .int v3), (0, .ref (adh q0)), (1, .long x1), (3, .int x3)]) hx hb dX7_kindsToLoad_89 hl (k := 5) rfl (by rw [ev9]; rfl) (by decide) rfl (fun ls hl => ?_)
          refine lv_goto (tgt := 5) hx hb dX7_kindsToLoad_92 (by decide) ?_
          exact ih _ _ _ _ _ _ _ hD haq0 hbq0 hcq0 hP hS (lv_sub hl [3, 4, 5, 0] rfl)
        · have hD := ifn hD c
          refine lv_iload hx hb dX7_kindsToLoad_68 (lv_at hl 0 rfl) ?_
          refine lv_aload_n hx hb dX7_kindsToLoad_70 rfl (lv_at hl 2 rfl) ?_
          refine rg (Wf := fun z => Wf z m) (mm := h) hx hb hT hu7 hown hK hP (hLh m) q0 0 (hplq hbq0) ((hpl haq0 hbq0) _ _) rfl (Nat.le_of_ble_eq_true rfl) (Fx0.T tw_2_162) rfl (v := .ref (ad 24)) (congrArg (fun z => some (Value.ref z)) hcq0) dX7_kindsToLoad_71 ?_
          refine lv_iload hx hb dX7_kindsToLoad_74 (lv_at hl 1 rfl) ?_
          obtain ⟨v10, z11, hD⟩ := b1_el hD
          refine rcVN (Wf := fun z => Wf h z) (mm := m) (As := [.int v3]) (rest := [.int v5]) Fx0 (c_X6_heldOf l (Wf := fun z0_ => Wf h z0_) (hL h) (fun a0_ b0_ => hAd h h a0_ b0_) m v3 z11) hP (hD1 _ (hAd _ _ _ _)) hS (hA1 _ _ (hAd _ _ _ _) hS.1) (hL h) (Nat.le_of_ble_eq_true rfl) (ms24 _ _) rfl tw_3_52 tw_6_53 tw_3_51 ts_9 tw_1_2 yd_X6_heldOf ⟨(Nat.le_of_ble_eq_true rfl), (Nat.le_of_ble_eq_true rfl)⟩ rfl hl.1 rfl (Nat.le_of_ble_eq_true rfl) dX7_kindsToLoad_76 (fun H locs hP hS => ?_)
          refine lv_icmp_le (tgt := 89) hx hb dX7_kindsToLoad_79 (by decide) (fun c => ?_) (fun c => ?_)
          · have hD := ifp hD c
            obtain ⟨v12, ev12, hD⟩ := bnd_el hD
            refine lv_iinc (v := v12) (lv' := [(4, .int v12), (6, .int v5), (5, .int v3), (0, .ref (adh q0)), (1, .long x1), (3, .int x3)]) hx hb dX7_kindsToLoad_89 hl (k := 5) rfl (by rw [ev12]; rfl) (by decide) rfl (fun ls hl => ?_)
            refine lv_goto (tgt := 5) hx hb dX7_kindsToLoad_92 (by decide) ?_
            exact ih _ _ _ _ _ _ _ hD haq0 hbq0 hcq0 hP hS (lv_sub hl [3, 4, 5, 0] rfl)
          · have hD := ifn hD c
            refine lv_iload_n hx hb dX7_kindsToLoad_82 rfl (lv_at hl 4 rfl) ?_
            refine lv_iconst (v := (1 : Int32)) hx hb dX7_kindsToLoad_83 (by decide) ?_
            refine lv_iload hx hb dX7_kindsToLoad_84 (lv_at hl 1 rfl) ?_
            refine lv_ishl hx hb dX7_kindsToLoad_86 ?_
            refine lv_ior hx hb dX7_kindsToLoad_87 ?_
            obtain ⟨v13, ev13, hD⟩ := bnd_el hD
            refine lv_nmi ev13 ?_
            refine lv_istore_n (lv' := [(3, .int v13), (6, .int v5), (5, .int v3), (0, .ref (adh q0)), (1, .long x1), (4, .int x4)]) hx hb dX7_kindsToLoad_88 rfl hl (by decide) rfl (fun ls hl => ?_)
            obtain ⟨v14, ev14, hD⟩ := bnd_el hD
            refine lv_iinc (v := v14) (lv' := [(4, .int v14), (3, .int v13), (6, .int v5), (5, .int v3), (0, .ref (adh q0)), (1, .long x1)]) hx hb dX7_kindsToLoad_89 hl (k := 5) rfl (by rw [ev14]; rfl) (by decide) rfl (fun ls hl => ?_)
            refine lv_goto (tgt := 5) hx hb dX7_kindsToLoad_92 (by decide) ?_
            exact ih _ _ _ _ _ _ _ hD haq0 hbq0 hcq0 hP hS (lv_sub hl [4, 5, 1, 0] rfl)
  refine lv_iconst (v := (0 : Int32)) hx hb dX7_kindsToLoad_0 (by decide) ?_
  refine lv_istore_n (lv' := [(3, .int (0 : Int32)), (0, .ref (adh q0)), (1, .long x1)]) hx hb dX7_kindsToLoad_1 rfl hl (by decide) rfl (fun ls hl => ?_)
  refine lv_iconst (v := (0 : Int32)) hx hb dX7_kindsToLoad_2 (by decide) ?_
  refine lv_istore (lv' := [(4, .int (0 : Int32)), (3, .int (0 : Int32)), (0, .ref (adh q0)), (1, .long x1)]) hx hb dX7_kindsToLoad_3 hl (by decide) rfl (fun ls hl => ?_)
  exact c_5 FU _ _ _ _ _ _ _ hD haq0 hbq0 hcq0 hP hS (lv_sub hl [2, 3, 1, 0] rfl)

noncomputable def D_X7_findLoadOf_108 (m : MM) : Nat → Nat → Int32 → Int32 → Int32 → MM → Option (Int32 × MM)
  | 0, _, _, _, _, _ => none
  | n + 1, q0, x1, x2, x5, h => if (gi m 28 0) ≤ x5 then (some ((0 : Int32), h)) else (if (x2 &&& ((1 : Int32) <<< (x5 &&& 31))) = 0 then (bnd (x5 + (1 : Int32)) (fun v3 => D_X7_findLoadOf_108 m n q0 x1 x2 v3 h)) else (if x5 < 0 ∨ 8 ≤ x5.toNatClampNeg then none else (if (gi m 29 x5.toNatClampNeg) < 0 ∨ 6 ≤ (gi m 29 x5.toNatClampNeg).toNatClampNeg then none else (if (gi m 27 ((gi m 29 x5.toNatClampNeg).toNatClampNeg)) ≤ 0 then (bnd (x5 + (1 : Int32)) (fun v6 => D_X7_findLoadOf_108 m n q0 x1 x2 v6 h)) else (if x5 < 0 ∨ 8 ≤ x5.toNatClampNeg then none else (b2 (D_X7_decide q0 (1 : Int32) x1 (gi m 29 x5.toNatClampNeg) h m) (fun v8 m9 => if v8 = 0 ∨ v8 = 1 then some (v8, m9) else none)))))))
noncomputable def D_X7_findLoadOf_25 (m : MM) : Nat → Nat → Int32 → Int32 → Nat → Int32 → MM → Option (Int32 × MM)
  | 0, _, _, _, _, _, _ => none
  | n + 1, q0, x1, x2, q3, x5, h => if (gi m 28 0) ≤ x5 then (D_X7_findLoadOf_108 m FU q0 x1 x2 (0 : Int32) h) else (if (x2 &&& ((1 : Int32) <<< (x5 &&& 31))) = 0 then (bnd (x5 + (1 : Int32)) (fun v12 => D_X7_findLoadOf_25 m n q0 x1 x2 q3 v12 h)) else (if x5 < 0 ∨ 8 ≤ x5.toNatClampNeg then none else (if (gi m 29 x5.toNatClampNeg) = (gi m q3 0) then (b1 (D_X6_isWorn q3 m) (fun v15 => if v15 = 0 then (b1 (D_X6_nearestWith x5 m) (fun v17 => b2 (D_X7_decide q0 (2 : Int32) x1 v17 h m) (fun v19 m20 => if v19 = 0 ∨ v19 = 1 then some (v19, m20) else none))) else (b2 (D_X7_decide q0 (6 : Int32) x1 (0 : Int32) h m) (fun v23 m24 => if v23 = 0 ∨ v23 = 1 then some (v23, m24) else none)))) else (bnd (x5 + (1 : Int32)) (fun v14 => D_X7_findLoadOf_25 m n q0 x1 x2 q3 v14 h)))))
noncomputable def D_X7_findLoadOf (q0 : Nat) (x1 : Int32) (x2 : Int32) (h : MM) (m : MM) : Option (Int32 × MM) := if x1 < 0 ∨ 4 ≤ x1.toNatClampNeg then none else (D_X7_findLoadOf_25 m FU q0 x1 x2 x1.toNatClampNeg (0 : Int32) h)
set_option maxHeartbeats 4000000 in
set_option maxRecDepth 100000 in
theorem c_X7_findLoadOf (l : Launch) {D : va_G} {cs : Nat → ClassId} {adh ad ma : Nat → Nat} {Wf : MM → MM → va_W} (hLh : ∀ m : MM, Ln 8 adh (hsh cs adh ma) (fun z => Wf z m)) (hL : ∀ h : MM, Ln 51 ad (msh cs ad) (fun z => Wf h z)) (hAd : ∀ a0_ b0_ a1_ b1_ : MM, (Wf a0_ a1_).map (fun q => q.1) = (Wf b0_ b1_).map (fun q => q.1)) (h : MM) (m : MM) (q0 : Nat) (haq0 : 1 ≤ q0) (hbq0 : q0 < 3) (hcq0 : ma q0 = ad 24) (x1 : Int32) (x2 : Int32) {rr : Int32} {h' : MM} (hD : D_X7_findLoadOf q0 x1 x2 h m = some (rr, h')) : Ct l yX7_findLoadOf cX7_findLoadOf 6 (some .boolean) 2 49 D cs [.ref (adh q0), .int x1, .int x2] (Wf h m) (Wf h' m) (some (.int rr)) := by
  refine Ct.ofW (by decide) (Nat.le_of_ble_eq_true rfl) (hAd _ _ _ _) ?_
  intro p e s m0 below meth c A Q ls args hx hb hr hml hlocks hown hts hK hP hD1 hSS hS hA1 hl hret
  have hT : ∀ w ∈ TBL, w.before args s = true := fun w h => hts w (List.mem_cons_of_mem _ h)
  have Fx0 : Fx p l m0 c cX7_findLoadOf 6 s args yX7_findLoadOf cX7_findLoadOf 6 (some .boolean) D cs A := ⟨hx, hb, hml, hown, hts, hK, hSS⟩
  have hown : s.vm.findClass RX7 = some m0.cls := hown
  have hl : lv_has ls 6 [(0, .ref (adh q0)), (1, .int x1), (2, .int x2)] := hl
  unfold D_X7_findLoadOf at hD
  have c_108 : ∀ (n : Nat), ∀ (q0 : Nat) (x1 : Int32) (x2 : Int32) (x5 : Int32) (h : MM) (H : Heap) (locs : List Loc) (ls : Array Slot), D_X7_findLoadOf_108 m n q0 x1 x2 x5 h = some (rr, h') → 1 ≤ q0 → q0 < 3 → ma q0 = ad 24 → va_P D vwCl (Wf h m) H → va_S A s.heap H locs → lv_has ls 6 [(0, .ref (adh q0)), (1, .int x1), (2, .int x2), (4, .ref (ad 29)), (5, .int x5)] → W p l e ({ frames := 2, cells := 0, slots := 0, locals := 49 } : Room) s m0 args below meth c H locs 0 0 Q (F0 m0 108 ls []) := by
    intro n
    induction n with
    | zero =>
      intro q0 x1 x2 x5 h H locs ls hD haq0 hbq0 hcq0 hP hS hl
      exact nn_el hD
    | succ n ih =>
      intro q0 x1 x2 x5 h H locs ls hD haq0 hbq0 hcq0 hP hS hl
      rw [D_X7_findLoadOf_108] at hD
      refine lv_iload hx hb dX7_findLoadOf_108 (lv_at hl 4 rfl) ?_
      refine lv_aload_n hx hb dX7_findLoadOf_110 rfl (lv_at hl 0 rfl) ?_
      refine rg (Wf := fun z => Wf z m) (mm := h) hx hb hT hu7 hown hK hP (hLh m) q0 0 (hplq hbq0) ((hpl haq0 hbq0) _ _) rfl (Nat.le_of_ble_eq_true rfl) (Fx0.T tw_2_162) rfl (v := .ref (ad 24)) (congrArg (fun z => some (Value.ref z)) hcq0) dX7_findLoadOf_111 ?_
      refine rgN (Wf := fun z => Wf h z) (mm := m) hx hb hT hu6 hown hK hP (hL h) 24 5 (Nat.le_of_ble_eq_true rfl) (ms24 _ _) rfl (Nat.le_of_ble_eq_true rfl) tw_2_93 rfl (v := .ref (ad 28)) rfl dX7_findLoadOf_114 ?_
      refine rgN (Wf := fun z => Wf h z) (mm := m) hx hb hT hu5 hown hK hP (hL h) 28 0 (Nat.le_of_ble_eq_true rfl) (ms28 _ _) rfl (Nat.le_of_ble_eq_true rfl) tw_1_53 rfl (v := .int (gi m 28 0)) rfl dX7_findLoadOf_117 ?_
      refine lv_icmp_ge (tgt := 166) hx hb dX7_findLoadOf_120 (by decide) (fun c => ?_) (fun c => ?_)
      · have hD := ifp hD c
        refine lv_iconst (v := (0 : Int32)) hx hb dX7_findLoadOf_166 (by decide) ?_
        cases hD
        exact hret _ _ _ hP hS (fun Qc hq => W.zret hx hb hr rfl hq hS.2.2 dX7_findLoadOf_167 hlocks)
      · have hD := ifn hD c
        refine lv_iload_n hx hb dX7_findLoadOf_123 rfl (lv_at hl 2 rfl) ?_
        refine lv_iconst (v := (1 : Int32)) hx hb dX7_findLoadOf_124 (by decide) ?_
        refine lv_iload hx hb dX7_findLoadOf_125 (lv_at hl 4 rfl) ?_
        refine lv_ishl hx hb dX7_findLoadOf_127 ?_
        refine lv_iand hx hb dX7_findLoadOf_128 ?_
        refine lv_if_eq (tgt := 160) hx hb dX7_findLoadOf_129 (by decide) (fun c => ?_) (fun c => ?_)
        · have hD := ifp hD c
          obtain ⟨v3, ev3, hD⟩ := bnd_el hD
          refine lv_iinc (v := v3) (lv' := [(5, .int v3), (0, .ref (adh q0)), (1, .int x1), (2, .int x2), (4, .ref (ad 29))]) hx hb dX7_findLoadOf_160 hl (k := 4) rfl (by rw [ev3]; rfl) (by decide) rfl (fun ls hl => ?_)
          refine lv_goto (tgt := 108) hx hb dX7_findLoadOf_163 (by decide) ?_
          exact ih _ _ _ _ _ _ _ _ hD haq0 hbq0 hcq0 hP hS (lv_sub hl [1, 2, 3, 4, 0] rfl)
        · have hD := ifn hD c
          refine lv_aload_n hx hb dX7_findLoadOf_132 rfl (lv_at hl 0 rfl) ?_
          refine rg (Wf := fun z => Wf z m) (mm := h) hx hb hT hu7 hown hK hP (hLh m) q0 0 (hplq hbq0) ((hpl haq0 hbq0) _ _) rfl (Nat.le_of_ble_eq_true rfl) (Fx0.T tw_2_162) rfl (v := .ref (ad 24)) (congrArg (fun z => some (Value.ref z)) hcq0) dX7_findLoadOf_133 ?_
          refine rgN (Wf := fun z => Wf h z) (mm := m) hx hb hT hu6 hown hK hP (hL h) 24 4 (Nat.le_of_ble_eq_true rfl) (ms24 _ _) rfl (Nat.le_of_ble_eq_true rfl) tw_2_89 rfl (v := .ref (ad 27)) rfl dX7_findLoadOf_136 ?_
          refine lv_aload hx hb dX7_findLoadOf_139 (lv_at hl 3 rfl) ?_
          refine lv_iload hx hb dX7_findLoadOf_141 (lv_at hl 4 rfl) ?_
          obtain ⟨h4, hD⟩ := gd_el hD
          refine riald (Wf := fun z => Wf h z) (mm := m) hx hb hK hP (hL h) 29 (Nat.le_of_ble_eq_true rfl) (ms29 _ _) h4 rfl dX7_findLoadOf_143 ?_
          obtain ⟨h5, hD⟩ := gd_el hD
          refine riald (Wf := fun z => Wf h z) (mm := m) hx hb hK hP (hL h) 27 (Nat.le_of_ble_eq_true rfl) (ms27 _ _) h5 rfl dX7_findLoadOf_144 ?_
          refine lv_if_le (tgt := 160) hx hb dX7_findLoadOf_145 (by decide) (fun c => ?_) (fun c => ?_)
          · have hD := ifp hD c
            obtain ⟨v6, ev6, hD⟩ := bnd_el hD
            refine lv_iinc (v := v6) (lv' := [(5, .int v6), (0, .ref (adh q0)), (1, .int x1), (2, .int x2), (4, .ref (ad 29))]) hx hb dX7_findLoadOf_160 hl (k := 4) rfl (by rw [ev6]; rfl) (by decide) rfl (fun ls hl => ?_)
            refine lv_goto (tgt := 108) hx hb dX7_findLoadOf_163 (by decide) ?_
            exact ih _ _ _ _ _ _ _ _ hD haq0 hbq0 hcq0 hP hS (lv_sub hl [1, 2, 3, 4, 0] rfl)
          · have hD := ifn hD c
            refine lv_aload_n hx hb dX7_findLoadOf_148 rfl (lv_at hl 0 rfl) ?_
            refine lv_iconst (v := (1 : Int32)) hx hb dX7_findLoadOf_149 (by decide) ?_
            refine lv_iload_n hx hb dX7_findLoadOf_150 rfl (lv_at hl 1 rfl) ?_
            refine lv_aload hx hb dX7_findLoadOf_151 (lv_at hl 3 rfl) ?_
            refine lv_iload hx hb dX7_findLoadOf_153 (lv_at hl 4 rfl) ?_
            obtain ⟨h7, hD⟩ := gd_el hD
            refine riald (Wf := fun z => Wf h z) (mm := m) hx hb hK hP (hL h) 29 (Nat.le_of_ble_eq_true rfl) (ms29 _ _) h7 rfl dX7_findLoadOf_155 ?_
            obtain ⟨v8, m9, z10, hD⟩ := b2_el hD
            refine rcV (Wf := fun z => Wf z m) (mm := h) (As := [.int (1 : Int32), .int x1, .int (gi m 29 x5.toNatClampNeg)]) (rest := []) Fx0 (c_X7_decide l (Wf := fun z0_ z1_ => Wf z0_ z1_) (fun z1_ => hLh z1_) (fun z0_ => hL z0_) (fun a0_ b0_ a1_ b1_ => hAd a0_ b0_ a1_ b1_) h m q0 haq0 hbq0 hcq0 (1 : Int32) x1 (gi m 29 x5.toNatClampNeg) z10) hP (hD1 _ (hAd _ _ _ _)) hS (hA1 _ _ (hAd _ _ _ _) hS.1) (hLh m) (hplq hbq0) ((hpl haq0 hbq0) _ _) rfl tw_6_62 tw_6_59 tw_6_61 ts_69 tw_1_10 yd_X7_decide ⟨(Nat.le_of_ble_eq_true rfl), (Nat.le_of_ble_eq_true rfl)⟩ rfl hl.1 rfl (Nat.le_of_ble_eq_true rfl) dX7_findLoadOf_156 (fun H locs hP hS => ?_)
            obtain ⟨h11, hD⟩ := gb_el hD
            cases hD
            exact hret _ _ _ hP hS (fun Qc hq => W.zret hx hb hr (nbz h11).1 hq hS.2.2 dX7_findLoadOf_159 hlocks)
  have c_25 : ∀ (n : Nat), ∀ (q0 : Nat) (x1 : Int32) (x2 : Int32) (q3 : Nat) (x5 : Int32) (h : MM) (H : Heap) (locs : List Loc) (ls : Array Slot), D_X7_findLoadOf_25 m n q0 x1 x2 q3 x5 h = some (rr, h') → 1 ≤ q0 → q0 < 3 → ma q0 = ad 24 → q3 < 4 → va_P D vwCl (Wf h m) H → va_S A s.heap H locs → lv_has ls 6 [(0, .ref (adh q0)), (1, .int x1), (2, .int x2), (3, .ref (ad q3)), (4, .ref (ad 29)), (5, .int x5)] → W p l e ({ frames := 2, cells := 0, slots := 0, locals := 49 } : Room) s m0 args below meth c H locs 0 0 Q (F0 m0 25 ls []) := by
    intro n
    induction n with
    | zero =>
      intro q0 x1 x2 q3 x5 h H locs ls hD haq0 hbq0 hcq0 haq3 hP hS hl
      exact nn_el hD
    | succ n ih =>
      intro q0 x1 x2 q3 x5 h H locs ls hD haq0 hbq0 hcq0 haq3 hP hS hl
      rw [D_X7_findLoadOf_25] at hD
      refine lv_iload hx hb dX7_findLoadOf_25 (lv_at hl 5 rfl) ?_
      refine lv_aload_n hx hb dX7_findLoadOf_27 rfl (lv_at hl 0 rfl) ?_
      refine rg (Wf := fun z => Wf z m) (mm := h) hx hb hT hu7 hown hK hP (hLh m) q0 0 (hplq hbq0) ((hpl haq0 hbq0) _ _) rfl (Nat.le_of_ble_eq_true rfl) (Fx0.T tw_2_162) rfl (v := .ref (ad 24)) (congrArg (fun z => some (Value.ref z)) hcq0) dX7_findLoadOf_28 ?_
      refine rgN (Wf := fun z => Wf h z) (mm := m) hx hb hT hu6 hown hK hP (hL h) 24 5 (Nat.le_of_ble_eq_true rfl) (ms24 _ _) rfl (Nat.le_of_ble_eq_true rfl) tw_2_93 rfl (v := .ref (ad 28)) rfl dX7_findLoadOf_31 ?_
      refine rgN (Wf := fun z => Wf h z) (mm := m) hx hb hT hu5 hown hK hP (hL h) 28 0 (Nat.le_of_ble_eq_true rfl) (ms28 _ _) rfl (Nat.le_of_ble_eq_true rfl) tw_1_53 rfl (v := .int (gi m 28 0)) rfl dX7_findLoadOf_34 ?_
      refine lv_icmp_ge (tgt := 105) hx hb dX7_findLoadOf_37 (by decide) (fun c => ?_) (fun c => ?_)
      · have hD := ifp hD c
        refine lv_iconst (v := (0 : Int32)) hx hb dX7_findLoadOf_105 (by decide) ?_
        refine lv_istore (lv' := [(5, .int (0 : Int32)), (0, .ref (adh q0)), (1, .int x1), (2, .int x2), (3, .ref (ad q3)), (4, .ref (ad 29))]) hx hb dX7_findLoadOf_106 hl (by decide) rfl (fun ls hl => ?_)
        exact c_108 FU _ _ _ _ _ _ _ _ hD haq0 hbq0 hcq0 hP hS (lv_sub hl [1, 2, 3, 5, 0] rfl)
      · have hD := ifn hD c
        refine lv_iload_n hx hb dX7_findLoadOf_40 rfl (lv_at hl 2 rfl) ?_
        refine lv_iconst (v := (1 : Int32)) hx hb dX7_findLoadOf_41 (by decide) ?_
        refine lv_iload hx hb dX7_findLoadOf_42 (lv_at hl 5 rfl) ?_
        refine lv_ishl hx hb dX7_findLoadOf_44 ?_
        refine lv_iand hx hb dX7_findLoadOf_45 ?_
        refine lv_if_eq (tgt := 99) hx hb dX7_findLoadOf_46 (by decide) (fun c => ?_) (fun c => ?_)
        · have hD := ifp hD c
          obtain ⟨v12, ev12, hD⟩ := bnd_el hD
          refine lv_iinc (v := v12) (lv' := [(5, .int v12), (0, .ref (adh q0)), (1, .int x1), (2, .int x2), (3, .ref (ad q3)), (4, .ref (ad 29))]) hx hb dX7_findLoadOf_99 hl (k := 5) rfl (by rw [ev12]; rfl) (by decide) rfl (fun ls hl => ?_)
          refine lv_goto (tgt := 25) hx hb dX7_findLoadOf_102 (by decide) ?_
          exact ih _ _ _ _ _ _ _ _ _ hD haq0 hbq0 hcq0 haq3 hP hS (lv_sub hl [1, 2, 3, 4, 5, 0] rfl)
        · have hD := ifn hD c
          refine lv_aload hx hb dX7_findLoadOf_49 (lv_at hl 4 rfl) ?_
          refine lv_iload hx hb dX7_findLoadOf_51 (lv_at hl 5 rfl) ?_
          obtain ⟨h13, hD⟩ := gd_el hD
          refine riald (Wf := fun z => Wf h z) (mm := m) hx hb hK hP (hL h) 29 (Nat.le_of_ble_eq_true rfl) (ms29 _ _) h13 rfl dX7_findLoadOf_53 ?_
          refine lv_aload_n hx hb dX7_findLoadOf_54 rfl (lv_at hl 3 rfl) ?_
          refine rgN (Wf := fun z => Wf h z) (mm := m) hx hb hT hu8 hown hK hP (hL h) q3 0 (Nat.lt_of_lt_of_le haq3 (Nat.le_of_ble_eq_true rfl)) ((msp haq3) _ _) rfl (Nat.le_of_ble_eq_true rfl) tw_1_194 rfl (v := .int (gi m q3 0)) rfl dX7_findLoadOf_55 ?_
          refine lv_icmp_ne (tgt := 99) hx hb dX7_findLoadOf_58 (by decide) (fun c => ?_) (fun c => ?_)
          · have hD := ifn hD c
            obtain ⟨v14, ev14, hD⟩ := bnd_el hD
            refine lv_iinc (v := v14) (lv' := [(5, .int v14), (0, .ref (adh q0)), (1, .int x1), (2, .int x2), (3, .ref (ad q3)), (4, .ref (ad 29))]) hx hb dX7_findLoadOf_99 hl (k := 5) rfl (by rw [ev14]; rfl) (by decide) rfl (fun ls hl => ?_)
            refine lv_goto (tgt := 25) hx hb dX7_findLoadOf_102 (by decide) ?_
            exact ih _ _ _ _ _ _ _ _ _ hD haq0 hbq0 hcq0 haq3 hP hS (lv_sub hl [1, 2, 3, 4, 5, 0] rfl)
          · have hD := ifp hD c
            refine lv_aload_n hx hb dX7_findLoadOf_61 rfl (lv_at hl 0 rfl) ?_
            refine rg (Wf := fun z => Wf z m) (mm := h) hx hb hT hu7 hown hK hP (hLh m) q0 0 (hplq hbq0) ((hpl haq0 hbq0) _ _) rfl (Nat.le_of_ble_eq_true rfl) (Fx0.T tw_2_162) rfl (v := .ref (ad 24)) (congrArg (fun z => some (Value.ref z)) hcq0) dX7_findLoadOf_62 ?_
            refine lv_aload_n hx hb dX7_findLoadOf_65 rfl (lv_at hl 3 rfl) ?_
            obtain ⟨v15, z16, hD⟩ := b1_el hD
            refine rcVN (Wf := fun z => Wf h z) (mm := m) (As := [.ref (ad q3)]) (rest := []) Fx0 (c_X6_isWorn l (Wf := fun z0_ => Wf h z0_) (hL h) (fun a0_ b0_ => hAd h h a0_ b0_) m q3 haq3 z16) hP (hD1 _ (hAd _ _ _ _)) hS (hA1 _ _ (hAd _ _ _ _) hS.1) (hL h) (Nat.le_of_ble_eq_true rfl) (ms24 _ _) rfl tw_5_138 tw_6_58 tw_5_137 ts_47 tw_1_2 yd_X6_isWorn ⟨(Nat.le_of_ble_eq_true rfl), (Nat.le_of_ble_eq_true rfl)⟩ rfl hl.1 rfl (Nat.le_of_ble_eq_true rfl) dX7_findLoadOf_66 (fun H locs hP hS => ?_)
            refine lv_if_eq (tgt := 83) hx hb dX7_findLoadOf_69 (by decide) (fun c => ?_) (fun c => ?_)
            · have hD := ifp hD c
              refine lv_aload_n hx hb dX7_findLoadOf_83 rfl (lv_at hl 0 rfl) ?_
              refine lv_iconst (v := (2 : Int32)) hx hb dX7_findLoadOf_84 (by decide) ?_
              refine lv_iload_n hx hb dX7_findLoadOf_85 rfl (lv_at hl 1 rfl) ?_
              refine lv_aload_n hx hb dX7_findLoadOf_86 rfl (lv_at hl 0 rfl) ?_
              refine rg (Wf := fun z => Wf z m) (mm := h) hx hb hT hu7 hown hK hP (hLh m) q0 0 (hplq hbq0) ((hpl haq0 hbq0) _ _) rfl (Nat.le_of_ble_eq_true rfl) (Fx0.T tw_2_162) rfl (v := .ref (ad 24)) (congrArg (fun z => some (Value.ref z)) hcq0) dX7_findLoadOf_87 ?_
              refine lv_iload hx hb dX7_findLoadOf_90 (lv_at hl 5 rfl) ?_
              obtain ⟨v17, z18, hD⟩ := b1_el hD
              refine rcVN (Wf := fun z => Wf h z) (mm := m) (As := [.int x5]) (rest := [.int x1, .int (2 : Int32), .ref (adh q0)]) Fx0 (c_X6_nearestWith l (Wf := fun z0_ => Wf h z0_) (hL h) (fun a0_ b0_ => hAd h h a0_ b0_) m x5 z18) hP (hD1 _ (hAd _ _ _ _)) hS (hA1 _ _ (hAd _ _ _ _) hS.1) (hL h) (Nat.le_of_ble_eq_true rfl) (ms24 _ _) rfl tw_6_66 tw_6_63 tw_6_65 ts_70 tw_1_2 yd_X6_nearestWith ⟨(Nat.le_of_ble_eq_true rfl), (Nat.le_of_ble_eq_true rfl)⟩ rfl hl.1 rfl (Nat.le_of_ble_eq_true rfl) dX7_findLoadOf_92 (fun H locs hP hS => ?_)
              obtain ⟨v19, m20, z21, hD⟩ := b2_el hD
              refine rcV (Wf := fun z => Wf z m) (mm := h) (As := [.int (2 : Int32), .int x1, .int v17]) (rest := []) Fx0 (c_X7_decide l (Wf := fun z0_ z1_ => Wf z0_ z1_) (fun z1_ => hLh z1_) (fun z0_ => hL z0_) (fun a0_ b0_ a1_ b1_ => hAd a0_ b0_ a1_ b1_) h m q0 haq0 hbq0 hcq0 (2 : Int32) x1 v17 z21) hP (hD1 _ (hAd _ _ _ _)) hS (hA1 _ _ (hAd _ _ _ _) hS.1) (hLh m) (hplq hbq0) ((hpl haq0 hbq0) _ _) rfl tw_6_62 tw_6_59 tw_6_61 ts_69 tw_1_10 yd_X7_decide ⟨(Nat.le_of_ble_eq_true rfl), (Nat.le_of_ble_eq_true rfl)⟩ rfl hl.1 rfl (Nat.le_of_ble_eq_true rfl) dX7_findLoadOf_95 (fun H locs hP hS => ?_)
              obtain ⟨h22, hD⟩ := gb_el hD
              cases hD
              exact hret _ _ _ hP hS (fun Qc hq => W.zret hx hb hr (nbz h22).1 hq hS.2.2 dX7_findLoadOf_98 hlocks)
            · have hD := ifn hD c
              refine lv_aload_n hx hb dX7_findLoadOf_72 rfl (lv_at hl 0 rfl) ?_
              refine lv_bipush (v := (6 : Int32)) hx hb dX7_findLoadOf_73 (by decide) ?_
              refine lv_iload_n hx hb dX7_findLoadOf_75 rfl (lv_at hl 1 rfl) ?_
              refine lv_iconst (v := (0 : Int32)) hx hb dX7_findLoadOf_76 (by decide) ?_
              obtain ⟨v23, m24, z25, hD⟩ := b2_el hD
              refine rcV (Wf := fun z => Wf z m) (mm := h) (As := [.int (6 : Int32), .int x1, .int (0 : Int32)]) (rest := []) Fx0 (c_X7_decide l (Wf := fun z0_ z1_ => Wf z0_ z1_) (fun z1_ => hLh z1_) (fun z0_ => hL z0_) (fun a0_ b0_ a1_ b1_ => hAd a0_ b0_ a1_ b1_) h m q0 haq0 hbq0 hcq0 (6 : Int32) x1 (0 : Int32) z25) hP (hD1 _ (hAd _ _ _ _)) hS (hA1 _ _ (hAd _ _ _ _) hS.1) (hLh m) (hplq hbq0) ((hpl haq0 hbq0) _ _) rfl tw_6_62 tw_6_59 tw_6_61 ts_69 tw_1_10 yd_X7_decide ⟨(Nat.le_of_ble_eq_true rfl), (Nat.le_of_ble_eq_true rfl)⟩ rfl hl.1 rfl (Nat.le_of_ble_eq_true rfl) dX7_findLoadOf_77 (fun H locs hP hS => ?_)
              refine lv_goto (tgt := 98) hx hb dX7_findLoadOf_80 (by decide) ?_
              obtain ⟨h26, hD⟩ := gb_el hD
              cases hD
              exact hret _ _ _ hP hS (fun Qc hq => W.zret hx hb hr (nbz h26).1 hq hS.2.2 dX7_findLoadOf_98 hlocks)
  refine lv_aload_n hx hb dX7_findLoadOf_0 rfl (lv_at hl 0 rfl) ?_
  refine rg (Wf := fun z => Wf z m) (mm := h) hx hb hT hu7 hown hK hP (hLh m) q0 0 (hplq hbq0) ((hpl haq0 hbq0) _ _) rfl (Nat.le_of_ble_eq_true rfl) (Fx0.T tw_2_162) rfl (v := .ref (ad 24)) (congrArg (fun z => some (Value.ref z)) hcq0) dX7_findLoadOf_1 ?_
  refine rgN (Wf := fun z => Wf h z) (mm := m) hx hb hT hu6 hown hK hP (hL h) 24 2 (Nat.le_of_ble_eq_true rfl) (ms24 _ _) rfl (Nat.le_of_ble_eq_true rfl) tw_2_83 rfl (v := .ref (ad 26)) rfl dX7_findLoadOf_4 ?_
  refine lv_iload_n hx hb dX7_findLoadOf_7 rfl (lv_at hl 1 rfl) ?_
  obtain ⟨h1, hD⟩ := gd_el hD
  have hq2 : x1.toNatClampNeg < 4 := Nat.lt_of_not_le (fun z => h1 (Or.inr z))
  refine raald (Wf := fun z => Wf h z) (mm := m) hx hb hK hP (hL h) 26 4 (Nat.le_of_ble_eq_true rfl) (ms26 _ _) rfl h1 rfl dX7_findLoadOf_8 ?_
  refine lv_astore_n (lv' := [(3, .ref (ad x1.toNatClampNeg)), (0, .ref (adh q0)), (1, .int x1), (2, .int x2)]) hx hb dX7_findLoadOf_9 rfl hl (by decide) rfl (fun ls hl => ?_)
  refine lv_aload_n hx hb dX7_findLoadOf_10 rfl (lv_at hl 1 rfl) ?_
  refine rg (Wf := fun z => Wf z m) (mm := h) hx hb hT hu7 hown hK hP (hLh m) q0 0 (hplq hbq0) ((hpl haq0 hbq0) _ _) rfl (Nat.le_of_ble_eq_true rfl) (Fx0.T tw_2_162) rfl (v := .ref (ad 24)) (congrArg (fun z => some (Value.ref z)) hcq0) dX7_findLoadOf_11 ?_
  refine rgN (Wf := fun z => Wf h z) (mm := m) hx hb hT hu6 hown hK hP (hL h) 24 5 (Nat.le_of_ble_eq_true rfl) (ms24 _ _) rfl (Nat.le_of_ble_eq_true rfl) tw_2_93 rfl (v := .ref (ad 28)) rfl dX7_findLoadOf_14 ?_
  refine rgN (Wf := fun z => Wf h z) (mm := m) hx hb hT hu5 hown hK hP (hL h) 28 1 (Nat.le_of_ble_eq_true rfl) (ms28 _ _) rfl (Nat.le_of_ble_eq_true rfl) tw_1_56 rfl (v := .ref (ad 29)) rfl dX7_findLoadOf_17 ?_
  refine lv_astore (lv' := [(4, .ref (ad 29)), (3, .ref (ad x1.toNatClampNeg)), (0, .ref (adh q0)), (1, .int x1), (2, .int x2)]) hx hb dX7_findLoadOf_20 hl (by decide) rfl (fun ls hl => ?_)
  refine lv_iconst (v := (0 : Int32)) hx hb dX7_findLoadOf_22 (by decide) ?_
  refine lv_istore (lv' := [(5, .int (0 : Int32)), (4, .ref (ad 29)), (3, .ref (ad x1.toNatClampNeg)), (0, .ref (adh q0)), (1, .int x1), (2, .int x2)]) hx hb dX7_findLoadOf_23 hl (by decide) rfl (fun ls hl => ?_)
  exact c_25 FU _ _ _ _ _ _ _ _ _ hD haq0 hbq0 hcq0 hq2 hP hS (lv_sub hl [3, 4, 5, 2, 1, 0] rfl)

noncomputable def D_X7_findLoad_9 (m : MM) : Nat → Nat → Int32 → Int32 → MM → Option (Int32 × MM)
  | 0, _, _, _, _ => none
  | n + 1, q0, x3, x4, h => if (gi m 24 1) ≤ x4 then (some ((0 : Int32), h)) else (if x3 = 0 then (some ((0 : Int32), h)) else (if x4 < 0 ∨ 4 ≤ x4.toNatClampNeg then none else (if (gi m x4.toNatClampNeg 1) = (-1 : Int32) then (b2 (D_X7_findLoadOf q0 x4 x3 h m) (fun v6 m7 => if v6 = 0 then (bnd (x4 + (1 : Int32)) (fun v9 => D_X7_findLoad_9 m n q0 x3 v9 m7)) else (some ((1 : Int32), m7)))) else (bnd (x4 + (1 : Int32)) (fun v5 => D_X7_findLoad_9 m n q0 x3 v5 h)))))
noncomputable def D_X7_findLoad (q0 : Nat) (x1 : Int64) (h : MM) (m : MM) : Option (Int32 × MM) := b1 (D_X7_kindsToLoad q0 x1 h m) (fun v1 => D_X7_findLoad_9 m FU q0 v1 (0 : Int32) h)
set_option maxHeartbeats 4000000 in
set_option maxRecDepth 100000 in
theorem c_X7_findLoad (l : Launch) {D : va_G} {cs : Nat → ClassId} {adh ad ma : Nat → Nat} {Wf : MM → MM → va_W} (hLh : ∀ m : MM, Ln 8 adh (hsh cs adh ma) (fun z => Wf z m)) (hL : ∀ h : MM, Ln 51 ad (msh cs ad) (fun z => Wf h z)) (hAd : ∀ a0_ b0_ a1_ b1_ : MM, (Wf a0_ a1_).map (fun q => q.1) = (Wf b0_ b1_).map (fun q => q.1)) (h : MM) (m : MM) (q0 : Nat) (haq0 : 1 ≤ q0) (hbq0 : q0 < 3) (hcq0 : ma q0 = ad 24) (x1 : Int64) {rr : Int32} {h' : MM} (hD : D_X7_findLoad q0 x1 h m = some (rr, h')) : Ct l yX7_findLoad cX7_findLoad 5 (some .boolean) 3 74 D cs [.ref (adh q0), .long x1] (Wf h m) (Wf h' m) (some (.int rr)) := by
  refine Ct.ofW (by decide) (Nat.le_of_ble_eq_true rfl) (hAd _ _ _ _) ?_
  intro p e s m0 below meth c A Q ls args hx hb hr hml hlocks hown hts hK hP hD1 hSS hS hA1 hl hret
  have hT : ∀ w ∈ TBL, w.before args s = true := fun w h => hts w (List.mem_cons_of_mem _ h)
  have Fx0 : Fx p l m0 c cX7_findLoad 5 s args yX7_findLoad cX7_findLoad 5 (some .boolean) D cs A := ⟨hx, hb, hml, hown, hts, hK, hSS⟩
  have hown : s.vm.findClass RX7 = some m0.cls := hown
  have hl : lv_has ls 5 [(0, .ref (adh q0)), (1, .long x1)] := hl
  unfold D_X7_findLoad at hD
  have c_9 : ∀ (n : Nat), ∀ (q0 : Nat) (x3 : Int32) (x4 : Int32) (h : MM) (H : Heap) (locs : List Loc) (ls : Array Slot), D_X7_findLoad_9 m n q0 x3 x4 h = some (rr, h') → 1 ≤ q0 → q0 < 3 → ma q0 = ad 24 → va_P D vwCl (Wf h m) H → va_S A s.heap H locs → lv_has ls 5 [(0, .ref (adh q0)), (3, .int x3), (4, .int x4)] → W p l e ({ frames := 3, cells := 0, slots := 0, locals := 74 } : Room) s m0 args below meth c H locs 0 0 Q (F0 m0 9 ls []) := by
    intro n
    induction n with
    | zero =>
      intro q0 x3 x4 h H locs ls hD haq0 hbq0 hcq0 hP hS hl
      exact nn_el hD
    | succ n ih =>
      intro q0 x3 x4 h H locs ls hD haq0 hbq0 hcq0 hP hS hl
      rw [D_X7_findLoad_9] at hD
      refine lv_iload hx hb dX7_findLoad_9 (lv_at hl 2 rfl) ?_
      refine lv_aload_n hx hb dX7_findLoad_11 rfl (lv_at hl 0 rfl) ?_
      refine rg (Wf := fun z => Wf z m) (mm := h) hx hb hT hu7 hown hK hP (hLh m) q0 0 (hplq hbq0) ((hpl haq0 hbq0) _ _) rfl (Nat.le_of_ble_eq_true rfl) (Fx0.T tw_2_162) rfl (v := .ref (ad 24)) (congrArg (fun z => some (Value.ref z)) hcq0) dX7_findLoad_12 ?_
      refine rgN (Wf := fun z => Wf h z) (mm := m) hx hb hT hu6 hown hK hP (hL h) 24 1 (Nat.le_of_ble_eq_true rfl) (ms24 _ _) rfl (Nat.le_of_ble_eq_true rfl) tw_2_79 rfl (v := .int (gi m 24 1)) rfl dX7_findLoad_15 ?_
      refine lv_icmp_ge (tgt := 60) hx hb dX7_findLoad_18 (by decide) (fun c => ?_) (fun c => ?_)
      · have hD := ifp hD c
        refine lv_iconst (v := (0 : Int32)) hx hb dX7_findLoad_60 (by decide) ?_
        cases hD
        exact hret _ _ _ hP hS (fun Qc hq => W.zret hx hb hr rfl hq hS.2.2 dX7_findLoad_61 hlocks)
      · have hD := ifn hD c
        refine lv_iload_n hx hb dX7_findLoad_21 rfl (lv_at hl 1 rfl) ?_
        refine lv_if_eq (tgt := 60) hx hb dX7_findLoad_22 (by decide) (fun c => ?_) (fun c => ?_)
        · have hD := ifp hD c
          refine lv_iconst (v := (0 : Int32)) hx hb dX7_findLoad_60 (by decide) ?_
          cases hD
          exact hret _ _ _ hP hS (fun Qc hq => W.zret hx hb hr rfl hq hS.2.2 dX7_findLoad_61 hlocks)
        · have hD := ifn hD c
          refine lv_aload_n hx hb dX7_findLoad_25 rfl (lv_at hl 0 rfl) ?_
          refine rg (Wf := fun z => Wf z m) (mm := h) hx hb hT hu7 hown hK hP (hLh m) q0 0 (hplq hbq0) ((hpl haq0 hbq0) _ _) rfl (Nat.le_of_ble_eq_true rfl) (Fx0.T tw_2_162) rfl (v := .ref (ad 24)) (congrArg (fun z => some (Value.ref z)) hcq0) dX7_findLoad_26 ?_
          refine rgN (Wf := fun z => Wf h z) (mm := m) hx hb hT hu6 hown hK hP (hL h) 24 2 (Nat.le_of_ble_eq_true rfl) (ms24 _ _) rfl (Nat.le_of_ble_eq_true rfl) tw_2_83 rfl (v := .ref (ad 26)) rfl dX7_findLoad_29 ?_
          refine lv_iload hx hb dX7_findLoad_32 (lv_at hl 2 rfl) ?_
          obtain ⟨h3, hD⟩ := gd_el hD
          have hq4 : x4.toNatClampNeg < 4 := Nat.lt_of_not_le (fun z => h3 (Or.inr z))
          refine raald (Wf := fun z => Wf h z) (mm := m) hx hb hK hP (hL h) 26 4 (Nat.le_of_ble_eq_true rfl) (ms26 _ _) rfl h3 rfl dX7_findLoad_34 ?_
          refine rgN (Wf := fun z => Wf h z) (mm := m) hx hb hT hu8 hown hK hP (hL h) x4.toNatClampNeg 1 (Nat.lt_of_lt_of_le hq4 (Nat.le_of_ble_eq_true rfl)) ((msp hq4) _ _) rfl (Nat.le_of_ble_eq_true rfl) tw_1_198 rfl (v := .int (gi m x4.toNatClampNeg 1)) rfl dX7_findLoad_35 ?_
          refine lv_iconst (v := (-1 : Int32)) hx hb dX7_findLoad_38 (by decide) ?_
          refine lv_icmp_ne (tgt := 54) hx hb dX7_findLoad_39 (by decide) (fun c => ?_) (fun c => ?_)
          · have hD := ifn hD c
            obtain ⟨v5, ev5, hD⟩ := bnd_el hD
            refine lv_iinc (v := v5) (lv' := [(4, .int v5), (0, .ref (adh q0)), (3, .int x3)]) hx hb dX7_findLoad_54 hl (k := 2) rfl (by rw [ev5]; rfl) (by decide) rfl (fun ls hl => ?_)
            refine lv_goto (tgt := 9) hx hb dX7_findLoad_57 (by decide) ?_
            exact ih _ _ _ _ _ _ _ hD haq0 hbq0 hcq0 hP hS (lv_sub hl [1, 2, 0] rfl)
          · have hD := ifp hD c
            refine lv_aload_n hx hb dX7_findLoad_42 rfl (lv_at hl 0 rfl) ?_
            refine lv_iload hx hb dX7_findLoad_43 (lv_at hl 2 rfl) ?_
            refine lv_iload_n hx hb dX7_findLoad_45 rfl (lv_at hl 1 rfl) ?_
            obtain ⟨v6, m7, z8, hD⟩ := b2_el hD
            refine rcV (Wf := fun z => Wf z m) (mm := h) (As := [.int x4, .int x3]) (rest := []) Fx0 (c_X7_findLoadOf l (Wf := fun z0_ z1_ => Wf z0_ z1_) (fun z1_ => hLh z1_) (fun z0_ => hL z0_) (fun a0_ b0_ a1_ b1_ => hAd a0_ b0_ a1_ b1_) h m q0 haq0 hbq0 hcq0 x4 x3 z8) hP (hD1 _ (hAd _ _ _ _)) hS (hA1 _ _ (hAd _ _ _ _) hS.1) (hLh m) (hplq hbq0) ((hpl haq0 hbq0) _ _) rfl tw_6_57 tw_6_54 tw_6_56 ts_68 tw_1_10 yd_X7_findLoadOf ⟨(Nat.le_of_ble_eq_true rfl), (Nat.le_of_ble_eq_true rfl)⟩ rfl hl.1 rfl (Nat.le_of_ble_eq_true rfl) dX7_findLoad_46 (fun H locs hP hS => ?_)
            refine lv_if_eq (tgt := 54) hx hb dX7_findLoad_49 (by decide) (fun c => ?_) (fun c => ?_)
            · have hD := ifp hD c
              obtain ⟨v9, ev9, hD⟩ := bnd_el hD
              refine lv_iinc (v := v9) (lv' := [(4, .int v9), (0, .ref (adh q0)), (3, .int x3)]) hx hb dX7_findLoad_54 hl (k := 2) rfl (by rw [ev9]; rfl) (by decide) rfl (fun ls hl => ?_)
              refine lv_goto (tgt := 9) hx hb dX7_findLoad_57 (by decide) ?_
              exact ih _ _ _ _ _ _ _ hD haq0 hbq0 hcq0 hP hS (lv_sub hl [1, 2, 0] rfl)
            · have hD := ifn hD c
              refine lv_iconst (v := (1 : Int32)) hx hb dX7_findLoad_52 (by decide) ?_
              cases hD
              exact hret _ _ _ hP hS (fun Qc hq => W.zret hx hb hr rfl hq hS.2.2 dX7_findLoad_53 hlocks)
  refine lv_aload_n hx hb dX7_findLoad_0 rfl (lv_at hl 0 rfl) ?_
  refine lv_lload_n hx hb dX7_findLoad_1 rfl (lv_at hl 1 rfl) ?_
  obtain ⟨v1, z2, hD⟩ := b1_el hD
  refine rcV (Wf := fun z => Wf z m) (mm := h) (As := [.long x1]) (rest := []) Fx0 (c_X7_kindsToLoad l (Wf := fun z0_ z1_ => Wf z0_ z1_) (fun z1_ => hLh z1_) (fun z0_ => hL z0_) (fun a0_ b0_ a1_ b1_ => hAd a0_ b0_ a1_ b1_) h m q0 haq0 hbq0 hcq0 x1 z2) hP (hD1 _ (hAd _ _ _ _)) hS (hA1 _ _ (hAd _ _ _ _) hS.1) (hLh m) (hplq hbq0) ((hpl haq0 hbq0) _ _) rfl tw_6_51 tw_6_48 tw_6_50 ts_67 tw_1_10 yd_X7_kindsToLoad ⟨(Nat.le_of_ble_eq_true rfl), (Nat.le_of_ble_eq_true rfl)⟩ rfl hl.1 rfl (Nat.le_of_ble_eq_true rfl) dX7_findLoad_2 (fun H locs hP hS => ?_)
  refine lv_istore_n (lv' := [(3, .int v1), (0, .ref (adh q0)), (1, .long x1)]) hx hb dX7_findLoad_5 rfl hl (by decide) rfl (fun ls hl => ?_)
  refine lv_iconst (v := (0 : Int32)) hx hb dX7_findLoad_6 (by decide) ?_
  refine lv_istore (lv' := [(4, .int (0 : Int32)), (3, .int v1), (0, .ref (adh q0)), (1, .long x1)]) hx hb dX7_findLoad_7 hl (by decide) rfl (fun ls hl => ?_)
  exact c_9 FU _ _ _ _ _ _ _ hD haq0 hbq0 hcq0 hP hS (lv_sub hl [2, 1, 0] rfl)

noncomputable def D_X7_findLook_2 (m : MM) : Nat → Nat → Int32 → MM → Option (Int32 × MM)
  | 0, _, _, _ => none
  | n + 1, q0, x1, h => if (gi m 24 1) ≤ x1 then (some ((0 : Int32), h)) else (if x1 < 0 ∨ 4 ≤ x1.toNatClampNeg then none else (if (gi m x1.toNatClampNeg 1) = (-1 : Int32) then (bnd (x1 + (1 : Int32)) (fun v3 => D_X7_findLook_2 m n q0 v3 h)) else (if (gi m x1.toNatClampNeg 2) = 0 then (b2 (D_X7_decide q0 (3 : Int32) x1 (0 : Int32) h m) (fun v5 m6 => if v5 = 0 ∨ v5 = 1 then some (v5, m6) else none)) else (bnd (x1 + (1 : Int32)) (fun v4 => D_X7_findLook_2 m n q0 v4 h)))))
noncomputable def D_X7_findLook (q0 : Nat) (h : MM) (m : MM) : Option (Int32 × MM) := D_X7_findLook_2 m FU q0 (0 : Int32) h
set_option maxHeartbeats 4000000 in
set_option maxRecDepth 100000 in
theorem c_X7_findLook (l : Launch) {D : va_G} {cs : Nat → ClassId} {adh ad ma : Nat → Nat} {Wf : MM → MM → va_W} (hLh : ∀ m : MM, Ln 8 adh (hsh cs adh ma) (fun z => Wf z m)) (hL : ∀ h : MM, Ln 51 ad (msh cs ad) (fun z => Wf h z)) (hAd : ∀ a0_ b0_ a1_ b1_ : MM, (Wf a0_ a1_).map (fun q => q.1) = (Wf b0_ b1_).map (fun q => q.1)) (h : MM) (m : MM) (q0 : Nat) (haq0 : 1 ≤ q0) (hbq0 : q0 < 3) (hcq0 : ma q0 = ad 24) {rr : Int32} {h' : MM} (hD : D_X7_findLook q0 h m = some (rr, h')) : Ct l yX7_findLook cX7_findLook 3 (some .boolean) 1 23 D cs [.ref (adh q0)] (Wf h m) (Wf h' m) (some (.int rr)) := by
  refine Ct.ofW (by decide) (Nat.le_of_ble_eq_true rfl) (hAd _ _ _ _) ?_
  intro p e s m0 below meth c A Q ls args hx hb hr hml hlocks hown hts hK hP hD1 hSS hS hA1 hl hret
  have hT : ∀ w ∈ TBL, w.before args s = true := fun w h => hts w (List.mem_cons_of_mem _ h)
  have Fx0 : Fx p l m0 c cX7_findLook 3 s args yX7_findLook cX7_findLook 3 (some .boolean) D cs A := ⟨hx, hb, hml, hown, hts, hK, hSS⟩
  have hown : s.vm.findClass RX7 = some m0.cls := hown
  have hl : lv_has ls 3 [(0, .ref (adh q0))] := hl
  unfold D_X7_findLook at hD
  have c_2 : ∀ (n : Nat), ∀ (q0 : Nat) (x1 : Int32) (h : MM) (H : Heap) (locs : List Loc) (ls : Array Slot), D_X7_findLook_2 m n q0 x1 h = some (rr, h') → 1 ≤ q0 → q0 < 3 → ma q0 = ad 24 → va_P D vwCl (Wf h m) H → va_S A s.heap H locs → lv_has ls 3 [(0, .ref (adh q0)), (1, .int x1)] → W p l e ({ frames := 1, cells := 0, slots := 0, locals := 23 } : Room) s m0 args below meth c H locs 0 0 Q (F0 m0 2 ls []) := by
    intro n
    induction n with
    | zero =>
      intro q0 x1 h H locs ls hD haq0 hbq0 hcq0 hP hS hl
      exact nn_el hD
    | succ n ih =>
      intro q0 x1 h H locs ls hD haq0 hbq0 hcq0 hP hS hl
      rw [D_X7_findLook_2] at hD
      refine lv_iload_n hx hb dX7_findLook_2 rfl (lv_at hl 1 rfl) ?_
      refine lv_aload_n hx hb dX7_findLook_3 rfl (lv_at hl 0 rfl) ?_
      refine rg (Wf := fun z => Wf z m) (mm := h) hx hb hT hu7 hown hK hP (hLh m) q0 0 (hplq hbq0) ((hpl haq0 hbq0) _ _) rfl (Nat.le_of_ble_eq_true rfl) (Fx0.T tw_2_162) rfl (v := .ref (ad 24)) (congrArg (fun z => some (Value.ref z)) hcq0) dX7_findLook_4 ?_
      refine rgN (Wf := fun z => Wf h z) (mm := m) hx hb hT hu6 hown hK hP (hL h) 24 1 (Nat.le_of_ble_eq_true rfl) (ms24 _ _) rfl (Nat.le_of_ble_eq_true rfl) tw_2_79 rfl (v := .int (gi m 24 1)) rfl dX7_findLook_7 ?_
      refine lv_icmp_ge (tgt := 52) hx hb dX7_findLook_10 (by decide) (fun c => ?_) (fun c => ?_)
      · have hD := ifp hD c
        refine lv_iconst (v := (0 : Int32)) hx hb dX7_findLook_52 (by decide) ?_
        cases hD
        exact hret _ _ _ hP hS (fun Qc hq => W.zret hx hb hr rfl hq hS.2.2 dX7_findLook_53 hlocks)
      · have hD := ifn hD c
        refine lv_aload_n hx hb dX7_findLook_13 rfl (lv_at hl 0 rfl) ?_
        refine rg (Wf := fun z => Wf z m) (mm := h) hx hb hT hu7 hown hK hP (hLh m) q0 0 (hplq hbq0) ((hpl haq0 hbq0) _ _) rfl (Nat.le_of_ble_eq_true rfl) (Fx0.T tw_2_162) rfl (v := .ref (ad 24)) (congrArg (fun z => some (Value.ref z)) hcq0) dX7_findLook_14 ?_
        refine rgN (Wf := fun z => Wf h z) (mm := m) hx hb hT hu6 hown hK hP (hL h) 24 2 (Nat.le_of_ble_eq_true rfl) (ms24 _ _) rfl (Nat.le_of_ble_eq_true rfl) tw_2_83 rfl (v := .ref (ad 26)) rfl dX7_findLook_17 ?_
        refine lv_iload_n hx hb dX7_findLook_20 rfl (lv_at hl 1 rfl) ?_
        obtain ⟨h1, hD⟩ := gd_el hD
        have hq2 : x1.toNatClampNeg < 4 := Nat.lt_of_not_le (fun z => h1 (Or.inr z))
        refine raald (Wf := fun z => Wf h z) (mm := m) hx hb hK hP (hL h) 26 4 (Nat.le_of_ble_eq_true rfl) (ms26 _ _) rfl h1 rfl dX7_findLook_21 ?_
        refine lv_astore_n (lv' := [(2, .ref (ad x1.toNatClampNeg)), (0, .ref (adh q0)), (1, .int x1)]) hx hb dX7_findLook_22 rfl hl (by decide) rfl (fun ls hl => ?_)
        refine lv_aload_n hx hb dX7_findLook_23 rfl (lv_at hl 0 rfl) ?_
        refine rgN (Wf := fun z => Wf h z) (mm := m) hx hb hT hu8 hown hK hP (hL h) x1.toNatClampNeg 1 (Nat.lt_of_lt_of_le hq2 (Nat.le_of_ble_eq_true rfl)) ((msp hq2) _ _) rfl (Nat.le_of_ble_eq_true rfl) tw_1_198 rfl (v := .int (gi m x1.toNatClampNeg 1)) rfl dX7_findLook_24 ?_
        refine lv_iconst (v := (-1 : Int32)) hx hb dX7_findLook_27 (by decide) ?_
        refine lv_icmp_eq (tgt := 46) hx hb dX7_findLook_28 (by decide) (fun c => ?_) (fun c => ?_)
        · have hD := ifp hD c
          obtain ⟨v3, ev3, hD⟩ := bnd_el hD
          refine lv_iinc (v := v3) (lv' := [(1, .int v3), (2, .ref (ad x1.toNatClampNeg)), (0, .ref (adh q0))]) hx hb dX7_findLook_46 hl (k := 2) rfl (by rw [ev3]; rfl) (by decide) rfl (fun ls hl => ?_)
          refine lv_goto (tgt := 2) hx hb dX7_findLook_49 (by decide) ?_
          exact ih _ _ _ _ _ _ hD haq0 hbq0 hcq0 hP hS (lv_sub hl [2, 0] rfl)
        · have hD := ifn hD c
          refine lv_aload_n hx hb dX7_findLook_31 rfl (lv_at hl 0 rfl) ?_
          refine rgN (Wf := fun z => Wf h z) (mm := m) hx hb hT hu8 hown hK hP (hL h) x1.toNatClampNeg 2 (Nat.lt_of_lt_of_le hq2 (Nat.le_of_ble_eq_true rfl)) ((msp hq2) _ _) rfl (Nat.le_of_ble_eq_true rfl) tw_1_202 rfl (v := .int (gi m x1.toNatClampNeg 2)) rfl dX7_findLook_32 ?_
          refine lv_if_ne (tgt := 46) hx hb dX7_findLook_35 (by decide) (fun c => ?_) (fun c => ?_)
          · have hD := ifn hD c
            obtain ⟨v4, ev4, hD⟩ := bnd_el hD
            refine lv_iinc (v := v4) (lv' := [(1, .int v4), (2, .ref (ad x1.toNatClampNeg)), (0, .ref (adh q0))]) hx hb dX7_findLook_46 hl (k := 2) rfl (by rw [ev4]; rfl) (by decide) rfl (fun ls hl => ?_)
            refine lv_goto (tgt := 2) hx hb dX7_findLook_49 (by decide) ?_
            exact ih _ _ _ _ _ _ hD haq0 hbq0 hcq0 hP hS (lv_sub hl [2, 0] rfl)
          · have hD := ifp hD c
            refine lv_aload_n hx hb dX7_findLook_38 rfl (lv_at hl 1 rfl) ?_
            refine lv_iconst (v := (3 : Int32)) hx hb dX7_findLook_39 (by decide) ?_
            refine lv_iload_n hx hb dX7_findLook_40 rfl (lv_at hl 2 rfl) ?_
            refine lv_iconst (v := (0 : Int32)) hx hb dX7_findLook_41 (by decide) ?_
            obtain ⟨v5, m6, z7, hD⟩ := b2_el hD
            refine rcV (Wf := fun z => Wf z m) (mm := h) (As := [.int (3 : Int32), .int x1, .int (0 : Int32)]) (rest := []) Fx0 (c_X7_decide l (Wf := fun z0_ z1_ => Wf z0_ z1_) (fun z1_ => hLh z1_) (fun z0_ => hL z0_) (fun a0_ b0_ a1_ b1_ => hAd a0_ b0_ a1_ b1_) h m q0 haq0 hbq0 hcq0 (3 : Int32) x1 (0 : Int32) z7) hP (hD1 _ (hAd _ _ _ _)) hS (hA1 _ _ (hAd _ _ _ _) hS.1) (hLh m) (hplq hbq0) ((hpl haq0 hbq0) _ _) rfl tw_6_62 tw_6_59 tw_6_61 ts_69 tw_1_10 yd_X7_decide ⟨(Nat.le_of_ble_eq_true rfl), (Nat.le_of_ble_eq_true rfl)⟩ rfl hl.1 rfl (Nat.le_of_ble_eq_true rfl) dX7_findLook_42 (fun H locs hP hS => ?_)
            obtain ⟨h8, hD⟩ := gb_el hD
            cases hD
            exact hret _ _ _ hP hS (fun Qc hq => W.zret hx hb hr (nbz h8).1 hq hS.2.2 dX7_findLook_45 hlocks)
  refine lv_iconst (v := (0 : Int32)) hx hb dX7_findLook_0 (by decide) ?_
  refine lv_istore_n (lv' := [(1, .int (0 : Int32)), (0, .ref (adh q0))]) hx hb dX7_findLook_1 rfl hl (by decide) rfl (fun ls hl => ?_)
  exact c_2 FU _ _ _ _ _ _ hD haq0 hbq0 hcq0 hP hS (lv_sub hl [1, 0] rfl)

noncomputable def D_X7_nearestSpot_8 (h : MM) (m : MM) : Nat → Nat → Int64 → Int32 → Int32 → Int32 → Option Int32
  | 0, _, _, _, _, _ => none
  | n + 1, q0, x1, x3, x4, x5 => if (gi m 36 0) ≤ x5 then (some (x3)) else (if (x1 &&& ((1 : Int64) <<< (x5.toInt64 &&& 63))) = (0 : Int64) then (bnd (x5 + (1 : Int32)) (fun v1 => D_X7_nearestSpot_8 h m n q0 x1 x3 x4 v1)) else (if x5 < 0 ∨ 40 ≤ x5.toNatClampNeg then none else (if x5 < 0 ∨ 40 ≤ x5.toNatClampNeg then none else (b1 (D_X6_wayTo (gi m 38 x5.toNatClampNeg) (gi m 39 x5.toNatClampNeg) m) (fun v4 => if x3 = (-1 : Int32) then (bnd (x5 + (1 : Int32)) (fun v6 => D_X7_nearestSpot_8 h m n q0 x1 x5 v4 v6)) else (if x4 ≤ v4 then (bnd (x5 + (1 : Int32)) (fun v7 => D_X7_nearestSpot_8 h m n q0 x1 x3 x4 v7)) else (bnd (x5 + (1 : Int32)) (fun v8 => D_X7_nearestSpot_8 h m n q0 x1 x5 v4 v8))))))))
noncomputable def D_X7_nearestSpot (q0 : Nat) (x1 : Int64) (h : MM) (m : MM) : Option Int32 := D_X7_nearestSpot_8 h m FU q0 x1 (-1 : Int32) (0 : Int32) (0 : Int32)
set_option maxHeartbeats 4000000 in
set_option maxRecDepth 100000 in
theorem c_X7_nearestSpot (l : Launch) {D : va_G} {cs : Nat → ClassId} {adh ad ma : Nat → Nat} {Wf : MM → MM → va_W} (hLh : ∀ m : MM, Ln 8 adh (hsh cs adh ma) (fun z => Wf z m)) (hL : ∀ h : MM, Ln 51 ad (msh cs ad) (fun z => Wf h z)) (hAd : ∀ a0_ b0_ a1_ b1_ : MM, (Wf a0_ a1_).map (fun q => q.1) = (Wf b0_ b1_).map (fun q => q.1)) (h : MM) (m : MM) (q0 : Nat) (haq0 : 1 ≤ q0) (hbq0 : q0 < 3) (hcq0 : ma q0 = ad 24) (x1 : Int64) {rr : Int32} (hD : D_X7_nearestSpot q0 x1 h m = some (rr)) : Ct l yX7_nearestSpot cX7_nearestSpot 7 (some .int) 2 48 D cs [.ref (adh q0), .long x1] (Wf h m) (Wf h m) (some (.int rr)) := by
  refine Ct.ofW (by decide) (Nat.le_of_ble_eq_true rfl) rfl ?_
  intro p e s m0 below meth c A Q ls args hx hb hr hml hlocks hown hts hK hP hD1 hSS hS hA1 hl hret
  have hT : ∀ w ∈ TBL, w.before args s = true := fun w h => hts w (List.mem_cons_of_mem _ h)
  have Fx0 : Fx p l m0 c cX7_nearestSpot 7 s args yX7_nearestSpot cX7_nearestSpot 7 (some .int) D cs A := ⟨hx, hb, hml, hown, hts, hK, hSS⟩
  have hown : s.vm.findClass RX7 = some m0.cls := hown
  have hl : lv_has ls 7 [(0, .ref (adh q0)), (1, .long x1)] := hl
  unfold D_X7_nearestSpot at hD
  have c_8 : ∀ (n : Nat), ∀ (q0 : Nat) (x1 : Int64) (x3 : Int32) (x4 : Int32) (x5 : Int32) (H : Heap) (locs : List Loc) (ls : Array Slot), D_X7_nearestSpot_8 h m n q0 x1 x3 x4 x5 = some (rr) → 1 ≤ q0 → q0 < 3 → ma q0 = ad 24 → va_P D vwCl (Wf h m) H → va_S A s.heap H locs → lv_has ls 7 [(0, .ref (adh q0)), (1, .long x1), (3, .int x3), (4, .int x4), (5, .int x5)] → W p l e ({ frames := 2, cells := 0, slots := 0, locals := 48 } : Room) s m0 args below meth c H locs 0 0 Q (F0 m0 8 ls []) := by
    intro n
    induction n with
    | zero =>
      intro q0 x1 x3 x4 x5 H locs ls hD haq0 hbq0 hcq0 hP hS hl
      exact nn_el hD
    | succ n ih =>
      intro q0 x1 x3 x4 x5 H locs ls hD haq0 hbq0 hcq0 hP hS hl
      rw [D_X7_nearestSpot_8] at hD
      refine lv_iload hx hb dX7_nearestSpot_8 (lv_at hl 4 rfl) ?_
      refine lv_aload_n hx hb dX7_nearestSpot_10 rfl (lv_at hl 0 rfl) ?_
      refine rg (Wf := fun z => Wf z m) (mm := h) hx hb hT hu7 hown hK hP (hLh m) q0 0 (hplq hbq0) ((hpl haq0 hbq0) _ _) rfl (Nat.le_of_ble_eq_true rfl) (Fx0.T tw_2_162) rfl (v := .ref (ad 24)) (congrArg (fun z => some (Value.ref z)) hcq0) dX7_nearestSpot_11 ?_
      refine rgN (Wf := fun z => Wf h z) (mm := m) hx hb hT hu6 hown hK hP (hL h) 24 8 (Nat.le_of_ble_eq_true rfl) (ms24 _ _) rfl (Nat.le_of_ble_eq_true rfl) tw_2_104 rfl (v := .ref (ad 36)) rfl dX7_nearestSpot_14 ?_
      refine rgN (Wf := fun z => Wf h z) (mm := m) hx hb hT hu0 hown hK hP (hL h) 36 0 (Nat.le_of_ble_eq_true rfl) (ms36 _ _) rfl (Nat.le_of_ble_eq_true rfl) tw_1_97 rfl (v := .int (gi m 36 0)) rfl dX7_nearestSpot_17 ?_
      refine lv_icmp_ge (tgt := 94) hx hb dX7_nearestSpot_20 (by decide) (fun c => ?_) (fun c => ?_)
      · have hD := ifp hD c
        refine lv_iload_n hx hb dX7_nearestSpot_94 rfl (lv_at hl 2 rfl) ?_
        cases hD
        exact hret _ _ _ hP hS (fun Qc hq => W.iret hx hb hr hq hS.2.2 dX7_nearestSpot_95 hlocks)
      · have hD := ifn hD c
        refine lv_lload_n hx hb dX7_nearestSpot_23 rfl (lv_at hl 1 rfl) ?_
        refine lv_lconst (v := (1 : Int64)) hx hb dX7_nearestSpot_24 (by decide) ?_
        refine lv_iload hx hb dX7_nearestSpot_25 (lv_at hl 4 rfl) ?_
        refine lv_lshl (v := ((1 : Int64) <<< (x5.toInt64 &&& 63))) hx hb dX7_nearestSpot_27 rfl ?_
        refine lv_land hx hb dX7_nearestSpot_28 ?_
        refine lv_lconst (v := (0 : Int64)) hx hb dX7_nearestSpot_29 (by decide) ?_
        refine rlc_eq (tgt := 88) hx hb dX7_nearestSpot_30 dX7_nearestSpot_31 (by decide) (fun c => ?_) (fun c => ?_)
        · have hD := ifp hD c
          obtain ⟨v1, ev1, hD⟩ := bnd_el hD
          refine lv_iinc (v := v1) (lv' := [(5, .int v1), (0, .ref (adh q0)), (1, .long x1), (3, .int x3), (4, .int x4)]) hx hb dX7_nearestSpot_88 hl (k := 4) rfl (by rw [ev1]; rfl) (by decide) rfl (fun ls hl => ?_)
          refine lv_goto (tgt := 8) hx hb dX7_nearestSpot_91 (by decide) ?_
          exact ih _ _ _ _ _ _ _ _ hD haq0 hbq0 hcq0 hP hS (lv_sub hl [1, 2, 3, 4, 0] rfl)
        · have hD := ifn hD c
          refine lv_aload_n hx hb dX7_nearestSpot_34 rfl (lv_at hl 0 rfl) ?_
          refine rg (Wf := fun z => Wf z m) (mm := h) hx hb hT hu7 hown hK hP (hLh m) q0 0 (hplq hbq0) ((hpl haq0 hbq0) _ _) rfl (Nat.le_of_ble_eq_true rfl) (Fx0.T tw_2_162) rfl (v := .ref (ad 24)) (congrArg (fun z => some (Value.ref z)) hcq0) dX7_nearestSpot_35 ?_
          refine lv_aload_n hx hb dX7_nearestSpot_38 rfl (lv_at hl 0 rfl) ?_
          refine rg (Wf := fun z => Wf z m) (mm := h) hx hb hT hu7 hown hK hP (hLh m) q0 0 (hplq hbq0) ((hpl haq0 hbq0) _ _) rfl (Nat.le_of_ble_eq_true rfl) (Fx0.T tw_2_162) rfl (v := .ref (ad 24)) (congrArg (fun z => some (Value.ref z)) hcq0) dX7_nearestSpot_39 ?_
          refine rgN (Wf := fun z => Wf h z) (mm := m) hx hb hT hu6 hown hK hP (hL h) 24 8 (Nat.le_of_ble_eq_true rfl) (ms24 _ _) rfl (Nat.le_of_ble_eq_true rfl) tw_2_104 rfl (v := .ref (ad 36)) rfl dX7_nearestSpot_42 ?_
          refine rgN (Wf := fun z => Wf h z) (mm := m) hx hb hT hu0 hown hK hP (hL h) 36 2 (Nat.le_of_ble_eq_true rfl) (ms36 _ _) rfl (Nat.le_of_ble_eq_true rfl) tw_1_102 rfl (v := .ref (ad 38)) rfl dX7_nearestSpot_45 ?_
          refine lv_iload hx hb dX7_nearestSpot_48 (lv_at hl 4 rfl) ?_
          obtain ⟨h2, hD⟩ := gd_el hD
          refine riald (Wf := fun z => Wf h z) (mm := m) hx hb hK hP (hL h) 38 (Nat.le_of_ble_eq_true rfl) (ms38 _ _) h2 rfl dX7_nearestSpot_50 ?_
          refine lv_aload_n hx hb dX7_nearestSpot_51 rfl (lv_at hl 0 rfl) ?_
          refine rg (Wf := fun z => Wf z m) (mm := h) hx hb hT hu7 hown hK hP (hLh m) q0 0 (hplq hbq0) ((hpl haq0 hbq0) _ _) rfl (Nat.le_of_ble_eq_true rfl) (Fx0.T tw_2_162) rfl (v := .ref (ad 24)) (congrArg (fun z => some (Value.ref z)) hcq0) dX7_nearestSpot_52 ?_
          refine rgN (Wf := fun z => Wf h z) (mm := m) hx hb hT hu6 hown hK hP (hL h) 24 8 (Nat.le_of_ble_eq_true rfl) (ms24 _ _) rfl (Nat.le_of_ble_eq_true rfl) tw_2_104 rfl (v := .ref (ad 36)) rfl dX7_nearestSpot_55 ?_
          refine rgN (Wf := fun z => Wf h z) (mm := m) hx hb hT hu0 hown hK hP (hL h) 36 3 (Nat.le_of_ble_eq_true rfl) (ms36 _ _) rfl (Nat.le_of_ble_eq_true rfl) tw_1_105 rfl (v := .ref (ad 39)) rfl dX7_nearestSpot_58 ?_
          refine lv_iload hx hb dX7_nearestSpot_61 (lv_at hl 4 rfl) ?_
          obtain ⟨h3, hD⟩ := gd_el hD
          refine riald (Wf := fun z => Wf h z) (mm := m) hx hb hK hP (hL h) 39 (Nat.le_of_ble_eq_true rfl) (ms39 _ _) h3 rfl dX7_nearestSpot_63 ?_
          obtain ⟨v4, z5, hD⟩ := b1_el hD
          refine rcVN (Wf := fun z => Wf h z) (mm := m) (As := [.int (gi m 38 x5.toNatClampNeg), .int (gi m 39 x5.toNatClampNeg)]) (rest := []) Fx0 (c_X6_wayTo l (Wf := fun z0_ => Wf h z0_) (hL h) (fun a0_ b0_ => hAd h h a0_ b0_) m (gi m 38 x5.toNatClampNeg) (gi m 39 x5.toNatClampNeg) z5) hP (hD1 _ (hAd _ _ _ _)) hS (hA1 _ _ (hAd _ _ _ _) hS.1) (hL h) (Nat.le_of_ble_eq_true rfl) (ms24 _ _) rfl tw_5_128 tw_6_79 tw_5_127 ts_45 tw_1_2 yd_X6_wayTo ⟨(Nat.le_of_ble_eq_true rfl), (Nat.le_of_ble_eq_true rfl)⟩ rfl hl.1 rfl (Nat.le_of_ble_eq_true rfl) dX7_nearestSpot_64 (fun H locs hP hS => ?_)
          refine lv_istore (lv' := [(6, .int v4), (0, .ref (adh q0)), (1, .long x1), (3, .int x3), (4, .int x4), (5, .int x5)]) hx hb dX7_nearestSpot_67 hl (by decide) rfl (fun ls hl => ?_)
          refine lv_iload_n hx hb dX7_nearestSpot_69 rfl (lv_at hl 3 rfl) ?_
          refine lv_iconst (v := (-1 : Int32)) hx hb dX7_nearestSpot_70 (by decide) ?_
          refine lv_icmp_eq (tgt := 81) hx hb dX7_nearestSpot_71 (by decide) (fun c => ?_) (fun c => ?_)
          · have hD := ifp hD c
            refine lv_iload hx hb dX7_nearestSpot_81 (lv_at hl 5 rfl) ?_
            refine lv_istore_n (lv' := [(3, .int x5), (6, .int v4), (0, .ref (adh q0)), (1, .long x1), (4, .int x4), (5, .int x5)]) hx hb dX7_nearestSpot_83 rfl hl (by decide) rfl (fun ls hl => ?_)
            refine lv_iload hx hb dX7_nearestSpot_84 (lv_at hl 1 rfl) ?_
            refine lv_istore (lv' := [(4, .int v4), (3, .int x5), (6, .int v4), (0, .ref (adh q0)), (1, .long x1), (5, .int x5)]) hx hb dX7_nearestSpot_86 hl (by decide) rfl (fun ls hl => ?_)
            obtain ⟨v6, ev6, hD⟩ := bnd_el hD
            refine lv_iinc (v := v6) (lv' := [(5, .int v6), (4, .int v4), (3, .int x5), (6, .int v4), (0, .ref (adh q0)), (1, .long x1)]) hx hb dX7_nearestSpot_88 hl (k := 5) rfl (by rw [ev6]; rfl) (by decide) rfl (fun ls hl => ?_)
            refine lv_goto (tgt := 8) hx hb dX7_nearestSpot_91 (by decide) ?_
            exact ih _ _ _ _ _ _ _ _ hD haq0 hbq0 hcq0 hP hS (lv_sub hl [4, 5, 2, 1, 0] rfl)
          · have hD := ifn hD c
            refine lv_iload hx hb dX7_nearestSpot_74 (lv_at hl 0 rfl) ?_
            refine lv_iload hx hb dX7_nearestSpot_76 (lv_at hl 4 rfl) ?_
            refine lv_icmp_ge (tgt := 88) hx hb dX7_nearestSpot_78 (by decide) (fun c => ?_) (fun c => ?_)
            · have hD := ifp hD c
              obtain ⟨v7, ev7, hD⟩ := bnd_el hD
              refine lv_iinc (v := v7) (lv' := [(5, .int v7), (6, .int v4), (0, .ref (adh q0)), (1, .long x1), (3, .int x3), (4, .int x4)]) hx hb dX7_nearestSpot_88 hl (k := 5) rfl (by rw [ev7]; rfl) (by decide) rfl (fun ls hl => ?_)
              refine lv_goto (tgt := 8) hx hb dX7_nearestSpot_91 (by decide) ?_
              exact ih _ _ _ _ _ _ _ _ hD haq0 hbq0 hcq0 hP hS (lv_sub hl [2, 3, 4, 5, 0] rfl)
            · have hD := ifn hD c
              refine lv_iload hx hb dX7_nearestSpot_81 (lv_at hl 5 rfl) ?_
              refine lv_istore_n (lv' := [(3, .int x5), (6, .int v4), (0, .ref (adh q0)), (1, .long x1), (4, .int x4), (5, .int x5)]) hx hb dX7_nearestSpot_83 rfl hl (by decide) rfl (fun ls hl => ?_)
              refine lv_iload hx hb dX7_nearestSpot_84 (lv_at hl 1 rfl) ?_
              refine lv_istore (lv' := [(4, .int v4), (3, .int x5), (6, .int v4), (0, .ref (adh q0)), (1, .long x1), (5, .int x5)]) hx hb dX7_nearestSpot_86 hl (by decide) rfl (fun ls hl => ?_)
              obtain ⟨v8, ev8, hD⟩ := bnd_el hD
              refine lv_iinc (v := v8) (lv' := [(5, .int v8), (4, .int v4), (3, .int x5), (6, .int v4), (0, .ref (adh q0)), (1, .long x1)]) hx hb dX7_nearestSpot_88 hl (k := 5) rfl (by rw [ev8]; rfl) (by decide) rfl (fun ls hl => ?_)
              refine lv_goto (tgt := 8) hx hb dX7_nearestSpot_91 (by decide) ?_
              exact ih _ _ _ _ _ _ _ _ hD haq0 hbq0 hcq0 hP hS (lv_sub hl [4, 5, 2, 1, 0] rfl)
  refine lv_iconst (v := (-1 : Int32)) hx hb dX7_nearestSpot_0 (by decide) ?_
  refine lv_istore_n (lv' := [(3, .int (-1 : Int32)), (0, .ref (adh q0)), (1, .long x1)]) hx hb dX7_nearestSpot_1 rfl hl (by decide) rfl (fun ls hl => ?_)
  refine lv_iconst (v := (0 : Int32)) hx hb dX7_nearestSpot_2 (by decide) ?_
  refine lv_istore (lv' := [(4, .int (0 : Int32)), (3, .int (-1 : Int32)), (0, .ref (adh q0)), (1, .long x1)]) hx hb dX7_nearestSpot_3 hl (by decide) rfl (fun ls hl => ?_)
  refine lv_iconst (v := (0 : Int32)) hx hb dX7_nearestSpot_5 (by decide) ?_
  refine lv_istore (lv' := [(5, .int (0 : Int32)), (4, .int (0 : Int32)), (3, .int (-1 : Int32)), (0, .ref (adh q0)), (1, .long x1)]) hx hb dX7_nearestSpot_6 hl (by decide) rfl (fun ls hl => ?_)
  exact c_8 FU _ _ _ _ _ _ _ _ hD haq0 hbq0 hcq0 hP hS (lv_sub hl [3, 4, 2, 1, 0] rfl)

noncomputable def D_X7_findPlace_2 (m : MM) : Nat → Nat → Int64 → Int32 → MM → Option (Int32 × MM)
  | 0, _, _, _, _ => none
  | n + 1, q0, x1, x3, h => if (gi m 24 1) ≤ x3 then (some ((0 : Int32), h)) else (if x3 < 0 ∨ 4 ≤ x3.toNatClampNeg then none else (bnd ((gi m x3.toNatClampNeg 1)) (fun v3 => if v3 = (-1 : Int32) then (bnd (x3 + (1 : Int32)) (fun v4 => D_X7_findPlace_2 m n q0 x1 v4 h)) else (if v3 < 0 ∨ 8 ≤ v3.toNatClampNeg then none else (b1 (D_X7_nearestSpot q0 (x1 &&& (gl m 42 v3.toNatClampNeg)) h m) (fun v6 => if v6 = (-1 : Int32) then (b2 (D_X7_decide q0 (5 : Int32) x3 (0 : Int32) h m) (fun v12 m13 => if v12 = 0 ∨ v12 = 1 then some (v12, m13) else none)) else (b2 (D_X7_decide q0 (4 : Int32) x3 v6 h m) (fun v8 m9 => if v8 = 0 ∨ v8 = 1 then some (v8, m9) else none))))))))
noncomputable def D_X7_findPlace (q0 : Nat) (x1 : Int64) (h : MM) (m : MM) : Option (Int32 × MM) := D_X7_findPlace_2 m FU q0 x1 (0 : Int32) h
set_option maxHeartbeats 4000000 in
set_option maxRecDepth 100000 in
theorem c_X7_findPlace (l : Launch) {D : va_G} {cs : Nat → ClassId} {adh ad ma : Nat → Nat} {Wf : MM → MM → va_W} (hLh : ∀ m : MM, Ln 8 adh (hsh cs adh ma) (fun z => Wf z m)) (hL : ∀ h : MM, Ln 51 ad (msh cs ad) (fun z => Wf h z)) (hAd : ∀ a0_ b0_ a1_ b1_ : MM, (Wf a0_ a1_).map (fun q => q.1) = (Wf b0_ b1_).map (fun q => q.1)) (h : MM) (m : MM) (q0 : Nat) (haq0 : 1 ≤ q0) (hbq0 : q0 < 3) (hcq0 : ma q0 = ad 24) (x1 : Int64) {rr : Int32} {h' : MM} (hD : D_X7_findPlace q0 x1 h m = some (rr, h')) : Ct l yX7_findPlace cX7_findPlace 6 (some .boolean) 3 74 D cs [.ref (adh q0), .long x1] (Wf h m) (Wf h' m) (some (.int rr)) := by
  refine Ct.ofW (by decide) (Nat.le_of_ble_eq_true rfl) (hAd _ _ _ _) ?_
  intro p e s m0 below meth c A Q ls args hx hb hr hml hlocks hown hts hK hP hD1 hSS hS hA1 hl hret
  have hT : ∀ w ∈ TBL, w.before args s = true := fun w h => hts w (List.mem_cons_of_mem _ h)
  have Fx0 : Fx p l m0 c cX7_findPlace 6 s args yX7_findPlace cX7_findPlace 6 (some .boolean) D cs A := ⟨hx, hb, hml, hown, hts, hK, hSS⟩
  have hown : s.vm.findClass RX7 = some m0.cls := hown
  have hl : lv_has ls 6 [(0, .ref (adh q0)), (1, .long x1)] := hl
  unfold D_X7_findPlace at hD
  have c_2 : ∀ (n : Nat), ∀ (q0 : Nat) (x1 : Int64) (x3 : Int32) (h : MM) (H : Heap) (locs : List Loc) (ls : Array Slot), D_X7_findPlace_2 m n q0 x1 x3 h = some (rr, h') → 1 ≤ q0 → q0 < 3 → ma q0 = ad 24 → va_P D vwCl (Wf h m) H → va_S A s.heap H locs → lv_has ls 6 [(0, .ref (adh q0)), (1, .long x1), (3, .int x3)] → W p l e ({ frames := 3, cells := 0, slots := 0, locals := 74 } : Room) s m0 args below meth c H locs 0 0 Q (F0 m0 2 ls []) := by
    intro n
    induction n with
    | zero =>
      intro q0 x1 x3 h H locs ls hD haq0 hbq0 hcq0 hP hS hl
      exact nn_el hD
    | succ n ih =>
      intro q0 x1 x3 h H locs ls hD haq0 hbq0 hcq0 hP hS hl
      rw [D_X7_findPlace_2] at hD
      refine lv_iload_n hx hb dX7_findPlace_2 rfl (lv_at hl 2 rfl) ?_
      refine lv_aload_n hx hb dX7_findPlace_3 rfl (lv_at hl 0 rfl) ?_
      refine rg (Wf := fun z => Wf z m) (mm := h) hx hb hT hu7 hown hK hP (hLh m) q0 0 (hplq hbq0) ((hpl haq0 hbq0) _ _) rfl (Nat.le_of_ble_eq_true rfl) (Fx0.T tw_2_162) rfl (v := .ref (ad 24)) (congrArg (fun z => some (Value.ref z)) hcq0) dX7_findPlace_4 ?_
      refine rgN (Wf := fun z => Wf h z) (mm := m) hx hb hT hu6 hown hK hP (hL h) 24 1 (Nat.le_of_ble_eq_true rfl) (ms24 _ _) rfl (Nat.le_of_ble_eq_true rfl) tw_2_79 rfl (v := .int (gi m 24 1)) rfl dX7_findPlace_7 ?_
      refine lv_icmp_ge (tgt := 85) hx hb dX7_findPlace_10 (by decide) (fun c => ?_) (fun c => ?_)
      · have hD := ifp hD c
        refine lv_iconst (v := (0 : Int32)) hx hb dX7_findPlace_85 (by decide) ?_
        cases hD
        exact hret _ _ _ hP hS (fun Qc hq => W.zret hx hb hr rfl hq hS.2.2 dX7_findPlace_86 hlocks)
      · have hD := ifn hD c
        refine lv_aload_n hx hb dX7_findPlace_13 rfl (lv_at hl 0 rfl) ?_
        refine rg (Wf := fun z => Wf z m) (mm := h) hx hb hT hu7 hown hK hP (hLh m) q0 0 (hplq hbq0) ((hpl haq0 hbq0) _ _) rfl (Nat.le_of_ble_eq_true rfl) (Fx0.T tw_2_162) rfl (v := .ref (ad 24)) (congrArg (fun z => some (Value.ref z)) hcq0) dX7_findPlace_14 ?_
        refine rgN (Wf := fun z => Wf h z) (mm := m) hx hb hT hu6 hown hK hP (hL h) 24 2 (Nat.le_of_ble_eq_true rfl) (ms24 _ _) rfl (Nat.le_of_ble_eq_true rfl) tw_2_83 rfl (v := .ref (ad 26)) rfl dX7_findPlace_17 ?_
        refine lv_iload_n hx hb dX7_findPlace_20 rfl (lv_at hl 2 rfl) ?_
        obtain ⟨h1, hD⟩ := gd_el hD
        have hq2 : x3.toNatClampNeg < 4 := Nat.lt_of_not_le (fun z => h1 (Or.inr z))
        refine raald (Wf := fun z => Wf h z) (mm := m) hx hb hK hP (hL h) 26 4 (Nat.le_of_ble_eq_true rfl) (ms26 _ _) rfl h1 rfl dX7_findPlace_21 ?_
        refine rgN (Wf := fun z => Wf h z) (mm := m) hx hb hT hu8 hown hK hP (hL h) x3.toNatClampNeg 1 (Nat.lt_of_lt_of_le hq2 (Nat.le_of_ble_eq_true rfl)) ((msp hq2) _ _) rfl (Nat.le_of_ble_eq_true rfl) tw_1_198 rfl (v := .int (gi m x3.toNatClampNeg 1)) rfl dX7_findPlace_22 ?_
        obtain ⟨v3, ev3, hD⟩ := bnd_el hD
        refine lv_nmi ev3 ?_
        refine lv_istore (lv' := [(4, .int v3), (0, .ref (adh q0)), (1, .long x1), (3, .int x3)]) hx hb dX7_findPlace_25 hl (by decide) rfl (fun ls hl => ?_)
        refine lv_iload hx hb dX7_findPlace_27 (lv_at hl 0 rfl) ?_
        refine lv_iconst (v := (-1 : Int32)) hx hb dX7_findPlace_29 (by decide) ?_
        refine lv_icmp_eq (tgt := 79) hx hb dX7_findPlace_30 (by decide) (fun c => ?_) (fun c => ?_)
        · have hD := ifp hD c
          obtain ⟨v4, ev4, hD⟩ := bnd_el hD
          refine lv_iinc (v := v4) (lv' := [(3, .int v4), (4, .int v3), (0, .ref (adh q0)), (1, .long x1)]) hx hb dX7_findPlace_79 hl (k := 3) rfl (by rw [ev4]; rfl) (by decide) rfl (fun ls hl => ?_)
          refine lv_goto (tgt := 2) hx hb dX7_findPlace_82 (by decide) ?_
          exact ih _ _ _ _ _ _ _ hD haq0 hbq0 hcq0 hP hS (lv_sub hl [2, 3, 0] rfl)
        · have hD := ifn hD c
          refine lv_aload_n hx hb dX7_findPlace_33 rfl (lv_at hl 1 rfl) ?_
          refine lv_lload_n hx hb dX7_findPlace_34 rfl (lv_at hl 2 rfl) ?_
          refine lv_aload_n hx hb dX7_findPlace_35 rfl (lv_at hl 1 rfl) ?_
          refine rg (Wf := fun z => Wf z m) (mm := h) hx hb hT hu7 hown hK hP (hLh m) q0 0 (hplq hbq0) ((hpl haq0 hbq0) _ _) rfl (Nat.le_of_ble_eq_true rfl) (Fx0.T tw_2_162) rfl (v := .ref (ad 24)) (congrArg (fun z => some (Value.ref z)) hcq0) dX7_findPlace_36 ?_
          refine rgN (Wf := fun z => Wf h z) (mm := m) hx hb hT hu6 hown hK hP (hL h) 24 8 (Nat.le_of_ble_eq_true rfl) (ms24 _ _) rfl (Nat.le_of_ble_eq_true rfl) tw_2_104 rfl (v := .ref (ad 36)) rfl dX7_findPlace_39 ?_
          refine rgN (Wf := fun z => Wf h z) (mm := m) hx hb hT hu0 hown hK hP (hL h) 36 6 (Nat.le_of_ble_eq_true rfl) (ms36 _ _) rfl (Nat.le_of_ble_eq_true rfl) tw_1_110 rfl (v := .ref (ad 42)) rfl dX7_findPlace_42 ?_
          refine lv_iload hx hb dX7_findPlace_45 (lv_at hl 0 rfl) ?_
          obtain ⟨h5, hD⟩ := gd_el hD
          refine rlald (Wf := fun z => Wf h z) (mm := m) hx hb hK hP (hL h) 42 (Nat.le_of_ble_eq_true rfl) (ms42 _ _) h5 rfl dX7_findPlace_47 ?_
          refine lv_land hx hb dX7_findPlace_48 ?_
          obtain ⟨v6, z7, hD⟩ := b1_el hD
          refine rcV (Wf := fun z => Wf z m) (mm := h) (As := [.long (x1 &&& (gl m 42 v3.toNatClampNeg))]) (rest := []) Fx0 (c_X7_nearestSpot l (Wf := fun z0_ z1_ => Wf z0_ z1_) (fun z1_ => hLh z1_) (fun z0_ => hL z0_) (fun a0_ b0_ a1_ b1_ => hAd a0_ b0_ a1_ b1_) h m q0 haq0 hbq0 hcq0 (x1 &&& (gl m 42 v3.toNatClampNeg)) z7) hP (hD1 _ (hAd _ _ _ _)) hS (hA1 _ _ (hAd _ _ _ _) hS.1) (hLh m) (hplq hbq0) ((hpl haq0 hbq0) _ _) rfl tw_6_78 tw_6_75 tw_6_77 ts_73 tw_1_10 yd_X7_nearestSpot ⟨(Nat.le_of_ble_eq_true rfl), (Nat.le_of_ble_eq_true rfl)⟩ rfl hl.1 rfl (Nat.le_of_ble_eq_true rfl) dX7_findPlace_49 (fun H locs hP hS => ?_)
          refine lv_istore (lv' := [(5, .int v6), (4, .int v3), (0, .ref (adh q0)), (1, .long x1), (3, .int x3)]) hx hb dX7_findPlace_52 hl (by decide) rfl (fun ls hl => ?_)
          refine lv_iload hx hb dX7_findPlace_54 (lv_at hl 0 rfl) ?_
          refine lv_iconst (v := (-1 : Int32)) hx hb dX7_findPlace_56 (by decide) ?_
          refine lv_icmp_ne (tgt := 70) hx hb dX7_findPlace_57 (by decide) (fun c => ?_) (fun c => ?_)
          · have hD := ifn hD c
            refine lv_aload_n hx hb dX7_findPlace_70 rfl (lv_at hl 2 rfl) ?_
            refine lv_iconst (v := (4 : Int32)) hx hb dX7_findPlace_71 (by decide) ?_
            refine lv_iload_n hx hb dX7_findPlace_72 rfl (lv_at hl 4 rfl) ?_
            refine lv_iload hx hb dX7_findPlace_73 (lv_at hl 0 rfl) ?_
            obtain ⟨v8, m9, z10, hD⟩ := b2_el hD
            refine rcV (Wf := fun z => Wf z m) (mm := h) (As := [.int (4 : Int32), .int x3, .int v6]) (rest := []) Fx0 (c_X7_decide l (Wf := fun z0_ z1_ => Wf z0_ z1_) (fun z1_ => hLh z1_) (fun z0_ => hL z0_) (fun a0_ b0_ a1_ b1_ => hAd a0_ b0_ a1_ b1_) h m q0 haq0 hbq0 hcq0 (4 : Int32) x3 v6 z10) hP (hD1 _ (hAd _ _ _ _)) hS (hA1 _ _ (hAd _ _ _ _) hS.1) (hLh m) (hplq hbq0) ((hpl haq0 hbq0) _ _) rfl tw_6_62 tw_6_59 tw_6_61 ts_69 tw_1_10 yd_X7_decide ⟨(Nat.le_of_ble_eq_true rfl), (Nat.le_of_ble_eq_true rfl)⟩ rfl hl.1 rfl (Nat.le_of_ble_eq_true rfl) dX7_findPlace_75 (fun H locs hP hS => ?_)
            obtain ⟨h11, hD⟩ := gb_el hD
            cases hD
            exact hret _ _ _ hP hS (fun Qc hq => W.zret hx hb hr (nbz h11).1 hq hS.2.2 dX7_findPlace_78 hlocks)
          · have hD := ifp hD c
            refine lv_aload_n hx hb dX7_findPlace_60 rfl (lv_at hl 2 rfl) ?_
            refine lv_iconst (v := (5 : Int32)) hx hb dX7_findPlace_61 (by decide) ?_
            refine lv_iload_n hx hb dX7_findPlace_62 rfl (lv_at hl 4 rfl) ?_
            refine lv_iconst (v := (0 : Int32)) hx hb dX7_findPlace_63 (by decide) ?_
            obtain ⟨v12, m13, z14, hD⟩ := b2_el hD
            refine rcV (Wf := fun z => Wf z m) (mm := h) (As := [.int (5 : Int32), .int x3, .int (0 : Int32)]) (rest := []) Fx0 (c_X7_decide l (Wf := fun z0_ z1_ => Wf z0_ z1_) (fun z1_ => hLh z1_) (fun z0_ => hL z0_) (fun a0_ b0_ a1_ b1_ => hAd a0_ b0_ a1_ b1_) h m q0 haq0 hbq0 hcq0 (5 : Int32) x3 (0 : Int32) z14) hP (hD1 _ (hAd _ _ _ _)) hS (hA1 _ _ (hAd _ _ _ _) hS.1) (hLh m) (hplq hbq0) ((hpl haq0 hbq0) _ _) rfl tw_6_62 tw_6_59 tw_6_61 ts_69 tw_1_10 yd_X7_decide ⟨(Nat.le_of_ble_eq_true rfl), (Nat.le_of_ble_eq_true rfl)⟩ rfl hl.1 rfl (Nat.le_of_ble_eq_true rfl) dX7_findPlace_64 (fun H locs hP hS => ?_)
            refine lv_goto (tgt := 78) hx hb dX7_findPlace_67 (by decide) ?_
            obtain ⟨h15, hD⟩ := gb_el hD
            cases hD
            exact hret _ _ _ hP hS (fun Qc hq => W.zret hx hb hr (nbz h15).1 hq hS.2.2 dX7_findPlace_78 hlocks)
  refine lv_iconst (v := (0 : Int32)) hx hb dX7_findPlace_0 (by decide) ?_
  refine lv_istore_n (lv' := [(3, .int (0 : Int32)), (0, .ref (adh q0)), (1, .long x1)]) hx hb dX7_findPlace_1 rfl hl (by decide) rfl (fun ls hl => ?_)
  exact c_2 FU _ _ _ _ _ _ _ hD haq0 hbq0 hcq0 hP hS (lv_sub hl [1, 2, 0] rfl)

noncomputable def D_X7_next (q0 : Nat) (h : MM) (m : MM) : Option (Int32 × MM) := if (gi m 24 15) = 0 then (b1 (D_X0_fillable m) (fun v1 => b2 (D_X7_findLoad q0 v1 h m) (fun v3 m4 => if v3 = 0 then (b2 (D_X7_findLook q0 m4 m) (fun v6 m7 => if v6 = 0 then (b2 (D_X7_findPlace q0 v1 m7 m) (fun v9 m10 => if v9 = 0 then (some ((0 : Int32), m10)) else (some ((1 : Int32), m10)))) else (some ((1 : Int32), m7)))) else (some ((1 : Int32), m4))))) else (some ((0 : Int32), h))
set_option maxHeartbeats 4000000 in
set_option maxRecDepth 100000 in
theorem c_X7_next (l : Launch) {D : va_G} {cs : Nat → ClassId} {adh ad ma : Nat → Nat} {Wf : MM → MM → va_W} (hLh : ∀ m : MM, Ln 8 adh (hsh cs adh ma) (fun z => Wf z m)) (hL : ∀ h : MM, Ln 51 ad (msh cs ad) (fun z => Wf h z)) (hAd : ∀ a0_ b0_ a1_ b1_ : MM, (Wf a0_ a1_).map (fun q => q.1) = (Wf b0_ b1_).map (fun q => q.1)) (h : MM) (m : MM) (q0 : Nat) (haq0 : 1 ≤ q0) (hbq0 : q0 < 3) (hcq0 : ma q0 = ad 24) {rr : Int32} {h' : MM} (hD : D_X7_next q0 h m = some (rr, h')) : Ct l yX7_next cX7_next 3 (some .boolean) 4 99 D cs [.ref (adh q0)] (Wf h m) (Wf h' m) (some (.int rr)) := by
  refine Ct.ofW (by decide) (Nat.le_of_ble_eq_true rfl) (hAd _ _ _ _) ?_
  intro p e s m0 below meth c A Q ls args hx hb hr hml hlocks hown hts hK hP hD1 hSS hS hA1 hl hret
  have hT : ∀ w ∈ TBL, w.before args s = true := fun w h => hts w (List.mem_cons_of_mem _ h)
  have Fx0 : Fx p l m0 c cX7_next 3 s args yX7_next cX7_next 3 (some .boolean) D cs A := ⟨hx, hb, hml, hown, hts, hK, hSS⟩
  have hown : s.vm.findClass RX7 = some m0.cls := hown
  have hl : lv_has ls 3 [(0, .ref (adh q0))] := hl
  unfold D_X7_next at hD
  refine lv_aload_n hx hb dX7_next_0 rfl (lv_at hl 0 rfl) ?_
  refine rg (Wf := fun z => Wf z m) (mm := h) hx hb hT hu7 hown hK hP (hLh m) q0 0 (hplq hbq0) ((hpl haq0 hbq0) _ _) rfl (Nat.le_of_ble_eq_true rfl) (Fx0.T tw_2_162) rfl (v := .ref (ad 24)) (congrArg (fun z => some (Value.ref z)) hcq0) dX7_next_1 ?_
  refine rgN (Wf := fun z => Wf h z) (mm := m) hx hb hT hu6 hown hK hP (hL h) 24 15 (Nat.le_of_ble_eq_true rfl) (ms24 _ _) rfl (Nat.le_of_ble_eq_true rfl) tw_2_120 rfl (v := .int (gi m 24 15)) rfl dX7_next_4 ?_
  refine lv_if_eq (tgt := 12) hx hb dX7_next_7 (by decide) (fun c => ?_) (fun c => ?_)
  · have hD := ifp hD c
    refine lv_aload_n hx hb dX7_next_12 rfl (lv_at hl 0 rfl) ?_
    refine rg (Wf := fun z => Wf z m) (mm := h) hx hb hT hu7 hown hK hP (hLh m) q0 0 (hplq hbq0) ((hpl haq0 hbq0) _ _) rfl (Nat.le_of_ble_eq_true rfl) (Fx0.T tw_2_162) rfl (v := .ref (ad 24)) (congrArg (fun z => some (Value.ref z)) hcq0) dX7_next_13 ?_
    refine rgN (Wf := fun z => Wf h z) (mm := m) hx hb hT hu6 hown hK hP (hL h) 24 8 (Nat.le_of_ble_eq_true rfl) (ms24 _ _) rfl (Nat.le_of_ble_eq_true rfl) tw_2_104 rfl (v := .ref (ad 36)) rfl dX7_next_16 ?_
    obtain ⟨v1, z2, hD⟩ := b1_el hD
    refine rcVN (Wf := fun z => Wf h z) (mm := m) (As := []) (rest := []) Fx0 (c_X0_fillable l (Wf := fun z0_ => Wf h z0_) (hL h) (fun a0_ b0_ => hAd h h a0_ b0_) m z2) hP (hD1 _ (hAd _ _ _ _)) hS (hA1 _ _ (hAd _ _ _ _) hS.1) (hL h) (Nat.le_of_ble_eq_true rfl) (ms36 _ _) rfl tw_6_43 tw_6_40 tw_6_42 ts_65 tw_1_4 yd_X0_fillable ⟨(Nat.le_of_ble_eq_true rfl), (Nat.le_of_ble_eq_true rfl)⟩ rfl hl.1 rfl (Nat.le_of_ble_eq_true rfl) dX7_next_19 (fun H locs hP hS => ?_)
    refine lv_lstore_n (lv' := [(1, .long v1), (0, .ref (adh q0))]) hx hb dX7_next_22 rfl hl (by decide) rfl (fun ls hl => ?_)
    refine lv_aload_n hx hb dX7_next_23 rfl (lv_at hl 1 rfl) ?_
    refine lv_lload_n hx hb dX7_next_24 rfl (lv_at hl 0 rfl) ?_
    obtain ⟨v3, m4, z5, hD⟩ := b2_el hD
    refine rcV (Wf := fun z => Wf z m) (mm := h) (As := [.long v1]) (rest := []) Fx0 (c_X7_findLoad l (Wf := fun z0_ z1_ => Wf z0_ z1_) (fun z1_ => hLh z1_) (fun z0_ => hL z0_) (fun a0_ b0_ a1_ b1_ => hAd a0_ b0_ a1_ b1_) h m q0 haq0 hbq0 hcq0 v1 z5) hP (hD1 _ (hAd _ _ _ _)) hS (hA1 _ _ (hAd _ _ _ _) hS.1) (hLh m) (hplq hbq0) ((hpl haq0 hbq0) _ _) rfl tw_6_47 tw_6_44 tw_6_46 ts_66 tw_1_10 yd_X7_findLoad ⟨(Nat.le_of_ble_eq_true rfl), (Nat.le_of_ble_eq_true rfl)⟩ rfl hl.1 rfl (Nat.le_of_ble_eq_true rfl) dX7_next_25 (fun H locs hP hS => ?_)
    refine lv_if_ne (tgt := 46) hx hb dX7_next_28 (by decide) (fun c => ?_) (fun c => ?_)
    · have hD := ifn hD c
      refine lv_iconst (v := (1 : Int32)) hx hb dX7_next_46 (by decide) ?_
      refine lv_goto (tgt := 51) hx hb dX7_next_47 (by decide) ?_
      cases hD
      exact hret _ _ _ hP hS (fun Qc hq => W.zret hx hb hr rfl hq hS.2.2 dX7_next_51 hlocks)
    · have hD := ifp hD c
      refine lv_aload_n hx hb dX7_next_31 rfl (lv_at hl 1 rfl) ?_
      obtain ⟨v6, m7, z8, hD⟩ := b2_el hD
      refine rcV (Wf := fun z => Wf z m) (mm := m4) (As := []) (rest := []) Fx0 (c_X7_findLook l (Wf := fun z0_ z1_ => Wf z0_ z1_) (fun z1_ => hLh z1_) (fun z0_ => hL z0_) (fun a0_ b0_ a1_ b1_ => hAd a0_ b0_ a1_ b1_) m4 m q0 haq0 hbq0 hcq0 z8) hP (hD1 _ (hAd _ _ _ _)) hS (hA1 _ _ (hAd _ _ _ _) hS.1) (hLh m) (hplq hbq0) ((hpl haq0 hbq0) _ _) rfl tw_6_70 tw_6_67 tw_6_69 ts_71 tw_1_10 yd_X7_findLook ⟨(Nat.le_of_ble_eq_true rfl), (Nat.le_of_ble_eq_true rfl)⟩ rfl hl.1 rfl (Nat.le_of_ble_eq_true rfl) dX7_next_32 (fun H locs hP hS => ?_)
      refine lv_if_ne (tgt := 46) hx hb dX7_next_35 (by decide) (fun c => ?_) (fun c => ?_)
      · have hD := ifn hD c
        refine lv_iconst (v := (1 : Int32)) hx hb dX7_next_46 (by decide) ?_
        refine lv_goto (tgt := 51) hx hb dX7_next_47 (by decide) ?_
        cases hD
        exact hret _ _ _ hP hS (fun Qc hq => W.zret hx hb hr rfl hq hS.2.2 dX7_next_51 hlocks)
      · have hD := ifp hD c
        refine lv_aload_n hx hb dX7_next_38 rfl (lv_at hl 1 rfl) ?_
        refine lv_lload_n hx hb dX7_next_39 rfl (lv_at hl 0 rfl) ?_
        obtain ⟨v9, m10, z11, hD⟩ := b2_el hD
        refine rcV (Wf := fun z => Wf z m) (mm := m7) (As := [.long v1]) (rest := []) Fx0 (c_X7_findPlace l (Wf := fun z0_ z1_ => Wf z0_ z1_) (fun z1_ => hLh z1_) (fun z0_ => hL z0_) (fun a0_ b0_ a1_ b1_ => hAd a0_ b0_ a1_ b1_) m7 m q0 haq0 hbq0 hcq0 v1 z11) hP (hD1 _ (hAd _ _ _ _)) hS (hA1 _ _ (hAd _ _ _ _) hS.1) (hLh m) (hplq hbq0) ((hpl haq0 hbq0) _ _) rfl tw_6_74 tw_6_71 tw_6_73 ts_72 tw_1_10 yd_X7_findPlace ⟨(Nat.le_of_ble_eq_true rfl), (Nat.le_of_ble_eq_true rfl)⟩ rfl hl.1 rfl (Nat.le_of_ble_eq_true rfl) dX7_next_40 (fun H locs hP hS => ?_)
        refine lv_if_eq (tgt := 50) hx hb dX7_next_43 (by decide) (fun c => ?_) (fun c => ?_)
        · have hD := ifp hD c
          refine lv_iconst (v := (0 : Int32)) hx hb dX7_next_50 (by decide) ?_
          cases hD
          exact hret _ _ _ hP hS (fun Qc hq => W.zret hx hb hr rfl hq hS.2.2 dX7_next_51 hlocks)
        · have hD := ifn hD c
          refine lv_iconst (v := (1 : Int32)) hx hb dX7_next_46 (by decide) ?_
          refine lv_goto (tgt := 51) hx hb dX7_next_47 (by decide) ?_
          cases hD
          exact hret _ _ _ hP hS (fun Qc hq => W.zret hx hb hr rfl hq hS.2.2 dX7_next_51 hlocks)
  · have hD := ifn hD c
    refine lv_iconst (v := (0 : Int32)) hx hb dX7_next_10 (by decide) ?_
    cases hD
    exact hret _ _ _ hP hS (fun Qc hq => W.zret hx hb hr rfl hq hS.2.2 dX7_next_11 hlocks)

noncomputable def D_X7_follow (q0 : Nat) (h : MM) (m : MM) : Option (Int32 × MM × MM) := b2 (D_X7_next q0 h m) (fun v1 m2 => if v1 = 0 then (some ((-1 : Int32), m2, m)) else (b2 (D_X6_perform (gi m2 q0 1) (gi m2 q0 2) (gi m2 q0 3) m) (fun v4 m5 => some (v4, m2, m5))))
set_option maxHeartbeats 4000000 in
set_option maxRecDepth 100000 in
theorem c_X7_follow (l : Launch) {D : va_G} {cs : Nat → ClassId} {adh ad ma : Nat → Nat} {Wf : MM → MM → va_W} (hLh : ∀ m : MM, Ln 8 adh (hsh cs adh ma) (fun z => Wf z m)) (hL : ∀ h : MM, Ln 51 ad (msh cs ad) (fun z => Wf h z)) (hAd : ∀ a0_ b0_ a1_ b1_ : MM, (Wf a0_ a1_).map (fun q => q.1) = (Wf b0_ b1_).map (fun q => q.1)) (h : MM) (m : MM) (q0 : Nat) (haq0 : 1 ≤ q0) (hbq0 : q0 < 3) (hcq0 : ma q0 = ad 24) {rr : Int32} {h' : MM} {m' : MM} (hD : D_X7_follow q0 h m = some (rr, h', m')) : Ct l yX7_follow cX7_follow 1 (some .int) 5 135 D cs [.ref (adh q0)] (Wf h m) (Wf h' m') (some (.int rr)) := by
  refine Ct.ofW (by decide) (Nat.le_of_ble_eq_true rfl) (hAd _ _ _ _) ?_
  intro p e s m0 below meth c A Q ls args hx hb hr hml hlocks hown hts hK hP hD1 hSS hS hA1 hl hret
  have hT : ∀ w ∈ TBL, w.before args s = true := fun w h => hts w (List.mem_cons_of_mem _ h)
  have Fx0 : Fx p l m0 c cX7_follow 1 s args yX7_follow cX7_follow 1 (some .int) D cs A := ⟨hx, hb, hml, hown, hts, hK, hSS⟩
  have hown : s.vm.findClass RX7 = some m0.cls := hown
  have hl : lv_has ls 1 [(0, .ref (adh q0))] := hl
  unfold D_X7_follow at hD
  refine lv_aload_n hx hb dX7_follow_0 rfl (lv_at hl 0 rfl) ?_
  obtain ⟨v1, m2, z3, hD⟩ := b2_el hD
  refine rcV (Wf := fun z => Wf z m) (mm := h) (As := []) (rest := []) Fx0 (c_X7_next l (Wf := fun z0_ z1_ => Wf z0_ z1_) (fun z1_ => hLh z1_) (fun z0_ => hL z0_) (fun a0_ b0_ a1_ b1_ => hAd a0_ b0_ a1_ b1_) h m q0 haq0 hbq0 hcq0 z3) hP (hD1 _ (hAd _ _ _ _)) hS (hA1 _ _ (hAd _ _ _ _) hS.1) (hLh m) (hplq hbq0) ((hpl haq0 hbq0) _ _) rfl tw_6_39 tw_6_36 tw_6_38 ts_64 tw_1_10 yd_X7_next ⟨(Nat.le_of_ble_eq_true rfl), (Nat.le_of_ble_eq_true rfl)⟩ rfl hl.1 rfl (Nat.le_of_ble_eq_true rfl) dX7_follow_1 (fun H locs hP hS => ?_)
  refine lv_if_eq (tgt := 29) hx hb dX7_follow_4 (by decide) (fun c => ?_) (fun c => ?_)
  · have hD := ifp hD c
    refine lv_iconst (v := (-1 : Int32)) hx hb dX7_follow_29 (by decide) ?_
    cases hD
    exact hret _ _ _ hP hS (fun Qc hq => W.iret hx hb hr hq hS.2.2 dX7_follow_30 hlocks)
  · have hD := ifn hD c
    refine lv_aload_n hx hb dX7_follow_7 rfl (lv_at hl 0 rfl) ?_
    refine rg (Wf := fun z => Wf z m) (mm := m2) hx hb hT hu7 hown hK hP (hLh m) q0 0 (hplq hbq0) ((hpl haq0 hbq0) _ _) rfl (Nat.le_of_ble_eq_true rfl) (Fx0.T tw_2_162) rfl (v := .ref (ad 24)) (congrArg (fun z => some (Value.ref z)) hcq0) dX7_follow_8 ?_
    refine lv_aload_n hx hb dX7_follow_11 rfl (lv_at hl 0 rfl) ?_
    refine rg (Wf := fun z => Wf z m) (mm := m2) hx hb hT hu7 hown hK hP (hLh m) q0 1 (hplq hbq0) ((hpl haq0 hbq0) _ _) rfl (Nat.le_of_ble_eq_true rfl) (Fx0.T tw_2_163) rfl (v := .int (gi m2 q0 1)) rfl dX7_follow_12 ?_
    refine lv_aload_n hx hb dX7_follow_15 rfl (lv_at hl 0 rfl) ?_
    refine rg (Wf := fun z => Wf z m) (mm := m2) hx hb hT hu7 hown hK hP (hLh m) q0 2 (hplq hbq0) ((hpl haq0 hbq0) _ _) rfl (Nat.le_of_ble_eq_true rfl) (Fx0.T tw_2_166) rfl (v := .int (gi m2 q0 2)) rfl dX7_follow_16 ?_
    refine lv_aload_n hx hb dX7_follow_19 rfl (lv_at hl 0 rfl) ?_
    refine rg (Wf := fun z => Wf z m) (mm := m2) hx hb hT hu7 hown hK hP (hLh m) q0 3 (hplq hbq0) ((hpl haq0 hbq0) _ _) rfl (Nat.le_of_ble_eq_true rfl) (Fx0.T tw_2_169) rfl (v := .int (gi m2 q0 3)) rfl dX7_follow_20 ?_
    obtain ⟨v4, m5, z6, hD⟩ := b2_el hD
    refine rcVN (Wf := fun z => Wf m2 z) (mm := m) (As := [.int (gi m2 q0 1), .int (gi m2 q0 2), .int (gi m2 q0 3)]) (rest := []) Fx0 (c_X6_perform l (Wf := fun z0_ => Wf m2 z0_) (hL m2) (fun a0_ b0_ => hAd m2 m2 a0_ b0_) m (gi m2 q0 1) (gi m2 q0 2) (gi m2 q0 3) z6) hP (hD1 _ (hAd _ _ _ _)) hS (hA1 _ _ (hAd _ _ _ _) hS.1) (hL m2) (Nat.le_of_ble_eq_true rfl) (ms24 _ _) rfl tw_5_116 tw_6_80 tw_5_115 ts_42 tw_1_2 yd_X6_perform ⟨(Nat.le_of_ble_eq_true rfl), (Nat.le_of_ble_eq_true rfl)⟩ rfl hl.1 rfl (Nat.le_of_ble_eq_true rfl) dX7_follow_23 (fun H locs hP hS => ?_)
    refine lv_goto (tgt := 30) hx hb dX7_follow_26 (by decide) ?_
    cases hD
    exact hret _ _ _ hP hS (fun Qc hq => W.iret hx hb hr hq hS.2.2 dX7_follow_30 hlocks)
