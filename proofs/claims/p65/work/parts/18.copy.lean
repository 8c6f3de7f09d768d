/-! one machine out of another -/
noncomputable def D_J7_fill_53178_5 (q0 N0 : Nat) : Nat → Int32 → Int32 → Int32 → MM → Option MM
  | 0, _, _, _, _ => none
  | n + 1, x1, x2, x3, m => if x3 ≤ x2 then (some (m)) else (if x2 < 0 ∨ N0 ≤ x2.toNatClampNeg then none else (bnd (si m q0 x2.toNatClampNeg x1) (fun m3 => bnd (x2 + (1 : Int32)) (fun v4 => D_J7_fill_53178_5 q0 N0 n x1 v4 x3 m3))))
noncomputable def D_J7_fill_53178 (q0 N0 : Nat) (x1 : Int32) (m : MM) : Option MM := bnd ((Int32.ofNat N0)) (fun v1 => D_J7_fill_53178_5 q0 N0 FU x1 (0 : Int32) v1 m)
set_option maxHeartbeats 4000000 in
set_option maxRecDepth 100000 in
theorem c_J7_fill_53178 (l : Launch) {D : va_G} {cs : Nat → ClassId} {na : Nat} {ad : Nat → Nat} {sh : Sh} {Wf : MM → va_W} (hL : Ln na ad (sh) Wf) (hAd : ∀ a0_ b0_ : MM, (Wf a0_).map (fun q => q.1) = (Wf b0_).map (fun q => q.1)) (m : MM) (q0 N0 : Nat) (hqa : q0 < na) (hsa : ∀ (r : Nat → Int32) (t : Nat → Int64), sh q0 r t = .inl (cs 1, N0, .inl r)) (x1 : Int32) {m' : MM} (hD : D_J7_fill_53178 q0 N0 x1 m = some (m')) : Ct l yJ7_fill_53178 cJ7_fill_53178 4 none 0 0 D cs [.ref (ad q0), .int x1] (Wf m) (Wf m') (none) := by
  refine Ct.ofW (by decide) (Nat.le_of_ble_eq_true rfl) (hAd _ _) ?_
  intro p e s m0 below meth c A Q ls args hx hb hr hml hlocks hown hts hK hP hD1 hSS hS hA1 hl hret
  have hT : ∀ w ∈ TBL, w.before args s = true := fun w h => hts w (List.mem_cons_of_mem _ h)
  have Fx0 : Fx p l m0 c cJ7_fill_53178 4 s args yJ7_fill_53178 cJ7_fill_53178 4 none D cs A := ⟨hx, hb, hml, hown, hts, hK, hSS⟩
  have hown : s.vm.findClass RJ7 = some m0.cls := hown
  have hl : lv_has ls 4 [(0, .ref (ad q0)), (1, .int x1)] := hl
  unfold D_J7_fill_53178 at hD
  have c_5 : ∀ (n : Nat), ∀ (x1 : Int32) (x2 : Int32) (x3 : Int32) (m : MM) (H : Heap) (locs : List Loc) (ls : Array Slot), D_J7_fill_53178_5 q0 N0 n x1 x2 x3 m = some (m') → va_P D vwCl (Wf m) H → va_S A s.heap H locs → lv_has ls 4 [(0, .ref (ad q0)), (1, .int x1), (2, .int x2), (3, .int x3)] → W p l e ({ frames := 0, cells := 0, slots := 0, locals := 0 } : Room) s m0 args below meth c H locs 0 0 Q (F0 m0 5 ls []) := by
    intro n
    induction n with
    | zero =>
      intro x1 x2 x3 m H locs ls hD hP hS hl
      exact nn_el hD
    | succ n ih =>
      intro x1 x2 x3 m H locs ls hD hP hS hl
      rw [D_J7_fill_53178_5] at hD
      refine lv_iload_n hx hb dJ7_fill_53178_5 rfl (lv_at hl 2 rfl) ?_
      refine lv_iload_n hx hb dJ7_fill_53178_6 rfl (lv_at hl 3 rfl) ?_
      refine lv_icmp_ge (tgt := 20) hx hb dJ7_fill_53178_7 (by decide) (fun c => ?_) (fun c => ?_)
      · have hD := ifp hD c
        cases hD
        exact hret _ _ _ hP hS (fun Qc hq => W.vret hx hb hr hq hS.2.2 dJ7_fill_53178_20 hlocks)
      · have hD := ifn hD c
        refine lv_aload_n hx hb dJ7_fill_53178_10 rfl (lv_at hl 0 rfl) ?_
        refine lv_iload_n hx hb dJ7_fill_53178_11 rfl (lv_at hl 2 rfl) ?_
        refine lv_iload_n hx hb dJ7_fill_53178_12 rfl (lv_at hl 1 rfl) ?_
        obtain ⟨h2, hD⟩ := gd_el hD
        obtain ⟨m3, em3, hD⟩ := bnd_el hD
        refine riast  hx hb hK hP (hD1 _ (hAd _ _)) hS hL q0 hqa (fun _ => hsa _ _) h2 rfl dJ7_fill_53178_13 em3 (fun H locs hP hS => ?_)
        obtain ⟨v4, ev4, hD⟩ := bnd_el hD
        refine lv_iinc (v := v4) (lv' := [(2, .int v4), (0, .ref (ad q0)), (1, .int x1), (3, .int x3)]) hx hb dJ7_fill_53178_14 hl (k := 2) rfl (by rw [ev4]; rfl) (by decide) rfl (fun ls hl => ?_)
        refine lv_goto (tgt := 5) hx hb dJ7_fill_53178_17 (by decide) ?_
        exact ih _ _ _ _ _ _ _ hD hP hS (lv_sub hl [1, 2, 0, 3] rfl)
  refine lv_iconst (v := (0 : Int32)) hx hb dJ7_fill_53178_0 (by decide) ?_
  refine lv_istore_n (lv' := [(2, .int (0 : Int32)), (0, .ref (ad q0)), (1, .int x1)]) hx hb dJ7_fill_53178_1 rfl hl (by decide) rfl (fun ls hl => ?_)
  refine lv_aload_n hx hb dJ7_fill_53178_2 rfl (lv_at hl 1 rfl) ?_
  refine ralen  hx hb hK hP hL q0 1 hqa (v := Int32.ofNat N0) (hsa _ _) rfl rfl dJ7_fill_53178_3 ?_
  obtain ⟨v1, ev1, hD⟩ := bnd_el hD
  refine lv_nmi ev1 ?_
  refine lv_istore_n (lv' := [(3, .int v1), (2, .int (0 : Int32)), (0, .ref (ad q0)), (1, .int x1)]) hx hb dJ7_fill_53178_4 rfl hl (by decide) rfl (fun ls hl => ?_)
  exact c_5 FU _ _ _ _ _ _ _ hD hP hS (lv_sub hl [2, 3, 1, 0] rfl)

noncomputable def D_J7_fill_d0a16_6 (q0 N0 : Nat) : Nat → Int64 → Int32 → Int32 → MM → Option MM
  | 0, _, _, _, _ => none
  | n + 1, x1, x3, x4, m => if x4 ≤ x3 then (some (m)) else (if x3 < 0 ∨ N0 ≤ x3.toNatClampNeg then none else (bnd (sl m q0 x3.toNatClampNeg x1) (fun m3 => bnd (x3 + (1 : Int32)) (fun v4 => D_J7_fill_d0a16_6 q0 N0 n x1 v4 x4 m3))))
noncomputable def D_J7_fill_d0a16 (q0 N0 : Nat) (x1 : Int64) (m : MM) : Option MM := bnd ((Int32.ofNat N0)) (fun v1 => D_J7_fill_d0a16_6 q0 N0 FU x1 (0 : Int32) v1 m)
set_option maxHeartbeats 4000000 in
set_option maxRecDepth 100000 in
theorem c_J7_fill_d0a16 (l : Launch) {D : va_G} {cs : Nat → ClassId} {na : Nat} {ad : Nat → Nat} {sh : Sh} {Wf : MM → va_W} (hL : Ln na ad (sh) Wf) (hAd : ∀ a0_ b0_ : MM, (Wf a0_).map (fun q => q.1) = (Wf b0_).map (fun q => q.1)) (m : MM) (q0 N0 : Nat) (hqa : q0 < na) (hsa : ∀ (r : Nat → Int32) (t : Nat → Int64), sh q0 r t = .inl (cs 2, N0, .inr (.inl t))) (x1 : Int64) {m' : MM} (hD : D_J7_fill_d0a16 q0 N0 x1 m = some (m')) : Ct l yJ7_fill_d0a16 cJ7_fill_d0a16 5 none 0 0 D cs [.ref (ad q0), .long x1] (Wf m) (Wf m') (none) := by
  refine Ct.ofW (by decide) (Nat.le_of_ble_eq_true rfl) (hAd _ _) ?_
  intro p e s m0 below meth c A Q ls args hx hb hr hml hlocks hown hts hK hP hD1 hSS hS hA1 hl hret
  have hT : ∀ w ∈ TBL, w.before args s = true := fun w h => hts w (List.mem_cons_of_mem _ h)
  have Fx0 : Fx p l m0 c cJ7_fill_d0a16 5 s args yJ7_fill_d0a16 cJ7_fill_d0a16 5 none D cs A := ⟨hx, hb, hml, hown, hts, hK, hSS⟩
  have hown : s.vm.findClass RJ7 = some m0.cls := hown
  have hl : lv_has ls 5 [(0, .ref (ad q0)), (1, .long x1)] := hl
  unfold D_J7_fill_d0a16 at hD
  have c_6 : ∀ (n : Nat), ∀ (x1 : Int64) (x3 : Int32) (x4 : Int32) (m : MM) (H : Heap) (locs : List Loc) (ls : Array Slot), D_J7_fill_d0a16_6 q0 N0 n x1 x3 x4 m = some (m') → va_P D vwCl (Wf m) H → va_S A s.heap H locs → lv_has ls 5 [(0, .ref (ad q0)), (1, .long x1), (3, .int x3), (4, .int x4)] → W p l e ({ frames := 0, cells := 0, slots := 0, locals := 0 } : Room) s m0 args below meth c H locs 0 0 Q (F0 m0 6 ls []) := by
    intro n
    induction n with
    | zero =>
      intro x1 x3 x4 m H locs ls hD hP hS hl
      exact nn_el hD
    | succ n ih =>
      intro x1 x3 x4 m H locs ls hD hP hS hl
      rw [D_J7_fill_d0a16_6] at hD
      refine lv_iload_n hx hb dJ7_fill_d0a16_6 rfl (lv_at hl 2 rfl) ?_
      refine lv_iload hx hb dJ7_fill_d0a16_7 (lv_at hl 3 rfl) ?_
      refine lv_icmp_ge (tgt := 22) hx hb dJ7_fill_d0a16_9 (by decide) (fun c => ?_) (fun c => ?_)
      · have hD := ifp hD c
        cases hD
        exact hret _ _ _ hP hS (fun Qc hq => W.vret hx hb hr hq hS.2.2 dJ7_fill_d0a16_22 hlocks)
      · have hD := ifn hD c
        refine lv_aload_n hx hb dJ7_fill_d0a16_12 rfl (lv_at hl 0 rfl) ?_
        refine lv_iload_n hx hb dJ7_fill_d0a16_13 rfl (lv_at hl 2 rfl) ?_
        refine lv_lload_n hx hb dJ7_fill_d0a16_14 rfl (lv_at hl 1 rfl) ?_
        obtain ⟨h2, hD⟩ := gd_el hD
        obtain ⟨m3, em3, hD⟩ := bnd_el hD
        refine rlast  hx hb hK hP (hD1 _ (hAd _ _)) hS hL q0 hqa (fun _ => hsa _ _) h2 rfl dJ7_fill_d0a16_15 em3 (fun H locs hP hS => ?_)
        obtain ⟨v4, ev4, hD⟩ := bnd_el hD
        refine lv_iinc (v := v4) (lv' := [(3, .int v4), (0, .ref (ad q0)), (1, .long x1), (4, .int x4)]) hx hb dJ7_fill_d0a16_16 hl (k := 2) rfl (by rw [ev4]; rfl) (by decide) rfl (fun ls hl => ?_)
        refine lv_goto (tgt := 6) hx hb dJ7_fill_d0a16_19 (by decide) ?_
        exact ih _ _ _ _ _ _ _ hD hP hS (lv_sub hl [1, 2, 0, 3] rfl)
  refine lv_iconst (v := (0 : Int32)) hx hb dJ7_fill_d0a16_0 (by decide) ?_
  refine lv_istore_n (lv' := [(3, .int (0 : Int32)), (0, .ref (ad q0)), (1, .long x1)]) hx hb dJ7_fill_d0a16_1 rfl hl (by decide) rfl (fun ls hl => ?_)
  refine lv_aload_n hx hb dJ7_fill_d0a16_2 rfl (lv_at hl 1 rfl) ?_
  refine ralen  hx hb hK hP hL q0 2 hqa (v := Int32.ofNat N0) (hsa _ _) rfl rfl dJ7_fill_d0a16_3 ?_
  obtain ⟨v1, ev1, hD⟩ := bnd_el hD
  refine lv_nmi ev1 ?_
  refine lv_istore (lv' := [(4, .int v1), (3, .int (0 : Int32)), (0, .ref (ad q0)), (1, .long x1)]) hx hb dJ7_fill_d0a16_4 hl (by decide) rfl (fun ls hl => ?_)
  exact c_6 FU _ _ _ _ _ _ _ hD hP hS (lv_sub hl [2, 3, 1, 0] rfl)

noncomputable def D_X8_copyFrom (q0 : Nat) (q1 : Nat) (m : MM) (o : MM) : Option MM := bnd (si m q0 0 (gi o q1 0)) (fun m1 => bnd (si m1 q0 1 (gi o q1 1)) (fun m2 => if (gi o q1 2) = 0 ∨ (gi o q1 2) = 1 then (bnd (si m2 q0 2 (gi o q1 2)) (fun m4 => bnd (si m4 q0 3 (gi o q1 3)) (fun m5 => bnd (si m5 q0 4 (gi o q1 4)) (fun m6 => bnd (si m6 q0 5 (gi o q1 5)) (fun m7 => bnd (si m7 q0 6 (gi o q1 6)) (fun m8 => bnd (si m8 q0 7 (gi o q1 7)) (fun m9 => some (m9)))))))) else none))
set_option maxHeartbeats 4000000 in
set_option maxRecDepth 100000 in
theorem c_X8_copyFrom (l : Launch) {D : va_G} {cs : Nat → ClassId} {ad ado : Nat → Nat} {Wf : MM → MM → va_W} (hL : ∀ o : MM, Ln 51 ad (msh cs ad) (fun z => Wf z o)) (hLo : ∀ m : MM, Ln 51 ado (msh cs ado) (fun z => Wf m z)) (hAd : ∀ a0_ b0_ a1_ b1_ : MM, (Wf a0_ a1_).map (fun q => q.1) = (Wf b0_ b1_).map (fun q => q.1)) (m : MM) (o : MM) (q0 : Nat) (haq0 : q0 < 4) (q1 : Nat) (haq1 : q1 < 4) {m' : MM} (hD : D_X8_copyFrom q0 q1 m o = some (m')) : Ct l yX8_copyFrom cX8_copyFrom 2 none 0 0 D cs [.ref (ad q0), .ref (ado q1)] (Wf m o) (Wf m' o) (none) := by
  refine Ct.ofW (by decide) (Nat.le_of_ble_eq_true rfl) (hAd _ _ _ _) ?_
  intro p e s m0 below meth c A Q ls args hx hb hr hml hlocks hown hts hK hP hD1 hSS hS hA1 hl hret
  have hT : ∀ w ∈ TBL, w.before args s = true := fun w h => hts w (List.mem_cons_of_mem _ h)
  have Fx0 : Fx p l m0 c cX8_copyFrom 2 s args yX8_copyFrom cX8_copyFrom 2 none D cs A := ⟨hx, hb, hml, hown, hts, hK, hSS⟩
  have hown : s.vm.findClass RX8 = some m0.cls := hown
  have hl : lv_has ls 2 [(0, .ref (ad q0)), (1, .ref (ado q1))] := hl
  unfold D_X8_copyFrom at hD
  refine lv_aload_n hx hb dX8_copyFrom_0 rfl (lv_at hl 0 rfl) ?_
  refine lv_aload_n hx hb dX8_copyFrom_1 rfl (lv_at hl 1 rfl) ?_
  refine rg (Wf := fun z => Wf m z) (mm := o) hx hb hT hu8 hown hK hP (hLo m) q1 0 (Nat.lt_of_lt_of_le haq1 (Nat.le_of_ble_eq_true rfl)) ((msp haq1) _ _) rfl (Nat.le_of_ble_eq_true rfl) (Fx0.T tw_1_193) rfl (v := .int (gi o q1 0)) rfl dX8_copyFrom_2 ?_
  obtain ⟨m1, em1, hD⟩ := bnd_el hD
  refine rp (Wf := fun z => Wf z o) (mm := m) hx hb hT hu8 tyX8_ok nmX8 hown hK hP (hD1 _ (hAd _ _ _ _)) hS (hL o) q0 0 (Nat.lt_of_lt_of_le haq0 (Nat.le_of_ble_eq_true rfl)) ((msp haq0) _ _) ((msp haq0) _ _) rfl (Nat.le_of_ble_eq_true rfl) (Fx0.T tw_1_193) rfl rfl rfl rfl (Nat.le_of_ble_eq_true rfl) dX8_copyFrom_5 em1 (fun H locs hP hS => ?_)
  refine lv_aload_n hx hb dX8_copyFrom_8 rfl (lv_at hl 0 rfl) ?_
  refine lv_aload_n hx hb dX8_copyFrom_9 rfl (lv_at hl 1 rfl) ?_
  refine rg (Wf := fun z => Wf m1 z) (mm := o) hx hb hT hu8 hown hK hP (hLo m1) q1 1 (Nat.lt_of_lt_of_le haq1 (Nat.le_of_ble_eq_true rfl)) ((msp haq1) _ _) rfl (Nat.le_of_ble_eq_true rfl) (Fx0.T tw_1_197) rfl (v := .int (gi o q1 1)) rfl dX8_copyFrom_10 ?_
  obtain ⟨m2, em2, hD⟩ := bnd_el hD
  refine rp (Wf := fun z => Wf z o) (mm := m1) hx hb hT hu8 tyX8_ok nmX8 hown hK hP (hD1 _ (hAd _ _ _ _)) hS (hL o) q0 1 (Nat.lt_of_lt_of_le haq0 (Nat.le_of_ble_eq_true rfl)) ((msp haq0) _ _) ((msp haq0) _ _) rfl (Nat.le_of_ble_eq_true rfl) (Fx0.T tw_1_197) rfl rfl rfl rfl (Nat.le_of_ble_eq_true rfl) dX8_copyFrom_13 em2 (fun H locs hP hS => ?_)
  refine lv_aload_n hx hb dX8_copyFrom_16 rfl (lv_at hl 0 rfl) ?_
  refine lv_aload_n hx hb dX8_copyFrom_17 rfl (lv_at hl 1 rfl) ?_
  refine rg (Wf := fun z => Wf m2 z) (mm := o) hx hb hT hu8 hown hK hP (hLo m2) q1 2 (Nat.lt_of_lt_of_le haq1 (Nat.le_of_ble_eq_true rfl)) ((msp haq1) _ _) rfl (Nat.le_of_ble_eq_true rfl) (Fx0.T tw_1_201) rfl (v := .int (gi o q1 2)) rfl dX8_copyFrom_18 ?_
  obtain ⟨h3, hD⟩ := gb_el hD
  obtain ⟨m4, em4, hD⟩ := bnd_el hD
  refine rp (Wf := fun z => Wf z o) (mm := m2) hx hb hT hu8 tyX8_ok nmX8 hown hK hP (hD1 _ (hAd _ _ _ _)) hS (hL o) q0 2 (Nat.lt_of_lt_of_le haq0 (Nat.le_of_ble_eq_true rfl)) ((msp haq0) _ _) ((msp haq0) _ _) rfl (Nat.le_of_ble_eq_true rfl) (Fx0.T tw_1_201) rfl rfl (nbz h3).1 (nbz h3).2 (Nat.le_of_ble_eq_true rfl) dX8_copyFrom_21 em4 (fun H locs hP hS => ?_)
  refine lv_aload_n hx hb dX8_copyFrom_24 rfl (lv_at hl 0 rfl) ?_
  refine lv_aload_n hx hb dX8_copyFrom_25 rfl (lv_at hl 1 rfl) ?_
  refine rg (Wf := fun z => Wf m4 z) (mm := o) hx hb hT hu8 hown hK hP (hLo m4) q1 3 (Nat.lt_of_lt_of_le haq1 (Nat.le_of_ble_eq_true rfl)) ((msp haq1) _ _) rfl (Nat.le_of_ble_eq_true rfl) (Fx0.T tw_1_205) rfl (v := .int (gi o q1 3)) rfl dX8_copyFrom_26 ?_
  obtain ⟨m5, em5, hD⟩ := bnd_el hD
  refine rp (Wf := fun z => Wf z o) (mm := m4) hx hb hT hu8 tyX8_ok nmX8 hown hK hP (hD1 _ (hAd _ _ _ _)) hS (hL o) q0 3 (Nat.lt_of_lt_of_le haq0 (Nat.le_of_ble_eq_true rfl)) ((msp haq0) _ _) ((msp haq0) _ _) rfl (Nat.le_of_ble_eq_true rfl) (Fx0.T tw_1_205) rfl rfl rfl rfl (Nat.le_of_ble_eq_true rfl) dX8_copyFrom_29 em5 (fun H locs hP hS => ?_)
  refine lv_aload_n hx hb dX8_copyFrom_32 rfl (lv_at hl 0 rfl) ?_
  refine lv_aload_n hx hb dX8_copyFrom_33 rfl (lv_at hl 1 rfl) ?_
  refine rg (Wf := fun z => Wf m5 z) (mm := o) hx hb hT hu8 hown hK hP (hLo m5) q1 4 (Nat.lt_of_lt_of_le haq1 (Nat.le_of_ble_eq_true rfl)) ((msp haq1) _ _) rfl (Nat.le_of_ble_eq_true rfl) (Fx0.T tw_1_207) rfl (v := .int (gi o q1 4)) rfl dX8_copyFrom_34 ?_
  obtain ⟨m6, em6, hD⟩ := bnd_el hD
  refine rp (Wf := fun z => Wf z o) (mm := m5) hx hb hT hu8 tyX8_ok nmX8 hown hK hP (hD1 _ (hAd _ _ _ _)) hS (hL o) q0 4 (Nat.lt_of_lt_of_le haq0 (Nat.le_of_ble_eq_true rfl)) ((msp haq0) _ _) ((msp haq0) _ _) rfl (Nat.le_of_ble_eq_true rfl) (Fx0.T tw_1_207) rfl rfl rfl rfl (Nat.le_of_ble_eq_true rfl) dX8_copyFrom_37 em6 (fun H locs hP hS => ?_)
  refine lv_aload_n hx hb dX8_copyFrom_40 rfl (lv_at hl 0 rfl) ?_
  refine lv_aload_n hx hb dX8_copyFrom_41 rfl (lv_at hl 1 rfl) ?_
  refine rg (Wf := fun z => Wf m6 z) (mm := o) hx hb hT hu8 hown hK hP (hLo m6) q1 5 (Nat.lt_of_lt_of_le haq1 (Nat.le_of_ble_eq_true rfl)) ((msp haq1) _ _) rfl (Nat.le_of_ble_eq_true rfl) (Fx0.T tw_1_209) rfl (v := .int (gi o q1 5)) rfl dX8_copyFrom_42 ?_
  obtain ⟨m7, em7, hD⟩ := bnd_el hD
  refine rp (Wf := fun z => Wf z o) (mm := m6) hx hb hT hu8 tyX8_ok nmX8 hown hK hP (hD1 _ (hAd _ _ _ _)) hS (hL o) q0 5 (Nat.lt_of_lt_of_le haq0 (Nat.le_of_ble_eq_true rfl)) ((msp haq0) _ _) ((msp haq0) _ _) rfl (Nat.le_of_ble_eq_true rfl) (Fx0.T tw_1_209) rfl rfl rfl rfl (Nat.le_of_ble_eq_true rfl) dX8_copyFrom_45 em7 (fun H locs hP hS => ?_)
  refine lv_aload_n hx hb dX8_copyFrom_48 rfl (lv_at hl 0 rfl) ?_
  refine lv_aload_n hx hb dX8_copyFrom_49 rfl (lv_at hl 1 rfl) ?_
  refine rg (Wf := fun z => Wf m7 z) (mm := o) hx hb hT hu8 hown hK hP (hLo m7) q1 6 (Nat.lt_of_lt_of_le haq1 (Nat.le_of_ble_eq_true rfl)) ((msp haq1) _ _) rfl (Nat.le_of_ble_eq_true rfl) (Fx0.T tw_1_211) rfl (v := .int (gi o q1 6)) rfl dX8_copyFrom_50 ?_
  obtain ⟨m8, em8, hD⟩ := bnd_el hD
  refine rp (Wf := fun z => Wf z o) (mm := m7) hx hb hT hu8 tyX8_ok nmX8 hown hK hP (hD1 _ (hAd _ _ _ _)) hS (hL o) q0 6 (Nat.lt_of_lt_of_le haq0 (Nat.le_of_ble_eq_true rfl)) ((msp haq0) _ _) ((msp haq0) _ _) rfl (Nat.le_of_ble_eq_true rfl) (Fx0.T tw_1_211) rfl rfl rfl rfl (Nat.le_of_ble_eq_true rfl) dX8_copyFrom_53 em8 (fun H locs hP hS => ?_)
  refine lv_aload_n hx hb dX8_copyFrom_56 rfl (lv_at hl 0 rfl) ?_
  refine lv_aload_n hx hb dX8_copyFrom_57 rfl (lv_at hl 1 rfl) ?_
  refine rg (Wf := fun z => Wf m8 z) (mm := o) hx hb hT hu8 hown hK hP (hLo m8) q1 7 (Nat.lt_of_lt_of_le haq1 (Nat.le_of_ble_eq_true rfl)) ((msp haq1) _ _) rfl (Nat.le_of_ble_eq_true rfl) (Fx0.T tw_1_213) rfl (v := .int (gi o q1 7)) rfl dX8_copyFrom_58 ?_
  obtain ⟨m9, em9, hD⟩ := bnd_el hD
  refine rp (Wf := fun z => Wf z o) (mm := m8) hx hb hT hu8 tyX8_ok nmX8 hown hK hP (hD1 _ (hAd _ _ _ _)) hS (hL o) q0 7 (Nat.lt_of_lt_of_le haq0 (Nat.le_of_ble_eq_true rfl)) ((msp haq0) _ _) ((msp haq0) _ _) rfl (Nat.le_of_ble_eq_true rfl) (Fx0.T tw_1_213) rfl rfl rfl rfl (Nat.le_of_ble_eq_true rfl) dX8_copyFrom_61 em9 (fun H locs hP hS => ?_)
  cases hD
  exact hret _ _ _ hP hS (fun Qc hq => W.vret hx hb hr hq hS.2.2 dX8_copyFrom_64 hlocks)

noncomputable def D_X2_copyFrom (q0 : Nat) (q1 : Nat) (m : MM) (o : MM) : Option MM := bnd (si m q0 0 (gi o q1 0)) (fun m1 => bnd (si m1 q0 1 (gi o q1 1)) (fun m2 => bnd (si m2 q0 2 (gi o q1 2)) (fun m3 => bnd (si m3 q0 3 (gi o q1 3)) (fun m4 => bnd (si m4 q0 4 (gi o q1 4)) (fun m5 => bnd (sr m5 (q0 + 10) (va_cpy (o.1 (q1 + 10)) (m5.1 (q0 + 10)) 0 0 3)) (fun m6 => bnd (si m6 q0 6 (gi o q1 6)) (fun m7 => bnd (si m7 q0 7 (gi o q1 7)) (fun m8 => if (gi o q1 8) = 0 ∨ (gi o q1 8) = 1 then (bnd (si m8 q0 8 (gi o q1 8)) (fun m10 => some (m10))) else none))))))))
set_option maxHeartbeats 4000000 in
set_option maxRecDepth 100000 in
theorem c_X2_copyFrom (l : Launch) {D : va_G} {cs : Nat → ClassId} {ad ado : Nat → Nat} {Wf : MM → MM → va_W} (hL : ∀ o : MM, Ln 51 ad (msh cs ad) (fun z => Wf z o)) (hLo : ∀ m : MM, Ln 51 ado (msh cs ado) (fun z => Wf m z)) (hAd : ∀ a0_ b0_ a1_ b1_ : MM, (Wf a0_ a1_).map (fun q => q.1) = (Wf b0_ b1_).map (fun q => q.1)) (m : MM) (o : MM) (q0 : Nat) (haq0 : 4 ≤ q0) (hbq0 : q0 < 14) (q1 : Nat) (haq1 : 4 ≤ q1) (hbq1 : q1 < 14) {m' : MM} (hD : D_X2_copyFrom q0 q1 m o = some (m')) : Ct l yX2_copyFrom cX2_copyFrom 2 none 1 64 D cs [.ref (ad q0), .ref (ado q1)] (Wf m o) (Wf m' o) (none) := by
  refine Ct.ofW (by decide) (Nat.le_of_ble_eq_true rfl) (hAd _ _ _ _) ?_
  intro p e s m0 below meth c A Q ls args hx hb hr hml hlocks hown hts hK hP hD1 hSS hS hA1 hl hret
  have hT : ∀ w ∈ TBL, w.before args s = true := fun w h => hts w (List.mem_cons_of_mem _ h)
  have Fx0 : Fx p l m0 c cX2_copyFrom 2 s args yX2_copyFrom cX2_copyFrom 2 none D cs A := ⟨hx, hb, hml, hown, hts, hK, hSS⟩
  have hown : s.vm.findClass RX2 = some m0.cls := hown
  have hl : lv_has ls 2 [(0, .ref (ad q0)), (1, .ref (ado q1))] := hl
  unfold D_X2_copyFrom at hD
  refine lv_aload_n hx hb dX2_copyFrom_0 rfl (lv_at hl 0 rfl) ?_
  refine lv_aload_n hx hb dX2_copyFrom_1 rfl (lv_at hl 1 rfl) ?_
  refine rg (Wf := fun z => Wf m z) (mm := o) hx hb hT hu2 hown hK hP (hLo m) q1 0 (Nat.lt_of_lt_of_le hbq1 (Nat.le_of_ble_eq_true rfl)) ((mfe haq1 hbq1) _ _) rfl (Nat.le_of_ble_eq_true rfl) (Fx0.T tw_1_237) rfl (v := .int (gi o q1 0)) rfl dX2_copyFrom_2 ?_
  obtain ⟨m1, em1, hD⟩ := bnd_el hD
  refine rp (Wf := fun z => Wf z o) (mm := m) hx hb hT hu2 tyX2_ok nmX2 hown hK hP (hD1 _ (hAd _ _ _ _)) hS (hL o) q0 0 (Nat.lt_of_lt_of_le hbq0 (Nat.le_of_ble_eq_true rfl)) ((mfe haq0 hbq0) _ _) ((mfe haq0 hbq0) _ _) rfl (Nat.le_of_ble_eq_true rfl) (Fx0.T tw_1_237) rfl rfl rfl rfl (Nat.le_of_ble_eq_true rfl) dX2_copyFrom_5 em1 (fun H locs hP hS => ?_)
  refine lv_aload_n hx hb dX2_copyFrom_8 rfl (lv_at hl 0 rfl) ?_
  refine lv_aload_n hx hb dX2_copyFrom_9 rfl (lv_at hl 1 rfl) ?_
  refine rg (Wf := fun z => Wf m1 z) (mm := o) hx hb hT hu2 hown hK hP (hLo m1) q1 1 (Nat.lt_of_lt_of_le hbq1 (Nat.le_of_ble_eq_true rfl)) ((mfe haq1 hbq1) _ _) rfl (Nat.le_of_ble_eq_true rfl) (Fx0.T tw_2_1) rfl (v := .int (gi o q1 1)) rfl dX2_copyFrom_10 ?_
  obtain ⟨m2, em2, hD⟩ := bnd_el hD
  refine rp (Wf := fun z => Wf z o) (mm := m1) hx hb hT hu2 tyX2_ok nmX2 hown hK hP (hD1 _ (hAd _ _ _ _)) hS (hL o) q0 1 (Nat.lt_of_lt_of_le hbq0 (Nat.le_of_ble_eq_true rfl)) ((mfe haq0 hbq0) _ _) ((mfe haq0 hbq0) _ _) rfl (Nat.le_of_ble_eq_true rfl) (Fx0.T tw_2_1) rfl rfl rfl rfl (Nat.le_of_ble_eq_true rfl) dX2_copyFrom_13 em2 (fun H locs hP hS => ?_)
  refine lv_aload_n hx hb dX2_copyFrom_16 rfl (lv_at hl 0 rfl) ?_
  refine lv_aload_n hx hb dX2_copyFrom_17 rfl (lv_at hl 1 rfl) ?_
  refine rg (Wf := fun z => Wf m2 z) (mm := o) hx hb hT hu2 hown hK hP (hLo m2) q1 2 (Nat.lt_of_lt_of_le hbq1 (Nat.le_of_ble_eq_true rfl)) ((mfe haq1 hbq1) _ _) rfl (Nat.le_of_ble_eq_true rfl) (Fx0.T tw_2_3) rfl (v := .int (gi o q1 2)) rfl dX2_copyFrom_18 ?_
  obtain ⟨m3, em3, hD⟩ := bnd_el hD
  refine rp (Wf := fun z => Wf z o) (mm := m2) hx hb hT hu2 tyX2_ok nmX2 hown hK hP (hD1 _ (hAd _ _ _ _)) hS (hL o) q0 2 (Nat.lt_of_lt_of_le hbq0 (Nat.le_of_ble_eq_true rfl)) ((mfe haq0 hbq0) _ _) ((mfe haq0 hbq0) _ _) rfl (Nat.le_of_ble_eq_true rfl) (Fx0.T tw_2_3) rfl rfl rfl rfl (Nat.le_of_ble_eq_true rfl) dX2_copyFrom_21 em3 (fun H locs hP hS => ?_)
  refine lv_aload_n hx hb dX2_copyFrom_24 rfl (lv_at hl 0 rfl) ?_
  refine lv_aload_n hx hb dX2_copyFrom_25 rfl (lv_at hl 1 rfl) ?_
  refine rg (Wf := fun z => Wf m3 z) (mm := o) hx hb hT hu2 hown hK hP (hLo m3) q1 3 (Nat.lt_of_lt_of_le hbq1 (Nat.le_of_ble_eq_true rfl)) ((mfe haq1 hbq1) _ _) rfl (Nat.le_of_ble_eq_true rfl) (Fx0.T tw_2_8) rfl (v := .int (gi o q1 3)) rfl dX2_copyFrom_26 ?_
  obtain ⟨m4, em4, hD⟩ := bnd_el hD
  refine rp (Wf := fun z => Wf z o) (mm := m3) hx hb hT hu2 tyX2_ok nmX2 hown hK hP (hD1 _ (hAd _ _ _ _)) hS (hL o) q0 3 (Nat.lt_of_lt_of_le hbq0 (Nat.le_of_ble_eq_true rfl)) ((mfe haq0 hbq0) _ _) ((mfe haq0 hbq0) _ _) rfl (Nat.le_of_ble_eq_true rfl) (Fx0.T tw_2_8) rfl rfl rfl rfl (Nat.le_of_ble_eq_true rfl) dX2_copyFrom_29 em4 (fun H locs hP hS => ?_)
  refine lv_aload_n hx hb dX2_copyFrom_32 rfl (lv_at hl 0 rfl) ?_
  refine lv_aload_n hx hb dX2_copyFrom_33 rfl (lv_at hl 1 rfl) ?_
  refine rg (Wf := fun z => Wf m4 z) (mm := o) hx hb hT hu2 hown hK hP (hLo m4) q1 4 (Nat.lt_of_lt_of_le hbq1 (Nat.le_of_ble_eq_true rfl)) ((mfe haq1 hbq1) _ _) rfl (Nat.le_of_ble_eq_true rfl) (Fx0.T tw_2_10) rfl (v := .int (gi o q1 4)) rfl dX2_copyFrom_34 ?_
  obtain ⟨m5, em5, hD⟩ := bnd_el hD
  refine rp (Wf := fun z => Wf z o) (mm := m4) hx hb hT hu2 tyX2_ok nmX2 hown hK hP (hD1 _ (hAd _ _ _ _)) hS (hL o) q0 4 (Nat.lt_of_lt_of_le hbq0 (Nat.le_of_ble_eq_true rfl)) ((mfe haq0 hbq0) _ _) ((mfe haq0 hbq0) _ _) rfl (Nat.le_of_ble_eq_true rfl) (Fx0.T tw_2_10) rfl rfl rfl rfl (Nat.le_of_ble_eq_true rfl) dX2_copyFrom_37 em5 (fun H locs hP hS => ?_)
  refine lv_aload_n hx hb dX2_copyFrom_40 rfl (lv_at hl 1 rfl) ?_
  refine rg (Wf := fun z => Wf m5 z) (mm := o) hx hb hT hu2 hown hK hP (hLo m5) q1 5 (Nat.lt_of_lt_of_le hbq1 (Nat.le_of_ble_eq_true rfl)) ((mfe haq1 hbq1) _ _) rfl (Nat.le_of_ble_eq_true rfl) (Fx0.T tw_2_13) rfl (v := .ref (ado (q1 + 10))) rfl dX2_copyFrom_41 ?_
  refine lv_iconst (v := (0 : Int32)) hx hb dX2_copyFrom_44 (by decide) ?_
  refine lv_aload_n hx hb dX2_copyFrom_45 rfl (lv_at hl 0 rfl) ?_
  refine rg (Wf := fun z => Wf z o) (mm := m5) hx hb hT hu2 hown hK hP (hL o) q0 5 (Nat.lt_of_lt_of_le hbq0 (Nat.le_of_ble_eq_true rfl)) ((mfe haq0 hbq0) _ _) rfl (Nat.le_of_ble_eq_true rfl) (Fx0.T tw_2_13) rfl (v := .ref (ad (q0 + 10))) rfl dX2_copyFrom_46 ?_
  refine lv_iconst (v := (0 : Int32)) hx hb dX2_copyFrom_49 (by decide) ?_
  refine lv_iconst (v := (3 : Int32)) hx hb dX2_copyFrom_50 (by decide) ?_
  obtain ⟨m6, em6, hD⟩ := bnd_el hD
  refine rcp (Wf := fun z => Wf z o) (mm := m5) (Ws := fun z => Wf m5 z) (ms := o) hx hb (hml.trans hl.1.symm) hT hown tw_4_16 tw_2_47 tw_2_46 tw_1_8 hK hP (hD1 _ (hAd _ _ _ _)) hS (hLo m5) rfl (q1 + 10) (mreq hbq1) ((mre haq1 hbq1) _ _) (hL o) (q0 + 10) (mreq hbq0) (fun _ => (mre haq0 hbq0) _ _) (by decide) (by decide) (by decide) (by decide) (Nat.le_of_ble_eq_true rfl) (Nat.le_of_ble_eq_true rfl) dX2_copyFrom_51 em6 (fun H locs hP hS => ?_)
  refine lv_aload_n hx hb dX2_copyFrom_54 rfl (lv_at hl 0 rfl) ?_
  refine lv_aload_n hx hb dX2_copyFrom_55 rfl (lv_at hl 1 rfl) ?_
  refine rg (Wf := fun z => Wf m6 z) (mm := o) hx hb hT hu2 hown hK hP (hLo m6) q1 6 (Nat.lt_of_lt_of_le hbq1 (Nat.le_of_ble_eq_true rfl)) ((mfe haq1 hbq1) _ _) rfl (Nat.le_of_ble_eq_true rfl) (Fx0.T tw_2_14) rfl (v := .int (gi o q1 6)) rfl dX2_copyFrom_56 ?_
  obtain ⟨m7, em7, hD⟩ := bnd_el hD
  refine rp (Wf := fun z => Wf z o) (mm := m6) hx hb hT hu2 tyX2_ok nmX2 hown hK hP (hD1 _ (hAd _ _ _ _)) hS (hL o) q0 6 (Nat.lt_of_lt_of_le hbq0 (Nat.le_of_ble_eq_true rfl)) ((mfe haq0 hbq0) _ _) ((mfe haq0 hbq0) _ _) rfl (Nat.le_of_ble_eq_true rfl) (Fx0.T tw_2_14) rfl rfl rfl rfl (Nat.le_of_ble_eq_true rfl) dX2_copyFrom_59 em7 (fun H locs hP hS => ?_)
  refine lv_aload_n hx hb dX2_copyFrom_62 rfl (lv_at hl 0 rfl) ?_
  refine lv_aload_n hx hb dX2_copyFrom_63 rfl (lv_at hl 1 rfl) ?_
  refine rg (Wf := fun z => Wf m7 z) (mm := o) hx hb hT hu2 hown hK hP (hLo m7) q1 7 (Nat.lt_of_lt_of_le hbq1 (Nat.le_of_ble_eq_true rfl)) ((mfe haq1 hbq1) _ _) rfl (Nat.le_of_ble_eq_true rfl) (Fx0.T tw_2_16) rfl (v := .int (gi o q1 7)) rfl dX2_copyFrom_64 ?_
  obtain ⟨m8, em8, hD⟩ := bnd_el hD
  refine rp (Wf := fun z => Wf z o) (mm := m7) hx hb hT hu2 tyX2_ok nmX2 hown hK hP (hD1 _ (hAd _ _ _ _)) hS (hL o) q0 7 (Nat.lt_of_lt_of_le hbq0 (Nat.le_of_ble_eq_true rfl)) ((mfe haq0 hbq0) _ _) ((mfe haq0 hbq0) _ _) rfl (Nat.le_of_ble_eq_true rfl) (Fx0.T tw_2_16) rfl rfl rfl rfl (Nat.le_of_ble_eq_true rfl) dX2_copyFrom_67 em8 (fun H locs hP hS => ?_)
  refine lv_aload_n hx hb dX2_copyFrom_70 rfl (lv_at hl 0 rfl) ?_
  refine lv_aload_n hx hb dX2_copyFrom_71 rfl (lv_at hl 1 rfl) ?_
  refine rg (Wf := fun z => Wf m8 z) (mm := o) hx hb hT hu2 hown hK hP (hLo m8) q1 8 (Nat.lt_of_lt_of_le hbq1 (Nat.le_of_ble_eq_true rfl)) ((mfe haq1 hbq1) _ _) rfl (Nat.le_of_ble_eq_true rfl) (Fx0.T tw_2_18) rfl (v := .int (gi o q1 8)) rfl dX2_copyFrom_72 ?_
  obtain ⟨h9, hD⟩ := gb_el hD
  obtain ⟨m10, em10, hD⟩ := bnd_el hD
  refine rp (Wf := fun z => Wf z o) (mm := m8) hx hb hT hu2 tyX2_ok nmX2 hown hK hP (hD1 _ (hAd _ _ _ _)) hS (hL o) q0 8 (Nat.lt_of_lt_of_le hbq0 (Nat.le_of_ble_eq_true rfl)) ((mfe haq0 hbq0) _ _) ((mfe haq0 hbq0) _ _) rfl (Nat.le_of_ble_eq_true rfl) (Fx0.T tw_2_18) rfl rfl (nbz h9).1 (nbz h9).2 (Nat.le_of_ble_eq_true rfl) dX2_copyFrom_75 em10 (fun H locs hP hS => ?_)
  cases hD
  exact hret _ _ _ hP hS (fun Qc hq => W.vret hx hb hr hq hS.2.2 dX2_copyFrom_78 hlocks)

noncomputable def D_X5_copyFrom (m : MM) (o : MM) : Option MM := bnd (si m 28 0 (gi o 28 0)) (fun m1 => bnd (sr m1 29 (va_cpy (o.1 29) (m1.1 29) 0 0 8)) (fun m2 => bnd (sr m2 30 (va_cpy (o.1 30) (m2.1 30) 0 0 8)) (fun m3 => bnd (sr m3 31 (va_cpy (o.1 31) (m3.1 31) 0 0 8)) (fun m4 => bnd (sr m4 32 (va_cpy (o.1 32) (m4.1 32) 0 0 8)) (fun m5 => bnd (sr m5 33 (va_cpy (o.1 33) (m5.1 33) 0 0 8)) (fun m6 => bnd (sr m6 34 (va_cpy (o.1 34) (m6.1 34) 0 0 8)) (fun m7 => some (m7))))))))
set_option maxHeartbeats 4000000 in
set_option maxRecDepth 100000 in
theorem c_X5_copyFrom (l : Launch) {D : va_G} {cs : Nat → ClassId} {ad ado : Nat → Nat} {Wf : MM → MM → va_W} (hL : ∀ o : MM, Ln 51 ad (msh cs ad) (fun z => Wf z o)) (hLo : ∀ m : MM, Ln 51 ado (msh cs ado) (fun z => Wf m z)) (hAd : ∀ a0_ b0_ a1_ b1_ : MM, (Wf a0_ a1_).map (fun q => q.1) = (Wf b0_ b1_).map (fun q => q.1)) (m : MM) (o : MM) {m' : MM} (hD : D_X5_copyFrom m o = some (m')) : Ct l yX5_copyFrom cX5_copyFrom 2 none 1 64 D cs [.ref (ad 28), .ref (ado 28)] (Wf m o) (Wf m' o) (none) := by
  refine Ct.ofW (by decide) (Nat.le_of_ble_eq_true rfl) (hAd _ _ _ _) ?_
  intro p e s m0 below meth c A Q ls args hx hb hr hml hlocks hown hts hK hP hD1 hSS hS hA1 hl hret
  have hT : ∀ w ∈ TBL, w.before args s = true := fun w h => hts w (List.mem_cons_of_mem _ h)
  have Fx0 : Fx p l m0 c cX5_copyFrom 2 s args yX5_copyFrom cX5_copyFrom 2 none D cs A := ⟨hx, hb, hml, hown, hts, hK, hSS⟩
  have hown : s.vm.findClass RX5 = some m0.cls := hown
  have hl : lv_has ls 2 [(0, .ref (ad 28)), (1, .ref (ado 28))] := hl
  unfold D_X5_copyFrom at hD
  refine lv_aload_n hx hb dX5_copyFrom_0 rfl (lv_at hl 0 rfl) ?_
  refine lv_aload_n hx hb dX5_copyFrom_1 rfl (lv_at hl 1 rfl) ?_
  refine rg (Wf := fun z => Wf m z) (mm := o) hx hb hT hu5 hown hK hP (hLo m) 28 0 (Nat.le_of_ble_eq_true rfl) (ms28 _ _) rfl (Nat.le_of_ble_eq_true rfl) (Fx0.T tw_1_51) rfl (v := .int (gi o 28 0)) rfl dX5_copyFrom_2 ?_
  obtain ⟨m1, em1, hD⟩ := bnd_el hD
  refine rp (Wf := fun z => Wf z o) (mm := m) hx hb hT hu5 tyX5_ok nmX5 hown hK hP (hD1 _ (hAd _ _ _ _)) hS (hL o) 28 0 (Nat.le_of_ble_eq_true rfl) (ms28 _ _) (ms28 _ _) rfl (Nat.le_of_ble_eq_true rfl) (Fx0.T tw_1_51) rfl rfl rfl rfl (Nat.le_of_ble_eq_true rfl) dX5_copyFrom_5 em1 (fun H locs hP hS => ?_)
  refine lv_aload_n hx hb dX5_copyFrom_8 rfl (lv_at hl 1 rfl) ?_
  refine rg (Wf := fun z => Wf m1 z) (mm := o) hx hb hT hu5 hown hK hP (hLo m1) 28 1 (Nat.le_of_ble_eq_true rfl) (ms28 _ _) rfl (Nat.le_of_ble_eq_true rfl) (Fx0.T tw_1_55) rfl (v := .ref (ado 29)) rfl dX5_copyFrom_9 ?_
  refine lv_iconst (v := (0 : Int32)) hx hb dX5_copyFrom_12 (by decide) ?_
  refine lv_aload_n hx hb dX5_copyFrom_13 rfl (lv_at hl 0 rfl) ?_
  refine rg (Wf := fun z => Wf z o) (mm := m1) hx hb hT hu5 hown hK hP (hL o) 28 1 (Nat.le_of_ble_eq_true rfl) (ms28 _ _) rfl (Nat.le_of_ble_eq_true rfl) (Fx0.T tw_1_55) rfl (v := .ref (ad 29)) rfl dX5_copyFrom_14 ?_
  refine lv_iconst (v := (0 : Int32)) hx hb dX5_copyFrom_17 (by decide) ?_
  refine lv_bipush (v := (8 : Int32)) hx hb dX5_copyFrom_18 (by decide) ?_
  obtain ⟨m2, em2, hD⟩ := bnd_el hD
  refine rcp (Wf := fun z => Wf z o) (mm := m1) (Ws := fun z => Wf m1 z) (ms := o) hx hb (hml.trans hl.1.symm) hT hown tw_4_11 tw_2_47 tw_2_46 tw_1_8 hK hP (hD1 _ (hAd _ _ _ _)) hS (hLo m1) rfl 29 (Nat.le_of_ble_eq_true rfl) (ms29 _ _) (hL o) 29 (Nat.le_of_ble_eq_true rfl) (fun _ => ms29 _ _) (by decide) (by decide) (by decide) (by decide) (Nat.le_of_ble_eq_true rfl) (Nat.le_of_ble_eq_true rfl) dX5_copyFrom_20 em2 (fun H locs hP hS => ?_)
  refine lv_aload_n hx hb dX5_copyFrom_23 rfl (lv_at hl 1 rfl) ?_
  refine rg (Wf := fun z => Wf m2 z) (mm := o) hx hb hT hu5 hown hK hP (hLo m2) 28 2 (Nat.le_of_ble_eq_true rfl) (ms28 _ _) rfl (Nat.le_of_ble_eq_true rfl) (Fx0.T tw_1_58) rfl (v := .ref (ado 30)) rfl dX5_copyFrom_24 ?_
  refine lv_iconst (v := (0 : Int32)) hx hb dX5_copyFrom_27 (by decide) ?_
  refine lv_aload_n hx hb dX5_copyFrom_28 rfl (lv_at hl 0 rfl) ?_
  refine rg (Wf := fun z => Wf z o) (mm := m2) hx hb hT hu5 hown hK hP (hL o) 28 2 (Nat.le_of_ble_eq_true rfl) (ms28 _ _) rfl (Nat.le_of_ble_eq_true rfl) (Fx0.T tw_1_58) rfl (v := .ref (ad 30)) rfl dX5_copyFrom_29 ?_
  refine lv_iconst (v := (0 : Int32)) hx hb dX5_copyFrom_32 (by decide) ?_
  refine lv_bipush (v := (8 : Int32)) hx hb dX5_copyFrom_33 (by decide) ?_
  obtain ⟨m3, em3, hD⟩ := bnd_el hD
  refine rcp (Wf := fun z => Wf z o) (mm := m2) (Ws := fun z => Wf m2 z) (ms := o) hx hb (hml.trans hl.1.symm) hT hown tw_4_11 tw_2_47 tw_2_46 tw_1_8 hK hP (hD1 _ (hAd _ _ _ _)) hS (hLo m2) rfl 30 (Nat.le_of_ble_eq_true rfl) (ms30 _ _) (hL o) 30 (Nat.le_of_ble_eq_true rfl) (fun _ => ms30 _ _) (by decide) (by decide) (by decide) (by decide) (Nat.le_of_ble_eq_true rfl) (Nat.le_of_ble_eq_true rfl) dX5_copyFrom_35 em3 (fun H locs hP hS => ?_)
  refine lv_aload_n hx hb dX5_copyFrom_38 rfl (lv_at hl 1 rfl) ?_
  refine rg (Wf := fun z => Wf m3 z) (mm := o) hx hb hT hu5 hown hK hP (hLo m3) 28 3 (Nat.le_of_ble_eq_true rfl) (ms28 _ _) rfl (Nat.le_of_ble_eq_true rfl) (Fx0.T tw_1_61) rfl (v := .ref (ado 31)) rfl dX5_copyFrom_39 ?_
  refine lv_iconst (v := (0 : Int32)) hx hb dX5_copyFrom_42 (by decide) ?_
  refine lv_aload_n hx hb dX5_copyFrom_43 rfl (lv_at hl 0 rfl) ?_
  refine rg (Wf := fun z => Wf z o) (mm := m3) hx hb hT hu5 hown hK hP (hL o) 28 3 (Nat.le_of_ble_eq_true rfl) (ms28 _ _) rfl (Nat.le_of_ble_eq_true rfl) (Fx0.T tw_1_61) rfl (v := .ref (ad 31)) rfl dX5_copyFrom_44 ?_
  refine lv_iconst (v := (0 : Int32)) hx hb dX5_copyFrom_47 (by decide) ?_
  refine lv_bipush (v := (8 : Int32)) hx hb dX5_copyFrom_48 (by decide) ?_
  obtain ⟨m4, em4, hD⟩ := bnd_el hD
  refine rcp (Wf := fun z => Wf z o) (mm := m3) (Ws := fun z => Wf m3 z) (ms := o) hx hb (hml.trans hl.1.symm) hT hown tw_4_11 tw_2_47 tw_2_46 tw_1_8 hK hP (hD1 _ (hAd _ _ _ _)) hS (hLo m3) rfl 31 (Nat.le_of_ble_eq_true rfl) (ms31 _ _) (hL o) 31 (Nat.le_of_ble_eq_true rfl) (fun _ => ms31 _ _) (by decide) (by decide) (by decide) (by decide) (Nat.le_of_ble_eq_true rfl) (Nat.le_of_ble_eq_true rfl) dX5_copyFrom_50 em4 (fun H locs hP hS => ?_)
  refine lv_aload_n hx hb dX5_copyFrom_53 rfl (lv_at hl 1 rfl) ?_
  refine rg (Wf := fun z => Wf m4 z) (mm := o) hx hb hT hu5 hown hK hP (hLo m4) 28 4 (Nat.le_of_ble_eq_true rfl) (ms28 _ _) rfl (Nat.le_of_ble_eq_true rfl) (Fx0.T tw_1_63) rfl (v := .ref (ado 32)) rfl dX5_copyFrom_54 ?_
  refine lv_iconst (v := (0 : Int32)) hx hb dX5_copyFrom_57 (by decide) ?_
  refine lv_aload_n hx hb dX5_copyFrom_58 rfl (lv_at hl 0 rfl) ?_
  refine rg (Wf := fun z => Wf z o) (mm := m4) hx hb hT hu5 hown hK hP (hL o) 28 4 (Nat.le_of_ble_eq_true rfl) (ms28 _ _) rfl (Nat.le_of_ble_eq_true rfl) (Fx0.T tw_1_63) rfl (v := .ref (ad 32)) rfl dX5_copyFrom_59 ?_
  refine lv_iconst (v := (0 : Int32)) hx hb dX5_copyFrom_62 (by decide) ?_
  refine lv_bipush (v := (8 : Int32)) hx hb dX5_copyFrom_63 (by decide) ?_
  obtain ⟨m5, em5, hD⟩ := bnd_el hD
  refine rcp (Wf := fun z => Wf z o) (mm := m4) (Ws := fun z => Wf m4 z) (ms := o) hx hb (hml.trans hl.1.symm) hT hown tw_4_11 tw_2_47 tw_2_46 tw_1_8 hK hP (hD1 _ (hAd _ _ _ _)) hS (hLo m4) rfl 32 (Nat.le_of_ble_eq_true rfl) (ms32 _ _) (hL o) 32 (Nat.le_of_ble_eq_true rfl) (fun _ => ms32 _ _) (by decide) (by decide) (by decide) (by decide) (Nat.le_of_ble_eq_true rfl) (Nat.le_of_ble_eq_true rfl) dX5_copyFrom_65 em5 (fun H locs hP hS => ?_)
  refine lv_aload_n hx hb dX5_copyFrom_68 rfl (lv_at hl 1 rfl) ?_
  refine rg (Wf := fun z => Wf m5 z) (mm := o) hx hb hT hu5 hown hK hP (hLo m5) 28 5 (Nat.le_of_ble_eq_true rfl) (ms28 _ _) rfl (Nat.le_of_ble_eq_true rfl) (Fx0.T tw_1_65) rfl (v := .ref (ado 33)) rfl dX5_copyFrom_69 ?_
  refine lv_iconst (v := (0 : Int32)) hx hb dX5_copyFrom_72 (by decide) ?_
  refine lv_aload_n hx hb dX5_copyFrom_73 rfl (lv_at hl 0 rfl) ?_
  refine rg (Wf := fun z => Wf z o) (mm := m5) hx hb hT hu5 hown hK hP (hL o) 28 5 (Nat.le_of_ble_eq_true rfl) (ms28 _ _) rfl (Nat.le_of_ble_eq_true rfl) (Fx0.T tw_1_65) rfl (v := .ref (ad 33)) rfl dX5_copyFrom_74 ?_
  refine lv_iconst (v := (0 : Int32)) hx hb dX5_copyFrom_77 (by decide) ?_
  refine lv_bipush (v := (8 : Int32)) hx hb dX5_copyFrom_78 (by decide) ?_
  obtain ⟨m6, em6, hD⟩ := bnd_el hD
  refine rcp (Wf := fun z => Wf z o) (mm := m5) (Ws := fun z => Wf m5 z) (ms := o) hx hb (hml.trans hl.1.symm) hT hown tw_4_11 tw_2_47 tw_2_46 tw_1_8 hK hP (hD1 _ (hAd _ _ _ _)) hS (hLo m5) rfl 33 (Nat.le_of_ble_eq_true rfl) (ms33 _ _) (hL o) 33 (Nat.le_of_ble_eq_true rfl) (fun _ => ms33 _ _) (by decide) (by decide) (by decide) (by decide) (Nat.le_of_ble_eq_true rfl) (Nat.le_of_ble_eq_true rfl) dX5_copyFrom_80 em6 (fun H locs hP hS => ?_)
  refine lv_aload_n hx hb dX5_copyFrom_83 rfl (lv_at hl 1 rfl) ?_
  refine rg (Wf := fun z => Wf m6 z) (mm := o) hx hb hT hu5 hown hK hP (hLo m6) 28 6 (Nat.le_of_ble_eq_true rfl) (ms28 _ _) rfl (Nat.le_of_ble_eq_true rfl) (Fx0.T tw_1_67) rfl (v := .ref (ado 34)) rfl dX5_copyFrom_84 ?_
  refine lv_iconst (v := (0 : Int32)) hx hb dX5_copyFrom_87 (by decide) ?_
  refine lv_aload_n hx hb dX5_copyFrom_88 rfl (lv_at hl 0 rfl) ?_
  refine rg (Wf := fun z => Wf z o) (mm := m6) hx hb hT hu5 hown hK hP (hL o) 28 6 (Nat.le_of_ble_eq_true rfl) (ms28 _ _) rfl (Nat.le_of_ble_eq_true rfl) (Fx0.T tw_1_67) rfl (v := .ref (ad 34)) rfl dX5_copyFrom_89 ?_
  refine lv_iconst (v := (0 : Int32)) hx hb dX5_copyFrom_92 (by decide) ?_
  refine lv_bipush (v := (8 : Int32)) hx hb dX5_copyFrom_93 (by decide) ?_
  obtain ⟨m7, em7, hD⟩ := bnd_el hD
  refine rcp (Wf := fun z => Wf z o) (mm := m6) (Ws := fun z => Wf m6 z) (ms := o) hx hb (hml.trans hl.1.symm) hT hown tw_4_11 tw_2_47 tw_2_46 tw_1_8 hK hP (hD1 _ (hAd _ _ _ _)) hS (hLo m6) rfl 34 (Nat.le_of_ble_eq_true rfl) (ms34 _ _) (hL o) 34 (Nat.le_of_ble_eq_true rfl) (fun _ => ms34 _ _) (by decide) (by decide) (by decide) (by decide) (Nat.le_of_ble_eq_true rfl) (Nat.le_of_ble_eq_true rfl) dX5_copyFrom_95 em7 (fun H locs hP hS => ?_)
  cases hD
  exact hret _ _ _ hP hS (fun Qc hq => W.vret hx hb hr hq hS.2.2 dX5_copyFrom_98 hlocks)

noncomputable def D_X0_copyFrom (m : MM) (o : MM) : Option MM := bnd (si m 36 0 (gi o 36 0)) (fun m1 => if (0 : Int32) < 0 ∨ (0 : Int32) < 0 ∨ (gi m1 36 0) < 0 ∨ 40 < 0 + (gi m1 36 0).toNatClampNeg ∨ 40 < 0 + (gi m1 36 0).toNatClampNeg then none else (bnd (sr m1 37 (va_cpy (o.1 37) (m1.1 37) 0 0 ((gi m1 36 0).toNatClampNeg))) (fun m3 => if (0 : Int32) < 0 ∨ (0 : Int32) < 0 ∨ (gi m3 36 0) < 0 ∨ 40 < 0 + (gi m3 36 0).toNatClampNeg ∨ 40 < 0 + (gi m3 36 0).toNatClampNeg then none else (bnd (sr m3 38 (va_cpy (o.1 38) (m3.1 38) 0 0 ((gi m3 36 0).toNatClampNeg))) (fun m5 => if (0 : Int32) < 0 ∨ (0 : Int32) < 0 ∨ (gi m5 36 0) < 0 ∨ 40 < 0 + (gi m5 36 0).toNatClampNeg ∨ 40 < 0 + (gi m5 36 0).toNatClampNeg then none else (bnd (sr m5 39 (va_cpy (o.1 39) (m5.1 39) 0 0 ((gi m5 36 0).toNatClampNeg))) (fun m7 => if (0 : Int32) < 0 ∨ (0 : Int32) < 0 ∨ (gi m7 36 0) < 0 ∨ 40 < 0 + (gi m7 36 0).toNatClampNeg ∨ 40 < 0 + (gi m7 36 0).toNatClampNeg then none else (bnd (sr m7 40 (va_cpy (o.1 40) (m7.1 40) 0 0 ((gi m7 36 0).toNatClampNeg))) (fun m9 => if (0 : Int32) < 0 ∨ (0 : Int32) < 0 ∨ (gi m9 36 0) < 0 ∨ 40 < 0 + (gi m9 36 0).toNatClampNeg ∨ 40 < 0 + (gi m9 36 0).toNatClampNeg then none else (bnd (sr m9 41 (va_cpy (o.1 41) (m9.1 41) 0 0 ((gi m9 36 0).toNatClampNeg))) (fun m11 => bnd (sR m11 42 (va_cpy (o.2 42) (m11.2 42) 0 0 8)) (fun m12 => bnd (sl m12 36 7 (gl o 36 7)) (fun m13 => bnd (sl m13 36 8 (gl o 36 8)) (fun m14 => bnd (si m14 36 9 (gi o 36 9)) (fun m15 => if (0 : Int32) < 0 ∨ (0 : Int32) < 0 ∨ (gi m15 36 9) < 0 ∨ 20 < 0 + (gi m15 36 9).toNatClampNeg ∨ 20 < 0 + (gi m15 36 9).toNatClampNeg then none else (bnd (sr m15 43 (va_cpy (o.1 43) (m15.1 43) 0 0 ((gi m15 36 9).toNatClampNeg))) (fun m17 => if (0 : Int32) < 0 ∨ (0 : Int32) < 0 ∨ (gi m17 36 9) < 0 ∨ 20 < 0 + (gi m17 36 9).toNatClampNeg ∨ 20 < 0 + (gi m17 36 9).toNatClampNeg then none else (bnd (sr m17 44 (va_cpy (o.1 44) (m17.1 44) 0 0 ((gi m17 36 9).toNatClampNeg))) (fun m19 => some (m19))))))))))))))))))))
set_option maxHeartbeats 4000000 in
set_option maxRecDepth 100000 in
theorem c_X0_copyFrom (l : Launch) {D : va_G} {cs : Nat → ClassId} {ad ado : Nat → Nat} {Wf : MM → MM → va_W} (hL : ∀ o : MM, Ln 51 ad (msh cs ad) (fun z => Wf z o)) (hLo : ∀ m : MM, Ln 51 ado (msh cs ado) (fun z => Wf m z)) (hAd : ∀ a0_ b0_ a1_ b1_ : MM, (Wf a0_ a1_).map (fun q => q.1) = (Wf b0_ b1_).map (fun q => q.1)) (m : MM) (o : MM) {m' : MM} (hD : D_X0_copyFrom m o = some (m')) : Ct l yX0_copyFrom cX0_copyFrom 2 none 1 64 D cs [.ref (ad 36), .ref (ado 36)] (Wf m o) (Wf m' o) (none) := by
  refine Ct.ofW (by decide) (Nat.le_of_ble_eq_true rfl) (hAd _ _ _ _) ?_
  intro p e s m0 below meth c A Q ls args hx hb hr hml hlocks hown hts hK hP hD1 hSS hS hA1 hl hret
  have hT : ∀ w ∈ TBL, w.before args s = true := fun w h => hts w (List.mem_cons_of_mem _ h)
  have Fx0 : Fx p l m0 c cX0_copyFrom 2 s args yX0_copyFrom cX0_copyFrom 2 none D cs A := ⟨hx, hb, hml, hown, hts, hK, hSS⟩
  have hown : s.vm.findClass RX0 = some m0.cls := hown
  have hl : lv_has ls 2 [(0, .ref (ad 36)), (1, .ref (ado 36))] := hl
  unfold D_X0_copyFrom at hD
  refine lv_aload_n hx hb dX0_copyFrom_0 rfl (lv_at hl 0 rfl) ?_
  refine lv_aload_n hx hb dX0_copyFrom_1 rfl (lv_at hl 1 rfl) ?_
  refine rg (Wf := fun z => Wf m z) (mm := o) hx hb hT hu0 hown hK hP (hLo m) 36 0 (Nat.le_of_ble_eq_true rfl) (ms36 _ _) rfl (Nat.le_of_ble_eq_true rfl) (Fx0.T tw_1_95) rfl (v := .int (gi o 36 0)) rfl dX0_copyFrom_2 ?_
  obtain ⟨m1, em1, hD⟩ := bnd_el hD
  refine rp (Wf := fun z => Wf z o) (mm := m) hx hb hT hu0 tyX0_ok nmX0 hown hK hP (hD1 _ (hAd _ _ _ _)) hS (hL o) 36 0 (Nat.le_of_ble_eq_true rfl) (ms36 _ _) (ms36 _ _) rfl (Nat.le_of_ble_eq_true rfl) (Fx0.T tw_1_95) rfl rfl rfl rfl (Nat.le_of_ble_eq_true rfl) dX0_copyFrom_5 em1 (fun H locs hP hS => ?_)
  refine lv_aload_n hx hb dX0_copyFrom_8 rfl (lv_at hl 1 rfl) ?_
  refine rg (Wf := fun z => Wf m1 z) (mm := o) hx hb hT hu0 hown hK hP (hLo m1) 36 1 (Nat.le_of_ble_eq_true rfl) (ms36 _ _) rfl (Nat.le_of_ble_eq_true rfl) (Fx0.T tw_1_99) rfl (v := .ref (ado 37)) rfl dX0_copyFrom_9 ?_
  refine lv_iconst (v := (0 : Int32)) hx hb dX0_copyFrom_12 (by decide) ?_
  refine lv_aload_n hx hb dX0_copyFrom_13 rfl (lv_at hl 0 rfl) ?_
  refine rg (Wf := fun z => Wf z o) (mm := m1) hx hb hT hu0 hown hK hP (hL o) 36 1 (Nat.le_of_ble_eq_true rfl) (ms36 _ _) rfl (Nat.le_of_ble_eq_true rfl) (Fx0.T tw_1_99) rfl (v := .ref (ad 37)) rfl dX0_copyFrom_14 ?_
  refine lv_iconst (v := (0 : Int32)) hx hb dX0_copyFrom_17 (by decide) ?_
  refine lv_aload_n hx hb dX0_copyFrom_18 rfl (lv_at hl 0 rfl) ?_
  refine rg (Wf := fun z => Wf z o) (mm := m1) hx hb hT hu0 hown hK hP (hL o) 36 0 (Nat.le_of_ble_eq_true rfl) (ms36 _ _) rfl (Nat.le_of_ble_eq_true rfl) (Fx0.T tw_1_95) rfl (v := .int (gi m1 36 0)) rfl dX0_copyFrom_19 ?_
  obtain ⟨h2, hD⟩ := gd_el hD
  obtain ⟨m3, em3, hD⟩ := bnd_el hD
  refine rcp (Wf := fun z => Wf z o) (mm := m1) (Ws := fun z => Wf m1 z) (ms := o) hx hb (hml.trans hl.1.symm) hT hown tw_4_21 tw_2_47 tw_2_46 tw_1_8 hK hP (hD1 _ (hAd _ _ _ _)) hS (hLo m1) rfl 37 (Nat.le_of_ble_eq_true rfl) (ms37 _ _) (hL o) 37 (Nat.le_of_ble_eq_true rfl) (fun _ => ms37 _ _) (by decide) (by decide) rfl h2 (Nat.le_of_ble_eq_true rfl) (Nat.le_of_ble_eq_true rfl) dX0_copyFrom_22 em3 (fun H locs hP hS => ?_)
  refine lv_aload_n hx hb dX0_copyFrom_25 rfl (lv_at hl 1 rfl) ?_
  refine rg (Wf := fun z => Wf m3 z) (mm := o) hx hb hT hu0 hown hK hP (hLo m3) 36 2 (Nat.le_of_ble_eq_true rfl) (ms36 _ _) rfl (Nat.le_of_ble_eq_true rfl) (Fx0.T tw_1_101) rfl (v := .ref (ado 38)) rfl dX0_copyFrom_26 ?_
  refine lv_iconst (v := (0 : Int32)) hx hb dX0_copyFrom_29 (by decide) ?_
  refine lv_aload_n hx hb dX0_copyFrom_30 rfl (lv_at hl 0 rfl) ?_
  refine rg (Wf := fun z => Wf z o) (mm := m3) hx hb hT hu0 hown hK hP (hL o) 36 2 (Nat.le_of_ble_eq_true rfl) (ms36 _ _) rfl (Nat.le_of_ble_eq_true rfl) (Fx0.T tw_1_101) rfl (v := .ref (ad 38)) rfl dX0_copyFrom_31 ?_
  refine lv_iconst (v := (0 : Int32)) hx hb dX0_copyFrom_34 (by decide) ?_
  refine lv_aload_n hx hb dX0_copyFrom_35 rfl (lv_at hl 0 rfl) ?_
  refine rg (Wf := fun z => Wf z o) (mm := m3) hx hb hT hu0 hown hK hP (hL o) 36 0 (Nat.le_of_ble_eq_true rfl) (ms36 _ _) rfl (Nat.le_of_ble_eq_true rfl) (Fx0.T tw_1_95) rfl (v := .int (gi m3 36 0)) rfl dX0_copyFrom_36 ?_
  obtain ⟨h4, hD⟩ := gd_el hD
  obtain ⟨m5, em5, hD⟩ := bnd_el hD
  refine rcp (Wf := fun z => Wf z o) (mm := m3) (Ws := fun z => Wf m3 z) (ms := o) hx hb (hml.trans hl.1.symm) hT hown tw_4_21 tw_2_47 tw_2_46 tw_1_8 hK hP (hD1 _ (hAd _ _ _ _)) hS (hLo m3) rfl 38 (Nat.le_of_ble_eq_true rfl) (ms38 _ _) (hL o) 38 (Nat.le_of_ble_eq_true rfl) (fun _ => ms38 _ _) (by decide) (by decide) rfl h4 (Nat.le_of_ble_eq_true rfl) (Nat.le_of_ble_eq_true rfl) dX0_copyFrom_39 em5 (fun H locs hP hS => ?_)
  refine lv_aload_n hx hb dX0_copyFrom_42 rfl (lv_at hl 1 rfl) ?_
  refine rg (Wf := fun z => Wf m5 z) (mm := o) hx hb hT hu0 hown hK hP (hLo m5) 36 3 (Nat.le_of_ble_eq_true rfl) (ms36 _ _) rfl (Nat.le_of_ble_eq_true rfl) (Fx0.T tw_1_104) rfl (v := .ref (ado 39)) rfl dX0_copyFrom_43 ?_
  refine lv_iconst (v := (0 : Int32)) hx hb dX0_copyFrom_46 (by decide) ?_
  refine lv_aload_n hx hb dX0_copyFrom_47 rfl (lv_at hl 0 rfl) ?_
  refine rg (Wf := fun z => Wf z o) (mm := m5) hx hb hT hu0 hown hK hP (hL o) 36 3 (Nat.le_of_ble_eq_true rfl) (ms36 _ _) rfl (Nat.le_of_ble_eq_true rfl) (Fx0.T tw_1_104) rfl (v := .ref (ad 39)) rfl dX0_copyFrom_48 ?_
  refine lv_iconst (v := (0 : Int32)) hx hb dX0_copyFrom_51 (by decide) ?_
  refine lv_aload_n hx hb dX0_copyFrom_52 rfl (lv_at hl 0 rfl) ?_
  refine rg (Wf := fun z => Wf z o) (mm := m5) hx hb hT hu0 hown hK hP (hL o) 36 0 (Nat.le_of_ble_eq_true rfl) (ms36 _ _) rfl (Nat.le_of_ble_eq_true rfl) (Fx0.T tw_1_95) rfl (v := .int (gi m5 36 0)) rfl dX0_copyFrom_53 ?_
  obtain ⟨h6, hD⟩ := gd_el hD
  obtain ⟨m7, em7, hD⟩ := bnd_el hD
  refine rcp (Wf := fun z => Wf z o) (mm := m5) (Ws := fun z => Wf m5 z) (ms := o) hx hb (hml.trans hl.1.symm) hT hown tw_4_21 tw_2_47 tw_2_46 tw_1_8 hK hP (hD1 _ (hAd _ _ _ _)) hS (hLo m5) rfl 39 (Nat.le_of_ble_eq_true rfl) (ms39 _ _) (hL o) 39 (Nat.le_of_ble_eq_true rfl) (fun _ => ms39 _ _) (by decide) (by decide) rfl h6 (Nat.le_of_ble_eq_true rfl) (Nat.le_of_ble_eq_true rfl) dX0_copyFrom_56 em7 (fun H locs hP hS => ?_)
  refine lv_aload_n hx hb dX0_copyFrom_59 rfl (lv_at hl 1 rfl) ?_
  refine rg (Wf := fun z => Wf m7 z) (mm := o) hx hb hT hu0 hown hK hP (hLo m7) 36 4 (Nat.le_of_ble_eq_true rfl) (ms36 _ _) rfl (Nat.le_of_ble_eq_true rfl) (Fx0.T tw_1_107) rfl (v := .ref (ado 40)) rfl dX0_copyFrom_60 ?_
  refine lv_iconst (v := (0 : Int32)) hx hb dX0_copyFrom_63 (by decide) ?_
  refine lv_aload_n hx hb dX0_copyFrom_64 rfl (lv_at hl 0 rfl) ?_
  refine rg (Wf := fun z => Wf z o) (mm := m7) hx hb hT hu0 hown hK hP (hL o) 36 4 (Nat.le_of_ble_eq_true rfl) (ms36 _ _) rfl (Nat.le_of_ble_eq_true rfl) (Fx0.T tw_1_107) rfl (v := .ref (ad 40)) rfl dX0_copyFrom_65 ?_
  refine lv_iconst (v := (0 : Int32)) hx hb dX0_copyFrom_68 (by decide) ?_
  refine lv_aload_n hx hb dX0_copyFrom_69 rfl (lv_at hl 0 rfl) ?_
  refine rg (Wf := fun z => Wf z o) (mm := m7) hx hb hT hu0 hown hK hP (hL o) 36 0 (Nat.le_of_ble_eq_true rfl) (ms36 _ _) rfl (Nat.le_of_ble_eq_true rfl) (Fx0.T tw_1_95) rfl (v := .int (gi m7 36 0)) rfl dX0_copyFrom_70 ?_
  obtain ⟨h8, hD⟩ := gd_el hD
  obtain ⟨m9, em9, hD⟩ := bnd_el hD
  refine rcp (Wf := fun z => Wf z o) (mm := m7) (Ws := fun z => Wf m7 z) (ms := o) hx hb (hml.trans hl.1.symm) hT hown tw_4_21 tw_2_47 tw_2_46 tw_1_8 hK hP (hD1 _ (hAd _ _ _ _)) hS (hLo m7) rfl 40 (Nat.le_of_ble_eq_true rfl) (ms40 _ _) (hL o) 40 (Nat.le_of_ble_eq_true rfl) (fun _ => ms40 _ _) (by decide) (by decide) rfl h8 (Nat.le_of_ble_eq_true rfl) (Nat.le_of_ble_eq_true rfl) dX0_copyFrom_73 em9 (fun H locs hP hS => ?_)
  refine lv_aload_n hx hb dX0_copyFrom_76 rfl (lv_at hl 1 rfl) ?_
  refine rg (Wf := fun z => Wf m9 z) (mm := o) hx hb hT hu0 hown hK hP (hLo m9) 36 5 (Nat.le_of_ble_eq_true rfl) (ms36 _ _) rfl (Nat.le_of_ble_eq_true rfl) (Fx0.T tw_1_108) rfl (v := .ref (ado 41)) rfl dX0_copyFrom_77 ?_
  refine lv_iconst (v := (0 : Int32)) hx hb dX0_copyFrom_80 (by decide) ?_
  refine lv_aload_n hx hb dX0_copyFrom_81 rfl (lv_at hl 0 rfl) ?_
  refine rg (Wf := fun z => Wf z o) (mm := m9) hx hb hT hu0 hown hK hP (hL o) 36 5 (Nat.le_of_ble_eq_true rfl) (ms36 _ _) rfl (Nat.le_of_ble_eq_true rfl) (Fx0.T tw_1_108) rfl (v := .ref (ad 41)) rfl dX0_copyFrom_82 ?_
  refine lv_iconst (v := (0 : Int32)) hx hb dX0_copyFrom_85 (by decide) ?_
  refine lv_aload_n hx hb dX0_copyFrom_86 rfl (lv_at hl 0 rfl) ?_
  refine rg (Wf := fun z => Wf z o) (mm := m9) hx hb hT hu0 hown hK hP (hL o) 36 0 (Nat.le_of_ble_eq_true rfl) (ms36 _ _) rfl (Nat.le_of_ble_eq_true rfl) (Fx0.T tw_1_95) rfl (v := .int (gi m9 36 0)) rfl dX0_copyFrom_87 ?_
  obtain ⟨h10, hD⟩ := gd_el hD
  obtain ⟨m11, em11, hD⟩ := bnd_el hD
  refine rcp (Wf := fun z => Wf z o) (mm := m9) (Ws := fun z => Wf m9 z) (ms := o) hx hb (hml.trans hl.1.symm) hT hown tw_4_21 tw_2_47 tw_2_46 tw_1_8 hK hP (hD1 _ (hAd _ _ _ _)) hS (hLo m9) rfl 41 (Nat.le_of_ble_eq_true rfl) (ms41 _ _) (hL o) 41 (Nat.le_of_ble_eq_true rfl) (fun _ => ms41 _ _) (by decide) (by decide) rfl h10 (Nat.le_of_ble_eq_true rfl) (Nat.le_of_ble_eq_true rfl) dX0_copyFrom_90 em11 (fun H locs hP hS => ?_)
  refine lv_aload_n hx hb dX0_copyFrom_93 rfl (lv_at hl 1 rfl) ?_
  refine rg (Wf := fun z => Wf m11 z) (mm := o) hx hb hT hu0 hown hK hP (hLo m11) 36 6 (Nat.le_of_ble_eq_true rfl) (ms36 _ _) rfl (Nat.le_of_ble_eq_true rfl) (Fx0.T tw_1_109) rfl (v := .ref (ado 42)) rfl dX0_copyFrom_94 ?_
  refine lv_iconst (v := (0 : Int32)) hx hb dX0_copyFrom_97 (by decide) ?_
  refine lv_aload_n hx hb dX0_copyFrom_98 rfl (lv_at hl 0 rfl) ?_
  refine rg (Wf := fun z => Wf z o) (mm := m11) hx hb hT hu0 hown hK hP (hL o) 36 6 (Nat.le_of_ble_eq_true rfl) (ms36 _ _) rfl (Nat.le_of_ble_eq_true rfl) (Fx0.T tw_1_109) rfl (v := .ref (ad 42)) rfl dX0_copyFrom_99 ?_
  refine lv_iconst (v := (0 : Int32)) hx hb dX0_copyFrom_102 (by decide) ?_
  refine lv_bipush (v := (8 : Int32)) hx hb dX0_copyFrom_103 (by decide) ?_
  obtain ⟨m12, em12, hD⟩ := bnd_el hD
  refine rcpL (Wf := fun z => Wf z o) (mm := m11) (Ws := fun z => Wf m11 z) (ms := o) hx hb (hml.trans hl.1.symm) hT hown tw_4_21 tw_2_47 tw_2_46 tw_1_8 hK hP (hD1 _ (hAd _ _ _ _)) hS (hLo m11) rfl 42 (Nat.le_of_ble_eq_true rfl) (ms42 _ _) (hL o) 42 (Nat.le_of_ble_eq_true rfl) (fun _ => ms42 _ _) (by decide) (by decide) (by decide) (by decide) (Nat.le_of_ble_eq_true rfl) (Nat.le_of_ble_eq_true rfl) dX0_copyFrom_105 em12 (fun H locs hP hS => ?_)
  refine lv_aload_n hx hb dX0_copyFrom_108 rfl (lv_at hl 0 rfl) ?_
  refine lv_aload_n hx hb dX0_copyFrom_109 rfl (lv_at hl 1 rfl) ?_
  refine rg (Wf := fun z => Wf m12 z) (mm := o) hx hb hT hu0 hown hK hP (hLo m12) 36 7 (Nat.le_of_ble_eq_true rfl) (ms36 _ _) rfl (Nat.le_of_ble_eq_true rfl) (Fx0.T tw_1_111) rfl (v := .long (gl o 36 7)) rfl dX0_copyFrom_110 ?_
  obtain ⟨m13, em13, hD⟩ := bnd_el hD
  refine rpL (Wf := fun z => Wf z o) (mm := m12) hx hb hT hu0 tyX0_ok nmX0 hown hK hP (hD1 _ (hAd _ _ _ _)) hS (hL o) 36 7 (Nat.le_of_ble_eq_true rfl) (ms36 _ _) (ms36 _ _) rfl (Nat.le_of_ble_eq_true rfl) (Fx0.T tw_1_111) rfl rfl rfl rfl (Nat.le_of_ble_eq_true rfl) dX0_copyFrom_113 em13 (fun H locs hP hS => ?_)
  refine lv_aload_n hx hb dX0_copyFrom_116 rfl (lv_at hl 0 rfl) ?_
  refine lv_aload_n hx hb dX0_copyFrom_117 rfl (lv_at hl 1 rfl) ?_
  refine rg (Wf := fun z => Wf m13 z) (mm := o) hx hb hT hu0 hown hK hP (hLo m13) 36 8 (Nat.le_of_ble_eq_true rfl) (ms36 _ _) rfl (Nat.le_of_ble_eq_true rfl) (Fx0.T tw_1_113) rfl (v := .long (gl o 36 8)) rfl dX0_copyFrom_118 ?_
  obtain ⟨m14, em14, hD⟩ := bnd_el hD
  refine rpL (Wf := fun z => Wf z o) (mm := m13) hx hb hT hu0 tyX0_ok nmX0 hown hK hP (hD1 _ (hAd _ _ _ _)) hS (hL o) 36 8 (Nat.le_of_ble_eq_true rfl) (ms36 _ _) (ms36 _ _) rfl (Nat.le_of_ble_eq_true rfl) (Fx0.T tw_1_113) rfl rfl rfl rfl (Nat.le_of_ble_eq_true rfl) dX0_copyFrom_121 em14 (fun H locs hP hS => ?_)
  refine lv_aload_n hx hb dX0_copyFrom_124 rfl (lv_at hl 0 rfl) ?_
  refine lv_aload_n hx hb dX0_copyFrom_125 rfl (lv_at hl 1 rfl) ?_
  refine rg (Wf := fun z => Wf m14 z) (mm := o) hx hb hT hu0 hown hK hP (hLo m14) 36 9 (Nat.le_of_ble_eq_true rfl) (ms36 _ _) rfl (Nat.le_of_ble_eq_true rfl) (Fx0.T tw_1_115) rfl (v := .int (gi o 36 9)) rfl dX0_copyFrom_126 ?_
  obtain ⟨m15, em15, hD⟩ := bnd_el hD
  refine rp (Wf := fun z => Wf z o) (mm := m14) hx hb hT hu0 tyX0_ok nmX0 hown hK hP (hD1 _ (hAd _ _ _ _)) hS (hL o) 36 9 (Nat.le_of_ble_eq_true rfl) (ms36 _ _) (ms36 _ _) rfl (Nat.le_of_ble_eq_true rfl) (Fx0.T tw_1_115) rfl rfl rfl rfl (Nat.le_of_ble_eq_true rfl) dX0_copyFrom_129 em15 (fun H locs hP hS => ?_)
  refine lv_aload_n hx hb dX0_copyFrom_132 rfl (lv_at hl 1 rfl) ?_
  refine rg (Wf := fun z => Wf m15 z) (mm := o) hx hb hT hu0 hown hK hP (hLo m15) 36 10 (Nat.le_of_ble_eq_true rfl) (ms36 _ _) rfl (Nat.le_of_ble_eq_true rfl) (Fx0.T tw_1_118) rfl (v := .ref (ado 43)) rfl dX0_copyFrom_133 ?_
  refine lv_iconst (v := (0 : Int32)) hx hb dX0_copyFrom_136 (by decide) ?_
  refine lv_aload_n hx hb dX0_copyFrom_137 rfl (lv_at hl 0 rfl) ?_
  refine rg (Wf := fun z => Wf z o) (mm := m15) hx hb hT hu0 hown hK hP (hL o) 36 10 (Nat.le_of_ble_eq_true rfl) (ms36 _ _) rfl (Nat.le_of_ble_eq_true rfl) (Fx0.T tw_1_118) rfl (v := .ref (ad 43)) rfl dX0_copyFrom_138 ?_
  refine lv_iconst (v := (0 : Int32)) hx hb dX0_copyFrom_141 (by decide) ?_
  refine lv_aload_n hx hb dX0_copyFrom_142 rfl (lv_at hl 0 rfl) ?_
  refine rg (Wf := fun z => Wf z o) (mm := m15) hx hb hT hu0 hown hK hP (hL o) 36 9 (Nat.le_of_ble_eq_true rfl) (ms36 _ _) rfl (Nat.le_of_ble_eq_true rfl) (Fx0.T tw_1_115) rfl (v := .int (gi m15 36 9)) rfl dX0_copyFrom_143 ?_
  obtain ⟨h16, hD⟩ := gd_el hD
  obtain ⟨m17, em17, hD⟩ := bnd_el hD
  refine rcp (Wf := fun z => Wf z o) (mm := m15) (Ws := fun z => Wf m15 z) (ms := o) hx hb (hml.trans hl.1.symm) hT hown tw_4_21 tw_2_47 tw_2_46 tw_1_8 hK hP (hD1 _ (hAd _ _ _ _)) hS (hLo m15) rfl 43 (Nat.le_of_ble_eq_true rfl) (ms43 _ _) (hL o) 43 (Nat.le_of_ble_eq_true rfl) (fun _ => ms43 _ _) (by decide) (by decide) rfl h16 (Nat.le_of_ble_eq_true rfl) (Nat.le_of_ble_eq_true rfl) dX0_copyFrom_146 em17 (fun H locs hP hS => ?_)
  refine lv_aload_n hx hb dX0_copyFrom_149 rfl (lv_at hl 1 rfl) ?_
  refine rg (Wf := fun z => Wf m17 z) (mm := o) hx hb hT hu0 hown hK hP (hLo m17) 36 11 (Nat.le_of_ble_eq_true rfl) (ms36 _ _) rfl (Nat.le_of_ble_eq_true rfl) (Fx0.T tw_1_119) rfl (v := .ref (ado 44)) rfl dX0_copyFrom_150 ?_
  refine lv_iconst (v := (0 : Int32)) hx hb dX0_copyFrom_153 (by decide) ?_
  refine lv_aload_n hx hb dX0_copyFrom_154 rfl (lv_at hl 0 rfl) ?_
  refine rg (Wf := fun z => Wf z o) (mm := m17) hx hb hT hu0 hown hK hP (hL o) 36 11 (Nat.le_of_ble_eq_true rfl) (ms36 _ _) rfl (Nat.le_of_ble_eq_true rfl) (Fx0.T tw_1_119) rfl (v := .ref (ad 44)) rfl dX0_copyFrom_155 ?_
  refine lv_iconst (v := (0 : Int32)) hx hb dX0_copyFrom_158 (by decide) ?_
  refine lv_aload_n hx hb dX0_copyFrom_159 rfl (lv_at hl 0 rfl) ?_
  refine rg (Wf := fun z => Wf z o) (mm := m17) hx hb hT hu0 hown hK hP (hL o) 36 9 (Nat.le_of_ble_eq_true rfl) (ms36 _ _) rfl (Nat.le_of_ble_eq_true rfl) (Fx0.T tw_1_115) rfl (v := .int (gi m17 36 9)) rfl dX0_copyFrom_160 ?_
  obtain ⟨h18, hD⟩ := gd_el hD
  obtain ⟨m19, em19, hD⟩ := bnd_el hD
  refine rcp (Wf := fun z => Wf z o) (mm := m17) (Ws := fun z => Wf m17 z) (ms := o) hx hb (hml.trans hl.1.symm) hT hown tw_4_21 tw_2_47 tw_2_46 tw_1_8 hK hP (hD1 _ (hAd _ _ _ _)) hS (hLo m17) rfl 44 (Nat.le_of_ble_eq_true rfl) (ms44 _ _) (hL o) 44 (Nat.le_of_ble_eq_true rfl) (fun _ => ms44 _ _) (by decide) (by decide) rfl h18 (Nat.le_of_ble_eq_true rfl) (Nat.le_of_ble_eq_true rfl) dX0_copyFrom_163 em19 (fun H locs hP hS => ?_)
  cases hD
  exact hret _ _ _ hP hS (fun Qc hq => W.vret hx hb hr hq hS.2.2 dX0_copyFrom_166 hlocks)

noncomputable def D_X4_copyFrom (m : MM) (o : MM) : Option MM := bnd (si m 45 0 (gi o 45 0)) (fun m1 => bnd (si m1 45 1 (gi o 45 1)) (fun m2 => bnd (sr m2 46 (va_cpy (o.1 46) (m2.1 46) 0 0 40)) (fun m3 => bnd (sr m3 47 (va_cpy (o.1 47) (m3.1 47) 0 0 40)) (fun m4 => bnd (sr m4 48 (va_cpy (o.1 48) (m4.1 48) 0 0 40)) (fun m5 => bnd (sr m5 49 (va_cpy (o.1 49) (m5.1 49) 0 0 7)) (fun m6 => bnd (sr m6 50 (va_cpy (o.1 50) (m6.1 50) 0 0 7)) (fun m7 => bnd (si m7 45 7 (gi o 45 7)) (fun m8 => bnd (si m8 45 8 (gi o 45 8)) (fun m9 => some (m9))))))))))
set_option maxHeartbeats 4000000 in
set_option maxRecDepth 100000 in
theorem c_X4_copyFrom (l : Launch) {D : va_G} {cs : Nat → ClassId} {ad ado : Nat → Nat} {Wf : MM → MM → va_W} (hL : ∀ o : MM, Ln 51 ad (msh cs ad) (fun z => Wf z o)) (hLo : ∀ m : MM, Ln 51 ado (msh cs ado) (fun z => Wf m z)) (hAd : ∀ a0_ b0_ a1_ b1_ : MM, (Wf a0_ a1_).map (fun q => q.1) = (Wf b0_ b1_).map (fun q => q.1)) (m : MM) (o : MM) {m' : MM} (hD : D_X4_copyFrom m o = some (m')) : Ct l yX4_copyFrom cX4_copyFrom 2 none 1 64 D cs [.ref (ad 45), .ref (ado 45)] (Wf m o) (Wf m' o) (none) := by
  refine Ct.ofW (by decide) (Nat.le_of_ble_eq_true rfl) (hAd _ _ _ _) ?_
  intro p e s m0 below meth c A Q ls args hx hb hr hml hlocks hown hts hK hP hD1 hSS hS hA1 hl hret
  have hT : ∀ w ∈ TBL, w.before args s = true := fun w h => hts w (List.mem_cons_of_mem _ h)
  have Fx0 : Fx p l m0 c cX4_copyFrom 2 s args yX4_copyFrom cX4_copyFrom 2 none D cs A := ⟨hx, hb, hml, hown, hts, hK, hSS⟩
  have hown : s.vm.findClass RX4 = some m0.cls := hown
  have hl : lv_has ls 2 [(0, .ref (ad 45)), (1, .ref (ado 45))] := hl
  unfold D_X4_copyFrom at hD
  refine lv_aload_n hx hb dX4_copyFrom_0 rfl (lv_at hl 0 rfl) ?_
  refine lv_aload_n hx hb dX4_copyFrom_1 rfl (lv_at hl 1 rfl) ?_
  refine rg (Wf := fun z => Wf m z) (mm := o) hx hb hT hu4 hown hK hP (hLo m) 45 0 (Nat.le_of_ble_eq_true rfl) (ms45 _ _) rfl (Nat.le_of_ble_eq_true rfl) (Fx0.T tw_1_152) rfl (v := .int (gi o 45 0)) rfl dX4_copyFrom_2 ?_
  obtain ⟨m1, em1, hD⟩ := bnd_el hD
  refine rp (Wf := fun z => Wf z o) (mm := m) hx hb hT hu4 tyX4_ok nmX4 hown hK hP (hD1 _ (hAd _ _ _ _)) hS (hL o) 45 0 (Nat.le_of_ble_eq_true rfl) (ms45 _ _) (ms45 _ _) rfl (Nat.le_of_ble_eq_true rfl) (Fx0.T tw_1_152) rfl rfl rfl rfl (Nat.le_of_ble_eq_true rfl) dX4_copyFrom_5 em1 (fun H locs hP hS => ?_)
  refine lv_aload_n hx hb dX4_copyFrom_8 rfl (lv_at hl 0 rfl) ?_
  refine lv_aload_n hx hb dX4_copyFrom_9 rfl (lv_at hl 1 rfl) ?_
  refine rg (Wf := fun z => Wf m1 z) (mm := o) hx hb hT hu4 hown hK hP (hLo m1) 45 1 (Nat.le_of_ble_eq_true rfl) (ms45 _ _) rfl (Nat.le_of_ble_eq_true rfl) (Fx0.T tw_1_154) rfl (v := .int (gi o 45 1)) rfl dX4_copyFrom_10 ?_
  obtain ⟨m2, em2, hD⟩ := bnd_el hD
  refine rp (Wf := fun z => Wf z o) (mm := m1) hx hb hT hu4 tyX4_ok nmX4 hown hK hP (hD1 _ (hAd _ _ _ _)) hS (hL o) 45 1 (Nat.le_of_ble_eq_true rfl) (ms45 _ _) (ms45 _ _) rfl (Nat.le_of_ble_eq_true rfl) (Fx0.T tw_1_154) rfl rfl rfl rfl (Nat.le_of_ble_eq_true rfl) dX4_copyFrom_13 em2 (fun H locs hP hS => ?_)
  refine lv_aload_n hx hb dX4_copyFrom_16 rfl (lv_at hl 1 rfl) ?_
  refine rg (Wf := fun z => Wf m2 z) (mm := o) hx hb hT hu4 hown hK hP (hLo m2) 45 2 (Nat.le_of_ble_eq_true rfl) (ms45 _ _) rfl (Nat.le_of_ble_eq_true rfl) (Fx0.T tw_1_155) rfl (v := .ref (ado 46)) rfl dX4_copyFrom_17 ?_
  refine lv_iconst (v := (0 : Int32)) hx hb dX4_copyFrom_20 (by decide) ?_
  refine lv_aload_n hx hb dX4_copyFrom_21 rfl (lv_at hl 0 rfl) ?_
  refine rg (Wf := fun z => Wf z o) (mm := m2) hx hb hT hu4 hown hK hP (hL o) 45 2 (Nat.le_of_ble_eq_true rfl) (ms45 _ _) rfl (Nat.le_of_ble_eq_true rfl) (Fx0.T tw_1_155) rfl (v := .ref (ad 46)) rfl dX4_copyFrom_22 ?_
  refine lv_iconst (v := (0 : Int32)) hx hb dX4_copyFrom_25 (by decide) ?_
  refine lv_bipush (v := (40 : Int32)) hx hb dX4_copyFrom_26 (by decide) ?_
  obtain ⟨m3, em3, hD⟩ := bnd_el hD
  refine rcp (Wf := fun z => Wf z o) (mm := m2) (Ws := fun z => Wf m2 z) (ms := o) hx hb (hml.trans hl.1.symm) hT hown tw_4_26 tw_2_47 tw_2_46 tw_1_8 hK hP (hD1 _ (hAd _ _ _ _)) hS (hLo m2) rfl 46 (Nat.le_of_ble_eq_true rfl) (ms46 _ _) (hL o) 46 (Nat.le_of_ble_eq_true rfl) (fun _ => ms46 _ _) (by decide) (by decide) (by decide) (by decide) (Nat.le_of_ble_eq_true rfl) (Nat.le_of_ble_eq_true rfl) dX4_copyFrom_28 em3 (fun H locs hP hS => ?_)
  refine lv_aload_n hx hb dX4_copyFrom_31 rfl (lv_at hl 1 rfl) ?_
  refine rg (Wf := fun z => Wf m3 z) (mm := o) hx hb hT hu4 hown hK hP (hLo m3) 45 3 (Nat.le_of_ble_eq_true rfl) (ms45 _ _) rfl (Nat.le_of_ble_eq_true rfl) (Fx0.T tw_1_156) rfl (v := .ref (ado 47)) rfl dX4_copyFrom_32 ?_
  refine lv_iconst (v := (0 : Int32)) hx hb dX4_copyFrom_35 (by decide) ?_
  refine lv_aload_n hx hb dX4_copyFrom_36 rfl (lv_at hl 0 rfl) ?_
  refine rg (Wf := fun z => Wf z o) (mm := m3) hx hb hT hu4 hown hK hP (hL o) 45 3 (Nat.le_of_ble_eq_true rfl) (ms45 _ _) rfl (Nat.le_of_ble_eq_true rfl) (Fx0.T tw_1_156) rfl (v := .ref (ad 47)) rfl dX4_copyFrom_37 ?_
  refine lv_iconst (v := (0 : Int32)) hx hb dX4_copyFrom_40 (by decide) ?_
  refine lv_bipush (v := (40 : Int32)) hx hb dX4_copyFrom_41 (by decide) ?_
  obtain ⟨m4, em4, hD⟩ := bnd_el hD
  refine rcp (Wf := fun z => Wf z o) (mm := m3) (Ws := fun z => Wf m3 z) (ms := o) hx hb (hml.trans hl.1.symm) hT hown tw_4_26 tw_2_47 tw_2_46 tw_1_8 hK hP (hD1 _ (hAd _ _ _ _)) hS (hLo m3) rfl 47 (Nat.le_of_ble_eq_true rfl) (ms47 _ _) (hL o) 47 (Nat.le_of_ble_eq_true rfl) (fun _ => ms47 _ _) (by decide) (by decide) (by decide) (by decide) (Nat.le_of_ble_eq_true rfl) (Nat.le_of_ble_eq_true rfl) dX4_copyFrom_43 em4 (fun H locs hP hS => ?_)
  refine lv_aload_n hx hb dX4_copyFrom_46 rfl (lv_at hl 1 rfl) ?_
  refine rg (Wf := fun z => Wf m4 z) (mm := o) hx hb hT hu4 hown hK hP (hLo m4) 45 4 (Nat.le_of_ble_eq_true rfl) (ms45 _ _) rfl (Nat.le_of_ble_eq_true rfl) (Fx0.T tw_1_157) rfl (v := .ref (ado 48)) rfl dX4_copyFrom_47 ?_
  refine lv_iconst (v := (0 : Int32)) hx hb dX4_copyFrom_50 (by decide) ?_
  refine lv_aload_n hx hb dX4_copyFrom_51 rfl (lv_at hl 0 rfl) ?_
  refine rg (Wf := fun z => Wf z o) (mm := m4) hx hb hT hu4 hown hK hP (hL o) 45 4 (Nat.le_of_ble_eq_true rfl) (ms45 _ _) rfl (Nat.le_of_ble_eq_true rfl) (Fx0.T tw_1_157) rfl (v := .ref (ad 48)) rfl dX4_copyFrom_52 ?_
  refine lv_iconst (v := (0 : Int32)) hx hb dX4_copyFrom_55 (by decide) ?_
  refine lv_bipush (v := (40 : Int32)) hx hb dX4_copyFrom_56 (by decide) ?_
  obtain ⟨m5, em5, hD⟩ := bnd_el hD
  refine rcp (Wf := fun z => Wf z o) (mm := m4) (Ws := fun z => Wf m4 z) (ms := o) hx hb (hml.trans hl.1.symm) hT hown tw_4_26 tw_2_47 tw_2_46 tw_1_8 hK hP (hD1 _ (hAd _ _ _ _)) hS (hLo m4) rfl 48 (Nat.le_of_ble_eq_true rfl) (ms48 _ _) (hL o) 48 (Nat.le_of_ble_eq_true rfl) (fun _ => ms48 _ _) (by decide) (by decide) (by decide) (by decide) (Nat.le_of_ble_eq_true rfl) (Nat.le_of_ble_eq_true rfl) dX4_copyFrom_58 em5 (fun H locs hP hS => ?_)
  refine lv_aload_n hx hb dX4_copyFrom_61 rfl (lv_at hl 1 rfl) ?_
  refine rg (Wf := fun z => Wf m5 z) (mm := o) hx hb hT hu4 hown hK hP (hLo m5) 45 5 (Nat.le_of_ble_eq_true rfl) (ms45 _ _) rfl (Nat.le_of_ble_eq_true rfl) (Fx0.T tw_1_158) rfl (v := .ref (ado 49)) rfl dX4_copyFrom_62 ?_
  refine lv_iconst (v := (0 : Int32)) hx hb dX4_copyFrom_65 (by decide) ?_
  refine lv_aload_n hx hb dX4_copyFrom_66 rfl (lv_at hl 0 rfl) ?_
  refine rg (Wf := fun z => Wf z o) (mm := m5) hx hb hT hu4 hown hK hP (hL o) 45 5 (Nat.le_of_ble_eq_true rfl) (ms45 _ _) rfl (Nat.le_of_ble_eq_true rfl) (Fx0.T tw_1_158) rfl (v := .ref (ad 49)) rfl dX4_copyFrom_67 ?_
  refine lv_iconst (v := (0 : Int32)) hx hb dX4_copyFrom_70 (by decide) ?_
  refine lv_bipush (v := (7 : Int32)) hx hb dX4_copyFrom_71 (by decide) ?_
  obtain ⟨m6, em6, hD⟩ := bnd_el hD
  refine rcp (Wf := fun z => Wf z o) (mm := m5) (Ws := fun z => Wf m5 z) (ms := o) hx hb (hml.trans hl.1.symm) hT hown tw_4_26 tw_2_47 tw_2_46 tw_1_8 hK hP (hD1 _ (hAd _ _ _ _)) hS (hLo m5) rfl 49 (Nat.le_of_ble_eq_true rfl) (ms49 _ _) (hL o) 49 (Nat.le_of_ble_eq_true rfl) (fun _ => ms49 _ _) (by decide) (by decide) (by decide) (by decide) (Nat.le_of_ble_eq_true rfl) (Nat.le_of_ble_eq_true rfl) dX4_copyFrom_73 em6 (fun H locs hP hS => ?_)
  refine lv_aload_n hx hb dX4_copyFrom_76 rfl (lv_at hl 1 rfl) ?_
  refine rg (Wf := fun z => Wf m6 z) (mm := o) hx hb hT hu4 hown hK hP (hLo m6) 45 6 (Nat.le_of_ble_eq_true rfl) (ms45 _ _) rfl (Nat.le_of_ble_eq_true rfl) (Fx0.T tw_1_161) rfl (v := .ref (ado 50)) rfl dX4_copyFrom_77 ?_
  refine lv_iconst (v := (0 : Int32)) hx hb dX4_copyFrom_80 (by decide) ?_
  refine lv_aload_n hx hb dX4_copyFrom_81 rfl (lv_at hl 0 rfl) ?_
  refine rg (Wf := fun z => Wf z o) (mm := m6) hx hb hT hu4 hown hK hP (hL o) 45 6 (Nat.le_of_ble_eq_true rfl) (ms45 _ _) rfl (Nat.le_of_ble_eq_true rfl) (Fx0.T tw_1_161) rfl (v := .ref (ad 50)) rfl dX4_copyFrom_82 ?_
  refine lv_iconst (v := (0 : Int32)) hx hb dX4_copyFrom_85 (by decide) ?_
  refine lv_bipush (v := (7 : Int32)) hx hb dX4_copyFrom_86 (by decide) ?_
  obtain ⟨m7, em7, hD⟩ := bnd_el hD
  refine rcp (Wf := fun z => Wf z o) (mm := m6) (Ws := fun z => Wf m6 z) (ms := o) hx hb (hml.trans hl.1.symm) hT hown tw_4_26 tw_2_47 tw_2_46 tw_1_8 hK hP (hD1 _ (hAd _ _ _ _)) hS (hLo m6) rfl 50 (Nat.le_of_ble_eq_true rfl) (ms50 _ _) (hL o) 50 (Nat.le_of_ble_eq_true rfl) (fun _ => ms50 _ _) (by decide) (by decide) (by decide) (by decide) (Nat.le_of_ble_eq_true rfl) (Nat.le_of_ble_eq_true rfl) dX4_copyFrom_88 em7 (fun H locs hP hS => ?_)
  refine lv_aload_n hx hb dX4_copyFrom_91 rfl (lv_at hl 0 rfl) ?_
  refine lv_aload_n hx hb dX4_copyFrom_92 rfl (lv_at hl 1 rfl) ?_
  refine rg (Wf := fun z => Wf m7 z) (mm := o) hx hb hT hu4 hown hK hP (hLo m7) 45 7 (Nat.le_of_ble_eq_true rfl) (ms45 _ _) rfl (Nat.le_of_ble_eq_true rfl) (Fx0.T tw_1_164) rfl (v := .int (gi o 45 7)) rfl dX4_copyFrom_93 ?_
  obtain ⟨m8, em8, hD⟩ := bnd_el hD
  refine rp (Wf := fun z => Wf z o) (mm := m7) hx hb hT hu4 tyX4_ok nmX4 hown hK hP (hD1 _ (hAd _ _ _ _)) hS (hL o) 45 7 (Nat.le_of_ble_eq_true rfl) (ms45 _ _) (ms45 _ _) rfl (Nat.le_of_ble_eq_true rfl) (Fx0.T tw_1_164) rfl rfl rfl rfl (Nat.le_of_ble_eq_true rfl) dX4_copyFrom_96 em8 (fun H locs hP hS => ?_)
  refine lv_aload_n hx hb dX4_copyFrom_99 rfl (lv_at hl 0 rfl) ?_
  refine lv_aload_n hx hb dX4_copyFrom_100 rfl (lv_at hl 1 rfl) ?_
  refine rg (Wf := fun z => Wf m8 z) (mm := o) hx hb hT hu4 hown hK hP (hLo m8) 45 8 (Nat.le_of_ble_eq_true rfl) (ms45 _ _) rfl (Nat.le_of_ble_eq_true rfl) (Fx0.T tw_1_166) rfl (v := .int (gi o 45 8)) rfl dX4_copyFrom_101 ?_
  obtain ⟨m9, em9, hD⟩ := bnd_el hD
  refine rp (Wf := fun z => Wf z o) (mm := m8) hx hb hT hu4 tyX4_ok nmX4 hown hK hP (hD1 _ (hAd _ _ _ _)) hS (hL o) 45 8 (Nat.le_of_ble_eq_true rfl) (ms45 _ _) (ms45 _ _) rfl (Nat.le_of_ble_eq_true rfl) (Fx0.T tw_1_166) rfl rfl rfl rfl (Nat.le_of_ble_eq_true rfl) dX4_copyFrom_104 em9 (fun H locs hP hS => ?_)
  cases hD
  exact hret _ _ _ hP hS (fun Qc hq => W.vret hx hb hr hq hS.2.2 dX4_copyFrom_107 hlocks)

noncomputable def D_X6_copyFrom_98 (o : MM) : Nat → Int32 → MM → Option MM
  | 0, _, _ => none
  | n + 1, x2, m => if (gi m 24 6) ≤ x2 then (b1 (D_X0_copyFrom m o) (fun m8 => bnd (si m8 24 9 (gi o 24 9)) (fun m10 => b1 (D_X4_copyFrom m10 o) (fun m11 => bnd (si m11 24 11 (gi o 24 11)) (fun m13 => bnd (si m13 24 12 (gi o 24 12)) (fun m14 => bnd (si m14 24 13 (gi o 24 13)) (fun m15 => bnd (si m15 24 14 (gi o 24 14)) (fun m16 => if (gi o 24 15) = 0 ∨ (gi o 24 15) = 1 then (bnd (si m16 24 15 (gi o 24 15)) (fun m18 => some (m18))) else none)))))))) else (if x2 < 0 ∨ 10 ≤ x2.toNatClampNeg then none else (if x2 < 0 ∨ 10 ≤ x2.toNatClampNeg then none else (b1 (D_X2_copyFrom (4 + x2.toNatClampNeg) (4 + x2.toNatClampNeg) m o) (fun m23 => bnd (x2 + (1 : Int32)) (fun v25 => D_X6_copyFrom_98 o n v25 m23)))))
noncomputable def D_X6_copyFrom_25 (o : MM) : Nat → Int32 → MM → Option MM
  | 0, _, _ => none
  | n + 1, x2, m => if (gi m 24 1) ≤ x2 then (bnd (si m 24 3 (gi o 24 3)) (fun m3 => bnd (sr m3 27 (va_cpy (o.1 27) (m3.1 27) 0 0 6)) (fun m4 => b1 (D_X5_copyFrom m4 o) (fun m5 => bnd (si m5 24 6 (gi o 24 6)) (fun m7 => D_X6_copyFrom_98 o FU (0 : Int32) m7))))) else (if x2 < 0 ∨ 4 ≤ x2.toNatClampNeg then none else (if x2 < 0 ∨ 4 ≤ x2.toNatClampNeg then none else (b1 (D_X8_copyFrom x2.toNatClampNeg x2.toNatClampNeg m o) (fun m30 => bnd (x2 + (1 : Int32)) (fun v32 => D_X6_copyFrom_25 o n v32 m30)))))
noncomputable def D_X6_copyFrom (m : MM) (o : MM) : Option MM := bnd (sr m 25 (va_cpy (o.1 25) (m.1 25) 0 0 15)) (fun m1 => bnd (si m1 24 1 (gi o 24 1)) (fun m2 => D_X6_copyFrom_25 o FU (0 : Int32) m2))
set_option maxHeartbeats 4000000 in
set_option maxRecDepth 100000 in
theorem c_X6_copyFrom (l : Launch) {D : va_G} {cs : Nat → ClassId} {ad ado : Nat → Nat} {Wf : MM → MM → va_W} (hL : ∀ o : MM, Ln 51 ad (msh cs ad) (fun z => Wf z o)) (hLo : ∀ m : MM, Ln 51 ado (msh cs ado) (fun z => Wf m z)) (hAd : ∀ a0_ b0_ a1_ b1_ : MM, (Wf a0_ a1_).map (fun q => q.1) = (Wf b0_ b1_).map (fun q => q.1)) (m : MM) (o : MM) {m' : MM} (hD : D_X6_copyFrom m o = some (m')) : Ct l yX6_copyFrom cX6_copyFrom 3 none 2 85 D cs [.ref (ad 24), .ref (ado 24)] (Wf m o) (Wf m' o) (none) := by
  refine Ct.ofW (by decide) (Nat.le_of_ble_eq_true rfl) (hAd _ _ _ _) ?_
  intro p e s m0 below meth c A Q ls args hx hb hr hml hlocks hown hts hK hP hD1 hSS hS hA1 hl hret
  have hT : ∀ w ∈ TBL, w.before args s = true := fun w h => hts w (List.mem_cons_of_mem _ h)
  have Fx0 : Fx p l m0 c cX6_copyFrom 3 s args yX6_copyFrom cX6_copyFrom 3 none D cs A := ⟨hx, hb, hml, hown, hts, hK, hSS⟩
  have hown : s.vm.findClass RX6 = some m0.cls := hown
  have hl : lv_has ls 3 [(0, .ref (ad 24)), (1, .ref (ado 24))] := hl
  unfold D_X6_copyFrom at hD
  have c_98 : ∀ (n : Nat), ∀ (x2 : Int32) (m : MM) (H : Heap) (locs : List Loc) (ls : Array Slot), D_X6_copyFrom_98 o n x2 m = some (m') → va_P D vwCl (Wf m o) H → va_S A s.heap H locs → lv_has ls 3 [(0, .ref (ad 24)), (1, .ref (ado 24)), (2, .int x2)] → W p l e ({ frames := 2, cells := 0, slots := 0, locals := 85 } : Room) s m0 args below meth c H locs 0 0 Q (F0 m0 98 ls []) := by
    intro n
    induction n with
    | zero =>
      intro x2 m H locs ls hD hP hS hl
      exact nn_el hD
    | succ n ih =>
      intro x2 m H locs ls hD hP hS hl
      rw [D_X6_copyFrom_98] at hD
      refine lv_iload_n hx hb dX6_copyFrom_98 rfl (lv_at hl 2 rfl) ?_
      refine lv_aload_n hx hb dX6_copyFrom_99 rfl (lv_at hl 0 rfl) ?_
      refine rg (Wf := fun z => Wf z o) (mm := m) hx hb hT hu6 hown hK hP (hL o) 24 6 (Nat.le_of_ble_eq_true rfl) (ms24 _ _) rfl (Nat.le_of_ble_eq_true rfl) (Fx0.T tw_2_95) rfl (v := .int (gi m 24 6)) rfl dX6_copyFrom_100 ?_
      refine lv_icmp_ge (tgt := 127) hx hb dX6_copyFrom_103 (by decide) (fun c => ?_) (fun c => ?_)
      · have hD := ifp hD c
        refine lv_aload_n hx hb dX6_copyFrom_127 rfl (lv_at hl 0 rfl) ?_
        refine rg (Wf := fun z => Wf z o) (mm := m) hx hb hT hu6 hown hK hP (hL o) 24 8 (Nat.le_of_ble_eq_true rfl) (ms24 _ _) rfl (Nat.le_of_ble_eq_true rfl) (Fx0.T tw_2_103) rfl (v := .ref (ad 36)) rfl dX6_copyFrom_128 ?_
        refine lv_aload_n hx hb dX6_copyFrom_131 rfl (lv_at hl 1 rfl) ?_
        refine rg (Wf := fun z => Wf m z) (mm := o) hx hb hT hu6 hown hK hP (hLo m) 24 8 (Nat.le_of_ble_eq_true rfl) (ms24 _ _) rfl (Nat.le_of_ble_eq_true rfl) (Fx0.T tw_2_103) rfl (v := .ref (ado 36)) rfl dX6_copyFrom_132 ?_
        obtain ⟨m8, z9, hD⟩ := b1_el hD
        refine rcVN (Wf := fun z => Wf z o) (mm := m) (As := [.ref (ado 36)]) (rest := []) Fx0 (c_X0_copyFrom l (Wf := fun z0_ z1_ => Wf z0_ z1_) (fun z1_ => hL z1_) (fun z0_ => hLo z0_) (fun a0_ b0_ a1_ b1_ => hAd a0_ b0_ a1_ b1_) m o z9) hP (hD1 _ (hAd _ _ _ _)) hS (hA1 _ _ (hAd _ _ _ _) hS.1) (hL o) (Nat.le_of_ble_eq_true rfl) (ms36 _ _) rfl tw_4_20 tw_4_17 tw_4_19 ts_39 tw_1_4 yd_X0_copyFrom ⟨(Nat.le_of_ble_eq_true rfl), (Nat.le_of_ble_eq_true rfl)⟩ rfl hl.1 rfl (Nat.le_of_ble_eq_true rfl) dX6_copyFrom_135 (fun H locs hP hS => ?_)
        refine lv_aload_n hx hb dX6_copyFrom_138 rfl (lv_at hl 0 rfl) ?_
        refine lv_aload_n hx hb dX6_copyFrom_139 rfl (lv_at hl 1 rfl) ?_
        refine rg (Wf := fun z => Wf m8 z) (mm := o) hx hb hT hu6 hown hK hP (hLo m8) 24 9 (Nat.le_of_ble_eq_true rfl) (ms24 _ _) rfl (Nat.le_of_ble_eq_true rfl) (Fx0.T tw_2_107) rfl (v := .int (gi o 24 9)) rfl dX6_copyFrom_140 ?_
        obtain ⟨m10, em10, hD⟩ := bnd_el hD
        refine rp (Wf := fun z => Wf z o) (mm := m8) hx hb hT hu6 tyX6_ok nmX6 hown hK hP (hD1 _ (hAd _ _ _ _)) hS (hL o) 24 9 (Nat.le_of_ble_eq_true rfl) (ms24 _ _) (ms24 _ _) rfl (Nat.le_of_ble_eq_true rfl) (Fx0.T tw_2_107) rfl rfl rfl rfl (Nat.le_of_ble_eq_true rfl) dX6_copyFrom_143 em10 (fun H locs hP hS => ?_)
        refine lv_aload_n hx hb dX6_copyFrom_146 rfl (lv_at hl 0 rfl) ?_
        refine rg (Wf := fun z => Wf z o) (mm := m10) hx hb hT hu6 hown hK hP (hL o) 24 10 (Nat.le_of_ble_eq_true rfl) (ms24 _ _) rfl (Nat.le_of_ble_eq_true rfl) (Fx0.T tw_2_109) rfl (v := .ref (ad 45)) rfl dX6_copyFrom_147 ?_
        refine lv_aload_n hx hb dX6_copyFrom_150 rfl (lv_at hl 1 rfl) ?_
        refine rg (Wf := fun z => Wf m10 z) (mm := o) hx hb hT hu6 hown hK hP (hLo m10) 24 10 (Nat.le_of_ble_eq_true rfl) (ms24 _ _) rfl (Nat.le_of_ble_eq_true rfl) (Fx0.T tw_2_109) rfl (v := .ref (ado 45)) rfl dX6_copyFrom_151 ?_
        obtain ⟨m11, z12, hD⟩ := b1_el hD
        refine rcVN (Wf := fun z => Wf z o) (mm := m10) (As := [.ref (ado 45)]) (rest := []) Fx0 (c_X4_copyFrom l (Wf := fun z0_ z1_ => Wf z0_ z1_) (fun z1_ => hL z1_) (fun z0_ => hLo z0_) (fun a0_ b0_ a1_ b1_ => hAd a0_ b0_ a1_ b1_) m10 o z12) hP (hD1 _ (hAd _ _ _ _)) hS (hA1 _ _ (hAd _ _ _ _) hS.1) (hL o) (Nat.le_of_ble_eq_true rfl) (ms45 _ _) rfl tw_4_25 tw_4_22 tw_4_24 ts_40 tw_1_5 yd_X4_copyFrom ⟨(Nat.le_of_ble_eq_true rfl), (Nat.le_of_ble_eq_true rfl)⟩ rfl hl.1 rfl (Nat.le_of_ble_eq_true rfl) dX6_copyFrom_154 (fun H locs hP hS => ?_)
        refine lv_aload_n hx hb dX6_copyFrom_157 rfl (lv_at hl 0 rfl) ?_
        refine lv_aload_n hx hb dX6_copyFrom_158 rfl (lv_at hl 1 rfl) ?_
        refine rg (Wf := fun z => Wf m11 z) (mm := o) hx hb hT hu6 hown hK hP (hLo m11) 24 11 (Nat.le_of_ble_eq_true rfl) (ms24 _ _) rfl (Nat.le_of_ble_eq_true rfl) (Fx0.T tw_2_111) rfl (v := .int (gi o 24 11)) rfl dX6_copyFrom_159 ?_
        obtain ⟨m13, em13, hD⟩ := bnd_el hD
        refine rp (Wf := fun z => Wf z o) (mm := m11) hx hb hT hu6 tyX6_ok nmX6 hown hK hP (hD1 _ (hAd _ _ _ _)) hS (hL o) 24 11 (Nat.le_of_ble_eq_true rfl) (ms24 _ _) (ms24 _ _) rfl (Nat.le_of_ble_eq_true rfl) (Fx0.T tw_2_111) rfl rfl rfl rfl (Nat.le_of_ble_eq_true rfl) dX6_copyFrom_162 em13 (fun H locs hP hS => ?_)
        refine lv_aload_n hx hb dX6_copyFrom_165 rfl (lv_at hl 0 rfl) ?_
        refine lv_aload_n hx hb dX6_copyFrom_166 rfl (lv_at hl 1 rfl) ?_
        refine rg (Wf := fun z => Wf m13 z) (mm := o) hx hb hT hu6 hown hK hP (hLo m13) 24 12 (Nat.le_of_ble_eq_true rfl) (ms24 _ _) rfl (Nat.le_of_ble_eq_true rfl) (Fx0.T tw_2_113) rfl (v := .int (gi o 24 12)) rfl dX6_copyFrom_167 ?_
        obtain ⟨m14, em14, hD⟩ := bnd_el hD
        refine rp (Wf := fun z => Wf z o) (mm := m13) hx hb hT hu6 tyX6_ok nmX6 hown hK hP (hD1 _ (hAd _ _ _ _)) hS (hL o) 24 12 (Nat.le_of_ble_eq_true rfl) (ms24 _ _) (ms24 _ _) rfl (Nat.le_of_ble_eq_true rfl) (Fx0.T tw_2_113) rfl rfl rfl rfl (Nat.le_of_ble_eq_true rfl) dX6_copyFrom_170 em14 (fun H locs hP hS => ?_)
        refine lv_aload_n hx hb dX6_copyFrom_173 rfl (lv_at hl 0 rfl) ?_
        refine lv_aload_n hx hb dX6_copyFrom_174 rfl (lv_at hl 1 rfl) ?_
        refine rg (Wf := fun z => Wf m14 z) (mm := o) hx hb hT hu6 hown hK hP (hLo m14) 24 13 (Nat.le_of_ble_eq_true rfl) (ms24 _ _) rfl (Nat.le_of_ble_eq_true rfl) (Fx0.T tw_2_115) rfl (v := .int (gi o 24 13)) rfl dX6_copyFrom_175 ?_
        obtain ⟨m15, em15, hD⟩ := bnd_el hD
        refine rp (Wf := fun z => Wf z o) (mm := m14) hx hb hT hu6 tyX6_ok nmX6 hown hK hP (hD1 _ (hAd _ _ _ _)) hS (hL o) 24 13 (Nat.le_of_ble_eq_true rfl) (ms24 _ _) (ms24 _ _) rfl (Nat.le_of_ble_eq_true rfl) (Fx0.T tw_2_115) rfl rfl rfl rfl (Nat.le_of_ble_eq_true rfl) dX6_copyFrom_178 em15 (fun H locs hP hS => ?_)
        refine lv_aload_n hx hb dX6_copyFrom_181 rfl (lv_at hl 0 rfl) ?_
        refine lv_aload_n hx hb dX6_copyFrom_182 rfl (lv_at hl 1 rfl) ?_
        refine rg (Wf := fun z => Wf m15 z) (mm := o) hx hb hT hu6 hown hK hP (hLo m15) 24 14 (Nat.le_of_ble_eq_true rfl) (ms24 _ _) rfl (Nat.le_of_ble_eq_true rfl) (Fx0.T tw_2_118) rfl (v := .int (gi o 24 14)) rfl dX6_copyFrom_183 ?_
        obtain ⟨m16, em16, hD⟩ := bnd_el hD
        refine rp (Wf := fun z => Wf z o) (mm := m15) hx hb hT hu6 tyX6_ok nmX6 hown hK hP (hD1 _ (hAd _ _ _ _)) hS (hL o) 24 14 (Nat.le_of_ble_eq_true rfl) (ms24 _ _) (ms24 _ _) rfl (Nat.le_of_ble_eq_true rfl) (Fx0.T tw_2_118) rfl rfl rfl rfl (Nat.le_of_ble_eq_true rfl) dX6_copyFrom_186 em16 (fun H locs hP hS => ?_)
        refine lv_aload_n hx hb dX6_copyFrom_189 rfl (lv_at hl 0 rfl) ?_
        refine lv_aload_n hx hb dX6_copyFrom_190 rfl (lv_at hl 1 rfl) ?_
        refine rg (Wf := fun z => Wf m16 z) (mm := o) hx hb hT hu6 hown hK hP (hLo m16) 24 15 (Nat.le_of_ble_eq_true rfl) (ms24 _ _) rfl (Nat.le_of_ble_eq_true rfl) (Fx0.T tw_2_121) rfl (v := .int (gi o 24 15)) rfl dX6_copyFrom_191 ?_
        obtain ⟨h17, hD⟩ := gb_el hD
        obtain ⟨m18, em18, hD⟩ := bnd_el hD
        refine rp (Wf := fun z => Wf z o) (mm := m16) hx hb hT hu6 tyX6_ok nmX6 hown hK hP (hD1 _ (hAd _ _ _ _)) hS (hL o) 24 15 (Nat.le_of_ble_eq_true rfl) (ms24 _ _) (ms24 _ _) rfl (Nat.le_of_ble_eq_true rfl) (Fx0.T tw_2_121) rfl rfl (nbz h17).1 (nbz h17).2 (Nat.le_of_ble_eq_true rfl) dX6_copyFrom_194 em18 (fun H locs hP hS => ?_)
        cases hD
        exact hret _ _ _ hP hS (fun Qc hq => W.vret hx hb hr hq hS.2.2 dX6_copyFrom_197 hlocks)
      · have hD := ifn hD c
        refine lv_aload_n hx hb dX6_copyFrom_106 rfl (lv_at hl 0 rfl) ?_
        refine rg (Wf := fun z => Wf z o) (mm := m) hx hb hT hu6 hown hK hP (hL o) 24 7 (Nat.le_of_ble_eq_true rfl) (ms24 _ _) rfl (Nat.le_of_ble_eq_true rfl) (Fx0.T tw_2_99) rfl (v := .ref (ad 35)) rfl dX6_copyFrom_107 ?_
        refine lv_iload_n hx hb dX6_copyFrom_110 rfl (lv_at hl 2 rfl) ?_
        obtain ⟨h19, hD⟩ := gd_el hD
        have hq20a : 4 ≤ 4 + x2.toNatClampNeg := Nat.le_add_right _ _
        have hq20b : 4 + x2.toNatClampNeg < 14 := Nat.add_lt_add_left (Nat.lt_of_not_le (fun z => h19 (Or.inr z))) 4
        refine raald (Wf := fun z => Wf z o) (mm := m) hx hb hK hP (hL o) 35 5 (Nat.le_of_ble_eq_true rfl) (ms35 _ _) rfl h19 rfl dX6_copyFrom_111 ?_
        refine lv_aload_n hx hb dX6_copyFrom_112 rfl (lv_at hl 1 rfl) ?_
        refine rg (Wf := fun z => Wf m z) (mm := o) hx hb hT hu6 hown hK hP (hLo m) 24 7 (Nat.le_of_ble_eq_true rfl) (ms24 _ _) rfl (Nat.le_of_ble_eq_true rfl) (Fx0.T tw_2_99) rfl (v := .ref (ado 35)) rfl dX6_copyFrom_113 ?_
        refine lv_iload_n hx hb dX6_copyFrom_116 rfl (lv_at hl 2 rfl) ?_
        obtain ⟨h21, hD⟩ := gd_el hD
        have hq22a : 4 ≤ 4 + x2.toNatClampNeg := Nat.le_add_right _ _
        have hq22b : 4 + x2.toNatClampNeg < 14 := Nat.add_lt_add_left (Nat.lt_of_not_le (fun z => h21 (Or.inr z))) 4
        refine raald (Wf := fun z => Wf m z) (mm := o) hx hb hK hP (hLo m) 35 5 (Nat.le_of_ble_eq_true rfl) (ms35 _ _) rfl h21 rfl dX6_copyFrom_117 ?_
        obtain ⟨m23, z24, hD⟩ := b1_el hD
        refine rcVN (Wf := fun z => Wf z o) (mm := m) (As := [.ref (ado (4 + x2.toNatClampNeg))]) (rest := []) Fx0 (c_X2_copyFrom l (Wf := fun z0_ z1_ => Wf z0_ z1_) (fun z1_ => hL z1_) (fun z0_ => hLo z0_) (fun a0_ b0_ a1_ b1_ => hAd a0_ b0_ a1_ b1_) m o (4 + x2.toNatClampNeg) hq20a hq20b (4 + x2.toNatClampNeg) hq22a hq22b z24) hP (hD1 _ (hAd _ _ _ _)) hS (hA1 _ _ (hAd _ _ _ _) hS.1) (hL o) (Nat.lt_of_lt_of_le hq20b (Nat.le_of_ble_eq_true rfl)) ((mfe hq20a hq20b) _ _) rfl tw_4_15 tw_4_12 tw_4_14 ts_38 tw_1_7 yd_X2_copyFrom ⟨(Nat.le_of_ble_eq_true rfl), (Nat.le_of_ble_eq_true rfl)⟩ rfl hl.1 rfl (Nat.le_of_ble_eq_true rfl) dX6_copyFrom_118 (fun H locs hP hS => ?_)
        obtain ⟨v25, ev25, hD⟩ := bnd_el hD
        refine lv_iinc (v := v25) (lv' := [(2, .int v25), (0, .ref (ad 24)), (1, .ref (ado 24))]) hx hb dX6_copyFrom_121 hl (k := 2) rfl (by rw [ev25]; rfl) (by decide) rfl (fun ls hl => ?_)
        refine lv_goto (tgt := 98) hx hb dX6_copyFrom_124 (by decide) ?_
        exact ih _ _ _ _ _ hD hP hS (lv_sub hl [1, 2, 0] rfl)
  have c_25 : ∀ (n : Nat), ∀ (x2 : Int32) (m : MM) (H : Heap) (locs : List Loc) (ls : Array Slot), D_X6_copyFrom_25 o n x2 m = some (m') → va_P D vwCl (Wf m o) H → va_S A s.heap H locs → lv_has ls 3 [(0, .ref (ad 24)), (1, .ref (ado 24)), (2, .int x2)] → W p l e ({ frames := 2, cells := 0, slots := 0, locals := 85 } : Room) s m0 args below meth c H locs 0 0 Q (F0 m0 25 ls []) := by
    intro n
    induction n with
    | zero =>
      intro x2 m H locs ls hD hP hS hl
      exact nn_el hD
    | succ n ih =>
      intro x2 m H locs ls hD hP hS hl
      rw [D_X6_copyFrom_25] at hD
      refine lv_iload_n hx hb dX6_copyFrom_25 rfl (lv_at hl 2 rfl) ?_
      refine lv_aload_n hx hb dX6_copyFrom_26 rfl (lv_at hl 0 rfl) ?_
      refine rg (Wf := fun z => Wf z o) (mm := m) hx hb hT hu6 hown hK hP (hL o) 24 1 (Nat.le_of_ble_eq_true rfl) (ms24 _ _) rfl (Nat.le_of_ble_eq_true rfl) (Fx0.T tw_2_78) rfl (v := .int (gi m 24 1)) rfl dX6_copyFrom_27 ?_
      refine lv_icmp_ge (tgt := 54) hx hb dX6_copyFrom_30 (by decide) (fun c => ?_) (fun c => ?_)
      · have hD := ifp hD c
        refine lv_aload_n hx hb dX6_copyFrom_54 rfl (lv_at hl 0 rfl) ?_
        refine lv_aload_n hx hb dX6_copyFrom_55 rfl (lv_at hl 1 rfl) ?_
        refine rg (Wf := fun z => Wf m z) (mm := o) hx hb hT hu6 hown hK hP (hLo m) 24 3 (Nat.le_of_ble_eq_true rfl) (ms24 _ _) rfl (Nat.le_of_ble_eq_true rfl) (Fx0.T tw_2_85) rfl (v := .int (gi o 24 3)) rfl dX6_copyFrom_56 ?_
        obtain ⟨m3, em3, hD⟩ := bnd_el hD
        refine rp (Wf := fun z => Wf z o) (mm := m) hx hb hT hu6 tyX6_ok nmX6 hown hK hP (hD1 _ (hAd _ _ _ _)) hS (hL o) 24 3 (Nat.le_of_ble_eq_true rfl) (ms24 _ _) (ms24 _ _) rfl (Nat.le_of_ble_eq_true rfl) (Fx0.T tw_2_85) rfl rfl rfl rfl (Nat.le_of_ble_eq_true rfl) dX6_copyFrom_59 em3 (fun H locs hP hS => ?_)
        refine lv_aload_n hx hb dX6_copyFrom_62 rfl (lv_at hl 1 rfl) ?_
        refine rg (Wf := fun z => Wf m3 z) (mm := o) hx hb hT hu6 hown hK hP (hLo m3) 24 4 (Nat.le_of_ble_eq_true rfl) (ms24 _ _) rfl (Nat.le_of_ble_eq_true rfl) (Fx0.T tw_2_88) rfl (v := .ref (ado 27)) rfl dX6_copyFrom_63 ?_
        refine lv_iconst (v := (0 : Int32)) hx hb dX6_copyFrom_66 (by decide) ?_
        refine lv_aload_n hx hb dX6_copyFrom_67 rfl (lv_at hl 0 rfl) ?_
        refine rg (Wf := fun z => Wf z o) (mm := m3) hx hb hT hu6 hown hK hP (hL o) 24 4 (Nat.le_of_ble_eq_true rfl) (ms24 _ _) rfl (Nat.le_of_ble_eq_true rfl) (Fx0.T tw_2_88) rfl (v := .ref (ad 27)) rfl dX6_copyFrom_68 ?_
        refine lv_iconst (v := (0 : Int32)) hx hb dX6_copyFrom_71 (by decide) ?_
        refine lv_bipush (v := (6 : Int32)) hx hb dX6_copyFrom_72 (by decide) ?_
        obtain ⟨m4, em4, hD⟩ := bnd_el hD
        refine rcp (Wf := fun z => Wf z o) (mm := m3) (Ws := fun z => Wf m3 z) (ms := o) hx hb (hml.trans hl.1.symm) hT hown tw_2_45 tw_2_47 tw_2_46 tw_1_8 hK hP (hD1 _ (hAd _ _ _ _)) hS (hLo m3) rfl 27 (Nat.le_of_ble_eq_true rfl) (ms27 _ _) (hL o) 27 (Nat.le_of_ble_eq_true rfl) (fun _ => ms27 _ _) (by decide) (by decide) (by decide) (by decide) (Nat.le_of_ble_eq_true rfl) (Nat.le_of_ble_eq_true rfl) dX6_copyFrom_74 em4 (fun H locs hP hS => ?_)
        refine lv_aload_n hx hb dX6_copyFrom_77 rfl (lv_at hl 0 rfl) ?_
        refine rg (Wf := fun z => Wf z o) (mm := m4) hx hb hT hu6 hown hK hP (hL o) 24 5 (Nat.le_of_ble_eq_true rfl) (ms24 _ _) rfl (Nat.le_of_ble_eq_true rfl) (Fx0.T tw_2_91) rfl (v := .ref (ad 28)) rfl dX6_copyFrom_78 ?_
        refine lv_aload_n hx hb dX6_copyFrom_81 rfl (lv_at hl 1 rfl) ?_
        refine rg (Wf := fun z => Wf m4 z) (mm := o) hx hb hT hu6 hown hK hP (hLo m4) 24 5 (Nat.le_of_ble_eq_true rfl) (ms24 _ _) rfl (Nat.le_of_ble_eq_true rfl) (Fx0.T tw_2_91) rfl (v := .ref (ado 28)) rfl dX6_copyFrom_82 ?_
        obtain ⟨m5, z6, hD⟩ := b1_el hD
        refine rcVN (Wf := fun z => Wf z o) (mm := m4) (As := [.ref (ado 28)]) (rest := []) Fx0 (c_X5_copyFrom l (Wf := fun z0_ z1_ => Wf z0_ z1_) (fun z1_ => hL z1_) (fun z0_ => hLo z0_) (fun a0_ b0_ a1_ b1_ => hAd a0_ b0_ a1_ b1_) m4 o z6) hP (hD1 _ (hAd _ _ _ _)) hS (hA1 _ _ (hAd _ _ _ _) hS.1) (hL o) (Nat.le_of_ble_eq_true rfl) (ms28 _ _) rfl tw_4_10 tw_4_7 tw_4_9 ts_37 tw_1_3 yd_X5_copyFrom ⟨(Nat.le_of_ble_eq_true rfl), (Nat.le_of_ble_eq_true rfl)⟩ rfl hl.1 rfl (Nat.le_of_ble_eq_true rfl) dX6_copyFrom_85 (fun H locs hP hS => ?_)
        refine lv_aload_n hx hb dX6_copyFrom_88 rfl (lv_at hl 0 rfl) ?_
        refine lv_aload_n hx hb dX6_copyFrom_89 rfl (lv_at hl 1 rfl) ?_
        refine rg (Wf := fun z => Wf m5 z) (mm := o) hx hb hT hu6 hown hK hP (hLo m5) 24 6 (Nat.le_of_ble_eq_true rfl) (ms24 _ _) rfl (Nat.le_of_ble_eq_true rfl) (Fx0.T tw_2_95) rfl (v := .int (gi o 24 6)) rfl dX6_copyFrom_90 ?_
        obtain ⟨m7, em7, hD⟩ := bnd_el hD
        refine rp (Wf := fun z => Wf z o) (mm := m5) hx hb hT hu6 tyX6_ok nmX6 hown hK hP (hD1 _ (hAd _ _ _ _)) hS (hL o) 24 6 (Nat.le_of_ble_eq_true rfl) (ms24 _ _) (ms24 _ _) rfl (Nat.le_of_ble_eq_true rfl) (Fx0.T tw_2_95) rfl rfl rfl rfl (Nat.le_of_ble_eq_true rfl) dX6_copyFrom_93 em7 (fun H locs hP hS => ?_)
        refine lv_iconst (v := (0 : Int32)) hx hb dX6_copyFrom_96 (by decide) ?_
        refine lv_istore_n (lv' := [(2, .int (0 : Int32)), (0, .ref (ad 24)), (1, .ref (ado 24))]) hx hb dX6_copyFrom_97 rfl hl (by decide) rfl (fun ls hl => ?_)
        exact c_98 FU _ _ _ _ _ hD hP hS (lv_sub hl [1, 2, 0] rfl)
      · have hD := ifn hD c
        refine lv_aload_n hx hb dX6_copyFrom_33 rfl (lv_at hl 0 rfl) ?_
        refine rg (Wf := fun z => Wf z o) (mm := m) hx hb hT hu6 hown hK hP (hL o) 24 2 (Nat.le_of_ble_eq_true rfl) (ms24 _ _) rfl (Nat.le_of_ble_eq_true rfl) (Fx0.T tw_2_82) rfl (v := .ref (ad 26)) rfl dX6_copyFrom_34 ?_
        refine lv_iload_n hx hb dX6_copyFrom_37 rfl (lv_at hl 2 rfl) ?_
        obtain ⟨h26, hD⟩ := gd_el hD
        have hq27 : x2.toNatClampNeg < 4 := Nat.lt_of_not_le (fun z => h26 (Or.inr z))
        refine raald (Wf := fun z => Wf z o) (mm := m) hx hb hK hP (hL o) 26 4 (Nat.le_of_ble_eq_true rfl) (ms26 _ _) rfl h26 rfl dX6_copyFrom_38 ?_
        refine lv_aload_n hx hb dX6_copyFrom_39 rfl (lv_at hl 1 rfl) ?_
        refine rg (Wf := fun z => Wf m z) (mm := o) hx hb hT hu6 hown hK hP (hLo m) 24 2 (Nat.le_of_ble_eq_true rfl) (ms24 _ _) rfl (Nat.le_of_ble_eq_true rfl) (Fx0.T tw_2_82) rfl (v := .ref (ado 26)) rfl dX6_copyFrom_40 ?_
        refine lv_iload_n hx hb dX6_copyFrom_43 rfl (lv_at hl 2 rfl) ?_
        obtain ⟨h28, hD⟩ := gd_el hD
        have hq29 : x2.toNatClampNeg < 4 := Nat.lt_of_not_le (fun z => h28 (Or.inr z))
        refine raald (Wf := fun z => Wf m z) (mm := o) hx hb hK hP (hLo m) 26 4 (Nat.le_of_ble_eq_true rfl) (ms26 _ _) rfl h28 rfl dX6_copyFrom_44 ?_
        obtain ⟨m30, z31, hD⟩ := b1_el hD
        refine rcVN (Wf := fun z => Wf z o) (mm := m) (As := [.ref (ado x2.toNatClampNeg)]) (rest := []) Fx0 (c_X8_copyFrom l (Wf := fun z0_ z1_ => Wf z0_ z1_) (fun z1_ => hL z1_) (fun z0_ => hLo z0_) (fun a0_ b0_ a1_ b1_ => hAd a0_ b0_ a1_ b1_) m o x2.toNatClampNeg hq27 x2.toNatClampNeg hq29 z31) hP (hD1 _ (hAd _ _ _ _)) hS (hA1 _ _ (hAd _ _ _ _) hS.1) (hL o) (Nat.lt_of_lt_of_le hq27 (Nat.le_of_ble_eq_true rfl)) ((msp hq27) _ _) rfl tw_4_6 tw_4_3 tw_4_5 ts_36 tw_1_6 yd_X8_copyFrom ⟨(Nat.le_of_ble_eq_true rfl), (Nat.le_of_ble_eq_true rfl)⟩ rfl hl.1 rfl (Nat.le_of_ble_eq_true rfl) dX6_copyFrom_45 (fun H locs hP hS => ?_)
        obtain ⟨v32, ev32, hD⟩ := bnd_el hD
        refine lv_iinc (v := v32) (lv' := [(2, .int v32), (0, .ref (ad 24)), (1, .ref (ado 24))]) hx hb dX6_copyFrom_48 hl (k := 2) rfl (by rw [ev32]; rfl) (by decide) rfl (fun ls hl => ?_)
        refine lv_goto (tgt := 25) hx hb dX6_copyFrom_51 (by decide) ?_
        exact ih _ _ _ _ _ hD hP hS (lv_sub hl [1, 2, 0] rfl)
  refine lv_aload_n hx hb dX6_copyFrom_0 rfl (lv_at hl 1 rfl) ?_
  refine rg (Wf := fun z => Wf m z) (mm := o) hx hb hT hu6 hown hK hP (hLo m) 24 0 (Nat.le_of_ble_eq_true rfl) (ms24 _ _) rfl (Nat.le_of_ble_eq_true rfl) (Fx0.T tw_2_75) rfl (v := .ref (ado 25)) rfl dX6_copyFrom_1 ?_
  refine lv_iconst (v := (0 : Int32)) hx hb dX6_copyFrom_4 (by decide) ?_
  refine lv_aload_n hx hb dX6_copyFrom_5 rfl (lv_at hl 0 rfl) ?_
  refine rg (Wf := fun z => Wf z o) (mm := m) hx hb hT hu6 hown hK hP (hL o) 24 0 (Nat.le_of_ble_eq_true rfl) (ms24 _ _) rfl (Nat.le_of_ble_eq_true rfl) (Fx0.T tw_2_75) rfl (v := .ref (ad 25)) rfl dX6_copyFrom_6 ?_
  refine lv_iconst (v := (0 : Int32)) hx hb dX6_copyFrom_9 (by decide) ?_
  refine lv_bipush (v := (15 : Int32)) hx hb dX6_copyFrom_10 (by decide) ?_
  obtain ⟨m1, em1, hD⟩ := bnd_el hD
  refine rcp (Wf := fun z => Wf z o) (mm := m) (Ws := fun z => Wf m z) (ms := o) hx hb (hml.trans hl.1.symm) hT hown tw_2_45 tw_2_47 tw_2_46 tw_1_8 hK hP (hD1 _ (hAd _ _ _ _)) hS (hLo m) rfl 25 (Nat.le_of_ble_eq_true rfl) (ms25 _ _) (hL o) 25 (Nat.le_of_ble_eq_true rfl) (fun _ => ms25 _ _) (by decide) (by decide) (by decide) (by decide) (Nat.le_of_ble_eq_true rfl) (Nat.le_of_ble_eq_true rfl) dX6_copyFrom_12 em1 (fun H locs hP hS => ?_)
  refine lv_aload_n hx hb dX6_copyFrom_15 rfl (lv_at hl 0 rfl) ?_
  refine lv_aload_n hx hb dX6_copyFrom_16 rfl (lv_at hl 1 rfl) ?_
  refine rg (Wf := fun z => Wf m1 z) (mm := o) hx hb hT hu6 hown hK hP (hLo m1) 24 1 (Nat.le_of_ble_eq_true rfl) (ms24 _ _) rfl (Nat.le_of_ble_eq_true rfl) (Fx0.T tw_2_78) rfl (v := .int (gi o 24 1)) rfl dX6_copyFrom_17 ?_
  obtain ⟨m2, em2, hD⟩ := bnd_el hD
  refine rp (Wf := fun z => Wf z o) (mm := m1) hx hb hT hu6 tyX6_ok nmX6 hown hK hP (hD1 _ (hAd _ _ _ _)) hS (hL o) 24 1 (Nat.le_of_ble_eq_true rfl) (ms24 _ _) (ms24 _ _) rfl (Nat.le_of_ble_eq_true rfl) (Fx0.T tw_2_78) rfl rfl rfl rfl (Nat.le_of_ble_eq_true rfl) dX6_copyFrom_20 em2 (fun H locs hP hS => ?_)
  refine lv_iconst (v := (0 : Int32)) hx hb dX6_copyFrom_23 (by decide) ?_
  refine lv_istore_n (lv' := [(2, .int (0 : Int32)), (0, .ref (ad 24)), (1, .ref (ado 24))]) hx hb dX6_copyFrom_24 rfl hl (by decide) rfl (fun ls hl => ?_)
  exact c_25 FU _ _ _ _ _ hD hP hS (lv_sub hl [1, 2, 0] rfl)

noncomputable def D_X5_clear (m : MM) : Option MM := bnd (si m 28 0 (0 : Int32)) (fun m1 => b1 (D_J7_fill_53178 30 8 (0 : Int32) m1) (fun m2 => b1 (D_J7_fill_53178 31 8 (0 : Int32) m2) (fun m4 => b1 (D_J7_fill_53178 32 8 (0 : Int32) m4) (fun m6 => b1 (D_J7_fill_53178 33 8 (0 : Int32) m6) (fun m8 => b1 (D_J7_fill_53178 34 8 (0 : Int32) m8) (fun m10 => some (m10)))))))
set_option maxHeartbeats 4000000 in
set_option maxRecDepth 100000 in
theorem c_X5_clear (l : Launch) {D : va_G} {cs : Nat → ClassId} {ad : Nat → Nat} {Wf : MM → va_W} (hL : Ln 51 ad (msh cs ad) Wf) (hAd : ∀ a0_ b0_ : MM, (Wf a0_).map (fun q => q.1) = (Wf b0_).map (fun q => q.1)) (m : MM) {m' : MM} (hD : D_X5_clear m = some (m')) : Ct l yX5_clear cX5_clear 1 none 1 23 D cs [.ref (ad 28)] (Wf m) (Wf m') (none) := by
  refine Ct.ofW (by decide) (Nat.le_of_ble_eq_true rfl) (hAd _ _) ?_
  intro p e s m0 below meth c A Q ls args hx hb hr hml hlocks hown hts hK hP hD1 hSS hS hA1 hl hret
  have hT : ∀ w ∈ TBL, w.before args s = true := fun w h => hts w (List.mem_cons_of_mem _ h)
  have Fx0 : Fx p l m0 c cX5_clear 1 s args yX5_clear cX5_clear 1 none D cs A := ⟨hx, hb, hml, hown, hts, hK, hSS⟩
  have hown : s.vm.findClass RX5 = some m0.cls := hown
  have hl : lv_has ls 1 [(0, .ref (ad 28))] := hl
  unfold D_X5_clear at hD
  refine lv_aload_n hx hb dX5_clear_0 rfl (lv_at hl 0 rfl) ?_
  refine lv_iconst (v := (0 : Int32)) hx hb dX5_clear_1 (by decide) ?_
  obtain ⟨m1, em1, hD⟩ := bnd_el hD
  refine rp  hx hb hT hu5 tyX5_ok nmX5 hown hK hP (hD1 _ (hAd _ _)) hS hL 28 0 (Nat.le_of_ble_eq_true rfl) (ms28 _ _) (ms28 _ _) rfl (Nat.le_of_ble_eq_true rfl) (Fx0.T tw_1_51) rfl rfl rfl rfl (Nat.le_of_ble_eq_true rfl) dX5_clear_2 em1 (fun H locs hP hS => ?_)
  refine lv_aload_n hx hb dX5_clear_5 rfl (lv_at hl 0 rfl) ?_
  refine rg  hx hb hT hu5 hown hK hP hL 28 2 (Nat.le_of_ble_eq_true rfl) (ms28 _ _) rfl (Nat.le_of_ble_eq_true rfl) (Fx0.T tw_1_58) rfl (v := .ref (ad 30)) rfl dX5_clear_6 ?_
  refine lv_iconst (v := (0 : Int32)) hx hb dX5_clear_9 (by decide) ?_
  obtain ⟨m2, z3, hD⟩ := b1_el hD
  refine rcS (As := [.ref (ad 30), .int (0 : Int32)]) (rest := []) Fx0 (c_J7_fill_53178 l hL hAd m1 30 8 (Nat.le_of_ble_eq_true rfl) (fun _ _ => ms30 _ _) (0 : Int32) z3) hP (hD1 _ (hAd _ _)) hS (hA1 _ _ (hAd _ _) hS.1) tw_2_62 tw_2_60 tw_2_61 tw_1_9 yd_J7_fill_53178 ⟨(Nat.le_of_ble_eq_true rfl), (Nat.le_of_ble_eq_true rfl)⟩ rfl hl.1 rfl (Nat.le_of_ble_eq_true rfl) dX5_clear_10 (fun H locs hP hS => ?_)
  refine lv_aload_n hx hb dX5_clear_13 rfl (lv_at hl 0 rfl) ?_
  refine rg  hx hb hT hu5 hown hK hP hL 28 3 (Nat.le_of_ble_eq_true rfl) (ms28 _ _) rfl (Nat.le_of_ble_eq_true rfl) (Fx0.T tw_1_61) rfl (v := .ref (ad 31)) rfl dX5_clear_14 ?_
  refine lv_iconst (v := (0 : Int32)) hx hb dX5_clear_17 (by decide) ?_
  obtain ⟨m4, z5, hD⟩ := b1_el hD
  refine rcS (As := [.ref (ad 31), .int (0 : Int32)]) (rest := []) Fx0 (c_J7_fill_53178 l hL hAd m2 31 8 (Nat.le_of_ble_eq_true rfl) (fun _ _ => ms31 _ _) (0 : Int32) z5) hP (hD1 _ (hAd _ _)) hS (hA1 _ _ (hAd _ _) hS.1) tw_2_62 tw_2_60 tw_2_61 tw_1_9 yd_J7_fill_53178 ⟨(Nat.le_of_ble_eq_true rfl), (Nat.le_of_ble_eq_true rfl)⟩ rfl hl.1 rfl (Nat.le_of_ble_eq_true rfl) dX5_clear_18 (fun H locs hP hS => ?_)
  refine lv_aload_n hx hb dX5_clear_21 rfl (lv_at hl 0 rfl) ?_
  refine rg  hx hb hT hu5 hown hK hP hL 28 4 (Nat.le_of_ble_eq_true rfl) (ms28 _ _) rfl (Nat.le_of_ble_eq_true rfl) (Fx0.T tw_1_63) rfl (v := .ref (ad 32)) rfl dX5_clear_22 ?_
  refine lv_iconst (v := (0 : Int32)) hx hb dX5_clear_25 (by decide) ?_
  obtain ⟨m6, z7, hD⟩ := b1_el hD
  refine rcS (As := [.ref (ad 32), .int (0 : Int32)]) (rest := []) Fx0 (c_J7_fill_53178 l hL hAd m4 32 8 (Nat.le_of_ble_eq_true rfl) (fun _ _ => ms32 _ _) (0 : Int32) z7) hP (hD1 _ (hAd _ _)) hS (hA1 _ _ (hAd _ _) hS.1) tw_2_62 tw_2_60 tw_2_61 tw_1_9 yd_J7_fill_53178 ⟨(Nat.le_of_ble_eq_true rfl), (Nat.le_of_ble_eq_true rfl)⟩ rfl hl.1 rfl (Nat.le_of_ble_eq_true rfl) dX5_clear_26 (fun H locs hP hS => ?_)
  refine lv_aload_n hx hb dX5_clear_29 rfl (lv_at hl 0 rfl) ?_
  refine rg  hx hb hT hu5 hown hK hP hL 28 5 (Nat.le_of_ble_eq_true rfl) (ms28 _ _) rfl (Nat.le_of_ble_eq_true rfl) (Fx0.T tw_1_65) rfl (v := .ref (ad 33)) rfl dX5_clear_30 ?_
  refine lv_iconst (v := (0 : Int32)) hx hb dX5_clear_33 (by decide) ?_
  obtain ⟨m8, z9, hD⟩ := b1_el hD
  refine rcS (As := [.ref (ad 33), .int (0 : Int32)]) (rest := []) Fx0 (c_J7_fill_53178 l hL hAd m6 33 8 (Nat.le_of_ble_eq_true rfl) (fun _ _ => ms33 _ _) (0 : Int32) z9) hP (hD1 _ (hAd _ _)) hS (hA1 _ _ (hAd _ _) hS.1) tw_2_62 tw_2_60 tw_2_61 tw_1_9 yd_J7_fill_53178 ⟨(Nat.le_of_ble_eq_true rfl), (Nat.le_of_ble_eq_true rfl)⟩ rfl hl.1 rfl (Nat.le_of_ble_eq_true rfl) dX5_clear_34 (fun H locs hP hS => ?_)
  refine lv_aload_n hx hb dX5_clear_37 rfl (lv_at hl 0 rfl) ?_
  refine rg  hx hb hT hu5 hown hK hP hL 28 6 (Nat.le_of_ble_eq_true rfl) (ms28 _ _) rfl (Nat.le_of_ble_eq_true rfl) (Fx0.T tw_1_67) rfl (v := .ref (ad 34)) rfl dX5_clear_38 ?_
  refine lv_iconst (v := (0 : Int32)) hx hb dX5_clear_41 (by decide) ?_
  obtain ⟨m10, z11, hD⟩ := b1_el hD
  refine rcS (As := [.ref (ad 34), .int (0 : Int32)]) (rest := []) Fx0 (c_J7_fill_53178 l hL hAd m8 34 8 (Nat.le_of_ble_eq_true rfl) (fun _ _ => ms34 _ _) (0 : Int32) z11) hP (hD1 _ (hAd _ _)) hS (hA1 _ _ (hAd _ _) hS.1) tw_2_62 tw_2_60 tw_2_61 tw_1_9 yd_J7_fill_53178 ⟨(Nat.le_of_ble_eq_true rfl), (Nat.le_of_ble_eq_true rfl)⟩ rfl hl.1 rfl (Nat.le_of_ble_eq_true rfl) dX5_clear_42 (fun H locs hP hS => ?_)
  cases hD
  exact hret _ _ _ hP hS (fun Qc hq => W.vret hx hb hr hq hS.2.2 dX5_clear_45 hlocks)

noncomputable def D_X0_clear (m : MM) : Option MM := bnd (si m 36 0 (0 : Int32)) (fun m1 => b1 (D_J7_fill_d0a16 42 8 (0 : Int64) m1) (fun m2 => bnd (sl m2 36 7 (0 : Int64)) (fun m4 => bnd (sl m4 36 8 (0 : Int64)) (fun m5 => bnd (si m5 36 9 (0 : Int32)) (fun m6 => some (m6))))))
set_option maxHeartbeats 4000000 in
set_option maxRecDepth 100000 in
theorem c_X0_clear (l : Launch) {D : va_G} {cs : Nat → ClassId} {ad : Nat → Nat} {Wf : MM → va_W} (hL : Ln 51 ad (msh cs ad) Wf) (hAd : ∀ a0_ b0_ : MM, (Wf a0_).map (fun q => q.1) = (Wf b0_).map (fun q => q.1)) (m : MM) {m' : MM} (hD : D_X0_clear m = some (m')) : Ct l yX0_clear cX0_clear 1 none 1 24 D cs [.ref (ad 36)] (Wf m) (Wf m') (none) := by
  refine Ct.ofW (by decide) (Nat.le_of_ble_eq_true rfl) (hAd _ _) ?_
  intro p e s m0 below meth c A Q ls args hx hb hr hml hlocks hown hts hK hP hD1 hSS hS hA1 hl hret
  have hT : ∀ w ∈ TBL, w.before args s = true := fun w h => hts w (List.mem_cons_of_mem _ h)
  have Fx0 : Fx p l m0 c cX0_clear 1 s args yX0_clear cX0_clear 1 none D cs A := ⟨hx, hb, hml, hown, hts, hK, hSS⟩
  have hown : s.vm.findClass RX0 = some m0.cls := hown
  have hl : lv_has ls 1 [(0, .ref (ad 36))] := hl
  unfold D_X0_clear at hD
  refine lv_aload_n hx hb dX0_clear_0 rfl (lv_at hl 0 rfl) ?_
  refine lv_iconst (v := (0 : Int32)) hx hb dX0_clear_1 (by decide) ?_
  obtain ⟨m1, em1, hD⟩ := bnd_el hD
  refine rp  hx hb hT hu0 tyX0_ok nmX0 hown hK hP (hD1 _ (hAd _ _)) hS hL 36 0 (Nat.le_of_ble_eq_true rfl) (ms36 _ _) (ms36 _ _) rfl (Nat.le_of_ble_eq_true rfl) (Fx0.T tw_1_95) rfl rfl rfl rfl (Nat.le_of_ble_eq_true rfl) dX0_clear_2 em1 (fun H locs hP hS => ?_)
  refine lv_aload_n hx hb dX0_clear_5 rfl (lv_at hl 0 rfl) ?_
  refine rg  hx hb hT hu0 hown hK hP hL 36 6 (Nat.le_of_ble_eq_true rfl) (ms36 _ _) rfl (Nat.le_of_ble_eq_true rfl) (Fx0.T tw_1_109) rfl (v := .ref (ad 42)) rfl dX0_clear_6 ?_
  refine lv_lconst (v := (0 : Int64)) hx hb dX0_clear_9 (by decide) ?_
  obtain ⟨m2, z3, hD⟩ := b1_el hD
  refine rcS (As := [.ref (ad 42), .long (0 : Int64)]) (rest := []) Fx0 (c_J7_fill_d0a16 l hL hAd m1 42 8 (Nat.le_of_ble_eq_true rfl) (fun _ _ => ms42 _ _) (0 : Int64) z3) hP (hD1 _ (hAd _ _)) hS (hA1 _ _ (hAd _ _) hS.1) tw_2_69 tw_2_67 tw_2_68 tw_1_9 yd_J7_fill_d0a16 ⟨(Nat.le_of_ble_eq_true rfl), (Nat.le_of_ble_eq_true rfl)⟩ rfl hl.1 rfl (Nat.le_of_ble_eq_true rfl) dX0_clear_10 (fun H locs hP hS => ?_)
  refine lv_aload_n hx hb dX0_clear_13 rfl (lv_at hl 0 rfl) ?_
  refine lv_lconst (v := (0 : Int64)) hx hb dX0_clear_14 (by decide) ?_
  obtain ⟨m4, em4, hD⟩ := bnd_el hD
  refine rpL  hx hb hT hu0 tyX0_ok nmX0 hown hK hP (hD1 _ (hAd _ _)) hS hL 36 7 (Nat.le_of_ble_eq_true rfl) (ms36 _ _) (ms36 _ _) rfl (Nat.le_of_ble_eq_true rfl) (Fx0.T tw_1_111) rfl rfl rfl rfl (Nat.le_of_ble_eq_true rfl) dX0_clear_15 em4 (fun H locs hP hS => ?_)
  refine lv_aload_n hx hb dX0_clear_18 rfl (lv_at hl 0 rfl) ?_
  refine lv_lconst (v := (0 : Int64)) hx hb dX0_clear_19 (by decide) ?_
  obtain ⟨m5, em5, hD⟩ := bnd_el hD
  refine rpL  hx hb hT hu0 tyX0_ok nmX0 hown hK hP (hD1 _ (hAd _ _)) hS hL 36 8 (Nat.le_of_ble_eq_true rfl) (ms36 _ _) (ms36 _ _) rfl (Nat.le_of_ble_eq_true rfl) (Fx0.T tw_1_113) rfl rfl rfl rfl (Nat.le_of_ble_eq_true rfl) dX0_clear_20 em5 (fun H locs hP hS => ?_)
  refine lv_aload_n hx hb dX0_clear_23 rfl (lv_at hl 0 rfl) ?_
  refine lv_iconst (v := (0 : Int32)) hx hb dX0_clear_24 (by decide) ?_
  obtain ⟨m6, em6, hD⟩ := bnd_el hD
  refine rp  hx hb hT hu0 tyX0_ok nmX0 hown hK hP (hD1 _ (hAd _ _)) hS hL 36 9 (Nat.le_of_ble_eq_true rfl) (ms36 _ _) (ms36 _ _) rfl (Nat.le_of_ble_eq_true rfl) (Fx0.T tw_1_115) rfl rfl rfl rfl (Nat.le_of_ble_eq_true rfl) dX0_clear_25 em6 (fun H locs hP hS => ?_)
  cases hD
  exact hret _ _ _ hP hS (fun Qc hq => W.vret hx hb hr hq hS.2.2 dX0_clear_28 hlocks)

noncomputable def D_X4_clear (m : MM) : Option MM := bnd (si m 45 0 (0 : Int32)) (fun m1 => bnd (si m1 45 1 (0 : Int32)) (fun m2 => b1 (D_J7_fill_53178 49 7 (0 : Int32) m2) (fun m3 => b1 (D_J7_fill_53178 50 7 (0 : Int32) m3) (fun m5 => bnd (si m5 45 7 (0 : Int32)) (fun m7 => bnd (si m7 45 8 (0 : Int32)) (fun m8 => some (m8)))))))
set_option maxHeartbeats 4000000 in
set_option maxRecDepth 100000 in
theorem c_X4_clear (l : Launch) {D : va_G} {cs : Nat → ClassId} {ad : Nat → Nat} {Wf : MM → va_W} (hL : Ln 51 ad (msh cs ad) Wf) (hAd : ∀ a0_ b0_ : MM, (Wf a0_).map (fun q => q.1) = (Wf b0_).map (fun q => q.1)) (m : MM) {m' : MM} (hD : D_X4_clear m = some (m')) : Ct l yX4_clear cX4_clear 1 none 1 23 D cs [.ref (ad 45)] (Wf m) (Wf m') (none) := by
  refine Ct.ofW (by decide) (Nat.le_of_ble_eq_true rfl) (hAd _ _) ?_
  intro p e s m0 below meth c A Q ls args hx hb hr hml hlocks hown hts hK hP hD1 hSS hS hA1 hl hret
  have hT : ∀ w ∈ TBL, w.before args s = true := fun w h => hts w (List.mem_cons_of_mem _ h)
  have Fx0 : Fx p l m0 c cX4_clear 1 s args yX4_clear cX4_clear 1 none D cs A := ⟨hx, hb, hml, hown, hts, hK, hSS⟩
  have hown : s.vm.findClass RX4 = some m0.cls := hown
  have hl : lv_has ls 1 [(0, .ref (ad 45))] := hl
  unfold D_X4_clear at hD
  refine lv_aload_n hx hb dX4_clear_0 rfl (lv_at hl 0 rfl) ?_
  refine lv_iconst (v := (0 : Int32)) hx hb dX4_clear_1 (by decide) ?_
  obtain ⟨m1, em1, hD⟩ := bnd_el hD
  refine rp  hx hb hT hu4 tyX4_ok nmX4 hown hK hP (hD1 _ (hAd _ _)) hS hL 45 0 (Nat.le_of_ble_eq_true rfl) (ms45 _ _) (ms45 _ _) rfl (Nat.le_of_ble_eq_true rfl) (Fx0.T tw_1_152) rfl rfl rfl rfl (Nat.le_of_ble_eq_true rfl) dX4_clear_2 em1 (fun H locs hP hS => ?_)
  refine lv_aload_n hx hb dX4_clear_5 rfl (lv_at hl 0 rfl) ?_
  refine lv_iconst (v := (0 : Int32)) hx hb dX4_clear_6 (by decide) ?_
  obtain ⟨m2, em2, hD⟩ := bnd_el hD
  refine rp  hx hb hT hu4 tyX4_ok nmX4 hown hK hP (hD1 _ (hAd _ _)) hS hL 45 1 (Nat.le_of_ble_eq_true rfl) (ms45 _ _) (ms45 _ _) rfl (Nat.le_of_ble_eq_true rfl) (Fx0.T tw_1_154) rfl rfl rfl rfl (Nat.le_of_ble_eq_true rfl) dX4_clear_7 em2 (fun H locs hP hS => ?_)
  refine lv_aload_n hx hb dX4_clear_10 rfl (lv_at hl 0 rfl) ?_
  refine rg  hx hb hT hu4 hown hK hP hL 45 5 (Nat.le_of_ble_eq_true rfl) (ms45 _ _) rfl (Nat.le_of_ble_eq_true rfl) (Fx0.T tw_1_158) rfl (v := .ref (ad 49)) rfl dX4_clear_11 ?_
  refine lv_iconst (v := (0 : Int32)) hx hb dX4_clear_14 (by decide) ?_
  obtain ⟨m3, z4, hD⟩ := b1_el hD
  refine rcS (As := [.ref (ad 49), .int (0 : Int32)]) (rest := []) Fx0 (c_J7_fill_53178 l hL hAd m2 49 7 (Nat.le_of_ble_eq_true rfl) (fun _ _ => ms49 _ _) (0 : Int32) z4) hP (hD1 _ (hAd _ _)) hS (hA1 _ _ (hAd _ _) hS.1) tw_2_62 tw_2_74 tw_2_61 tw_1_9 yd_J7_fill_53178 ⟨(Nat.le_of_ble_eq_true rfl), (Nat.le_of_ble_eq_true rfl)⟩ rfl hl.1 rfl (Nat.le_of_ble_eq_true rfl) dX4_clear_15 (fun H locs hP hS => ?_)
  refine lv_aload_n hx hb dX4_clear_18 rfl (lv_at hl 0 rfl) ?_
  refine rg  hx hb hT hu4 hown hK hP hL 45 6 (Nat.le_of_ble_eq_true rfl) (ms45 _ _) rfl (Nat.le_of_ble_eq_true rfl) (Fx0.T tw_1_161) rfl (v := .ref (ad 50)) rfl dX4_clear_19 ?_
  refine lv_iconst (v := (0 : Int32)) hx hb dX4_clear_22 (by decide) ?_
  obtain ⟨m5, z6, hD⟩ := b1_el hD
  refine rcS (As := [.ref (ad 50), .int (0 : Int32)]) (rest := []) Fx0 (c_J7_fill_53178 l hL hAd m3 50 7 (Nat.le_of_ble_eq_true rfl) (fun _ _ => ms50 _ _) (0 : Int32) z6) hP (hD1 _ (hAd _ _)) hS (hA1 _ _ (hAd _ _) hS.1) tw_2_62 tw_2_74 tw_2_61 tw_1_9 yd_J7_fill_53178 ⟨(Nat.le_of_ble_eq_true rfl), (Nat.le_of_ble_eq_true rfl)⟩ rfl hl.1 rfl (Nat.le_of_ble_eq_true rfl) dX4_clear_23 (fun H locs hP hS => ?_)
  refine lv_aload_n hx hb dX4_clear_26 rfl (lv_at hl 0 rfl) ?_
  refine lv_iconst (v := (0 : Int32)) hx hb dX4_clear_27 (by decide) ?_
  obtain ⟨m7, em7, hD⟩ := bnd_el hD
  refine rp  hx hb hT hu4 tyX4_ok nmX4 hown hK hP (hD1 _ (hAd _ _)) hS hL 45 7 (Nat.le_of_ble_eq_true rfl) (ms45 _ _) (ms45 _ _) rfl (Nat.le_of_ble_eq_true rfl) (Fx0.T tw_1_164) rfl rfl rfl rfl (Nat.le_of_ble_eq_true rfl) dX4_clear_28 em7 (fun H locs hP hS => ?_)
  refine lv_aload_n hx hb dX4_clear_31 rfl (lv_at hl 0 rfl) ?_
  refine lv_iconst (v := (0 : Int32)) hx hb dX4_clear_32 (by decide) ?_
  obtain ⟨m8, em8, hD⟩ := bnd_el hD
  refine rp  hx hb hT hu4 tyX4_ok nmX4 hown hK hP (hD1 _ (hAd _ _)) hS hL 45 8 (Nat.le_of_ble_eq_true rfl) (ms45 _ _) (ms45 _ _) rfl (Nat.le_of_ble_eq_true rfl) (Fx0.T tw_1_166) rfl rfl rfl rfl (Nat.le_of_ble_eq_true rfl) dX4_clear_33 em8 (fun H locs hP hS => ?_)
  cases hD
  exact hret _ _ _ hP hS (fun Qc hq => W.vret hx hb hr hq hS.2.2 dX4_clear_36 hlocks)

noncomputable def D_X6_clear_21 : Nat → Int32 → MM → Option MM
  | 0, _, _ => none
  | n + 1, x1, m => if (4 : Int32) ≤ x1 then (bnd (si m 24 3 (0 : Int32)) (fun m4 => b1 (D_X5_clear m4) (fun m5 => bnd (si m5 24 6 (0 : Int32)) (fun m7 => b1 (D_X0_clear m7) (fun m8 => bnd (si m8 24 9 (1 : Int32)) (fun m10 => b1 (D_X4_clear m10) (fun m11 => bnd (si m11 24 11 (0 : Int32)) (fun m13 => bnd (si m13 24 12 (0 : Int32)) (fun m14 => bnd (si m14 24 13 (0 : Int32)) (fun m15 => bnd (si m15 24 14 (0 : Int32)) (fun m16 => bnd (si m16 24 15 (0 : Int32)) (fun m17 => some (m17))))))))))))) else (if x1 < 0 ∨ 4 ≤ x1.toNatClampNeg then none else (b1 (D_X8_clear x1.toNatClampNeg m) (fun m20 => bnd (x1 + (1 : Int32)) (fun v22 => D_X6_clear_21 n v22 m20))))
noncomputable def D_X6_clear (m : MM) : Option MM := bnd (sr m 25 (va_cpy dfl (m.1 25) 0 0 15)) (fun m2 => bnd (si m2 24 1 (1 : Int32)) (fun m3 => D_X6_clear_21 FU (0 : Int32) m3))
set_option maxHeartbeats 4000000 in
set_option maxRecDepth 100000 in
theorem c_X6_clear (l : Launch) {D : va_G} {cs : Nat → ClassId} {ad : Nat → Nat} {Wf : MM → va_W} (hL : Ln 51 ad (msh cs ad) Wf) (hAd : ∀ a0_ b0_ : MM, (Wf a0_).map (fun q => q.1) = (Wf b0_).map (fun q => q.1)) (m : MM) {m' : MM} (hD : D_X6_clear m = some (m')) : Ct l yX6_clear cX6_clear 2 none 2 64 D cs [.ref (ad 24)] (Wf m) (Wf m') (none) := by
  refine Ct.ofW (by decide) (Nat.le_of_ble_eq_true rfl) (hAd _ _) ?_
  intro p e s m0 below meth c A Q ls args hx hb hr hml hlocks hown hts hK hP hD1 hSS hS hA1 hl hret
  have hT : ∀ w ∈ TBL, w.before args s = true := fun w h => hts w (List.mem_cons_of_mem _ h)
  have Fx0 : Fx p l m0 c cX6_clear 2 s args yX6_clear cX6_clear 2 none D cs A := ⟨hx, hb, hml, hown, hts, hK, hSS⟩
  have hown : s.vm.findClass RX6 = some m0.cls := hown
  have hl : lv_has ls 2 [(0, .ref (ad 24))] := hl
  unfold D_X6_clear at hD
  have c_21 : ∀ (n : Nat), ∀ (x1 : Int32) (m : MM) (H : Heap) (locs : List Loc) (ls : Array Slot), D_X6_clear_21 n x1 m = some (m') → va_P D vwCl (Wf m) H → va_S A s.heap H locs → lv_has ls 2 [(0, .ref (ad 24)), (1, .int x1)] → W p l e ({ frames := 2, cells := 0, slots := 0, locals := 64 } : Room) s m0 args below meth c H locs 0 0 Q (F0 m0 21 ls []) := by
    intro n
    induction n with
    | zero =>
      intro x1 m H locs ls hD hP hS hl
      exact nn_el hD
    | succ n ih =>
      intro x1 m H locs ls hD hP hS hl
      rw [D_X6_clear_21] at hD
      refine lv_iload_n hx hb dX6_clear_21 rfl (lv_at hl 1 rfl) ?_
      refine lv_iconst (v := (4 : Int32)) hx hb dX6_clear_22 (by decide) ?_
      refine lv_icmp_ge (tgt := 41) hx hb dX6_clear_23 (by decide) (fun c => ?_) (fun c => ?_)
      · have hD := ifp hD c
        refine lv_aload_n hx hb dX6_clear_41 rfl (lv_at hl 0 rfl) ?_
        refine lv_iconst (v := (0 : Int32)) hx hb dX6_clear_42 (by decide) ?_
        obtain ⟨m4, em4, hD⟩ := bnd_el hD
        refine rp  hx hb hT hu6 tyX6_ok nmX6 hown hK hP (hD1 _ (hAd _ _)) hS hL 24 3 (Nat.le_of_ble_eq_true rfl) (ms24 _ _) (ms24 _ _) rfl (Nat.le_of_ble_eq_true rfl) (Fx0.T tw_2_85) rfl rfl rfl rfl (Nat.le_of_ble_eq_true rfl) dX6_clear_43 em4 (fun H locs hP hS => ?_)
        refine lv_aload_n hx hb dX6_clear_46 rfl (lv_at hl 0 rfl) ?_
        refine rg  hx hb hT hu6 hown hK hP hL 24 5 (Nat.le_of_ble_eq_true rfl) (ms24 _ _) rfl (Nat.le_of_ble_eq_true rfl) (Fx0.T tw_2_91) rfl (v := .ref (ad 28)) rfl dX6_clear_47 ?_
        obtain ⟨m5, z6, hD⟩ := b1_el hD
        refine rcVN  (As := []) (rest := []) Fx0 (c_X5_clear l hL hAd m4 z6) hP (hD1 _ (hAd _ _)) hS (hA1 _ _ (hAd _ _) hS.1) hL (Nat.le_of_ble_eq_true rfl) (ms28 _ _) rfl tw_2_59 tw_2_56 tw_2_58 ts_3 tw_1_3 yd_X5_clear ⟨(Nat.le_of_ble_eq_true rfl), (Nat.le_of_ble_eq_true rfl)⟩ rfl hl.1 rfl (Nat.le_of_ble_eq_true rfl) dX6_clear_50 (fun H locs hP hS => ?_)
        refine lv_aload_n hx hb dX6_clear_53 rfl (lv_at hl 0 rfl) ?_
        refine lv_iconst (v := (0 : Int32)) hx hb dX6_clear_54 (by decide) ?_
        obtain ⟨m7, em7, hD⟩ := bnd_el hD
        refine rp  hx hb hT hu6 tyX6_ok nmX6 hown hK hP (hD1 _ (hAd _ _)) hS hL 24 6 (Nat.le_of_ble_eq_true rfl) (ms24 _ _) (ms24 _ _) rfl (Nat.le_of_ble_eq_true rfl) (Fx0.T tw_2_95) rfl rfl rfl rfl (Nat.le_of_ble_eq_true rfl) dX6_clear_55 em7 (fun H locs hP hS => ?_)
        refine lv_aload_n hx hb dX6_clear_58 rfl (lv_at hl 0 rfl) ?_
        refine rg  hx hb hT hu6 hown hK hP hL 24 8 (Nat.le_of_ble_eq_true rfl) (ms24 _ _) rfl (Nat.le_of_ble_eq_true rfl) (Fx0.T tw_2_103) rfl (v := .ref (ad 36)) rfl dX6_clear_59 ?_
        obtain ⟨m8, z9, hD⟩ := b1_el hD
        refine rcVN  (As := []) (rest := []) Fx0 (c_X0_clear l hL hAd m7 z9) hP (hD1 _ (hAd _ _)) hS (hA1 _ _ (hAd _ _) hS.1) hL (Nat.le_of_ble_eq_true rfl) (ms36 _ _) rfl tw_2_66 tw_2_63 tw_2_65 ts_4 tw_1_4 yd_X0_clear ⟨(Nat.le_of_ble_eq_true rfl), (Nat.le_of_ble_eq_true rfl)⟩ rfl hl.1 rfl (Nat.le_of_ble_eq_true rfl) dX6_clear_62 (fun H locs hP hS => ?_)
        refine lv_aload_n hx hb dX6_clear_65 rfl (lv_at hl 0 rfl) ?_
        refine lv_iconst (v := (1 : Int32)) hx hb dX6_clear_66 (by decide) ?_
        obtain ⟨m10, em10, hD⟩ := bnd_el hD
        refine rp  hx hb hT hu6 tyX6_ok nmX6 hown hK hP (hD1 _ (hAd _ _)) hS hL 24 9 (Nat.le_of_ble_eq_true rfl) (ms24 _ _) (ms24 _ _) rfl (Nat.le_of_ble_eq_true rfl) (Fx0.T tw_2_107) rfl rfl rfl rfl (Nat.le_of_ble_eq_true rfl) dX6_clear_67 em10 (fun H locs hP hS => ?_)
        refine lv_aload_n hx hb dX6_clear_70 rfl (lv_at hl 0 rfl) ?_
        refine rg  hx hb hT hu6 hown hK hP hL 24 10 (Nat.le_of_ble_eq_true rfl) (ms24 _ _) rfl (Nat.le_of_ble_eq_true rfl) (Fx0.T tw_2_109) rfl (v := .ref (ad 45)) rfl dX6_clear_71 ?_
        obtain ⟨m11, z12, hD⟩ := b1_el hD
        refine rcVN  (As := []) (rest := []) Fx0 (c_X4_clear l hL hAd m10 z12) hP (hD1 _ (hAd _ _)) hS (hA1 _ _ (hAd _ _) hS.1) hL (Nat.le_of_ble_eq_true rfl) (ms45 _ _) rfl tw_2_73 tw_2_70 tw_2_72 ts_5 tw_1_5 yd_X4_clear ⟨(Nat.le_of_ble_eq_true rfl), (Nat.le_of_ble_eq_true rfl)⟩ rfl hl.1 rfl (Nat.le_of_ble_eq_true rfl) dX6_clear_74 (fun H locs hP hS => ?_)
        refine lv_aload_n hx hb dX6_clear_77 rfl (lv_at hl 0 rfl) ?_
        refine lv_iconst (v := (0 : Int32)) hx hb dX6_clear_78 (by decide) ?_
        obtain ⟨m13, em13, hD⟩ := bnd_el hD
        refine rp  hx hb hT hu6 tyX6_ok nmX6 hown hK hP (hD1 _ (hAd _ _)) hS hL 24 11 (Nat.le_of_ble_eq_true rfl) (ms24 _ _) (ms24 _ _) rfl (Nat.le_of_ble_eq_true rfl) (Fx0.T tw_2_111) rfl rfl rfl rfl (Nat.le_of_ble_eq_true rfl) dX6_clear_79 em13 (fun H locs hP hS => ?_)
        refine lv_aload_n hx hb dX6_clear_82 rfl (lv_at hl 0 rfl) ?_
        refine lv_iconst (v := (0 : Int32)) hx hb dX6_clear_83 (by decide) ?_
        obtain ⟨m14, em14, hD⟩ := bnd_el hD
        refine rp  hx hb hT hu6 tyX6_ok nmX6 hown hK hP (hD1 _ (hAd _ _)) hS hL 24 12 (Nat.le_of_ble_eq_true rfl) (ms24 _ _) (ms24 _ _) rfl (Nat.le_of_ble_eq_true rfl) (Fx0.T tw_2_113) rfl rfl rfl rfl (Nat.le_of_ble_eq_true rfl) dX6_clear_84 em14 (fun H locs hP hS => ?_)
        refine lv_aload_n hx hb dX6_clear_87 rfl (lv_at hl 0 rfl) ?_
        refine lv_iconst (v := (0 : Int32)) hx hb dX6_clear_88 (by decide) ?_
        obtain ⟨m15, em15, hD⟩ := bnd_el hD
        refine rp  hx hb hT hu6 tyX6_ok nmX6 hown hK hP (hD1 _ (hAd _ _)) hS hL 24 13 (Nat.le_of_ble_eq_true rfl) (ms24 _ _) (ms24 _ _) rfl (Nat.le_of_ble_eq_true rfl) (Fx0.T tw_2_115) rfl rfl rfl rfl (Nat.le_of_ble_eq_true rfl) dX6_clear_89 em15 (fun H locs hP hS => ?_)
        refine lv_aload_n hx hb dX6_clear_92 rfl (lv_at hl 0 rfl) ?_
        refine lv_iconst (v := (0 : Int32)) hx hb dX6_clear_93 (by decide) ?_
        obtain ⟨m16, em16, hD⟩ := bnd_el hD
        refine rp  hx hb hT hu6 tyX6_ok nmX6 hown hK hP (hD1 _ (hAd _ _)) hS hL 24 14 (Nat.le_of_ble_eq_true rfl) (ms24 _ _) (ms24 _ _) rfl (Nat.le_of_ble_eq_true rfl) (Fx0.T tw_2_118) rfl rfl rfl rfl (Nat.le_of_ble_eq_true rfl) dX6_clear_94 em16 (fun H locs hP hS => ?_)
        refine lv_aload_n hx hb dX6_clear_97 rfl (lv_at hl 0 rfl) ?_
        refine lv_iconst (v := (0 : Int32)) hx hb dX6_clear_98 (by decide) ?_
        obtain ⟨m17, em17, hD⟩ := bnd_el hD
        refine rp  hx hb hT hu6 tyX6_ok nmX6 hown hK hP (hD1 _ (hAd _ _)) hS hL 24 15 (Nat.le_of_ble_eq_true rfl) (ms24 _ _) (ms24 _ _) rfl (Nat.le_of_ble_eq_true rfl) (Fx0.T tw_2_121) rfl rfl rfl rfl (Nat.le_of_ble_eq_true rfl) dX6_clear_99 em17 (fun H locs hP hS => ?_)
        cases hD
        exact hret _ _ _ hP hS (fun Qc hq => W.vret hx hb hr hq hS.2.2 dX6_clear_102 hlocks)
      · have hD := ifn hD c
        refine lv_aload_n hx hb dX6_clear_26 rfl (lv_at hl 0 rfl) ?_
        refine rg  hx hb hT hu6 hown hK hP hL 24 2 (Nat.le_of_ble_eq_true rfl) (ms24 _ _) rfl (Nat.le_of_ble_eq_true rfl) (Fx0.T tw_2_82) rfl (v := .ref (ad 26)) rfl dX6_clear_27 ?_
        refine lv_iload_n hx hb dX6_clear_30 rfl (lv_at hl 1 rfl) ?_
        obtain ⟨h18, hD⟩ := gd_el hD
        have hq19 : x1.toNatClampNeg < 4 := Nat.lt_of_not_le (fun z => h18 (Or.inr z))
        refine raald  hx hb hK hP hL 26 4 (Nat.le_of_ble_eq_true rfl) (ms26 _ _) rfl h18 rfl dX6_clear_31 ?_
        obtain ⟨m20, z21, hD⟩ := b1_el hD
        refine rcVN  (As := []) (rest := []) Fx0 (c_X8_clear l hL hAd m x1.toNatClampNeg hq19 z21) hP (hD1 _ (hAd _ _)) hS (hA1 _ _ (hAd _ _) hS.1) hL (Nat.lt_of_lt_of_le hq19 (Nat.le_of_ble_eq_true rfl)) ((msp hq19) _ _) rfl tw_2_51 tw_2_48 tw_2_50 ts_1 tw_1_6 yd_X8_clear ⟨(Nat.le_of_ble_eq_true rfl), (Nat.le_of_ble_eq_true rfl)⟩ rfl hl.1 rfl (Nat.le_of_ble_eq_true rfl) dX6_clear_32 (fun H locs hP hS => ?_)
        obtain ⟨v22, ev22, hD⟩ := bnd_el hD
        refine lv_iinc (v := v22) (lv' := [(1, .int v22), (0, .ref (ad 24))]) hx hb dX6_clear_35 hl (k := 1) rfl (by rw [ev22]; rfl) (by decide) rfl (fun ls hl => ?_)
        refine lv_goto (tgt := 21) hx hb dX6_clear_38 (by decide) ?_
        exact ih _ _ _ _ _ hD hP hS (lv_sub hl [1, 0] rfl)
  obtain ⟨t1, hzt1, htt1⟩ := hSS.1
  refine rgsN hx hb hzt1 hS hown hK tw_2_43 dX6_clear_0 ?_
  refine lv_iconst (v := (0 : Int32)) hx hb dX6_clear_3 (by decide) ?_
  refine lv_aload_n hx hb dX6_clear_4 rfl (lv_at hl 0 rfl) ?_
  refine rg  hx hb hT hu6 hown hK hP hL 24 0 (Nat.le_of_ble_eq_true rfl) (ms24 _ _) rfl (Nat.le_of_ble_eq_true rfl) (Fx0.T tw_2_75) rfl (v := .ref (ad 25)) rfl dX6_clear_5 ?_
  refine lv_iconst (v := (0 : Int32)) hx hb dX6_clear_8 (by decide) ?_
  refine lv_bipush (v := (15 : Int32)) hx hb dX6_clear_9 (by decide) ?_
  obtain ⟨m2, em2, hD⟩ := bnd_el hD
  refine rcpT (mm := m) hx hb (hml.trans hl.1.symm) hT hown tw_2_45 tw_2_47 tw_2_46 tw_1_8 hK hP (hD1 _ (hAd _ _)) hS htt1 hL 25 (Nat.le_of_ble_eq_true rfl) (fun _ => ms25 _ _) (by decide) (by decide) (by decide) (by decide) (Nat.le_of_ble_eq_true rfl) (Nat.le_of_ble_eq_true rfl) dX6_clear_11 em2 (fun H locs hP hS => ?_)
  refine lv_aload_n hx hb dX6_clear_14 rfl (lv_at hl 0 rfl) ?_
  refine lv_iconst (v := (1 : Int32)) hx hb dX6_clear_15 (by decide) ?_
  obtain ⟨m3, em3, hD⟩ := bnd_el hD
  refine rp  hx hb hT hu6 tyX6_ok nmX6 hown hK hP (hD1 _ (hAd _ _)) hS hL 24 1 (Nat.le_of_ble_eq_true rfl) (ms24 _ _) (ms24 _ _) rfl (Nat.le_of_ble_eq_true rfl) (Fx0.T tw_2_78) rfl rfl rfl rfl (Nat.le_of_ble_eq_true rfl) dX6_clear_16 em3 (fun H locs hP hS => ?_)
  refine lv_iconst (v := (0 : Int32)) hx hb dX6_clear_19 (by decide) ?_
  refine lv_istore_n (lv' := [(1, .int (0 : Int32)), (0, .ref (ad 24))]) hx hb dX6_clear_20 rfl hl (by decide) rfl (fun ls hl => ?_)
  exact c_21 FU _ _ _ _ _ hD hP hS (lv_sub hl [1, 0] rfl)
