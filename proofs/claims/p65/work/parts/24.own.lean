/-! the class's own methods that throw nothing -/
noncomputable def D_X9_append_48 (m : MM) : Nat → Int64 → Int32 → MM → Option (Int32 × MM)
  | 0, _, _, _ => none
  | n + 1, x1, x4, h => if x4 < 0 then (some ((gi h 0 1), h)) else (bnd ((((x1.toUInt64 >>> (x4.toInt64.toUInt64 &&& Int64.toUInt64 63)).toInt64).toInt32).toInt8.toInt32) (fun v1 => if v1 = 0 then (bnd (x4 + (-8 : Int32)) (fun v2 => D_X9_append_48 m n x1 v2 h)) else (if (900 : Int32) ≤ (gi h 0 1) then (bnd (x4 + (-8 : Int32)) (fun v3 => D_X9_append_48 m n x1 v3 h)) else (if (gi h 0 1) < 0 ∨ 900 ≤ (gi h 0 1).toNatClampNeg then none else (bnd (si h 5 ((gi h 0 1).toNatClampNeg) (vp_nar .byte v1)) (fun m5 => bnd (si m5 0 1 ((gi m5 0 1) + (1 : Int32))) (fun m6 => bnd (x4 + (-8 : Int32)) (fun v7 => D_X9_append_48 m n x1 v7 m6))))))))
noncomputable def D_X9_append_6 (m : MM) : Nat → Int64 → Int32 → Int32 → MM → Option (Int32 × MM)
  | 0, _, _, _, _ => none
  | n + 1, x1, x3, x4, h => if x4 < 0 then (if ((gi h 0 1) + x3) ≤ (900 : Int32) then (D_X9_append_48 m FU x1 (56 : Int32) h) else (some ((-2 : Int32), h))) else (if (((x1.toUInt64 >>> (x4.toInt64.toUInt64 &&& Int64.toUInt64 63)).toInt64).toInt32).toInt8.toInt32 = 0 then (bnd (x4 + (-8 : Int32)) (fun v8 => D_X9_append_6 m n x1 x3 v8 h)) else (bnd (x3 + (1 : Int32)) (fun v9 => bnd (x4 + (-8 : Int32)) (fun v10 => D_X9_append_6 m n x1 v9 v10 h))))
noncomputable def D_X9_append (x1 : Int64) (h : MM) (m : MM) : Option (Int32 × MM) := D_X9_append_6 m FU x1 (0 : Int32) (56 : Int32) h
set_option maxHeartbeats 4000000 in
set_option maxRecDepth 100000 in
theorem c_X9_append (l : Launch) {D : va_G} {cs : Nat → ClassId} {adh ad ma : Nat → Nat} {Wf : MM → MM → va_W} (hLh : ∀ m : MM, Ln 8 adh (hsh cs adh ma) (fun z => Wf z m)) (hL : ∀ h : MM, Ln 51 ad (msh cs ad) (fun z => Wf h z)) (hAd : ∀ a0_ b0_ a1_ b1_ : MM, (Wf a0_ a1_).map (fun q => q.1) = (Wf b0_ b1_).map (fun q => q.1)) (hm1 : ma 1 = ad 24) (h : MM) (m : MM) (x1 : Int64) {rr : Int32} {h' : MM} (hD : D_X9_append x1 h m = some (rr, h')) : Ct l yX9_append cX9_append 6 (some .int) 0 0 D cs [.ref (adh 0), .long x1] (Wf h m) (Wf h' m) (some (.int rr)) := by
  refine Ct.ofW (by decide) (Nat.le_of_ble_eq_true rfl) (hAd _ _ _ _) ?_
  intro p e s m0 below meth c A Q ls args hx hb hr hml hlocks hown hts hK hP hD1 hSS hS hA1 hl hret
  have hT : ∀ w ∈ TBL, w.before args s = true := fun w h => hts w (List.mem_cons_of_mem _ h)
  have Fx0 : Fx p l m0 c cX9_append 6 s args yX9_append cX9_append 6 (some .int) D cs A := ⟨hx, hb, hml, hown, hts, hK, hSS⟩
  have hown : s.vm.findClass RX9 = some m0.cls := hown
  have hl : lv_has ls 6 [(0, .ref (adh 0)), (1, .long x1)] := hl
  unfold D_X9_append at hD
  have c_48 : ∀ (n : Nat), ∀ (x1 : Int64) (x4 : Int32) (h : MM) (H : Heap) (locs : List Loc) (ls : Array Slot), D_X9_append_48 m n x1 x4 h = some (rr, h') → va_P D vwCl (Wf h m) H → va_S A s.heap H locs → lv_has ls 6 [(0, .ref (adh 0)), (1, .long x1), (4, .int x4)] → W p l e ({ frames := 0, cells := 0, slots := 0, locals := 0 } : Room) s m0 args below meth c H locs 0 0 Q (F0 m0 48 ls []) := by
    intro n
    induction n with
    | zero =>
      intro x1 x4 h H locs ls hD hP hS hl
      exact nn_el hD
    | succ n ih =>
      intro x1 x4 h H locs ls hD hP hS hl
      rw [D_X9_append_48] at hD
      refine lv_iload hx hb dX9_append_48 (lv_at hl 2 rfl) ?_
      refine lv_if_lt (tgt := 103) hx hb dX9_append_50 (by decide) (fun c => ?_) (fun c => ?_)
      · have hD := ifp hD c
        refine lv_aload_n hx hb dX9_append_103 rfl (lv_at hl 0 rfl) ?_
        refine rg (Wf := fun z => Wf z m) (mm := h) hx hb hT hu9 hown hK hP (hLh m) 0 1 (Nat.le_of_ble_eq_true rfl) (hs0 _ _) rfl (Nat.le_of_ble_eq_true rfl) (Fx0.T tw_3_2) rfl (v := .int (gi h 0 1)) rfl dX9_append_104 ?_
        obtain ⟨rfl, rfl⟩ := es2 hD
        exact hret _ _ _ hP hS (fun Qc hq => W.iret hx hb hr hq hS.2.2 dX9_append_107 hlocks)
      · have hD := ifn hD c
        refine lv_lload_n hx hb dX9_append_53 rfl (lv_at hl 1 rfl) ?_
        refine lv_iload hx hb dX9_append_54 (lv_at hl 2 rfl) ?_
        refine lv_lushr (v := ((x1.toUInt64 >>> (x4.toInt64.toUInt64 &&& Int64.toUInt64 63)).toInt64)) hx hb dX9_append_56 rfl ?_
        refine lv_l2i (v := ((x1.toUInt64 >>> (x4.toInt64.toUInt64 &&& Int64.toUInt64 63)).toInt64).toInt32) hx hb dX9_append_57 rfl ?_
        refine lv_i2b (v := (((x1.toUInt64 >>> (x4.toInt64.toUInt64 &&& Int64.toUInt64 63)).toInt64).toInt32).toInt8.toInt32) hx hb dX9_append_58 rfl ?_
        obtain ⟨v1, ev1, hD⟩ := bnd_el hD
        refine lv_nmi ev1 ?_
        refine lv_istore (lv' := [(5, .int v1), (0, .ref (adh 0)), (1, .long x1), (4, .int x4)]) hx hb dX9_append_59 hl (by decide) rfl (fun ls hl => ?_)
        refine lv_iload hx hb dX9_append_61 (lv_at hl 0 rfl) ?_
        refine lv_if_eq (tgt := 97) hx hb dX9_append_63 (by decide) (fun c => ?_) (fun c => ?_)
        · have hD := ifp hD c
          obtain ⟨v2, ev2, hD⟩ := bnd_el hD
          refine lv_iinc (v := v2) (lv' := [(4, .int v2), (5, .int v1), (0, .ref (adh 0)), (1, .long x1)]) hx hb dX9_append_97 hl (k := 3) rfl (by rw [ev2]; rfl) (by decide) rfl (fun ls hl => ?_)
          refine lv_goto (tgt := 48) hx hb dX9_append_100 (by decide) ?_
          exact ih _ _ _ _ _ _ hD hP hS (lv_sub hl [2, 3, 0] rfl)
        · have hD := ifn hD c
          refine lv_aload_n hx hb dX9_append_66 rfl (lv_at hl 1 rfl) ?_
          refine rg (Wf := fun z => Wf z m) (mm := h) hx hb hT hu9 hown hK hP (hLh m) 0 1 (Nat.le_of_ble_eq_true rfl) (hs0 _ _) rfl (Nat.le_of_ble_eq_true rfl) (Fx0.T tw_3_2) rfl (v := .int (gi h 0 1)) rfl dX9_append_67 ?_
          refine lv_sipush (v := (900 : Int32)) hx hb dX9_append_70 (by decide) ?_
          refine lv_icmp_ge (tgt := 97) hx hb dX9_append_73 (by decide) (fun c => ?_) (fun c => ?_)
          · have hD := ifp hD c
            obtain ⟨v3, ev3, hD⟩ := bnd_el hD
            refine lv_iinc (v := v3) (lv' := [(4, .int v3), (5, .int v1), (0, .ref (adh 0)), (1, .long x1)]) hx hb dX9_append_97 hl (k := 3) rfl (by rw [ev3]; rfl) (by decide) rfl (fun ls hl => ?_)
            refine lv_goto (tgt := 48) hx hb dX9_append_100 (by decide) ?_
            exact ih _ _ _ _ _ _ hD hP hS (lv_sub hl [2, 3, 0] rfl)
          · have hD := ifn hD c
            refine lv_aload_n hx hb dX9_append_76 rfl (lv_at hl 1 rfl) ?_
            refine rg (Wf := fun z => Wf z m) (mm := h) hx hb hT hu9 hown hK hP (hLh m) 0 0 (Nat.le_of_ble_eq_true rfl) (hs0 _ _) rfl (Nat.le_of_ble_eq_true rfl) (Fx0.T tw_3_1) rfl (v := .ref (adh 5)) rfl dX9_append_77 ?_
            refine lv_aload_n hx hb dX9_append_80 rfl (lv_at hl 1 rfl) ?_
            refine rg (Wf := fun z => Wf z m) (mm := h) hx hb hT hu9 hown hK hP (hLh m) 0 1 (Nat.le_of_ble_eq_true rfl) (hs0 _ _) rfl (Nat.le_of_ble_eq_true rfl) (Fx0.T tw_3_2) rfl (v := .int (gi h 0 1)) rfl dX9_append_81 ?_
            refine lv_iload hx hb dX9_append_84 (lv_at hl 0 rfl) ?_
            obtain ⟨h4, hD⟩ := gd_el hD
            obtain ⟨m5, em5, hD⟩ := bnd_el hD
            refine rbast (Wf := fun z => Wf z m) (mm := h) hx hb hK hP (hD1 _ (hAd _ _ _ _)) hS (hLh m) 5 (Nat.le_of_ble_eq_true rfl) (fun _ => hs5 _ _) h4 rfl dX9_append_86 em5 (fun H locs hP hS => ?_)
            refine lv_aload_n hx hb dX9_append_87 rfl (lv_at hl 1 rfl) ?_
            refine lv_dup hx hb dX9_append_88 rfl ?_
            refine rg (Wf := fun z => Wf z m) (mm := m5) hx hb hT hu9 hown hK hP (hLh m) 0 1 (Nat.le_of_ble_eq_true rfl) (hs0 _ _) rfl (Nat.le_of_ble_eq_true rfl) (Fx0.T tw_3_2) rfl (v := .int (gi m5 0 1)) rfl dX9_append_89 ?_
            refine lv_iconst (v := (1 : Int32)) hx hb dX9_append_92 (by decide) ?_
            refine lv_iadd hx hb dX9_append_93 ?_
            obtain ⟨m6, em6, hD⟩ := bnd_el hD
            refine rp (Wf := fun z => Wf z m) (mm := m5) hx hb hT hu9 tyX9_ok nmX9 hown hK hP (hD1 _ (hAd _ _ _ _)) hS (hLh m) 0 1 (Nat.le_of_ble_eq_true rfl) (hs0 _ _) (hs0 _ _) rfl (Nat.le_of_ble_eq_true rfl) (Fx0.T tw_3_2) rfl rfl rfl rfl (Nat.le_of_ble_eq_true rfl) dX9_append_94 em6 (fun H locs hP hS => ?_)
            obtain ⟨v7, ev7, hD⟩ := bnd_el hD
            refine lv_iinc (v := v7) (lv' := [(4, .int v7), (5, .int v1), (0, .ref (adh 0)), (1, .long x1)]) hx hb dX9_append_97 hl (k := 3) rfl (by rw [ev7]; rfl) (by decide) rfl (fun ls hl => ?_)
            refine lv_goto (tgt := 48) hx hb dX9_append_100 (by decide) ?_
            exact ih _ _ _ _ _ _ hD hP hS (lv_sub hl [2, 3, 0] rfl)
  have c_6 : ∀ (n : Nat), ∀ (x1 : Int64) (x3 : Int32) (x4 : Int32) (h : MM) (H : Heap) (locs : List Loc) (ls : Array Slot), D_X9_append_6 m n x1 x3 x4 h = some (rr, h') → va_P D vwCl (Wf h m) H → va_S A s.heap H locs → lv_has ls 6 [(0, .ref (adh 0)), (1, .long x1), (3, .int x3), (4, .int x4)] → W p l e ({ frames := 0, cells := 0, slots := 0, locals := 0 } : Room) s m0 args below meth c H locs 0 0 Q (F0 m0 6 ls []) := by
    intro n
    induction n with
    | zero =>
      intro x1 x3 x4 h H locs ls hD hP hS hl
      exact nn_el hD
    | succ n ih =>
      intro x1 x3 x4 h H locs ls hD hP hS hl
      rw [D_X9_append_6] at hD
      refine lv_iload hx hb dX9_append_6 (lv_at hl 3 rfl) ?_
      refine lv_if_lt (tgt := 29) hx hb dX9_append_8 (by decide) (fun c => ?_) (fun c => ?_)
      · have hD := ifp hD c
        refine lv_aload_n hx hb dX9_append_29 rfl (lv_at hl 0 rfl) ?_
        refine rg (Wf := fun z => Wf z m) (mm := h) hx hb hT hu9 hown hK hP (hLh m) 0 1 (Nat.le_of_ble_eq_true rfl) (hs0 _ _) rfl (Nat.le_of_ble_eq_true rfl) (Fx0.T tw_3_2) rfl (v := .int (gi h 0 1)) rfl dX9_append_30 ?_
        refine lv_iload_n hx hb dX9_append_33 rfl (lv_at hl 2 rfl) ?_
        refine lv_iadd hx hb dX9_append_34 ?_
        refine lv_sipush (v := (900 : Int32)) hx hb dX9_append_35 (by decide) ?_
        refine lv_icmp_le (tgt := 44) hx hb dX9_append_38 (by decide) (fun c => ?_) (fun c => ?_)
        · have hD := ifp hD c
          refine lv_bipush (v := (56 : Int32)) hx hb dX9_append_44 (by decide) ?_
          refine lv_istore (lv' := [(4, .int (56 : Int32)), (0, .ref (adh 0)), (1, .long x1), (3, .int x3)]) hx hb dX9_append_46 hl (by decide) rfl (fun ls hl => ?_)
          exact c_48 FU _ _ _ _ _ _ hD hP hS (lv_sub hl [1, 2, 0] rfl)
        · have hD := ifn hD c
          refine lv_bipush (v := (-2 : Int32)) hx hb dX9_append_41 (by decide) ?_
          obtain ⟨rfl, rfl⟩ := es2 hD
          exact hret _ _ _ hP hS (fun Qc hq => W.iret hx hb hr hq hS.2.2 dX9_append_43 hlocks)
      · have hD := ifn hD c
        refine lv_lload_n hx hb dX9_append_11 rfl (lv_at hl 1 rfl) ?_
        refine lv_iload hx hb dX9_append_12 (lv_at hl 3 rfl) ?_
        refine lv_lushr (v := ((x1.toUInt64 >>> (x4.toInt64.toUInt64 &&& Int64.toUInt64 63)).toInt64)) hx hb dX9_append_14 rfl ?_
        refine lv_l2i (v := ((x1.toUInt64 >>> (x4.toInt64.toUInt64 &&& Int64.toUInt64 63)).toInt64).toInt32) hx hb dX9_append_15 rfl ?_
        refine lv_i2b (v := (((x1.toUInt64 >>> (x4.toInt64.toUInt64 &&& Int64.toUInt64 63)).toInt64).toInt32).toInt8.toInt32) hx hb dX9_append_16 rfl ?_
        refine lv_if_eq (tgt := 23) hx hb dX9_append_17 (by decide) (fun c => ?_) (fun c => ?_)
        · have hD := ifp hD c
          obtain ⟨v8, ev8, hD⟩ := bnd_el hD
          refine lv_iinc (v := v8) (lv' := [(4, .int v8), (0, .ref (adh 0)), (1, .long x1), (3, .int x3)]) hx hb dX9_append_23 hl (k := 3) rfl (by rw [ev8]; rfl) (by decide) rfl (fun ls hl => ?_)
          refine lv_goto (tgt := 6) hx hb dX9_append_26 (by decide) ?_
          exact ih _ _ _ _ _ _ _ hD hP hS (lv_sub hl [1, 2, 3, 0] rfl)
        · have hD := ifn hD c
          obtain ⟨v9, ev9, hD⟩ := bnd_el hD
          refine lv_iinc (v := v9) (lv' := [(3, .int v9), (0, .ref (adh 0)), (1, .long x1), (4, .int x4)]) hx hb dX9_append_20 hl (k := 2) rfl (by rw [ev9]; rfl) (by decide) rfl (fun ls hl => ?_)
          obtain ⟨v10, ev10, hD⟩ := bnd_el hD
          refine lv_iinc (v := v10) (lv' := [(4, .int v10), (3, .int v9), (0, .ref (adh 0)), (1, .long x1)]) hx hb dX9_append_23 hl (k := 3) rfl (by rw [ev10]; rfl) (by decide) rfl (fun ls hl => ?_)
          refine lv_goto (tgt := 6) hx hb dX9_append_26 (by decide) ?_
          exact ih _ _ _ _ _ _ _ hD hP hS (lv_sub hl [2, 3, 1, 0] rfl)
  refine lv_iconst (v := (0 : Int32)) hx hb dX9_append_0 (by decide) ?_
  refine lv_istore_n (lv' := [(3, .int (0 : Int32)), (0, .ref (adh 0)), (1, .long x1)]) hx hb dX9_append_1 rfl hl (by decide) rfl (fun ls hl => ?_)
  refine lv_bipush (v := (56 : Int32)) hx hb dX9_append_2 (by decide) ?_
  refine lv_istore (lv' := [(4, .int (56 : Int32)), (3, .int (0 : Int32)), (0, .ref (adh 0)), (1, .long x1)]) hx hb dX9_append_4 hl (by decide) rfl (fun ls hl => ?_)
  exact c_6 FU _ _ _ _ _ _ _ hD hP hS (lv_sub hl [2, 3, 1, 0] rfl)

noncomputable def D_X9_load (h : MM) (m : MM) (f : MM) : Option (Int32 × MM × MM × MM) := bnd ((gi h 0 1)) (fun v1 => bnd (si h 0 1 (0 : Int32)) (fun m2 => b2 (D_X1_readText v1 m2 f) (fun m3 m4 => bnd (si m3 0 2 (gi m3 4 6)) (fun m6 => if (gi m6 0 2) = 0 then (b1 (D_X6_copyFrom m m4) (fun m7 => some ((gi m7 36 0), m6, m7, m4))) else (some (((-100 : Int32) - (gi m6 4 7)), m6, m, m4))))))
set_option maxHeartbeats 4000000 in
set_option maxRecDepth 100000 in
theorem c_X9_load (l : Launch) {D : va_G} {cs : Nat → ClassId} {adh ad adf ma : Nat → Nat} {Wf : MM → MM → MM → va_W} (hLh : ∀ m f : MM, Ln 8 adh (hsh cs adh ma) (fun z => Wf z m f)) (hL : ∀ h f : MM, Ln 51 ad (msh cs ad) (fun z => Wf h z f)) (hLf : ∀ h m : MM, Ln 51 adf (msh cs adf) (fun z => Wf h m z)) (hAd : ∀ a0_ b0_ a1_ b1_ a2_ b2_ : MM, (Wf a0_ a1_ a2_).map (fun q => q.1) = (Wf b0_ b1_ b2_).map (fun q => q.1)) (hm1 : ma 1 = ad 24) (hm2 : ma 2 = adf 24) (h : MM) (m : MM) (f : MM) {rr : Int32} {h' : MM} {m' : MM} {f' : MM} (hD : D_X9_load h m f = some (rr, h', m', f')) : Ct l yX9_load cX9_load 2 (some .int) 7 150 D cs [.ref (adh 0)] (Wf h m f) (Wf h' m' f') (some (.int rr)) := by
  refine Ct.ofW (by decide) (Nat.le_of_ble_eq_true rfl) (hAd _ _ _ _ _ _) ?_
  intro p e s m0 below meth c A Q ls args hx hb hr hml hlocks hown hts hK hP hD1 hSS hS hA1 hl hret
  have hT : ∀ w ∈ TBL, w.before args s = true := fun w h => hts w (List.mem_cons_of_mem _ h)
  have Fx0 : Fx p l m0 c cX9_load 2 s args yX9_load cX9_load 2 (some .int) D cs A := ⟨hx, hb, hml, hown, hts, hK, hSS⟩
  have hown : s.vm.findClass RX9 = some m0.cls := hown
  have hl : lv_has ls 2 [(0, .ref (adh 0))] := hl
  unfold D_X9_load at hD
  refine lv_aload_n hx hb dX9_load_0 rfl (lv_at hl 0 rfl) ?_
  refine rg (Wf := fun z => Wf z m f) (mm := h) hx hb hT hu9 hown hK hP (hLh m f) 0 1 (Nat.le_of_ble_eq_true rfl) (hs0 _ _) rfl (Nat.le_of_ble_eq_true rfl) (Fx0.T tw_3_2) rfl (v := .int (gi h 0 1)) rfl dX9_load_1 ?_
  obtain ⟨v1, ev1, hD⟩ := bnd_el hD
  refine lv_nmi ev1 ?_
  refine lv_istore_n (lv' := [(1, .int v1), (0, .ref (adh 0))]) hx hb dX9_load_4 rfl hl (by decide) rfl (fun ls hl => ?_)
  refine lv_aload_n hx hb dX9_load_5 rfl (lv_at hl 1 rfl) ?_
  refine lv_iconst (v := (0 : Int32)) hx hb dX9_load_6 (by decide) ?_
  obtain ⟨m2, em2, hD⟩ := bnd_el hD
  refine rp (Wf := fun z => Wf z m f) (mm := h) hx hb hT hu9 tyX9_ok nmX9 hown hK hP (hD1 _ (hAd _ _ _ _ _ _)) hS (hLh m f) 0 1 (Nat.le_of_ble_eq_true rfl) (hs0 _ _) (hs0 _ _) rfl (Nat.le_of_ble_eq_true rfl) (Fx0.T tw_3_2) rfl rfl rfl rfl (Nat.le_of_ble_eq_true rfl) dX9_load_7 em2 (fun H locs hP hS => ?_)
  refine lv_aload_n hx hb dX9_load_10 rfl (lv_at hl 1 rfl) ?_
  refine rg (Wf := fun z => Wf z m f) (mm := m2) hx hb hT hu9 hown hK hP (hLh m f) 0 7 (Nat.le_of_ble_eq_true rfl) (hs0 _ _) rfl (Nat.le_of_ble_eq_true rfl) (Fx0.T tw_3_8) rfl (v := .ref (adh 4)) rfl dX9_load_11 ?_
  refine lv_iload_n hx hb dX9_load_14 rfl (lv_at hl 0 rfl) ?_
  obtain ⟨m3, m4, z5, hD⟩ := b2_el hD
  refine rcVN (Wf := fun z => Wf z m f) (mm := m2) (As := [.int v1]) (rest := []) Fx0 (c_X1_readText l (Wf := fun z0_ z1_ => Wf z0_ m z1_) (fun z1_ => hLh m z1_) (fun z0_ => hLf z0_ m) (fun a0_ b0_ a1_ b1_ => hAd a0_ b0_ m m a1_ b1_) hm2 m2 f v1 z5) hP (hD1 _ (hAd _ _ _ _ _ _)) hS (hA1 _ _ (hAd _ _ _ _ _ _) hS.1) (hLh m f) (Nat.le_of_ble_eq_true rfl) (hs4 _ _) rfl tw_3_119 tw_3_116 tw_3_118 ts_10 tw_1_12 yd_X1_readText ⟨(Nat.le_of_ble_eq_true rfl), (Nat.le_of_ble_eq_true rfl)⟩ rfl hl.1 rfl (Nat.le_of_ble_eq_true rfl) dX9_load_15 (fun H locs hP hS => ?_)
  refine lv_aload_n hx hb dX9_load_18 rfl (lv_at hl 1 rfl) ?_
  refine lv_aload_n hx hb dX9_load_19 rfl (lv_at hl 1 rfl) ?_
  refine rg (Wf := fun z => Wf z m m4) (mm := m3) hx hb hT hu9 hown hK hP (hLh m m4) 0 7 (Nat.le_of_ble_eq_true rfl) (hs0 _ _) rfl (Nat.le_of_ble_eq_true rfl) (Fx0.T tw_3_8) rfl (v := .ref (adh 4)) rfl dX9_load_20 ?_
  refine rgN (Wf := fun z => Wf z m m4) (mm := m3) hx hb hT hu1 hown hK hP (hLh m m4) 4 6 (Nat.le_of_ble_eq_true rfl) (hs4 _ _) rfl (Nat.le_of_ble_eq_true rfl) tw_2_220 rfl (v := .int (gi m3 4 6)) rfl dX9_load_23 ?_
  obtain ⟨m6, em6, hD⟩ := bnd_el hD
  refine rp (Wf := fun z => Wf z m m4) (mm := m3) hx hb hT hu9 tyX9_ok nmX9 hown hK hP (hD1 _ (hAd _ _ _ _ _ _)) hS (hLh m m4) 0 2 (Nat.le_of_ble_eq_true rfl) (hs0 _ _) (hs0 _ _) rfl (Nat.le_of_ble_eq_true rfl) (Fx0.T tw_3_3) rfl rfl rfl rfl (Nat.le_of_ble_eq_true rfl) dX9_load_26 em6 (fun H locs hP hS => ?_)
  refine lv_aload_n hx hb dX9_load_29 rfl (lv_at hl 1 rfl) ?_
  refine rg (Wf := fun z => Wf z m m4) (mm := m6) hx hb hT hu9 hown hK hP (hLh m m4) 0 2 (Nat.le_of_ble_eq_true rfl) (hs0 _ _) rfl (Nat.le_of_ble_eq_true rfl) (Fx0.T tw_3_3) rfl (v := .int (gi m6 0 2)) rfl dX9_load_30 ?_
  refine lv_if_eq (tgt := 47) hx hb dX9_load_33 (by decide) (fun c => ?_) (fun c => ?_)
  · have hD := ifp hD c
    refine lv_aload_n hx hb dX9_load_47 rfl (lv_at hl 1 rfl) ?_
    refine rg (Wf := fun z => Wf z m m4) (mm := m6) hx hb hT hu9 hown hK hP (hLh m m4) 0 3 (Nat.le_of_ble_eq_true rfl) (hs0 _ _) rfl (Nat.le_of_ble_eq_true rfl) (Fx0.T tw_3_4) rfl (v := .ref (ad 24)) (congrArg (fun z => some (Value.ref z)) hm1) dX9_load_48 ?_
    refine lv_aload_n hx hb dX9_load_51 rfl (lv_at hl 1 rfl) ?_
    refine rg (Wf := fun z => Wf z m m4) (mm := m6) hx hb hT hu9 hown hK hP (hLh m m4) 0 6 (Nat.le_of_ble_eq_true rfl) (hs0 _ _) rfl (Nat.le_of_ble_eq_true rfl) (Fx0.T tw_3_7) rfl (v := .ref (adf 24)) (congrArg (fun z => some (Value.ref z)) hm2) dX9_load_52 ?_
    obtain ⟨m7, z8, hD⟩ := b1_el hD
    refine rcVN (Wf := fun z => Wf m6 z m4) (mm := m) (As := [.ref (adf 24)]) (rest := []) Fx0 (c_X6_copyFrom l (Wf := fun z0_ z1_ => Wf m6 z0_ z1_) (fun z1_ => hL m6 z1_) (fun z0_ => hLf m6 z0_) (fun a0_ b0_ a1_ b1_ => hAd m6 m6 a0_ b0_ a1_ b1_) m m4 z8) hP (hD1 _ (hAd _ _ _ _ _ _)) hS (hA1 _ _ (hAd _ _ _ _ _ _) hS.1) (hL m6 m4) (Nat.le_of_ble_eq_true rfl) (ms24 _ _) rfl tw_4_2 tw_3_239 tw_4_1 ts_35 tw_1_2 yd_X6_copyFrom ⟨(Nat.le_of_ble_eq_true rfl), (Nat.le_of_ble_eq_true rfl)⟩ rfl hl.1 rfl (Nat.le_of_ble_eq_true rfl) dX9_load_55 (fun H locs hP hS => ?_)
    refine lv_aload_n hx hb dX9_load_58 rfl (lv_at hl 1 rfl) ?_
    refine rg (Wf := fun z => Wf z m7 m4) (mm := m6) hx hb hT hu9 hown hK hP (hLh m7 m4) 0 3 (Nat.le_of_ble_eq_true rfl) (hs0 _ _) rfl (Nat.le_of_ble_eq_true rfl) (Fx0.T tw_3_4) rfl (v := .ref (ad 24)) (congrArg (fun z => some (Value.ref z)) hm1) dX9_load_59 ?_
    refine rgN (Wf := fun z => Wf m6 z m4) (mm := m7) hx hb hT hu6 hown hK hP (hL m6 m4) 24 8 (Nat.le_of_ble_eq_true rfl) (ms24 _ _) rfl (Nat.le_of_ble_eq_true rfl) tw_2_105 rfl (v := .ref (ad 36)) rfl dX9_load_62 ?_
    refine rgN (Wf := fun z => Wf m6 z m4) (mm := m7) hx hb hT hu0 hown hK hP (hL m6 m4) 36 0 (Nat.le_of_ble_eq_true rfl) (ms36 _ _) rfl (Nat.le_of_ble_eq_true rfl) tw_1_96 rfl (v := .int (gi m7 36 0)) rfl dX9_load_65 ?_
    obtain ⟨rfl, rfl, rfl, rfl⟩ := es4 hD
    exact hret _ _ _ hP hS (fun Qc hq => W.iret hx hb hr hq hS.2.2 dX9_load_68 hlocks)
  · have hD := ifn hD c
    refine lv_bipush (v := (-100 : Int32)) hx hb dX9_load_36 (by decide) ?_
    refine lv_aload_n hx hb dX9_load_38 rfl (lv_at hl 1 rfl) ?_
    refine rg (Wf := fun z => Wf z m m4) (mm := m6) hx hb hT hu9 hown hK hP (hLh m m4) 0 7 (Nat.le_of_ble_eq_true rfl) (hs0 _ _) rfl (Nat.le_of_ble_eq_true rfl) (Fx0.T tw_3_8) rfl (v := .ref (adh 4)) rfl dX9_load_39 ?_
    refine rgN (Wf := fun z => Wf z m m4) (mm := m6) hx hb hT hu1 hown hK hP (hLh m m4) 4 7 (Nat.le_of_ble_eq_true rfl) (hs4 _ _) rfl (Nat.le_of_ble_eq_true rfl) tw_2_222 rfl (v := .int (gi m6 4 7)) rfl dX9_load_42 ?_
    refine lv_isub hx hb dX9_load_45 ?_
    obtain ⟨rfl, rfl, rfl, rfl⟩ := es4 hD
    exact hret _ _ _ hP hS (fun Qc hq => W.iret hx hb hr hq hS.2.2 dX9_load_46 hlocks)

noncomputable def D_X9_loadError (h : MM) (m : MM) : Option Int32 := some ((gi h 0 2))
noncomputable def D_X9_fillableSet (h : MM) (m : MM) : Option Int64 := b1 (D_X0_fillable m) (fun v1 => some (v1))
set_option maxHeartbeats 4000000 in
set_option maxRecDepth 100000 in
theorem c_X9_fillableSet (l : Launch) {D : va_G} {cs : Nat → ClassId} {adh ad ma : Nat → Nat} {Wf : MM → MM → va_W} (hLh : ∀ m : MM, Ln 8 adh (hsh cs adh ma) (fun z => Wf z m)) (hL : ∀ h : MM, Ln 51 ad (msh cs ad) (fun z => Wf h z)) (hAd : ∀ a0_ b0_ a1_ b1_ : MM, (Wf a0_ a1_).map (fun q => q.1) = (Wf b0_ b1_).map (fun q => q.1)) (hm1 : ma 1 = ad 24) (h : MM) (m : MM) {rr : Int64} (hD : D_X9_fillableSet h m = some (rr)) : Ct l yX9_fillableSet cX9_fillableSet 1 (some .long) 2 44 D cs [.ref (adh 0)] (Wf h m) (Wf h m) (some (.long rr)) := by
  refine Ct.ofW (by decide) (Nat.le_of_ble_eq_true rfl) rfl ?_
  intro p e s m0 below meth c A Q ls args hx hb hr hml hlocks hown hts hK hP hD1 hSS hS hA1 hl hret
  have hT : ∀ w ∈ TBL, w.before args s = true := fun w h => hts w (List.mem_cons_of_mem _ h)
  have Fx0 : Fx p l m0 c cX9_fillableSet 1 s args yX9_fillableSet cX9_fillableSet 1 (some .long) D cs A := ⟨hx, hb, hml, hown, hts, hK, hSS⟩
  have hown : s.vm.findClass RX9 = some m0.cls := hown
  have hl : lv_has ls 1 [(0, .ref (adh 0))] := hl
  unfold D_X9_fillableSet at hD
  refine lv_aload_n hx hb dX9_fillableSet_0 rfl (lv_at hl 0 rfl) ?_
  refine rg (Wf := fun z => Wf z m) (mm := h) hx hb hT hu9 hown hK hP (hLh m) 0 3 (Nat.le_of_ble_eq_true rfl) (hs0 _ _) rfl (Nat.le_of_ble_eq_true rfl) (Fx0.T tw_3_4) rfl (v := .ref (ad 24)) (congrArg (fun z => some (Value.ref z)) hm1) dX9_fillableSet_1 ?_
  refine rgN (Wf := fun z => Wf h z) (mm := m) hx hb hT hu6 hown hK hP (hL h) 24 8 (Nat.le_of_ble_eq_true rfl) (ms24 _ _) rfl (Nat.le_of_ble_eq_true rfl) tw_2_105 rfl (v := .ref (ad 36)) rfl dX9_fillableSet_4 ?_
  obtain ⟨v1, z2, hD⟩ := b1_el hD
  refine rcVN (Wf := fun z => Wf h z) (mm := m) (As := []) (rest := []) Fx0 (c_X0_fillable l (Wf := fun z0_ => Wf h z0_) (hL h) (fun a0_ b0_ => hAd h h a0_ b0_) m z2) hP (hD1 _ (hAd _ _ _ _)) hS (hA1 _ _ (hAd _ _ _ _) hS.1) (hL h) (Nat.le_of_ble_eq_true rfl) (ms36 _ _) rfl tw_6_43 tw_6_140 tw_6_42 ts_65 tw_1_4 yd_X0_fillable ⟨(Nat.le_of_ble_eq_true rfl), (Nat.le_of_ble_eq_true rfl)⟩ rfl hl.1 rfl (Nat.le_of_ble_eq_true rfl) dX9_fillableSet_7 (fun H locs hP hS => ?_)
  obtain rfl := es1 hD
  exact hret _ _ _ hP hS (fun Qc hq => W.lret hx hb hr hq hS.2.2 dX9_fillableSet_10 hlocks)

noncomputable def D_X9_filledSet (h : MM) (m : MM) : Option Int64 := some ((gl m 36 8))
set_option maxHeartbeats 4000000 in
set_option maxRecDepth 100000 in
theorem c_X9_filledSet (l : Launch) {D : va_G} {cs : Nat → ClassId} {adh ad ma : Nat → Nat} {Wf : MM → MM → va_W} (hLh : ∀ m : MM, Ln 8 adh (hsh cs adh ma) (fun z => Wf z m)) (hL : ∀ h : MM, Ln 51 ad (msh cs ad) (fun z => Wf h z)) (hAd : ∀ a0_ b0_ a1_ b1_ : MM, (Wf a0_ a1_).map (fun q => q.1) = (Wf b0_ b1_).map (fun q => q.1)) (hm1 : ma 1 = ad 24) (h : MM) (m : MM) {rr : Int64} (hD : D_X9_filledSet h m = some (rr)) : Ct l yX9_filledSet cX9_filledSet 1 (some .long) 0 0 D cs [.ref (adh 0)] (Wf h m) (Wf h m) (some (.long rr)) := by
  refine Ct.ofW (by decide) (Nat.le_of_ble_eq_true rfl) rfl ?_
  intro p e s m0 below meth c A Q ls args hx hb hr hml hlocks hown hts hK hP hD1 hSS hS hA1 hl hret
  have hT : ∀ w ∈ TBL, w.before args s = true := fun w h => hts w (List.mem_cons_of_mem _ h)
  have Fx0 : Fx p l m0 c cX9_filledSet 1 s args yX9_filledSet cX9_filledSet 1 (some .long) D cs A := ⟨hx, hb, hml, hown, hts, hK, hSS⟩
  have hown : s.vm.findClass RX9 = some m0.cls := hown
  have hl : lv_has ls 1 [(0, .ref (adh 0))] := hl
  unfold D_X9_filledSet at hD
  refine lv_aload_n hx hb dX9_filledSet_0 rfl (lv_at hl 0 rfl) ?_
  refine rg (Wf := fun z => Wf z m) (mm := h) hx hb hT hu9 hown hK hP (hLh m) 0 3 (Nat.le_of_ble_eq_true rfl) (hs0 _ _) rfl (Nat.le_of_ble_eq_true rfl) (Fx0.T tw_3_4) rfl (v := .ref (ad 24)) (congrArg (fun z => some (Value.ref z)) hm1) dX9_filledSet_1 ?_
  refine rgN (Wf := fun z => Wf h z) (mm := m) hx hb hT hu6 hown hK hP (hL h) 24 8 (Nat.le_of_ble_eq_true rfl) (ms24 _ _) rfl (Nat.le_of_ble_eq_true rfl) tw_2_105 rfl (v := .ref (ad 36)) rfl dX9_filledSet_4 ?_
  refine rgN (Wf := fun z => Wf h z) (mm := m) hx hb hT hu0 hown hK hP (hL h) 36 8 (Nat.le_of_ble_eq_true rfl) (ms36 _ _) rfl (Nat.le_of_ble_eq_true rfl) tw_1_114 rfl (v := .long (gl m 36 8)) rfl dX9_filledSet_7 ?_
  obtain rfl := es1 hD
  exact hret _ _ _ hP hS (fun Qc hq => W.lret hx hb hr hq hS.2.2 dX9_filledSet_10 hlocks)

noncomputable def D_X9_newBoard (h : MM) (m : MM) : Option (Int32 × MM) := bnd (si m 24 9 ((gi m 24 9) + (1 : Int32))) (fun m1 => b2 (D_X0_reopenFilled m1) (fun v2 m3 => some (v2, m3)))
set_option maxHeartbeats 4000000 in
set_option maxRecDepth 100000 in
theorem c_X9_newBoard (l : Launch) {D : va_G} {cs : Nat → ClassId} {adh ad ma : Nat → Nat} {Wf : MM → MM → va_W} (hLh : ∀ m : MM, Ln 8 adh (hsh cs adh ma) (fun z => Wf z m)) (hL : ∀ h : MM, Ln 51 ad (msh cs ad) (fun z => Wf h z)) (hAd : ∀ a0_ b0_ a1_ b1_ : MM, (Wf a0_ a1_).map (fun q => q.1) = (Wf b0_ b1_).map (fun q => q.1)) (hm1 : ma 1 = ad 24) (h : MM) (m : MM) {rr : Int32} {m' : MM} (hD : D_X9_newBoard h m = some (rr, m')) : Ct l yX9_newBoard cX9_newBoard 1 (some .int) 2 42 D cs [.ref (adh 0)] (Wf h m) (Wf h m') (some (.int rr)) := by
  refine Ct.ofW (by decide) (Nat.le_of_ble_eq_true rfl) (hAd _ _ _ _) ?_
  intro p e s m0 below meth c A Q ls args hx hb hr hml hlocks hown hts hK hP hD1 hSS hS hA1 hl hret
  have hT : ∀ w ∈ TBL, w.before args s = true := fun w h => hts w (List.mem_cons_of_mem _ h)
  have Fx0 : Fx p l m0 c cX9_newBoard 1 s args yX9_newBoard cX9_newBoard 1 (some .int) D cs A := ⟨hx, hb, hml, hown, hts, hK, hSS⟩
  have hown : s.vm.findClass RX9 = some m0.cls := hown
  have hl : lv_has ls 1 [(0, .ref (adh 0))] := hl
  unfold D_X9_newBoard at hD
  refine lv_aload_n hx hb dX9_newBoard_0 rfl (lv_at hl 0 rfl) ?_
  refine rg (Wf := fun z => Wf z m) (mm := h) hx hb hT hu9 hown hK hP (hLh m) 0 3 (Nat.le_of_ble_eq_true rfl) (hs0 _ _) rfl (Nat.le_of_ble_eq_true rfl) (Fx0.T tw_3_4) rfl (v := .ref (ad 24)) (congrArg (fun z => some (Value.ref z)) hm1) dX9_newBoard_1 ?_
  refine lv_dup hx hb dX9_newBoard_4 rfl ?_
  refine rgN (Wf := fun z => Wf h z) (mm := m) hx hb hT hu6 hown hK hP (hL h) 24 9 (Nat.le_of_ble_eq_true rfl) (ms24 _ _) rfl (Nat.le_of_ble_eq_true rfl) tw_2_108 rfl (v := .int (gi m 24 9)) rfl dX9_newBoard_5 ?_
  refine lv_iconst (v := (1 : Int32)) hx hb dX9_newBoard_8 (by decide) ?_
  refine lv_iadd hx hb dX9_newBoard_9 ?_
  obtain ⟨m1, em1, hD⟩ := bnd_el hD
  refine rpN (Wf := fun z => Wf h z) (mm := m) hx hb hT hu6 tyX6_ok nmX6 hown hK hP (hD1 _ (hAd _ _ _ _)) hS (hL h) 24 9 (Nat.le_of_ble_eq_true rfl) (ms24 _ _) (ms24 _ _) rfl (Nat.le_of_ble_eq_true rfl) tw_2_108 rfl rfl rfl rfl (Nat.le_of_ble_eq_true rfl) dX9_newBoard_10 em1 (fun H locs hP hS => ?_)
  refine lv_aload_n hx hb dX9_newBoard_13 rfl (lv_at hl 0 rfl) ?_
  refine rg (Wf := fun z => Wf z m1) (mm := h) hx hb hT hu9 hown hK hP (hLh m1) 0 3 (Nat.le_of_ble_eq_true rfl) (hs0 _ _) rfl (Nat.le_of_ble_eq_true rfl) (Fx0.T tw_3_4) rfl (v := .ref (ad 24)) (congrArg (fun z => some (Value.ref z)) hm1) dX9_newBoard_14 ?_
  refine rgN (Wf := fun z => Wf h z) (mm := m1) hx hb hT hu6 hown hK hP (hL h) 24 8 (Nat.le_of_ble_eq_true rfl) (ms24 _ _) rfl (Nat.le_of_ble_eq_true rfl) tw_2_105 rfl (v := .ref (ad 36)) rfl dX9_newBoard_17 ?_
  obtain ⟨v2, m3, z4, hD⟩ := b2_el hD
  refine rcVN (Wf := fun z => Wf h z) (mm := m1) (As := []) (rest := []) Fx0 (c_X0_reopenFilled l (Wf := fun z0_ => Wf h z0_) (hL h) (fun a0_ b0_ => hAd h h a0_ b0_) m1 z4) hP (hD1 _ (hAd _ _ _ _)) hS (hA1 _ _ (hAd _ _ _ _) hS.1) (hL h) (Nat.le_of_ble_eq_true rfl) (ms36 _ _) rfl tw_6_10 tw_6_7 tw_6_9 ts_62 tw_1_4 yd_X0_reopenFilled ⟨(Nat.le_of_ble_eq_true rfl), (Nat.le_of_ble_eq_true rfl)⟩ rfl hl.1 rfl (Nat.le_of_ble_eq_true rfl) dX9_newBoard_20 (fun H locs hP hS => ?_)
  obtain ⟨rfl, rfl⟩ := es2 hD
  exact hret _ _ _ hP hS (fun Qc hq => W.iret hx hb hr hq hS.2.2 dX9_newBoard_23 hlocks)

noncomputable def D_X9_boards (h : MM) (m : MM) : Option Int32 := some ((gi m 24 9))
noncomputable def D_X9_nextAction (h : MM) (m : MM) : Option (Int32 × MM) := b2 (D_X7_next 1 h m) (fun v1 m2 => if v1 = 0 then (some ((-1 : Int32), m2)) else (b1 (D_X9_codeOf (gi m2 1 1) (gi m2 1 2) (gi m2 1 3)) (fun v4 => some (v4, m2))))
set_option maxHeartbeats 4000000 in
set_option maxRecDepth 100000 in
theorem c_X9_nextAction (l : Launch) {D : va_G} {cs : Nat → ClassId} {adh ad ma : Nat → Nat} {Wf : MM → MM → va_W} (hLh : ∀ m : MM, Ln 8 adh (hsh cs adh ma) (fun z => Wf z m)) (hL : ∀ h : MM, Ln 51 ad (msh cs ad) (fun z => Wf h z)) (hAd : ∀ a0_ b0_ a1_ b1_ : MM, (Wf a0_ a1_).map (fun q => q.1) = (Wf b0_ b1_).map (fun q => q.1)) (hm1 : ma 1 = ad 24) (h : MM) (m : MM) {rr : Int32} {h' : MM} (hD : D_X9_nextAction h m = some (rr, h')) : Ct l yX9_nextAction cX9_nextAction 1 (some .int) 5 121 D cs [.ref (adh 0)] (Wf h m) (Wf h' m) (some (.int rr)) := by
  refine Ct.ofW (by decide) (Nat.le_of_ble_eq_true rfl) (hAd _ _ _ _) ?_
  intro p e s m0 below meth c A Q ls args hx hb hr hml hlocks hown hts hK hP hD1 hSS hS hA1 hl hret
  have hT : ∀ w ∈ TBL, w.before args s = true := fun w h => hts w (List.mem_cons_of_mem _ h)
  have Fx0 : Fx p l m0 c cX9_nextAction 1 s args yX9_nextAction cX9_nextAction 1 (some .int) D cs A := ⟨hx, hb, hml, hown, hts, hK, hSS⟩
  have hown : s.vm.findClass RX9 = some m0.cls := hown
  have hl : lv_has ls 1 [(0, .ref (adh 0))] := hl
  unfold D_X9_nextAction at hD
  refine lv_aload_n hx hb dX9_nextAction_0 rfl (lv_at hl 0 rfl) ?_
  refine rg (Wf := fun z => Wf z m) (mm := h) hx hb hT hu9 hown hK hP (hLh m) 0 4 (Nat.le_of_ble_eq_true rfl) (hs0 _ _) rfl (Nat.le_of_ble_eq_true rfl) (Fx0.T tw_3_5) rfl (v := .ref (adh 1)) rfl dX9_nextAction_1 ?_
  obtain ⟨v1, m2, z3, hD⟩ := b2_el hD
  refine rcVN (Wf := fun z => Wf z m) (mm := h) (As := []) (rest := []) Fx0 (c_X7_next l (Wf := fun z0_ z1_ => Wf z0_ z1_) (fun z1_ => hLh z1_) (fun z0_ => hL z0_) (fun a0_ b0_ a1_ b1_ => hAd a0_ b0_ a1_ b1_) h m 1 (by decide) (by decide) hm1 z3) hP (hD1 _ (hAd _ _ _ _)) hS (hA1 _ _ (hAd _ _ _ _) hS.1) (hLh m) (hplq (by decide)) ((hpl (by decide) (by decide)) _ _) rfl tw_6_39 tw_6_171 tw_6_38 ts_64 tw_1_10 yd_X7_next ⟨(Nat.le_of_ble_eq_true rfl), (Nat.le_of_ble_eq_true rfl)⟩ rfl hl.1 rfl (Nat.le_of_ble_eq_true rfl) dX9_nextAction_4 (fun H locs hP hS => ?_)
  refine lv_if_eq (tgt := 37) hx hb dX9_nextAction_7 (by decide) (fun c => ?_) (fun c => ?_)
  · have hD := ifp hD c
    refine lv_iconst (v := (-1 : Int32)) hx hb dX9_nextAction_37 (by decide) ?_
    obtain ⟨rfl, rfl⟩ := es2 hD
    exact hret _ _ _ hP hS (fun Qc hq => W.iret hx hb hr hq hS.2.2 dX9_nextAction_38 hlocks)
  · have hD := ifn hD c
    refine lv_aload_n hx hb dX9_nextAction_10 rfl (lv_at hl 0 rfl) ?_
    refine rg (Wf := fun z => Wf z m) (mm := m2) hx hb hT hu9 hown hK hP (hLh m) 0 4 (Nat.le_of_ble_eq_true rfl) (hs0 _ _) rfl (Nat.le_of_ble_eq_true rfl) (Fx0.T tw_3_5) rfl (v := .ref (adh 1)) rfl dX9_nextAction_11 ?_
    refine rgN (Wf := fun z => Wf z m) (mm := m2) hx hb hT hu7 hown hK hP (hLh m) 1 1 (hplq (by decide)) ((hpl (by decide) (by decide)) _ _) rfl (Nat.le_of_ble_eq_true rfl) tw_2_165 rfl (v := .int (gi m2 1 1)) rfl dX9_nextAction_14 ?_
    refine lv_aload_n hx hb dX9_nextAction_17 rfl (lv_at hl 0 rfl) ?_
    refine rg (Wf := fun z => Wf z m) (mm := m2) hx hb hT hu9 hown hK hP (hLh m) 0 4 (Nat.le_of_ble_eq_true rfl) (hs0 _ _) rfl (Nat.le_of_ble_eq_true rfl) (Fx0.T tw_3_5) rfl (v := .ref (adh 1)) rfl dX9_nextAction_18 ?_
    refine rgN (Wf := fun z => Wf z m) (mm := m2) hx hb hT hu7 hown hK hP (hLh m) 1 2 (hplq (by decide)) ((hpl (by decide) (by decide)) _ _) rfl (Nat.le_of_ble_eq_true rfl) tw_2_168 rfl (v := .int (gi m2 1 2)) rfl dX9_nextAction_21 ?_
    refine lv_aload_n hx hb dX9_nextAction_24 rfl (lv_at hl 0 rfl) ?_
    refine rg (Wf := fun z => Wf z m) (mm := m2) hx hb hT hu9 hown hK hP (hLh m) 0 4 (Nat.le_of_ble_eq_true rfl) (hs0 _ _) rfl (Nat.le_of_ble_eq_true rfl) (Fx0.T tw_3_5) rfl (v := .ref (adh 1)) rfl dX9_nextAction_25 ?_
    refine rgN (Wf := fun z => Wf z m) (mm := m2) hx hb hT hu7 hown hK hP (hLh m) 1 3 (hplq (by decide)) ((hpl (by decide) (by decide)) _ _) rfl (Nat.le_of_ble_eq_true rfl) tw_2_171 rfl (v := .int (gi m2 1 3)) rfl dX9_nextAction_28 ?_
    obtain ⟨v4, z5, hD⟩ := b1_el hD
    refine rcS (As := [.int (gi m2 1 1), .int (gi m2 1 2), .int (gi m2 1 3)]) (rest := []) Fx0 (c_X9_codeOf l (gi m2 1 1) (gi m2 1 2) (gi m2 1 3) z5) hP (hD1 _ (hAd _ _ _ _)) hS (hA1 _ _ (hAd _ _ _ _) hS.1) tw_5_175 tw_6_172 tw_5_174 tw_1_1 yd_X9_codeOf ⟨(Nat.le_of_ble_eq_true rfl), (Nat.le_of_ble_eq_true rfl)⟩ rfl hl.1 rfl (Nat.le_of_ble_eq_true rfl) dX9_nextAction_31 (fun H locs hP hS => ?_)
    refine lv_goto (tgt := 38) hx hb dX9_nextAction_34 (by decide) ?_
    obtain ⟨rfl, rfl⟩ := es2 hD
    exact hret _ _ _ hP hS (fun Qc hq => W.iret hx hb hr hq hS.2.2 dX9_nextAction_38 hlocks)

noncomputable def D_X9_step (h : MM) (m : MM) : Option (Int32 × MM × MM) := b3 (D_X7_follow 1 h m) (fun v1 m2 m3 => some (v1, m2, m3))
set_option maxHeartbeats 4000000 in
set_option maxRecDepth 100000 in
theorem c_X9_step (l : Launch) {D : va_G} {cs : Nat → ClassId} {adh ad ma : Nat → Nat} {Wf : MM → MM → va_W} (hLh : ∀ m : MM, Ln 8 adh (hsh cs adh ma) (fun z => Wf z m)) (hL : ∀ h : MM, Ln 51 ad (msh cs ad) (fun z => Wf h z)) (hAd : ∀ a0_ b0_ a1_ b1_ : MM, (Wf a0_ a1_).map (fun q => q.1) = (Wf b0_ b1_).map (fun q => q.1)) (hm1 : ma 1 = ad 24) (h : MM) (m : MM) {rr : Int32} {h' : MM} {m' : MM} (hD : D_X9_step h m = some (rr, h', m')) : Ct l yX9_step cX9_step 1 (some .int) 6 155 D cs [.ref (adh 0)] (Wf h m) (Wf h' m') (some (.int rr)) := by
  refine Ct.ofW (by decide) (Nat.le_of_ble_eq_true rfl) (hAd _ _ _ _) ?_
  intro p e s m0 below meth c A Q ls args hx hb hr hml hlocks hown hts hK hP hD1 hSS hS hA1 hl hret
  have hT : ∀ w ∈ TBL, w.before args s = true := fun w h => hts w (List.mem_cons_of_mem _ h)
  have Fx0 : Fx p l m0 c cX9_step 1 s args yX9_step cX9_step 1 (some .int) D cs A := ⟨hx, hb, hml, hown, hts, hK, hSS⟩
  have hown : s.vm.findClass RX9 = some m0.cls := hown
  have hl : lv_has ls 1 [(0, .ref (adh 0))] := hl
  unfold D_X9_step at hD
  refine lv_aload_n hx hb dX9_step_0 rfl (lv_at hl 0 rfl) ?_
  refine rg (Wf := fun z => Wf z m) (mm := h) hx hb hT hu9 hown hK hP (hLh m) 0 4 (Nat.le_of_ble_eq_true rfl) (hs0 _ _) rfl (Nat.le_of_ble_eq_true rfl) (Fx0.T tw_3_5) rfl (v := .ref (adh 1)) rfl dX9_step_1 ?_
  obtain ⟨v1, m2, m3, z4, hD⟩ := b3_el hD
  refine rcVN (Wf := fun z => Wf z m) (mm := h) (As := []) (rest := []) Fx0 (c_X7_follow l (Wf := fun z0_ z1_ => Wf z0_ z1_) (fun z1_ => hLh z1_) (fun z0_ => hL z0_) (fun a0_ b0_ a1_ b1_ => hAd a0_ b0_ a1_ b1_) h m 1 (by decide) (by decide) hm1 z4) hP (hD1 _ (hAd _ _ _ _)) hS (hA1 _ _ (hAd _ _ _ _) hS.1) (hLh m) (hplq (by decide)) ((hpl (by decide) (by decide)) _ _) rfl tw_6_35 tw_6_32 tw_6_34 ts_63 tw_1_10 yd_X7_follow ⟨(Nat.le_of_ble_eq_true rfl), (Nat.le_of_ble_eq_true rfl)⟩ rfl hl.1 rfl (Nat.le_of_ble_eq_true rfl) dX9_step_4 (fun H locs hP hS => ?_)
  obtain ⟨rfl, rfl, rfl⟩ := es3 hD
  exact hret _ _ _ hP hS (fun Qc hq => W.iret hx hb hr hq hS.2.2 dX9_step_7 hlocks)

noncomputable def D_X9_isHalted (h : MM) (m : MM) : Option Int32 := if (gi m 24 15) = 0 ∨ (gi m 24 15) = 1 then some ((gi m 24 15)) else none
noncomputable def D_X9_resume (h : MM) (m : MM) : Option (Int32 × MM) := bnd ((gi m 24 15)) (fun v1 => bnd (si m 24 15 (0 : Int32)) (fun m2 => bnd (si m2 24 14 (0 : Int32)) (fun m3 => if v1 = 0 ∨ v1 = 1 then some (v1, m3) else none)))
set_option maxHeartbeats 4000000 in
set_option maxRecDepth 100000 in
theorem c_X9_resume (l : Launch) {D : va_G} {cs : Nat → ClassId} {adh ad ma : Nat → Nat} {Wf : MM → MM → va_W} (hLh : ∀ m : MM, Ln 8 adh (hsh cs adh ma) (fun z => Wf z m)) (hL : ∀ h : MM, Ln 51 ad (msh cs ad) (fun z => Wf h z)) (hAd : ∀ a0_ b0_ a1_ b1_ : MM, (Wf a0_ a1_).map (fun q => q.1) = (Wf b0_ b1_).map (fun q => q.1)) (hm1 : ma 1 = ad 24) (h : MM) (m : MM) {rr : Int32} {m' : MM} (hD : D_X9_resume h m = some (rr, m')) : Ct l yX9_resume cX9_resume 2 (some .boolean) 0 0 D cs [.ref (adh 0)] (Wf h m) (Wf h m') (some (.int rr)) := by
  refine Ct.ofW (by decide) (Nat.le_of_ble_eq_true rfl) (hAd _ _ _ _) ?_
  intro p e s m0 below meth c A Q ls args hx hb hr hml hlocks hown hts hK hP hD1 hSS hS hA1 hl hret
  have hT : ∀ w ∈ TBL, w.before args s = true := fun w h => hts w (List.mem_cons_of_mem _ h)
  have Fx0 : Fx p l m0 c cX9_resume 2 s args yX9_resume cX9_resume 2 (some .boolean) D cs A := ⟨hx, hb, hml, hown, hts, hK, hSS⟩
  have hown : s.vm.findClass RX9 = some m0.cls := hown
  have hl : lv_has ls 2 [(0, .ref (adh 0))] := hl
  unfold D_X9_resume at hD
  refine lv_aload_n hx hb dX9_resume_0 rfl (lv_at hl 0 rfl) ?_
  refine rg (Wf := fun z => Wf z m) (mm := h) hx hb hT hu9 hown hK hP (hLh m) 0 3 (Nat.le_of_ble_eq_true rfl) (hs0 _ _) rfl (Nat.le_of_ble_eq_true rfl) (Fx0.T tw_3_4) rfl (v := .ref (ad 24)) (congrArg (fun z => some (Value.ref z)) hm1) dX9_resume_1 ?_
  refine rgN (Wf := fun z => Wf h z) (mm := m) hx hb hT hu6 hown hK hP (hL h) 24 15 (Nat.le_of_ble_eq_true rfl) (ms24 _ _) rfl (Nat.le_of_ble_eq_true rfl) tw_2_122 rfl (v := .int (gi m 24 15)) rfl dX9_resume_4 ?_
  obtain ⟨v1, ev1, hD⟩ := bnd_el hD
  refine lv_nmi ev1 ?_
  refine lv_istore_n (lv' := [(1, .int v1), (0, .ref (adh 0))]) hx hb dX9_resume_7 rfl hl (by decide) rfl (fun ls hl => ?_)
  refine lv_aload_n hx hb dX9_resume_8 rfl (lv_at hl 1 rfl) ?_
  refine rg (Wf := fun z => Wf z m) (mm := h) hx hb hT hu9 hown hK hP (hLh m) 0 3 (Nat.le_of_ble_eq_true rfl) (hs0 _ _) rfl (Nat.le_of_ble_eq_true rfl) (Fx0.T tw_3_4) rfl (v := .ref (ad 24)) (congrArg (fun z => some (Value.ref z)) hm1) dX9_resume_9 ?_
  refine lv_iconst (v := (0 : Int32)) hx hb dX9_resume_12 (by decide) ?_
  obtain ⟨m2, em2, hD⟩ := bnd_el hD
  refine rpN (Wf := fun z => Wf h z) (mm := m) hx hb hT hu6 tyX6_ok nmX6 hown hK hP (hD1 _ (hAd _ _ _ _)) hS (hL h) 24 15 (Nat.le_of_ble_eq_true rfl) (ms24 _ _) (ms24 _ _) rfl (Nat.le_of_ble_eq_true rfl) tw_2_122 rfl rfl rfl rfl (Nat.le_of_ble_eq_true rfl) dX9_resume_13 em2 (fun H locs hP hS => ?_)
  refine lv_aload_n hx hb dX9_resume_16 rfl (lv_at hl 1 rfl) ?_
  refine rg (Wf := fun z => Wf z m2) (mm := h) hx hb hT hu9 hown hK hP (hLh m2) 0 3 (Nat.le_of_ble_eq_true rfl) (hs0 _ _) rfl (Nat.le_of_ble_eq_true rfl) (Fx0.T tw_3_4) rfl (v := .ref (ad 24)) (congrArg (fun z => some (Value.ref z)) hm1) dX9_resume_17 ?_
  refine lv_iconst (v := (0 : Int32)) hx hb dX9_resume_20 (by decide) ?_
  obtain ⟨m3, em3, hD⟩ := bnd_el hD
  refine rpN (Wf := fun z => Wf h z) (mm := m2) hx hb hT hu6 tyX6_ok nmX6 hown hK hP (hD1 _ (hAd _ _ _ _)) hS (hL h) 24 14 (Nat.le_of_ble_eq_true rfl) (ms24 _ _) (ms24 _ _) rfl (Nat.le_of_ble_eq_true rfl) tw_2_119 rfl rfl rfl rfl (Nat.le_of_ble_eq_true rfl) dX9_resume_21 em3 (fun H locs hP hS => ?_)
  refine lv_iload_n hx hb dX9_resume_24 rfl (lv_at hl 0 rfl) ?_
  obtain ⟨h4, hD⟩ := gb_el hD
  obtain ⟨rfl, rfl⟩ := es2 hD
  exact hret _ _ _ hP hS (fun Qc hq => W.zret hx hb hr (nbz h4).1 hq hS.2.2 dX9_resume_25 hlocks)

noncomputable def D_X9_isBalanced_20 (h : MM) (m : MM) (k2 : Int32 → Option Int32) : Nat → Int32 → Int32 → Int32 → Option Int32
  | 0, _, _, _ => none
  | n + 1, x1, x2, x3 => if (6 : Int32) < x3 then (b1 (D_X6_partsOf x1 (0 : Int32) m) (fun v1 => if x2 = v1 then (bnd (x1 + (1 : Int32)) (fun v3 => k2 v3)) else (some ((0 : Int32))))) else (b1 (D_X6_partsOf x1 x3 m) (fun v4 => bnd ((x2 + v4)) (fun v6 => bnd (x3 + (1 : Int32)) (fun v7 => D_X9_isBalanced_20 h m k2 n x1 v6 v7))))
noncomputable def D_X9_isBalanced_2 (h : MM) (m : MM) : Nat → Int32 → Option Int32
  | 0, _ => none
  | n + 1, x1 => if (gi m 28 0) ≤ x1 then (some ((1 : Int32))) else (D_X9_isBalanced_20 h m (D_X9_isBalanced_2 h m n) FU x1 (0 : Int32) (1 : Int32))
noncomputable def D_X9_isBalanced (h : MM) (m : MM) : Option Int32 := D_X9_isBalanced_2 h m FU (0 : Int32)
set_option maxHeartbeats 4000000 in
set_option maxRecDepth 100000 in
theorem c_X9_isBalanced (l : Launch) {D : va_G} {cs : Nat → ClassId} {adh ad ma : Nat → Nat} {Wf : MM → MM → va_W} (hLh : ∀ m : MM, Ln 8 adh (hsh cs adh ma) (fun z => Wf z m)) (hL : ∀ h : MM, Ln 51 ad (msh cs ad) (fun z => Wf h z)) (hAd : ∀ a0_ b0_ a1_ b1_ : MM, (Wf a0_ a1_).map (fun q => q.1) = (Wf b0_ b1_).map (fun q => q.1)) (hm1 : ma 1 = ad 24) (h : MM) (m : MM) {rr : Int32} (hD : D_X9_isBalanced h m = some (rr)) : Ct l yX9_isBalanced cX9_isBalanced 4 (some .boolean) 3 67 D cs [.ref (adh 0)] (Wf h m) (Wf h m) (some (.int rr)) := by
  refine Ct.ofW (by decide) (Nat.le_of_ble_eq_true rfl) rfl ?_
  intro p e s m0 below meth c A Q ls args hx hb hr hml hlocks hown hts hK hP hD1 hSS hS hA1 hl hret
  have hT : ∀ w ∈ TBL, w.before args s = true := fun w h => hts w (List.mem_cons_of_mem _ h)
  have Fx0 : Fx p l m0 c cX9_isBalanced 4 s args yX9_isBalanced cX9_isBalanced 4 (some .boolean) D cs A := ⟨hx, hb, hml, hown, hts, hK, hSS⟩
  have hown : s.vm.findClass RX9 = some m0.cls := hown
  have hl : lv_has ls 4 [(0, .ref (adh 0))] := hl
  unfold D_X9_isBalanced at hD
  have c_20 : ∀ (k2 : Int32 → Option Int32) (hk2 : ∀ (x1 : Int32) (H : Heap) (locs : List Loc) (ls : Array Slot), k2 x1 = some (rr) → va_P D vwCl (Wf h m) H → va_S A s.heap H locs → lv_has ls 4 [(0, .ref (adh 0)), (1, .int x1)] → W p l e ({ frames := 3, cells := 0, slots := 0, locals := 67 } : Room) s m0 args below meth c H locs 0 0 Q (F0 m0 2 ls [])) (n : Nat), ∀ (x1 : Int32) (x2 : Int32) (x3 : Int32) (H : Heap) (locs : List Loc) (ls : Array Slot), D_X9_isBalanced_20 h m k2 n x1 x2 x3 = some (rr) → va_P D vwCl (Wf h m) H → va_S A s.heap H locs → lv_has ls 4 [(0, .ref (adh 0)), (1, .int x1), (2, .int x2), (3, .int x3)] → W p l e ({ frames := 3, cells := 0, slots := 0, locals := 67 } : Room) s m0 args below meth c H locs 0 0 Q (F0 m0 20 ls []) := by
    intro k2 hk2 n
    induction n with
    | zero =>
      intro x1 x2 x3 H locs ls hD hP hS hl
      exact nn_el hD
    | succ n ih =>
      intro x1 x2 x3 H locs ls hD hP hS hl
      rw [D_X9_isBalanced_20] at hD
      refine lv_iload_n hx hb dX9_isBalanced_20 rfl (lv_at hl 3 rfl) ?_
      refine lv_bipush (v := (6 : Int32)) hx hb dX9_isBalanced_21 (by decide) ?_
      refine lv_icmp_gt (tgt := 44) hx hb dX9_isBalanced_23 (by decide) (fun c => ?_) (fun c => ?_)
      · have hD := ifp hD c
        refine lv_iload_n hx hb dX9_isBalanced_44 rfl (lv_at hl 2 rfl) ?_
        refine lv_aload_n hx hb dX9_isBalanced_45 rfl (lv_at hl 0 rfl) ?_
        refine rg (Wf := fun z => Wf z m) (mm := h) hx hb hT hu9 hown hK hP (hLh m) 0 3 (Nat.le_of_ble_eq_true rfl) (hs0 _ _) rfl (Nat.le_of_ble_eq_true rfl) (Fx0.T tw_3_4) rfl (v := .ref (ad 24)) (congrArg (fun z => some (Value.ref z)) hm1) dX9_isBalanced_46 ?_
        refine lv_iload_n hx hb dX9_isBalanced_49 rfl (lv_at hl 1 rfl) ?_
        refine lv_iconst (v := (0 : Int32)) hx hb dX9_isBalanced_50 (by decide) ?_
        obtain ⟨v1, z2, hD⟩ := b1_el hD
        refine rcVN (Wf := fun z => Wf h z) (mm := m) (As := [.int x1, .int (0 : Int32)]) (rest := [.int x2]) Fx0 (c_X6_partsOf l (Wf := fun z0_ => Wf h z0_) (hL h) (fun a0_ b0_ => hAd h h a0_ b0_) m x1 (0 : Int32) z2) hP (hD1 _ (hAd _ _ _ _)) hS (hA1 _ _ (hAd _ _ _ _) hS.1) (hL h) (Nat.le_of_ble_eq_true rfl) (ms24 _ _) rfl tw_3_40 tw_3_37 tw_3_39 ts_6 tw_1_2 yd_X6_partsOf ⟨(Nat.le_of_ble_eq_true rfl), (Nat.le_of_ble_eq_true rfl)⟩ rfl hl.1 rfl (Nat.le_of_ble_eq_true rfl) dX9_isBalanced_51 (fun H locs hP hS => ?_)
        refine lv_icmp_eq (tgt := 59) hx hb dX9_isBalanced_54 (by decide) (fun c => ?_) (fun c => ?_)
        · have hD := ifp hD c
          obtain ⟨v3, ev3, hD⟩ := bnd_el hD
          refine lv_iinc (v := v3) (lv' := [(1, .int v3), (0, .ref (adh 0)), (2, .int x2), (3, .int x3)]) hx hb dX9_isBalanced_59 hl (k := 1) rfl (by rw [ev3]; rfl) (by decide) rfl (fun ls hl => ?_)
          refine lv_goto (tgt := 2) hx hb dX9_isBalanced_62 (by decide) ?_
          exact hk2 _ _ _ _ hD hP hS (lv_sub hl [1, 0] rfl)
        · have hD := ifn hD c
          refine lv_iconst (v := (0 : Int32)) hx hb dX9_isBalanced_57 (by decide) ?_
          obtain rfl := es1 hD
          exact hret _ _ _ hP hS (fun Qc hq => W.zret hx hb hr rfl hq hS.2.2 dX9_isBalanced_58 hlocks)
      · have hD := ifn hD c
        refine lv_iload_n hx hb dX9_isBalanced_26 rfl (lv_at hl 2 rfl) ?_
        refine lv_aload_n hx hb dX9_isBalanced_27 rfl (lv_at hl 0 rfl) ?_
        refine rg (Wf := fun z => Wf z m) (mm := h) hx hb hT hu9 hown hK hP (hLh m) 0 3 (Nat.le_of_ble_eq_true rfl) (hs0 _ _) rfl (Nat.le_of_ble_eq_true rfl) (Fx0.T tw_3_4) rfl (v := .ref (ad 24)) (congrArg (fun z => some (Value.ref z)) hm1) dX9_isBalanced_28 ?_
        refine lv_iload_n hx hb dX9_isBalanced_31 rfl (lv_at hl 1 rfl) ?_
        refine lv_iload_n hx hb dX9_isBalanced_32 rfl (lv_at hl 3 rfl) ?_
        obtain ⟨v4, z5, hD⟩ := b1_el hD
        refine rcVN (Wf := fun z => Wf h z) (mm := m) (As := [.int x1, .int x3]) (rest := [.int x2]) Fx0 (c_X6_partsOf l (Wf := fun z0_ => Wf h z0_) (hL h) (fun a0_ b0_ => hAd h h a0_ b0_) m x1 x3 z5) hP (hD1 _ (hAd _ _ _ _)) hS (hA1 _ _ (hAd _ _ _ _) hS.1) (hL h) (Nat.le_of_ble_eq_true rfl) (ms24 _ _) rfl tw_3_40 tw_3_37 tw_3_39 ts_6 tw_1_2 yd_X6_partsOf ⟨(Nat.le_of_ble_eq_true rfl), (Nat.le_of_ble_eq_true rfl)⟩ rfl hl.1 rfl (Nat.le_of_ble_eq_true rfl) dX9_isBalanced_33 (fun H locs hP hS => ?_)
        refine lv_iadd hx hb dX9_isBalanced_36 ?_
        obtain ⟨v6, ev6, hD⟩ := bnd_el hD
        refine lv_nmi ev6 ?_
        refine lv_istore_n (lv' := [(2, .int v6), (0, .ref (adh 0)), (1, .int x1), (3, .int x3)]) hx hb dX9_isBalanced_37 rfl hl (by decide) rfl (fun ls hl => ?_)
        obtain ⟨v7, ev7, hD⟩ := bnd_el hD
        refine lv_iinc (v := v7) (lv' := [(3, .int v7), (2, .int v6), (0, .ref (adh 0)), (1, .int x1)]) hx hb dX9_isBalanced_38 hl (k := 3) rfl (by rw [ev7]; rfl) (by decide) rfl (fun ls hl => ?_)
        refine lv_goto (tgt := 20) hx hb dX9_isBalanced_41 (by decide) ?_
        exact ih _ _ _ _ _ _ hD hP hS (lv_sub hl [2, 3, 1, 0] rfl)
  have c_2 : ∀ (n : Nat), ∀ (x1 : Int32) (H : Heap) (locs : List Loc) (ls : Array Slot), D_X9_isBalanced_2 h m n x1 = some (rr) → va_P D vwCl (Wf h m) H → va_S A s.heap H locs → lv_has ls 4 [(0, .ref (adh 0)), (1, .int x1)] → W p l e ({ frames := 3, cells := 0, slots := 0, locals := 67 } : Room) s m0 args below meth c H locs 0 0 Q (F0 m0 2 ls []) := by
    intro n
    induction n with
    | zero =>
      intro x1 H locs ls hD hP hS hl
      exact nn_el hD
    | succ n ih =>
      intro x1 H locs ls hD hP hS hl
      rw [D_X9_isBalanced_2] at hD
      refine lv_iload_n hx hb dX9_isBalanced_2 rfl (lv_at hl 1 rfl) ?_
      refine lv_aload_n hx hb dX9_isBalanced_3 rfl (lv_at hl 0 rfl) ?_
      refine rg (Wf := fun z => Wf z m) (mm := h) hx hb hT hu9 hown hK hP (hLh m) 0 3 (Nat.le_of_ble_eq_true rfl) (hs0 _ _) rfl (Nat.le_of_ble_eq_true rfl) (Fx0.T tw_3_4) rfl (v := .ref (ad 24)) (congrArg (fun z => some (Value.ref z)) hm1) dX9_isBalanced_4 ?_
      refine rgN (Wf := fun z => Wf h z) (mm := m) hx hb hT hu6 hown hK hP (hL h) 24 5 (Nat.le_of_ble_eq_true rfl) (ms24 _ _) rfl (Nat.le_of_ble_eq_true rfl) tw_2_92 rfl (v := .ref (ad 28)) rfl dX9_isBalanced_7 ?_
      refine rgN (Wf := fun z => Wf h z) (mm := m) hx hb hT hu5 hown hK hP (hL h) 28 0 (Nat.le_of_ble_eq_true rfl) (ms28 _ _) rfl (Nat.le_of_ble_eq_true rfl) tw_1_52 rfl (v := .int (gi m 28 0)) rfl dX9_isBalanced_10 ?_
      refine lv_icmp_ge (tgt := 65) hx hb dX9_isBalanced_13 (by decide) (fun c => ?_) (fun c => ?_)
      · have hD := ifp hD c
        refine lv_iconst (v := (1 : Int32)) hx hb dX9_isBalanced_65 (by decide) ?_
        obtain rfl := es1 hD
        exact hret _ _ _ hP hS (fun Qc hq => W.zret hx hb hr rfl hq hS.2.2 dX9_isBalanced_66 hlocks)
      · have hD := ifn hD c
        refine lv_iconst (v := (0 : Int32)) hx hb dX9_isBalanced_16 (by decide) ?_
        refine lv_istore_n (lv' := [(2, .int (0 : Int32)), (0, .ref (adh 0)), (1, .int x1)]) hx hb dX9_isBalanced_17 rfl hl (by decide) rfl (fun ls hl => ?_)
        refine lv_iconst (v := (1 : Int32)) hx hb dX9_isBalanced_18 (by decide) ?_
        refine lv_istore_n (lv' := [(3, .int (1 : Int32)), (2, .int (0 : Int32)), (0, .ref (adh 0)), (1, .int x1)]) hx hb dX9_isBalanced_19 rfl hl (by decide) rfl (fun ls hl => ?_)
        exact c_20 _ ih FU _ _ _ _ _ _ hD hP hS (lv_sub hl [2, 3, 1, 0] rfl)
  refine lv_iconst (v := (0 : Int32)) hx hb dX9_isBalanced_0 (by decide) ?_
  refine lv_istore_n (lv' := [(1, .int (0 : Int32)), (0, .ref (adh 0))]) hx hb dX9_isBalanced_1 rfl hl (by decide) rfl (fun ls hl => ?_)
  exact c_2 FU _ _ _ _ hD hP hS (lv_sub hl [1, 0] rfl)

noncomputable def D_X9_now (h : MM) (m : MM) : Option Int32 := some ((gi m 24 13))
set_option maxHeartbeats 4000000 in
set_option maxRecDepth 100000 in
theorem c_X9_now (l : Launch) {D : va_G} {cs : Nat → ClassId} {adh ad ma : Nat → Nat} {Wf : MM → MM → va_W} (hLh : ∀ m : MM, Ln 8 adh (hsh cs adh ma) (fun z => Wf z m)) (hL : ∀ h : MM, Ln 51 ad (msh cs ad) (fun z => Wf h z)) (hAd : ∀ a0_ b0_ a1_ b1_ : MM, (Wf a0_ a1_).map (fun q => q.1) = (Wf b0_ b1_).map (fun q => q.1)) (hm1 : ma 1 = ad 24) (h : MM) (m : MM) {rr : Int32} (hD : D_X9_now h m = some (rr)) : Ct l yX9_now cX9_now 1 (some .int) 0 0 D cs [.ref (adh 0)] (Wf h m) (Wf h m) (some (.int rr)) := by
  refine Ct.ofW (by decide) (Nat.le_of_ble_eq_true rfl) rfl ?_
  intro p e s m0 below meth c A Q ls args hx hb hr hml hlocks hown hts hK hP hD1 hSS hS hA1 hl hret
  have hT : ∀ w ∈ TBL, w.before args s = true := fun w h => hts w (List.mem_cons_of_mem _ h)
  have Fx0 : Fx p l m0 c cX9_now 1 s args yX9_now cX9_now 1 (some .int) D cs A := ⟨hx, hb, hml, hown, hts, hK, hSS⟩
  have hown : s.vm.findClass RX9 = some m0.cls := hown
  have hl : lv_has ls 1 [(0, .ref (adh 0))] := hl
  unfold D_X9_now at hD
  refine lv_aload_n hx hb dX9_now_0 rfl (lv_at hl 0 rfl) ?_
  refine rg (Wf := fun z => Wf z m) (mm := h) hx hb hT hu9 hown hK hP (hLh m) 0 3 (Nat.le_of_ble_eq_true rfl) (hs0 _ _) rfl (Nat.le_of_ble_eq_true rfl) (Fx0.T tw_3_4) rfl (v := .ref (ad 24)) (congrArg (fun z => some (Value.ref z)) hm1) dX9_now_1 ?_
  refine rgN (Wf := fun z => Wf h z) (mm := m) hx hb hT hu6 hown hK hP (hL h) 24 13 (Nat.le_of_ble_eq_true rfl) (ms24 _ _) rfl (Nat.le_of_ble_eq_true rfl) tw_2_117 rfl (v := .int (gi m 24 13)) rfl dX9_now_4 ?_
  obtain rfl := es1 hD
  exact hret _ _ _ hP hS (fun Qc hq => W.iret hx hb hr hq hS.2.2 dX9_now_7 hlocks)

noncomputable def D_X9_lookRate (h : MM) (m : MM) : Option Int32 := b1 (D_X9_perMille (gi m 45 7) (gi m 49 3)) (fun v1 => some (v1))
noncomputable def D_X9_logSize (h : MM) (m : MM) : Option Int32 := some ((gi m 45 0))
set_option maxHeartbeats 4000000 in
set_option maxRecDepth 100000 in
theorem c_X9_logSize (l : Launch) {D : va_G} {cs : Nat → ClassId} {adh ad ma : Nat → Nat} {Wf : MM → MM → va_W} (hLh : ∀ m : MM, Ln 8 adh (hsh cs adh ma) (fun z => Wf z m)) (hL : ∀ h : MM, Ln 51 ad (msh cs ad) (fun z => Wf h z)) (hAd : ∀ a0_ b0_ a1_ b1_ : MM, (Wf a0_ a1_).map (fun q => q.1) = (Wf b0_ b1_).map (fun q => q.1)) (hm1 : ma 1 = ad 24) (h : MM) (m : MM) {rr : Int32} (hD : D_X9_logSize h m = some (rr)) : Ct l yX9_logSize cX9_logSize 1 (some .int) 0 0 D cs [.ref (adh 0)] (Wf h m) (Wf h m) (some (.int rr)) := by
  refine Ct.ofW (by decide) (Nat.le_of_ble_eq_true rfl) rfl ?_
  intro p e s m0 below meth c A Q ls args hx hb hr hml hlocks hown hts hK hP hD1 hSS hS hA1 hl hret
  have hT : ∀ w ∈ TBL, w.before args s = true := fun w h => hts w (List.mem_cons_of_mem _ h)
  have Fx0 : Fx p l m0 c cX9_logSize 1 s args yX9_logSize cX9_logSize 1 (some .int) D cs A := ⟨hx, hb, hml, hown, hts, hK, hSS⟩
  have hown : s.vm.findClass RX9 = some m0.cls := hown
  have hl : lv_has ls 1 [(0, .ref (adh 0))] := hl
  unfold D_X9_logSize at hD
  refine lv_aload_n hx hb dX9_logSize_0 rfl (lv_at hl 0 rfl) ?_
  refine rg (Wf := fun z => Wf z m) (mm := h) hx hb hT hu9 hown hK hP (hLh m) 0 3 (Nat.le_of_ble_eq_true rfl) (hs0 _ _) rfl (Nat.le_of_ble_eq_true rfl) (Fx0.T tw_3_4) rfl (v := .ref (ad 24)) (congrArg (fun z => some (Value.ref z)) hm1) dX9_logSize_1 ?_
  refine rgN (Wf := fun z => Wf h z) (mm := m) hx hb hT hu6 hown hK hP (hL h) 24 10 (Nat.le_of_ble_eq_true rfl) (ms24 _ _) rfl (Nat.le_of_ble_eq_true rfl) tw_2_110 rfl (v := .ref (ad 45)) rfl dX9_logSize_4 ?_
  refine rgN (Wf := fun z => Wf h z) (mm := m) hx hb hT hu4 hown hK hP (hL h) 45 0 (Nat.le_of_ble_eq_true rfl) (ms45 _ _) rfl (Nat.le_of_ble_eq_true rfl) tw_1_153 rfl (v := .int (gi m 45 0)) rfl dX9_logSize_7 ?_
  obtain rfl := es1 hD
  exact hret _ _ _ hP hS (fun Qc hq => W.iret hx hb hr hq hS.2.2 dX9_logSize_10 hlocks)

noncomputable def D_X9_actionsToEnd (h : MM) (m : MM) (f : MM) : Option (Int32 × MM × MM) := b1 (D_X3_begin h m f) (fun m1 => b2 (D_X3_goOn h m m1) (fun m3 m4 => if (gi m3 3 4) = (-1 : Int32) then (some ((-1 : Int32), m3, m4)) else (some ((gi m3 3 3), m3, m4))))
set_option maxHeartbeats 4000000 in
set_option maxRecDepth 100000 in
theorem c_X9_actionsToEnd (l : Launch) {D : va_G} {cs : Nat → ClassId} {adh ad adf ma : Nat → Nat} {Wf : MM → MM → MM → va_W} (hLh : ∀ m f : MM, Ln 8 adh (hsh cs adh ma) (fun z => Wf z m f)) (hL : ∀ h f : MM, Ln 51 ad (msh cs ad) (fun z => Wf h z f)) (hLf : ∀ h m : MM, Ln 51 adf (msh cs adf) (fun z => Wf h m z)) (hAd : ∀ a0_ b0_ a1_ b1_ a2_ b2_ : MM, (Wf a0_ a1_ a2_).map (fun q => q.1) = (Wf b0_ b1_ b2_).map (fun q => q.1)) (hm1 : ma 1 = ad 24) (hm2 : ma 2 = adf 24) (h : MM) (m : MM) (f : MM) {rr : Int32} {h' : MM} {f' : MM} (hD : D_X9_actionsToEnd h m f = some (rr, h', f')) : Ct l yX9_actionsToEnd cX9_actionsToEnd 1 (some .int) 6 156 D cs [.ref (adh 0)] (Wf h m f) (Wf h' m f') (some (.int rr)) := by
  refine Ct.ofW (by decide) (Nat.le_of_ble_eq_true rfl) (hAd _ _ _ _ _ _) ?_
  intro p e s m0 below meth c A Q ls args hx hb hr hml hlocks hown hts hK hP hD1 hSS hS hA1 hl hret
  have hT : ∀ w ∈ TBL, w.before args s = true := fun w h => hts w (List.mem_cons_of_mem _ h)
  have Fx0 : Fx p l m0 c cX9_actionsToEnd 1 s args yX9_actionsToEnd cX9_actionsToEnd 1 (some .int) D cs A := ⟨hx, hb, hml, hown, hts, hK, hSS⟩
  have hown : s.vm.findClass RX9 = some m0.cls := hown
  have hl : lv_has ls 1 [(0, .ref (adh 0))] := hl
  unfold D_X9_actionsToEnd at hD
  refine lv_aload_n hx hb dX9_actionsToEnd_0 rfl (lv_at hl 0 rfl) ?_
  refine rg (Wf := fun z => Wf z m f) (mm := h) hx hb hT hu9 hown hK hP (hLh m f) 0 5 (Nat.le_of_ble_eq_true rfl) (hs0 _ _) rfl (Nat.le_of_ble_eq_true rfl) (Fx0.T tw_3_6) rfl (v := .ref (adh 3)) rfl dX9_actionsToEnd_1 ?_
  obtain ⟨m1, z2, hD⟩ := b1_el hD
  refine rcVN (Wf := fun z => Wf z m f) (mm := h) (As := []) (rest := []) Fx0 (c_X3_begin l (Wf := fun z0_ z1_ z2_ => Wf z0_ z1_ z2_) (fun z1_ z2_ => hLh z1_ z2_) (fun z0_ z2_ => hL z0_ z2_) (fun z0_ z1_ => hLf z0_ z1_) (fun a0_ b0_ a1_ b1_ a2_ b2_ => hAd a0_ b0_ a1_ b1_ a2_ b2_) hm1 hm2 h m f z2) hP (hD1 _ (hAd _ _ _ _ _ _)) hS (hA1 _ _ (hAd _ _ _ _ _ _) hS.1) (hLh m f) (Nat.le_of_ble_eq_true rfl) (hs3 _ _) rfl tw_6_180 tw_6_177 tw_6_179 ts_77 tw_1_11 yd_X3_begin ⟨(Nat.le_of_ble_eq_true rfl), (Nat.le_of_ble_eq_true rfl)⟩ rfl hl.1 rfl (Nat.le_of_ble_eq_true rfl) dX9_actionsToEnd_4 (fun H locs hP hS => ?_)
  refine lv_aload_n hx hb dX9_actionsToEnd_7 rfl (lv_at hl 0 rfl) ?_
  refine rg (Wf := fun z => Wf z m m1) (mm := h) hx hb hT hu9 hown hK hP (hLh m m1) 0 5 (Nat.le_of_ble_eq_true rfl) (hs0 _ _) rfl (Nat.le_of_ble_eq_true rfl) (Fx0.T tw_3_6) rfl (v := .ref (adh 3)) rfl dX9_actionsToEnd_8 ?_
  obtain ⟨m3, m4, z5, hD⟩ := b2_el hD
  refine rcVN (Wf := fun z => Wf z m m1) (mm := h) (As := []) (rest := []) Fx0 (c_X3_goOn l (Wf := fun z0_ z1_ z2_ => Wf z0_ z1_ z2_) (fun z1_ z2_ => hLh z1_ z2_) (fun z0_ z2_ => hL z0_ z2_) (fun z0_ z1_ => hLf z0_ z1_) (fun a0_ b0_ a1_ b1_ a2_ b2_ => hAd a0_ b0_ a1_ b1_ a2_ b2_) hm1 hm2 h m m1 z5) hP (hD1 _ (hAd _ _ _ _ _ _)) hS (hA1 _ _ (hAd _ _ _ _ _ _) hS.1) (hLh m m1) (Nat.le_of_ble_eq_true rfl) (hs3 _ _) rfl tw_6_185 tw_6_182 tw_6_184 ts_78 tw_1_11 yd_X3_goOn ⟨(Nat.le_of_ble_eq_true rfl), (Nat.le_of_ble_eq_true rfl)⟩ rfl hl.1 rfl (Nat.le_of_ble_eq_true rfl) dX9_actionsToEnd_11 (fun H locs hP hS => ?_)
  refine lv_aload_n hx hb dX9_actionsToEnd_14 rfl (lv_at hl 0 rfl) ?_
  refine rg (Wf := fun z => Wf z m m4) (mm := m3) hx hb hT hu9 hown hK hP (hLh m m4) 0 5 (Nat.le_of_ble_eq_true rfl) (hs0 _ _) rfl (Nat.le_of_ble_eq_true rfl) (Fx0.T tw_3_6) rfl (v := .ref (adh 3)) rfl dX9_actionsToEnd_15 ?_
  refine rgN (Wf := fun z => Wf z m m4) (mm := m3) hx hb hT hu3 hown hK hP (hLh m m4) 3 4 (Nat.le_of_ble_eq_true rfl) (hs3 _ _) rfl (Nat.le_of_ble_eq_true rfl) tw_2_195 rfl (v := .int (gi m3 3 4)) rfl dX9_actionsToEnd_18 ?_
  refine lv_iconst (v := (-1 : Int32)) hx hb dX9_actionsToEnd_21 (by decide) ?_
  refine lv_icmp_ne (tgt := 29) hx hb dX9_actionsToEnd_22 (by decide) (fun c => ?_) (fun c => ?_)
  · have hD := ifn hD c
    refine lv_aload_n hx hb dX9_actionsToEnd_29 rfl (lv_at hl 0 rfl) ?_
    refine rg (Wf := fun z => Wf z m m4) (mm := m3) hx hb hT hu9 hown hK hP (hLh m m4) 0 5 (Nat.le_of_ble_eq_true rfl) (hs0 _ _) rfl (Nat.le_of_ble_eq_true rfl) (Fx0.T tw_3_6) rfl (v := .ref (adh 3)) rfl dX9_actionsToEnd_30 ?_
    refine rgN (Wf := fun z => Wf z m m4) (mm := m3) hx hb hT hu3 hown hK hP (hLh m m4) 3 3 (Nat.le_of_ble_eq_true rfl) (hs3 _ _) rfl (Nat.le_of_ble_eq_true rfl) tw_2_193 rfl (v := .int (gi m3 3 3)) rfl dX9_actionsToEnd_33 ?_
    obtain ⟨rfl, rfl, rfl⟩ := es3 hD
    exact hret _ _ _ hP hS (fun Qc hq => W.iret hx hb hr hq hS.2.2 dX9_actionsToEnd_36 hlocks)
  · have hD := ifp hD c
    refine lv_iconst (v := (-1 : Int32)) hx hb dX9_actionsToEnd_25 (by decide) ?_
    refine lv_goto (tgt := 36) hx hb dX9_actionsToEnd_26 (by decide) ?_
    obtain ⟨rfl, rfl, rfl⟩ := es3 hD
    exact hret _ _ _ hP hS (fun Qc hq => W.iret hx hb hr hq hS.2.2 dX9_actionsToEnd_36 hlocks)

noncomputable def D_X9_timeAtEnd (h : MM) (m : MM) (f : MM) : Option (Int32 × MM × MM) := b1 (D_X3_begin h m f) (fun m1 => b2 (D_X3_goOn h m m1) (fun m3 m4 => some ((gi m3 3 4), m3, m4)))
set_option maxHeartbeats 4000000 in
set_option maxRecDepth 100000 in
theorem c_X9_timeAtEnd (l : Launch) {D : va_G} {cs : Nat → ClassId} {adh ad adf ma : Nat → Nat} {Wf : MM → MM → MM → va_W} (hLh : ∀ m f : MM, Ln 8 adh (hsh cs adh ma) (fun z => Wf z m f)) (hL : ∀ h f : MM, Ln 51 ad (msh cs ad) (fun z => Wf h z f)) (hLf : ∀ h m : MM, Ln 51 adf (msh cs adf) (fun z => Wf h m z)) (hAd : ∀ a0_ b0_ a1_ b1_ a2_ b2_ : MM, (Wf a0_ a1_ a2_).map (fun q => q.1) = (Wf b0_ b1_ b2_).map (fun q => q.1)) (hm1 : ma 1 = ad 24) (hm2 : ma 2 = adf 24) (h : MM) (m : MM) (f : MM) {rr : Int32} {h' : MM} {f' : MM} (hD : D_X9_timeAtEnd h m f = some (rr, h', f')) : Ct l yX9_timeAtEnd cX9_timeAtEnd 1 (some .int) 6 156 D cs [.ref (adh 0)] (Wf h m f) (Wf h' m f') (some (.int rr)) := by
  refine Ct.ofW (by decide) (Nat.le_of_ble_eq_true rfl) (hAd _ _ _ _ _ _) ?_
  intro p e s m0 below meth c A Q ls args hx hb hr hml hlocks hown hts hK hP hD1 hSS hS hA1 hl hret
  have hT : ∀ w ∈ TBL, w.before args s = true := fun w h => hts w (List.mem_cons_of_mem _ h)
  have Fx0 : Fx p l m0 c cX9_timeAtEnd 1 s args yX9_timeAtEnd cX9_timeAtEnd 1 (some .int) D cs A := ⟨hx, hb, hml, hown, hts, hK, hSS⟩
  have hown : s.vm.findClass RX9 = some m0.cls := hown
  have hl : lv_has ls 1 [(0, .ref (adh 0))] := hl
  unfold D_X9_timeAtEnd at hD
  refine lv_aload_n hx hb dX9_timeAtEnd_0 rfl (lv_at hl 0 rfl) ?_
  refine rg (Wf := fun z => Wf z m f) (mm := h) hx hb hT hu9 hown hK hP (hLh m f) 0 5 (Nat.le_of_ble_eq_true rfl) (hs0 _ _) rfl (Nat.le_of_ble_eq_true rfl) (Fx0.T tw_3_6) rfl (v := .ref (adh 3)) rfl dX9_timeAtEnd_1 ?_
  obtain ⟨m1, z2, hD⟩ := b1_el hD
  refine rcVN (Wf := fun z => Wf z m f) (mm := h) (As := []) (rest := []) Fx0 (c_X3_begin l (Wf := fun z0_ z1_ z2_ => Wf z0_ z1_ z2_) (fun z1_ z2_ => hLh z1_ z2_) (fun z0_ z2_ => hL z0_ z2_) (fun z0_ z1_ => hLf z0_ z1_) (fun a0_ b0_ a1_ b1_ a2_ b2_ => hAd a0_ b0_ a1_ b1_ a2_ b2_) hm1 hm2 h m f z2) hP (hD1 _ (hAd _ _ _ _ _ _)) hS (hA1 _ _ (hAd _ _ _ _ _ _) hS.1) (hLh m f) (Nat.le_of_ble_eq_true rfl) (hs3 _ _) rfl tw_6_180 tw_6_177 tw_6_179 ts_77 tw_1_11 yd_X3_begin ⟨(Nat.le_of_ble_eq_true rfl), (Nat.le_of_ble_eq_true rfl)⟩ rfl hl.1 rfl (Nat.le_of_ble_eq_true rfl) dX9_timeAtEnd_4 (fun H locs hP hS => ?_)
  refine lv_aload_n hx hb dX9_timeAtEnd_7 rfl (lv_at hl 0 rfl) ?_
  refine rg (Wf := fun z => Wf z m m1) (mm := h) hx hb hT hu9 hown hK hP (hLh m m1) 0 5 (Nat.le_of_ble_eq_true rfl) (hs0 _ _) rfl (Nat.le_of_ble_eq_true rfl) (Fx0.T tw_3_6) rfl (v := .ref (adh 3)) rfl dX9_timeAtEnd_8 ?_
  obtain ⟨m3, m4, z5, hD⟩ := b2_el hD
  refine rcVN (Wf := fun z => Wf z m m1) (mm := h) (As := []) (rest := []) Fx0 (c_X3_goOn l (Wf := fun z0_ z1_ z2_ => Wf z0_ z1_ z2_) (fun z1_ z2_ => hLh z1_ z2_) (fun z0_ z2_ => hL z0_ z2_) (fun z0_ z1_ => hLf z0_ z1_) (fun a0_ b0_ a1_ b1_ a2_ b2_ => hAd a0_ b0_ a1_ b1_ a2_ b2_) hm1 hm2 h m m1 z5) hP (hD1 _ (hAd _ _ _ _ _ _)) hS (hA1 _ _ (hAd _ _ _ _ _ _) hS.1) (hLh m m1) (Nat.le_of_ble_eq_true rfl) (hs3 _ _) rfl tw_6_185 tw_6_182 tw_6_184 ts_78 tw_1_11 yd_X3_goOn ⟨(Nat.le_of_ble_eq_true rfl), (Nat.le_of_ble_eq_true rfl)⟩ rfl hl.1 rfl (Nat.le_of_ble_eq_true rfl) dX9_timeAtEnd_11 (fun H locs hP hS => ?_)
  refine lv_aload_n hx hb dX9_timeAtEnd_14 rfl (lv_at hl 0 rfl) ?_
  refine rg (Wf := fun z => Wf z m m4) (mm := m3) hx hb hT hu9 hown hK hP (hLh m m4) 0 5 (Nat.le_of_ble_eq_true rfl) (hs0 _ _) rfl (Nat.le_of_ble_eq_true rfl) (Fx0.T tw_3_6) rfl (v := .ref (adh 3)) rfl dX9_timeAtEnd_15 ?_
  refine rgN (Wf := fun z => Wf z m m4) (mm := m3) hx hb hT hu3 hown hK hP (hLh m m4) 3 4 (Nat.le_of_ble_eq_true rfl) (hs3 _ _) rfl (Nat.le_of_ble_eq_true rfl) tw_2_195 rfl (v := .int (gi m3 3 4)) rfl dX9_timeAtEnd_18 ?_
  obtain ⟨rfl, rfl, rfl⟩ := es3 hD
  exact hret _ _ _ hP hS (fun Qc hq => W.iret hx hb hr hq hS.2.2 dX9_timeAtEnd_21 hlocks)

noncomputable def D_X9_filledAtEnd (h : MM) (m : MM) (f : MM) : Option (Int32 × MM × MM) := b1 (D_X3_begin h m f) (fun m1 => b2 (D_X3_goOn h m m1) (fun m3 m4 => b1 (D_J13_bitCount_95d88 (gl m4 36 8)) (fun v6 => some (v6, m3, m4))))
set_option maxHeartbeats 4000000 in
set_option maxRecDepth 100000 in
theorem c_X9_filledAtEnd (l : Launch) {D : va_G} {cs : Nat → ClassId} {adh ad adf ma : Nat → Nat} {Wf : MM → MM → MM → va_W} (hLh : ∀ m f : MM, Ln 8 adh (hsh cs adh ma) (fun z => Wf z m f)) (hL : ∀ h f : MM, Ln 51 ad (msh cs ad) (fun z => Wf h z f)) (hLf : ∀ h m : MM, Ln 51 adf (msh cs adf) (fun z => Wf h m z)) (hAd : ∀ a0_ b0_ a1_ b1_ a2_ b2_ : MM, (Wf a0_ a1_ a2_).map (fun q => q.1) = (Wf b0_ b1_ b2_).map (fun q => q.1)) (hm1 : ma 1 = ad 24) (hm2 : ma 2 = adf 24) (h : MM) (m : MM) (f : MM) {rr : Int32} {h' : MM} {f' : MM} (hD : D_X9_filledAtEnd h m f = some (rr, h', f')) : Ct l yX9_filledAtEnd cX9_filledAtEnd 1 (some .int) 6 156 D cs [.ref (adh 0)] (Wf h m f) (Wf h' m f') (some (.int rr)) := by
  refine Ct.ofW (by decide) (Nat.le_of_ble_eq_true rfl) (hAd _ _ _ _ _ _) ?_
  intro p e s m0 below meth c A Q ls args hx hb hr hml hlocks hown hts hK hP hD1 hSS hS hA1 hl hret
  have hT : ∀ w ∈ TBL, w.before args s = true := fun w h => hts w (List.mem_cons_of_mem _ h)
  have Fx0 : Fx p l m0 c cX9_filledAtEnd 1 s args yX9_filledAtEnd cX9_filledAtEnd 1 (some .int) D cs A := ⟨hx, hb, hml, hown, hts, hK, hSS⟩
  have hown : s.vm.findClass RX9 = some m0.cls := hown
  have hl : lv_has ls 1 [(0, .ref (adh 0))] := hl
  unfold D_X9_filledAtEnd at hD
  refine lv_aload_n hx hb dX9_filledAtEnd_0 rfl (lv_at hl 0 rfl) ?_
  refine rg (Wf := fun z => Wf z m f) (mm := h) hx hb hT hu9 hown hK hP (hLh m f) 0 5 (Nat.le_of_ble_eq_true rfl) (hs0 _ _) rfl (Nat.le_of_ble_eq_true rfl) (Fx0.T tw_3_6) rfl (v := .ref (adh 3)) rfl dX9_filledAtEnd_1 ?_
  obtain ⟨m1, z2, hD⟩ := b1_el hD
  refine rcVN (Wf := fun z => Wf z m f) (mm := h) (As := []) (rest := []) Fx0 (c_X3_begin l (Wf := fun z0_ z1_ z2_ => Wf z0_ z1_ z2_) (fun z1_ z2_ => hLh z1_ z2_) (fun z0_ z2_ => hL z0_ z2_) (fun z0_ z1_ => hLf z0_ z1_) (fun a0_ b0_ a1_ b1_ a2_ b2_ => hAd a0_ b0_ a1_ b1_ a2_ b2_) hm1 hm2 h m f z2) hP (hD1 _ (hAd _ _ _ _ _ _)) hS (hA1 _ _ (hAd _ _ _ _ _ _) hS.1) (hLh m f) (Nat.le_of_ble_eq_true rfl) (hs3 _ _) rfl tw_6_180 tw_6_177 tw_6_179 ts_77 tw_1_11 yd_X3_begin ⟨(Nat.le_of_ble_eq_true rfl), (Nat.le_of_ble_eq_true rfl)⟩ rfl hl.1 rfl (Nat.le_of_ble_eq_true rfl) dX9_filledAtEnd_4 (fun H locs hP hS => ?_)
  refine lv_aload_n hx hb dX9_filledAtEnd_7 rfl (lv_at hl 0 rfl) ?_
  refine rg (Wf := fun z => Wf z m m1) (mm := h) hx hb hT hu9 hown hK hP (hLh m m1) 0 5 (Nat.le_of_ble_eq_true rfl) (hs0 _ _) rfl (Nat.le_of_ble_eq_true rfl) (Fx0.T tw_3_6) rfl (v := .ref (adh 3)) rfl dX9_filledAtEnd_8 ?_
  obtain ⟨m3, m4, z5, hD⟩ := b2_el hD
  refine rcVN (Wf := fun z => Wf z m m1) (mm := h) (As := []) (rest := []) Fx0 (c_X3_goOn l (Wf := fun z0_ z1_ z2_ => Wf z0_ z1_ z2_) (fun z1_ z2_ => hLh z1_ z2_) (fun z0_ z2_ => hL z0_ z2_) (fun z0_ z1_ => hLf z0_ z1_) (fun a0_ b0_ a1_ b1_ a2_ b2_ => hAd a0_ b0_ a1_ b1_ a2_ b2_) hm1 hm2 h m m1 z5) hP (hD1 _ (hAd _ _ _ _ _ _)) hS (hA1 _ _ (hAd _ _ _ _ _ _) hS.1) (hLh m m1) (Nat.le_of_ble_eq_true rfl) (hs3 _ _) rfl tw_6_185 tw_6_182 tw_6_184 ts_78 tw_1_11 yd_X3_goOn ⟨(Nat.le_of_ble_eq_true rfl), (Nat.le_of_ble_eq_true rfl)⟩ rfl hl.1 rfl (Nat.le_of_ble_eq_true rfl) dX9_filledAtEnd_11 (fun H locs hP hS => ?_)
  refine lv_aload_n hx hb dX9_filledAtEnd_14 rfl (lv_at hl 0 rfl) ?_
  refine rg (Wf := fun z => Wf z m m4) (mm := m3) hx hb hT hu9 hown hK hP (hLh m m4) 0 6 (Nat.le_of_ble_eq_true rfl) (hs0 _ _) rfl (Nat.le_of_ble_eq_true rfl) (Fx0.T tw_3_7) rfl (v := .ref (adf 24)) (congrArg (fun z => some (Value.ref z)) hm2) dX9_filledAtEnd_15 ?_
  refine rgN (Wf := fun z => Wf m3 m z) (mm := m4) hx hb hT hu6 hown hK hP (hLf m3 m) 24 8 (Nat.le_of_ble_eq_true rfl) (ms24 _ _) rfl (Nat.le_of_ble_eq_true rfl) tw_2_105 rfl (v := .ref (adf 36)) rfl dX9_filledAtEnd_18 ?_
  refine rgN (Wf := fun z => Wf m3 m z) (mm := m4) hx hb hT hu0 hown hK hP (hLf m3 m) 36 8 (Nat.le_of_ble_eq_true rfl) (ms36 _ _) rfl (Nat.le_of_ble_eq_true rfl) tw_1_114 rfl (v := .long (gl m4 36 8)) rfl dX9_filledAtEnd_21 ?_
  obtain ⟨v6, z7, hD⟩ := b1_el hD
  refine rcS (As := [.long (gl m4 36 8)]) (rest := []) Fx0 (c_J13_bitCount_95d88 l (gl m4 36 8) z7) hP (hD1 _ (hAd _ _ _ _ _ _)) hS (hA1 _ _ (hAd _ _ _ _ _ _) hS.1) tw_6_13 tw_6_196 tw_6_12 tw_1_28 yd_J13_bitCount_95d88 ⟨(Nat.le_of_ble_eq_true rfl), (Nat.le_of_ble_eq_true rfl)⟩ rfl hl.1 rfl (Nat.le_of_ble_eq_true rfl) dX9_filledAtEnd_24 (fun H locs hP hS => ?_)
  obtain ⟨rfl, rfl, rfl⟩ := es3 hD
  exact hret _ _ _ hP hS (fun Qc hq => W.iret hx hb hr hq hS.2.2 dX9_filledAtEnd_27 hlocks)

noncomputable def D_X9_boardsPossible_6 (h : MM) (m : MM) : Nat → Int32 → Int32 → Option Int32
  | 0, _, _ => none
  | n + 1, x1, x2 => if (gi m 28 0) ≤ x2 then (some (x1)) else (b1 (D_X6_boardsFor x2 m) (fun v1 => bnd (if v1 < x1 then v1 else x1) (fun v3 => bnd (x2 + (1 : Int32)) (fun v4 => D_X9_boardsPossible_6 h m n v3 v4))))
noncomputable def D_X9_boardsPossible (h : MM) (m : MM) : Option Int32 := D_X9_boardsPossible_6 h m FU (1000 : Int32) (0 : Int32)
noncomputable def D_X9_splicesAhead (h : MM) (m : MM) (f : MM) : Option (Int32 × MM × MM) := b1 (D_X3_begin h m f) (fun m1 => b2 (D_X3_goOn h m m1) (fun m3 m4 => some (((gi m4 45 8) - (gi m 45 8)), m3, m4)))
set_option maxHeartbeats 4000000 in
set_option maxRecDepth 100000 in
theorem c_X9_splicesAhead (l : Launch) {D : va_G} {cs : Nat → ClassId} {adh ad adf ma : Nat → Nat} {Wf : MM → MM → MM → va_W} (hLh : ∀ m f : MM, Ln 8 adh (hsh cs adh ma) (fun z => Wf z m f)) (hL : ∀ h f : MM, Ln 51 ad (msh cs ad) (fun z => Wf h z f)) (hLf : ∀ h m : MM, Ln 51 adf (msh cs adf) (fun z => Wf h m z)) (hAd : ∀ a0_ b0_ a1_ b1_ a2_ b2_ : MM, (Wf a0_ a1_ a2_).map (fun q => q.1) = (Wf b0_ b1_ b2_).map (fun q => q.1)) (hm1 : ma 1 = ad 24) (hm2 : ma 2 = adf 24) (h : MM) (m : MM) (f : MM) {rr : Int32} {h' : MM} {f' : MM} (hD : D_X9_splicesAhead h m f = some (rr, h', f')) : Ct l yX9_splicesAhead cX9_splicesAhead 1 (some .int) 6 156 D cs [.ref (adh 0)] (Wf h m f) (Wf h' m f') (some (.int rr)) := by
  refine Ct.ofW (by decide) (Nat.le_of_ble_eq_true rfl) (hAd _ _ _ _ _ _) ?_
  intro p e s m0 below meth c A Q ls args hx hb hr hml hlocks hown hts hK hP hD1 hSS hS hA1 hl hret
  have hT : ∀ w ∈ TBL, w.before args s = true := fun w h => hts w (List.mem_cons_of_mem _ h)
  have Fx0 : Fx p l m0 c cX9_splicesAhead 1 s args yX9_splicesAhead cX9_splicesAhead 1 (some .int) D cs A := ⟨hx, hb, hml, hown, hts, hK, hSS⟩
  have hown : s.vm.findClass RX9 = some m0.cls := hown
  have hl : lv_has ls 1 [(0, .ref (adh 0))] := hl
  unfold D_X9_splicesAhead at hD
  refine lv_aload_n hx hb dX9_splicesAhead_0 rfl (lv_at hl 0 rfl) ?_
  refine rg (Wf := fun z => Wf z m f) (mm := h) hx hb hT hu9 hown hK hP (hLh m f) 0 5 (Nat.le_of_ble_eq_true rfl) (hs0 _ _) rfl (Nat.le_of_ble_eq_true rfl) (Fx0.T tw_3_6) rfl (v := .ref (adh 3)) rfl dX9_splicesAhead_1 ?_
  obtain ⟨m1, z2, hD⟩ := b1_el hD
  refine rcVN (Wf := fun z => Wf z m f) (mm := h) (As := []) (rest := []) Fx0 (c_X3_begin l (Wf := fun z0_ z1_ z2_ => Wf z0_ z1_ z2_) (fun z1_ z2_ => hLh z1_ z2_) (fun z0_ z2_ => hL z0_ z2_) (fun z0_ z1_ => hLf z0_ z1_) (fun a0_ b0_ a1_ b1_ a2_ b2_ => hAd a0_ b0_ a1_ b1_ a2_ b2_) hm1 hm2 h m f z2) hP (hD1 _ (hAd _ _ _ _ _ _)) hS (hA1 _ _ (hAd _ _ _ _ _ _) hS.1) (hLh m f) (Nat.le_of_ble_eq_true rfl) (hs3 _ _) rfl tw_6_180 tw_6_177 tw_6_179 ts_77 tw_1_11 yd_X3_begin ⟨(Nat.le_of_ble_eq_true rfl), (Nat.le_of_ble_eq_true rfl)⟩ rfl hl.1 rfl (Nat.le_of_ble_eq_true rfl) dX9_splicesAhead_4 (fun H locs hP hS => ?_)
  refine lv_aload_n hx hb dX9_splicesAhead_7 rfl (lv_at hl 0 rfl) ?_
  refine rg (Wf := fun z => Wf z m m1) (mm := h) hx hb hT hu9 hown hK hP (hLh m m1) 0 5 (Nat.le_of_ble_eq_true rfl) (hs0 _ _) rfl (Nat.le_of_ble_eq_true rfl) (Fx0.T tw_3_6) rfl (v := .ref (adh 3)) rfl dX9_splicesAhead_8 ?_
  obtain ⟨m3, m4, z5, hD⟩ := b2_el hD
  refine rcVN (Wf := fun z => Wf z m m1) (mm := h) (As := []) (rest := []) Fx0 (c_X3_goOn l (Wf := fun z0_ z1_ z2_ => Wf z0_ z1_ z2_) (fun z1_ z2_ => hLh z1_ z2_) (fun z0_ z2_ => hL z0_ z2_) (fun z0_ z1_ => hLf z0_ z1_) (fun a0_ b0_ a1_ b1_ a2_ b2_ => hAd a0_ b0_ a1_ b1_ a2_ b2_) hm1 hm2 h m m1 z5) hP (hD1 _ (hAd _ _ _ _ _ _)) hS (hA1 _ _ (hAd _ _ _ _ _ _) hS.1) (hLh m m1) (Nat.le_of_ble_eq_true rfl) (hs3 _ _) rfl tw_6_185 tw_6_182 tw_6_184 ts_78 tw_1_11 yd_X3_goOn ⟨(Nat.le_of_ble_eq_true rfl), (Nat.le_of_ble_eq_true rfl)⟩ rfl hl.1 rfl (Nat.le_of_ble_eq_true rfl) dX9_splicesAhead_11 (fun H locs hP hS => ?_)
  refine lv_aload_n hx hb dX9_splicesAhead_14 rfl (lv_at hl 0 rfl) ?_
  refine rg (Wf := fun z => Wf z m m4) (mm := m3) hx hb hT hu9 hown hK hP (hLh m m4) 0 6 (Nat.le_of_ble_eq_true rfl) (hs0 _ _) rfl (Nat.le_of_ble_eq_true rfl) (Fx0.T tw_3_7) rfl (v := .ref (adf 24)) (congrArg (fun z => some (Value.ref z)) hm2) dX9_splicesAhead_15 ?_
  refine rgN (Wf := fun z => Wf m3 m z) (mm := m4) hx hb hT hu6 hown hK hP (hLf m3 m) 24 10 (Nat.le_of_ble_eq_true rfl) (ms24 _ _) rfl (Nat.le_of_ble_eq_true rfl) tw_2_110 rfl (v := .ref (adf 45)) rfl dX9_splicesAhead_18 ?_
  refine rgN (Wf := fun z => Wf m3 m z) (mm := m4) hx hb hT hu4 hown hK hP (hLf m3 m) 45 8 (Nat.le_of_ble_eq_true rfl) (ms45 _ _) rfl (Nat.le_of_ble_eq_true rfl) tw_1_167 rfl (v := .int (gi m4 45 8)) rfl dX9_splicesAhead_21 ?_
  refine lv_aload_n hx hb dX9_splicesAhead_24 rfl (lv_at hl 0 rfl) ?_
  refine rg (Wf := fun z => Wf z m m4) (mm := m3) hx hb hT hu9 hown hK hP (hLh m m4) 0 3 (Nat.le_of_ble_eq_true rfl) (hs0 _ _) rfl (Nat.le_of_ble_eq_true rfl) (Fx0.T tw_3_4) rfl (v := .ref (ad 24)) (congrArg (fun z => some (Value.ref z)) hm1) dX9_splicesAhead_25 ?_
  refine rgN (Wf := fun z => Wf m3 z m4) (mm := m) hx hb hT hu6 hown hK hP (hL m3 m4) 24 10 (Nat.le_of_ble_eq_true rfl) (ms24 _ _) rfl (Nat.le_of_ble_eq_true rfl) tw_2_110 rfl (v := .ref (ad 45)) rfl dX9_splicesAhead_28 ?_
  refine rgN (Wf := fun z => Wf m3 z m4) (mm := m) hx hb hT hu4 hown hK hP (hL m3 m4) 45 8 (Nat.le_of_ble_eq_true rfl) (ms45 _ _) rfl (Nat.le_of_ble_eq_true rfl) tw_1_167 rfl (v := .int (gi m 45 8)) rfl dX9_splicesAhead_31 ?_
  refine lv_isub hx hb dX9_splicesAhead_34 ?_
  obtain ⟨rfl, rfl, rfl⟩ := es3 hD
  exact hret _ _ _ hP hS (fun Qc hq => W.iret hx hb hr hq hS.2.2 dX9_splicesAhead_35 hlocks)

noncomputable def D_X9_bestRetries_14 (m : MM) : Nat → Int32 → Int32 → Int32 → Int32 → MM → MM → Option (Int32 × MM × MM)
  | 0, _, _, _, _, _, _ => none
  | n + 1, x1, x2, x3, x4, h, f => if (mst 7) < x4 then (some (x1, h, f)) else (b1 (D_X3_begin h m f) (fun m4 => bnd (si m4 25 7 x4) (fun m6 => b2 (D_X3_goOn h m m6) (fun m7 m8 => b1 (D_J13_bitCount_95d88 (gl m8 36 8)) (fun v10 => if x2 < v10 then (bnd ((gi m8 24 13)) (fun v12 => bnd (x4 + (1 : Int32)) (fun v13 => D_X9_bestRetries_14 m n x4 v10 v12 v13 m7 m8))) else (if v10 = x2 then (if x3 ≤ (gi m8 24 13) then (bnd (x4 + (1 : Int32)) (fun v15 => D_X9_bestRetries_14 m n x1 x2 x3 v15 m7 m8)) else (bnd ((gi m8 24 13)) (fun v16 => bnd (x4 + (1 : Int32)) (fun v17 => D_X9_bestRetries_14 m n x4 v10 v16 v17 m7 m8)))) else (bnd (x4 + (1 : Int32)) (fun v14 => D_X9_bestRetries_14 m n x1 x2 x3 v14 m7 m8))))))))
noncomputable def D_X9_bestRetries (h : MM) (m : MM) (f : MM) : Option (Int32 × MM × MM) := bnd ((lea 7)) (fun v2 => D_X9_bestRetries_14 m FU (0 : Int32) (-1 : Int32) (0 : Int32) v2 h f)
set_option maxHeartbeats 4000000 in
set_option maxRecDepth 100000 in
theorem c_X9_bestRetries (l : Launch) {D : va_G} {cs : Nat → ClassId} {adh ad adf ma : Nat → Nat} {Wf : MM → MM → MM → va_W} (hLh : ∀ m f : MM, Ln 8 adh (hsh cs adh ma) (fun z => Wf z m f)) (hL : ∀ h f : MM, Ln 51 ad (msh cs ad) (fun z => Wf h z f)) (hLf : ∀ h m : MM, Ln 51 adf (msh cs adf) (fun z => Wf h m z)) (hAd : ∀ a0_ b0_ a1_ b1_ a2_ b2_ : MM, (Wf a0_ a1_ a2_).map (fun q => q.1) = (Wf b0_ b1_ b2_).map (fun q => q.1)) (hm1 : ma 1 = ad 24) (hm2 : ma 2 = adf 24) (h : MM) (m : MM) (f : MM) {rr : Int32} {h' : MM} {f' : MM} (hD : D_X9_bestRetries h m f = some (rr, h', f')) : Ct l yX9_bestRetries cX9_bestRetries 6 (some .int) 6 156 D cs [.ref (adh 0)] (Wf h m f) (Wf h' m f') (some (.int rr)) := by
  refine Ct.ofW (by decide) (Nat.le_of_ble_eq_true rfl) (hAd _ _ _ _ _ _) ?_
  intro p e s m0 below meth c A Q ls args hx hb hr hml hlocks hown hts hK hP hD1 hSS hS hA1 hl hret
  have hT : ∀ w ∈ TBL, w.before args s = true := fun w h => hts w (List.mem_cons_of_mem _ h)
  have Fx0 : Fx p l m0 c cX9_bestRetries 6 s args yX9_bestRetries cX9_bestRetries 6 (some .int) D cs A := ⟨hx, hb, hml, hown, hts, hK, hSS⟩
  have hown : s.vm.findClass RX9 = some m0.cls := hown
  have hl : lv_has ls 6 [(0, .ref (adh 0))] := hl
  unfold D_X9_bestRetries at hD
  have c_14 : ∀ (n : Nat), ∀ (x1 : Int32) (x2 : Int32) (x3 : Int32) (x4 : Int32) (h : MM) (f : MM) (H : Heap) (locs : List Loc) (ls : Array Slot), D_X9_bestRetries_14 m n x1 x2 x3 x4 h f = some (rr, h', f') → va_P D vwCl (Wf h m f) H → va_S A s.heap H locs → lv_has ls 6 [(0, .ref (adh 0)), (1, .int x1), (2, .int x2), (3, .int x3), (4, .int x4)] → W p l e ({ frames := 6, cells := 0, slots := 0, locals := 156 } : Room) s m0 args below meth c H locs 0 0 Q (F0 m0 14 ls []) := by
    intro n
    induction n with
    | zero =>
      intro x1 x2 x3 x4 h f H locs ls hD hP hS hl
      exact nn_el hD
    | succ n ih =>
      intro x1 x2 x3 x4 h f H locs ls hD hP hS hl
      rw [D_X9_bestRetries_14] at hD
      refine lv_iload hx hb dX9_bestRetries_14 (lv_at hl 4 rfl) ?_
      obtain ⟨t3, hzt3, htt3⟩ := hSS.2.2.1
      refine rgs hx hb hzt3 hS hown (Fx0.T tw_6_26) dX9_bestRetries_16 ?_
      refine lv_bipush (v := (7 : Int32)) hx hb dX9_bestRetries_19 (by decide) ?_
      refine rti hx hb htt3 hS (by decide) (j := 7) (by decide) dX9_bestRetries_21 ?_
      refine lv_icmp_gt (tgt := 109) hx hb dX9_bestRetries_22 (by decide) (fun c => ?_) (fun c => ?_)
      · have hD := ifp hD c
        refine lv_iload_n hx hb dX9_bestRetries_109 rfl (lv_at hl 1 rfl) ?_
        obtain ⟨rfl, rfl, rfl⟩ := es3 hD
        exact hret _ _ _ hP hS (fun Qc hq => W.iret hx hb hr hq hS.2.2 dX9_bestRetries_110 hlocks)
      · have hD := ifn hD c
        refine lv_aload_n hx hb dX9_bestRetries_25 rfl (lv_at hl 0 rfl) ?_
        refine rg (Wf := fun z => Wf z m f) (mm := h) hx hb hT hu9 hown hK hP (hLh m f) 0 5 (Nat.le_of_ble_eq_true rfl) (hs0 _ _) rfl (Nat.le_of_ble_eq_true rfl) (Fx0.T tw_3_6) rfl (v := .ref (adh 3)) rfl dX9_bestRetries_26 ?_
        obtain ⟨m4, z5, hD⟩ := b1_el hD
        refine rcVN (Wf := fun z => Wf z m f) (mm := h) (As := []) (rest := []) Fx0 (c_X3_begin l (Wf := fun z0_ z1_ z2_ => Wf z0_ z1_ z2_) (fun z1_ z2_ => hLh z1_ z2_) (fun z0_ z2_ => hL z0_ z2_) (fun z0_ z1_ => hLf z0_ z1_) (fun a0_ b0_ a1_ b1_ a2_ b2_ => hAd a0_ b0_ a1_ b1_ a2_ b2_) hm1 hm2 h m f z5) hP (hD1 _ (hAd _ _ _ _ _ _)) hS (hA1 _ _ (hAd _ _ _ _ _ _) hS.1) (hLh m f) (Nat.le_of_ble_eq_true rfl) (hs3 _ _) rfl tw_6_180 tw_6_177 tw_6_179 ts_77 tw_1_11 yd_X3_begin ⟨(Nat.le_of_ble_eq_true rfl), (Nat.le_of_ble_eq_true rfl)⟩ rfl hl.1 rfl (Nat.le_of_ble_eq_true rfl) dX9_bestRetries_29 (fun H locs hP hS => ?_)
        refine lv_aload_n hx hb dX9_bestRetries_32 rfl (lv_at hl 0 rfl) ?_
        refine rg (Wf := fun z => Wf z m m4) (mm := h) hx hb hT hu9 hown hK hP (hLh m m4) 0 6 (Nat.le_of_ble_eq_true rfl) (hs0 _ _) rfl (Nat.le_of_ble_eq_true rfl) (Fx0.T tw_3_7) rfl (v := .ref (adf 24)) (congrArg (fun z => some (Value.ref z)) hm2) dX9_bestRetries_33 ?_
        refine rgN (Wf := fun z => Wf h m z) (mm := m4) hx hb hT hu6 hown hK hP (hLf h m) 24 0 (Nat.le_of_ble_eq_true rfl) (ms24 _ _) rfl (Nat.le_of_ble_eq_true rfl) tw_2_76 rfl (v := .ref (adf 25)) rfl dX9_bestRetries_36 ?_
        refine lv_bipush (v := (7 : Int32)) hx hb dX9_bestRetries_39 (by decide) ?_
        refine lv_iload hx hb dX9_bestRetries_41 (lv_at hl 4 rfl) ?_
        obtain ⟨m6, em6, hD⟩ := bnd_el hD
        refine riast (Wf := fun z => Wf h m z) (mm := m4) hx hb hK hP (hD1 _ (hAd _ _ _ _ _ _)) hS (hLf h m) 25 (Nat.le_of_ble_eq_true rfl) (fun _ => ms25 _ _) (by decide) (j := 7) (by decide) dX9_bestRetries_43 em6 (fun H locs hP hS => ?_)
        refine lv_aload_n hx hb dX9_bestRetries_44 rfl (lv_at hl 0 rfl) ?_
        refine rg (Wf := fun z => Wf z m m6) (mm := h) hx hb hT hu9 hown hK hP (hLh m m6) 0 5 (Nat.le_of_ble_eq_true rfl) (hs0 _ _) rfl (Nat.le_of_ble_eq_true rfl) (Fx0.T tw_3_6) rfl (v := .ref (adh 3)) rfl dX9_bestRetries_45 ?_
        obtain ⟨m7, m8, z9, hD⟩ := b2_el hD
        refine rcVN (Wf := fun z => Wf z m m6) (mm := h) (As := []) (rest := []) Fx0 (c_X3_goOn l (Wf := fun z0_ z1_ z2_ => Wf z0_ z1_ z2_) (fun z1_ z2_ => hLh z1_ z2_) (fun z0_ z2_ => hL z0_ z2_) (fun z0_ z1_ => hLf z0_ z1_) (fun a0_ b0_ a1_ b1_ a2_ b2_ => hAd a0_ b0_ a1_ b1_ a2_ b2_) hm1 hm2 h m m6 z9) hP (hD1 _ (hAd _ _ _ _ _ _)) hS (hA1 _ _ (hAd _ _ _ _ _ _) hS.1) (hLh m m6) (Nat.le_of_ble_eq_true rfl) (hs3 _ _) rfl tw_6_185 tw_6_182 tw_6_184 ts_78 tw_1_11 yd_X3_goOn ⟨(Nat.le_of_ble_eq_true rfl), (Nat.le_of_ble_eq_true rfl)⟩ rfl hl.1 rfl (Nat.le_of_ble_eq_true rfl) dX9_bestRetries_48 (fun H locs hP hS => ?_)
        refine lv_aload_n hx hb dX9_bestRetries_51 rfl (lv_at hl 0 rfl) ?_
        refine rg (Wf := fun z => Wf z m m8) (mm := m7) hx hb hT hu9 hown hK hP (hLh m m8) 0 6 (Nat.le_of_ble_eq_true rfl) (hs0 _ _) rfl (Nat.le_of_ble_eq_true rfl) (Fx0.T tw_3_7) rfl (v := .ref (adf 24)) (congrArg (fun z => some (Value.ref z)) hm2) dX9_bestRetries_52 ?_
        refine rgN (Wf := fun z => Wf m7 m z) (mm := m8) hx hb hT hu6 hown hK hP (hLf m7 m) 24 8 (Nat.le_of_ble_eq_true rfl) (ms24 _ _) rfl (Nat.le_of_ble_eq_true rfl) tw_2_105 rfl (v := .ref (adf 36)) rfl dX9_bestRetries_55 ?_
        refine rgN (Wf := fun z => Wf m7 m z) (mm := m8) hx hb hT hu0 hown hK hP (hLf m7 m) 36 8 (Nat.le_of_ble_eq_true rfl) (ms36 _ _) rfl (Nat.le_of_ble_eq_true rfl) tw_1_114 rfl (v := .long (gl m8 36 8)) rfl dX9_bestRetries_58 ?_
        obtain ⟨v10, z11, hD⟩ := b1_el hD
        refine rcS (As := [.long (gl m8 36 8)]) (rest := []) Fx0 (c_J13_bitCount_95d88 l (gl m8 36 8) z11) hP (hD1 _ (hAd _ _ _ _ _ _)) hS (hA1 _ _ (hAd _ _ _ _ _ _) hS.1) tw_6_13 tw_6_196 tw_6_12 tw_1_28 yd_J13_bitCount_95d88 ⟨(Nat.le_of_ble_eq_true rfl), (Nat.le_of_ble_eq_true rfl)⟩ rfl hl.1 rfl (Nat.le_of_ble_eq_true rfl) dX9_bestRetries_61 (fun H locs hP hS => ?_)
        refine lv_istore (lv' := [(5, .int v10), (0, .ref (adh 0)), (1, .int x1), (2, .int x2), (3, .int x3), (4, .int x4)]) hx hb dX9_bestRetries_64 hl (by decide) rfl (fun ls hl => ?_)
        refine lv_iload hx hb dX9_bestRetries_66 (lv_at hl 0 rfl) ?_
        refine lv_iload_n hx hb dX9_bestRetries_68 rfl (lv_at hl 3 rfl) ?_
        refine lv_icmp_gt (tgt := 89) hx hb dX9_bestRetries_69 (by decide) (fun c => ?_) (fun c => ?_)
        · have hD := ifp hD c
          refine lv_iload hx hb dX9_bestRetries_89 (lv_at hl 5 rfl) ?_
          refine lv_istore_n (lv' := [(1, .int x4), (5, .int v10), (0, .ref (adh 0)), (2, .int x2), (3, .int x3), (4, .int x4)]) hx hb dX9_bestRetries_91 rfl hl (by decide) rfl (fun ls hl => ?_)
          refine lv_iload hx hb dX9_bestRetries_92 (lv_at hl 1 rfl) ?_
          refine lv_istore_n (lv' := [(2, .int v10), (1, .int x4), (5, .int v10), (0, .ref (adh 0)), (3, .int x3), (4, .int x4)]) hx hb dX9_bestRetries_94 rfl hl (by decide) rfl (fun ls hl => ?_)
          refine lv_aload_n hx hb dX9_bestRetries_95 rfl (lv_at hl 3 rfl) ?_
          refine rg (Wf := fun z => Wf z m m8) (mm := m7) hx hb hT hu9 hown hK hP (hLh m m8) 0 6 (Nat.le_of_ble_eq_true rfl) (hs0 _ _) rfl (Nat.le_of_ble_eq_true rfl) (Fx0.T tw_3_7) rfl (v := .ref (adf 24)) (congrArg (fun z => some (Value.ref z)) hm2) dX9_bestRetries_96 ?_
          refine rgN (Wf := fun z => Wf m7 m z) (mm := m8) hx hb hT hu6 hown hK hP (hLf m7 m) 24 13 (Nat.le_of_ble_eq_true rfl) (ms24 _ _) rfl (Nat.le_of_ble_eq_true rfl) tw_2_117 rfl (v := .int (gi m8 24 13)) rfl dX9_bestRetries_99 ?_
          obtain ⟨v12, ev12, hD⟩ := bnd_el hD
          refine lv_nmi ev12 ?_
          refine lv_istore_n (lv' := [(3, .int v12), (2, .int v10), (1, .int x4), (5, .int v10), (0, .ref (adh 0)), (4, .int x4)]) hx hb dX9_bestRetries_102 rfl hl (by decide) rfl (fun ls hl => ?_)
          obtain ⟨v13, ev13, hD⟩ := bnd_el hD
          refine lv_iinc (v := v13) (lv' := [(4, .int v13), (3, .int v12), (2, .int v10), (1, .int x4), (5, .int v10), (0, .ref (adh 0))]) hx hb dX9_bestRetries_103 hl (k := 5) rfl (by rw [ev13]; rfl) (by decide) rfl (fun ls hl => ?_)
          refine lv_goto (tgt := 14) hx hb dX9_bestRetries_106 (by decide) ?_
          exact ih _ _ _ _ _ _ _ _ _ hD hP hS (lv_sub hl [5, 3, 2, 1, 0] rfl)
        · have hD := ifn hD c
          refine lv_iload hx hb dX9_bestRetries_72 (lv_at hl 0 rfl) ?_
          refine lv_iload_n hx hb dX9_bestRetries_74 rfl (lv_at hl 3 rfl) ?_
          refine lv_icmp_ne (tgt := 103) hx hb dX9_bestRetries_75 (by decide) (fun c => ?_) (fun c => ?_)
          · have hD := ifn hD c
            obtain ⟨v14, ev14, hD⟩ := bnd_el hD
            refine lv_iinc (v := v14) (lv' := [(4, .int v14), (5, .int v10), (0, .ref (adh 0)), (1, .int x1), (2, .int x2), (3, .int x3)]) hx hb dX9_bestRetries_103 hl (k := 5) rfl (by rw [ev14]; rfl) (by decide) rfl (fun ls hl => ?_)
            refine lv_goto (tgt := 14) hx hb dX9_bestRetries_106 (by decide) ?_
            exact ih _ _ _ _ _ _ _ _ _ hD hP hS (lv_sub hl [2, 3, 4, 5, 0] rfl)
          · have hD := ifp hD c
            refine lv_aload_n hx hb dX9_bestRetries_78 rfl (lv_at hl 1 rfl) ?_
            refine rg (Wf := fun z => Wf z m m8) (mm := m7) hx hb hT hu9 hown hK hP (hLh m m8) 0 6 (Nat.le_of_ble_eq_true rfl) (hs0 _ _) rfl (Nat.le_of_ble_eq_true rfl) (Fx0.T tw_3_7) rfl (v := .ref (adf 24)) (congrArg (fun z => some (Value.ref z)) hm2) dX9_bestRetries_79 ?_
            refine rgN (Wf := fun z => Wf m7 m z) (mm := m8) hx hb hT hu6 hown hK hP (hLf m7 m) 24 13 (Nat.le_of_ble_eq_true rfl) (ms24 _ _) rfl (Nat.le_of_ble_eq_true rfl) tw_2_117 rfl (v := .int (gi m8 24 13)) rfl dX9_bestRetries_82 ?_
            refine lv_iload_n hx hb dX9_bestRetries_85 rfl (lv_at hl 4 rfl) ?_
            refine lv_icmp_ge (tgt := 103) hx hb dX9_bestRetries_86 (by decide) (fun c => ?_) (fun c => ?_)
            · have hD := ifp hD c
              obtain ⟨v15, ev15, hD⟩ := bnd_el hD
              refine lv_iinc (v := v15) (lv' := [(4, .int v15), (5, .int v10), (0, .ref (adh 0)), (1, .int x1), (2, .int x2), (3, .int x3)]) hx hb dX9_bestRetries_103 hl (k := 5) rfl (by rw [ev15]; rfl) (by decide) rfl (fun ls hl => ?_)
              refine lv_goto (tgt := 14) hx hb dX9_bestRetries_106 (by decide) ?_
              exact ih _ _ _ _ _ _ _ _ _ hD hP hS (lv_sub hl [2, 3, 4, 5, 0] rfl)
            · have hD := ifn hD c
              refine lv_iload hx hb dX9_bestRetries_89 (lv_at hl 5 rfl) ?_
              refine lv_istore_n (lv' := [(1, .int x4), (5, .int v10), (0, .ref (adh 0)), (2, .int x2), (3, .int x3), (4, .int x4)]) hx hb dX9_bestRetries_91 rfl hl (by decide) rfl (fun ls hl => ?_)
              refine lv_iload hx hb dX9_bestRetries_92 (lv_at hl 1 rfl) ?_
              refine lv_istore_n (lv' := [(2, .int v10), (1, .int x4), (5, .int v10), (0, .ref (adh 0)), (3, .int x3), (4, .int x4)]) hx hb dX9_bestRetries_94 rfl hl (by decide) rfl (fun ls hl => ?_)
              refine lv_aload_n hx hb dX9_bestRetries_95 rfl (lv_at hl 3 rfl) ?_
              refine rg (Wf := fun z => Wf z m m8) (mm := m7) hx hb hT hu9 hown hK hP (hLh m m8) 0 6 (Nat.le_of_ble_eq_true rfl) (hs0 _ _) rfl (Nat.le_of_ble_eq_true rfl) (Fx0.T tw_3_7) rfl (v := .ref (adf 24)) (congrArg (fun z => some (Value.ref z)) hm2) dX9_bestRetries_96 ?_
              refine rgN (Wf := fun z => Wf m7 m z) (mm := m8) hx hb hT hu6 hown hK hP (hLf m7 m) 24 13 (Nat.le_of_ble_eq_true rfl) (ms24 _ _) rfl (Nat.le_of_ble_eq_true rfl) tw_2_117 rfl (v := .int (gi m8 24 13)) rfl dX9_bestRetries_99 ?_
              obtain ⟨v16, ev16, hD⟩ := bnd_el hD
              refine lv_nmi ev16 ?_
              refine lv_istore_n (lv' := [(3, .int v16), (2, .int v10), (1, .int x4), (5, .int v10), (0, .ref (adh 0)), (4, .int x4)]) hx hb dX9_bestRetries_102 rfl hl (by decide) rfl (fun ls hl => ?_)
              obtain ⟨v17, ev17, hD⟩ := bnd_el hD
              refine lv_iinc (v := v17) (lv' := [(4, .int v17), (3, .int v16), (2, .int v10), (1, .int x4), (5, .int v10), (0, .ref (adh 0))]) hx hb dX9_bestRetries_103 hl (k := 5) rfl (by rw [ev17]; rfl) (by decide) rfl (fun ls hl => ?_)
              refine lv_goto (tgt := 14) hx hb dX9_bestRetries_106 (by decide) ?_
              exact ih _ _ _ _ _ _ _ _ _ hD hP hS (lv_sub hl [5, 3, 2, 1, 0] rfl)
  refine lv_iconst (v := (0 : Int32)) hx hb dX9_bestRetries_0 (by decide) ?_
  refine lv_istore_n (lv' := [(1, .int (0 : Int32)), (0, .ref (adh 0))]) hx hb dX9_bestRetries_1 rfl hl (by decide) rfl (fun ls hl => ?_)
  refine lv_iconst (v := (-1 : Int32)) hx hb dX9_bestRetries_2 (by decide) ?_
  refine lv_istore_n (lv' := [(2, .int (-1 : Int32)), (1, .int (0 : Int32)), (0, .ref (adh 0))]) hx hb dX9_bestRetries_3 rfl hl (by decide) rfl (fun ls hl => ?_)
  refine lv_iconst (v := (0 : Int32)) hx hb dX9_bestRetries_4 (by decide) ?_
  refine lv_istore_n (lv' := [(3, .int (0 : Int32)), (2, .int (-1 : Int32)), (1, .int (0 : Int32)), (0, .ref (adh 0))]) hx hb dX9_bestRetries_5 rfl hl (by decide) rfl (fun ls hl => ?_)
  obtain ⟨t1, hzt1, htt1⟩ := hSS.2.1
  refine rgs hx hb hzt1 hS hown (Fx0.T tw_6_27) dX9_bestRetries_6 ?_
  refine lv_bipush (v := (7 : Int32)) hx hb dX9_bestRetries_9 (by decide) ?_
  refine rti hx hb htt1 hS (by decide) (j := 7) (by decide) dX9_bestRetries_11 ?_
  obtain ⟨v2, ev2, hD⟩ := bnd_el hD
  refine lv_nmi ev2 ?_
  refine lv_istore (lv' := [(4, .int v2), (3, .int (0 : Int32)), (2, .int (-1 : Int32)), (1, .int (0 : Int32)), (0, .ref (adh 0))]) hx hb dX9_bestRetries_12 hl (by decide) rfl (fun ls hl => ?_)
  exact c_14 FU _ _ _ _ _ _ _ _ _ hD hP hS (lv_sub hl [4, 3, 2, 1, 0] rfl)

noncomputable def D_X9_dearestSpot_6 (m : MM) : Nat → Int32 → Int32 → Int32 → MM → MM → Option (Int32 × MM × MM)
  | 0, _, _, _, _, _ => none
  | n + 1, x1, x2, x3, h, f => if (gi m 36 0) ≤ x3 then (some (x1, h, f)) else (b1 (D_X0_isOpen x3 m) (fun v1 => if v1 = 0 then (bnd (x3 + (1 : Int32)) (fun v3 => D_X9_dearestSpot_6 m n x1 x2 v3 h f)) else (b1 (D_X3_begin h m f) (fun m4 => b2 (D_X0_close x3 m4) (fun v6 m7 => b2 (D_X3_goOn h m m7) (fun m9 m10 => if (gi m9 3 4) = (-1 : Int32) then (bnd (x3 + (1 : Int32)) (fun v12 => D_X9_dearestSpot_6 m n x1 x2 v12 m9 m10)) else (if x2 = (-1 : Int32) then (bnd ((gi m9 3 4)) (fun v13 => bnd (x3 + (1 : Int32)) (fun v14 => D_X9_dearestSpot_6 m n x3 v13 v14 m9 m10))) else (if x2 ≤ (gi m9 3 4) then (bnd (x3 + (1 : Int32)) (fun v15 => D_X9_dearestSpot_6 m n x1 x2 v15 m9 m10)) else (bnd ((gi m9 3 4)) (fun v16 => bnd (x3 + (1 : Int32)) (fun v17 => D_X9_dearestSpot_6 m n x3 v16 v17 m9 m10)))))))))))
noncomputable def D_X9_dearestSpot (h : MM) (m : MM) (f : MM) : Option (Int32 × MM × MM) := D_X9_dearestSpot_6 m FU (-1 : Int32) (-1 : Int32) (0 : Int32) h f
noncomputable def D_X9_bestSwap_49 (m : MM) (k33 : Int32 → Int32 → Int32 → MM → MM → Option (Int32 × MM × MM)) : Nat → Int32 → Int32 → Int32 → Int32 → MM → MM → Option (Int32 × MM × MM)
  | 0, _, _, _, _, _, _ => none
  | n + 1, x1, x2, x3, x4, h, f => if (gi m 24 6) ≤ x4 then (bnd (x3 + (1 : Int32)) (fun v8 => k33 x1 x2 v8 h f)) else (b1 (D_X3_begin h m f) (fun m9 => if x3 < 0 ∨ 10 ≤ x3.toNatClampNeg then none else (if x4 < 0 ∨ 10 ≤ x4.toNatClampNeg then none else (bnd (si m9 (4 + x3.toNatClampNeg) 1 (gi m (4 + x4.toNatClampNeg) 1)) (fun m15 => if x4 < 0 ∨ 10 ≤ x4.toNatClampNeg then none else (if x3 < 0 ∨ 10 ≤ x3.toNatClampNeg then none else (bnd (si m15 (4 + x4.toNatClampNeg) 1 (gi m (4 + x3.toNatClampNeg) 1)) (fun m20 => b2 (D_X3_goOn h m m20) (fun m21 m22 => if (gi m21 3 4) = (-1 : Int32) then (bnd (x4 + (1 : Int32)) (fun v24 => D_X9_bestSwap_49 m k33 n x1 x2 x3 v24 m21 m22)) else (if x1 ≤ (gi m21 3 4) then (bnd (x4 + (1 : Int32)) (fun v25 => D_X9_bestSwap_49 m k33 n x1 x2 x3 v25 m21 m22)) else (bnd ((((100 : Int32) * x3) + x4)) (fun v26 => bnd ((gi m21 3 4)) (fun v27 => bnd (x4 + (1 : Int32)) (fun v28 => D_X9_bestSwap_49 m k33 n v27 v26 x3 v28 m21 m22))))))))))))))
noncomputable def D_X9_bestSwap_33 (m : MM) : Nat → Int32 → Int32 → Int32 → MM → MM → Option (Int32 × MM × MM)
  | 0, _, _, _, _, _ => none
  | n + 1, x1, x2, x3, h, f => if (gi m 24 6) ≤ x3 then (some (x2, h, f)) else (bnd ((x3 + (1 : Int32))) (fun v7 => D_X9_bestSwap_49 m (D_X9_bestSwap_33 m n) FU x1 x2 x3 v7 h f))
noncomputable def D_X9_bestSwap (h : MM) (m : MM) (f : MM) : Option (Int32 × MM × MM) := b1 (D_X3_begin h m f) (fun m1 => b2 (D_X3_goOn h m m1) (fun m3 m4 => bnd ((gi m3 3 4)) (fun v6 => if v6 = (-1 : Int32) then (some ((-1 : Int32), m3, m4)) else (D_X9_bestSwap_33 m FU v6 (-1 : Int32) (0 : Int32) m3 m4))))
noncomputable def D_X9_changesAhead (h : MM) (m : MM) (f : MM) : Option (Int32 × MM × MM) := b1 (D_X3_begin h m f) (fun m1 => b2 (D_X3_goOn h m m1) (fun m3 m4 => some (((gi m4 49 1) - (gi m 49 1)), m3, m4)))
set_option maxHeartbeats 4000000 in
set_option maxRecDepth 100000 in
theorem c_X9_changesAhead (l : Launch) {D : va_G} {cs : Nat → ClassId} {adh ad adf ma : Nat → Nat} {Wf : MM → MM → MM → va_W} (hLh : ∀ m f : MM, Ln 8 adh (hsh cs adh ma) (fun z => Wf z m f)) (hL : ∀ h f : MM, Ln 51 ad (msh cs ad) (fun z => Wf h z f)) (hLf : ∀ h m : MM, Ln 51 adf (msh cs adf) (fun z => Wf h m z)) (hAd : ∀ a0_ b0_ a1_ b1_ a2_ b2_ : MM, (Wf a0_ a1_ a2_).map (fun q => q.1) = (Wf b0_ b1_ b2_).map (fun q => q.1)) (hm1 : ma 1 = ad 24) (hm2 : ma 2 = adf 24) (h : MM) (m : MM) (f : MM) {rr : Int32} {h' : MM} {f' : MM} (hD : D_X9_changesAhead h m f = some (rr, h', f')) : Ct l yX9_changesAhead cX9_changesAhead 1 (some .int) 6 156 D cs [.ref (adh 0)] (Wf h m f) (Wf h' m f') (some (.int rr)) := by
  refine Ct.ofW (by decide) (Nat.le_of_ble_eq_true rfl) (hAd _ _ _ _ _ _) ?_
  intro p e s m0 below meth c A Q ls args hx hb hr hml hlocks hown hts hK hP hD1 hSS hS hA1 hl hret
  have hT : ∀ w ∈ TBL, w.before args s = true := fun w h => hts w (List.mem_cons_of_mem _ h)
  have Fx0 : Fx p l m0 c cX9_changesAhead 1 s args yX9_changesAhead cX9_changesAhead 1 (some .int) D cs A := ⟨hx, hb, hml, hown, hts, hK, hSS⟩
  have hown : s.vm.findClass RX9 = some m0.cls := hown
  have hl : lv_has ls 1 [(0, .ref (adh 0))] := hl
  unfold D_X9_changesAhead at hD
  refine lv_aload_n hx hb dX9_changesAhead_0 rfl (lv_at hl 0 rfl) ?_
  refine rg (Wf := fun z => Wf z m f) (mm := h) hx hb hT hu9 hown hK hP (hLh m f) 0 5 (Nat.le_of_ble_eq_true rfl) (hs0 _ _) rfl (Nat.le_of_ble_eq_true rfl) (Fx0.T tw_3_6) rfl (v := .ref (adh 3)) rfl dX9_changesAhead_1 ?_
  obtain ⟨m1, z2, hD⟩ := b1_el hD
  refine rcVN (Wf := fun z => Wf z m f) (mm := h) (As := []) (rest := []) Fx0 (c_X3_begin l (Wf := fun z0_ z1_ z2_ => Wf z0_ z1_ z2_) (fun z1_ z2_ => hLh z1_ z2_) (fun z0_ z2_ => hL z0_ z2_) (fun z0_ z1_ => hLf z0_ z1_) (fun a0_ b0_ a1_ b1_ a2_ b2_ => hAd a0_ b0_ a1_ b1_ a2_ b2_) hm1 hm2 h m f z2) hP (hD1 _ (hAd _ _ _ _ _ _)) hS (hA1 _ _ (hAd _ _ _ _ _ _) hS.1) (hLh m f) (Nat.le_of_ble_eq_true rfl) (hs3 _ _) rfl tw_6_180 tw_6_177 tw_6_179 ts_77 tw_1_11 yd_X3_begin ⟨(Nat.le_of_ble_eq_true rfl), (Nat.le_of_ble_eq_true rfl)⟩ rfl hl.1 rfl (Nat.le_of_ble_eq_true rfl) dX9_changesAhead_4 (fun H locs hP hS => ?_)
  refine lv_aload_n hx hb dX9_changesAhead_7 rfl (lv_at hl 0 rfl) ?_
  refine rg (Wf := fun z => Wf z m m1) (mm := h) hx hb hT hu9 hown hK hP (hLh m m1) 0 5 (Nat.le_of_ble_eq_true rfl) (hs0 _ _) rfl (Nat.le_of_ble_eq_true rfl) (Fx0.T tw_3_6) rfl (v := .ref (adh 3)) rfl dX9_changesAhead_8 ?_
  obtain ⟨m3, m4, z5, hD⟩ := b2_el hD
  refine rcVN (Wf := fun z => Wf z m m1) (mm := h) (As := []) (rest := []) Fx0 (c_X3_goOn l (Wf := fun z0_ z1_ z2_ => Wf z0_ z1_ z2_) (fun z1_ z2_ => hLh z1_ z2_) (fun z0_ z2_ => hL z0_ z2_) (fun z0_ z1_ => hLf z0_ z1_) (fun a0_ b0_ a1_ b1_ a2_ b2_ => hAd a0_ b0_ a1_ b1_ a2_ b2_) hm1 hm2 h m m1 z5) hP (hD1 _ (hAd _ _ _ _ _ _)) hS (hA1 _ _ (hAd _ _ _ _ _ _) hS.1) (hLh m m1) (Nat.le_of_ble_eq_true rfl) (hs3 _ _) rfl tw_6_185 tw_6_182 tw_6_184 ts_78 tw_1_11 yd_X3_goOn ⟨(Nat.le_of_ble_eq_true rfl), (Nat.le_of_ble_eq_true rfl)⟩ rfl hl.1 rfl (Nat.le_of_ble_eq_true rfl) dX9_changesAhead_11 (fun H locs hP hS => ?_)
  refine lv_aload_n hx hb dX9_changesAhead_14 rfl (lv_at hl 0 rfl) ?_
  refine rg (Wf := fun z => Wf z m m4) (mm := m3) hx hb hT hu9 hown hK hP (hLh m m4) 0 6 (Nat.le_of_ble_eq_true rfl) (hs0 _ _) rfl (Nat.le_of_ble_eq_true rfl) (Fx0.T tw_3_7) rfl (v := .ref (adf 24)) (congrArg (fun z => some (Value.ref z)) hm2) dX9_changesAhead_15 ?_
  refine rgN (Wf := fun z => Wf m3 m z) (mm := m4) hx hb hT hu6 hown hK hP (hLf m3 m) 24 10 (Nat.le_of_ble_eq_true rfl) (ms24 _ _) rfl (Nat.le_of_ble_eq_true rfl) tw_2_110 rfl (v := .ref (adf 45)) rfl dX9_changesAhead_18 ?_
  refine rgN (Wf := fun z => Wf m3 m z) (mm := m4) hx hb hT hu4 hown hK hP (hLf m3 m) 45 5 (Nat.le_of_ble_eq_true rfl) (ms45 _ _) rfl (Nat.le_of_ble_eq_true rfl) tw_1_160 rfl (v := .ref (adf 49)) rfl dX9_changesAhead_21 ?_
  refine lv_iconst (v := (1 : Int32)) hx hb dX9_changesAhead_24 (by decide) ?_
  refine riald (Wf := fun z => Wf m3 m z) (mm := m4) hx hb hK hP (hLf m3 m) 49 (Nat.le_of_ble_eq_true rfl) (ms49 _ _) (by decide) (j := 1) (by decide) dX9_changesAhead_25 ?_
  refine lv_aload_n hx hb dX9_changesAhead_26 rfl (lv_at hl 0 rfl) ?_
  refine rg (Wf := fun z => Wf z m m4) (mm := m3) hx hb hT hu9 hown hK hP (hLh m m4) 0 3 (Nat.le_of_ble_eq_true rfl) (hs0 _ _) rfl (Nat.le_of_ble_eq_true rfl) (Fx0.T tw_3_4) rfl (v := .ref (ad 24)) (congrArg (fun z => some (Value.ref z)) hm1) dX9_changesAhead_27 ?_
  refine rgN (Wf := fun z => Wf m3 z m4) (mm := m) hx hb hT hu6 hown hK hP (hL m3 m4) 24 10 (Nat.le_of_ble_eq_true rfl) (ms24 _ _) rfl (Nat.le_of_ble_eq_true rfl) tw_2_110 rfl (v := .ref (ad 45)) rfl dX9_changesAhead_30 ?_
  refine rgN (Wf := fun z => Wf m3 z m4) (mm := m) hx hb hT hu4 hown hK hP (hL m3 m4) 45 5 (Nat.le_of_ble_eq_true rfl) (ms45 _ _) rfl (Nat.le_of_ble_eq_true rfl) tw_1_160 rfl (v := .ref (ad 49)) rfl dX9_changesAhead_33 ?_
  refine lv_iconst (v := (1 : Int32)) hx hb dX9_changesAhead_36 (by decide) ?_
  refine riald (Wf := fun z => Wf m3 z m4) (mm := m) hx hb hK hP (hL m3 m4) 49 (Nat.le_of_ble_eq_true rfl) (ms49 _ _) (by decide) (j := 1) (by decide) dX9_changesAhead_37 ?_
  refine lv_isub hx hb dX9_changesAhead_38 ?_
  obtain ⟨rfl, rfl, rfl⟩ := es3 hD
  exact hret _ _ _ hP hS (fun Qc hq => W.iret hx hb hr hq hS.2.2 dX9_changesAhead_39 hlocks)

noncomputable def D_X9_cleansAhead (h : MM) (m : MM) (f : MM) : Option (Int32 × MM × MM) := b1 (D_X3_begin h m f) (fun m1 => b2 (D_X3_goOn h m m1) (fun m3 m4 => some (((gi m4 49 6) - (gi m 49 6)), m3, m4)))
set_option maxHeartbeats 4000000 in
set_option maxRecDepth 100000 in
theorem c_X9_cleansAhead (l : Launch) {D : va_G} {cs : Nat → ClassId} {adh ad adf ma : Nat → Nat} {Wf : MM → MM → MM → va_W} (hLh : ∀ m f : MM, Ln 8 adh (hsh cs adh ma) (fun z => Wf z m f)) (hL : ∀ h f : MM, Ln 51 ad (msh cs ad) (fun z => Wf h z f)) (hLf : ∀ h m : MM, Ln 51 adf (msh cs adf) (fun z => Wf h m z)) (hAd : ∀ a0_ b0_ a1_ b1_ a2_ b2_ : MM, (Wf a0_ a1_ a2_).map (fun q => q.1) = (Wf b0_ b1_ b2_).map (fun q => q.1)) (hm1 : ma 1 = ad 24) (hm2 : ma 2 = adf 24) (h : MM) (m : MM) (f : MM) {rr : Int32} {h' : MM} {f' : MM} (hD : D_X9_cleansAhead h m f = some (rr, h', f')) : Ct l yX9_cleansAhead cX9_cleansAhead 1 (some .int) 6 156 D cs [.ref (adh 0)] (Wf h m f) (Wf h' m f') (some (.int rr)) := by
  refine Ct.ofW (by decide) (Nat.le_of_ble_eq_true rfl) (hAd _ _ _ _ _ _) ?_
  intro p e s m0 below meth c A Q ls args hx hb hr hml hlocks hown hts hK hP hD1 hSS hS hA1 hl hret
  have hT : ∀ w ∈ TBL, w.before args s = true := fun w h => hts w (List.mem_cons_of_mem _ h)
  have Fx0 : Fx p l m0 c cX9_cleansAhead 1 s args yX9_cleansAhead cX9_cleansAhead 1 (some .int) D cs A := ⟨hx, hb, hml, hown, hts, hK, hSS⟩
  have hown : s.vm.findClass RX9 = some m0.cls := hown
  have hl : lv_has ls 1 [(0, .ref (adh 0))] := hl
  unfold D_X9_cleansAhead at hD
  refine lv_aload_n hx hb dX9_cleansAhead_0 rfl (lv_at hl 0 rfl) ?_
  refine rg (Wf := fun z => Wf z m f) (mm := h) hx hb hT hu9 hown hK hP (hLh m f) 0 5 (Nat.le_of_ble_eq_true rfl) (hs0 _ _) rfl (Nat.le_of_ble_eq_true rfl) (Fx0.T tw_3_6) rfl (v := .ref (adh 3)) rfl dX9_cleansAhead_1 ?_
  obtain ⟨m1, z2, hD⟩ := b1_el hD
  refine rcVN (Wf := fun z => Wf z m f) (mm := h) (As := []) (rest := []) Fx0 (c_X3_begin l (Wf := fun z0_ z1_ z2_ => Wf z0_ z1_ z2_) (fun z1_ z2_ => hLh z1_ z2_) (fun z0_ z2_ => hL z0_ z2_) (fun z0_ z1_ => hLf z0_ z1_) (fun a0_ b0_ a1_ b1_ a2_ b2_ => hAd a0_ b0_ a1_ b1_ a2_ b2_) hm1 hm2 h m f z2) hP (hD1 _ (hAd _ _ _ _ _ _)) hS (hA1 _ _ (hAd _ _ _ _ _ _) hS.1) (hLh m f) (Nat.le_of_ble_eq_true rfl) (hs3 _ _) rfl tw_6_180 tw_6_177 tw_6_179 ts_77 tw_1_11 yd_X3_begin ⟨(Nat.le_of_ble_eq_true rfl), (Nat.le_of_ble_eq_true rfl)⟩ rfl hl.1 rfl (Nat.le_of_ble_eq_true rfl) dX9_cleansAhead_4 (fun H locs hP hS => ?_)
  refine lv_aload_n hx hb dX9_cleansAhead_7 rfl (lv_at hl 0 rfl) ?_
  refine rg (Wf := fun z => Wf z m m1) (mm := h) hx hb hT hu9 hown hK hP (hLh m m1) 0 5 (Nat.le_of_ble_eq_true rfl) (hs0 _ _) rfl (Nat.le_of_ble_eq_true rfl) (Fx0.T tw_3_6) rfl (v := .ref (adh 3)) rfl dX9_cleansAhead_8 ?_
  obtain ⟨m3, m4, z5, hD⟩ := b2_el hD
  refine rcVN (Wf := fun z => Wf z m m1) (mm := h) (As := []) (rest := []) Fx0 (c_X3_goOn l (Wf := fun z0_ z1_ z2_ => Wf z0_ z1_ z2_) (fun z1_ z2_ => hLh z1_ z2_) (fun z0_ z2_ => hL z0_ z2_) (fun z0_ z1_ => hLf z0_ z1_) (fun a0_ b0_ a1_ b1_ a2_ b2_ => hAd a0_ b0_ a1_ b1_ a2_ b2_) hm1 hm2 h m m1 z5) hP (hD1 _ (hAd _ _ _ _ _ _)) hS (hA1 _ _ (hAd _ _ _ _ _ _) hS.1) (hLh m m1) (Nat.le_of_ble_eq_true rfl) (hs3 _ _) rfl tw_6_185 tw_6_182 tw_6_184 ts_78 tw_1_11 yd_X3_goOn ⟨(Nat.le_of_ble_eq_true rfl), (Nat.le_of_ble_eq_true rfl)⟩ rfl hl.1 rfl (Nat.le_of_ble_eq_true rfl) dX9_cleansAhead_11 (fun H locs hP hS => ?_)
  refine lv_aload_n hx hb dX9_cleansAhead_14 rfl (lv_at hl 0 rfl) ?_
  refine rg (Wf := fun z => Wf z m m4) (mm := m3) hx hb hT hu9 hown hK hP (hLh m m4) 0 6 (Nat.le_of_ble_eq_true rfl) (hs0 _ _) rfl (Nat.le_of_ble_eq_true rfl) (Fx0.T tw_3_7) rfl (v := .ref (adf 24)) (congrArg (fun z => some (Value.ref z)) hm2) dX9_cleansAhead_15 ?_
  refine rgN (Wf := fun z => Wf m3 m z) (mm := m4) hx hb hT hu6 hown hK hP (hLf m3 m) 24 10 (Nat.le_of_ble_eq_true rfl) (ms24 _ _) rfl (Nat.le_of_ble_eq_true rfl) tw_2_110 rfl (v := .ref (adf 45)) rfl dX9_cleansAhead_18 ?_
  refine rgN (Wf := fun z => Wf m3 m z) (mm := m4) hx hb hT hu4 hown hK hP (hLf m3 m) 45 5 (Nat.le_of_ble_eq_true rfl) (ms45 _ _) rfl (Nat.le_of_ble_eq_true rfl) tw_1_160 rfl (v := .ref (adf 49)) rfl dX9_cleansAhead_21 ?_
  refine lv_bipush (v := (6 : Int32)) hx hb dX9_cleansAhead_24 (by decide) ?_
  refine riald (Wf := fun z => Wf m3 m z) (mm := m4) hx hb hK hP (hLf m3 m) 49 (Nat.le_of_ble_eq_true rfl) (ms49 _ _) (by decide) (j := 6) (by decide) dX9_cleansAhead_26 ?_
  refine lv_aload_n hx hb dX9_cleansAhead_27 rfl (lv_at hl 0 rfl) ?_
  refine rg (Wf := fun z => Wf z m m4) (mm := m3) hx hb hT hu9 hown hK hP (hLh m m4) 0 3 (Nat.le_of_ble_eq_true rfl) (hs0 _ _) rfl (Nat.le_of_ble_eq_true rfl) (Fx0.T tw_3_4) rfl (v := .ref (ad 24)) (congrArg (fun z => some (Value.ref z)) hm1) dX9_cleansAhead_28 ?_
  refine rgN (Wf := fun z => Wf m3 z m4) (mm := m) hx hb hT hu6 hown hK hP (hL m3 m4) 24 10 (Nat.le_of_ble_eq_true rfl) (ms24 _ _) rfl (Nat.le_of_ble_eq_true rfl) tw_2_110 rfl (v := .ref (ad 45)) rfl dX9_cleansAhead_31 ?_
  refine rgN (Wf := fun z => Wf m3 z m4) (mm := m) hx hb hT hu4 hown hK hP (hL m3 m4) 45 5 (Nat.le_of_ble_eq_true rfl) (ms45 _ _) rfl (Nat.le_of_ble_eq_true rfl) tw_1_160 rfl (v := .ref (ad 49)) rfl dX9_cleansAhead_34 ?_
  refine lv_bipush (v := (6 : Int32)) hx hb dX9_cleansAhead_37 (by decide) ?_
  refine riald (Wf := fun z => Wf m3 z m4) (mm := m) hx hb hK hP (hL m3 m4) 49 (Nat.le_of_ble_eq_true rfl) (ms49 _ _) (by decide) (j := 6) (by decide) dX9_cleansAhead_39 ?_
  refine lv_isub hx hb dX9_cleansAhead_40 ?_
  obtain ⟨rfl, rfl, rfl⟩ := es3 hD
  exact hret _ _ _ hP hS (fun Qc hq => W.iret hx hb hr hq hS.2.2 dX9_cleansAhead_41 hlocks)
