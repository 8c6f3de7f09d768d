/-! the forecast -/
noncomputable def D_X3_begin (h : MM) (m : MM) (f : MM) : Option MM := b1 (D_X6_copyFrom f m) (fun m1 => some (m1))
set_option maxHeartbeats 4000000 in
set_option maxRecDepth 100000 in
theorem c_X3_begin (l : Launch) {D : va_G} {cs : Nat → ClassId} {adh ad adf ma : Nat → Nat} {Wf : MM → MM → MM → va_W} (hLh : ∀ m f : MM, Ln 8 adh (hsh cs adh ma) (fun z => Wf z m f)) (hL : ∀ h f : MM, Ln 51 ad (msh cs ad) (fun z => Wf h z f)) (hLf : ∀ h m : MM, Ln 51 adf (msh cs adf) (fun z => Wf h m z)) (hAd : ∀ a0_ b0_ a1_ b1_ a2_ b2_ : MM, (Wf a0_ a1_ a2_).map (fun q => q.1) = (Wf b0_ b1_ b2_).map (fun q => q.1)) (hm1 : ma 1 = ad 24) (hm2 : ma 2 = adf 24) (h : MM) (m : MM) (f : MM) {f' : MM} (hD : D_X3_begin h m f = some (f')) : Ct l yX3_begin cX3_begin 1 none 3 107 D cs [.ref (adh 3)] (Wf h m f) (Wf h m f') (none) := by
  refine Ct.ofW (by decide) (Nat.le_of_ble_eq_true rfl) (hAd _ _ _ _ _ _) ?_
  intro p e s m0 below meth c A Q ls args hx hb hr hml hlocks hown hts hK hP hD1 hSS hS hA1 hl hret
  have hT : ∀ w ∈ TBL, w.before args s = true := fun w h => hts w (List.mem_cons_of_mem _ h)
  have Fx0 : Fx p l m0 c cX3_begin 1 s args yX3_begin cX3_begin 1 none D cs A := ⟨hx, hb, hml, hown, hts, hK, hSS⟩
  have hown : s.vm.findClass RX3 = some m0.cls := hown
  have hl : lv_has ls 1 [(0, .ref (adh 3))] := hl
  unfold D_X3_begin at hD
  refine lv_aload_n hx hb dX3_begin_0 rfl (lv_at hl 0 rfl) ?_
  refine rg (Wf := fun z => Wf z m f) (mm := h) hx hb hT hu3 hown hK hP (hLh m f) 3 1 (Nat.le_of_ble_eq_true rfl) (hs3 _ _) rfl (Nat.le_of_ble_eq_true rfl) (Fx0.T tw_2_190) rfl (v := .ref (adf 24)) (congrArg (fun z => some (Value.ref z)) hm2) dX3_begin_1 ?_
  refine lv_aload_n hx hb dX3_begin_4 rfl (lv_at hl 0 rfl) ?_
  refine rg (Wf := fun z => Wf z m f) (mm := h) hx hb hT hu3 hown hK hP (hLh m f) 3 0 (Nat.le_of_ble_eq_true rfl) (hs3 _ _) rfl (Nat.le_of_ble_eq_true rfl) (Fx0.T tw_2_189) rfl (v := .ref (ad 24)) (congrArg (fun z => some (Value.ref z)) hm1) dX3_begin_5 ?_
  obtain ⟨m1, z2, hD⟩ := b1_el hD
  refine rcVN (Wf := fun z => Wf h m z) (mm := f) (As := [.ref (ad 24)]) (rest := []) Fx0 (c_X6_copyFrom l (Wf := fun z0_ z1_ => Wf h z1_ z0_) (fun z1_ => hLf h z1_) (fun z0_ => hL h z0_) (fun a0_ b0_ a1_ b1_ => hAd h h a1_ b1_ a0_ b0_) f m z2) hP (hD1 _ (hAd _ _ _ _ _ _)) hS (hA1 _ _ (hAd _ _ _ _ _ _) hS.1) (hLf h m) (Nat.le_of_ble_eq_true rfl) (ms24 _ _) rfl tw_4_2 tw_6_181 tw_4_1 ts_35 tw_1_2 yd_X6_copyFrom ⟨(Nat.le_of_ble_eq_true rfl), (Nat.le_of_ble_eq_true rfl)⟩ rfl hl.1 rfl (Nat.le_of_ble_eq_true rfl) dX3_begin_8 (fun H locs hP hS => ?_)
  cases hD
  exact hret _ _ _ hP hS (fun Qc hq => W.vret hx hb hr hq hS.2.2 dX3_begin_11 hlocks)

noncomputable def D_X3_goOn_13 (m : MM) : Nat → Int32 → MM → MM → Option (MM × MM)
  | 0, _, _, _ => none
  | n + 1, x1, h, f => if x1 = 0 then (if x1 = 0 then (bnd (si h 3 4 (gi f 24 13)) (fun m5 => some (m5, f))) else (bnd (si h 3 4 (-1 : Int32)) (fun m6 => some (m6, f)))) else (if (1000 : Int32) ≤ (gi h 3 3) then (if x1 = 0 then (bnd (si h 3 4 (gi f 24 13)) (fun m7 => some (m7, f))) else (bnd (si h 3 4 (-1 : Int32)) (fun m8 => some (m8, f)))) else (b2 (D_X6_perform (gi h 2 1) (gi h 2 2) (gi h 2 3) f) (fun v9 m10 => bnd (si h 3 3 ((gi h 3 3) + (1 : Int32))) (fun m12 => b2 (D_X7_next 2 m12 m10) (fun v13 m14 => D_X3_goOn_13 m n v13 m14 m10)))))
noncomputable def D_X3_goOn (h : MM) (m : MM) (f : MM) : Option (MM × MM) := bnd (si h 3 3 (0 : Int32)) (fun m1 => b2 (D_X7_next 2 m1 f) (fun v2 m3 => D_X3_goOn_13 m FU v2 m3 f))
set_option maxHeartbeats 4000000 in
set_option maxRecDepth 100000 in
theorem c_X3_goOn (l : Launch) {D : va_G} {cs : Nat → ClassId} {adh ad adf ma : Nat → Nat} {Wf : MM → MM → MM → va_W} (hLh : ∀ m f : MM, Ln 8 adh (hsh cs adh ma) (fun z => Wf z m f)) (hL : ∀ h f : MM, Ln 51 ad (msh cs ad) (fun z => Wf h z f)) (hLf : ∀ h m : MM, Ln 51 adf (msh cs adf) (fun z => Wf h m z)) (hAd : ∀ a0_ b0_ a1_ b1_ a2_ b2_ : MM, (Wf a0_ a1_ a2_).map (fun q => q.1) = (Wf b0_ b1_ b2_).map (fun q => q.1)) (hm1 : ma 1 = ad 24) (hm2 : ma 2 = adf 24) (h : MM) (m : MM) (f : MM) {h' : MM} {f' : MM} (hD : D_X3_goOn h m f = some (h', f')) : Ct l yX3_goOn cX3_goOn 2 none 5 135 D cs [.ref (adh 3)] (Wf h m f) (Wf h' m f') (none) := by
  refine Ct.ofW (by decide) (Nat.le_of_ble_eq_true rfl) (hAd _ _ _ _ _ _) ?_
  intro p e s m0 below meth c A Q ls args hx hb hr hml hlocks hown hts hK hP hD1 hSS hS hA1 hl hret
  have hT : ∀ w ∈ TBL, w.before args s = true := fun w h => hts w (List.mem_cons_of_mem _ h)
  have Fx0 : Fx p l m0 c cX3_goOn 2 s args yX3_goOn cX3_goOn 2 none D cs A := ⟨hx, hb, hml, hown, hts, hK, hSS⟩
  have hown : s.vm.findClass RX3 = some m0.cls := hown
  have hl : lv_has ls 2 [(0, .ref (adh 3))] := hl
  unfold D_X3_goOn at hD
  have c_13 : ∀ (n : Nat), ∀ (x1 : Int32) (h : MM) (f : MM) (H : Heap) (locs : List Loc) (ls : Array Slot), D_X3_goOn_13 m n x1 h f = some (h', f') → va_P D vwCl (Wf h m f) H → va_S A s.heap H locs → lv_has ls 2 [(0, .ref (adh 3)), (1, .int x1)] → W p l e ({ frames := 5, cells := 0, slots := 0, locals := 135 } : Room) s m0 args below meth c H locs 0 0 Q (F0 m0 13 ls []) := by
    intro n
    induction n with
    | zero =>
      intro x1 h f H locs ls hD hP hS hl
      exact nn_el hD
    | succ n ih =>
      intro x1 h f H locs ls hD hP hS hl
      rw [D_X3_goOn_13] at hD
      refine lv_iload_n hx hb dX3_goOn_13 rfl (lv_at hl 1 rfl) ?_
      refine lv_if_eq (tgt := 77) hx hb dX3_goOn_14 (by decide) (fun c => ?_) (fun c => ?_)
      · have hD := ifp hD c
        refine lv_aload_n hx hb dX3_goOn_77 rfl (lv_at hl 0 rfl) ?_
        refine lv_iload_n hx hb dX3_goOn_78 rfl (lv_at hl 1 rfl) ?_
        refine lv_if_eq (tgt := 86) hx hb dX3_goOn_79 (by decide) (fun c => ?_) (fun c => ?_)
        · have hD := ifp hD c
          refine lv_aload_n hx hb dX3_goOn_86 rfl (lv_at hl 0 rfl) ?_
          refine rg (Wf := fun z => Wf z m f) (mm := h) hx hb hT hu3 hown hK hP (hLh m f) 3 1 (Nat.le_of_ble_eq_true rfl) (hs3 _ _) rfl (Nat.le_of_ble_eq_true rfl) (Fx0.T tw_2_190) rfl (v := .ref (adf 24)) (congrArg (fun z => some (Value.ref z)) hm2) dX3_goOn_87 ?_
          refine rgN (Wf := fun z => Wf h m z) (mm := f) hx hb hT hu6 hown hK hP (hLf h m) 24 13 (Nat.le_of_ble_eq_true rfl) (ms24 _ _) rfl (Nat.le_of_ble_eq_true rfl) tw_2_116 rfl (v := .int (gi f 24 13)) rfl dX3_goOn_90 ?_
          obtain ⟨m5, em5, hD⟩ := bnd_el hD
          refine rp (Wf := fun z => Wf z m f) (mm := h) hx hb hT hu3 tyX3_ok nmX3 hown hK hP (hD1 _ (hAd _ _ _ _ _ _)) hS (hLh m f) 3 4 (Nat.le_of_ble_eq_true rfl) (hs3 _ _) (hs3 _ _) rfl (Nat.le_of_ble_eq_true rfl) (Fx0.T tw_2_194) rfl rfl rfl rfl (Nat.le_of_ble_eq_true rfl) dX3_goOn_93 em5 (fun H locs hP hS => ?_)
          cases hD
          exact hret _ _ _ hP hS (fun Qc hq => W.vret hx hb hr hq hS.2.2 dX3_goOn_96 hlocks)
        · have hD := ifn hD c
          refine lv_iconst (v := (-1 : Int32)) hx hb dX3_goOn_82 (by decide) ?_
          refine lv_goto (tgt := 93) hx hb dX3_goOn_83 (by decide) ?_
          obtain ⟨m6, em6, hD⟩ := bnd_el hD
          refine rp (Wf := fun z => Wf z m f) (mm := h) hx hb hT hu3 tyX3_ok nmX3 hown hK hP (hD1 _ (hAd _ _ _ _ _ _)) hS (hLh m f) 3 4 (Nat.le_of_ble_eq_true rfl) (hs3 _ _) (hs3 _ _) rfl (Nat.le_of_ble_eq_true rfl) (Fx0.T tw_2_194) rfl rfl rfl rfl (Nat.le_of_ble_eq_true rfl) dX3_goOn_93 em6 (fun H locs hP hS => ?_)
          cases hD
          exact hret _ _ _ hP hS (fun Qc hq => W.vret hx hb hr hq hS.2.2 dX3_goOn_96 hlocks)
      · have hD := ifn hD c
        refine lv_aload_n hx hb dX3_goOn_17 rfl (lv_at hl 0 rfl) ?_
        refine rg (Wf := fun z => Wf z m f) (mm := h) hx hb hT hu3 hown hK hP (hLh m f) 3 3 (Nat.le_of_ble_eq_true rfl) (hs3 _ _) rfl (Nat.le_of_ble_eq_true rfl) (Fx0.T tw_2_192) rfl (v := .int (gi h 3 3)) rfl dX3_goOn_18 ?_
        refine lv_sipush (v := (1000 : Int32)) hx hb dX3_goOn_21 (by decide) ?_
        refine lv_icmp_ge (tgt := 77) hx hb dX3_goOn_24 (by decide) (fun c => ?_) (fun c => ?_)
        · have hD := ifp hD c
          refine lv_aload_n hx hb dX3_goOn_77 rfl (lv_at hl 0 rfl) ?_
          refine lv_iload_n hx hb dX3_goOn_78 rfl (lv_at hl 1 rfl) ?_
          refine lv_if_eq (tgt := 86) hx hb dX3_goOn_79 (by decide) (fun c => ?_) (fun c => ?_)
          · have hD := ifp hD c
            refine lv_aload_n hx hb dX3_goOn_86 rfl (lv_at hl 0 rfl) ?_
            refine rg (Wf := fun z => Wf z m f) (mm := h) hx hb hT hu3 hown hK hP (hLh m f) 3 1 (Nat.le_of_ble_eq_true rfl) (hs3 _ _) rfl (Nat.le_of_ble_eq_true rfl) (Fx0.T tw_2_190) rfl (v := .ref (adf 24)) (congrArg (fun z => some (Value.ref z)) hm2) dX3_goOn_87 ?_
            refine rgN (Wf := fun z => Wf h m z) (mm := f) hx hb hT hu6 hown hK hP (hLf h m) 24 13 (Nat.le_of_ble_eq_true rfl) (ms24 _ _) rfl (Nat.le_of_ble_eq_true rfl) tw_2_116 rfl (v := .int (gi f 24 13)) rfl dX3_goOn_90 ?_
            obtain ⟨m7, em7, hD⟩ := bnd_el hD
            refine rp (Wf := fun z => Wf z m f) (mm := h) hx hb hT hu3 tyX3_ok nmX3 hown hK hP (hD1 _ (hAd _ _ _ _ _ _)) hS (hLh m f) 3 4 (Nat.le_of_ble_eq_true rfl) (hs3 _ _) (hs3 _ _) rfl (Nat.le_of_ble_eq_true rfl) (Fx0.T tw_2_194) rfl rfl rfl rfl (Nat.le_of_ble_eq_true rfl) dX3_goOn_93 em7 (fun H locs hP hS => ?_)
            cases hD
            exact hret _ _ _ hP hS (fun Qc hq => W.vret hx hb hr hq hS.2.2 dX3_goOn_96 hlocks)
          · have hD := ifn hD c
            refine lv_iconst (v := (-1 : Int32)) hx hb dX3_goOn_82 (by decide) ?_
            refine lv_goto (tgt := 93) hx hb dX3_goOn_83 (by decide) ?_
            obtain ⟨m8, em8, hD⟩ := bnd_el hD
            refine rp (Wf := fun z => Wf z m f) (mm := h) hx hb hT hu3 tyX3_ok nmX3 hown hK hP (hD1 _ (hAd _ _ _ _ _ _)) hS (hLh m f) 3 4 (Nat.le_of_ble_eq_true rfl) (hs3 _ _) (hs3 _ _) rfl (Nat.le_of_ble_eq_true rfl) (Fx0.T tw_2_194) rfl rfl rfl rfl (Nat.le_of_ble_eq_true rfl) dX3_goOn_93 em8 (fun H locs hP hS => ?_)
            cases hD
            exact hret _ _ _ hP hS (fun Qc hq => W.vret hx hb hr hq hS.2.2 dX3_goOn_96 hlocks)
        · have hD := ifn hD c
          refine lv_aload_n hx hb dX3_goOn_27 rfl (lv_at hl 0 rfl) ?_
          refine rg (Wf := fun z => Wf z m f) (mm := h) hx hb hT hu3 hown hK hP (hLh m f) 3 1 (Nat.le_of_ble_eq_true rfl) (hs3 _ _) rfl (Nat.le_of_ble_eq_true rfl) (Fx0.T tw_2_190) rfl (v := .ref (adf 24)) (congrArg (fun z => some (Value.ref z)) hm2) dX3_goOn_28 ?_
          refine lv_aload_n hx hb dX3_goOn_31 rfl (lv_at hl 0 rfl) ?_
          refine rg (Wf := fun z => Wf z m f) (mm := h) hx hb hT hu3 hown hK hP (hLh m f) 3 2 (Nat.le_of_ble_eq_true rfl) (hs3 _ _) rfl (Nat.le_of_ble_eq_true rfl) (Fx0.T tw_2_191) rfl (v := .ref (adh 2)) rfl dX3_goOn_32 ?_
          refine rgN (Wf := fun z => Wf z m f) (mm := h) hx hb hT hu7 hown hK hP (hLh m f) 2 1 (hplq (by decide)) ((hpl (by decide) (by decide)) _ _) rfl (Nat.le_of_ble_eq_true rfl) tw_2_164 rfl (v := .int (gi h 2 1)) rfl dX3_goOn_35 ?_
          refine lv_aload_n hx hb dX3_goOn_38 rfl (lv_at hl 0 rfl) ?_
          refine rg (Wf := fun z => Wf z m f) (mm := h) hx hb hT hu3 hown hK hP (hLh m f) 3 2 (Nat.le_of_ble_eq_true rfl) (hs3 _ _) rfl (Nat.le_of_ble_eq_true rfl) (Fx0.T tw_2_191) rfl (v := .ref (adh 2)) rfl dX3_goOn_39 ?_
          refine rgN (Wf := fun z => Wf z m f) (mm := h) hx hb hT hu7 hown hK hP (hLh m f) 2 2 (hplq (by decide)) ((hpl (by decide) (by decide)) _ _) rfl (Nat.le_of_ble_eq_true rfl) tw_2_167 rfl (v := .int (gi h 2 2)) rfl dX3_goOn_42 ?_
          refine lv_aload_n hx hb dX3_goOn_45 rfl (lv_at hl 0 rfl) ?_
          refine rg (Wf := fun z => Wf z m f) (mm := h) hx hb hT hu3 hown hK hP (hLh m f) 3 2 (Nat.le_of_ble_eq_true rfl) (hs3 _ _) rfl (Nat.le_of_ble_eq_true rfl) (Fx0.T tw_2_191) rfl (v := .ref (adh 2)) rfl dX3_goOn_46 ?_
          refine rgN (Wf := fun z => Wf z m f) (mm := h) hx hb hT hu7 hown hK hP (hLh m f) 2 3 (hplq (by decide)) ((hpl (by decide) (by decide)) _ _) rfl (Nat.le_of_ble_eq_true rfl) tw_2_170 rfl (v := .int (gi h 2 3)) rfl dX3_goOn_49 ?_
          obtain ⟨v9, m10, z11, hD⟩ := b2_el hD
          refine rcVN (Wf := fun z => Wf h m z) (mm := f) (As := [.int (gi h 2 1), .int (gi h 2 2), .int (gi h 2 3)]) (rest := []) Fx0 (c_X6_perform l (Wf := fun z0_ => Wf h m z0_) (hLf h m) (fun a0_ b0_ => hAd h h m m a0_ b0_) f (gi h 2 1) (gi h 2 2) (gi h 2 3) z11) hP (hD1 _ (hAd _ _ _ _ _ _)) hS (hA1 _ _ (hAd _ _ _ _ _ _) hS.1) (hLf h m) (Nat.le_of_ble_eq_true rfl) (ms24 _ _) rfl tw_5_116 tw_6_187 tw_5_115 ts_42 tw_1_2 yd_X6_perform ⟨(Nat.le_of_ble_eq_true rfl), (Nat.le_of_ble_eq_true rfl)⟩ rfl hl.1 rfl (Nat.le_of_ble_eq_true rfl) dX3_goOn_52 (fun H locs hP hS => ?_)
          refine lv_pop hx hb dX3_goOn_55 rfl ?_
          refine lv_aload_n hx hb dX3_goOn_56 rfl (lv_at hl 0 rfl) ?_
          refine lv_dup hx hb dX3_goOn_57 rfl ?_
          refine rg (Wf := fun z => Wf z m m10) (mm := h) hx hb hT hu3 hown hK hP (hLh m m10) 3 3 (Nat.le_of_ble_eq_true rfl) (hs3 _ _) rfl (Nat.le_of_ble_eq_true rfl) (Fx0.T tw_2_192) rfl (v := .int (gi h 3 3)) rfl dX3_goOn_58 ?_
          refine lv_iconst (v := (1 : Int32)) hx hb dX3_goOn_61 (by decide) ?_
          refine lv_iadd hx hb dX3_goOn_62 ?_
          obtain ⟨m12, em12, hD⟩ := bnd_el hD
          refine rp (Wf := fun z => Wf z m m10) (mm := h) hx hb hT hu3 tyX3_ok nmX3 hown hK hP (hD1 _ (hAd _ _ _ _ _ _)) hS (hLh m m10) 3 3 (Nat.le_of_ble_eq_true rfl) (hs3 _ _) (hs3 _ _) rfl (Nat.le_of_ble_eq_true rfl) (Fx0.T tw_2_192) rfl rfl rfl rfl (Nat.le_of_ble_eq_true rfl) dX3_goOn_63 em12 (fun H locs hP hS => ?_)
          refine lv_aload_n hx hb dX3_goOn_66 rfl (lv_at hl 0 rfl) ?_
          refine rg (Wf := fun z => Wf z m m10) (mm := m12) hx hb hT hu3 hown hK hP (hLh m m10) 3 2 (Nat.le_of_ble_eq_true rfl) (hs3 _ _) rfl (Nat.le_of_ble_eq_true rfl) (Fx0.T tw_2_191) rfl (v := .ref (adh 2)) rfl dX3_goOn_67 ?_
          obtain ⟨v13, m14, z15, hD⟩ := b2_el hD
          refine rcVN (Wf := fun z => Wf z m m10) (mm := m12) (As := []) (rest := []) Fx0 (c_X7_next l (Wf := fun z0_ z1_ => Wf z0_ m z1_) (fun z1_ => hLh m z1_) (fun z0_ => hLf z0_ m) (fun a0_ b0_ a1_ b1_ => hAd a0_ b0_ m m a1_ b1_) m12 m10 2 (by decide) (by decide) hm2 z15) hP (hD1 _ (hAd _ _ _ _ _ _)) hS (hA1 _ _ (hAd _ _ _ _ _ _) hS.1) (hLh m m10) (hplq (by decide)) ((hpl (by decide) (by decide)) _ _) rfl tw_6_39 tw_6_186 tw_6_38 ts_64 tw_1_10 yd_X7_next ⟨(Nat.le_of_ble_eq_true rfl), (Nat.le_of_ble_eq_true rfl)⟩ rfl hl.1 rfl (Nat.le_of_ble_eq_true rfl) dX3_goOn_70 (fun H locs hP hS => ?_)
          refine lv_istore_n (lv' := [(1, .int v13), (0, .ref (adh 3))]) hx hb dX3_goOn_73 rfl hl (by decide) rfl (fun ls hl => ?_)
          refine lv_goto (tgt := 13) hx hb dX3_goOn_74 (by decide) ?_
          exact ih _ _ _ _ _ _ hD hP hS (lv_sub hl [1, 0] rfl)
  refine lv_aload_n hx hb dX3_goOn_0 rfl (lv_at hl 0 rfl) ?_
  refine lv_iconst (v := (0 : Int32)) hx hb dX3_goOn_1 (by decide) ?_
  obtain ⟨m1, em1, hD⟩ := bnd_el hD
  refine rp (Wf := fun z => Wf z m f) (mm := h) hx hb hT hu3 tyX3_ok nmX3 hown hK hP (hD1 _ (hAd _ _ _ _ _ _)) hS (hLh m f) 3 3 (Nat.le_of_ble_eq_true rfl) (hs3 _ _) (hs3 _ _) rfl (Nat.le_of_ble_eq_true rfl) (Fx0.T tw_2_192) rfl rfl rfl rfl (Nat.le_of_ble_eq_true rfl) dX3_goOn_2 em1 (fun H locs hP hS => ?_)
  refine lv_aload_n hx hb dX3_goOn_5 rfl (lv_at hl 0 rfl) ?_
  refine rg (Wf := fun z => Wf z m f) (mm := m1) hx hb hT hu3 hown hK hP (hLh m f) 3 2 (Nat.le_of_ble_eq_true rfl) (hs3 _ _) rfl (Nat.le_of_ble_eq_true rfl) (Fx0.T tw_2_191) rfl (v := .ref (adh 2)) rfl dX3_goOn_6 ?_
  obtain ⟨v2, m3, z4, hD⟩ := b2_el hD
  refine rcVN (Wf := fun z => Wf z m f) (mm := m1) (As := []) (rest := []) Fx0 (c_X7_next l (Wf := fun z0_ z1_ => Wf z0_ m z1_) (fun z1_ => hLh m z1_) (fun z0_ => hLf z0_ m) (fun a0_ b0_ a1_ b1_ => hAd a0_ b0_ m m a1_ b1_) m1 f 2 (by decide) (by decide) hm2 z4) hP (hD1 _ (hAd _ _ _ _ _ _)) hS (hA1 _ _ (hAd _ _ _ _ _ _) hS.1) (hLh m f) (hplq (by decide)) ((hpl (by decide) (by decide)) _ _) rfl tw_6_39 tw_6_186 tw_6_38 ts_64 tw_1_10 yd_X7_next ⟨(Nat.le_of_ble_eq_true rfl), (Nat.le_of_ble_eq_true rfl)⟩ rfl hl.1 rfl (Nat.le_of_ble_eq_true rfl) dX3_goOn_9 (fun H locs hP hS => ?_)
  refine lv_istore_n (lv' := [(1, .int v2), (0, .ref (adh 3))]) hx hb dX3_goOn_12 rfl hl (by decide) rfl (fun ls hl => ?_)
  exact c_13 FU _ _ _ _ _ _ hD hP hS (lv_sub hl [1, 0] rfl)

noncomputable def D_X3_actionsUntilEmpty_35 (m : MM) (k12 : Nat → Int32 → MM → MM → Option (Int32 × MM × MM)) (q2 : Nat) (x3 : Int32) (h : MM) (f : MM) : Option (Int32 × MM × MM) := b2 (D_X7_next 2 h f) (fun v3 m4 => if v3 = 0 then (some ((-1 : Int32), m4, f)) else (b2 (D_X6_perform (gi m4 2 1) (gi m4 2 2) (gi m4 2 3) f) (fun v6 m7 => bnd (x3 + (1 : Int32)) (fun v9 => k12 q2 v9 m4 m7))))
noncomputable def D_X3_actionsUntilEmpty_12 (m : MM) : Nat → Nat → Int32 → MM → MM → Option (Int32 × MM × MM)
  | 0, _, _, _, _ => none
  | n + 1, q2, x3, h, f => if (1000 : Int32) < x3 then (some ((-1 : Int32), h, f)) else (if (gi f q2 2) = 0 then (if (gi f q2 4) = 0 then (some (x3, h, f)) else (D_X3_actionsUntilEmpty_35 m (D_X3_actionsUntilEmpty_12 m n) q2 x3 h f)) else (D_X3_actionsUntilEmpty_35 m (D_X3_actionsUntilEmpty_12 m n) q2 x3 h f))
noncomputable def D_X3_actionsUntilEmpty (x1 : Int32) (h : MM) (m : MM) (f : MM) : Option (Int32 × MM × MM) := if x1 < 0 ∨ 10 ≤ x1.toNatClampNeg then none else (D_X3_actionsUntilEmpty_12 m FU (4 + x1.toNatClampNeg) (0 : Int32) h f)
set_option maxHeartbeats 4000000 in
set_option maxRecDepth 100000 in
theorem c_X3_actionsUntilEmpty (l : Launch) {D : va_G} {cs : Nat → ClassId} {adh ad adf ma : Nat → Nat} {Wf : MM → MM → MM → va_W} (hLh : ∀ m f : MM, Ln 8 adh (hsh cs adh ma) (fun z => Wf z m f)) (hL : ∀ h f : MM, Ln 51 ad (msh cs ad) (fun z => Wf h z f)) (hLf : ∀ h m : MM, Ln 51 adf (msh cs adf) (fun z => Wf h m z)) (hAd : ∀ a0_ b0_ a1_ b1_ a2_ b2_ : MM, (Wf a0_ a1_ a2_).map (fun q => q.1) = (Wf b0_ b1_ b2_).map (fun q => q.1)) (hm1 : ma 1 = ad 24) (hm2 : ma 2 = adf 24) (h : MM) (m : MM) (f : MM) (x1 : Int32) {rr : Int32} {h' : MM} {f' : MM} (hD : D_X3_actionsUntilEmpty x1 h m f = some (rr, h', f')) : Ct l yX3_actionsUntilEmpty cX3_actionsUntilEmpty 4 (some .int) 5 135 D cs [.ref (adh 3), .int x1] (Wf h m f) (Wf h' m f') (some (.int rr)) := by
  refine Ct.ofW (by decide) (Nat.le_of_ble_eq_true rfl) (hAd _ _ _ _ _ _) ?_
  intro p e s m0 below meth c A Q ls args hx hb hr hml hlocks hown hts hK hP hD1 hSS hS hA1 hl hret
  have hT : ∀ w ∈ TBL, w.before args s = true := fun w h => hts w (List.mem_cons_of_mem _ h)
  have Fx0 : Fx p l m0 c cX3_actionsUntilEmpty 4 s args yX3_actionsUntilEmpty cX3_actionsUntilEmpty 4 (some .int) D cs A := ⟨hx, hb, hml, hown, hts, hK, hSS⟩
  have hown : s.vm.findClass RX3 = some m0.cls := hown
  have hl : lv_has ls 4 [(0, .ref (adh 3)), (1, .int x1)] := hl
  unfold D_X3_actionsUntilEmpty at hD
  have c_35 : ∀ (k12 : Nat → Int32 → MM → MM → Option (Int32 × MM × MM)) (hk12 : ∀ (q2 : Nat) (x3 : Int32) (h : MM) (f : MM) (H : Heap) (locs : List Loc) (ls : Array Slot), k12 q2 x3 h f = some (rr, h', f') → 4 ≤ q2 → q2 < 14 → va_P D vwCl (Wf h m f) H → va_S A s.heap H locs → lv_has ls 4 [(0, .ref (adh 3)), (2, .ref (adf q2)), (3, .int x3)] → W p l e ({ frames := 5, cells := 0, slots := 0, locals := 135 } : Room) s m0 args below meth c H locs 0 0 Q (F0 m0 12 ls [])), ∀ (q2 : Nat) (x3 : Int32) (h : MM) (f : MM) (H : Heap) (locs : List Loc) (ls : Array Slot), D_X3_actionsUntilEmpty_35 m k12 q2 x3 h f = some (rr, h', f') → 4 ≤ q2 → q2 < 14 → va_P D vwCl (Wf h m f) H → va_S A s.heap H locs → lv_has ls 4 [(0, .ref (adh 3)), (2, .ref (adf q2)), (3, .int x3)] → W p l e ({ frames := 5, cells := 0, slots := 0, locals := 135 } : Room) s m0 args below meth c H locs 0 0 Q (F0 m0 35 ls []) := by
    intro k12 hk12 q2 x3 h f H locs ls hD haq2 hbq2 hP hS hl
    unfold D_X3_actionsUntilEmpty_35 at hD
    refine lv_aload_n hx hb dX3_actionsUntilEmpty_35 rfl (lv_at hl 0 rfl) ?_
    refine rg (Wf := fun z => Wf z m f) (mm := h) hx hb hT hu3 hown hK hP (hLh m f) 3 2 (Nat.le_of_ble_eq_true rfl) (hs3 _ _) rfl (Nat.le_of_ble_eq_true rfl) (Fx0.T tw_2_191) rfl (v := .ref (adh 2)) rfl dX3_actionsUntilEmpty_36 ?_
    obtain ⟨v3, m4, z5, hD⟩ := b2_el hD
    refine rcVN (Wf := fun z => Wf z m f) (mm := h) (As := []) (rest := []) Fx0 (c_X7_next l (Wf := fun z0_ z1_ => Wf z0_ m z1_) (fun z1_ => hLh m z1_) (fun z0_ => hLf z0_ m) (fun a0_ b0_ a1_ b1_ => hAd a0_ b0_ m m a1_ b1_) h f 2 (by decide) (by decide) hm2 z5) hP (hD1 _ (hAd _ _ _ _ _ _)) hS (hA1 _ _ (hAd _ _ _ _ _ _) hS.1) (hLh m f) (hplq (by decide)) ((hpl (by decide) (by decide)) _ _) rfl tw_6_39 tw_6_186 tw_6_38 ts_64 tw_1_10 yd_X7_next ⟨(Nat.le_of_ble_eq_true rfl), (Nat.le_of_ble_eq_true rfl)⟩ rfl hl.1 rfl (Nat.le_of_ble_eq_true rfl) dX3_actionsUntilEmpty_39 (fun H locs hP hS => ?_)
    refine lv_if_ne (tgt := 47) hx hb dX3_actionsUntilEmpty_42 (by decide) (fun c => ?_) (fun c => ?_)
    · have hD := ifn hD c
      refine lv_aload_n hx hb dX3_actionsUntilEmpty_47 rfl (lv_at hl 0 rfl) ?_
      refine rg (Wf := fun z => Wf z m f) (mm := m4) hx hb hT hu3 hown hK hP (hLh m f) 3 1 (Nat.le_of_ble_eq_true rfl) (hs3 _ _) rfl (Nat.le_of_ble_eq_true rfl) (Fx0.T tw_2_190) rfl (v := .ref (adf 24)) (congrArg (fun z => some (Value.ref z)) hm2) dX3_actionsUntilEmpty_48 ?_
      refine lv_aload_n hx hb dX3_actionsUntilEmpty_51 rfl (lv_at hl 0 rfl) ?_
      refine rg (Wf := fun z => Wf z m f) (mm := m4) hx hb hT hu3 hown hK hP (hLh m f) 3 2 (Nat.le_of_ble_eq_true rfl) (hs3 _ _) rfl (Nat.le_of_ble_eq_true rfl) (Fx0.T tw_2_191) rfl (v := .ref (adh 2)) rfl dX3_actionsUntilEmpty_52 ?_
      refine rgN (Wf := fun z => Wf z m f) (mm := m4) hx hb hT hu7 hown hK hP (hLh m f) 2 1 (hplq (by decide)) ((hpl (by decide) (by decide)) _ _) rfl (Nat.le_of_ble_eq_true rfl) tw_2_164 rfl (v := .int (gi m4 2 1)) rfl dX3_actionsUntilEmpty_55 ?_
      refine lv_aload_n hx hb dX3_actionsUntilEmpty_58 rfl (lv_at hl 0 rfl) ?_
      refine rg (Wf := fun z => Wf z m f) (mm := m4) hx hb hT hu3 hown hK hP (hLh m f) 3 2 (Nat.le_of_ble_eq_true rfl) (hs3 _ _) rfl (Nat.le_of_ble_eq_true rfl) (Fx0.T tw_2_191) rfl (v := .ref (adh 2)) rfl dX3_actionsUntilEmpty_59 ?_
      refine rgN (Wf := fun z => Wf z m f) (mm := m4) hx hb hT hu7 hown hK hP (hLh m f) 2 2 (hplq (by decide)) ((hpl (by decide) (by decide)) _ _) rfl (Nat.le_of_ble_eq_true rfl) tw_2_167 rfl (v := .int (gi m4 2 2)) rfl dX3_actionsUntilEmpty_62 ?_
      refine lv_aload_n hx hb dX3_actionsUntilEmpty_65 rfl (lv_at hl 0 rfl) ?_
      refine rg (Wf := fun z => Wf z m f) (mm := m4) hx hb hT hu3 hown hK hP (hLh m f) 3 2 (Nat.le_of_ble_eq_true rfl) (hs3 _ _) rfl (Nat.le_of_ble_eq_true rfl) (Fx0.T tw_2_191) rfl (v := .ref (adh 2)) rfl dX3_actionsUntilEmpty_66 ?_
      refine rgN (Wf := fun z => Wf z m f) (mm := m4) hx hb hT hu7 hown hK hP (hLh m f) 2 3 (hplq (by decide)) ((hpl (by decide) (by decide)) _ _) rfl (Nat.le_of_ble_eq_true rfl) tw_2_170 rfl (v := .int (gi m4 2 3)) rfl dX3_actionsUntilEmpty_69 ?_
      obtain ⟨v6, m7, z8, hD⟩ := b2_el hD
      refine rcVN (Wf := fun z => Wf m4 m z) (mm := f) (As := [.int (gi m4 2 1), .int (gi m4 2 2), .int (gi m4 2 3)]) (rest := []) Fx0 (c_X6_perform l (Wf := fun z0_ => Wf m4 m z0_) (hLf m4 m) (fun a0_ b0_ => hAd m4 m4 m m a0_ b0_) f (gi m4 2 1) (gi m4 2 2) (gi m4 2 3) z8) hP (hD1 _ (hAd _ _ _ _ _ _)) hS (hA1 _ _ (hAd _ _ _ _ _ _) hS.1) (hLf m4 m) (Nat.le_of_ble_eq_true rfl) (ms24 _ _) rfl tw_5_116 tw_6_187 tw_5_115 ts_42 tw_1_2 yd_X6_perform ⟨(Nat.le_of_ble_eq_true rfl), (Nat.le_of_ble_eq_true rfl)⟩ rfl hl.1 rfl (Nat.le_of_ble_eq_true rfl) dX3_actionsUntilEmpty_72 (fun H locs hP hS => ?_)
      refine lv_pop hx hb dX3_actionsUntilEmpty_75 rfl ?_
      obtain ⟨v9, ev9, hD⟩ := bnd_el hD
      refine lv_iinc (v := v9) (lv' := [(3, .int v9), (0, .ref (adh 3)), (2, .ref (adf q2))]) hx hb dX3_actionsUntilEmpty_76 hl (k := 2) rfl (by rw [ev9]; rfl) (by decide) rfl (fun ls hl => ?_)
      refine lv_goto (tgt := 12) hx hb dX3_actionsUntilEmpty_79 (by decide) ?_
      exact hk12 _ _ _ _ _ _ _ hD haq2 hbq2 hP hS (lv_sub hl [1, 2, 0] rfl)
    · have hD := ifp hD c
      refine lv_iconst (v := (-1 : Int32)) hx hb dX3_actionsUntilEmpty_45 (by decide) ?_
      cases hD
      exact hret _ _ _ hP hS (fun Qc hq => W.iret hx hb hr hq hS.2.2 dX3_actionsUntilEmpty_46 hlocks)
  have c_12 : ∀ (n : Nat), ∀ (q2 : Nat) (x3 : Int32) (h : MM) (f : MM) (H : Heap) (locs : List Loc) (ls : Array Slot), D_X3_actionsUntilEmpty_12 m n q2 x3 h f = some (rr, h', f') → 4 ≤ q2 → q2 < 14 → va_P D vwCl (Wf h m f) H → va_S A s.heap H locs → lv_has ls 4 [(0, .ref (adh 3)), (2, .ref (adf q2)), (3, .int x3)] → W p l e ({ frames := 5, cells := 0, slots := 0, locals := 135 } : Room) s m0 args below meth c H locs 0 0 Q (F0 m0 12 ls []) := by
    intro n
    induction n with
    | zero =>
      intro q2 x3 h f H locs ls hD haq2 hbq2 hP hS hl
      exact nn_el hD
    | succ n ih =>
      intro q2 x3 h f H locs ls hD haq2 hbq2 hP hS hl
      rw [D_X3_actionsUntilEmpty_12] at hD
      refine lv_iload_n hx hb dX3_actionsUntilEmpty_12 rfl (lv_at hl 2 rfl) ?_
      refine lv_sipush (v := (1000 : Int32)) hx hb dX3_actionsUntilEmpty_13 (by decide) ?_
      refine lv_icmp_gt (tgt := 82) hx hb dX3_actionsUntilEmpty_16 (by decide) (fun c => ?_) (fun c => ?_)
      · have hD := ifp hD c
        refine lv_iconst (v := (-1 : Int32)) hx hb dX3_actionsUntilEmpty_82 (by decide) ?_
        cases hD
        exact hret _ _ _ hP hS (fun Qc hq => W.iret hx hb hr hq hS.2.2 dX3_actionsUntilEmpty_83 hlocks)
      · have hD := ifn hD c
        refine lv_aload_n hx hb dX3_actionsUntilEmpty_19 rfl (lv_at hl 1 rfl) ?_
        refine rgN (Wf := fun z => Wf h m z) (mm := f) hx hb hT hu2 hown hK hP (hLf h m) q2 2 (Nat.lt_of_lt_of_le hbq2 (Nat.le_of_ble_eq_true rfl)) ((mfe haq2 hbq2) _ _) rfl (Nat.le_of_ble_eq_true rfl) tw_2_4 rfl (v := .int (gi f q2 2)) rfl dX3_actionsUntilEmpty_20 ?_
        refine lv_if_ne (tgt := 35) hx hb dX3_actionsUntilEmpty_23 (by decide) (fun c => ?_) (fun c => ?_)
        · have hD := ifn hD c
          exact c_35 _ ih _ _ _ _ _ _ _ hD haq2 hbq2 hP hS (lv_sub hl [0, 1, 2] rfl)
        · have hD := ifp hD c
          refine lv_aload_n hx hb dX3_actionsUntilEmpty_26 rfl (lv_at hl 1 rfl) ?_
          refine rgN (Wf := fun z => Wf h m z) (mm := f) hx hb hT hu2 hown hK hP (hLf h m) q2 4 (Nat.lt_of_lt_of_le hbq2 (Nat.le_of_ble_eq_true rfl)) ((mfe haq2 hbq2) _ _) rfl (Nat.le_of_ble_eq_true rfl) tw_2_11 rfl (v := .int (gi f q2 4)) rfl dX3_actionsUntilEmpty_27 ?_
          refine lv_if_ne (tgt := 35) hx hb dX3_actionsUntilEmpty_30 (by decide) (fun c => ?_) (fun c => ?_)
          · have hD := ifn hD c
            exact c_35 _ ih _ _ _ _ _ _ _ hD haq2 hbq2 hP hS (lv_sub hl [0, 1, 2] rfl)
          · have hD := ifp hD c
            refine lv_iload_n hx hb dX3_actionsUntilEmpty_33 rfl (lv_at hl 2 rfl) ?_
            cases hD
            exact hret _ _ _ hP hS (fun Qc hq => W.iret hx hb hr hq hS.2.2 dX3_actionsUntilEmpty_34 hlocks)
  refine lv_aload_n hx hb dX3_actionsUntilEmpty_0 rfl (lv_at hl 0 rfl) ?_
  refine rg (Wf := fun z => Wf z m f) (mm := h) hx hb hT hu3 hown hK hP (hLh m f) 3 1 (Nat.le_of_ble_eq_true rfl) (hs3 _ _) rfl (Nat.le_of_ble_eq_true rfl) (Fx0.T tw_2_190) rfl (v := .ref (adf 24)) (congrArg (fun z => some (Value.ref z)) hm2) dX3_actionsUntilEmpty_1 ?_
  refine rgN (Wf := fun z => Wf h m z) (mm := f) hx hb hT hu6 hown hK hP (hLf h m) 24 7 (Nat.le_of_ble_eq_true rfl) (ms24 _ _) rfl (Nat.le_of_ble_eq_true rfl) tw_2_100 rfl (v := .ref (adf 35)) rfl dX3_actionsUntilEmpty_4 ?_
  refine lv_iload_n hx hb dX3_actionsUntilEmpty_7 rfl (lv_at hl 1 rfl) ?_
  obtain ⟨h1, hD⟩ := gd_el hD
  have hq2a : 4 ≤ 4 + x1.toNatClampNeg := Nat.le_add_right _ _
  have hq2b : 4 + x1.toNatClampNeg < 14 := Nat.add_lt_add_left (Nat.lt_of_not_le (fun z => h1 (Or.inr z))) 4
  refine raald (Wf := fun z => Wf h m z) (mm := f) hx hb hK hP (hLf h m) 35 5 (Nat.le_of_ble_eq_true rfl) (ms35 _ _) rfl h1 rfl dX3_actionsUntilEmpty_8 ?_
  refine lv_astore_n (lv' := [(2, .ref (adf (4 + x1.toNatClampNeg))), (0, .ref (adh 3)), (1, .int x1)]) hx hb dX3_actionsUntilEmpty_9 rfl hl (by decide) rfl (fun ls hl => ?_)
  refine lv_iconst (v := (0 : Int32)) hx hb dX3_actionsUntilEmpty_10 (by decide) ?_
  refine lv_istore_n (lv' := [(3, .int (0 : Int32)), (2, .ref (adf (4 + x1.toNatClampNeg))), (0, .ref (adh 3)), (1, .int x1)]) hx hb dX3_actionsUntilEmpty_11 rfl hl (by decide) rfl (fun ls hl => ?_)
  exact c_12 FU _ _ _ _ _ _ _ hD hq2a hq2b hP hS (lv_sub hl [2, 1, 0] rfl)
