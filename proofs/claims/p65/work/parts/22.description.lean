/-! the description -/
noncomputable def D_X1_fail (x1 : Int32) (x2 : Int32) (h : MM) (m : MM) : Option MM := if (gi h 4 6) = 0 then (bnd (si h 4 6 x1) (fun m1 => bnd (si m1 4 7 x2) (fun m2 => some (m2)))) else (some (h))
set_option maxHeartbeats 4000000 in
set_option maxRecDepth 100000 in
theorem c_X1_fail (l : Launch) {D : va_G} {cs : Nat → ClassId} {adh ad ma : Nat → Nat} {Wf : MM → MM → va_W} (hLh : ∀ m : MM, Ln 8 adh (hsh cs adh ma) (fun z => Wf z m)) (hL : ∀ h : MM, Ln 51 ad (msh cs ad) (fun z => Wf h z)) (hAd : ∀ a0_ b0_ a1_ b1_ : MM, (Wf a0_ a1_).map (fun q => q.1) = (Wf b0_ b1_).map (fun q => q.1)) (hm2 : ma 2 = ad 24) (h : MM) (m : MM) (x1 : Int32) (x2 : Int32) {h' : MM} (hD : D_X1_fail x1 x2 h m = some (h')) : Ct l yX1_fail cX1_fail 3 none 0 0 D cs [.ref (adh 4), .int x1, .int x2] (Wf h m) (Wf h' m) (none) := by
  refine Ct.ofW (by decide) (Nat.le_of_ble_eq_true rfl) (hAd _ _ _ _) ?_
  intro p e s m0 below meth c A Q ls args hx hb hr hml hlocks hown hts hK hP hD1 hSS hS hA1 hl hret
  have hT : ∀ w ∈ TBL, w.before args s = true := fun w h => hts w (List.mem_cons_of_mem _ h)
  have Fx0 : Fx p l m0 c cX1_fail 3 s args yX1_fail cX1_fail 3 none D cs A := ⟨hx, hb, hml, hown, hts, hK, hSS⟩
  have hown : s.vm.findClass RX1 = some m0.cls := hown
  have hl : lv_has ls 3 [(0, .ref (adh 4)), (1, .int x1), (2, .int x2)] := hl
  unfold D_X1_fail at hD
  refine lv_aload_n hx hb dX1_fail_0 rfl (lv_at hl 0 rfl) ?_
  refine rg (Wf := fun z => Wf z m) (mm := h) hx hb hT hu1 hown hK hP (hLh m) 4 6 (Nat.le_of_ble_eq_true rfl) (hs4 _ _) rfl (Nat.le_of_ble_eq_true rfl) (Fx0.T tw_2_219) rfl (v := .int (gi h 4 6)) rfl dX1_fail_1 ?_
  refine lv_if_ne (tgt := 17) hx hb dX1_fail_4 (by decide) (fun c => ?_) (fun c => ?_)
  · have hD := ifn hD c
    cases hD
    exact hret _ _ _ hP hS (fun Qc hq => W.vret hx hb hr hq hS.2.2 dX1_fail_17 hlocks)
  · have hD := ifp hD c
    refine lv_aload_n hx hb dX1_fail_7 rfl (lv_at hl 0 rfl) ?_
    refine lv_iload_n hx hb dX1_fail_8 rfl (lv_at hl 1 rfl) ?_
    obtain ⟨m1, em1, hD⟩ := bnd_el hD
    refine rp (Wf := fun z => Wf z m) (mm := h) hx hb hT hu1 tyX1_ok nmX1 hown hK hP (hD1 _ (hAd _ _ _ _)) hS (hLh m) 4 6 (Nat.le_of_ble_eq_true rfl) (hs4 _ _) (hs4 _ _) rfl (Nat.le_of_ble_eq_true rfl) (Fx0.T tw_2_219) rfl rfl rfl rfl (Nat.le_of_ble_eq_true rfl) dX1_fail_9 em1 (fun H locs hP hS => ?_)
    refine lv_aload_n hx hb dX1_fail_12 rfl (lv_at hl 0 rfl) ?_
    refine lv_iload_n hx hb dX1_fail_13 rfl (lv_at hl 2 rfl) ?_
    obtain ⟨m2, em2, hD⟩ := bnd_el hD
    refine rp (Wf := fun z => Wf z m) (mm := m1) hx hb hT hu1 tyX1_ok nmX1 hown hK hP (hD1 _ (hAd _ _ _ _)) hS (hLh m) 4 7 (Nat.le_of_ble_eq_true rfl) (hs4 _ _) (hs4 _ _) rfl (Nat.le_of_ble_eq_true rfl) (Fx0.T tw_2_221) rfl rfl rfl rfl (Nat.le_of_ble_eq_true rfl) dX1_fail_14 em2 (fun H locs hP hS => ?_)
    cases hD
    exact hret _ _ _ hP hS (fun Qc hq => W.vret hx hb hr hq hS.2.2 dX1_fail_17 hlocks)

noncomputable def D_X1_isAtEnd_0 (m : MM) : Nat → MM → Option (Int32 × MM)
  | 0, _ => none
  | n + 1, h => if (gi h 4 2) ≤ (gi h 4 3) then (if (gi h 4 3) < (gi h 4 2) then (some ((0 : Int32), h)) else (some ((1 : Int32), h))) else (if (gi h 4 3) < 0 ∨ 900 ≤ (gi h 4 3).toNatClampNeg then none else (if (gi h 5 ((gi h 4 3).toNatClampNeg)) = (32 : Int32) then (bnd (si h 4 3 ((gi h 4 3) + (1 : Int32))) (fun m2 => D_X1_isAtEnd_0 m n m2)) else (if (gi h 4 3) < (gi h 4 2) then (some ((0 : Int32), h)) else (some ((1 : Int32), h)))))
noncomputable def D_X1_isAtEnd (h : MM) (m : MM) : Option (Int32 × MM) := D_X1_isAtEnd_0 m FU h
set_option maxHeartbeats 4000000 in
set_option maxRecDepth 100000 in
theorem c_X1_isAtEnd (l : Launch) {D : va_G} {cs : Nat → ClassId} {adh ad ma : Nat → Nat} {Wf : MM → MM → va_W} (hLh : ∀ m : MM, Ln 8 adh (hsh cs adh ma) (fun z => Wf z m)) (hL : ∀ h : MM, Ln 51 ad (msh cs ad) (fun z => Wf h z)) (hAd : ∀ a0_ b0_ a1_ b1_ : MM, (Wf a0_ a1_).map (fun q => q.1) = (Wf b0_ b1_).map (fun q => q.1)) (hm2 : ma 2 = ad 24) (h : MM) (m : MM) {rr : Int32} {h' : MM} (hD : D_X1_isAtEnd h m = some (rr, h')) : Ct l yX1_isAtEnd cX1_isAtEnd 1 (some .boolean) 0 0 D cs [.ref (adh 4)] (Wf h m) (Wf h' m) (some (.int rr)) := by
  refine Ct.ofW (by decide) (Nat.le_of_ble_eq_true rfl) (hAd _ _ _ _) ?_
  intro p e s m0 below meth c A Q ls args hx hb hr hml hlocks hown hts hK hP hD1 hSS hS hA1 hl hret
  have hT : ∀ w ∈ TBL, w.before args s = true := fun w h => hts w (List.mem_cons_of_mem _ h)
  have Fx0 : Fx p l m0 c cX1_isAtEnd 1 s args yX1_isAtEnd cX1_isAtEnd 1 (some .boolean) D cs A := ⟨hx, hb, hml, hown, hts, hK, hSS⟩
  have hown : s.vm.findClass RX1 = some m0.cls := hown
  have hl : lv_has ls 1 [(0, .ref (adh 4))] := hl
  unfold D_X1_isAtEnd at hD
  have c_0 : ∀ (n : Nat), ∀ (h : MM) (H : Heap) (locs : List Loc) (ls : Array Slot), D_X1_isAtEnd_0 m n h = some (rr, h') → va_P D vwCl (Wf h m) H → va_S A s.heap H locs → lv_has ls 1 [(0, .ref (adh 4))] → W p l e ({ frames := 0, cells := 0, slots := 0, locals := 0 } : Room) s m0 args below meth c H locs 0 0 Q (F0 m0 0 ls []) := by
    intro n
    induction n with
    | zero =>
      intro h H locs ls hD hP hS hl
      exact nn_el hD
    | succ n ih =>
      intro h H locs ls hD hP hS hl
      rw [D_X1_isAtEnd_0] at hD
      refine lv_aload_n hx hb dX1_isAtEnd_0 rfl (lv_at hl 0 rfl) ?_
      refine rg (Wf := fun z => Wf z m) (mm := h) hx hb hT hu1 hown hK hP (hLh m) 4 3 (Nat.le_of_ble_eq_true rfl) (hs4 _ _) rfl (Nat.le_of_ble_eq_true rfl) (Fx0.T tw_2_216) rfl (v := .int (gi h 4 3)) rfl dX1_isAtEnd_1 ?_
      refine lv_aload_n hx hb dX1_isAtEnd_4 rfl (lv_at hl 0 rfl) ?_
      refine rg (Wf := fun z => Wf z m) (mm := h) hx hb hT hu1 hown hK hP (hLh m) 4 2 (Nat.le_of_ble_eq_true rfl) (hs4 _ _) rfl (Nat.le_of_ble_eq_true rfl) (Fx0.T tw_2_215) rfl (v := .int (gi h 4 2)) rfl dX1_isAtEnd_5 ?_
      refine lv_icmp_ge (tgt := 38) hx hb dX1_isAtEnd_8 (by decide) (fun c => ?_) (fun c => ?_)
      · have hD := ifp hD c
        refine lv_aload_n hx hb dX1_isAtEnd_38 rfl (lv_at hl 0 rfl) ?_
        refine rg (Wf := fun z => Wf z m) (mm := h) hx hb hT hu1 hown hK hP (hLh m) 4 3 (Nat.le_of_ble_eq_true rfl) (hs4 _ _) rfl (Nat.le_of_ble_eq_true rfl) (Fx0.T tw_2_216) rfl (v := .int (gi h 4 3)) rfl dX1_isAtEnd_39 ?_
        refine lv_aload_n hx hb dX1_isAtEnd_42 rfl (lv_at hl 0 rfl) ?_
        refine rg (Wf := fun z => Wf z m) (mm := h) hx hb hT hu1 hown hK hP (hLh m) 4 2 (Nat.le_of_ble_eq_true rfl) (hs4 _ _) rfl (Nat.le_of_ble_eq_true rfl) (Fx0.T tw_2_215) rfl (v := .int (gi h 4 2)) rfl dX1_isAtEnd_43 ?_
        refine lv_icmp_lt (tgt := 53) hx hb dX1_isAtEnd_46 (by decide) (fun c => ?_) (fun c => ?_)
        · have hD := ifp hD c
          refine lv_iconst (v := (0 : Int32)) hx hb dX1_isAtEnd_53 (by decide) ?_
          cases hD
          exact hret _ _ _ hP hS (fun Qc hq => W.zret hx hb hr rfl hq hS.2.2 dX1_isAtEnd_54 hlocks)
        · have hD := ifn hD c
          refine lv_iconst (v := (1 : Int32)) hx hb dX1_isAtEnd_49 (by decide) ?_
          refine lv_goto (tgt := 54) hx hb dX1_isAtEnd_50 (by decide) ?_
          cases hD
          exact hret _ _ _ hP hS (fun Qc hq => W.zret hx hb hr rfl hq hS.2.2 dX1_isAtEnd_54 hlocks)
      · have hD := ifn hD c
        refine lv_aload_n hx hb dX1_isAtEnd_11 rfl (lv_at hl 0 rfl) ?_
        refine rg (Wf := fun z => Wf z m) (mm := h) hx hb hT hu1 hown hK hP (hLh m) 4 0 (Nat.le_of_ble_eq_true rfl) (hs4 _ _) rfl (Nat.le_of_ble_eq_true rfl) (Fx0.T tw_2_213) rfl (v := .ref (adh 5)) rfl dX1_isAtEnd_12 ?_
        refine lv_aload_n hx hb dX1_isAtEnd_15 rfl (lv_at hl 0 rfl) ?_
        refine rg (Wf := fun z => Wf z m) (mm := h) hx hb hT hu1 hown hK hP (hLh m) 4 3 (Nat.le_of_ble_eq_true rfl) (hs4 _ _) rfl (Nat.le_of_ble_eq_true rfl) (Fx0.T tw_2_216) rfl (v := .int (gi h 4 3)) rfl dX1_isAtEnd_16 ?_
        obtain ⟨h1, hD⟩ := gd_el hD
        refine rbald (Wf := fun z => Wf z m) (mm := h) hx hb hK hP (hLh m) 5 (Nat.le_of_ble_eq_true rfl) (hs5 _ _) h1 rfl dX1_isAtEnd_19 ?_
        refine lv_bipush (v := (32 : Int32)) hx hb dX1_isAtEnd_20 (by decide) ?_
        refine lv_icmp_ne (tgt := 38) hx hb dX1_isAtEnd_22 (by decide) (fun c => ?_) (fun c => ?_)
        · have hD := ifn hD c
          refine lv_aload_n hx hb dX1_isAtEnd_38 rfl (lv_at hl 0 rfl) ?_
          refine rg (Wf := fun z => Wf z m) (mm := h) hx hb hT hu1 hown hK hP (hLh m) 4 3 (Nat.le_of_ble_eq_true rfl) (hs4 _ _) rfl (Nat.le_of_ble_eq_true rfl) (Fx0.T tw_2_216) rfl (v := .int (gi h 4 3)) rfl dX1_isAtEnd_39 ?_
          refine lv_aload_n hx hb dX1_isAtEnd_42 rfl (lv_at hl 0 rfl) ?_
          refine rg (Wf := fun z => Wf z m) (mm := h) hx hb hT hu1 hown hK hP (hLh m) 4 2 (Nat.le_of_ble_eq_true rfl) (hs4 _ _) rfl (Nat.le_of_ble_eq_true rfl) (Fx0.T tw_2_215) rfl (v := .int (gi h 4 2)) rfl dX1_isAtEnd_43 ?_
          refine lv_icmp_lt (tgt := 53) hx hb dX1_isAtEnd_46 (by decide) (fun c => ?_) (fun c => ?_)
          · have hD := ifp hD c
            refine lv_iconst (v := (0 : Int32)) hx hb dX1_isAtEnd_53 (by decide) ?_
            cases hD
            exact hret _ _ _ hP hS (fun Qc hq => W.zret hx hb hr rfl hq hS.2.2 dX1_isAtEnd_54 hlocks)
          · have hD := ifn hD c
            refine lv_iconst (v := (1 : Int32)) hx hb dX1_isAtEnd_49 (by decide) ?_
            refine lv_goto (tgt := 54) hx hb dX1_isAtEnd_50 (by decide) ?_
            cases hD
            exact hret _ _ _ hP hS (fun Qc hq => W.zret hx hb hr rfl hq hS.2.2 dX1_isAtEnd_54 hlocks)
        · have hD := ifp hD c
          refine lv_aload_n hx hb dX1_isAtEnd_25 rfl (lv_at hl 0 rfl) ?_
          refine lv_dup hx hb dX1_isAtEnd_26 rfl ?_
          refine rg (Wf := fun z => Wf z m) (mm := h) hx hb hT hu1 hown hK hP (hLh m) 4 3 (Nat.le_of_ble_eq_true rfl) (hs4 _ _) rfl (Nat.le_of_ble_eq_true rfl) (Fx0.T tw_2_216) rfl (v := .int (gi h 4 3)) rfl dX1_isAtEnd_27 ?_
          refine lv_iconst (v := (1 : Int32)) hx hb dX1_isAtEnd_30 (by decide) ?_
          refine lv_iadd hx hb dX1_isAtEnd_31 ?_
          obtain ⟨m2, em2, hD⟩ := bnd_el hD
          refine rp (Wf := fun z => Wf z m) (mm := h) hx hb hT hu1 tyX1_ok nmX1 hown hK hP (hD1 _ (hAd _ _ _ _)) hS (hLh m) 4 3 (Nat.le_of_ble_eq_true rfl) (hs4 _ _) (hs4 _ _) rfl (Nat.le_of_ble_eq_true rfl) (Fx0.T tw_2_216) rfl rfl rfl rfl (Nat.le_of_ble_eq_true rfl) dX1_isAtEnd_32 em2 (fun H locs hP hS => ?_)
          refine lv_goto (tgt := 0) hx hb dX1_isAtEnd_35 (by decide) ?_
          exact ih _ _ _ _ hD hP hS (lv_sub hl [0] rfl)
  exact c_0 FU _ _ _ _ hD hP hS (lv_sub hl [0] rfl)

noncomputable def D_X1_isAtDigit (h : MM) (m : MM) : Option (Int32 × MM) := b2 (D_X1_isAtEnd h m) (fun v1 m2 => if v1 = 0 then (if (gi m2 4 3) < 0 ∨ 900 ≤ (gi m2 4 3).toNatClampNeg then none else (if (gi m2 5 ((gi m2 4 3).toNatClampNeg)) < (48 : Int32) then (some ((0 : Int32), m2)) else (if (gi m2 4 3) < 0 ∨ 900 ≤ (gi m2 4 3).toNatClampNeg then none else (if (57 : Int32) < (gi m2 5 ((gi m2 4 3).toNatClampNeg)) then (some ((0 : Int32), m2)) else (some ((1 : Int32), m2)))))) else (some ((0 : Int32), m2)))
set_option maxHeartbeats 4000000 in
set_option maxRecDepth 100000 in
theorem c_X1_isAtDigit (l : Launch) {D : va_G} {cs : Nat → ClassId} {adh ad ma : Nat → Nat} {Wf : MM → MM → va_W} (hLh : ∀ m : MM, Ln 8 adh (hsh cs adh ma) (fun z => Wf z m)) (hL : ∀ h : MM, Ln 51 ad (msh cs ad) (fun z => Wf h z)) (hAd : ∀ a0_ b0_ a1_ b1_ : MM, (Wf a0_ a1_).map (fun q => q.1) = (Wf b0_ b1_).map (fun q => q.1)) (hm2 : ma 2 = ad 24) (h : MM) (m : MM) {rr : Int32} {h' : MM} (hD : D_X1_isAtDigit h m = some (rr, h')) : Ct l yX1_isAtDigit cX1_isAtDigit 1 (some .boolean) 1 20 D cs [.ref (adh 4)] (Wf h m) (Wf h' m) (some (.int rr)) := by
  refine Ct.ofW (by decide) (Nat.le_of_ble_eq_true rfl) (hAd _ _ _ _) ?_
  intro p e s m0 below meth c A Q ls args hx hb hr hml hlocks hown hts hK hP hD1 hSS hS hA1 hl hret
  have hT : ∀ w ∈ TBL, w.before args s = true := fun w h => hts w (List.mem_cons_of_mem _ h)
  have Fx0 : Fx p l m0 c cX1_isAtDigit 1 s args yX1_isAtDigit cX1_isAtDigit 1 (some .boolean) D cs A := ⟨hx, hb, hml, hown, hts, hK, hSS⟩
  have hown : s.vm.findClass RX1 = some m0.cls := hown
  have hl : lv_has ls 1 [(0, .ref (adh 4))] := hl
  unfold D_X1_isAtDigit at hD
  refine lv_aload_n hx hb dX1_isAtDigit_0 rfl (lv_at hl 0 rfl) ?_
  obtain ⟨v1, m2, z3, hD⟩ := b2_el hD
  refine rcV (Wf := fun z => Wf z m) (mm := h) (As := []) (rest := []) Fx0 (c_X1_isAtEnd l (Wf := fun z0_ z1_ => Wf z0_ z1_) (fun z1_ => hLh z1_) (fun z0_ => hL z0_) (fun a0_ b0_ a1_ b1_ => hAd a0_ b0_ a1_ b1_) hm2 h m z3) hP (hD1 _ (hAd _ _ _ _)) hS (hA1 _ _ (hAd _ _ _ _) hS.1) (hLh m) (Nat.le_of_ble_eq_true rfl) (hs4 _ _) rfl tw_3_135 tw_3_132 tw_3_134 ts_13 tw_1_12 yd_X1_isAtEnd ⟨(Nat.le_of_ble_eq_true rfl), (Nat.le_of_ble_eq_true rfl)⟩ rfl hl.1 rfl (Nat.le_of_ble_eq_true rfl) dX1_isAtDigit_1 (fun H locs hP hS => ?_)
  refine lv_if_ne (tgt := 39) hx hb dX1_isAtDigit_4 (by decide) (fun c => ?_) (fun c => ?_)
  · have hD := ifn hD c
    refine lv_iconst (v := (0 : Int32)) hx hb dX1_isAtDigit_39 (by decide) ?_
    cases hD
    exact hret _ _ _ hP hS (fun Qc hq => W.zret hx hb hr rfl hq hS.2.2 dX1_isAtDigit_40 hlocks)
  · have hD := ifp hD c
    refine lv_aload_n hx hb dX1_isAtDigit_7 rfl (lv_at hl 0 rfl) ?_
    refine rg (Wf := fun z => Wf z m) (mm := m2) hx hb hT hu1 hown hK hP (hLh m) 4 0 (Nat.le_of_ble_eq_true rfl) (hs4 _ _) rfl (Nat.le_of_ble_eq_true rfl) (Fx0.T tw_2_213) rfl (v := .ref (adh 5)) rfl dX1_isAtDigit_8 ?_
    refine lv_aload_n hx hb dX1_isAtDigit_11 rfl (lv_at hl 0 rfl) ?_
    refine rg (Wf := fun z => Wf z m) (mm := m2) hx hb hT hu1 hown hK hP (hLh m) 4 3 (Nat.le_of_ble_eq_true rfl) (hs4 _ _) rfl (Nat.le_of_ble_eq_true rfl) (Fx0.T tw_2_216) rfl (v := .int (gi m2 4 3)) rfl dX1_isAtDigit_12 ?_
    obtain ⟨h4, hD⟩ := gd_el hD
    refine rbald (Wf := fun z => Wf z m) (mm := m2) hx hb hK hP (hLh m) 5 (Nat.le_of_ble_eq_true rfl) (hs5 _ _) h4 rfl dX1_isAtDigit_15 ?_
    refine lv_bipush (v := (48 : Int32)) hx hb dX1_isAtDigit_16 (by decide) ?_
    refine lv_icmp_lt (tgt := 39) hx hb dX1_isAtDigit_18 (by decide) (fun c => ?_) (fun c => ?_)
    · have hD := ifp hD c
      refine lv_iconst (v := (0 : Int32)) hx hb dX1_isAtDigit_39 (by decide) ?_
      cases hD
      exact hret _ _ _ hP hS (fun Qc hq => W.zret hx hb hr rfl hq hS.2.2 dX1_isAtDigit_40 hlocks)
    · have hD := ifn hD c
      refine lv_aload_n hx hb dX1_isAtDigit_21 rfl (lv_at hl 0 rfl) ?_
      refine rg (Wf := fun z => Wf z m) (mm := m2) hx hb hT hu1 hown hK hP (hLh m) 4 0 (Nat.le_of_ble_eq_true rfl) (hs4 _ _) rfl (Nat.le_of_ble_eq_true rfl) (Fx0.T tw_2_213) rfl (v := .ref (adh 5)) rfl dX1_isAtDigit_22 ?_
      refine lv_aload_n hx hb dX1_isAtDigit_25 rfl (lv_at hl 0 rfl) ?_
      refine rg (Wf := fun z => Wf z m) (mm := m2) hx hb hT hu1 hown hK hP (hLh m) 4 3 (Nat.le_of_ble_eq_true rfl) (hs4 _ _) rfl (Nat.le_of_ble_eq_true rfl) (Fx0.T tw_2_216) rfl (v := .int (gi m2 4 3)) rfl dX1_isAtDigit_26 ?_
      obtain ⟨h5, hD⟩ := gd_el hD
      refine rbald (Wf := fun z => Wf z m) (mm := m2) hx hb hK hP (hLh m) 5 (Nat.le_of_ble_eq_true rfl) (hs5 _ _) h5 rfl dX1_isAtDigit_29 ?_
      refine lv_bipush (v := (57 : Int32)) hx hb dX1_isAtDigit_30 (by decide) ?_
      refine lv_icmp_gt (tgt := 39) hx hb dX1_isAtDigit_32 (by decide) (fun c => ?_) (fun c => ?_)
      · have hD := ifp hD c
        refine lv_iconst (v := (0 : Int32)) hx hb dX1_isAtDigit_39 (by decide) ?_
        cases hD
        exact hret _ _ _ hP hS (fun Qc hq => W.zret hx hb hr rfl hq hS.2.2 dX1_isAtDigit_40 hlocks)
      · have hD := ifn hD c
        refine lv_iconst (v := (1 : Int32)) hx hb dX1_isAtDigit_35 (by decide) ?_
        refine lv_goto (tgt := 40) hx hb dX1_isAtDigit_36 (by decide) ?_
        cases hD
        exact hret _ _ _ hP hS (fun Qc hq => W.zret hx hb hr rfl hq hS.2.2 dX1_isAtDigit_40 hlocks)

noncomputable def D_X1_readSemicolon (h : MM) (m : MM) : Option MM := b2 (D_X1_isAtEnd h m) (fun v1 m2 => if v1 = 0 then (if (gi m2 4 3) < 0 ∨ 900 ≤ (gi m2 4 3).toNatClampNeg then none else (if (gi m2 5 ((gi m2 4 3).toNatClampNeg)) = (59 : Int32) then (bnd (si m2 4 3 ((gi m2 4 3) + (1 : Int32))) (fun m7 => some (m7))) else (b1 (D_X1_fail (1 : Int32) (gi m2 4 3) m2 m) (fun m8 => some (m8))))) else (b1 (D_X1_fail (1 : Int32) (gi m2 4 3) m2 m) (fun m4 => some (m4))))
set_option maxHeartbeats 4000000 in
set_option maxRecDepth 100000 in
theorem c_X1_readSemicolon (l : Launch) {D : va_G} {cs : Nat → ClassId} {adh ad ma : Nat → Nat} {Wf : MM → MM → va_W} (hLh : ∀ m : MM, Ln 8 adh (hsh cs adh ma) (fun z => Wf z m)) (hL : ∀ h : MM, Ln 51 ad (msh cs ad) (fun z => Wf h z)) (hAd : ∀ a0_ b0_ a1_ b1_ : MM, (Wf a0_ a1_).map (fun q => q.1) = (Wf b0_ b1_).map (fun q => q.1)) (hm2 : ma 2 = ad 24) (h : MM) (m : MM) {h' : MM} (hD : D_X1_readSemicolon h m = some (h')) : Ct l yX1_readSemicolon cX1_readSemicolon 1 none 1 22 D cs [.ref (adh 4)] (Wf h m) (Wf h' m) (none) := by
  refine Ct.ofW (by decide) (Nat.le_of_ble_eq_true rfl) (hAd _ _ _ _) ?_
  intro p e s m0 below meth c A Q ls args hx hb hr hml hlocks hown hts hK hP hD1 hSS hS hA1 hl hret
  have hT : ∀ w ∈ TBL, w.before args s = true := fun w h => hts w (List.mem_cons_of_mem _ h)
  have Fx0 : Fx p l m0 c cX1_readSemicolon 1 s args yX1_readSemicolon cX1_readSemicolon 1 none D cs A := ⟨hx, hb, hml, hown, hts, hK, hSS⟩
  have hown : s.vm.findClass RX1 = some m0.cls := hown
  have hl : lv_has ls 1 [(0, .ref (adh 4))] := hl
  unfold D_X1_readSemicolon at hD
  refine lv_aload_n hx hb dX1_readSemicolon_0 rfl (lv_at hl 0 rfl) ?_
  obtain ⟨v1, m2, z3, hD⟩ := b2_el hD
  refine rcV (Wf := fun z => Wf z m) (mm := h) (As := []) (rest := []) Fx0 (c_X1_isAtEnd l (Wf := fun z0_ z1_ => Wf z0_ z1_) (fun z1_ => hLh z1_) (fun z0_ => hL z0_) (fun a0_ b0_ a1_ b1_ => hAd a0_ b0_ a1_ b1_) hm2 h m z3) hP (hD1 _ (hAd _ _ _ _)) hS (hA1 _ _ (hAd _ _ _ _) hS.1) (hLh m) (Nat.le_of_ble_eq_true rfl) (hs4 _ _) rfl tw_3_135 tw_3_132 tw_3_134 ts_13 tw_1_12 yd_X1_isAtEnd ⟨(Nat.le_of_ble_eq_true rfl), (Nat.le_of_ble_eq_true rfl)⟩ rfl hl.1 rfl (Nat.le_of_ble_eq_true rfl) dX1_readSemicolon_1 (fun H locs hP hS => ?_)
  refine lv_if_ne (tgt := 21) hx hb dX1_readSemicolon_4 (by decide) (fun c => ?_) (fun c => ?_)
  · have hD := ifn hD c
    refine lv_aload_n hx hb dX1_readSemicolon_21 rfl (lv_at hl 0 rfl) ?_
    refine lv_iconst (v := (1 : Int32)) hx hb dX1_readSemicolon_22 (by decide) ?_
    refine lv_aload_n hx hb dX1_readSemicolon_23 rfl (lv_at hl 0 rfl) ?_
    refine rg (Wf := fun z => Wf z m) (mm := m2) hx hb hT hu1 hown hK hP (hLh m) 4 3 (Nat.le_of_ble_eq_true rfl) (hs4 _ _) rfl (Nat.le_of_ble_eq_true rfl) (Fx0.T tw_2_216) rfl (v := .int (gi m2 4 3)) rfl dX1_readSemicolon_24 ?_
    obtain ⟨m4, z5, hD⟩ := b1_el hD
    refine rcV (Wf := fun z => Wf z m) (mm := m2) (As := [.int (1 : Int32), .int (gi m2 4 3)]) (rest := []) Fx0 (c_X1_fail l (Wf := fun z0_ z1_ => Wf z0_ z1_) (fun z1_ => hLh z1_) (fun z0_ => hL z0_) (fun a0_ b0_ a1_ b1_ => hAd a0_ b0_ a1_ b1_) hm2 m2 m (1 : Int32) (gi m2 4 3) z5) hP (hD1 _ (hAd _ _ _ _)) hS (hA1 _ _ (hAd _ _ _ _) hS.1) (hLh m) (Nat.le_of_ble_eq_true rfl) (hs4 _ _) rfl tw_3_146 tw_3_143 tw_3_145 ts_15 tw_1_12 yd_X1_fail ⟨(Nat.le_of_ble_eq_true rfl), (Nat.le_of_ble_eq_true rfl)⟩ rfl hl.1 rfl (Nat.le_of_ble_eq_true rfl) dX1_readSemicolon_27 (fun H locs hP hS => ?_)
    refine lv_goto (tgt := 43) hx hb dX1_readSemicolon_30 (by decide) ?_
    cases hD
    exact hret _ _ _ hP hS (fun Qc hq => W.vret hx hb hr hq hS.2.2 dX1_readSemicolon_43 hlocks)
  · have hD := ifp hD c
    refine lv_aload_n hx hb dX1_readSemicolon_7 rfl (lv_at hl 0 rfl) ?_
    refine rg (Wf := fun z => Wf z m) (mm := m2) hx hb hT hu1 hown hK hP (hLh m) 4 0 (Nat.le_of_ble_eq_true rfl) (hs4 _ _) rfl (Nat.le_of_ble_eq_true rfl) (Fx0.T tw_2_213) rfl (v := .ref (adh 5)) rfl dX1_readSemicolon_8 ?_
    refine lv_aload_n hx hb dX1_readSemicolon_11 rfl (lv_at hl 0 rfl) ?_
    refine rg (Wf := fun z => Wf z m) (mm := m2) hx hb hT hu1 hown hK hP (hLh m) 4 3 (Nat.le_of_ble_eq_true rfl) (hs4 _ _) rfl (Nat.le_of_ble_eq_true rfl) (Fx0.T tw_2_216) rfl (v := .int (gi m2 4 3)) rfl dX1_readSemicolon_12 ?_
    obtain ⟨h6, hD⟩ := gd_el hD
    refine rbald (Wf := fun z => Wf z m) (mm := m2) hx hb hK hP (hLh m) 5 (Nat.le_of_ble_eq_true rfl) (hs5 _ _) h6 rfl dX1_readSemicolon_15 ?_
    refine lv_bipush (v := (59 : Int32)) hx hb dX1_readSemicolon_16 (by decide) ?_
    refine lv_icmp_eq (tgt := 33) hx hb dX1_readSemicolon_18 (by decide) (fun c => ?_) (fun c => ?_)
    · have hD := ifp hD c
      refine lv_aload_n hx hb dX1_readSemicolon_33 rfl (lv_at hl 0 rfl) ?_
      refine lv_dup hx hb dX1_readSemicolon_34 rfl ?_
      refine rg (Wf := fun z => Wf z m) (mm := m2) hx hb hT hu1 hown hK hP (hLh m) 4 3 (Nat.le_of_ble_eq_true rfl) (hs4 _ _) rfl (Nat.le_of_ble_eq_true rfl) (Fx0.T tw_2_216) rfl (v := .int (gi m2 4 3)) rfl dX1_readSemicolon_35 ?_
      refine lv_iconst (v := (1 : Int32)) hx hb dX1_readSemicolon_38 (by decide) ?_
      refine lv_iadd hx hb dX1_readSemicolon_39 ?_
      obtain ⟨m7, em7, hD⟩ := bnd_el hD
      refine rp (Wf := fun z => Wf z m) (mm := m2) hx hb hT hu1 tyX1_ok nmX1 hown hK hP (hD1 _ (hAd _ _ _ _)) hS (hLh m) 4 3 (Nat.le_of_ble_eq_true rfl) (hs4 _ _) (hs4 _ _) rfl (Nat.le_of_ble_eq_true rfl) (Fx0.T tw_2_216) rfl rfl rfl rfl (Nat.le_of_ble_eq_true rfl) dX1_readSemicolon_40 em7 (fun H locs hP hS => ?_)
      cases hD
      exact hret _ _ _ hP hS (fun Qc hq => W.vret hx hb hr hq hS.2.2 dX1_readSemicolon_43 hlocks)
    · have hD := ifn hD c
      refine lv_aload_n hx hb dX1_readSemicolon_21 rfl (lv_at hl 0 rfl) ?_
      refine lv_iconst (v := (1 : Int32)) hx hb dX1_readSemicolon_22 (by decide) ?_
      refine lv_aload_n hx hb dX1_readSemicolon_23 rfl (lv_at hl 0 rfl) ?_
      refine rg (Wf := fun z => Wf z m) (mm := m2) hx hb hT hu1 hown hK hP (hLh m) 4 3 (Nat.le_of_ble_eq_true rfl) (hs4 _ _) rfl (Nat.le_of_ble_eq_true rfl) (Fx0.T tw_2_216) rfl (v := .int (gi m2 4 3)) rfl dX1_readSemicolon_24 ?_
      obtain ⟨m8, z9, hD⟩ := b1_el hD
      refine rcV (Wf := fun z => Wf z m) (mm := m2) (As := [.int (1 : Int32), .int (gi m2 4 3)]) (rest := []) Fx0 (c_X1_fail l (Wf := fun z0_ z1_ => Wf z0_ z1_) (fun z1_ => hLh z1_) (fun z0_ => hL z0_) (fun a0_ b0_ a1_ b1_ => hAd a0_ b0_ a1_ b1_) hm2 m2 m (1 : Int32) (gi m2 4 3) z9) hP (hD1 _ (hAd _ _ _ _)) hS (hA1 _ _ (hAd _ _ _ _) hS.1) (hLh m) (Nat.le_of_ble_eq_true rfl) (hs4 _ _) rfl tw_3_146 tw_3_143 tw_3_145 ts_15 tw_1_12 yd_X1_fail ⟨(Nat.le_of_ble_eq_true rfl), (Nat.le_of_ble_eq_true rfl)⟩ rfl hl.1 rfl (Nat.le_of_ble_eq_true rfl) dX1_readSemicolon_27 (fun H locs hP hS => ?_)
      refine lv_goto (tgt := 43) hx hb dX1_readSemicolon_30 (by decide) ?_
      cases hD
      exact hret _ _ _ hP hS (fun Qc hq => W.vret hx hb hr hq hS.2.2 dX1_readSemicolon_43 hlocks)

noncomputable def D_X1_readWord_22 (m : MM) : Nat → MM → Option MM
  | 0, _ => none
  | n + 1, h => if (gi h 4 2) ≤ (gi h 4 3) then (some (h)) else (if (gi h 4 3) < 0 ∨ 900 ≤ (gi h 4 3).toNatClampNeg then none else (if (gi h 5 ((gi h 4 3).toNatClampNeg)) < (97 : Int32) then (some (h)) else (if (gi h 4 3) < 0 ∨ 900 ≤ (gi h 4 3).toNatClampNeg then none else (if (122 : Int32) < (gi h 5 ((gi h 4 3).toNatClampNeg)) then (some (h)) else (bnd (si h 4 3 ((gi h 4 3) + (1 : Int32))) (fun m7 => D_X1_readWord_22 m n m7))))))
noncomputable def D_X1_readWord (h : MM) (m : MM) : Option MM := b2 (D_X1_isAtEnd h m) (fun v1 m2 => if v1 = 0 then (bnd (si m2 4 4 (gi m2 4 3)) (fun m4 => D_X1_readWord_22 m FU m4)) else (bnd (si m2 4 4 (gi m2 4 2)) (fun m8 => D_X1_readWord_22 m FU m8)))
set_option maxHeartbeats 4000000 in
set_option maxRecDepth 100000 in
theorem c_X1_readWord (l : Launch) {D : va_G} {cs : Nat → ClassId} {adh ad ma : Nat → Nat} {Wf : MM → MM → va_W} (hLh : ∀ m : MM, Ln 8 adh (hsh cs adh ma) (fun z => Wf z m)) (hL : ∀ h : MM, Ln 51 ad (msh cs ad) (fun z => Wf h z)) (hAd : ∀ a0_ b0_ a1_ b1_ : MM, (Wf a0_ a1_).map (fun q => q.1) = (Wf b0_ b1_).map (fun q => q.1)) (hm2 : ma 2 = ad 24) (h : MM) (m : MM) {h' : MM} (hD : D_X1_readWord h m = some (h')) : Ct l yX1_readWord cX1_readWord 1 none 1 20 D cs [.ref (adh 4)] (Wf h m) (Wf h' m) (none) := by
  refine Ct.ofW (by decide) (Nat.le_of_ble_eq_true rfl) (hAd _ _ _ _) ?_
  intro p e s m0 below meth c A Q ls args hx hb hr hml hlocks hown hts hK hP hD1 hSS hS hA1 hl hret
  have hT : ∀ w ∈ TBL, w.before args s = true := fun w h => hts w (List.mem_cons_of_mem _ h)
  have Fx0 : Fx p l m0 c cX1_readWord 1 s args yX1_readWord cX1_readWord 1 none D cs A := ⟨hx, hb, hml, hown, hts, hK, hSS⟩
  have hown : s.vm.findClass RX1 = some m0.cls := hown
  have hl : lv_has ls 1 [(0, .ref (adh 4))] := hl
  unfold D_X1_readWord at hD
  have c_22 : ∀ (n : Nat), ∀ (h : MM) (H : Heap) (locs : List Loc) (ls : Array Slot), D_X1_readWord_22 m n h = some (h') → va_P D vwCl (Wf h m) H → va_S A s.heap H locs → lv_has ls 1 [(0, .ref (adh 4))] → W p l e ({ frames := 1, cells := 0, slots := 0, locals := 20 } : Room) s m0 args below meth c H locs 0 0 Q (F0 m0 22 ls []) := by
    intro n
    induction n with
    | zero =>
      intro h H locs ls hD hP hS hl
      exact nn_el hD
    | succ n ih =>
      intro h H locs ls hD hP hS hl
      rw [D_X1_readWord_22] at hD
      refine lv_aload_n hx hb dX1_readWord_22 rfl (lv_at hl 0 rfl) ?_
      refine rg (Wf := fun z => Wf z m) (mm := h) hx hb hT hu1 hown hK hP (hLh m) 4 3 (Nat.le_of_ble_eq_true rfl) (hs4 _ _) rfl (Nat.le_of_ble_eq_true rfl) (Fx0.T tw_2_216) rfl (v := .int (gi h 4 3)) rfl dX1_readWord_23 ?_
      refine lv_aload_n hx hb dX1_readWord_26 rfl (lv_at hl 0 rfl) ?_
      refine rg (Wf := fun z => Wf z m) (mm := h) hx hb hT hu1 hown hK hP (hLh m) 4 2 (Nat.le_of_ble_eq_true rfl) (hs4 _ _) rfl (Nat.le_of_ble_eq_true rfl) (Fx0.T tw_2_215) rfl (v := .int (gi h 4 2)) rfl dX1_readWord_27 ?_
      refine lv_icmp_ge (tgt := 74) hx hb dX1_readWord_30 (by decide) (fun c => ?_) (fun c => ?_)
      · have hD := ifp hD c
        cases hD
        exact hret _ _ _ hP hS (fun Qc hq => W.vret hx hb hr hq hS.2.2 dX1_readWord_74 hlocks)
      · have hD := ifn hD c
        refine lv_aload_n hx hb dX1_readWord_33 rfl (lv_at hl 0 rfl) ?_
        refine rg (Wf := fun z => Wf z m) (mm := h) hx hb hT hu1 hown hK hP (hLh m) 4 0 (Nat.le_of_ble_eq_true rfl) (hs4 _ _) rfl (Nat.le_of_ble_eq_true rfl) (Fx0.T tw_2_213) rfl (v := .ref (adh 5)) rfl dX1_readWord_34 ?_
        refine lv_aload_n hx hb dX1_readWord_37 rfl (lv_at hl 0 rfl) ?_
        refine rg (Wf := fun z => Wf z m) (mm := h) hx hb hT hu1 hown hK hP (hLh m) 4 3 (Nat.le_of_ble_eq_true rfl) (hs4 _ _) rfl (Nat.le_of_ble_eq_true rfl) (Fx0.T tw_2_216) rfl (v := .int (gi h 4 3)) rfl dX1_readWord_38 ?_
        obtain ⟨h5, hD⟩ := gd_el hD
        refine rbald (Wf := fun z => Wf z m) (mm := h) hx hb hK hP (hLh m) 5 (Nat.le_of_ble_eq_true rfl) (hs5 _ _) h5 rfl dX1_readWord_41 ?_
        refine lv_bipush (v := (97 : Int32)) hx hb dX1_readWord_42 (by decide) ?_
        refine lv_icmp_lt (tgt := 74) hx hb dX1_readWord_44 (by decide) (fun c => ?_) (fun c => ?_)
        · have hD := ifp hD c
          cases hD
          exact hret _ _ _ hP hS (fun Qc hq => W.vret hx hb hr hq hS.2.2 dX1_readWord_74 hlocks)
        · have hD := ifn hD c
          refine lv_aload_n hx hb dX1_readWord_47 rfl (lv_at hl 0 rfl) ?_
          refine rg (Wf := fun z => Wf z m) (mm := h) hx hb hT hu1 hown hK hP (hLh m) 4 0 (Nat.le_of_ble_eq_true rfl) (hs4 _ _) rfl (Nat.le_of_ble_eq_true rfl) (Fx0.T tw_2_213) rfl (v := .ref (adh 5)) rfl dX1_readWord_48 ?_
          refine lv_aload_n hx hb dX1_readWord_51 rfl (lv_at hl 0 rfl) ?_
          refine rg (Wf := fun z => Wf z m) (mm := h) hx hb hT hu1 hown hK hP (hLh m) 4 3 (Nat.le_of_ble_eq_true rfl) (hs4 _ _) rfl (Nat.le_of_ble_eq_true rfl) (Fx0.T tw_2_216) rfl (v := .int (gi h 4 3)) rfl dX1_readWord_52 ?_
          obtain ⟨h6, hD⟩ := gd_el hD
          refine rbald (Wf := fun z => Wf z m) (mm := h) hx hb hK hP (hLh m) 5 (Nat.le_of_ble_eq_true rfl) (hs5 _ _) h6 rfl dX1_readWord_55 ?_
          refine lv_bipush (v := (122 : Int32)) hx hb dX1_readWord_56 (by decide) ?_
          refine lv_icmp_gt (tgt := 74) hx hb dX1_readWord_58 (by decide) (fun c => ?_) (fun c => ?_)
          · have hD := ifp hD c
            cases hD
            exact hret _ _ _ hP hS (fun Qc hq => W.vret hx hb hr hq hS.2.2 dX1_readWord_74 hlocks)
          · have hD := ifn hD c
            refine lv_aload_n hx hb dX1_readWord_61 rfl (lv_at hl 0 rfl) ?_
            refine lv_dup hx hb dX1_readWord_62 rfl ?_
            refine rg (Wf := fun z => Wf z m) (mm := h) hx hb hT hu1 hown hK hP (hLh m) 4 3 (Nat.le_of_ble_eq_true rfl) (hs4 _ _) rfl (Nat.le_of_ble_eq_true rfl) (Fx0.T tw_2_216) rfl (v := .int (gi h 4 3)) rfl dX1_readWord_63 ?_
            refine lv_iconst (v := (1 : Int32)) hx hb dX1_readWord_66 (by decide) ?_
            refine lv_iadd hx hb dX1_readWord_67 ?_
            obtain ⟨m7, em7, hD⟩ := bnd_el hD
            refine rp (Wf := fun z => Wf z m) (mm := h) hx hb hT hu1 tyX1_ok nmX1 hown hK hP (hD1 _ (hAd _ _ _ _)) hS (hLh m) 4 3 (Nat.le_of_ble_eq_true rfl) (hs4 _ _) (hs4 _ _) rfl (Nat.le_of_ble_eq_true rfl) (Fx0.T tw_2_216) rfl rfl rfl rfl (Nat.le_of_ble_eq_true rfl) dX1_readWord_68 em7 (fun H locs hP hS => ?_)
            refine lv_goto (tgt := 22) hx hb dX1_readWord_71 (by decide) ?_
            exact ih _ _ _ _ hD hP hS (lv_sub hl [0] rfl)
  refine lv_aload_n hx hb dX1_readWord_0 rfl (lv_at hl 0 rfl) ?_
  refine lv_aload_n hx hb dX1_readWord_1 rfl (lv_at hl 0 rfl) ?_
  obtain ⟨v1, m2, z3, hD⟩ := b2_el hD
  refine rcV (Wf := fun z => Wf z m) (mm := h) (As := []) (rest := [.ref (adh 4)]) Fx0 (c_X1_isAtEnd l (Wf := fun z0_ z1_ => Wf z0_ z1_) (fun z1_ => hLh z1_) (fun z0_ => hL z0_) (fun a0_ b0_ a1_ b1_ => hAd a0_ b0_ a1_ b1_) hm2 h m z3) hP (hD1 _ (hAd _ _ _ _)) hS (hA1 _ _ (hAd _ _ _ _) hS.1) (hLh m) (Nat.le_of_ble_eq_true rfl) (hs4 _ _) rfl tw_3_135 tw_3_132 tw_3_134 ts_13 tw_1_12 yd_X1_isAtEnd ⟨(Nat.le_of_ble_eq_true rfl), (Nat.le_of_ble_eq_true rfl)⟩ rfl hl.1 rfl (Nat.le_of_ble_eq_true rfl) dX1_readWord_2 (fun H locs hP hS => ?_)
  refine lv_if_eq (tgt := 15) hx hb dX1_readWord_5 (by decide) (fun c => ?_) (fun c => ?_)
  · have hD := ifp hD c
    refine lv_aload_n hx hb dX1_readWord_15 rfl (lv_at hl 0 rfl) ?_
    refine rg (Wf := fun z => Wf z m) (mm := m2) hx hb hT hu1 hown hK hP (hLh m) 4 3 (Nat.le_of_ble_eq_true rfl) (hs4 _ _) rfl (Nat.le_of_ble_eq_true rfl) (Fx0.T tw_2_216) rfl (v := .int (gi m2 4 3)) rfl dX1_readWord_16 ?_
    obtain ⟨m4, em4, hD⟩ := bnd_el hD
    refine rp (Wf := fun z => Wf z m) (mm := m2) hx hb hT hu1 tyX1_ok nmX1 hown hK hP (hD1 _ (hAd _ _ _ _)) hS (hLh m) 4 4 (Nat.le_of_ble_eq_true rfl) (hs4 _ _) (hs4 _ _) rfl (Nat.le_of_ble_eq_true rfl) (Fx0.T tw_2_217) rfl rfl rfl rfl (Nat.le_of_ble_eq_true rfl) dX1_readWord_19 em4 (fun H locs hP hS => ?_)
    exact c_22 FU _ _ _ _ hD hP hS (lv_sub hl [0] rfl)
  · have hD := ifn hD c
    refine lv_aload_n hx hb dX1_readWord_8 rfl (lv_at hl 0 rfl) ?_
    refine rg (Wf := fun z => Wf z m) (mm := m2) hx hb hT hu1 hown hK hP (hLh m) 4 2 (Nat.le_of_ble_eq_true rfl) (hs4 _ _) rfl (Nat.le_of_ble_eq_true rfl) (Fx0.T tw_2_215) rfl (v := .int (gi m2 4 2)) rfl dX1_readWord_9 ?_
    refine lv_goto (tgt := 19) hx hb dX1_readWord_12 (by decide) ?_
    obtain ⟨m8, em8, hD⟩ := bnd_el hD
    refine rp (Wf := fun z => Wf z m) (mm := m2) hx hb hT hu1 tyX1_ok nmX1 hown hK hP (hD1 _ (hAd _ _ _ _)) hS (hLh m) 4 4 (Nat.le_of_ble_eq_true rfl) (hs4 _ _) (hs4 _ _) rfl (Nat.le_of_ble_eq_true rfl) (Fx0.T tw_2_217) rfl rfl rfl rfl (Nat.le_of_ble_eq_true rfl) dX1_readWord_19 em8 (fun H locs hP hS => ?_)
    exact c_22 FU _ _ _ _ hD hP hS (lv_sub hl [0] rfl)

noncomputable def D_X1_isWord_20 (h : MM) (m : MM) : Nat → Nat → Int32 → Option Int32
  | 0, _, _ => none
  | n + 1, q1, x2 => b1 (D_J0_length_8abf5 q1) (fun v3 => if v3 ≤ x2 then (some ((1 : Int32))) else (if ((gi h 4 4) + x2) < 0 ∨ 900 ≤ ((gi h 4 4) + x2).toNatClampNeg then none else (b1 (D_J0_charAt_5068e q1 x2) (fun v6 => if (gi h 5 (((gi h 4 4) + x2).toNatClampNeg)) = v6 then (bnd (x2 + (1 : Int32)) (fun v8 => D_X1_isWord_20 h m n q1 v8)) else (some ((0 : Int32)))))))
noncomputable def D_X1_isWord (q1 : Nat) (h : MM) (m : MM) : Option Int32 := b1 (D_J0_length_8abf5 q1) (fun v1 => if ((gi h 4 3) - (gi h 4 4)) = v1 then (D_X1_isWord_20 h m FU q1 (0 : Int32)) else (some ((0 : Int32))))
set_option maxHeartbeats 4000000 in
set_option maxRecDepth 100000 in
theorem c_X1_isWord (l : Launch) {D : va_G} {cs : Nat → ClassId} {adh ad ma : Nat → Nat} {Wf : MM → MM → va_W} (hLh : ∀ m : MM, Ln 8 adh (hsh cs adh ma) (fun z => Wf z m)) (hL : ∀ h : MM, Ln 51 ad (msh cs ad) (fun z => Wf h z)) (hAd : ∀ a0_ b0_ a1_ b1_ : MM, (Wf a0_ a1_).map (fun q => q.1) = (Wf b0_ b1_).map (fun q => q.1)) (hm2 : ma 2 = ad 24) (h : MM) (m : MM) (q1 : Nat) (haq1 : q1 < 12) {rr : Int32} (hD : D_X1_isWord q1 h m = some (rr)) : Ct l yX1_isWord cX1_isWord 3 (some .boolean) 4 85 D cs [.ref (adh 4), .ref (sK D q1)] (Wf h m) (Wf h m) (some (.int rr)) := by
  refine Ct.ofW (by decide) (Nat.le_of_ble_eq_true rfl) rfl ?_
  intro p e s m0 below meth c A Q ls args hx hb hr hml hlocks hown hts hK hP hD1 hSS hS hA1 hl hret
  have hT : ∀ w ∈ TBL, w.before args s = true := fun w h => hts w (List.mem_cons_of_mem _ h)
  have Fx0 : Fx p l m0 c cX1_isWord 3 s args yX1_isWord cX1_isWord 3 (some .boolean) D cs A := ⟨hx, hb, hml, hown, hts, hK, hSS⟩
  have hown : s.vm.findClass RX1 = some m0.cls := hown
  have hl : lv_has ls 3 [(0, .ref (adh 4)), (1, .ref (sK D q1))] := hl
  unfold D_X1_isWord at hD
  have c_20 : ∀ (n : Nat), ∀ (q1 : Nat) (x2 : Int32) (H : Heap) (locs : List Loc) (ls : Array Slot), D_X1_isWord_20 h m n q1 x2 = some (rr) → q1 < 12 → va_P D vwCl (Wf h m) H → va_S A s.heap H locs → lv_has ls 3 [(0, .ref (adh 4)), (1, .ref (sK D q1)), (2, .int x2)] → W p l e ({ frames := 4, cells := 0, slots := 0, locals := 85 } : Room) s m0 args below meth c H locs 0 0 Q (F0 m0 20 ls []) := by
    intro n
    induction n with
    | zero =>
      intro q1 x2 H locs ls hD haq1 hP hS hl
      exact nn_el hD
    | succ n ih =>
      intro q1 x2 H locs ls hD haq1 hP hS hl
      rw [D_X1_isWord_20] at hD
      refine lv_iload_n hx hb dX1_isWord_20 rfl (lv_at hl 2 rfl) ?_
      refine lv_aload_n hx hb dX1_isWord_21 rfl (lv_at hl 1 rfl) ?_
      obtain ⟨v3, z4, hD⟩ := b1_el hD
      refine rcT (As := []) (rest := [.int x2]) Fx0 haq1 (c_J0_length_8abf5 l q1 haq1 z4) hP (hD1 _ (hAd _ _ _ _)) hS (hA1 _ _ (hAd _ _ _ _) hS.1) tw_3_63 tw_3_141 tw_3_61 tw_3_62 tw_1_15 yd_J0_length_8abf5 ⟨(Nat.le_of_ble_eq_true rfl), (Nat.le_of_ble_eq_true rfl)⟩ rfl hl.1 rfl (Nat.le_of_ble_eq_true rfl) dX1_isWord_22 (fun H locs hP hS => ?_)
      refine lv_icmp_ge (tgt := 55) hx hb dX1_isWord_25 (by decide) (fun c => ?_) (fun c => ?_)
      · have hD := ifp hD c
        refine lv_iconst (v := (1 : Int32)) hx hb dX1_isWord_55 (by decide) ?_
        cases hD
        exact hret _ _ _ hP hS (fun Qc hq => W.zret hx hb hr rfl hq hS.2.2 dX1_isWord_56 hlocks)
      · have hD := ifn hD c
        refine lv_aload_n hx hb dX1_isWord_28 rfl (lv_at hl 0 rfl) ?_
        refine rg (Wf := fun z => Wf z m) (mm := h) hx hb hT hu1 hown hK hP (hLh m) 4 0 (Nat.le_of_ble_eq_true rfl) (hs4 _ _) rfl (Nat.le_of_ble_eq_true rfl) (Fx0.T tw_2_213) rfl (v := .ref (adh 5)) rfl dX1_isWord_29 ?_
        refine lv_aload_n hx hb dX1_isWord_32 rfl (lv_at hl 0 rfl) ?_
        refine rg (Wf := fun z => Wf z m) (mm := h) hx hb hT hu1 hown hK hP (hLh m) 4 4 (Nat.le_of_ble_eq_true rfl) (hs4 _ _) rfl (Nat.le_of_ble_eq_true rfl) (Fx0.T tw_2_217) rfl (v := .int (gi h 4 4)) rfl dX1_isWord_33 ?_
        refine lv_iload_n hx hb dX1_isWord_36 rfl (lv_at hl 2 rfl) ?_
        refine lv_iadd hx hb dX1_isWord_37 ?_
        obtain ⟨h5, hD⟩ := gd_el hD
        refine rbald (Wf := fun z => Wf z m) (mm := h) hx hb hK hP (hLh m) 5 (Nat.le_of_ble_eq_true rfl) (hs5 _ _) h5 rfl dX1_isWord_38 ?_
        refine lv_aload_n hx hb dX1_isWord_39 rfl (lv_at hl 1 rfl) ?_
        refine lv_iload_n hx hb dX1_isWord_40 rfl (lv_at hl 2 rfl) ?_
        obtain ⟨v6, z7, hD⟩ := b1_el hD
        refine rcT (As := [.int x2]) (rest := [.int (gi h 5 (((gi h 4 4) + x2).toNatClampNeg))]) Fx0 haq1 (c_J0_charAt_5068e l q1 haq1 x2 z7) hP (hD1 _ (hAd _ _ _ _)) hS (hA1 _ _ (hAd _ _ _ _) hS.1) tw_3_73 tw_3_142 tw_3_71 tw_3_72 tw_1_15 yd_J0_charAt_5068e ⟨(Nat.le_of_ble_eq_true rfl), (Nat.le_of_ble_eq_true rfl)⟩ rfl hl.1 rfl (Nat.le_of_ble_eq_true rfl) dX1_isWord_41 (fun H locs hP hS => ?_)
        refine lv_icmp_eq (tgt := 49) hx hb dX1_isWord_44 (by decide) (fun c => ?_) (fun c => ?_)
        · have hD := ifp hD c
          obtain ⟨v8, ev8, hD⟩ := bnd_el hD
          refine lv_iinc (v := v8) (lv' := [(2, .int v8), (0, .ref (adh 4)), (1, .ref (sK D q1))]) hx hb dX1_isWord_49 hl (k := 2) rfl (by rw [ev8]; rfl) (by decide) rfl (fun ls hl => ?_)
          refine lv_goto (tgt := 20) hx hb dX1_isWord_52 (by decide) ?_
          exact ih _ _ _ _ _ hD haq1 hP hS (lv_sub hl [1, 2, 0] rfl)
        · have hD := ifn hD c
          refine lv_iconst (v := (0 : Int32)) hx hb dX1_isWord_47 (by decide) ?_
          cases hD
          exact hret _ _ _ hP hS (fun Qc hq => W.zret hx hb hr rfl hq hS.2.2 dX1_isWord_48 hlocks)
  refine lv_aload_n hx hb dX1_isWord_0 rfl (lv_at hl 0 rfl) ?_
  refine rg (Wf := fun z => Wf z m) (mm := h) hx hb hT hu1 hown hK hP (hLh m) 4 3 (Nat.le_of_ble_eq_true rfl) (hs4 _ _) rfl (Nat.le_of_ble_eq_true rfl) (Fx0.T tw_2_216) rfl (v := .int (gi h 4 3)) rfl dX1_isWord_1 ?_
  refine lv_aload_n hx hb dX1_isWord_4 rfl (lv_at hl 0 rfl) ?_
  refine rg (Wf := fun z => Wf z m) (mm := h) hx hb hT hu1 hown hK hP (hLh m) 4 4 (Nat.le_of_ble_eq_true rfl) (hs4 _ _) rfl (Nat.le_of_ble_eq_true rfl) (Fx0.T tw_2_217) rfl (v := .int (gi h 4 4)) rfl dX1_isWord_5 ?_
  refine lv_isub hx hb dX1_isWord_8 ?_
  refine lv_aload_n hx hb dX1_isWord_9 rfl (lv_at hl 1 rfl) ?_
  obtain ⟨v1, z2, hD⟩ := b1_el hD
  refine rcT (As := []) (rest := [.int ((gi h 4 3) - (gi h 4 4))]) Fx0 haq1 (c_J0_length_8abf5 l q1 haq1 z2) hP (hD1 _ (hAd _ _ _ _)) hS (hA1 _ _ (hAd _ _ _ _) hS.1) tw_3_63 tw_3_141 tw_3_61 tw_3_62 tw_1_15 yd_J0_length_8abf5 ⟨(Nat.le_of_ble_eq_true rfl), (Nat.le_of_ble_eq_true rfl)⟩ rfl hl.1 rfl (Nat.le_of_ble_eq_true rfl) dX1_isWord_10 (fun H locs hP hS => ?_)
  refine lv_icmp_eq (tgt := 18) hx hb dX1_isWord_13 (by decide) (fun c => ?_) (fun c => ?_)
  · have hD := ifp hD c
    refine lv_iconst (v := (0 : Int32)) hx hb dX1_isWord_18 (by decide) ?_
    refine lv_istore_n (lv' := [(2, .int (0 : Int32)), (0, .ref (adh 4)), (1, .ref (sK D q1))]) hx hb dX1_isWord_19 rfl hl (by decide) rfl (fun ls hl => ?_)
    exact c_20 FU _ _ _ _ _ hD haq1 hP hS (lv_sub hl [1, 2, 0] rfl)
  · have hD := ifn hD c
    refine lv_iconst (v := (0 : Int32)) hx hb dX1_isWord_16 (by decide) ?_
    cases hD
    exact hret _ _ _ hP hS (fun Qc hq => W.zret hx hb hr rfl hq hS.2.2 dX1_isWord_17 hlocks)

noncomputable def D_X1_readNumber_117 (m : MM) (x1 : Int32) (x2 : Int32) (x3 : Int32) (h : MM) : Option (Int32 × MM) := if x3 < x1 then (b1 (D_X1_fail (2 : Int32) (gi h 4 5) h m) (fun m8 => some (x3, m8))) else (if x3 ≤ x2 then (some (x3, h)) else (b1 (D_X1_fail (2 : Int32) (gi h 4 5) h m) (fun m10 => some (x3, m10))))
noncomputable def D_X1_readNumber_42 (m : MM) : Nat → Int32 → Int32 → Int32 → MM → Option (Int32 × MM)
  | 0, _, _, _, _ => none
  | n + 1, x1, x2, x3, h => if (gi h 4 2) ≤ (gi h 4 3) then (D_X1_readNumber_117 m x1 x2 x3 h) else (if (gi h 4 3) < 0 ∨ 900 ≤ (gi h 4 3).toNatClampNeg then none else (if (gi h 5 ((gi h 4 3).toNatClampNeg)) < (48 : Int32) then (D_X1_readNumber_117 m x1 x2 x3 h) else (if (gi h 4 3) < 0 ∨ 900 ≤ (gi h 4 3).toNatClampNeg then none else (if (57 : Int32) < (gi h 5 ((gi h 4 3).toNatClampNeg)) then (D_X1_readNumber_117 m x1 x2 x3 h) else (if (gi h 4 3) < 0 ∨ 900 ≤ (gi h 4 3).toNatClampNeg then none else (bnd (if (1000000 : Int32) < ((((10 : Int32) * x3) + (gi h 5 ((gi h 4 3).toNatClampNeg))) - (48 : Int32)) then (1000000 : Int32) else ((((10 : Int32) * x3) + (gi h 5 ((gi h 4 3).toNatClampNeg))) - (48 : Int32))) (fun v15 => bnd (si h 4 3 ((gi h 4 3) + (1 : Int32))) (fun m16 => D_X1_readNumber_42 m n x1 x2 v15 m16))))))))
noncomputable def D_X1_readNumber (x1 : Int32) (x2 : Int32) (h : MM) (m : MM) : Option (Int32 × MM) := b2 (D_X1_isAtEnd h m) (fun v1 m2 => if v1 = 0 then (bnd (si m2 4 5 (gi m2 4 3)) (fun m4 => b2 (D_X1_isAtDigit m4 m) (fun v5 m6 => if v5 = 0 then (b1 (D_X1_fail (1 : Int32) (gi m6 4 5) m6 m) (fun m17 => some (x1, m17))) else (D_X1_readNumber_42 m FU x1 x2 (0 : Int32) m6)))) else (bnd (si m2 4 5 (gi m2 4 2)) (fun m19 => b2 (D_X1_isAtDigit m19 m) (fun v20 m21 => if v20 = 0 then (b1 (D_X1_fail (1 : Int32) (gi m21 4 5) m21 m) (fun m23 => some (x1, m23))) else (D_X1_readNumber_42 m FU x1 x2 (0 : Int32) m21)))))
set_option maxHeartbeats 4000000 in
set_option maxRecDepth 100000 in
theorem c_X1_readNumber (l : Launch) {D : va_G} {cs : Nat → ClassId} {adh ad ma : Nat → Nat} {Wf : MM → MM → va_W} (hLh : ∀ m : MM, Ln 8 adh (hsh cs adh ma) (fun z => Wf z m)) (hL : ∀ h : MM, Ln 51 ad (msh cs ad) (fun z => Wf h z)) (hAd : ∀ a0_ b0_ a1_ b1_ : MM, (Wf a0_ a1_).map (fun q => q.1) = (Wf b0_ b1_).map (fun q => q.1)) (hm2 : ma 2 = ad 24) (h : MM) (m : MM) (x1 : Int32) (x2 : Int32) {rr : Int32} {h' : MM} (hD : D_X1_readNumber x1 x2 h m = some (rr, h')) : Ct l yX1_readNumber cX1_readNumber 4 (some .int) 2 40 D cs [.ref (adh 4), .int x1, .int x2] (Wf h m) (Wf h' m) (some (.int rr)) := by
  refine Ct.ofW (by decide) (Nat.le_of_ble_eq_true rfl) (hAd _ _ _ _) ?_
  intro p e s m0 below meth c A Q ls args hx hb hr hml hlocks hown hts hK hP hD1 hSS hS hA1 hl hret
  have hT : ∀ w ∈ TBL, w.before args s = true := fun w h => hts w (List.mem_cons_of_mem _ h)
  have Fx0 : Fx p l m0 c cX1_readNumber 4 s args yX1_readNumber cX1_readNumber 4 (some .int) D cs A := ⟨hx, hb, hml, hown, hts, hK, hSS⟩
  have hown : s.vm.findClass RX1 = some m0.cls := hown
  have hl : lv_has ls 4 [(0, .ref (adh 4)), (1, .int x1), (2, .int x2)] := hl
  unfold D_X1_readNumber at hD
  have c_117 : ∀ (x1 : Int32) (x2 : Int32) (x3 : Int32) (h : MM) (H : Heap) (locs : List Loc) (ls : Array Slot), D_X1_readNumber_117 m x1 x2 x3 h = some (rr, h') → va_P D vwCl (Wf h m) H → va_S A s.heap H locs → lv_has ls 4 [(0, .ref (adh 4)), (1, .int x1), (2, .int x2), (3, .int x3)] → W p l e ({ frames := 2, cells := 0, slots := 0, locals := 40 } : Room) s m0 args below meth c H locs 0 0 Q (F0 m0 117 ls []) := by
    intro x1 x2 x3 h H locs ls hD hP hS hl
    unfold D_X1_readNumber_117 at hD
    refine lv_iload_n hx hb dX1_readNumber_117 rfl (lv_at hl 3 rfl) ?_
    refine lv_iload_n hx hb dX1_readNumber_118 rfl (lv_at hl 1 rfl) ?_
    refine lv_icmp_lt (tgt := 127) hx hb dX1_readNumber_119 (by decide) (fun c => ?_) (fun c => ?_)
    · have hD := ifp hD c
      refine lv_aload_n hx hb dX1_readNumber_127 rfl (lv_at hl 0 rfl) ?_
      refine lv_iconst (v := (2 : Int32)) hx hb dX1_readNumber_128 (by decide) ?_
      refine lv_aload_n hx hb dX1_readNumber_129 rfl (lv_at hl 0 rfl) ?_
      refine rg (Wf := fun z => Wf z m) (mm := h) hx hb hT hu1 hown hK hP (hLh m) 4 5 (Nat.le_of_ble_eq_true rfl) (hs4 _ _) rfl (Nat.le_of_ble_eq_true rfl) (Fx0.T tw_2_218) rfl (v := .int (gi h 4 5)) rfl dX1_readNumber_130 ?_
      obtain ⟨m8, z9, hD⟩ := b1_el hD
      refine rcV (Wf := fun z => Wf z m) (mm := h) (As := [.int (2 : Int32), .int (gi h 4 5)]) (rest := []) Fx0 (c_X1_fail l (Wf := fun z0_ z1_ => Wf z0_ z1_) (fun z1_ => hLh z1_) (fun z0_ => hL z0_) (fun a0_ b0_ a1_ b1_ => hAd a0_ b0_ a1_ b1_) hm2 h m (2 : Int32) (gi h 4 5) z9) hP (hD1 _ (hAd _ _ _ _)) hS (hA1 _ _ (hAd _ _ _ _) hS.1) (hLh m) (Nat.le_of_ble_eq_true rfl) (hs4 _ _) rfl tw_3_146 tw_3_143 tw_3_145 ts_15 tw_1_12 yd_X1_fail ⟨(Nat.le_of_ble_eq_true rfl), (Nat.le_of_ble_eq_true rfl)⟩ rfl hl.1 rfl (Nat.le_of_ble_eq_true rfl) dX1_readNumber_133 (fun H locs hP hS => ?_)
      refine lv_iload_n hx hb dX1_readNumber_136 rfl (lv_at hl 3 rfl) ?_
      cases hD
      exact hret _ _ _ hP hS (fun Qc hq => W.iret hx hb hr hq hS.2.2 dX1_readNumber_137 hlocks)
    · have hD := ifn hD c
      refine lv_iload_n hx hb dX1_readNumber_122 rfl (lv_at hl 3 rfl) ?_
      refine lv_iload_n hx hb dX1_readNumber_123 rfl (lv_at hl 2 rfl) ?_
      refine lv_icmp_le (tgt := 136) hx hb dX1_readNumber_124 (by decide) (fun c => ?_) (fun c => ?_)
      · have hD := ifp hD c
        refine lv_iload_n hx hb dX1_readNumber_136 rfl (lv_at hl 3 rfl) ?_
        cases hD
        exact hret _ _ _ hP hS (fun Qc hq => W.iret hx hb hr hq hS.2.2 dX1_readNumber_137 hlocks)
      · have hD := ifn hD c
        refine lv_aload_n hx hb dX1_readNumber_127 rfl (lv_at hl 0 rfl) ?_
        refine lv_iconst (v := (2 : Int32)) hx hb dX1_readNumber_128 (by decide) ?_
        refine lv_aload_n hx hb dX1_readNumber_129 rfl (lv_at hl 0 rfl) ?_
        refine rg (Wf := fun z => Wf z m) (mm := h) hx hb hT hu1 hown hK hP (hLh m) 4 5 (Nat.le_of_ble_eq_true rfl) (hs4 _ _) rfl (Nat.le_of_ble_eq_true rfl) (Fx0.T tw_2_218) rfl (v := .int (gi h 4 5)) rfl dX1_readNumber_130 ?_
        obtain ⟨m10, z11, hD⟩ := b1_el hD
        refine rcV (Wf := fun z => Wf z m) (mm := h) (As := [.int (2 : Int32), .int (gi h 4 5)]) (rest := []) Fx0 (c_X1_fail l (Wf := fun z0_ z1_ => Wf z0_ z1_) (fun z1_ => hLh z1_) (fun z0_ => hL z0_) (fun a0_ b0_ a1_ b1_ => hAd a0_ b0_ a1_ b1_) hm2 h m (2 : Int32) (gi h 4 5) z11) hP (hD1 _ (hAd _ _ _ _)) hS (hA1 _ _ (hAd _ _ _ _) hS.1) (hLh m) (Nat.le_of_ble_eq_true rfl) (hs4 _ _) rfl tw_3_146 tw_3_143 tw_3_145 ts_15 tw_1_12 yd_X1_fail ⟨(Nat.le_of_ble_eq_true rfl), (Nat.le_of_ble_eq_true rfl)⟩ rfl hl.1 rfl (Nat.le_of_ble_eq_true rfl) dX1_readNumber_133 (fun H locs hP hS => ?_)
        refine lv_iload_n hx hb dX1_readNumber_136 rfl (lv_at hl 3 rfl) ?_
        cases hD
        exact hret _ _ _ hP hS (fun Qc hq => W.iret hx hb hr hq hS.2.2 dX1_readNumber_137 hlocks)
  have c_42 : ∀ (n : Nat), ∀ (x1 : Int32) (x2 : Int32) (x3 : Int32) (h : MM) (H : Heap) (locs : List Loc) (ls : Array Slot), D_X1_readNumber_42 m n x1 x2 x3 h = some (rr, h') → va_P D vwCl (Wf h m) H → va_S A s.heap H locs → lv_has ls 4 [(0, .ref (adh 4)), (1, .int x1), (2, .int x2), (3, .int x3)] → W p l e ({ frames := 2, cells := 0, slots := 0, locals := 40 } : Room) s m0 args below meth c H locs 0 0 Q (F0 m0 42 ls []) := by
    intro n
    induction n with
    | zero =>
      intro x1 x2 x3 h H locs ls hD hP hS hl
      exact nn_el hD
    | succ n ih =>
      intro x1 x2 x3 h H locs ls hD hP hS hl
      rw [D_X1_readNumber_42] at hD
      refine lv_aload_n hx hb dX1_readNumber_42 rfl (lv_at hl 0 rfl) ?_
      refine rg (Wf := fun z => Wf z m) (mm := h) hx hb hT hu1 hown hK hP (hLh m) 4 3 (Nat.le_of_ble_eq_true rfl) (hs4 _ _) rfl (Nat.le_of_ble_eq_true rfl) (Fx0.T tw_2_216) rfl (v := .int (gi h 4 3)) rfl dX1_readNumber_43 ?_
      refine lv_aload_n hx hb dX1_readNumber_46 rfl (lv_at hl 0 rfl) ?_
      refine rg (Wf := fun z => Wf z m) (mm := h) hx hb hT hu1 hown hK hP (hLh m) 4 2 (Nat.le_of_ble_eq_true rfl) (hs4 _ _) rfl (Nat.le_of_ble_eq_true rfl) (Fx0.T tw_2_215) rfl (v := .int (gi h 4 2)) rfl dX1_readNumber_47 ?_
      refine lv_icmp_ge (tgt := 117) hx hb dX1_readNumber_50 (by decide) (fun c => ?_) (fun c => ?_)
      · have hD := ifp hD c
        exact c_117 _ _ _ _ _ _ _ hD hP hS (lv_sub hl [0, 1, 2, 3] rfl)
      · have hD := ifn hD c
        refine lv_aload_n hx hb dX1_readNumber_53 rfl (lv_at hl 0 rfl) ?_
        refine rg (Wf := fun z => Wf z m) (mm := h) hx hb hT hu1 hown hK hP (hLh m) 4 0 (Nat.le_of_ble_eq_true rfl) (hs4 _ _) rfl (Nat.le_of_ble_eq_true rfl) (Fx0.T tw_2_213) rfl (v := .ref (adh 5)) rfl dX1_readNumber_54 ?_
        refine lv_aload_n hx hb dX1_readNumber_57 rfl (lv_at hl 0 rfl) ?_
        refine rg (Wf := fun z => Wf z m) (mm := h) hx hb hT hu1 hown hK hP (hLh m) 4 3 (Nat.le_of_ble_eq_true rfl) (hs4 _ _) rfl (Nat.le_of_ble_eq_true rfl) (Fx0.T tw_2_216) rfl (v := .int (gi h 4 3)) rfl dX1_readNumber_58 ?_
        obtain ⟨h12, hD⟩ := gd_el hD
        refine rbald (Wf := fun z => Wf z m) (mm := h) hx hb hK hP (hLh m) 5 (Nat.le_of_ble_eq_true rfl) (hs5 _ _) h12 rfl dX1_readNumber_61 ?_
        refine lv_bipush (v := (48 : Int32)) hx hb dX1_readNumber_62 (by decide) ?_
        refine lv_icmp_lt (tgt := 117) hx hb dX1_readNumber_64 (by decide) (fun c => ?_) (fun c => ?_)
        · have hD := ifp hD c
          exact c_117 _ _ _ _ _ _ _ hD hP hS (lv_sub hl [0, 1, 2, 3] rfl)
        · have hD := ifn hD c
          refine lv_aload_n hx hb dX1_readNumber_67 rfl (lv_at hl 0 rfl) ?_
          refine rg (Wf := fun z => Wf z m) (mm := h) hx hb hT hu1 hown hK hP (hLh m) 4 0 (Nat.le_of_ble_eq_true rfl) (hs4 _ _) rfl (Nat.le_of_ble_eq_true rfl) (Fx0.T tw_2_213) rfl (v := .ref (adh 5)) rfl dX1_readNumber_68 ?_
          refine lv_aload_n hx hb dX1_readNumber_71 rfl (lv_at hl 0 rfl) ?_
          refine rg (Wf := fun z => Wf z m) (mm := h) hx hb hT hu1 hown hK hP (hLh m) 4 3 (Nat.le_of_ble_eq_true rfl) (hs4 _ _) rfl (Nat.le_of_ble_eq_true rfl) (Fx0.T tw_2_216) rfl (v := .int (gi h 4 3)) rfl dX1_readNumber_72 ?_
          obtain ⟨h13, hD⟩ := gd_el hD
          refine rbald (Wf := fun z => Wf z m) (mm := h) hx hb hK hP (hLh m) 5 (Nat.le_of_ble_eq_true rfl) (hs5 _ _) h13 rfl dX1_readNumber_75 ?_
          refine lv_bipush (v := (57 : Int32)) hx hb dX1_readNumber_76 (by decide) ?_
          refine lv_icmp_gt (tgt := 117) hx hb dX1_readNumber_78 (by decide) (fun c => ?_) (fun c => ?_)
          · have hD := ifp hD c
            exact c_117 _ _ _ _ _ _ _ hD hP hS (lv_sub hl [0, 1, 2, 3] rfl)
          · have hD := ifn hD c
            refine lv_bipush (v := (10 : Int32)) hx hb dX1_readNumber_81 (by decide) ?_
            refine lv_iload_n hx hb dX1_readNumber_83 rfl (lv_at hl 3 rfl) ?_
            refine lv_imul hx hb dX1_readNumber_84 ?_
            refine lv_aload_n hx hb dX1_readNumber_85 rfl (lv_at hl 0 rfl) ?_
            refine rg (Wf := fun z => Wf z m) (mm := h) hx hb hT hu1 hown hK hP (hLh m) 4 0 (Nat.le_of_ble_eq_true rfl) (hs4 _ _) rfl (Nat.le_of_ble_eq_true rfl) (Fx0.T tw_2_213) rfl (v := .ref (adh 5)) rfl dX1_readNumber_86 ?_
            refine lv_aload_n hx hb dX1_readNumber_89 rfl (lv_at hl 0 rfl) ?_
            refine rg (Wf := fun z => Wf z m) (mm := h) hx hb hT hu1 hown hK hP (hLh m) 4 3 (Nat.le_of_ble_eq_true rfl) (hs4 _ _) rfl (Nat.le_of_ble_eq_true rfl) (Fx0.T tw_2_216) rfl (v := .int (gi h 4 3)) rfl dX1_readNumber_90 ?_
            obtain ⟨h14, hD⟩ := gd_el hD
            refine rbald (Wf := fun z => Wf z m) (mm := h) hx hb hK hP (hLh m) 5 (Nat.le_of_ble_eq_true rfl) (hs5 _ _) h14 rfl dX1_readNumber_93 ?_
            refine lv_iadd hx hb dX1_readNumber_94 ?_
            refine lv_bipush (v := (48 : Int32)) hx hb dX1_readNumber_95 (by decide) ?_
            refine lv_isub hx hb dX1_readNumber_97 ?_
            refine lv_ldc (v := (1000000 : Int32)) hx hb hown (Fx0.T tw_3_155) dX1_readNumber_98 ?_
            refine va_mmin hx hb (hml.trans hl.1.symm) hown (Fx0.T tw_3_120) (Fx0.T tw_3_121) (Fx0.T tw_1_18) (Fx0.T tw_3_122) (Nat.le_of_ble_eq_true rfl) (Nat.le_of_ble_eq_true rfl) (Nat.le_refl _) (Nat.le_refl _) dX1_readNumber_100 ?_
            obtain ⟨v15, ev15, hD⟩ := bnd_el hD
            refine lv_nmi ev15 ?_
            refine lv_istore_n (lv' := [(3, .int v15), (0, .ref (adh 4)), (1, .int x1), (2, .int x2)]) hx hb dX1_readNumber_103 rfl hl (by decide) rfl (fun ls hl => ?_)
            refine lv_aload_n hx hb dX1_readNumber_104 rfl (lv_at hl 1 rfl) ?_
            refine lv_dup hx hb dX1_readNumber_105 rfl ?_
            refine rg (Wf := fun z => Wf z m) (mm := h) hx hb hT hu1 hown hK hP (hLh m) 4 3 (Nat.le_of_ble_eq_true rfl) (hs4 _ _) rfl (Nat.le_of_ble_eq_true rfl) (Fx0.T tw_2_216) rfl (v := .int (gi h 4 3)) rfl dX1_readNumber_106 ?_
            refine lv_iconst (v := (1 : Int32)) hx hb dX1_readNumber_109 (by decide) ?_
            refine lv_iadd hx hb dX1_readNumber_110 ?_
            obtain ⟨m16, em16, hD⟩ := bnd_el hD
            refine rp (Wf := fun z => Wf z m) (mm := h) hx hb hT hu1 tyX1_ok nmX1 hown hK hP (hD1 _ (hAd _ _ _ _)) hS (hLh m) 4 3 (Nat.le_of_ble_eq_true rfl) (hs4 _ _) (hs4 _ _) rfl (Nat.le_of_ble_eq_true rfl) (Fx0.T tw_2_216) rfl rfl rfl rfl (Nat.le_of_ble_eq_true rfl) dX1_readNumber_111 em16 (fun H locs hP hS => ?_)
            refine lv_goto (tgt := 42) hx hb dX1_readNumber_114 (by decide) ?_
            exact ih _ _ _ _ _ _ _ hD hP hS (lv_sub hl [1, 2, 3, 0] rfl)
  refine lv_aload_n hx hb dX1_readNumber_0 rfl (lv_at hl 0 rfl) ?_
  refine lv_aload_n hx hb dX1_readNumber_1 rfl (lv_at hl 0 rfl) ?_
  obtain ⟨v1, m2, z3, hD⟩ := b2_el hD
  refine rcV (Wf := fun z => Wf z m) (mm := h) (As := []) (rest := [.ref (adh 4)]) Fx0 (c_X1_isAtEnd l (Wf := fun z0_ z1_ => Wf z0_ z1_) (fun z1_ => hLh z1_) (fun z0_ => hL z0_) (fun a0_ b0_ a1_ b1_ => hAd a0_ b0_ a1_ b1_) hm2 h m z3) hP (hD1 _ (hAd _ _ _ _)) hS (hA1 _ _ (hAd _ _ _ _) hS.1) (hLh m) (Nat.le_of_ble_eq_true rfl) (hs4 _ _) rfl tw_3_135 tw_3_132 tw_3_134 ts_13 tw_1_12 yd_X1_isAtEnd ⟨(Nat.le_of_ble_eq_true rfl), (Nat.le_of_ble_eq_true rfl)⟩ rfl hl.1 rfl (Nat.le_of_ble_eq_true rfl) dX1_readNumber_2 (fun H locs hP hS => ?_)
  refine lv_if_eq (tgt := 15) hx hb dX1_readNumber_5 (by decide) (fun c => ?_) (fun c => ?_)
  · have hD := ifp hD c
    refine lv_aload_n hx hb dX1_readNumber_15 rfl (lv_at hl 0 rfl) ?_
    refine rg (Wf := fun z => Wf z m) (mm := m2) hx hb hT hu1 hown hK hP (hLh m) 4 3 (Nat.le_of_ble_eq_true rfl) (hs4 _ _) rfl (Nat.le_of_ble_eq_true rfl) (Fx0.T tw_2_216) rfl (v := .int (gi m2 4 3)) rfl dX1_readNumber_16 ?_
    obtain ⟨m4, em4, hD⟩ := bnd_el hD
    refine rp (Wf := fun z => Wf z m) (mm := m2) hx hb hT hu1 tyX1_ok nmX1 hown hK hP (hD1 _ (hAd _ _ _ _)) hS (hLh m) 4 5 (Nat.le_of_ble_eq_true rfl) (hs4 _ _) (hs4 _ _) rfl (Nat.le_of_ble_eq_true rfl) (Fx0.T tw_2_218) rfl rfl rfl rfl (Nat.le_of_ble_eq_true rfl) dX1_readNumber_19 em4 (fun H locs hP hS => ?_)
    refine lv_aload_n hx hb dX1_readNumber_22 rfl (lv_at hl 0 rfl) ?_
    obtain ⟨v5, m6, z7, hD⟩ := b2_el hD
    refine rcV (Wf := fun z => Wf z m) (mm := m4) (As := []) (rest := []) Fx0 (c_X1_isAtDigit l (Wf := fun z0_ z1_ => Wf z0_ z1_) (fun z1_ => hLh z1_) (fun z0_ => hL z0_) (fun a0_ b0_ a1_ b1_ => hAd a0_ b0_ a1_ b1_) hm2 m4 m z7) hP (hD1 _ (hAd _ _ _ _)) hS (hA1 _ _ (hAd _ _ _ _) hS.1) (hLh m) (Nat.le_of_ble_eq_true rfl) (hs4 _ _) rfl tw_3_154 tw_3_151 tw_3_153 ts_17 tw_1_12 yd_X1_isAtDigit ⟨(Nat.le_of_ble_eq_true rfl), (Nat.le_of_ble_eq_true rfl)⟩ rfl hl.1 rfl (Nat.le_of_ble_eq_true rfl) dX1_readNumber_23 (fun H locs hP hS => ?_)
    refine lv_if_ne (tgt := 40) hx hb dX1_readNumber_26 (by decide) (fun c => ?_) (fun c => ?_)
    · have hD := ifn hD c
      refine lv_iconst (v := (0 : Int32)) hx hb dX1_readNumber_40 (by decide) ?_
      refine lv_istore_n (lv' := [(3, .int (0 : Int32)), (0, .ref (adh 4)), (1, .int x1), (2, .int x2)]) hx hb dX1_readNumber_41 rfl hl (by decide) rfl (fun ls hl => ?_)
      exact c_42 FU _ _ _ _ _ _ _ hD hP hS (lv_sub hl [1, 2, 3, 0] rfl)
    · have hD := ifp hD c
      refine lv_aload_n hx hb dX1_readNumber_29 rfl (lv_at hl 0 rfl) ?_
      refine lv_iconst (v := (1 : Int32)) hx hb dX1_readNumber_30 (by decide) ?_
      refine lv_aload_n hx hb dX1_readNumber_31 rfl (lv_at hl 0 rfl) ?_
      refine rg (Wf := fun z => Wf z m) (mm := m6) hx hb hT hu1 hown hK hP (hLh m) 4 5 (Nat.le_of_ble_eq_true rfl) (hs4 _ _) rfl (Nat.le_of_ble_eq_true rfl) (Fx0.T tw_2_218) rfl (v := .int (gi m6 4 5)) rfl dX1_readNumber_32 ?_
      obtain ⟨m17, z18, hD⟩ := b1_el hD
      refine rcV (Wf := fun z => Wf z m) (mm := m6) (As := [.int (1 : Int32), .int (gi m6 4 5)]) (rest := []) Fx0 (c_X1_fail l (Wf := fun z0_ z1_ => Wf z0_ z1_) (fun z1_ => hLh z1_) (fun z0_ => hL z0_) (fun a0_ b0_ a1_ b1_ => hAd a0_ b0_ a1_ b1_) hm2 m6 m (1 : Int32) (gi m6 4 5) z18) hP (hD1 _ (hAd _ _ _ _)) hS (hA1 _ _ (hAd _ _ _ _) hS.1) (hLh m) (Nat.le_of_ble_eq_true rfl) (hs4 _ _) rfl tw_3_146 tw_3_143 tw_3_145 ts_15 tw_1_12 yd_X1_fail ⟨(Nat.le_of_ble_eq_true rfl), (Nat.le_of_ble_eq_true rfl)⟩ rfl hl.1 rfl (Nat.le_of_ble_eq_true rfl) dX1_readNumber_35 (fun H locs hP hS => ?_)
      refine lv_iload_n hx hb dX1_readNumber_38 rfl (lv_at hl 1 rfl) ?_
      cases hD
      exact hret _ _ _ hP hS (fun Qc hq => W.iret hx hb hr hq hS.2.2 dX1_readNumber_39 hlocks)
  · have hD := ifn hD c
    refine lv_aload_n hx hb dX1_readNumber_8 rfl (lv_at hl 0 rfl) ?_
    refine rg (Wf := fun z => Wf z m) (mm := m2) hx hb hT hu1 hown hK hP (hLh m) 4 2 (Nat.le_of_ble_eq_true rfl) (hs4 _ _) rfl (Nat.le_of_ble_eq_true rfl) (Fx0.T tw_2_215) rfl (v := .int (gi m2 4 2)) rfl dX1_readNumber_9 ?_
    refine lv_goto (tgt := 19) hx hb dX1_readNumber_12 (by decide) ?_
    obtain ⟨m19, em19, hD⟩ := bnd_el hD
    refine rp (Wf := fun z => Wf z m) (mm := m2) hx hb hT hu1 tyX1_ok nmX1 hown hK hP (hD1 _ (hAd _ _ _ _)) hS (hLh m) 4 5 (Nat.le_of_ble_eq_true rfl) (hs4 _ _) (hs4 _ _) rfl (Nat.le_of_ble_eq_true rfl) (Fx0.T tw_2_218) rfl rfl rfl rfl (Nat.le_of_ble_eq_true rfl) dX1_readNumber_19 em19 (fun H locs hP hS => ?_)
    refine lv_aload_n hx hb dX1_readNumber_22 rfl (lv_at hl 0 rfl) ?_
    obtain ⟨v20, m21, z22, hD⟩ := b2_el hD
    refine rcV (Wf := fun z => Wf z m) (mm := m19) (As := []) (rest := []) Fx0 (c_X1_isAtDigit l (Wf := fun z0_ z1_ => Wf z0_ z1_) (fun z1_ => hLh z1_) (fun z0_ => hL z0_) (fun a0_ b0_ a1_ b1_ => hAd a0_ b0_ a1_ b1_) hm2 m19 m z22) hP (hD1 _ (hAd _ _ _ _)) hS (hA1 _ _ (hAd _ _ _ _) hS.1) (hLh m) (Nat.le_of_ble_eq_true rfl) (hs4 _ _) rfl tw_3_154 tw_3_151 tw_3_153 ts_17 tw_1_12 yd_X1_isAtDigit ⟨(Nat.le_of_ble_eq_true rfl), (Nat.le_of_ble_eq_true rfl)⟩ rfl hl.1 rfl (Nat.le_of_ble_eq_true rfl) dX1_readNumber_23 (fun H locs hP hS => ?_)
    refine lv_if_ne (tgt := 40) hx hb dX1_readNumber_26 (by decide) (fun c => ?_) (fun c => ?_)
    · have hD := ifn hD c
      refine lv_iconst (v := (0 : Int32)) hx hb dX1_readNumber_40 (by decide) ?_
      refine lv_istore_n (lv' := [(3, .int (0 : Int32)), (0, .ref (adh 4)), (1, .int x1), (2, .int x2)]) hx hb dX1_readNumber_41 rfl hl (by decide) rfl (fun ls hl => ?_)
      exact c_42 FU _ _ _ _ _ _ _ hD hP hS (lv_sub hl [1, 2, 3, 0] rfl)
    · have hD := ifp hD c
      refine lv_aload_n hx hb dX1_readNumber_29 rfl (lv_at hl 0 rfl) ?_
      refine lv_iconst (v := (1 : Int32)) hx hb dX1_readNumber_30 (by decide) ?_
      refine lv_aload_n hx hb dX1_readNumber_31 rfl (lv_at hl 0 rfl) ?_
      refine rg (Wf := fun z => Wf z m) (mm := m21) hx hb hT hu1 hown hK hP (hLh m) 4 5 (Nat.le_of_ble_eq_true rfl) (hs4 _ _) rfl (Nat.le_of_ble_eq_true rfl) (Fx0.T tw_2_218) rfl (v := .int (gi m21 4 5)) rfl dX1_readNumber_32 ?_
      obtain ⟨m23, z24, hD⟩ := b1_el hD
      refine rcV (Wf := fun z => Wf z m) (mm := m21) (As := [.int (1 : Int32), .int (gi m21 4 5)]) (rest := []) Fx0 (c_X1_fail l (Wf := fun z0_ z1_ => Wf z0_ z1_) (fun z1_ => hLh z1_) (fun z0_ => hL z0_) (fun a0_ b0_ a1_ b1_ => hAd a0_ b0_ a1_ b1_) hm2 m21 m (1 : Int32) (gi m21 4 5) z24) hP (hD1 _ (hAd _ _ _ _)) hS (hA1 _ _ (hAd _ _ _ _) hS.1) (hLh m) (Nat.le_of_ble_eq_true rfl) (hs4 _ _) rfl tw_3_146 tw_3_143 tw_3_145 ts_15 tw_1_12 yd_X1_fail ⟨(Nat.le_of_ble_eq_true rfl), (Nat.le_of_ble_eq_true rfl)⟩ rfl hl.1 rfl (Nat.le_of_ble_eq_true rfl) dX1_readNumber_35 (fun H locs hP hS => ?_)
      refine lv_iload_n hx hb dX1_readNumber_38 rfl (lv_at hl 1 rfl) ?_
      cases hD
      exact hret _ _ _ hP hS (fun Qc hq => W.iret hx hb hr hq hS.2.2 dX1_readNumber_39 hlocks)

noncomputable def D_X1_readSettings_40 (k2 : Int32 → Int32 → MM → MM → Option (MM × MM)) (x2 : Int32) (x3 : Int32) (xt0 : Int32) (h : MM) (m : MM) : Option (MM × MM) := if x3 < 0 ∨ 15 ≤ x3.toNatClampNeg then none else (b2 (D_X1_readNumber (lea x3.toNatClampNeg) xt0 h m) (fun v5 m6 => if x3 < 0 ∨ 15 ≤ x3.toNatClampNeg then none else (bnd (si m 25 x3.toNatClampNeg v5) (fun m9 => bnd (x3 + (1 : Int32)) (fun v10 => k2 x2 v10 m6 m9)))))
noncomputable def D_X1_readSettings_2 : Nat → Int32 → Int32 → MM → MM → Option (MM × MM)
  | 0, _, _, _, _ => none
  | n + 1, x2, x3, h, m => if x2 < x3 then (some (h, m)) else (if (gi h 4 6) = 0 then (if x3 = (6 : Int32) then (D_X1_readSettings_40 (D_X1_readSettings_2 n) x2 x3 ((100 : Int32) - (gi m 25 5)) h m) else (if x3 < 0 ∨ 15 ≤ x3.toNatClampNeg then none else (D_X1_readSettings_40 (D_X1_readSettings_2 n) x2 x3 (mst x3.toNatClampNeg) h m))) else (some (h, m)))
noncomputable def D_X1_readSettings (x1 : Int32) (x2 : Int32) (h : MM) (m : MM) : Option (MM × MM) := D_X1_readSettings_2 FU x2 x1 h m
set_option maxHeartbeats 4000000 in
set_option maxRecDepth 100000 in
theorem c_X1_readSettings (l : Launch) {D : va_G} {cs : Nat → ClassId} {adh ad ma : Nat → Nat} {Wf : MM → MM → va_W} (hLh : ∀ m : MM, Ln 8 adh (hsh cs adh ma) (fun z => Wf z m)) (hL : ∀ h : MM, Ln 51 ad (msh cs ad) (fun z => Wf h z)) (hAd : ∀ a0_ b0_ a1_ b1_ : MM, (Wf a0_ a1_).map (fun q => q.1) = (Wf b0_ b1_).map (fun q => q.1)) (hm2 : ma 2 = ad 24) (h : MM) (m : MM) (x1 : Int32) (x2 : Int32) {h' : MM} {m' : MM} (hD : D_X1_readSettings x1 x2 h m = some (h', m')) : Ct l yX1_readSettings cX1_readSettings 5 none 3 63 D cs [.ref (adh 4), .int x1, .int x2] (Wf h m) (Wf h' m') (none) := by
  refine Ct.ofW (by decide) (Nat.le_of_ble_eq_true rfl) (hAd _ _ _ _) ?_
  intro p e s m0 below meth c A Q ls args hx hb hr hml hlocks hown hts hK hP hD1 hSS hS hA1 hl hret
  have hT : ∀ w ∈ TBL, w.before args s = true := fun w h => hts w (List.mem_cons_of_mem _ h)
  have Fx0 : Fx p l m0 c cX1_readSettings 5 s args yX1_readSettings cX1_readSettings 5 none D cs A := ⟨hx, hb, hml, hown, hts, hK, hSS⟩
  have hown : s.vm.findClass RX1 = some m0.cls := hown
  have hl : lv_has ls 5 [(0, .ref (adh 4)), (1, .int x1), (2, .int x2)] := hl
  unfold D_X1_readSettings at hD
  have c_40 : ∀ (k2 : Int32 → Int32 → MM → MM → Option (MM × MM)) (hk2 : ∀ (x2 : Int32) (x3 : Int32) (h : MM) (m : MM) (H : Heap) (locs : List Loc) (ls : Array Slot), k2 x2 x3 h m = some (h', m') → va_P D vwCl (Wf h m) H → va_S A s.heap H locs → lv_has ls 5 [(0, .ref (adh 4)), (2, .int x2), (3, .int x3)] → W p l e ({ frames := 3, cells := 0, slots := 0, locals := 63 } : Room) s m0 args below meth c H locs 0 0 Q (F0 m0 2 ls [])), ∀ (x2 : Int32) (x3 : Int32) (xt0 : Int32) (h : MM) (m : MM) (H : Heap) (locs : List Loc) (ls : Array Slot), D_X1_readSettings_40 k2 x2 x3 xt0 h m = some (h', m') → va_P D vwCl (Wf h m) H → va_S A s.heap H locs → lv_has ls 5 [(0, .ref (adh 4)), (2, .int x2), (3, .int x3)] → W p l e ({ frames := 3, cells := 0, slots := 0, locals := 63 } : Room) s m0 args below meth c H locs 0 0 Q (F0 m0 40 ls [.int xt0]) := by
    intro k2 hk2 x2 x3 xt0 h m H locs ls hD hP hS hl
    unfold D_X1_readSettings_40 at hD
    refine lv_istore (lv' := [(4, .int xt0), (0, .ref (adh 4)), (2, .int x2), (3, .int x3)]) hx hb dX1_readSettings_40 hl (by decide) rfl (fun ls hl => ?_)
    refine lv_aload_n hx hb dX1_readSettings_42 rfl (lv_at hl 1 rfl) ?_
    refine rg (Wf := fun z => Wf z m) (mm := h) hx hb hT hu1 hown hK hP (hLh m) 4 1 (Nat.le_of_ble_eq_true rfl) (hs4 _ _) rfl (Nat.le_of_ble_eq_true rfl) (Fx0.T tw_2_214) rfl (v := .ref (ad 24)) (congrArg (fun z => some (Value.ref z)) hm2) dX1_readSettings_43 ?_
    refine rgN (Wf := fun z => Wf h z) (mm := m) hx hb hT hu6 hown hK hP (hL h) 24 0 (Nat.le_of_ble_eq_true rfl) (ms24 _ _) rfl (Nat.le_of_ble_eq_true rfl) tw_2_77 rfl (v := .ref (ad 25)) rfl dX1_readSettings_46 ?_
    refine lv_iload_n hx hb dX1_readSettings_49 rfl (lv_at hl 3 rfl) ?_
    refine lv_aload_n hx hb dX1_readSettings_50 rfl (lv_at hl 1 rfl) ?_
    obtain ⟨t3, hzt3, htt3⟩ := hSS.2.1
    refine rgsN hx hb hzt3 hS hown hK tw_3_162 dX1_readSettings_51 ?_
    refine lv_iload_n hx hb dX1_readSettings_54 rfl (lv_at hl 3 rfl) ?_
    obtain ⟨h4, hD⟩ := gd_el hD
    refine rti hx hb htt3 hS h4 rfl dX1_readSettings_55 ?_
    refine lv_iload hx hb dX1_readSettings_56 (lv_at hl 0 rfl) ?_
    obtain ⟨v5, m6, z7, hD⟩ := b2_el hD
    refine rcV (Wf := fun z => Wf z m) (mm := h) (As := [.int (lea x3.toNatClampNeg), .int xt0]) (rest := [.int x3, .ref (ad 25)]) Fx0 (c_X1_readNumber l (Wf := fun z0_ z1_ => Wf z0_ z1_) (fun z1_ => hLh z1_) (fun z0_ => hL z0_) (fun a0_ b0_ a1_ b1_ => hAd a0_ b0_ a1_ b1_) hm2 h m (lea x3.toNatClampNeg) xt0 z7) hP (hD1 _ (hAd _ _ _ _)) hS (hA1 _ _ (hAd _ _ _ _) hS.1) (hLh m) (Nat.le_of_ble_eq_true rfl) (hs4 _ _) rfl tw_3_150 tw_3_147 tw_3_149 ts_16 tw_1_12 yd_X1_readNumber ⟨(Nat.le_of_ble_eq_true rfl), (Nat.le_of_ble_eq_true rfl)⟩ rfl hl.1 rfl (Nat.le_of_ble_eq_true rfl) dX1_readSettings_58 (fun H locs hP hS => ?_)
    obtain ⟨h8, hD⟩ := gd_el hD
    obtain ⟨m9, em9, hD⟩ := bnd_el hD
    refine riast (Wf := fun z => Wf m6 z) (mm := m) hx hb hK hP (hD1 _ (hAd _ _ _ _)) hS (hL m6) 25 (Nat.le_of_ble_eq_true rfl) (fun _ => ms25 _ _) h8 rfl dX1_readSettings_61 em9 (fun H locs hP hS => ?_)
    obtain ⟨v10, ev10, hD⟩ := bnd_el hD
    refine lv_iinc (v := v10) (lv' := [(3, .int v10), (4, .int xt0), (0, .ref (adh 4)), (2, .int x2)]) hx hb dX1_readSettings_62 hl (k := 3) rfl (by rw [ev10]; rfl) (by decide) rfl (fun ls hl => ?_)
    refine lv_goto (tgt := 2) hx hb dX1_readSettings_65 (by decide) ?_
    exact hk2 _ _ _ _ _ _ _ hD hP hS (lv_sub hl [2, 3, 0] rfl)
  have c_2 : ∀ (n : Nat), ∀ (x2 : Int32) (x3 : Int32) (h : MM) (m : MM) (H : Heap) (locs : List Loc) (ls : Array Slot), D_X1_readSettings_2 n x2 x3 h m = some (h', m') → va_P D vwCl (Wf h m) H → va_S A s.heap H locs → lv_has ls 5 [(0, .ref (adh 4)), (2, .int x2), (3, .int x3)] → W p l e ({ frames := 3, cells := 0, slots := 0, locals := 63 } : Room) s m0 args below meth c H locs 0 0 Q (F0 m0 2 ls []) := by
    intro n
    induction n with
    | zero =>
      intro x2 x3 h m H locs ls hD hP hS hl
      exact nn_el hD
    | succ n ih =>
      intro x2 x3 h m H locs ls hD hP hS hl
      rw [D_X1_readSettings_2] at hD
      refine lv_iload_n hx hb dX1_readSettings_2 rfl (lv_at hl 2 rfl) ?_
      refine lv_iload_n hx hb dX1_readSettings_3 rfl (lv_at hl 1 rfl) ?_
      refine lv_icmp_gt (tgt := 68) hx hb dX1_readSettings_4 (by decide) (fun c => ?_) (fun c => ?_)
      · have hD := ifp hD c
        cases hD
        exact hret _ _ _ hP hS (fun Qc hq => W.vret hx hb hr hq hS.2.2 dX1_readSettings_68 hlocks)
      · have hD := ifn hD c
        refine lv_aload_n hx hb dX1_readSettings_7 rfl (lv_at hl 0 rfl) ?_
        refine rg (Wf := fun z => Wf z m) (mm := h) hx hb hT hu1 hown hK hP (hLh m) 4 6 (Nat.le_of_ble_eq_true rfl) (hs4 _ _) rfl (Nat.le_of_ble_eq_true rfl) (Fx0.T tw_2_219) rfl (v := .int (gi h 4 6)) rfl dX1_readSettings_8 ?_
        refine lv_if_ne (tgt := 68) hx hb dX1_readSettings_11 (by decide) (fun c => ?_) (fun c => ?_)
        · have hD := ifn hD c
          cases hD
          exact hret _ _ _ hP hS (fun Qc hq => W.vret hx hb hr hq hS.2.2 dX1_readSettings_68 hlocks)
        · have hD := ifp hD c
          refine lv_iload_n hx hb dX1_readSettings_14 rfl (lv_at hl 2 rfl) ?_
          refine lv_bipush (v := (6 : Int32)) hx hb dX1_readSettings_15 (by decide) ?_
          refine lv_icmp_ne (tgt := 35) hx hb dX1_readSettings_17 (by decide) (fun c => ?_) (fun c => ?_)
          · have hD := ifn hD c
            obtain ⟨t1, hzt1, htt1⟩ := hSS.2.2.1
            refine rgsN hx hb hzt1 hS hown hK tw_3_160 dX1_readSettings_35 ?_
            refine lv_iload_n hx hb dX1_readSettings_38 rfl (lv_at hl 2 rfl) ?_
            obtain ⟨h2, hD⟩ := gd_el hD
            refine rti hx hb htt1 hS h2 rfl dX1_readSettings_39 ?_
            exact c_40 _ ih _ _ _ _ _ _ _ _ hD hP hS (lv_sub hl [0, 1, 2] rfl)
          · have hD := ifp hD c
            refine lv_bipush (v := (100 : Int32)) hx hb dX1_readSettings_20 (by decide) ?_
            refine lv_aload_n hx hb dX1_readSettings_22 rfl (lv_at hl 0 rfl) ?_
            refine rg (Wf := fun z => Wf z m) (mm := h) hx hb hT hu1 hown hK hP (hLh m) 4 1 (Nat.le_of_ble_eq_true rfl) (hs4 _ _) rfl (Nat.le_of_ble_eq_true rfl) (Fx0.T tw_2_214) rfl (v := .ref (ad 24)) (congrArg (fun z => some (Value.ref z)) hm2) dX1_readSettings_23 ?_
            refine rgN (Wf := fun z => Wf h z) (mm := m) hx hb hT hu6 hown hK hP (hL h) 24 0 (Nat.le_of_ble_eq_true rfl) (ms24 _ _) rfl (Nat.le_of_ble_eq_true rfl) tw_2_77 rfl (v := .ref (ad 25)) rfl dX1_readSettings_26 ?_
            refine lv_iconst (v := (5 : Int32)) hx hb dX1_readSettings_29 (by decide) ?_
            refine riald (Wf := fun z => Wf h z) (mm := m) hx hb hK hP (hL h) 25 (Nat.le_of_ble_eq_true rfl) (ms25 _ _) (by decide) (j := 5) (by decide) dX1_readSettings_30 ?_
            refine lv_isub hx hb dX1_readSettings_31 ?_
            refine lv_goto (tgt := 40) hx hb dX1_readSettings_32 (by decide) ?_
            exact c_40 _ ih _ _ _ _ _ _ _ _ hD hP hS (lv_sub hl [0, 1, 2] rfl)
  refine lv_iload_n hx hb dX1_readSettings_0 rfl (lv_at hl 1 rfl) ?_
  refine lv_istore_n (lv' := [(3, .int x1), (0, .ref (adh 4)), (1, .int x1), (2, .int x2)]) hx hb dX1_readSettings_1 rfl hl (by decide) rfl (fun ls hl => ?_)
  exact c_2 FU _ _ _ _ _ _ _ hD hP hS (lv_sub hl [1, 3, 0] rfl)

noncomputable def D_X1_readNozzles_55 (k2 : Int32 → MM → MM → Option (MM × MM)) (x1 : Int32) (h : MM) (m : MM) : Option (MM × MM) := b2 (D_X1_readNumber (1 : Int32) (4 : Int32) h m) (fun v4 m5 => if (gi m5 4 6) = 0 then (b1 (D_X6_addType v4 m) (fun m8 => bnd (x1 + (1 : Int32)) (fun v10 => k2 v10 m5 m8))) else (bnd (x1 + (1 : Int32)) (fun v7 => k2 v7 m5 m)))
noncomputable def D_X1_readNozzles_26 (k2 : Int32 → MM → MM → Option (MM × MM)) (x1 : Int32) (h : MM) (m : MM) : Option (MM × MM) := b2 (D_X1_isAtDigit h m) (fun v1 m2 => if v1 = 0 then (D_X1_readNozzles_55 k2 x1 m2 m) else (if (gi m 24 3) = (6 : Int32) then (b1 (D_X1_fail (3 : Int32) (gi m2 4 3) m2 m) (fun m11 => some (m11, m))) else (D_X1_readNozzles_55 k2 x1 m2 m)))
noncomputable def D_X1_readNozzles_2 : Nat → Int32 → MM → MM → Option (MM × MM)
  | 0, _, _, _ => none
  | n + 1, x1, h, m => if (6 : Int32) < x1 then (some (h, m)) else (if (gi h 4 6) = 0 then (if x1 = 0 then (D_X1_readNozzles_26 (D_X1_readNozzles_2 n) x1 h m) else (b2 (D_X1_isAtDigit h m) (fun v13 m14 => if v13 = 0 then (some (m14, m)) else (D_X1_readNozzles_26 (D_X1_readNozzles_2 n) x1 m14 m)))) else (some (h, m)))
noncomputable def D_X1_readNozzles (h : MM) (m : MM) : Option (MM × MM) := D_X1_readNozzles_2 FU (0 : Int32) h m
set_option maxHeartbeats 4000000 in
set_option maxRecDepth 100000 in
theorem c_X1_readNozzles (l : Launch) {D : va_G} {cs : Nat → ClassId} {adh ad ma : Nat → Nat} {Wf : MM → MM → va_W} (hLh : ∀ m : MM, Ln 8 adh (hsh cs adh ma) (fun z => Wf z m)) (hL : ∀ h : MM, Ln 51 ad (msh cs ad) (fun z => Wf h z)) (hAd : ∀ a0_ b0_ a1_ b1_ : MM, (Wf a0_ a1_).map (fun q => q.1) = (Wf b0_ b1_).map (fun q => q.1)) (hm2 : ma 2 = ad 24) (h : MM) (m : MM) {h' : MM} {m' : MM} (hD : D_X1_readNozzles h m = some (h', m')) : Ct l yX1_readNozzles cX1_readNozzles 3 none 3 63 D cs [.ref (adh 4)] (Wf h m) (Wf h' m') (none) := by
  refine Ct.ofW (by decide) (Nat.le_of_ble_eq_true rfl) (hAd _ _ _ _) ?_
  intro p e s m0 below meth c A Q ls args hx hb hr hml hlocks hown hts hK hP hD1 hSS hS hA1 hl hret
  have hT : ∀ w ∈ TBL, w.before args s = true := fun w h => hts w (List.mem_cons_of_mem _ h)
  have Fx0 : Fx p l m0 c cX1_readNozzles 3 s args yX1_readNozzles cX1_readNozzles 3 none D cs A := ⟨hx, hb, hml, hown, hts, hK, hSS⟩
  have hown : s.vm.findClass RX1 = some m0.cls := hown
  have hl : lv_has ls 3 [(0, .ref (adh 4))] := hl
  unfold D_X1_readNozzles at hD
  have c_55 : ∀ (k2 : Int32 → MM → MM → Option (MM × MM)) (hk2 : ∀ (x1 : Int32) (h : MM) (m : MM) (H : Heap) (locs : List Loc) (ls : Array Slot), k2 x1 h m = some (h', m') → va_P D vwCl (Wf h m) H → va_S A s.heap H locs → lv_has ls 3 [(0, .ref (adh 4)), (1, .int x1)] → W p l e ({ frames := 3, cells := 0, slots := 0, locals := 63 } : Room) s m0 args below meth c H locs 0 0 Q (F0 m0 2 ls [])), ∀ (x1 : Int32) (h : MM) (m : MM) (H : Heap) (locs : List Loc) (ls : Array Slot), D_X1_readNozzles_55 k2 x1 h m = some (h', m') → va_P D vwCl (Wf h m) H → va_S A s.heap H locs → lv_has ls 3 [(0, .ref (adh 4)), (1, .int x1)] → W p l e ({ frames := 3, cells := 0, slots := 0, locals := 63 } : Room) s m0 args below meth c H locs 0 0 Q (F0 m0 55 ls []) := by
    intro k2 hk2 x1 h m H locs ls hD hP hS hl
    unfold D_X1_readNozzles_55 at hD
    refine lv_aload_n hx hb dX1_readNozzles_55 rfl (lv_at hl 0 rfl) ?_
    refine lv_iconst (v := (1 : Int32)) hx hb dX1_readNozzles_56 (by decide) ?_
    refine lv_iconst (v := (4 : Int32)) hx hb dX1_readNozzles_57 (by decide) ?_
    obtain ⟨v4, m5, z6, hD⟩ := b2_el hD
    refine rcV (Wf := fun z => Wf z m) (mm := h) (As := [.int (1 : Int32), .int (4 : Int32)]) (rest := []) Fx0 (c_X1_readNumber l (Wf := fun z0_ z1_ => Wf z0_ z1_) (fun z1_ => hLh z1_) (fun z0_ => hL z0_) (fun a0_ b0_ a1_ b1_ => hAd a0_ b0_ a1_ b1_) hm2 h m (1 : Int32) (4 : Int32) z6) hP (hD1 _ (hAd _ _ _ _)) hS (hA1 _ _ (hAd _ _ _ _) hS.1) (hLh m) (Nat.le_of_ble_eq_true rfl) (hs4 _ _) rfl tw_3_150 tw_3_147 tw_3_149 ts_16 tw_1_12 yd_X1_readNumber ⟨(Nat.le_of_ble_eq_true rfl), (Nat.le_of_ble_eq_true rfl)⟩ rfl hl.1 rfl (Nat.le_of_ble_eq_true rfl) dX1_readNozzles_58 (fun H locs hP hS => ?_)
    refine lv_istore_n (lv' := [(2, .int v4), (0, .ref (adh 4)), (1, .int x1)]) hx hb dX1_readNozzles_61 rfl hl (by decide) rfl (fun ls hl => ?_)
    refine lv_aload_n hx hb dX1_readNozzles_62 rfl (lv_at hl 1 rfl) ?_
    refine rg (Wf := fun z => Wf z m) (mm := m5) hx hb hT hu1 hown hK hP (hLh m) 4 6 (Nat.le_of_ble_eq_true rfl) (hs4 _ _) rfl (Nat.le_of_ble_eq_true rfl) (Fx0.T tw_2_219) rfl (v := .int (gi m5 4 6)) rfl dX1_readNozzles_63 ?_
    refine lv_if_ne (tgt := 77) hx hb dX1_readNozzles_66 (by decide) (fun c => ?_) (fun c => ?_)
    · have hD := ifn hD c
      obtain ⟨v7, ev7, hD⟩ := bnd_el hD
      refine lv_iinc (v := v7) (lv' := [(1, .int v7), (2, .int v4), (0, .ref (adh 4))]) hx hb dX1_readNozzles_77 hl (k := 2) rfl (by rw [ev7]; rfl) (by decide) rfl (fun ls hl => ?_)
      refine lv_goto (tgt := 2) hx hb dX1_readNozzles_80 (by decide) ?_
      exact hk2 _ _ _ _ _ _ hD hP hS (lv_sub hl [2, 0] rfl)
    · have hD := ifp hD c
      refine lv_aload_n hx hb dX1_readNozzles_69 rfl (lv_at hl 1 rfl) ?_
      refine rg (Wf := fun z => Wf z m) (mm := m5) hx hb hT hu1 hown hK hP (hLh m) 4 1 (Nat.le_of_ble_eq_true rfl) (hs4 _ _) rfl (Nat.le_of_ble_eq_true rfl) (Fx0.T tw_2_214) rfl (v := .ref (ad 24)) (congrArg (fun z => some (Value.ref z)) hm2) dX1_readNozzles_70 ?_
      refine lv_iload_n hx hb dX1_readNozzles_73 rfl (lv_at hl 0 rfl) ?_
      obtain ⟨m8, z9, hD⟩ := b1_el hD
      refine rcVN (Wf := fun z => Wf m5 z) (mm := m) (As := [.int v4]) (rest := []) Fx0 (c_X6_addType l (Wf := fun z0_ => Wf m5 z0_) (hL m5) (fun a0_ b0_ => hAd m5 m5 a0_ b0_) m v4 z9) hP (hD1 _ (hAd _ _ _ _)) hS (hA1 _ _ (hAd _ _ _ _) hS.1) (hL m5) (Nat.le_of_ble_eq_true rfl) (ms24 _ _) rfl tw_3_186 tw_3_183 tw_3_185 ts_22 tw_1_2 yd_X6_addType ⟨(Nat.le_of_ble_eq_true rfl), (Nat.le_of_ble_eq_true rfl)⟩ rfl hl.1 rfl (Nat.le_of_ble_eq_true rfl) dX1_readNozzles_74 (fun H locs hP hS => ?_)
      obtain ⟨v10, ev10, hD⟩ := bnd_el hD
      refine lv_iinc (v := v10) (lv' := [(1, .int v10), (2, .int v4), (0, .ref (adh 4))]) hx hb dX1_readNozzles_77 hl (k := 2) rfl (by rw [ev10]; rfl) (by decide) rfl (fun ls hl => ?_)
      refine lv_goto (tgt := 2) hx hb dX1_readNozzles_80 (by decide) ?_
      exact hk2 _ _ _ _ _ _ hD hP hS (lv_sub hl [2, 0] rfl)
  have c_26 : ∀ (k2 : Int32 → MM → MM → Option (MM × MM)) (hk2 : ∀ (x1 : Int32) (h : MM) (m : MM) (H : Heap) (locs : List Loc) (ls : Array Slot), k2 x1 h m = some (h', m') → va_P D vwCl (Wf h m) H → va_S A s.heap H locs → lv_has ls 3 [(0, .ref (adh 4)), (1, .int x1)] → W p l e ({ frames := 3, cells := 0, slots := 0, locals := 63 } : Room) s m0 args below meth c H locs 0 0 Q (F0 m0 2 ls [])), ∀ (x1 : Int32) (h : MM) (m : MM) (H : Heap) (locs : List Loc) (ls : Array Slot), D_X1_readNozzles_26 k2 x1 h m = some (h', m') → va_P D vwCl (Wf h m) H → va_S A s.heap H locs → lv_has ls 3 [(0, .ref (adh 4)), (1, .int x1)] → W p l e ({ frames := 3, cells := 0, slots := 0, locals := 63 } : Room) s m0 args below meth c H locs 0 0 Q (F0 m0 26 ls []) := by
    intro k2 hk2 x1 h m H locs ls hD hP hS hl
    unfold D_X1_readNozzles_26 at hD
    refine lv_aload_n hx hb dX1_readNozzles_26 rfl (lv_at hl 0 rfl) ?_
    obtain ⟨v1, m2, z3, hD⟩ := b2_el hD
    refine rcV (Wf := fun z => Wf z m) (mm := h) (As := []) (rest := []) Fx0 (c_X1_isAtDigit l (Wf := fun z0_ z1_ => Wf z0_ z1_) (fun z1_ => hLh z1_) (fun z0_ => hL z0_) (fun a0_ b0_ a1_ b1_ => hAd a0_ b0_ a1_ b1_) hm2 h m z3) hP (hD1 _ (hAd _ _ _ _)) hS (hA1 _ _ (hAd _ _ _ _) hS.1) (hLh m) (Nat.le_of_ble_eq_true rfl) (hs4 _ _) rfl tw_3_154 tw_3_151 tw_3_153 ts_17 tw_1_12 yd_X1_isAtDigit ⟨(Nat.le_of_ble_eq_true rfl), (Nat.le_of_ble_eq_true rfl)⟩ rfl hl.1 rfl (Nat.le_of_ble_eq_true rfl) dX1_readNozzles_27 (fun H locs hP hS => ?_)
    refine lv_if_eq (tgt := 55) hx hb dX1_readNozzles_30 (by decide) (fun c => ?_) (fun c => ?_)
    · have hD := ifp hD c
      exact c_55 _ hk2 _ _ _ _ _ _ hD hP hS (lv_sub hl [0, 1] rfl)
    · have hD := ifn hD c
      refine lv_aload_n hx hb dX1_readNozzles_33 rfl (lv_at hl 0 rfl) ?_
      refine rg (Wf := fun z => Wf z m) (mm := m2) hx hb hT hu1 hown hK hP (hLh m) 4 1 (Nat.le_of_ble_eq_true rfl) (hs4 _ _) rfl (Nat.le_of_ble_eq_true rfl) (Fx0.T tw_2_214) rfl (v := .ref (ad 24)) (congrArg (fun z => some (Value.ref z)) hm2) dX1_readNozzles_34 ?_
      refine rgN (Wf := fun z => Wf m2 z) (mm := m) hx hb hT hu6 hown hK hP (hL m2) 24 3 (Nat.le_of_ble_eq_true rfl) (ms24 _ _) rfl (Nat.le_of_ble_eq_true rfl) tw_2_87 rfl (v := .int (gi m 24 3)) rfl dX1_readNozzles_37 ?_
      refine lv_bipush (v := (6 : Int32)) hx hb dX1_readNozzles_40 (by decide) ?_
      refine lv_icmp_ne (tgt := 55) hx hb dX1_readNozzles_42 (by decide) (fun c => ?_) (fun c => ?_)
      · have hD := ifn hD c
        exact c_55 _ hk2 _ _ _ _ _ _ hD hP hS (lv_sub hl [0, 1] rfl)
      · have hD := ifp hD c
        refine lv_aload_n hx hb dX1_readNozzles_45 rfl (lv_at hl 0 rfl) ?_
        refine lv_iconst (v := (3 : Int32)) hx hb dX1_readNozzles_46 (by decide) ?_
        refine lv_aload_n hx hb dX1_readNozzles_47 rfl (lv_at hl 0 rfl) ?_
        refine rg (Wf := fun z => Wf z m) (mm := m2) hx hb hT hu1 hown hK hP (hLh m) 4 3 (Nat.le_of_ble_eq_true rfl) (hs4 _ _) rfl (Nat.le_of_ble_eq_true rfl) (Fx0.T tw_2_216) rfl (v := .int (gi m2 4 3)) rfl dX1_readNozzles_48 ?_
        obtain ⟨m11, z12, hD⟩ := b1_el hD
        refine rcV (Wf := fun z => Wf z m) (mm := m2) (As := [.int (3 : Int32), .int (gi m2 4 3)]) (rest := []) Fx0 (c_X1_fail l (Wf := fun z0_ z1_ => Wf z0_ z1_) (fun z1_ => hLh z1_) (fun z0_ => hL z0_) (fun a0_ b0_ a1_ b1_ => hAd a0_ b0_ a1_ b1_) hm2 m2 m (3 : Int32) (gi m2 4 3) z12) hP (hD1 _ (hAd _ _ _ _)) hS (hA1 _ _ (hAd _ _ _ _) hS.1) (hLh m) (Nat.le_of_ble_eq_true rfl) (hs4 _ _) rfl tw_3_146 tw_3_143 tw_3_145 ts_15 tw_1_12 yd_X1_fail ⟨(Nat.le_of_ble_eq_true rfl), (Nat.le_of_ble_eq_true rfl)⟩ rfl hl.1 rfl (Nat.le_of_ble_eq_true rfl) dX1_readNozzles_51 (fun H locs hP hS => ?_)
        cases hD
        exact hret _ _ _ hP hS (fun Qc hq => W.vret hx hb hr hq hS.2.2 dX1_readNozzles_54 hlocks)
  have c_2 : ∀ (n : Nat), ∀ (x1 : Int32) (h : MM) (m : MM) (H : Heap) (locs : List Loc) (ls : Array Slot), D_X1_readNozzles_2 n x1 h m = some (h', m') → va_P D vwCl (Wf h m) H → va_S A s.heap H locs → lv_has ls 3 [(0, .ref (adh 4)), (1, .int x1)] → W p l e ({ frames := 3, cells := 0, slots := 0, locals := 63 } : Room) s m0 args below meth c H locs 0 0 Q (F0 m0 2 ls []) := by
    intro n
    induction n with
    | zero =>
      intro x1 h m H locs ls hD hP hS hl
      exact nn_el hD
    | succ n ih =>
      intro x1 h m H locs ls hD hP hS hl
      rw [D_X1_readNozzles_2] at hD
      refine lv_iload_n hx hb dX1_readNozzles_2 rfl (lv_at hl 1 rfl) ?_
      refine lv_bipush (v := (6 : Int32)) hx hb dX1_readNozzles_3 (by decide) ?_
      refine lv_icmp_gt (tgt := 83) hx hb dX1_readNozzles_5 (by decide) (fun c => ?_) (fun c => ?_)
      · have hD := ifp hD c
        cases hD
        exact hret _ _ _ hP hS (fun Qc hq => W.vret hx hb hr hq hS.2.2 dX1_readNozzles_83 hlocks)
      · have hD := ifn hD c
        refine lv_aload_n hx hb dX1_readNozzles_8 rfl (lv_at hl 0 rfl) ?_
        refine rg (Wf := fun z => Wf z m) (mm := h) hx hb hT hu1 hown hK hP (hLh m) 4 6 (Nat.le_of_ble_eq_true rfl) (hs4 _ _) rfl (Nat.le_of_ble_eq_true rfl) (Fx0.T tw_2_219) rfl (v := .int (gi h 4 6)) rfl dX1_readNozzles_9 ?_
        refine lv_if_ne (tgt := 83) hx hb dX1_readNozzles_12 (by decide) (fun c => ?_) (fun c => ?_)
        · have hD := ifn hD c
          cases hD
          exact hret _ _ _ hP hS (fun Qc hq => W.vret hx hb hr hq hS.2.2 dX1_readNozzles_83 hlocks)
        · have hD := ifp hD c
          refine lv_iload_n hx hb dX1_readNozzles_15 rfl (lv_at hl 1 rfl) ?_
          refine lv_if_eq (tgt := 26) hx hb dX1_readNozzles_16 (by decide) (fun c => ?_) (fun c => ?_)
          · have hD := ifp hD c
            exact c_26 _ ih _ _ _ _ _ _ hD hP hS (lv_sub hl [0, 1] rfl)
          · have hD := ifn hD c
            refine lv_aload_n hx hb dX1_readNozzles_19 rfl (lv_at hl 0 rfl) ?_
            obtain ⟨v13, m14, z15, hD⟩ := b2_el hD
            refine rcV (Wf := fun z => Wf z m) (mm := h) (As := []) (rest := []) Fx0 (c_X1_isAtDigit l (Wf := fun z0_ z1_ => Wf z0_ z1_) (fun z1_ => hLh z1_) (fun z0_ => hL z0_) (fun a0_ b0_ a1_ b1_ => hAd a0_ b0_ a1_ b1_) hm2 h m z15) hP (hD1 _ (hAd _ _ _ _)) hS (hA1 _ _ (hAd _ _ _ _) hS.1) (hLh m) (Nat.le_of_ble_eq_true rfl) (hs4 _ _) rfl tw_3_154 tw_3_151 tw_3_153 ts_17 tw_1_12 yd_X1_isAtDigit ⟨(Nat.le_of_ble_eq_true rfl), (Nat.le_of_ble_eq_true rfl)⟩ rfl hl.1 rfl (Nat.le_of_ble_eq_true rfl) dX1_readNozzles_20 (fun H locs hP hS => ?_)
            refine lv_if_eq (tgt := 83) hx hb dX1_readNozzles_23 (by decide) (fun c => ?_) (fun c => ?_)
            · have hD := ifp hD c
              cases hD
              exact hret _ _ _ hP hS (fun Qc hq => W.vret hx hb hr hq hS.2.2 dX1_readNozzles_83 hlocks)
            · have hD := ifn hD c
              exact c_26 _ ih _ _ _ _ _ _ hD hP hS (lv_sub hl [0, 1] rfl)
  refine lv_iconst (v := (0 : Int32)) hx hb dX1_readNozzles_0 (by decide) ?_
  refine lv_istore_n (lv' := [(1, .int (0 : Int32)), (0, .ref (adh 4))]) hx hb dX1_readNozzles_1 rfl hl (by decide) rfl (fun ls hl => ?_)
  exact c_2 FU _ _ _ _ _ _ hD hP hS (lv_sub hl [1, 0] rfl)

noncomputable def D_X1_readKind (h : MM) (m : MM) : Option (MM × MM) := if (gi m 28 0) = (8 : Int32) then (b1 (D_X1_fail (3 : Int32) (gi h 4 4) h m) (fun m6 => some (m6, m))) else (b2 (D_X1_readNumber (0 : Int32) ((gi m 24 3) - (1 : Int32)) h m) (fun v1 m2 => if (gi m2 4 6) = 0 then (b1 (D_X5_add v1 m) (fun m4 => some (m2, m4))) else (some (m2, m))))
set_option maxHeartbeats 4000000 in
set_option maxRecDepth 100000 in
theorem c_X1_readKind (l : Launch) {D : va_G} {cs : Nat → ClassId} {adh ad ma : Nat → Nat} {Wf : MM → MM → va_W} (hLh : ∀ m : MM, Ln 8 adh (hsh cs adh ma) (fun z => Wf z m)) (hL : ∀ h : MM, Ln 51 ad (msh cs ad) (fun z => Wf h z)) (hAd : ∀ a0_ b0_ a1_ b1_ : MM, (Wf a0_ a1_).map (fun q => q.1) = (Wf b0_ b1_).map (fun q => q.1)) (hm2 : ma 2 = ad 24) (h : MM) (m : MM) {h' : MM} {m' : MM} (hD : D_X1_readKind h m = some (h', m')) : Ct l yX1_readKind cX1_readKind 2 none 3 63 D cs [.ref (adh 4)] (Wf h m) (Wf h' m') (none) := by
  refine Ct.ofW (by decide) (Nat.le_of_ble_eq_true rfl) (hAd _ _ _ _) ?_
  intro p e s m0 below meth c A Q ls args hx hb hr hml hlocks hown hts hK hP hD1 hSS hS hA1 hl hret
  have hT : ∀ w ∈ TBL, w.before args s = true := fun w h => hts w (List.mem_cons_of_mem _ h)
  have Fx0 : Fx p l m0 c cX1_readKind 2 s args yX1_readKind cX1_readKind 2 none D cs A := ⟨hx, hb, hml, hown, hts, hK, hSS⟩
  have hown : s.vm.findClass RX1 = some m0.cls := hown
  have hl : lv_has ls 2 [(0, .ref (adh 4))] := hl
  unfold D_X1_readKind at hD
  refine lv_aload_n hx hb dX1_readKind_0 rfl (lv_at hl 0 rfl) ?_
  refine rg (Wf := fun z => Wf z m) (mm := h) hx hb hT hu1 hown hK hP (hLh m) 4 1 (Nat.le_of_ble_eq_true rfl) (hs4 _ _) rfl (Nat.le_of_ble_eq_true rfl) (Fx0.T tw_2_214) rfl (v := .ref (ad 24)) (congrArg (fun z => some (Value.ref z)) hm2) dX1_readKind_1 ?_
  refine rgN (Wf := fun z => Wf h z) (mm := m) hx hb hT hu6 hown hK hP (hL h) 24 5 (Nat.le_of_ble_eq_true rfl) (ms24 _ _) rfl (Nat.le_of_ble_eq_true rfl) tw_2_94 rfl (v := .ref (ad 28)) rfl dX1_readKind_4 ?_
  refine rgN (Wf := fun z => Wf h z) (mm := m) hx hb hT hu5 hown hK hP (hL h) 28 0 (Nat.le_of_ble_eq_true rfl) (ms28 _ _) rfl (Nat.le_of_ble_eq_true rfl) tw_1_54 rfl (v := .int (gi m 28 0)) rfl dX1_readKind_7 ?_
  refine lv_bipush (v := (8 : Int32)) hx hb dX1_readKind_10 (by decide) ?_
  refine lv_icmp_ne (tgt := 25) hx hb dX1_readKind_12 (by decide) (fun c => ?_) (fun c => ?_)
  · have hD := ifn hD c
    refine lv_aload_n hx hb dX1_readKind_25 rfl (lv_at hl 0 rfl) ?_
    refine lv_iconst (v := (0 : Int32)) hx hb dX1_readKind_26 (by decide) ?_
    refine lv_aload_n hx hb dX1_readKind_27 rfl (lv_at hl 0 rfl) ?_
    refine rg (Wf := fun z => Wf z m) (mm := h) hx hb hT hu1 hown hK hP (hLh m) 4 1 (Nat.le_of_ble_eq_true rfl) (hs4 _ _) rfl (Nat.le_of_ble_eq_true rfl) (Fx0.T tw_2_214) rfl (v := .ref (ad 24)) (congrArg (fun z => some (Value.ref z)) hm2) dX1_readKind_28 ?_
    refine rgN (Wf := fun z => Wf h z) (mm := m) hx hb hT hu6 hown hK hP (hL h) 24 3 (Nat.le_of_ble_eq_true rfl) (ms24 _ _) rfl (Nat.le_of_ble_eq_true rfl) tw_2_87 rfl (v := .int (gi m 24 3)) rfl dX1_readKind_31 ?_
    refine lv_iconst (v := (1 : Int32)) hx hb dX1_readKind_34 (by decide) ?_
    refine lv_isub hx hb dX1_readKind_35 ?_
    obtain ⟨v1, m2, z3, hD⟩ := b2_el hD
    refine rcV (Wf := fun z => Wf z m) (mm := h) (As := [.int (0 : Int32), .int ((gi m 24 3) - (1 : Int32))]) (rest := []) Fx0 (c_X1_readNumber l (Wf := fun z0_ z1_ => Wf z0_ z1_) (fun z1_ => hLh z1_) (fun z0_ => hL z0_) (fun a0_ b0_ a1_ b1_ => hAd a0_ b0_ a1_ b1_) hm2 h m (0 : Int32) ((gi m 24 3) - (1 : Int32)) z3) hP (hD1 _ (hAd _ _ _ _)) hS (hA1 _ _ (hAd _ _ _ _) hS.1) (hLh m) (Nat.le_of_ble_eq_true rfl) (hs4 _ _) rfl tw_3_150 tw_3_147 tw_3_149 ts_16 tw_1_12 yd_X1_readNumber ⟨(Nat.le_of_ble_eq_true rfl), (Nat.le_of_ble_eq_true rfl)⟩ rfl hl.1 rfl (Nat.le_of_ble_eq_true rfl) dX1_readKind_36 (fun H locs hP hS => ?_)
    refine lv_istore_n (lv' := [(1, .int v1), (0, .ref (adh 4))]) hx hb dX1_readKind_39 rfl hl (by decide) rfl (fun ls hl => ?_)
    refine lv_aload_n hx hb dX1_readKind_40 rfl (lv_at hl 1 rfl) ?_
    refine rg (Wf := fun z => Wf z m) (mm := m2) hx hb hT hu1 hown hK hP (hLh m) 4 6 (Nat.le_of_ble_eq_true rfl) (hs4 _ _) rfl (Nat.le_of_ble_eq_true rfl) (Fx0.T tw_2_219) rfl (v := .int (gi m2 4 6)) rfl dX1_readKind_41 ?_
    refine lv_if_ne (tgt := 58) hx hb dX1_readKind_44 (by decide) (fun c => ?_) (fun c => ?_)
    · have hD := ifn hD c
      cases hD
      exact hret _ _ _ hP hS (fun Qc hq => W.vret hx hb hr hq hS.2.2 dX1_readKind_58 hlocks)
    · have hD := ifp hD c
      refine lv_aload_n hx hb dX1_readKind_47 rfl (lv_at hl 1 rfl) ?_
      refine rg (Wf := fun z => Wf z m) (mm := m2) hx hb hT hu1 hown hK hP (hLh m) 4 1 (Nat.le_of_ble_eq_true rfl) (hs4 _ _) rfl (Nat.le_of_ble_eq_true rfl) (Fx0.T tw_2_214) rfl (v := .ref (ad 24)) (congrArg (fun z => some (Value.ref z)) hm2) dX1_readKind_48 ?_
      refine rgN (Wf := fun z => Wf m2 z) (mm := m) hx hb hT hu6 hown hK hP (hL m2) 24 5 (Nat.le_of_ble_eq_true rfl) (ms24 _ _) rfl (Nat.le_of_ble_eq_true rfl) tw_2_94 rfl (v := .ref (ad 28)) rfl dX1_readKind_51 ?_
      refine lv_iload_n hx hb dX1_readKind_54 rfl (lv_at hl 0 rfl) ?_
      obtain ⟨m4, z5, hD⟩ := b1_el hD
      refine rcVN (Wf := fun z => Wf m2 z) (mm := m) (As := [.int v1]) (rest := []) Fx0 (c_X5_add l (Wf := fun z0_ => Wf m2 z0_) (hL m2) (fun a0_ b0_ => hAd m2 m2 a0_ b0_) m v1 z5) hP (hD1 _ (hAd _ _ _ _)) hS (hA1 _ _ (hAd _ _ _ _) hS.1) (hL m2) (Nat.le_of_ble_eq_true rfl) (ms28 _ _) rfl tw_3_195 tw_3_192 tw_3_194 ts_24 tw_1_3 yd_X5_add ⟨(Nat.le_of_ble_eq_true rfl), (Nat.le_of_ble_eq_true rfl)⟩ rfl hl.1 rfl (Nat.le_of_ble_eq_true rfl) dX1_readKind_55 (fun H locs hP hS => ?_)
      cases hD
      exact hret _ _ _ hP hS (fun Qc hq => W.vret hx hb hr hq hS.2.2 dX1_readKind_58 hlocks)
  · have hD := ifp hD c
    refine lv_aload_n hx hb dX1_readKind_15 rfl (lv_at hl 0 rfl) ?_
    refine lv_iconst (v := (3 : Int32)) hx hb dX1_readKind_16 (by decide) ?_
    refine lv_aload_n hx hb dX1_readKind_17 rfl (lv_at hl 0 rfl) ?_
    refine rg (Wf := fun z => Wf z m) (mm := h) hx hb hT hu1 hown hK hP (hLh m) 4 4 (Nat.le_of_ble_eq_true rfl) (hs4 _ _) rfl (Nat.le_of_ble_eq_true rfl) (Fx0.T tw_2_217) rfl (v := .int (gi h 4 4)) rfl dX1_readKind_18 ?_
    obtain ⟨m6, z7, hD⟩ := b1_el hD
    refine rcV (Wf := fun z => Wf z m) (mm := h) (As := [.int (3 : Int32), .int (gi h 4 4)]) (rest := []) Fx0 (c_X1_fail l (Wf := fun z0_ z1_ => Wf z0_ z1_) (fun z1_ => hLh z1_) (fun z0_ => hL z0_) (fun a0_ b0_ a1_ b1_ => hAd a0_ b0_ a1_ b1_) hm2 h m (3 : Int32) (gi h 4 4) z7) hP (hD1 _ (hAd _ _ _ _)) hS (hA1 _ _ (hAd _ _ _ _) hS.1) (hLh m) (Nat.le_of_ble_eq_true rfl) (hs4 _ _) rfl tw_3_146 tw_3_143 tw_3_145 ts_15 tw_1_12 yd_X1_fail ⟨(Nat.le_of_ble_eq_true rfl), (Nat.le_of_ble_eq_true rfl)⟩ rfl hl.1 rfl (Nat.le_of_ble_eq_true rfl) dX1_readKind_21 (fun H locs hP hS => ?_)
    cases hD
    exact hret _ _ _ hP hS (fun Qc hq => W.vret hx hb hr hq hS.2.2 dX1_readKind_24 hlocks)

noncomputable def D_X1_readFeeder_79 (x1 : Int32) (x2 : Int32) (xt0 : Int32) (h : MM) (m : MM) : Option (MM × MM) := if (gi h 4 6) = 0 then (b2 (D_X1_readNumber (0 : Int32) (100 : Int32) h m) (fun v6 m7 => if (gi m7 4 6) = 0 then (b1 (D_X6_addFeeder x1 x2 xt0 v6 m) (fun m9 => some (m7, m9))) else (some (m7, m)))) else (if (gi h 4 6) = 0 then (b1 (D_X6_addFeeder x1 x2 xt0 (0 : Int32) m) (fun m4 => some (h, m4))) else (some (h, m)))
noncomputable def D_X1_readFeeder (h : MM) (m : MM) : Option (MM × MM) := if (gi m 24 6) = (10 : Int32) then (b1 (D_X1_fail (3 : Int32) (gi h 4 4) h m) (fun m20 => some (m20, m))) else (b2 (D_X1_readNumber (0 : Int32) ((gi m 28 0) - (1 : Int32)) h m) (fun v1 m2 => if (gi m2 4 6) = 0 then (b2 (D_X1_readNumber (0 : Int32) (999 : Int32) m2 m) (fun v14 m15 => if (gi m15 4 6) = 0 then (b2 (D_X1_readNumber (0 : Int32) (500 : Int32) m15 m) (fun v17 m18 => D_X1_readFeeder_79 v1 v14 v17 m18 m)) else (D_X1_readFeeder_79 v1 v14 (0 : Int32) m15 m))) else (if (gi m2 4 6) = 0 then (b2 (D_X1_readNumber (0 : Int32) (500 : Int32) m2 m) (fun v11 m12 => D_X1_readFeeder_79 v1 (0 : Int32) v11 m12 m)) else (D_X1_readFeeder_79 v1 (0 : Int32) (0 : Int32) m2 m))))
set_option maxHeartbeats 4000000 in
set_option maxRecDepth 100000 in
theorem c_X1_readFeeder (l : Launch) {D : va_G} {cs : Nat → ClassId} {adh ad ma : Nat → Nat} {Wf : MM → MM → va_W} (hLh : ∀ m : MM, Ln 8 adh (hsh cs adh ma) (fun z => Wf z m)) (hL : ∀ h : MM, Ln 51 ad (msh cs ad) (fun z => Wf h z)) (hAd : ∀ a0_ b0_ a1_ b1_ : MM, (Wf a0_ a1_).map (fun q => q.1) = (Wf b0_ b1_).map (fun q => q.1)) (hm2 : ma 2 = ad 24) (h : MM) (m : MM) {h' : MM} {m' : MM} (hD : D_X1_readFeeder h m = some (h', m')) : Ct l yX1_readFeeder cX1_readFeeder 5 none 3 63 D cs [.ref (adh 4)] (Wf h m) (Wf h' m') (none) := by
  refine Ct.ofW (by decide) (Nat.le_of_ble_eq_true rfl) (hAd _ _ _ _) ?_
  intro p e s m0 below meth c A Q ls args hx hb hr hml hlocks hown hts hK hP hD1 hSS hS hA1 hl hret
  have hT : ∀ w ∈ TBL, w.before args s = true := fun w h => hts w (List.mem_cons_of_mem _ h)
  have Fx0 : Fx p l m0 c cX1_readFeeder 5 s args yX1_readFeeder cX1_readFeeder 5 none D cs A := ⟨hx, hb, hml, hown, hts, hK, hSS⟩
  have hown : s.vm.findClass RX1 = some m0.cls := hown
  have hl : lv_has ls 5 [(0, .ref (adh 4))] := hl
  unfold D_X1_readFeeder at hD
  have c_79 : ∀ (x1 : Int32) (x2 : Int32) (xt0 : Int32) (h : MM) (m : MM) (H : Heap) (locs : List Loc) (ls : Array Slot), D_X1_readFeeder_79 x1 x2 xt0 h m = some (h', m') → va_P D vwCl (Wf h m) H → va_S A s.heap H locs → lv_has ls 5 [(0, .ref (adh 4)), (1, .int x1), (2, .int x2)] → W p l e ({ frames := 3, cells := 0, slots := 0, locals := 63 } : Room) s m0 args below meth c H locs 0 0 Q (F0 m0 79 ls [.int xt0]) := by
    intro x1 x2 xt0 h m H locs ls hD hP hS hl
    unfold D_X1_readFeeder_79 at hD
    refine lv_istore_n (lv' := [(3, .int xt0), (0, .ref (adh 4)), (1, .int x1), (2, .int x2)]) hx hb dX1_readFeeder_79 rfl hl (by decide) rfl (fun ls hl => ?_)
    refine lv_aload_n hx hb dX1_readFeeder_80 rfl (lv_at hl 1 rfl) ?_
    refine rg (Wf := fun z => Wf z m) (mm := h) hx hb hT hu1 hown hK hP (hLh m) 4 6 (Nat.le_of_ble_eq_true rfl) (hs4 _ _) rfl (Nat.le_of_ble_eq_true rfl) (Fx0.T tw_2_219) rfl (v := .int (gi h 4 6)) rfl dX1_readFeeder_81 ?_
    refine lv_if_ne (tgt := 97) hx hb dX1_readFeeder_84 (by decide) (fun c => ?_) (fun c => ?_)
    · have hD := ifn hD c
      refine lv_iconst (v := (0 : Int32)) hx hb dX1_readFeeder_97 (by decide) ?_
      refine lv_istore (lv' := [(4, .int (0 : Int32)), (3, .int xt0), (0, .ref (adh 4)), (1, .int x1), (2, .int x2)]) hx hb dX1_readFeeder_98 hl (by decide) rfl (fun ls hl => ?_)
      refine lv_aload_n hx hb dX1_readFeeder_100 rfl (lv_at hl 2 rfl) ?_
      refine rg (Wf := fun z => Wf z m) (mm := h) hx hb hT hu1 hown hK hP (hLh m) 4 6 (Nat.le_of_ble_eq_true rfl) (hs4 _ _) rfl (Nat.le_of_ble_eq_true rfl) (Fx0.T tw_2_219) rfl (v := .int (gi h 4 6)) rfl dX1_readFeeder_101 ?_
      refine lv_if_ne (tgt := 119) hx hb dX1_readFeeder_104 (by decide) (fun c => ?_) (fun c => ?_)
      · have hD := ifn hD c
        cases hD
        exact hret _ _ _ hP hS (fun Qc hq => W.vret hx hb hr hq hS.2.2 dX1_readFeeder_119 hlocks)
      · have hD := ifp hD c
        refine lv_aload_n hx hb dX1_readFeeder_107 rfl (lv_at hl 2 rfl) ?_
        refine rg (Wf := fun z => Wf z m) (mm := h) hx hb hT hu1 hown hK hP (hLh m) 4 1 (Nat.le_of_ble_eq_true rfl) (hs4 _ _) rfl (Nat.le_of_ble_eq_true rfl) (Fx0.T tw_2_214) rfl (v := .ref (ad 24)) (congrArg (fun z => some (Value.ref z)) hm2) dX1_readFeeder_108 ?_
        refine lv_iload_n hx hb dX1_readFeeder_111 rfl (lv_at hl 3 rfl) ?_
        refine lv_iload_n hx hb dX1_readFeeder_112 rfl (lv_at hl 4 rfl) ?_
        refine lv_iload_n hx hb dX1_readFeeder_113 rfl (lv_at hl 1 rfl) ?_
        refine lv_iload hx hb dX1_readFeeder_114 (lv_at hl 0 rfl) ?_
        obtain ⟨m4, z5, hD⟩ := b1_el hD
        refine rcVN (Wf := fun z => Wf h z) (mm := m) (As := [.int x1, .int x2, .int xt0, .int (0 : Int32)]) (rest := []) Fx0 (c_X6_addFeeder l (Wf := fun z0_ => Wf h z0_) (hL h) (fun a0_ b0_ => hAd h h a0_ b0_) m x1 x2 xt0 (0 : Int32) z5) hP (hD1 _ (hAd _ _ _ _)) hS (hA1 _ _ (hAd _ _ _ _) hS.1) (hL h) (Nat.le_of_ble_eq_true rfl) (ms24 _ _) rfl tw_3_204 tw_3_201 tw_3_203 ts_26 tw_1_2 yd_X6_addFeeder ⟨(Nat.le_of_ble_eq_true rfl), (Nat.le_of_ble_eq_true rfl)⟩ rfl hl.1 rfl (Nat.le_of_ble_eq_true rfl) dX1_readFeeder_116 (fun H locs hP hS => ?_)
        cases hD
        exact hret _ _ _ hP hS (fun Qc hq => W.vret hx hb hr hq hS.2.2 dX1_readFeeder_119 hlocks)
    · have hD := ifp hD c
      refine lv_aload_n hx hb dX1_readFeeder_87 rfl (lv_at hl 1 rfl) ?_
      refine lv_iconst (v := (0 : Int32)) hx hb dX1_readFeeder_88 (by decide) ?_
      refine lv_bipush (v := (100 : Int32)) hx hb dX1_readFeeder_89 (by decide) ?_
      obtain ⟨v6, m7, z8, hD⟩ := b2_el hD
      refine rcV (Wf := fun z => Wf z m) (mm := h) (As := [.int (0 : Int32), .int (100 : Int32)]) (rest := []) Fx0 (c_X1_readNumber l (Wf := fun z0_ z1_ => Wf z0_ z1_) (fun z1_ => hLh z1_) (fun z0_ => hL z0_) (fun a0_ b0_ a1_ b1_ => hAd a0_ b0_ a1_ b1_) hm2 h m (0 : Int32) (100 : Int32) z8) hP (hD1 _ (hAd _ _ _ _)) hS (hA1 _ _ (hAd _ _ _ _) hS.1) (hLh m) (Nat.le_of_ble_eq_true rfl) (hs4 _ _) rfl tw_3_150 tw_3_147 tw_3_149 ts_16 tw_1_12 yd_X1_readNumber ⟨(Nat.le_of_ble_eq_true rfl), (Nat.le_of_ble_eq_true rfl)⟩ rfl hl.1 rfl (Nat.le_of_ble_eq_true rfl) dX1_readFeeder_91 (fun H locs hP hS => ?_)
      refine lv_goto (tgt := 98) hx hb dX1_readFeeder_94 (by decide) ?_
      refine lv_istore (lv' := [(4, .int v6), (3, .int xt0), (0, .ref (adh 4)), (1, .int x1), (2, .int x2)]) hx hb dX1_readFeeder_98 hl (by decide) rfl (fun ls hl => ?_)
      refine lv_aload_n hx hb dX1_readFeeder_100 rfl (lv_at hl 2 rfl) ?_
      refine rg (Wf := fun z => Wf z m) (mm := m7) hx hb hT hu1 hown hK hP (hLh m) 4 6 (Nat.le_of_ble_eq_true rfl) (hs4 _ _) rfl (Nat.le_of_ble_eq_true rfl) (Fx0.T tw_2_219) rfl (v := .int (gi m7 4 6)) rfl dX1_readFeeder_101 ?_
      refine lv_if_ne (tgt := 119) hx hb dX1_readFeeder_104 (by decide) (fun c => ?_) (fun c => ?_)
      · have hD := ifn hD c
        cases hD
        exact hret _ _ _ hP hS (fun Qc hq => W.vret hx hb hr hq hS.2.2 dX1_readFeeder_119 hlocks)
      · have hD := ifp hD c
        refine lv_aload_n hx hb dX1_readFeeder_107 rfl (lv_at hl 2 rfl) ?_
        refine rg (Wf := fun z => Wf z m) (mm := m7) hx hb hT hu1 hown hK hP (hLh m) 4 1 (Nat.le_of_ble_eq_true rfl) (hs4 _ _) rfl (Nat.le_of_ble_eq_true rfl) (Fx0.T tw_2_214) rfl (v := .ref (ad 24)) (congrArg (fun z => some (Value.ref z)) hm2) dX1_readFeeder_108 ?_
        refine lv_iload_n hx hb dX1_readFeeder_111 rfl (lv_at hl 3 rfl) ?_
        refine lv_iload_n hx hb dX1_readFeeder_112 rfl (lv_at hl 4 rfl) ?_
        refine lv_iload_n hx hb dX1_readFeeder_113 rfl (lv_at hl 1 rfl) ?_
        refine lv_iload hx hb dX1_readFeeder_114 (lv_at hl 0 rfl) ?_
        obtain ⟨m9, z10, hD⟩ := b1_el hD
        refine rcVN (Wf := fun z => Wf m7 z) (mm := m) (As := [.int x1, .int x2, .int xt0, .int v6]) (rest := []) Fx0 (c_X6_addFeeder l (Wf := fun z0_ => Wf m7 z0_) (hL m7) (fun a0_ b0_ => hAd m7 m7 a0_ b0_) m x1 x2 xt0 v6 z10) hP (hD1 _ (hAd _ _ _ _)) hS (hA1 _ _ (hAd _ _ _ _) hS.1) (hL m7) (Nat.le_of_ble_eq_true rfl) (ms24 _ _) rfl tw_3_204 tw_3_201 tw_3_203 ts_26 tw_1_2 yd_X6_addFeeder ⟨(Nat.le_of_ble_eq_true rfl), (Nat.le_of_ble_eq_true rfl)⟩ rfl hl.1 rfl (Nat.le_of_ble_eq_true rfl) dX1_readFeeder_116 (fun H locs hP hS => ?_)
        cases hD
        exact hret _ _ _ hP hS (fun Qc hq => W.vret hx hb hr hq hS.2.2 dX1_readFeeder_119 hlocks)
  refine lv_aload_n hx hb dX1_readFeeder_0 rfl (lv_at hl 0 rfl) ?_
  refine rg (Wf := fun z => Wf z m) (mm := h) hx hb hT hu1 hown hK hP (hLh m) 4 1 (Nat.le_of_ble_eq_true rfl) (hs4 _ _) rfl (Nat.le_of_ble_eq_true rfl) (Fx0.T tw_2_214) rfl (v := .ref (ad 24)) (congrArg (fun z => some (Value.ref z)) hm2) dX1_readFeeder_1 ?_
  refine rgN (Wf := fun z => Wf h z) (mm := m) hx hb hT hu6 hown hK hP (hL h) 24 6 (Nat.le_of_ble_eq_true rfl) (ms24 _ _) rfl (Nat.le_of_ble_eq_true rfl) tw_2_98 rfl (v := .int (gi m 24 6)) rfl dX1_readFeeder_4 ?_
  refine lv_bipush (v := (10 : Int32)) hx hb dX1_readFeeder_7 (by decide) ?_
  refine lv_icmp_ne (tgt := 22) hx hb dX1_readFeeder_9 (by decide) (fun c => ?_) (fun c => ?_)
  · have hD := ifn hD c
    refine lv_aload_n hx hb dX1_readFeeder_22 rfl (lv_at hl 0 rfl) ?_
    refine lv_iconst (v := (0 : Int32)) hx hb dX1_readFeeder_23 (by decide) ?_
    refine lv_aload_n hx hb dX1_readFeeder_24 rfl (lv_at hl 0 rfl) ?_
    refine rg (Wf := fun z => Wf z m) (mm := h) hx hb hT hu1 hown hK hP (hLh m) 4 1 (Nat.le_of_ble_eq_true rfl) (hs4 _ _) rfl (Nat.le_of_ble_eq_true rfl) (Fx0.T tw_2_214) rfl (v := .ref (ad 24)) (congrArg (fun z => some (Value.ref z)) hm2) dX1_readFeeder_25 ?_
    refine rgN (Wf := fun z => Wf h z) (mm := m) hx hb hT hu6 hown hK hP (hL h) 24 5 (Nat.le_of_ble_eq_true rfl) (ms24 _ _) rfl (Nat.le_of_ble_eq_true rfl) tw_2_94 rfl (v := .ref (ad 28)) rfl dX1_readFeeder_28 ?_
    refine rgN (Wf := fun z => Wf h z) (mm := m) hx hb hT hu5 hown hK hP (hL h) 28 0 (Nat.le_of_ble_eq_true rfl) (ms28 _ _) rfl (Nat.le_of_ble_eq_true rfl) tw_1_54 rfl (v := .int (gi m 28 0)) rfl dX1_readFeeder_31 ?_
    refine lv_iconst (v := (1 : Int32)) hx hb dX1_readFeeder_34 (by decide) ?_
    refine lv_isub hx hb dX1_readFeeder_35 ?_
    obtain ⟨v1, m2, z3, hD⟩ := b2_el hD
    refine rcV (Wf := fun z => Wf z m) (mm := h) (As := [.int (0 : Int32), .int ((gi m 28 0) - (1 : Int32))]) (rest := []) Fx0 (c_X1_readNumber l (Wf := fun z0_ z1_ => Wf z0_ z1_) (fun z1_ => hLh z1_) (fun z0_ => hL z0_) (fun a0_ b0_ a1_ b1_ => hAd a0_ b0_ a1_ b1_) hm2 h m (0 : Int32) ((gi m 28 0) - (1 : Int32)) z3) hP (hD1 _ (hAd _ _ _ _)) hS (hA1 _ _ (hAd _ _ _ _) hS.1) (hLh m) (Nat.le_of_ble_eq_true rfl) (hs4 _ _) rfl tw_3_150 tw_3_147 tw_3_149 ts_16 tw_1_12 yd_X1_readNumber ⟨(Nat.le_of_ble_eq_true rfl), (Nat.le_of_ble_eq_true rfl)⟩ rfl hl.1 rfl (Nat.le_of_ble_eq_true rfl) dX1_readFeeder_36 (fun H locs hP hS => ?_)
    refine lv_istore_n (lv' := [(1, .int v1), (0, .ref (adh 4))]) hx hb dX1_readFeeder_39 rfl hl (by decide) rfl (fun ls hl => ?_)
    refine lv_aload_n hx hb dX1_readFeeder_40 rfl (lv_at hl 1 rfl) ?_
    refine rg (Wf := fun z => Wf z m) (mm := m2) hx hb hT hu1 hown hK hP (hLh m) 4 6 (Nat.le_of_ble_eq_true rfl) (hs4 _ _) rfl (Nat.le_of_ble_eq_true rfl) (Fx0.T tw_2_219) rfl (v := .int (gi m2 4 6)) rfl dX1_readFeeder_41 ?_
    refine lv_if_ne (tgt := 58) hx hb dX1_readFeeder_44 (by decide) (fun c => ?_) (fun c => ?_)
    · have hD := ifn hD c
      refine lv_iconst (v := (0 : Int32)) hx hb dX1_readFeeder_58 (by decide) ?_
      refine lv_istore_n (lv' := [(2, .int (0 : Int32)), (1, .int v1), (0, .ref (adh 4))]) hx hb dX1_readFeeder_59 rfl hl (by decide) rfl (fun ls hl => ?_)
      refine lv_aload_n hx hb dX1_readFeeder_60 rfl (lv_at hl 2 rfl) ?_
      refine rg (Wf := fun z => Wf z m) (mm := m2) hx hb hT hu1 hown hK hP (hLh m) 4 6 (Nat.le_of_ble_eq_true rfl) (hs4 _ _) rfl (Nat.le_of_ble_eq_true rfl) (Fx0.T tw_2_219) rfl (v := .int (gi m2 4 6)) rfl dX1_readFeeder_61 ?_
      refine lv_if_ne (tgt := 78) hx hb dX1_readFeeder_64 (by decide) (fun c => ?_) (fun c => ?_)
      · have hD := ifn hD c
        refine lv_iconst (v := (0 : Int32)) hx hb dX1_readFeeder_78 (by decide) ?_
        exact c_79 _ _ _ _ _ _ _ _ hD hP hS (lv_sub hl [2, 1, 0] rfl)
      · have hD := ifp hD c
        refine lv_aload_n hx hb dX1_readFeeder_67 rfl (lv_at hl 2 rfl) ?_
        refine lv_iconst (v := (0 : Int32)) hx hb dX1_readFeeder_68 (by decide) ?_
        refine lv_sipush (v := (500 : Int32)) hx hb dX1_readFeeder_69 (by decide) ?_
        obtain ⟨v11, m12, z13, hD⟩ := b2_el hD
        refine rcV (Wf := fun z => Wf z m) (mm := m2) (As := [.int (0 : Int32), .int (500 : Int32)]) (rest := []) Fx0 (c_X1_readNumber l (Wf := fun z0_ z1_ => Wf z0_ z1_) (fun z1_ => hLh z1_) (fun z0_ => hL z0_) (fun a0_ b0_ a1_ b1_ => hAd a0_ b0_ a1_ b1_) hm2 m2 m (0 : Int32) (500 : Int32) z13) hP (hD1 _ (hAd _ _ _ _)) hS (hA1 _ _ (hAd _ _ _ _) hS.1) (hLh m) (Nat.le_of_ble_eq_true rfl) (hs4 _ _) rfl tw_3_150 tw_3_147 tw_3_149 ts_16 tw_1_12 yd_X1_readNumber ⟨(Nat.le_of_ble_eq_true rfl), (Nat.le_of_ble_eq_true rfl)⟩ rfl hl.1 rfl (Nat.le_of_ble_eq_true rfl) dX1_readFeeder_72 (fun H locs hP hS => ?_)
        refine lv_goto (tgt := 79) hx hb dX1_readFeeder_75 (by decide) ?_
        exact c_79 _ _ _ _ _ _ _ _ hD hP hS (lv_sub hl [2, 1, 0] rfl)
    · have hD := ifp hD c
      refine lv_aload_n hx hb dX1_readFeeder_47 rfl (lv_at hl 1 rfl) ?_
      refine lv_iconst (v := (0 : Int32)) hx hb dX1_readFeeder_48 (by decide) ?_
      refine lv_sipush (v := (999 : Int32)) hx hb dX1_readFeeder_49 (by decide) ?_
      obtain ⟨v14, m15, z16, hD⟩ := b2_el hD
      refine rcV (Wf := fun z => Wf z m) (mm := m2) (As := [.int (0 : Int32), .int (999 : Int32)]) (rest := []) Fx0 (c_X1_readNumber l (Wf := fun z0_ z1_ => Wf z0_ z1_) (fun z1_ => hLh z1_) (fun z0_ => hL z0_) (fun a0_ b0_ a1_ b1_ => hAd a0_ b0_ a1_ b1_) hm2 m2 m (0 : Int32) (999 : Int32) z16) hP (hD1 _ (hAd _ _ _ _)) hS (hA1 _ _ (hAd _ _ _ _) hS.1) (hLh m) (Nat.le_of_ble_eq_true rfl) (hs4 _ _) rfl tw_3_150 tw_3_147 tw_3_149 ts_16 tw_1_12 yd_X1_readNumber ⟨(Nat.le_of_ble_eq_true rfl), (Nat.le_of_ble_eq_true rfl)⟩ rfl hl.1 rfl (Nat.le_of_ble_eq_true rfl) dX1_readFeeder_52 (fun H locs hP hS => ?_)
      refine lv_goto (tgt := 59) hx hb dX1_readFeeder_55 (by decide) ?_
      refine lv_istore_n (lv' := [(2, .int v14), (1, .int v1), (0, .ref (adh 4))]) hx hb dX1_readFeeder_59 rfl hl (by decide) rfl (fun ls hl => ?_)
      refine lv_aload_n hx hb dX1_readFeeder_60 rfl (lv_at hl 2 rfl) ?_
      refine rg (Wf := fun z => Wf z m) (mm := m15) hx hb hT hu1 hown hK hP (hLh m) 4 6 (Nat.le_of_ble_eq_true rfl) (hs4 _ _) rfl (Nat.le_of_ble_eq_true rfl) (Fx0.T tw_2_219) rfl (v := .int (gi m15 4 6)) rfl dX1_readFeeder_61 ?_
      refine lv_if_ne (tgt := 78) hx hb dX1_readFeeder_64 (by decide) (fun c => ?_) (fun c => ?_)
      · have hD := ifn hD c
        refine lv_iconst (v := (0 : Int32)) hx hb dX1_readFeeder_78 (by decide) ?_
        exact c_79 _ _ _ _ _ _ _ _ hD hP hS (lv_sub hl [2, 1, 0] rfl)
      · have hD := ifp hD c
        refine lv_aload_n hx hb dX1_readFeeder_67 rfl (lv_at hl 2 rfl) ?_
        refine lv_iconst (v := (0 : Int32)) hx hb dX1_readFeeder_68 (by decide) ?_
        refine lv_sipush (v := (500 : Int32)) hx hb dX1_readFeeder_69 (by decide) ?_
        obtain ⟨v17, m18, z19, hD⟩ := b2_el hD
        refine rcV (Wf := fun z => Wf z m) (mm := m15) (As := [.int (0 : Int32), .int (500 : Int32)]) (rest := []) Fx0 (c_X1_readNumber l (Wf := fun z0_ z1_ => Wf z0_ z1_) (fun z1_ => hLh z1_) (fun z0_ => hL z0_) (fun a0_ b0_ a1_ b1_ => hAd a0_ b0_ a1_ b1_) hm2 m15 m (0 : Int32) (500 : Int32) z19) hP (hD1 _ (hAd _ _ _ _)) hS (hA1 _ _ (hAd _ _ _ _) hS.1) (hLh m) (Nat.le_of_ble_eq_true rfl) (hs4 _ _) rfl tw_3_150 tw_3_147 tw_3_149 ts_16 tw_1_12 yd_X1_readNumber ⟨(Nat.le_of_ble_eq_true rfl), (Nat.le_of_ble_eq_true rfl)⟩ rfl hl.1 rfl (Nat.le_of_ble_eq_true rfl) dX1_readFeeder_72 (fun H locs hP hS => ?_)
        refine lv_goto (tgt := 79) hx hb dX1_readFeeder_75 (by decide) ?_
        exact c_79 _ _ _ _ _ _ _ _ hD hP hS (lv_sub hl [2, 1, 0] rfl)
  · have hD := ifp hD c
    refine lv_aload_n hx hb dX1_readFeeder_12 rfl (lv_at hl 0 rfl) ?_
    refine lv_iconst (v := (3 : Int32)) hx hb dX1_readFeeder_13 (by decide) ?_
    refine lv_aload_n hx hb dX1_readFeeder_14 rfl (lv_at hl 0 rfl) ?_
    refine rg (Wf := fun z => Wf z m) (mm := h) hx hb hT hu1 hown hK hP (hLh m) 4 4 (Nat.le_of_ble_eq_true rfl) (hs4 _ _) rfl (Nat.le_of_ble_eq_true rfl) (Fx0.T tw_2_217) rfl (v := .int (gi h 4 4)) rfl dX1_readFeeder_15 ?_
    obtain ⟨m20, z21, hD⟩ := b1_el hD
    refine rcV (Wf := fun z => Wf z m) (mm := h) (As := [.int (3 : Int32), .int (gi h 4 4)]) (rest := []) Fx0 (c_X1_fail l (Wf := fun z0_ z1_ => Wf z0_ z1_) (fun z1_ => hLh z1_) (fun z0_ => hL z0_) (fun a0_ b0_ a1_ b1_ => hAd a0_ b0_ a1_ b1_) hm2 h m (3 : Int32) (gi h 4 4) z21) hP (hD1 _ (hAd _ _ _ _)) hS (hA1 _ _ (hAd _ _ _ _) hS.1) (hLh m) (Nat.le_of_ble_eq_true rfl) (hs4 _ _) rfl tw_3_146 tw_3_143 tw_3_145 ts_15 tw_1_12 yd_X1_fail ⟨(Nat.le_of_ble_eq_true rfl), (Nat.le_of_ble_eq_true rfl)⟩ rfl hl.1 rfl (Nat.le_of_ble_eq_true rfl) dX1_readFeeder_18 (fun H locs hP hS => ?_)
    cases hD
    exact hret _ _ _ hP hS (fun Qc hq => W.vret hx hb hr hq hS.2.2 dX1_readFeeder_21 hlocks)

noncomputable def D_X1_readSpot_62 (x1 : Int32) (xt0 : Int32) (h : MM) (m : MM) : Option (MM × MM) := if (gi h 4 6) = 0 then (b2 (D_X1_readNumber (0 : Int32) (999 : Int32) h m) (fun v6 m7 => if (gi m7 4 6) = 0 then (b1 (D_X0_addSpot x1 xt0 v6 m) (fun m9 => some (m7, m9))) else (some (m7, m)))) else (if (gi h 4 6) = 0 then (b1 (D_X0_addSpot x1 xt0 (0 : Int32) m) (fun m4 => some (h, m4))) else (some (h, m)))
noncomputable def D_X1_readSpot (h : MM) (m : MM) : Option (MM × MM) := if (gi m 36 0) = (40 : Int32) then (b1 (D_X1_fail (3 : Int32) (gi h 4 4) h m) (fun m14 => some (m14, m))) else (b2 (D_X1_readNumber (0 : Int32) ((gi m 28 0) - (1 : Int32)) h m) (fun v1 m2 => if (gi m2 4 6) = 0 then (b2 (D_X1_readNumber (0 : Int32) (999 : Int32) m2 m) (fun v11 m12 => D_X1_readSpot_62 v1 v11 m12 m)) else (D_X1_readSpot_62 v1 (0 : Int32) m2 m)))
set_option maxHeartbeats 4000000 in
set_option maxRecDepth 100000 in
theorem c_X1_readSpot (l : Launch) {D : va_G} {cs : Nat → ClassId} {adh ad ma : Nat → Nat} {Wf : MM → MM → va_W} (hLh : ∀ m : MM, Ln 8 adh (hsh cs adh ma) (fun z => Wf z m)) (hL : ∀ h : MM, Ln 51 ad (msh cs ad) (fun z => Wf h z)) (hAd : ∀ a0_ b0_ a1_ b1_ : MM, (Wf a0_ a1_).map (fun q => q.1) = (Wf b0_ b1_).map (fun q => q.1)) (hm2 : ma 2 = ad 24) (h : MM) (m : MM) {h' : MM} {m' : MM} (hD : D_X1_readSpot h m = some (h', m')) : Ct l yX1_readSpot cX1_readSpot 4 none 3 63 D cs [.ref (adh 4)] (Wf h m) (Wf h' m') (none) := by
  refine Ct.ofW (by decide) (Nat.le_of_ble_eq_true rfl) (hAd _ _ _ _) ?_
  intro p e s m0 below meth c A Q ls args hx hb hr hml hlocks hown hts hK hP hD1 hSS hS hA1 hl hret
  have hT : ∀ w ∈ TBL, w.before args s = true := fun w h => hts w (List.mem_cons_of_mem _ h)
  have Fx0 : Fx p l m0 c cX1_readSpot 4 s args yX1_readSpot cX1_readSpot 4 none D cs A := ⟨hx, hb, hml, hown, hts, hK, hSS⟩
  have hown : s.vm.findClass RX1 = some m0.cls := hown
  have hl : lv_has ls 4 [(0, .ref (adh 4))] := hl
  unfold D_X1_readSpot at hD
  have c_62 : ∀ (x1 : Int32) (xt0 : Int32) (h : MM) (m : MM) (H : Heap) (locs : List Loc) (ls : Array Slot), D_X1_readSpot_62 x1 xt0 h m = some (h', m') → va_P D vwCl (Wf h m) H → va_S A s.heap H locs → lv_has ls 4 [(0, .ref (adh 4)), (1, .int x1)] → W p l e ({ frames := 3, cells := 0, slots := 0, locals := 63 } : Room) s m0 args below meth c H locs 0 0 Q (F0 m0 62 ls [.int xt0]) := by
    intro x1 xt0 h m H locs ls hD hP hS hl
    unfold D_X1_readSpot_62 at hD
    refine lv_istore_n (lv' := [(2, .int xt0), (0, .ref (adh 4)), (1, .int x1)]) hx hb dX1_readSpot_62 rfl hl (by decide) rfl (fun ls hl => ?_)
    refine lv_aload_n hx hb dX1_readSpot_63 rfl (lv_at hl 1 rfl) ?_
    refine rg (Wf := fun z => Wf z m) (mm := h) hx hb hT hu1 hown hK hP (hLh m) 4 6 (Nat.le_of_ble_eq_true rfl) (hs4 _ _) rfl (Nat.le_of_ble_eq_true rfl) (Fx0.T tw_2_219) rfl (v := .int (gi h 4 6)) rfl dX1_readSpot_64 ?_
    refine lv_if_ne (tgt := 81) hx hb dX1_readSpot_67 (by decide) (fun c => ?_) (fun c => ?_)
    · have hD := ifn hD c
      refine lv_iconst (v := (0 : Int32)) hx hb dX1_readSpot_81 (by decide) ?_
      refine lv_istore_n (lv' := [(3, .int (0 : Int32)), (2, .int xt0), (0, .ref (adh 4)), (1, .int x1)]) hx hb dX1_readSpot_82 rfl hl (by decide) rfl (fun ls hl => ?_)
      refine lv_aload_n hx hb dX1_readSpot_83 rfl (lv_at hl 2 rfl) ?_
      refine rg (Wf := fun z => Wf z m) (mm := h) hx hb hT hu1 hown hK hP (hLh m) 4 6 (Nat.le_of_ble_eq_true rfl) (hs4 _ _) rfl (Nat.le_of_ble_eq_true rfl) (Fx0.T tw_2_219) rfl (v := .int (gi h 4 6)) rfl dX1_readSpot_84 ?_
      refine lv_if_ne (tgt := 103) hx hb dX1_readSpot_87 (by decide) (fun c => ?_) (fun c => ?_)
      · have hD := ifn hD c
        cases hD
        exact hret _ _ _ hP hS (fun Qc hq => W.vret hx hb hr hq hS.2.2 dX1_readSpot_103 hlocks)
      · have hD := ifp hD c
        refine lv_aload_n hx hb dX1_readSpot_90 rfl (lv_at hl 2 rfl) ?_
        refine rg (Wf := fun z => Wf z m) (mm := h) hx hb hT hu1 hown hK hP (hLh m) 4 1 (Nat.le_of_ble_eq_true rfl) (hs4 _ _) rfl (Nat.le_of_ble_eq_true rfl) (Fx0.T tw_2_214) rfl (v := .ref (ad 24)) (congrArg (fun z => some (Value.ref z)) hm2) dX1_readSpot_91 ?_
        refine rgN (Wf := fun z => Wf h z) (mm := m) hx hb hT hu6 hown hK hP (hL h) 24 8 (Nat.le_of_ble_eq_true rfl) (ms24 _ _) rfl (Nat.le_of_ble_eq_true rfl) tw_2_106 rfl (v := .ref (ad 36)) rfl dX1_readSpot_94 ?_
        refine lv_iload_n hx hb dX1_readSpot_97 rfl (lv_at hl 3 rfl) ?_
        refine lv_iload_n hx hb dX1_readSpot_98 rfl (lv_at hl 1 rfl) ?_
        refine lv_iload_n hx hb dX1_readSpot_99 rfl (lv_at hl 0 rfl) ?_
        obtain ⟨m4, z5, hD⟩ := b1_el hD
        refine rcVN (Wf := fun z => Wf h z) (mm := m) (As := [.int x1, .int xt0, .int (0 : Int32)]) (rest := []) Fx0 (c_X0_addSpot l (Wf := fun z0_ => Wf h z0_) (hL h) (fun a0_ b0_ => hAd h h a0_ b0_) m x1 xt0 (0 : Int32) z5) hP (hD1 _ (hAd _ _ _ _)) hS (hA1 _ _ (hAd _ _ _ _) hS.1) (hL h) (Nat.le_of_ble_eq_true rfl) (ms36 _ _) rfl tw_3_217 tw_3_214 tw_3_216 ts_29 tw_1_4 yd_X0_addSpot ⟨(Nat.le_of_ble_eq_true rfl), (Nat.le_of_ble_eq_true rfl)⟩ rfl hl.1 rfl (Nat.le_of_ble_eq_true rfl) dX1_readSpot_100 (fun H locs hP hS => ?_)
        cases hD
        exact hret _ _ _ hP hS (fun Qc hq => W.vret hx hb hr hq hS.2.2 dX1_readSpot_103 hlocks)
    · have hD := ifp hD c
      refine lv_aload_n hx hb dX1_readSpot_70 rfl (lv_at hl 1 rfl) ?_
      refine lv_iconst (v := (0 : Int32)) hx hb dX1_readSpot_71 (by decide) ?_
      refine lv_sipush (v := (999 : Int32)) hx hb dX1_readSpot_72 (by decide) ?_
      obtain ⟨v6, m7, z8, hD⟩ := b2_el hD
      refine rcV (Wf := fun z => Wf z m) (mm := h) (As := [.int (0 : Int32), .int (999 : Int32)]) (rest := []) Fx0 (c_X1_readNumber l (Wf := fun z0_ z1_ => Wf z0_ z1_) (fun z1_ => hLh z1_) (fun z0_ => hL z0_) (fun a0_ b0_ a1_ b1_ => hAd a0_ b0_ a1_ b1_) hm2 h m (0 : Int32) (999 : Int32) z8) hP (hD1 _ (hAd _ _ _ _)) hS (hA1 _ _ (hAd _ _ _ _) hS.1) (hLh m) (Nat.le_of_ble_eq_true rfl) (hs4 _ _) rfl tw_3_150 tw_3_147 tw_3_149 ts_16 tw_1_12 yd_X1_readNumber ⟨(Nat.le_of_ble_eq_true rfl), (Nat.le_of_ble_eq_true rfl)⟩ rfl hl.1 rfl (Nat.le_of_ble_eq_true rfl) dX1_readSpot_75 (fun H locs hP hS => ?_)
      refine lv_goto (tgt := 82) hx hb dX1_readSpot_78 (by decide) ?_
      refine lv_istore_n (lv' := [(3, .int v6), (2, .int xt0), (0, .ref (adh 4)), (1, .int x1)]) hx hb dX1_readSpot_82 rfl hl (by decide) rfl (fun ls hl => ?_)
      refine lv_aload_n hx hb dX1_readSpot_83 rfl (lv_at hl 2 rfl) ?_
      refine rg (Wf := fun z => Wf z m) (mm := m7) hx hb hT hu1 hown hK hP (hLh m) 4 6 (Nat.le_of_ble_eq_true rfl) (hs4 _ _) rfl (Nat.le_of_ble_eq_true rfl) (Fx0.T tw_2_219) rfl (v := .int (gi m7 4 6)) rfl dX1_readSpot_84 ?_
      refine lv_if_ne (tgt := 103) hx hb dX1_readSpot_87 (by decide) (fun c => ?_) (fun c => ?_)
      · have hD := ifn hD c
        cases hD
        exact hret _ _ _ hP hS (fun Qc hq => W.vret hx hb hr hq hS.2.2 dX1_readSpot_103 hlocks)
      · have hD := ifp hD c
        refine lv_aload_n hx hb dX1_readSpot_90 rfl (lv_at hl 2 rfl) ?_
        refine rg (Wf := fun z => Wf z m) (mm := m7) hx hb hT hu1 hown hK hP (hLh m) 4 1 (Nat.le_of_ble_eq_true rfl) (hs4 _ _) rfl (Nat.le_of_ble_eq_true rfl) (Fx0.T tw_2_214) rfl (v := .ref (ad 24)) (congrArg (fun z => some (Value.ref z)) hm2) dX1_readSpot_91 ?_
        refine rgN (Wf := fun z => Wf m7 z) (mm := m) hx hb hT hu6 hown hK hP (hL m7) 24 8 (Nat.le_of_ble_eq_true rfl) (ms24 _ _) rfl (Nat.le_of_ble_eq_true rfl) tw_2_106 rfl (v := .ref (ad 36)) rfl dX1_readSpot_94 ?_
        refine lv_iload_n hx hb dX1_readSpot_97 rfl (lv_at hl 3 rfl) ?_
        refine lv_iload_n hx hb dX1_readSpot_98 rfl (lv_at hl 1 rfl) ?_
        refine lv_iload_n hx hb dX1_readSpot_99 rfl (lv_at hl 0 rfl) ?_
        obtain ⟨m9, z10, hD⟩ := b1_el hD
        refine rcVN (Wf := fun z => Wf m7 z) (mm := m) (As := [.int x1, .int xt0, .int v6]) (rest := []) Fx0 (c_X0_addSpot l (Wf := fun z0_ => Wf m7 z0_) (hL m7) (fun a0_ b0_ => hAd m7 m7 a0_ b0_) m x1 xt0 v6 z10) hP (hD1 _ (hAd _ _ _ _)) hS (hA1 _ _ (hAd _ _ _ _) hS.1) (hL m7) (Nat.le_of_ble_eq_true rfl) (ms36 _ _) rfl tw_3_217 tw_3_214 tw_3_216 ts_29 tw_1_4 yd_X0_addSpot ⟨(Nat.le_of_ble_eq_true rfl), (Nat.le_of_ble_eq_true rfl)⟩ rfl hl.1 rfl (Nat.le_of_ble_eq_true rfl) dX1_readSpot_100 (fun H locs hP hS => ?_)
        cases hD
        exact hret _ _ _ hP hS (fun Qc hq => W.vret hx hb hr hq hS.2.2 dX1_readSpot_103 hlocks)
  refine lv_aload_n hx hb dX1_readSpot_0 rfl (lv_at hl 0 rfl) ?_
  refine rg (Wf := fun z => Wf z m) (mm := h) hx hb hT hu1 hown hK hP (hLh m) 4 1 (Nat.le_of_ble_eq_true rfl) (hs4 _ _) rfl (Nat.le_of_ble_eq_true rfl) (Fx0.T tw_2_214) rfl (v := .ref (ad 24)) (congrArg (fun z => some (Value.ref z)) hm2) dX1_readSpot_1 ?_
  refine rgN (Wf := fun z => Wf h z) (mm := m) hx hb hT hu6 hown hK hP (hL h) 24 8 (Nat.le_of_ble_eq_true rfl) (ms24 _ _) rfl (Nat.le_of_ble_eq_true rfl) tw_2_106 rfl (v := .ref (ad 36)) rfl dX1_readSpot_4 ?_
  refine rgN (Wf := fun z => Wf h z) (mm := m) hx hb hT hu0 hown hK hP (hL h) 36 0 (Nat.le_of_ble_eq_true rfl) (ms36 _ _) rfl (Nat.le_of_ble_eq_true rfl) tw_1_98 rfl (v := .int (gi m 36 0)) rfl dX1_readSpot_7 ?_
  refine lv_bipush (v := (40 : Int32)) hx hb dX1_readSpot_10 (by decide) ?_
  refine lv_icmp_ne (tgt := 25) hx hb dX1_readSpot_12 (by decide) (fun c => ?_) (fun c => ?_)
  · have hD := ifn hD c
    refine lv_aload_n hx hb dX1_readSpot_25 rfl (lv_at hl 0 rfl) ?_
    refine lv_iconst (v := (0 : Int32)) hx hb dX1_readSpot_26 (by decide) ?_
    refine lv_aload_n hx hb dX1_readSpot_27 rfl (lv_at hl 0 rfl) ?_
    refine rg (Wf := fun z => Wf z m) (mm := h) hx hb hT hu1 hown hK hP (hLh m) 4 1 (Nat.le_of_ble_eq_true rfl) (hs4 _ _) rfl (Nat.le_of_ble_eq_true rfl) (Fx0.T tw_2_214) rfl (v := .ref (ad 24)) (congrArg (fun z => some (Value.ref z)) hm2) dX1_readSpot_28 ?_
    refine rgN (Wf := fun z => Wf h z) (mm := m) hx hb hT hu6 hown hK hP (hL h) 24 5 (Nat.le_of_ble_eq_true rfl) (ms24 _ _) rfl (Nat.le_of_ble_eq_true rfl) tw_2_94 rfl (v := .ref (ad 28)) rfl dX1_readSpot_31 ?_
    refine rgN (Wf := fun z => Wf h z) (mm := m) hx hb hT hu5 hown hK hP (hL h) 28 0 (Nat.le_of_ble_eq_true rfl) (ms28 _ _) rfl (Nat.le_of_ble_eq_true rfl) tw_1_54 rfl (v := .int (gi m 28 0)) rfl dX1_readSpot_34 ?_
    refine lv_iconst (v := (1 : Int32)) hx hb dX1_readSpot_37 (by decide) ?_
    refine lv_isub hx hb dX1_readSpot_38 ?_
    obtain ⟨v1, m2, z3, hD⟩ := b2_el hD
    refine rcV (Wf := fun z => Wf z m) (mm := h) (As := [.int (0 : Int32), .int ((gi m 28 0) - (1 : Int32))]) (rest := []) Fx0 (c_X1_readNumber l (Wf := fun z0_ z1_ => Wf z0_ z1_) (fun z1_ => hLh z1_) (fun z0_ => hL z0_) (fun a0_ b0_ a1_ b1_ => hAd a0_ b0_ a1_ b1_) hm2 h m (0 : Int32) ((gi m 28 0) - (1 : Int32)) z3) hP (hD1 _ (hAd _ _ _ _)) hS (hA1 _ _ (hAd _ _ _ _) hS.1) (hLh m) (Nat.le_of_ble_eq_true rfl) (hs4 _ _) rfl tw_3_150 tw_3_147 tw_3_149 ts_16 tw_1_12 yd_X1_readNumber ⟨(Nat.le_of_ble_eq_true rfl), (Nat.le_of_ble_eq_true rfl)⟩ rfl hl.1 rfl (Nat.le_of_ble_eq_true rfl) dX1_readSpot_39 (fun H locs hP hS => ?_)
    refine lv_istore_n (lv' := [(1, .int v1), (0, .ref (adh 4))]) hx hb dX1_readSpot_42 rfl hl (by decide) rfl (fun ls hl => ?_)
    refine lv_aload_n hx hb dX1_readSpot_43 rfl (lv_at hl 1 rfl) ?_
    refine rg (Wf := fun z => Wf z m) (mm := m2) hx hb hT hu1 hown hK hP (hLh m) 4 6 (Nat.le_of_ble_eq_true rfl) (hs4 _ _) rfl (Nat.le_of_ble_eq_true rfl) (Fx0.T tw_2_219) rfl (v := .int (gi m2 4 6)) rfl dX1_readSpot_44 ?_
    refine lv_if_ne (tgt := 61) hx hb dX1_readSpot_47 (by decide) (fun c => ?_) (fun c => ?_)
    · have hD := ifn hD c
      refine lv_iconst (v := (0 : Int32)) hx hb dX1_readSpot_61 (by decide) ?_
      exact c_62 _ _ _ _ _ _ _ hD hP hS (lv_sub hl [1, 0] rfl)
    · have hD := ifp hD c
      refine lv_aload_n hx hb dX1_readSpot_50 rfl (lv_at hl 1 rfl) ?_
      refine lv_iconst (v := (0 : Int32)) hx hb dX1_readSpot_51 (by decide) ?_
      refine lv_sipush (v := (999 : Int32)) hx hb dX1_readSpot_52 (by decide) ?_
      obtain ⟨v11, m12, z13, hD⟩ := b2_el hD
      refine rcV (Wf := fun z => Wf z m) (mm := m2) (As := [.int (0 : Int32), .int (999 : Int32)]) (rest := []) Fx0 (c_X1_readNumber l (Wf := fun z0_ z1_ => Wf z0_ z1_) (fun z1_ => hLh z1_) (fun z0_ => hL z0_) (fun a0_ b0_ a1_ b1_ => hAd a0_ b0_ a1_ b1_) hm2 m2 m (0 : Int32) (999 : Int32) z13) hP (hD1 _ (hAd _ _ _ _)) hS (hA1 _ _ (hAd _ _ _ _) hS.1) (hLh m) (Nat.le_of_ble_eq_true rfl) (hs4 _ _) rfl tw_3_150 tw_3_147 tw_3_149 ts_16 tw_1_12 yd_X1_readNumber ⟨(Nat.le_of_ble_eq_true rfl), (Nat.le_of_ble_eq_true rfl)⟩ rfl hl.1 rfl (Nat.le_of_ble_eq_true rfl) dX1_readSpot_55 (fun H locs hP hS => ?_)
      refine lv_goto (tgt := 62) hx hb dX1_readSpot_58 (by decide) ?_
      exact c_62 _ _ _ _ _ _ _ hD hP hS (lv_sub hl [1, 0] rfl)
  · have hD := ifp hD c
    refine lv_aload_n hx hb dX1_readSpot_15 rfl (lv_at hl 0 rfl) ?_
    refine lv_iconst (v := (3 : Int32)) hx hb dX1_readSpot_16 (by decide) ?_
    refine lv_aload_n hx hb dX1_readSpot_17 rfl (lv_at hl 0 rfl) ?_
    refine rg (Wf := fun z => Wf z m) (mm := h) hx hb hT hu1 hown hK hP (hLh m) 4 4 (Nat.le_of_ble_eq_true rfl) (hs4 _ _) rfl (Nat.le_of_ble_eq_true rfl) (Fx0.T tw_2_217) rfl (v := .int (gi h 4 4)) rfl dX1_readSpot_18 ?_
    obtain ⟨m14, z15, hD⟩ := b1_el hD
    refine rcV (Wf := fun z => Wf z m) (mm := h) (As := [.int (3 : Int32), .int (gi h 4 4)]) (rest := []) Fx0 (c_X1_fail l (Wf := fun z0_ z1_ => Wf z0_ z1_) (fun z1_ => hLh z1_) (fun z0_ => hL z0_) (fun a0_ b0_ a1_ b1_ => hAd a0_ b0_ a1_ b1_) hm2 h m (3 : Int32) (gi h 4 4) z15) hP (hD1 _ (hAd _ _ _ _)) hS (hA1 _ _ (hAd _ _ _ _) hS.1) (hLh m) (Nat.le_of_ble_eq_true rfl) (hs4 _ _) rfl tw_3_146 tw_3_143 tw_3_145 ts_15 tw_1_12 yd_X1_fail ⟨(Nat.le_of_ble_eq_true rfl), (Nat.le_of_ble_eq_true rfl)⟩ rfl hl.1 rfl (Nat.le_of_ble_eq_true rfl) dX1_readSpot_21 (fun H locs hP hS => ?_)
    cases hD
    exact hret _ _ _ hP hS (fun Qc hq => W.vret hx hb hr hq hS.2.2 dX1_readSpot_24 hlocks)

noncomputable def D_X1_readBefore_61 (x2 : Int32) (xt0 : Int32) (h : MM) (m : MM) : Option (MM × MM) := if (gi h 4 6) = 0 then (b1 (D_X0_wouldCircle x2 xt0 m) (fun v4 => if v4 = 0 then (b1 (D_X0_pairIndex x2 xt0 m) (fun v6 => if v6 = (-1 : Int32) then (b1 (D_X0_addPair x2 xt0 m) (fun m8 => some (h, m8))) else (some (h, m)))) else (b1 (D_X1_fail (4 : Int32) (gi h 4 5) h m) (fun m10 => some (m10, m))))) else (some (h, m))
noncomputable def D_X1_readBefore (h : MM) (m : MM) : Option (MM × MM) := if (gi m 36 9) = (20 : Int32) then (b1 (D_X1_fail (3 : Int32) (gi h 4 4) h m) (fun m15 => some (m15, m))) else (b2 (D_X1_readNumber (0 : Int32) ((gi m 36 0) - (1 : Int32)) h m) (fun v1 m2 => if (gi m2 4 6) = 0 then (b2 (D_X1_readNumber (0 : Int32) ((gi m 36 0) - (1 : Int32)) m2 m) (fun v12 m13 => D_X1_readBefore_61 v1 v12 m13 m)) else (D_X1_readBefore_61 v1 (0 : Int32) m2 m)))
set_option maxHeartbeats 4000000 in
set_option maxRecDepth 100000 in
theorem c_X1_readBefore (l : Launch) {D : va_G} {cs : Nat → ClassId} {adh ad ma : Nat → Nat} {Wf : MM → MM → va_W} (hLh : ∀ m : MM, Ln 8 adh (hsh cs adh ma) (fun z => Wf z m)) (hL : ∀ h : MM, Ln 51 ad (msh cs ad) (fun z => Wf h z)) (hAd : ∀ a0_ b0_ a1_ b1_ : MM, (Wf a0_ a1_).map (fun q => q.1) = (Wf b0_ b1_).map (fun q => q.1)) (hm2 : ma 2 = ad 24) (h : MM) (m : MM) {h' : MM} {m' : MM} (hD : D_X1_readBefore h m = some (h', m')) : Ct l yX1_readBefore cX1_readBefore 4 none 3 63 D cs [.ref (adh 4)] (Wf h m) (Wf h' m') (none) := by
  refine Ct.ofW (by decide) (Nat.le_of_ble_eq_true rfl) (hAd _ _ _ _) ?_
  intro p e s m0 below meth c A Q ls args hx hb hr hml hlocks hown hts hK hP hD1 hSS hS hA1 hl hret
  have hT : ∀ w ∈ TBL, w.before args s = true := fun w h => hts w (List.mem_cons_of_mem _ h)
  have Fx0 : Fx p l m0 c cX1_readBefore 4 s args yX1_readBefore cX1_readBefore 4 none D cs A := ⟨hx, hb, hml, hown, hts, hK, hSS⟩
  have hown : s.vm.findClass RX1 = some m0.cls := hown
  have hl : lv_has ls 4 [(0, .ref (adh 4))] := hl
  unfold D_X1_readBefore at hD
  have c_61 : ∀ (x2 : Int32) (xt0 : Int32) (h : MM) (m : MM) (H : Heap) (locs : List Loc) (ls : Array Slot), D_X1_readBefore_61 x2 xt0 h m = some (h', m') → va_P D vwCl (Wf h m) H → va_S A s.heap H locs → lv_has ls 4 [(0, .ref (adh 4)), (1, .ref (ad 36)), (2, .int x2)] → W p l e ({ frames := 3, cells := 0, slots := 0, locals := 63 } : Room) s m0 args below meth c H locs 0 0 Q (F0 m0 61 ls [.int xt0]) := by
    intro x2 xt0 h m H locs ls hD hP hS hl
    unfold D_X1_readBefore_61 at hD
    refine lv_istore_n (lv' := [(3, .int xt0), (0, .ref (adh 4)), (1, .ref (ad 36)), (2, .int x2)]) hx hb dX1_readBefore_61 rfl hl (by decide) rfl (fun ls hl => ?_)
    refine lv_aload_n hx hb dX1_readBefore_62 rfl (lv_at hl 1 rfl) ?_
    refine rg (Wf := fun z => Wf z m) (mm := h) hx hb hT hu1 hown hK hP (hLh m) 4 6 (Nat.le_of_ble_eq_true rfl) (hs4 _ _) rfl (Nat.le_of_ble_eq_true rfl) (Fx0.T tw_2_219) rfl (v := .int (gi h 4 6)) rfl dX1_readBefore_63 ?_
    refine lv_if_eq (tgt := 70) hx hb dX1_readBefore_66 (by decide) (fun c => ?_) (fun c => ?_)
    · have hD := ifp hD c
      refine lv_aload_n hx hb dX1_readBefore_70 rfl (lv_at hl 2 rfl) ?_
      refine lv_iload_n hx hb dX1_readBefore_71 rfl (lv_at hl 3 rfl) ?_
      refine lv_iload_n hx hb dX1_readBefore_72 rfl (lv_at hl 0 rfl) ?_
      obtain ⟨v4, z5, hD⟩ := b1_el hD
      refine rcVN (Wf := fun z => Wf h z) (mm := m) (As := [.int x2, .int xt0]) (rest := []) Fx0 (c_X0_wouldCircle l (Wf := fun z0_ => Wf h z0_) (hL h) (fun a0_ b0_ => hAd h h a0_ b0_) m x2 xt0 z5) hP (hD1 _ (hAd _ _ _ _)) hS (hA1 _ _ (hAd _ _ _ _) hS.1) (hL h) (Nat.le_of_ble_eq_true rfl) (ms36 _ _) rfl tw_3_226 tw_3_223 tw_3_225 ts_31 tw_1_4 yd_X0_wouldCircle ⟨(Nat.le_of_ble_eq_true rfl), (Nat.le_of_ble_eq_true rfl)⟩ rfl hl.1 rfl (Nat.le_of_ble_eq_true rfl) dX1_readBefore_73 (fun H locs hP hS => ?_)
      refine lv_if_eq (tgt := 91) hx hb dX1_readBefore_76 (by decide) (fun c => ?_) (fun c => ?_)
      · have hD := ifp hD c
        refine lv_aload_n hx hb dX1_readBefore_91 rfl (lv_at hl 2 rfl) ?_
        refine lv_iload_n hx hb dX1_readBefore_92 rfl (lv_at hl 3 rfl) ?_
        refine lv_iload_n hx hb dX1_readBefore_93 rfl (lv_at hl 0 rfl) ?_
        obtain ⟨v6, z7, hD⟩ := b1_el hD
        refine rcVN (Wf := fun z => Wf h z) (mm := m) (As := [.int x2, .int xt0]) (rest := []) Fx0 (c_X0_pairIndex l (Wf := fun z0_ => Wf h z0_) (hL h) (fun a0_ b0_ => hAd h h a0_ b0_) m x2 xt0 z7) hP (hD1 _ (hAd _ _ _ _)) hS (hA1 _ _ (hAd _ _ _ _) hS.1) (hL h) (Nat.le_of_ble_eq_true rfl) (ms36 _ _) rfl tw_3_234 tw_3_231 tw_3_233 ts_33 tw_1_4 yd_X0_pairIndex ⟨(Nat.le_of_ble_eq_true rfl), (Nat.le_of_ble_eq_true rfl)⟩ rfl hl.1 rfl (Nat.le_of_ble_eq_true rfl) dX1_readBefore_94 (fun H locs hP hS => ?_)
        refine lv_iconst (v := (-1 : Int32)) hx hb dX1_readBefore_97 (by decide) ?_
        refine lv_icmp_ne (tgt := 107) hx hb dX1_readBefore_98 (by decide) (fun c => ?_) (fun c => ?_)
        · have hD := ifn hD c
          cases hD
          exact hret _ _ _ hP hS (fun Qc hq => W.vret hx hb hr hq hS.2.2 dX1_readBefore_107 hlocks)
        · have hD := ifp hD c
          refine lv_aload_n hx hb dX1_readBefore_101 rfl (lv_at hl 2 rfl) ?_
          refine lv_iload_n hx hb dX1_readBefore_102 rfl (lv_at hl 3 rfl) ?_
          refine lv_iload_n hx hb dX1_readBefore_103 rfl (lv_at hl 0 rfl) ?_
          obtain ⟨m8, z9, hD⟩ := b1_el hD
          refine rcVN (Wf := fun z => Wf h z) (mm := m) (As := [.int x2, .int xt0]) (rest := []) Fx0 (c_X0_addPair l (Wf := fun z0_ => Wf h z0_) (hL h) (fun a0_ b0_ => hAd h h a0_ b0_) m x2 xt0 z9) hP (hD1 _ (hAd _ _ _ _)) hS (hA1 _ _ (hAd _ _ _ _) hS.1) (hL h) (Nat.le_of_ble_eq_true rfl) (ms36 _ _) rfl tw_3_238 tw_3_235 tw_3_237 ts_34 tw_1_4 yd_X0_addPair ⟨(Nat.le_of_ble_eq_true rfl), (Nat.le_of_ble_eq_true rfl)⟩ rfl hl.1 rfl (Nat.le_of_ble_eq_true rfl) dX1_readBefore_104 (fun H locs hP hS => ?_)
          cases hD
          exact hret _ _ _ hP hS (fun Qc hq => W.vret hx hb hr hq hS.2.2 dX1_readBefore_107 hlocks)
      · have hD := ifn hD c
        refine lv_aload_n hx hb dX1_readBefore_79 rfl (lv_at hl 1 rfl) ?_
        refine lv_iconst (v := (4 : Int32)) hx hb dX1_readBefore_80 (by decide) ?_
        refine lv_aload_n hx hb dX1_readBefore_81 rfl (lv_at hl 1 rfl) ?_
        refine rg (Wf := fun z => Wf z m) (mm := h) hx hb hT hu1 hown hK hP (hLh m) 4 5 (Nat.le_of_ble_eq_true rfl) (hs4 _ _) rfl (Nat.le_of_ble_eq_true rfl) (Fx0.T tw_2_218) rfl (v := .int (gi h 4 5)) rfl dX1_readBefore_82 ?_
        obtain ⟨m10, z11, hD⟩ := b1_el hD
        refine rcV (Wf := fun z => Wf z m) (mm := h) (As := [.int (4 : Int32), .int (gi h 4 5)]) (rest := []) Fx0 (c_X1_fail l (Wf := fun z0_ z1_ => Wf z0_ z1_) (fun z1_ => hLh z1_) (fun z0_ => hL z0_) (fun a0_ b0_ a1_ b1_ => hAd a0_ b0_ a1_ b1_) hm2 h m (4 : Int32) (gi h 4 5) z11) hP (hD1 _ (hAd _ _ _ _)) hS (hA1 _ _ (hAd _ _ _ _) hS.1) (hLh m) (Nat.le_of_ble_eq_true rfl) (hs4 _ _) rfl tw_3_146 tw_3_143 tw_3_145 ts_15 tw_1_12 yd_X1_fail ⟨(Nat.le_of_ble_eq_true rfl), (Nat.le_of_ble_eq_true rfl)⟩ rfl hl.1 rfl (Nat.le_of_ble_eq_true rfl) dX1_readBefore_85 (fun H locs hP hS => ?_)
        refine lv_goto (tgt := 107) hx hb dX1_readBefore_88 (by decide) ?_
        cases hD
        exact hret _ _ _ hP hS (fun Qc hq => W.vret hx hb hr hq hS.2.2 dX1_readBefore_107 hlocks)
    · have hD := ifn hD c
      cases hD
      exact hret _ _ _ hP hS (fun Qc hq => W.vret hx hb hr hq hS.2.2 dX1_readBefore_69 hlocks)
  refine lv_aload_n hx hb dX1_readBefore_0 rfl (lv_at hl 0 rfl) ?_
  refine rg (Wf := fun z => Wf z m) (mm := h) hx hb hT hu1 hown hK hP (hLh m) 4 1 (Nat.le_of_ble_eq_true rfl) (hs4 _ _) rfl (Nat.le_of_ble_eq_true rfl) (Fx0.T tw_2_214) rfl (v := .ref (ad 24)) (congrArg (fun z => some (Value.ref z)) hm2) dX1_readBefore_1 ?_
  refine rgN (Wf := fun z => Wf h z) (mm := m) hx hb hT hu6 hown hK hP (hL h) 24 8 (Nat.le_of_ble_eq_true rfl) (ms24 _ _) rfl (Nat.le_of_ble_eq_true rfl) tw_2_106 rfl (v := .ref (ad 36)) rfl dX1_readBefore_4 ?_
  refine lv_astore_n (lv' := [(1, .ref (ad 36)), (0, .ref (adh 4))]) hx hb dX1_readBefore_7 rfl hl (by decide) rfl (fun ls hl => ?_)
  refine lv_aload_n hx hb dX1_readBefore_8 rfl (lv_at hl 0 rfl) ?_
  refine rgN (Wf := fun z => Wf h z) (mm := m) hx hb hT hu0 hown hK hP (hL h) 36 9 (Nat.le_of_ble_eq_true rfl) (ms36 _ _) rfl (Nat.le_of_ble_eq_true rfl) tw_1_117 rfl (v := .int (gi m 36 9)) rfl dX1_readBefore_9 ?_
  refine lv_bipush (v := (20 : Int32)) hx hb dX1_readBefore_12 (by decide) ?_
  refine lv_icmp_ne (tgt := 27) hx hb dX1_readBefore_14 (by decide) (fun c => ?_) (fun c => ?_)
  · have hD := ifn hD c
    refine lv_aload_n hx hb dX1_readBefore_27 rfl (lv_at hl 1 rfl) ?_
    refine lv_iconst (v := (0 : Int32)) hx hb dX1_readBefore_28 (by decide) ?_
    refine lv_aload_n hx hb dX1_readBefore_29 rfl (lv_at hl 0 rfl) ?_
    refine rgN (Wf := fun z => Wf h z) (mm := m) hx hb hT hu0 hown hK hP (hL h) 36 0 (Nat.le_of_ble_eq_true rfl) (ms36 _ _) rfl (Nat.le_of_ble_eq_true rfl) tw_1_98 rfl (v := .int (gi m 36 0)) rfl dX1_readBefore_30 ?_
    refine lv_iconst (v := (1 : Int32)) hx hb dX1_readBefore_33 (by decide) ?_
    refine lv_isub hx hb dX1_readBefore_34 ?_
    obtain ⟨v1, m2, z3, hD⟩ := b2_el hD
    refine rcV (Wf := fun z => Wf z m) (mm := h) (As := [.int (0 : Int32), .int ((gi m 36 0) - (1 : Int32))]) (rest := []) Fx0 (c_X1_readNumber l (Wf := fun z0_ z1_ => Wf z0_ z1_) (fun z1_ => hLh z1_) (fun z0_ => hL z0_) (fun a0_ b0_ a1_ b1_ => hAd a0_ b0_ a1_ b1_) hm2 h m (0 : Int32) ((gi m 36 0) - (1 : Int32)) z3) hP (hD1 _ (hAd _ _ _ _)) hS (hA1 _ _ (hAd _ _ _ _) hS.1) (hLh m) (Nat.le_of_ble_eq_true rfl) (hs4 _ _) rfl tw_3_150 tw_3_147 tw_3_149 ts_16 tw_1_12 yd_X1_readNumber ⟨(Nat.le_of_ble_eq_true rfl), (Nat.le_of_ble_eq_true rfl)⟩ rfl hl.1 rfl (Nat.le_of_ble_eq_true rfl) dX1_readBefore_35 (fun H locs hP hS => ?_)
    refine lv_istore_n (lv' := [(2, .int v1), (1, .ref (ad 36)), (0, .ref (adh 4))]) hx hb dX1_readBefore_38 rfl hl (by decide) rfl (fun ls hl => ?_)
    refine lv_aload_n hx hb dX1_readBefore_39 rfl (lv_at hl 2 rfl) ?_
    refine rg (Wf := fun z => Wf z m) (mm := m2) hx hb hT hu1 hown hK hP (hLh m) 4 6 (Nat.le_of_ble_eq_true rfl) (hs4 _ _) rfl (Nat.le_of_ble_eq_true rfl) (Fx0.T tw_2_219) rfl (v := .int (gi m2 4 6)) rfl dX1_readBefore_40 ?_
    refine lv_if_ne (tgt := 60) hx hb dX1_readBefore_43 (by decide) (fun c => ?_) (fun c => ?_)
    · have hD := ifn hD c
      refine lv_iconst (v := (0 : Int32)) hx hb dX1_readBefore_60 (by decide) ?_
      exact c_61 _ _ _ _ _ _ _ hD hP hS (lv_sub hl [2, 1, 0] rfl)
    · have hD := ifp hD c
      refine lv_aload_n hx hb dX1_readBefore_46 rfl (lv_at hl 2 rfl) ?_
      refine lv_iconst (v := (0 : Int32)) hx hb dX1_readBefore_47 (by decide) ?_
      refine lv_aload_n hx hb dX1_readBefore_48 rfl (lv_at hl 1 rfl) ?_
      refine rgN (Wf := fun z => Wf m2 z) (mm := m) hx hb hT hu0 hown hK hP (hL m2) 36 0 (Nat.le_of_ble_eq_true rfl) (ms36 _ _) rfl (Nat.le_of_ble_eq_true rfl) tw_1_98 rfl (v := .int (gi m 36 0)) rfl dX1_readBefore_49 ?_
      refine lv_iconst (v := (1 : Int32)) hx hb dX1_readBefore_52 (by decide) ?_
      refine lv_isub hx hb dX1_readBefore_53 ?_
      obtain ⟨v12, m13, z14, hD⟩ := b2_el hD
      refine rcV (Wf := fun z => Wf z m) (mm := m2) (As := [.int (0 : Int32), .int ((gi m 36 0) - (1 : Int32))]) (rest := []) Fx0 (c_X1_readNumber l (Wf := fun z0_ z1_ => Wf z0_ z1_) (fun z1_ => hLh z1_) (fun z0_ => hL z0_) (fun a0_ b0_ a1_ b1_ => hAd a0_ b0_ a1_ b1_) hm2 m2 m (0 : Int32) ((gi m 36 0) - (1 : Int32)) z14) hP (hD1 _ (hAd _ _ _ _)) hS (hA1 _ _ (hAd _ _ _ _) hS.1) (hLh m) (Nat.le_of_ble_eq_true rfl) (hs4 _ _) rfl tw_3_150 tw_3_147 tw_3_149 ts_16 tw_1_12 yd_X1_readNumber ⟨(Nat.le_of_ble_eq_true rfl), (Nat.le_of_ble_eq_true rfl)⟩ rfl hl.1 rfl (Nat.le_of_ble_eq_true rfl) dX1_readBefore_54 (fun H locs hP hS => ?_)
      refine lv_goto (tgt := 61) hx hb dX1_readBefore_57 (by decide) ?_
      exact c_61 _ _ _ _ _ _ _ hD hP hS (lv_sub hl [2, 1, 0] rfl)
  · have hD := ifp hD c
    refine lv_aload_n hx hb dX1_readBefore_17 rfl (lv_at hl 1 rfl) ?_
    refine lv_iconst (v := (3 : Int32)) hx hb dX1_readBefore_18 (by decide) ?_
    refine lv_aload_n hx hb dX1_readBefore_19 rfl (lv_at hl 1 rfl) ?_
    refine rg (Wf := fun z => Wf z m) (mm := h) hx hb hT hu1 hown hK hP (hLh m) 4 4 (Nat.le_of_ble_eq_true rfl) (hs4 _ _) rfl (Nat.le_of_ble_eq_true rfl) (Fx0.T tw_2_217) rfl (v := .int (gi h 4 4)) rfl dX1_readBefore_20 ?_
    obtain ⟨m15, z16, hD⟩ := b1_el hD
    refine rcV (Wf := fun z => Wf z m) (mm := h) (As := [.int (3 : Int32), .int (gi h 4 4)]) (rest := []) Fx0 (c_X1_fail l (Wf := fun z0_ z1_ => Wf z0_ z1_) (fun z1_ => hLh z1_) (fun z0_ => hL z0_) (fun a0_ b0_ a1_ b1_ => hAd a0_ b0_ a1_ b1_) hm2 h m (3 : Int32) (gi h 4 4) z16) hP (hD1 _ (hAd _ _ _ _)) hS (hA1 _ _ (hAd _ _ _ _) hS.1) (hLh m) (Nat.le_of_ble_eq_true rfl) (hs4 _ _) rfl tw_3_146 tw_3_143 tw_3_145 ts_15 tw_1_12 yd_X1_fail ⟨(Nat.le_of_ble_eq_true rfl), (Nat.le_of_ble_eq_true rfl)⟩ rfl hl.1 rfl (Nat.le_of_ble_eq_true rfl) dX1_readBefore_23 (fun H locs hP hS => ?_)
    cases hD
    exact hret _ _ _ hP hS (fun Qc hq => W.vret hx hb hr hq hS.2.2 dX1_readBefore_26 hlocks)

noncomputable def D_X1_readMachine (h : MM) (m : MM) : Option (MM × MM) := b1 (D_X1_readWord h m) (fun m1 => b1 (D_X1_isWord 0 m1 m) (fun v3 => if v3 = 0 then (b1 (D_X1_fail (1 : Int32) (gi m1 4 4) m1 m) (fun m12 => some (m12, m))) else (b2 (D_X1_readNumber (1 : Int32) (4 : Int32) m1 m) (fun v5 m6 => if (gi m6 4 6) = 0 then (bnd (si m 24 1 v5) (fun m8 => b2 (D_X1_readSettings (0 : Int32) (0 : Int32) m6 m8) (fun m9 m10 => some (m9, m10)))) else (some (m6, m))))))
set_option maxHeartbeats 4000000 in
set_option maxRecDepth 100000 in
theorem c_X1_readMachine (l : Launch) {D : va_G} {cs : Nat → ClassId} {adh ad ma : Nat → Nat} {Wf : MM → MM → va_W} (hLh : ∀ m : MM, Ln 8 adh (hsh cs adh ma) (fun z => Wf z m)) (hL : ∀ h : MM, Ln 51 ad (msh cs ad) (fun z => Wf h z)) (hAd : ∀ a0_ b0_ a1_ b1_ : MM, (Wf a0_ a1_).map (fun q => q.1) = (Wf b0_ b1_).map (fun q => q.1)) (hm2 : ma 2 = ad 24) (h : MM) (m : MM) {h' : MM} {m' : MM} (hD : D_X1_readMachine h m = some (h', m')) : Ct l yX1_readMachine cX1_readMachine 2 none 5 107 D cs [.ref (adh 4)] (Wf h m) (Wf h' m') (none) := by
  refine Ct.ofW (by decide) (Nat.le_of_ble_eq_true rfl) (hAd _ _ _ _) ?_
  intro p e s m0 below meth c A Q ls args hx hb hr hml hlocks hown hts hK hP hD1 hSS hS hA1 hl hret
  have hT : ∀ w ∈ TBL, w.before args s = true := fun w h => hts w (List.mem_cons_of_mem _ h)
  have Fx0 : Fx p l m0 c cX1_readMachine 2 s args yX1_readMachine cX1_readMachine 2 none D cs A := ⟨hx, hb, hml, hown, hts, hK, hSS⟩
  have hown : s.vm.findClass RX1 = some m0.cls := hown
  have hl : lv_has ls 2 [(0, .ref (adh 4))] := hl
  unfold D_X1_readMachine at hD
  refine lv_aload_n hx hb dX1_readMachine_0 rfl (lv_at hl 0 rfl) ?_
  obtain ⟨m1, z2, hD⟩ := b1_el hD
  refine rcV (Wf := fun z => Wf z m) (mm := h) (As := []) (rest := []) Fx0 (c_X1_readWord l (Wf := fun z0_ z1_ => Wf z0_ z1_) (fun z1_ => hLh z1_) (fun z0_ => hL z0_) (fun a0_ b0_ a1_ b1_ => hAd a0_ b0_ a1_ b1_) hm2 h m z2) hP (hD1 _ (hAd _ _ _ _)) hS (hA1 _ _ (hAd _ _ _ _) hS.1) (hLh m) (Nat.le_of_ble_eq_true rfl) (hs4 _ _) rfl tw_3_131 tw_3_128 tw_3_130 ts_12 tw_1_12 yd_X1_readWord ⟨(Nat.le_of_ble_eq_true rfl), (Nat.le_of_ble_eq_true rfl)⟩ rfl hl.1 rfl (Nat.le_of_ble_eq_true rfl) dX1_readMachine_1 (fun H locs hP hS => ?_)
  refine lv_aload_n hx hb dX1_readMachine_4 rfl (lv_at hl 0 rfl) ?_
  refine rldc (x := ("PlacerHead$Description", 82, "machine", 0)) hx hb hown hK 0 rfl dX1_readMachine_5 ?_
  obtain ⟨v3, z4, hD⟩ := b1_el hD
  refine rcV (Wf := fun z => Wf z m) (mm := m1) (As := [.ref (sK D 0)]) (rest := []) Fx0 (c_X1_isWord l (Wf := fun z0_ z1_ => Wf z0_ z1_) (fun z1_ => hLh z1_) (fun z0_ => hL z0_) (fun a0_ b0_ a1_ b1_ => hAd a0_ b0_ a1_ b1_) hm2 m1 m 0 (by decide) z4) hP (hD1 _ (hAd _ _ _ _)) hS (hA1 _ _ (hAd _ _ _ _) hS.1) (hLh m) (Nat.le_of_ble_eq_true rfl) (hs4 _ _) rfl tw_3_140 tw_3_137 tw_3_139 ts_14 tw_1_12 yd_X1_isWord ⟨(Nat.le_of_ble_eq_true rfl), (Nat.le_of_ble_eq_true rfl)⟩ rfl hl.1 rfl (Nat.le_of_ble_eq_true rfl) dX1_readMachine_7 (fun H locs hP hS => ?_)
  refine lv_if_ne (tgt := 23) hx hb dX1_readMachine_10 (by decide) (fun c => ?_) (fun c => ?_)
  · have hD := ifn hD c
    refine lv_aload_n hx hb dX1_readMachine_23 rfl (lv_at hl 0 rfl) ?_
    refine lv_iconst (v := (1 : Int32)) hx hb dX1_readMachine_24 (by decide) ?_
    refine lv_iconst (v := (4 : Int32)) hx hb dX1_readMachine_25 (by decide) ?_
    obtain ⟨v5, m6, z7, hD⟩ := b2_el hD
    refine rcV (Wf := fun z => Wf z m) (mm := m1) (As := [.int (1 : Int32), .int (4 : Int32)]) (rest := []) Fx0 (c_X1_readNumber l (Wf := fun z0_ z1_ => Wf z0_ z1_) (fun z1_ => hLh z1_) (fun z0_ => hL z0_) (fun a0_ b0_ a1_ b1_ => hAd a0_ b0_ a1_ b1_) hm2 m1 m (1 : Int32) (4 : Int32) z7) hP (hD1 _ (hAd _ _ _ _)) hS (hA1 _ _ (hAd _ _ _ _) hS.1) (hLh m) (Nat.le_of_ble_eq_true rfl) (hs4 _ _) rfl tw_3_150 tw_3_147 tw_3_149 ts_16 tw_1_12 yd_X1_readNumber ⟨(Nat.le_of_ble_eq_true rfl), (Nat.le_of_ble_eq_true rfl)⟩ rfl hl.1 rfl (Nat.le_of_ble_eq_true rfl) dX1_readMachine_26 (fun H locs hP hS => ?_)
    refine lv_istore_n (lv' := [(1, .int v5), (0, .ref (adh 4))]) hx hb dX1_readMachine_29 rfl hl (by decide) rfl (fun ls hl => ?_)
    refine lv_aload_n hx hb dX1_readMachine_30 rfl (lv_at hl 1 rfl) ?_
    refine rg (Wf := fun z => Wf z m) (mm := m6) hx hb hT hu1 hown hK hP (hLh m) 4 6 (Nat.le_of_ble_eq_true rfl) (hs4 _ _) rfl (Nat.le_of_ble_eq_true rfl) (Fx0.T tw_2_219) rfl (v := .int (gi m6 4 6)) rfl dX1_readMachine_31 ?_
    refine lv_if_ne (tgt := 51) hx hb dX1_readMachine_34 (by decide) (fun c => ?_) (fun c => ?_)
    · have hD := ifn hD c
      cases hD
      exact hret _ _ _ hP hS (fun Qc hq => W.vret hx hb hr hq hS.2.2 dX1_readMachine_51 hlocks)
    · have hD := ifp hD c
      refine lv_aload_n hx hb dX1_readMachine_37 rfl (lv_at hl 1 rfl) ?_
      refine rg (Wf := fun z => Wf z m) (mm := m6) hx hb hT hu1 hown hK hP (hLh m) 4 1 (Nat.le_of_ble_eq_true rfl) (hs4 _ _) rfl (Nat.le_of_ble_eq_true rfl) (Fx0.T tw_2_214) rfl (v := .ref (ad 24)) (congrArg (fun z => some (Value.ref z)) hm2) dX1_readMachine_38 ?_
      refine lv_iload_n hx hb dX1_readMachine_41 rfl (lv_at hl 0 rfl) ?_
      obtain ⟨m8, em8, hD⟩ := bnd_el hD
      refine rpN (Wf := fun z => Wf m6 z) (mm := m) hx hb hT hu6 tyX6_ok nmX6 hown hK hP (hD1 _ (hAd _ _ _ _)) hS (hL m6) 24 1 (Nat.le_of_ble_eq_true rfl) (ms24 _ _) (ms24 _ _) rfl (Nat.le_of_ble_eq_true rfl) tw_2_81 rfl rfl rfl rfl (Nat.le_of_ble_eq_true rfl) dX1_readMachine_42 em8 (fun H locs hP hS => ?_)
      refine lv_aload_n hx hb dX1_readMachine_45 rfl (lv_at hl 1 rfl) ?_
      refine lv_iconst (v := (0 : Int32)) hx hb dX1_readMachine_46 (by decide) ?_
      refine lv_iconst (v := (0 : Int32)) hx hb dX1_readMachine_47 (by decide) ?_
      obtain ⟨m9, m10, z11, hD⟩ := b2_el hD
      refine rcV (Wf := fun z => Wf z m8) (mm := m6) (As := [.int (0 : Int32), .int (0 : Int32)]) (rest := []) Fx0 (c_X1_readSettings l (Wf := fun z0_ z1_ => Wf z0_ z1_) (fun z1_ => hLh z1_) (fun z0_ => hL z0_) (fun a0_ b0_ a1_ b1_ => hAd a0_ b0_ a1_ b1_) hm2 m6 m8 (0 : Int32) (0 : Int32) z11) hP (hD1 _ (hAd _ _ _ _)) hS (hA1 _ _ (hAd _ _ _ _) hS.1) (hLh m8) (Nat.le_of_ble_eq_true rfl) (hs4 _ _) rfl tw_3_159 tw_3_156 tw_3_158 ts_18 tw_1_12 yd_X1_readSettings ⟨(Nat.le_of_ble_eq_true rfl), (Nat.le_of_ble_eq_true rfl)⟩ rfl hl.1 rfl (Nat.le_of_ble_eq_true rfl) dX1_readMachine_48 (fun H locs hP hS => ?_)
      cases hD
      exact hret _ _ _ hP hS (fun Qc hq => W.vret hx hb hr hq hS.2.2 dX1_readMachine_51 hlocks)
  · have hD := ifp hD c
    refine lv_aload_n hx hb dX1_readMachine_13 rfl (lv_at hl 0 rfl) ?_
    refine lv_iconst (v := (1 : Int32)) hx hb dX1_readMachine_14 (by decide) ?_
    refine lv_aload_n hx hb dX1_readMachine_15 rfl (lv_at hl 0 rfl) ?_
    refine rg (Wf := fun z => Wf z m) (mm := m1) hx hb hT hu1 hown hK hP (hLh m) 4 4 (Nat.le_of_ble_eq_true rfl) (hs4 _ _) rfl (Nat.le_of_ble_eq_true rfl) (Fx0.T tw_2_217) rfl (v := .int (gi m1 4 4)) rfl dX1_readMachine_16 ?_
    obtain ⟨m12, z13, hD⟩ := b1_el hD
    refine rcV (Wf := fun z => Wf z m) (mm := m1) (As := [.int (1 : Int32), .int (gi m1 4 4)]) (rest := []) Fx0 (c_X1_fail l (Wf := fun z0_ z1_ => Wf z0_ z1_) (fun z1_ => hLh z1_) (fun z0_ => hL z0_) (fun a0_ b0_ a1_ b1_ => hAd a0_ b0_ a1_ b1_) hm2 m1 m (1 : Int32) (gi m1 4 4) z13) hP (hD1 _ (hAd _ _ _ _)) hS (hA1 _ _ (hAd _ _ _ _) hS.1) (hLh m) (Nat.le_of_ble_eq_true rfl) (hs4 _ _) rfl tw_3_146 tw_3_143 tw_3_145 ts_15 tw_1_12 yd_X1_fail ⟨(Nat.le_of_ble_eq_true rfl), (Nat.le_of_ble_eq_true rfl)⟩ rfl hl.1 rfl (Nat.le_of_ble_eq_true rfl) dX1_readMachine_19 (fun H locs hP hS => ?_)
    cases hD
    exact hret _ _ _ hP hS (fun Qc hq => W.vret hx hb hr hq hS.2.2 dX1_readMachine_22 hlocks)

noncomputable def D_X1_readStatement (h : MM) (m : MM) : Option (MM × MM) := if (gi h 4 6) = 0 then (b1 (D_X1_readWord h m) (fun m1 => b1 (D_X1_isWord 1 m1 m) (fun v3 => if v3 = 0 then (b1 (D_X1_isWord 2 m1 m) (fun v5 => if v5 = 0 then (b1 (D_X1_isWord 3 m1 m) (fun v7 => if v7 = 0 then (b1 (D_X1_isWord 4 m1 m) (fun v9 => if v9 = 0 then (b1 (D_X1_isWord 5 m1 m) (fun v11 => if v11 = 0 then (b1 (D_X1_isWord 6 m1 m) (fun v13 => if v13 = 0 then (b1 (D_X1_isWord 7 m1 m) (fun v15 => if v15 = 0 then (b1 (D_X1_isWord 8 m1 m) (fun v17 => if v17 = 0 then (b1 (D_X1_isWord 9 m1 m) (fun v19 => if v19 = 0 then (b1 (D_X1_isWord 10 m1 m) (fun v21 => if v21 = 0 then (b1 (D_X1_isWord 11 m1 m) (fun v23 => if v23 = 0 then (b1 (D_X1_fail (1 : Int32) (gi m1 4 4) m1 m) (fun m25 => some (m25, m))) else (b2 (D_X1_readBefore m1 m) (fun m27 m28 => some (m27, m28))))) else (b2 (D_X1_readSpot m1 m) (fun m30 m31 => some (m30, m31))))) else (b2 (D_X1_readFeeder m1 m) (fun m33 m34 => some (m33, m34))))) else (b2 (D_X1_readKind m1 m) (fun m36 m37 => some (m36, m37))))) else (b2 (D_X1_readNozzles m1 m) (fun m39 m40 => some (m39, m40))))) else (b2 (D_X1_readSettings (12 : Int32) (14 : Int32) m1 m) (fun m42 m43 => some (m42, m43))))) else (b2 (D_X1_readSettings (11 : Int32) (11 : Int32) m1 m) (fun m45 m46 => some (m45, m46))))) else (b2 (D_X1_readSettings (10 : Int32) (10 : Int32) m1 m) (fun m48 m49 => some (m48, m49))))) else (b2 (D_X1_readSettings (8 : Int32) (9 : Int32) m1 m) (fun m51 m52 => some (m51, m52))))) else (b2 (D_X1_readSettings (5 : Int32) (7 : Int32) m1 m) (fun m54 m55 => some (m54, m55))))) else (b2 (D_X1_readSettings (1 : Int32) (4 : Int32) m1 m) (fun m57 m58 => some (m57, m58)))))) else (some (h, m))
set_option maxHeartbeats 4000000 in
set_option maxRecDepth 100000 in
theorem c_X1_readStatement (l : Launch) {D : va_G} {cs : Nat → ClassId} {adh ad ma : Nat → Nat} {Wf : MM → MM → va_W} (hLh : ∀ m : MM, Ln 8 adh (hsh cs adh ma) (fun z => Wf z m)) (hL : ∀ h : MM, Ln 51 ad (msh cs ad) (fun z => Wf h z)) (hAd : ∀ a0_ b0_ a1_ b1_ : MM, (Wf a0_ a1_).map (fun q => q.1) = (Wf b0_ b1_).map (fun q => q.1)) (hm2 : ma 2 = ad 24) (h : MM) (m : MM) {h' : MM} {m' : MM} (hD : D_X1_readStatement h m = some (h', m')) : Ct l yX1_readStatement cX1_readStatement 1 none 5 107 D cs [.ref (adh 4)] (Wf h m) (Wf h' m') (none) := by
  refine Ct.ofW (by decide) (Nat.le_of_ble_eq_true rfl) (hAd _ _ _ _) ?_
  intro p e s m0 below meth c A Q ls args hx hb hr hml hlocks hown hts hK hP hD1 hSS hS hA1 hl hret
  have hT : ∀ w ∈ TBL, w.before args s = true := fun w h => hts w (List.mem_cons_of_mem _ h)
  have Fx0 : Fx p l m0 c cX1_readStatement 1 s args yX1_readStatement cX1_readStatement 1 none D cs A := ⟨hx, hb, hml, hown, hts, hK, hSS⟩
  have hown : s.vm.findClass RX1 = some m0.cls := hown
  have hl : lv_has ls 1 [(0, .ref (adh 4))] := hl
  unfold D_X1_readStatement at hD
  refine lv_aload_n hx hb dX1_readStatement_0 rfl (lv_at hl 0 rfl) ?_
  refine rg (Wf := fun z => Wf z m) (mm := h) hx hb hT hu1 hown hK hP (hLh m) 4 6 (Nat.le_of_ble_eq_true rfl) (hs4 _ _) rfl (Nat.le_of_ble_eq_true rfl) (Fx0.T tw_2_219) rfl (v := .int (gi h 4 6)) rfl dX1_readStatement_1 ?_
  refine lv_if_eq (tgt := 8) hx hb dX1_readStatement_4 (by decide) (fun c => ?_) (fun c => ?_)
  · have hD := ifp hD c
    refine lv_aload_n hx hb dX1_readStatement_8 rfl (lv_at hl 0 rfl) ?_
    obtain ⟨m1, z2, hD⟩ := b1_el hD
    refine rcV (Wf := fun z => Wf z m) (mm := h) (As := []) (rest := []) Fx0 (c_X1_readWord l (Wf := fun z0_ z1_ => Wf z0_ z1_) (fun z1_ => hLh z1_) (fun z0_ => hL z0_) (fun a0_ b0_ a1_ b1_ => hAd a0_ b0_ a1_ b1_) hm2 h m z2) hP (hD1 _ (hAd _ _ _ _)) hS (hA1 _ _ (hAd _ _ _ _) hS.1) (hLh m) (Nat.le_of_ble_eq_true rfl) (hs4 _ _) rfl tw_3_131 tw_3_128 tw_3_130 ts_12 tw_1_12 yd_X1_readWord ⟨(Nat.le_of_ble_eq_true rfl), (Nat.le_of_ble_eq_true rfl)⟩ rfl hl.1 rfl (Nat.le_of_ble_eq_true rfl) dX1_readStatement_9 (fun H locs hP hS => ?_)
    refine lv_aload_n hx hb dX1_readStatement_12 rfl (lv_at hl 0 rfl) ?_
    refine rldc (x := ("PlacerHead$Description", 96, "times", 1)) hx hb hown hK 1 rfl dX1_readStatement_13 ?_
    obtain ⟨v3, z4, hD⟩ := b1_el hD
    refine rcV (Wf := fun z => Wf z m) (mm := m1) (As := [.ref (sK D 1)]) (rest := []) Fx0 (c_X1_isWord l (Wf := fun z0_ z1_ => Wf z0_ z1_) (fun z1_ => hLh z1_) (fun z0_ => hL z0_) (fun a0_ b0_ a1_ b1_ => hAd a0_ b0_ a1_ b1_) hm2 m1 m 1 (by decide) z4) hP (hD1 _ (hAd _ _ _ _)) hS (hA1 _ _ (hAd _ _ _ _) hS.1) (hLh m) (Nat.le_of_ble_eq_true rfl) (hs4 _ _) rfl tw_3_140 tw_3_137 tw_3_139 ts_14 tw_1_12 yd_X1_isWord ⟨(Nat.le_of_ble_eq_true rfl), (Nat.le_of_ble_eq_true rfl)⟩ rfl hl.1 rfl (Nat.le_of_ble_eq_true rfl) dX1_readStatement_15 (fun H locs hP hS => ?_)
    refine lv_if_eq (tgt := 30) hx hb dX1_readStatement_18 (by decide) (fun c => ?_) (fun c => ?_)
    · have hD := ifp hD c
      refine lv_aload_n hx hb dX1_readStatement_30 rfl (lv_at hl 0 rfl) ?_
      refine rldc (x := ("PlacerHead$Description", 98, "vision", 2)) hx hb hown hK 2 rfl dX1_readStatement_31 ?_
      obtain ⟨v5, z6, hD⟩ := b1_el hD
      refine rcV (Wf := fun z => Wf z m) (mm := m1) (As := [.ref (sK D 2)]) (rest := []) Fx0 (c_X1_isWord l (Wf := fun z0_ z1_ => Wf z0_ z1_) (fun z1_ => hLh z1_) (fun z0_ => hL z0_) (fun a0_ b0_ a1_ b1_ => hAd a0_ b0_ a1_ b1_) hm2 m1 m 2 (by decide) z6) hP (hD1 _ (hAd _ _ _ _)) hS (hA1 _ _ (hAd _ _ _ _) hS.1) (hLh m) (Nat.le_of_ble_eq_true rfl) (hs4 _ _) rfl tw_3_140 tw_3_137 tw_3_139 ts_14 tw_1_12 yd_X1_isWord ⟨(Nat.le_of_ble_eq_true rfl), (Nat.le_of_ble_eq_true rfl)⟩ rfl hl.1 rfl (Nat.le_of_ble_eq_true rfl) dX1_readStatement_33 (fun H locs hP hS => ?_)
      refine lv_if_eq (tgt := 49) hx hb dX1_readStatement_36 (by decide) (fun c => ?_) (fun c => ?_)
      · have hD := ifp hD c
        refine lv_aload_n hx hb dX1_readStatement_49 rfl (lv_at hl 0 rfl) ?_
        refine rldc (x := ("PlacerHead$Description", 100, "camera", 3)) hx hb hown hK 3 rfl dX1_readStatement_50 ?_
        obtain ⟨v7, z8, hD⟩ := b1_el hD
        refine rcV (Wf := fun z => Wf z m) (mm := m1) (As := [.ref (sK D 3)]) (rest := []) Fx0 (c_X1_isWord l (Wf := fun z0_ z1_ => Wf z0_ z1_) (fun z1_ => hLh z1_) (fun z0_ => hL z0_) (fun a0_ b0_ a1_ b1_ => hAd a0_ b0_ a1_ b1_) hm2 m1 m 3 (by decide) z8) hP (hD1 _ (hAd _ _ _ _)) hS (hA1 _ _ (hAd _ _ _ _) hS.1) (hLh m) (Nat.le_of_ble_eq_true rfl) (hs4 _ _) rfl tw_3_140 tw_3_137 tw_3_139 ts_14 tw_1_12 yd_X1_isWord ⟨(Nat.le_of_ble_eq_true rfl), (Nat.le_of_ble_eq_true rfl)⟩ rfl hl.1 rfl (Nat.le_of_ble_eq_true rfl) dX1_readStatement_52 (fun H locs hP hS => ?_)
        refine lv_if_eq (tgt := 69) hx hb dX1_readStatement_55 (by decide) (fun c => ?_) (fun c => ?_)
        · have hD := ifp hD c
          refine lv_aload_n hx hb dX1_readStatement_69 rfl (lv_at hl 0 rfl) ?_
          refine rldc (x := ("PlacerHead$Description", 102, "seed", 4)) hx hb hown hK 4 rfl dX1_readStatement_70 ?_
          obtain ⟨v9, z10, hD⟩ := b1_el hD
          refine rcV (Wf := fun z => Wf z m) (mm := m1) (As := [.ref (sK D 4)]) (rest := []) Fx0 (c_X1_isWord l (Wf := fun z0_ z1_ => Wf z0_ z1_) (fun z1_ => hLh z1_) (fun z0_ => hL z0_) (fun a0_ b0_ a1_ b1_ => hAd a0_ b0_ a1_ b1_) hm2 m1 m 4 (by decide) z10) hP (hD1 _ (hAd _ _ _ _)) hS (hA1 _ _ (hAd _ _ _ _) hS.1) (hLh m) (Nat.le_of_ble_eq_true rfl) (hs4 _ _) rfl tw_3_140 tw_3_137 tw_3_139 ts_14 tw_1_12 yd_X1_isWord ⟨(Nat.le_of_ble_eq_true rfl), (Nat.le_of_ble_eq_true rfl)⟩ rfl hl.1 rfl (Nat.le_of_ble_eq_true rfl) dX1_readStatement_72 (fun H locs hP hS => ?_)
          refine lv_if_eq (tgt := 89) hx hb dX1_readStatement_75 (by decide) (fun c => ?_) (fun c => ?_)
          · have hD := ifp hD c
            refine lv_aload_n hx hb dX1_readStatement_89 rfl (lv_at hl 0 rfl) ?_
            refine rldc (x := ("PlacerHead$Description", 104, "alarm", 5)) hx hb hown hK 5 rfl dX1_readStatement_90 ?_
            obtain ⟨v11, z12, hD⟩ := b1_el hD
            refine rcV (Wf := fun z => Wf z m) (mm := m1) (As := [.ref (sK D 5)]) (rest := []) Fx0 (c_X1_isWord l (Wf := fun z0_ z1_ => Wf z0_ z1_) (fun z1_ => hLh z1_) (fun z0_ => hL z0_) (fun a0_ b0_ a1_ b1_ => hAd a0_ b0_ a1_ b1_) hm2 m1 m 5 (by decide) z12) hP (hD1 _ (hAd _ _ _ _)) hS (hA1 _ _ (hAd _ _ _ _) hS.1) (hLh m) (Nat.le_of_ble_eq_true rfl) (hs4 _ _) rfl tw_3_140 tw_3_137 tw_3_139 ts_14 tw_1_12 yd_X1_isWord ⟨(Nat.le_of_ble_eq_true rfl), (Nat.le_of_ble_eq_true rfl)⟩ rfl hl.1 rfl (Nat.le_of_ble_eq_true rfl) dX1_readStatement_92 (fun H locs hP hS => ?_)
            refine lv_if_eq (tgt := 109) hx hb dX1_readStatement_95 (by decide) (fun c => ?_) (fun c => ?_)
            · have hD := ifp hD c
              refine lv_aload_n hx hb dX1_readStatement_109 rfl (lv_at hl 0 rfl) ?_
              refine rldc (x := ("PlacerHead$Description", 106, "wear", 6)) hx hb hown hK 6 rfl dX1_readStatement_110 ?_
              obtain ⟨v13, z14, hD⟩ := b1_el hD
              refine rcV (Wf := fun z => Wf z m) (mm := m1) (As := [.ref (sK D 6)]) (rest := []) Fx0 (c_X1_isWord l (Wf := fun z0_ z1_ => Wf z0_ z1_) (fun z1_ => hLh z1_) (fun z0_ => hL z0_) (fun a0_ b0_ a1_ b1_ => hAd a0_ b0_ a1_ b1_) hm2 m1 m 6 (by decide) z14) hP (hD1 _ (hAd _ _ _ _)) hS (hA1 _ _ (hAd _ _ _ _) hS.1) (hLh m) (Nat.le_of_ble_eq_true rfl) (hs4 _ _) rfl tw_3_140 tw_3_137 tw_3_139 ts_14 tw_1_12 yd_X1_isWord ⟨(Nat.le_of_ble_eq_true rfl), (Nat.le_of_ble_eq_true rfl)⟩ rfl hl.1 rfl (Nat.le_of_ble_eq_true rfl) dX1_readStatement_112 (fun H locs hP hS => ?_)
              refine lv_if_eq (tgt := 129) hx hb dX1_readStatement_115 (by decide) (fun c => ?_) (fun c => ?_)
              · have hD := ifp hD c
                refine lv_aload_n hx hb dX1_readStatement_129 rfl (lv_at hl 0 rfl) ?_
                refine rldc (x := ("PlacerHead$Description", 108, "nozzles", 7)) hx hb hown hK 7 rfl dX1_readStatement_130 ?_
                obtain ⟨v15, z16, hD⟩ := b1_el hD
                refine rcV (Wf := fun z => Wf z m) (mm := m1) (As := [.ref (sK D 7)]) (rest := []) Fx0 (c_X1_isWord l (Wf := fun z0_ z1_ => Wf z0_ z1_) (fun z1_ => hLh z1_) (fun z0_ => hL z0_) (fun a0_ b0_ a1_ b1_ => hAd a0_ b0_ a1_ b1_) hm2 m1 m 7 (by decide) z16) hP (hD1 _ (hAd _ _ _ _)) hS (hA1 _ _ (hAd _ _ _ _) hS.1) (hLh m) (Nat.le_of_ble_eq_true rfl) (hs4 _ _) rfl tw_3_140 tw_3_137 tw_3_139 ts_14 tw_1_12 yd_X1_isWord ⟨(Nat.le_of_ble_eq_true rfl), (Nat.le_of_ble_eq_true rfl)⟩ rfl hl.1 rfl (Nat.le_of_ble_eq_true rfl) dX1_readStatement_132 (fun H locs hP hS => ?_)
                refine lv_if_eq (tgt := 145) hx hb dX1_readStatement_135 (by decide) (fun c => ?_) (fun c => ?_)
                · have hD := ifp hD c
                  refine lv_aload_n hx hb dX1_readStatement_145 rfl (lv_at hl 0 rfl) ?_
                  refine rldc (x := ("PlacerHead$Description", 113, "kind", 8)) hx hb hown hK 8 rfl dX1_readStatement_146 ?_
                  obtain ⟨v17, z18, hD⟩ := b1_el hD
                  refine rcV (Wf := fun z => Wf z m) (mm := m1) (As := [.ref (sK D 8)]) (rest := []) Fx0 (c_X1_isWord l (Wf := fun z0_ z1_ => Wf z0_ z1_) (fun z1_ => hLh z1_) (fun z0_ => hL z0_) (fun a0_ b0_ a1_ b1_ => hAd a0_ b0_ a1_ b1_) hm2 m1 m 8 (by decide) z18) hP (hD1 _ (hAd _ _ _ _)) hS (hA1 _ _ (hAd _ _ _ _) hS.1) (hLh m) (Nat.le_of_ble_eq_true rfl) (hs4 _ _) rfl tw_3_140 tw_3_137 tw_3_139 ts_14 tw_1_12 yd_X1_isWord ⟨(Nat.le_of_ble_eq_true rfl), (Nat.le_of_ble_eq_true rfl)⟩ rfl hl.1 rfl (Nat.le_of_ble_eq_true rfl) dX1_readStatement_148 (fun H locs hP hS => ?_)
                  refine lv_if_eq (tgt := 161) hx hb dX1_readStatement_151 (by decide) (fun c => ?_) (fun c => ?_)
                  · have hD := ifp hD c
                    refine lv_aload_n hx hb dX1_readStatement_161 rfl (lv_at hl 0 rfl) ?_
                    refine rldc (x := ("PlacerHead$Description", 118, "feeder", 9)) hx hb hown hK 9 rfl dX1_readStatement_162 ?_
                    obtain ⟨v19, z20, hD⟩ := b1_el hD
                    refine rcV (Wf := fun z => Wf z m) (mm := m1) (As := [.ref (sK D 9)]) (rest := []) Fx0 (c_X1_isWord l (Wf := fun z0_ z1_ => Wf z0_ z1_) (fun z1_ => hLh z1_) (fun z0_ => hL z0_) (fun a0_ b0_ a1_ b1_ => hAd a0_ b0_ a1_ b1_) hm2 m1 m 9 (by decide) z20) hP (hD1 _ (hAd _ _ _ _)) hS (hA1 _ _ (hAd _ _ _ _) hS.1) (hLh m) (Nat.le_of_ble_eq_true rfl) (hs4 _ _) rfl tw_3_140 tw_3_137 tw_3_139 ts_14 tw_1_12 yd_X1_isWord ⟨(Nat.le_of_ble_eq_true rfl), (Nat.le_of_ble_eq_true rfl)⟩ rfl hl.1 rfl (Nat.le_of_ble_eq_true rfl) dX1_readStatement_164 (fun H locs hP hS => ?_)
                    refine lv_if_eq (tgt := 177) hx hb dX1_readStatement_167 (by decide) (fun c => ?_) (fun c => ?_)
                    · have hD := ifp hD c
                      refine lv_aload_n hx hb dX1_readStatement_177 rfl (lv_at hl 0 rfl) ?_
                      refine rldc (x := ("PlacerHead$Description", 123, "spot", 10)) hx hb hown hK 10 rfl dX1_readStatement_178 ?_
                      obtain ⟨v21, z22, hD⟩ := b1_el hD
                      refine rcV (Wf := fun z => Wf z m) (mm := m1) (As := [.ref (sK D 10)]) (rest := []) Fx0 (c_X1_isWord l (Wf := fun z0_ z1_ => Wf z0_ z1_) (fun z1_ => hLh z1_) (fun z0_ => hL z0_) (fun a0_ b0_ a1_ b1_ => hAd a0_ b0_ a1_ b1_) hm2 m1 m 10 (by decide) z22) hP (hD1 _ (hAd _ _ _ _)) hS (hA1 _ _ (hAd _ _ _ _) hS.1) (hLh m) (Nat.le_of_ble_eq_true rfl) (hs4 _ _) rfl tw_3_140 tw_3_137 tw_3_139 ts_14 tw_1_12 yd_X1_isWord ⟨(Nat.le_of_ble_eq_true rfl), (Nat.le_of_ble_eq_true rfl)⟩ rfl hl.1 rfl (Nat.le_of_ble_eq_true rfl) dX1_readStatement_180 (fun H locs hP hS => ?_)
                      refine lv_if_eq (tgt := 193) hx hb dX1_readStatement_183 (by decide) (fun c => ?_) (fun c => ?_)
                      · have hD := ifp hD c
                        refine lv_aload_n hx hb dX1_readStatement_193 rfl (lv_at hl 0 rfl) ?_
                        refine rldc (x := ("PlacerHead$Description", 128, "before", 11)) hx hb hown hK 11 rfl dX1_readStatement_194 ?_
                        obtain ⟨v23, z24, hD⟩ := b1_el hD
                        refine rcV (Wf := fun z => Wf z m) (mm := m1) (As := [.ref (sK D 11)]) (rest := []) Fx0 (c_X1_isWord l (Wf := fun z0_ z1_ => Wf z0_ z1_) (fun z1_ => hLh z1_) (fun z0_ => hL z0_) (fun a0_ b0_ a1_ b1_ => hAd a0_ b0_ a1_ b1_) hm2 m1 m 11 (by decide) z24) hP (hD1 _ (hAd _ _ _ _)) hS (hA1 _ _ (hAd _ _ _ _) hS.1) (hLh m) (Nat.le_of_ble_eq_true rfl) (hs4 _ _) rfl tw_3_140 tw_3_137 tw_3_139 ts_14 tw_1_12 yd_X1_isWord ⟨(Nat.le_of_ble_eq_true rfl), (Nat.le_of_ble_eq_true rfl)⟩ rfl hl.1 rfl (Nat.le_of_ble_eq_true rfl) dX1_readStatement_196 (fun H locs hP hS => ?_)
                        refine lv_if_eq (tgt := 209) hx hb dX1_readStatement_199 (by decide) (fun c => ?_) (fun c => ?_)
                        · have hD := ifp hD c
                          refine lv_aload_n hx hb dX1_readStatement_209 rfl (lv_at hl 0 rfl) ?_
                          refine lv_iconst (v := (1 : Int32)) hx hb dX1_readStatement_210 (by decide) ?_
                          refine lv_aload_n hx hb dX1_readStatement_211 rfl (lv_at hl 0 rfl) ?_
                          refine rg (Wf := fun z => Wf z m) (mm := m1) hx hb hT hu1 hown hK hP (hLh m) 4 4 (Nat.le_of_ble_eq_true rfl) (hs4 _ _) rfl (Nat.le_of_ble_eq_true rfl) (Fx0.T tw_2_217) rfl (v := .int (gi m1 4 4)) rfl dX1_readStatement_212 ?_
                          obtain ⟨m25, z26, hD⟩ := b1_el hD
                          refine rcV (Wf := fun z => Wf z m) (mm := m1) (As := [.int (1 : Int32), .int (gi m1 4 4)]) (rest := []) Fx0 (c_X1_fail l (Wf := fun z0_ z1_ => Wf z0_ z1_) (fun z1_ => hLh z1_) (fun z0_ => hL z0_) (fun a0_ b0_ a1_ b1_ => hAd a0_ b0_ a1_ b1_) hm2 m1 m (1 : Int32) (gi m1 4 4) z26) hP (hD1 _ (hAd _ _ _ _)) hS (hA1 _ _ (hAd _ _ _ _) hS.1) (hLh m) (Nat.le_of_ble_eq_true rfl) (hs4 _ _) rfl tw_3_146 tw_3_143 tw_3_145 ts_15 tw_1_12 yd_X1_fail ⟨(Nat.le_of_ble_eq_true rfl), (Nat.le_of_ble_eq_true rfl)⟩ rfl hl.1 rfl (Nat.le_of_ble_eq_true rfl) dX1_readStatement_215 (fun H locs hP hS => ?_)
                          cases hD
                          exact hret _ _ _ hP hS (fun Qc hq => W.vret hx hb hr hq hS.2.2 dX1_readStatement_218 hlocks)
                        · have hD := ifn hD c
                          refine lv_aload_n hx hb dX1_readStatement_202 rfl (lv_at hl 0 rfl) ?_
                          obtain ⟨m27, m28, z29, hD⟩ := b2_el hD
                          refine rcV (Wf := fun z => Wf z m) (mm := m1) (As := []) (rest := []) Fx0 (c_X1_readBefore l (Wf := fun z0_ z1_ => Wf z0_ z1_) (fun z1_ => hLh z1_) (fun z0_ => hL z0_) (fun a0_ b0_ a1_ b1_ => hAd a0_ b0_ a1_ b1_) hm2 m1 m z29) hP (hD1 _ (hAd _ _ _ _)) hS (hA1 _ _ (hAd _ _ _ _) hS.1) (hLh m) (Nat.le_of_ble_eq_true rfl) (hs4 _ _) rfl tw_3_222 tw_3_219 tw_3_221 ts_30 tw_1_12 yd_X1_readBefore ⟨(Nat.le_of_ble_eq_true rfl), (Nat.le_of_ble_eq_true rfl)⟩ rfl hl.1 rfl (Nat.le_of_ble_eq_true rfl) dX1_readStatement_203 (fun H locs hP hS => ?_)
                          refine lv_goto (tgt := 218) hx hb dX1_readStatement_206 (by decide) ?_
                          cases hD
                          exact hret _ _ _ hP hS (fun Qc hq => W.vret hx hb hr hq hS.2.2 dX1_readStatement_218 hlocks)
                      · have hD := ifn hD c
                        refine lv_aload_n hx hb dX1_readStatement_186 rfl (lv_at hl 0 rfl) ?_
                        obtain ⟨m30, m31, z32, hD⟩ := b2_el hD
                        refine rcV (Wf := fun z => Wf z m) (mm := m1) (As := []) (rest := []) Fx0 (c_X1_readSpot l (Wf := fun z0_ z1_ => Wf z0_ z1_) (fun z1_ => hLh z1_) (fun z0_ => hL z0_) (fun a0_ b0_ a1_ b1_ => hAd a0_ b0_ a1_ b1_) hm2 m1 m z32) hP (hD1 _ (hAd _ _ _ _)) hS (hA1 _ _ (hAd _ _ _ _) hS.1) (hLh m) (Nat.le_of_ble_eq_true rfl) (hs4 _ _) rfl tw_3_213 tw_3_210 tw_3_212 ts_28 tw_1_12 yd_X1_readSpot ⟨(Nat.le_of_ble_eq_true rfl), (Nat.le_of_ble_eq_true rfl)⟩ rfl hl.1 rfl (Nat.le_of_ble_eq_true rfl) dX1_readStatement_187 (fun H locs hP hS => ?_)
                        refine lv_goto (tgt := 218) hx hb dX1_readStatement_190 (by decide) ?_
                        cases hD
                        exact hret _ _ _ hP hS (fun Qc hq => W.vret hx hb hr hq hS.2.2 dX1_readStatement_218 hlocks)
                    · have hD := ifn hD c
                      refine lv_aload_n hx hb dX1_readStatement_170 rfl (lv_at hl 0 rfl) ?_
                      obtain ⟨m33, m34, z35, hD⟩ := b2_el hD
                      refine rcV (Wf := fun z => Wf z m) (mm := m1) (As := []) (rest := []) Fx0 (c_X1_readFeeder l (Wf := fun z0_ z1_ => Wf z0_ z1_) (fun z1_ => hLh z1_) (fun z0_ => hL z0_) (fun a0_ b0_ a1_ b1_ => hAd a0_ b0_ a1_ b1_) hm2 m1 m z35) hP (hD1 _ (hAd _ _ _ _)) hS (hA1 _ _ (hAd _ _ _ _) hS.1) (hLh m) (Nat.le_of_ble_eq_true rfl) (hs4 _ _) rfl tw_3_200 tw_3_197 tw_3_199 ts_25 tw_1_12 yd_X1_readFeeder ⟨(Nat.le_of_ble_eq_true rfl), (Nat.le_of_ble_eq_true rfl)⟩ rfl hl.1 rfl (Nat.le_of_ble_eq_true rfl) dX1_readStatement_171 (fun H locs hP hS => ?_)
                      refine lv_goto (tgt := 218) hx hb dX1_readStatement_174 (by decide) ?_
                      cases hD
                      exact hret _ _ _ hP hS (fun Qc hq => W.vret hx hb hr hq hS.2.2 dX1_readStatement_218 hlocks)
                  · have hD := ifn hD c
                    refine lv_aload_n hx hb dX1_readStatement_154 rfl (lv_at hl 0 rfl) ?_
                    obtain ⟨m36, m37, z38, hD⟩ := b2_el hD
                    refine rcV (Wf := fun z => Wf z m) (mm := m1) (As := []) (rest := []) Fx0 (c_X1_readKind l (Wf := fun z0_ z1_ => Wf z0_ z1_) (fun z1_ => hLh z1_) (fun z0_ => hL z0_) (fun a0_ b0_ a1_ b1_ => hAd a0_ b0_ a1_ b1_) hm2 m1 m z38) hP (hD1 _ (hAd _ _ _ _)) hS (hA1 _ _ (hAd _ _ _ _) hS.1) (hLh m) (Nat.le_of_ble_eq_true rfl) (hs4 _ _) rfl tw_3_191 tw_3_188 tw_3_190 ts_23 tw_1_12 yd_X1_readKind ⟨(Nat.le_of_ble_eq_true rfl), (Nat.le_of_ble_eq_true rfl)⟩ rfl hl.1 rfl (Nat.le_of_ble_eq_true rfl) dX1_readStatement_155 (fun H locs hP hS => ?_)
                    refine lv_goto (tgt := 218) hx hb dX1_readStatement_158 (by decide) ?_
                    cases hD
                    exact hret _ _ _ hP hS (fun Qc hq => W.vret hx hb hr hq hS.2.2 dX1_readStatement_218 hlocks)
                · have hD := ifn hD c
                  refine lv_aload_n hx hb dX1_readStatement_138 rfl (lv_at hl 0 rfl) ?_
                  obtain ⟨m39, m40, z41, hD⟩ := b2_el hD
                  refine rcV (Wf := fun z => Wf z m) (mm := m1) (As := []) (rest := []) Fx0 (c_X1_readNozzles l (Wf := fun z0_ z1_ => Wf z0_ z1_) (fun z1_ => hLh z1_) (fun z0_ => hL z0_) (fun a0_ b0_ a1_ b1_ => hAd a0_ b0_ a1_ b1_) hm2 m1 m z41) hP (hD1 _ (hAd _ _ _ _)) hS (hA1 _ _ (hAd _ _ _ _) hS.1) (hLh m) (Nat.le_of_ble_eq_true rfl) (hs4 _ _) rfl tw_3_182 tw_3_179 tw_3_181 ts_21 tw_1_12 yd_X1_readNozzles ⟨(Nat.le_of_ble_eq_true rfl), (Nat.le_of_ble_eq_true rfl)⟩ rfl hl.1 rfl (Nat.le_of_ble_eq_true rfl) dX1_readStatement_139 (fun H locs hP hS => ?_)
                  refine lv_goto (tgt := 218) hx hb dX1_readStatement_142 (by decide) ?_
                  cases hD
                  exact hret _ _ _ hP hS (fun Qc hq => W.vret hx hb hr hq hS.2.2 dX1_readStatement_218 hlocks)
              · have hD := ifn hD c
                refine lv_aload_n hx hb dX1_readStatement_118 rfl (lv_at hl 0 rfl) ?_
                refine lv_bipush (v := (12 : Int32)) hx hb dX1_readStatement_119 (by decide) ?_
                refine lv_bipush (v := (14 : Int32)) hx hb dX1_readStatement_121 (by decide) ?_
                obtain ⟨m42, m43, z44, hD⟩ := b2_el hD
                refine rcV (Wf := fun z => Wf z m) (mm := m1) (As := [.int (12 : Int32), .int (14 : Int32)]) (rest := []) Fx0 (c_X1_readSettings l (Wf := fun z0_ z1_ => Wf z0_ z1_) (fun z1_ => hLh z1_) (fun z0_ => hL z0_) (fun a0_ b0_ a1_ b1_ => hAd a0_ b0_ a1_ b1_) hm2 m1 m (12 : Int32) (14 : Int32) z44) hP (hD1 _ (hAd _ _ _ _)) hS (hA1 _ _ (hAd _ _ _ _) hS.1) (hLh m) (Nat.le_of_ble_eq_true rfl) (hs4 _ _) rfl tw_3_159 tw_3_156 tw_3_158 ts_18 tw_1_12 yd_X1_readSettings ⟨(Nat.le_of_ble_eq_true rfl), (Nat.le_of_ble_eq_true rfl)⟩ rfl hl.1 rfl (Nat.le_of_ble_eq_true rfl) dX1_readStatement_123 (fun H locs hP hS => ?_)
                refine lv_goto (tgt := 218) hx hb dX1_readStatement_126 (by decide) ?_
                cases hD
                exact hret _ _ _ hP hS (fun Qc hq => W.vret hx hb hr hq hS.2.2 dX1_readStatement_218 hlocks)
            · have hD := ifn hD c
              refine lv_aload_n hx hb dX1_readStatement_98 rfl (lv_at hl 0 rfl) ?_
              refine lv_bipush (v := (11 : Int32)) hx hb dX1_readStatement_99 (by decide) ?_
              refine lv_bipush (v := (11 : Int32)) hx hb dX1_readStatement_101 (by decide) ?_
              obtain ⟨m45, m46, z47, hD⟩ := b2_el hD
              refine rcV (Wf := fun z => Wf z m) (mm := m1) (As := [.int (11 : Int32), .int (11 : Int32)]) (rest := []) Fx0 (c_X1_readSettings l (Wf := fun z0_ z1_ => Wf z0_ z1_) (fun z1_ => hLh z1_) (fun z0_ => hL z0_) (fun a0_ b0_ a1_ b1_ => hAd a0_ b0_ a1_ b1_) hm2 m1 m (11 : Int32) (11 : Int32) z47) hP (hD1 _ (hAd _ _ _ _)) hS (hA1 _ _ (hAd _ _ _ _) hS.1) (hLh m) (Nat.le_of_ble_eq_true rfl) (hs4 _ _) rfl tw_3_159 tw_3_156 tw_3_158 ts_18 tw_1_12 yd_X1_readSettings ⟨(Nat.le_of_ble_eq_true rfl), (Nat.le_of_ble_eq_true rfl)⟩ rfl hl.1 rfl (Nat.le_of_ble_eq_true rfl) dX1_readStatement_103 (fun H locs hP hS => ?_)
              refine lv_goto (tgt := 218) hx hb dX1_readStatement_106 (by decide) ?_
              cases hD
              exact hret _ _ _ hP hS (fun Qc hq => W.vret hx hb hr hq hS.2.2 dX1_readStatement_218 hlocks)
          · have hD := ifn hD c
            refine lv_aload_n hx hb dX1_readStatement_78 rfl (lv_at hl 0 rfl) ?_
            refine lv_bipush (v := (10 : Int32)) hx hb dX1_readStatement_79 (by decide) ?_
            refine lv_bipush (v := (10 : Int32)) hx hb dX1_readStatement_81 (by decide) ?_
            obtain ⟨m48, m49, z50, hD⟩ := b2_el hD
            refine rcV (Wf := fun z => Wf z m) (mm := m1) (As := [.int (10 : Int32), .int (10 : Int32)]) (rest := []) Fx0 (c_X1_readSettings l (Wf := fun z0_ z1_ => Wf z0_ z1_) (fun z1_ => hLh z1_) (fun z0_ => hL z0_) (fun a0_ b0_ a1_ b1_ => hAd a0_ b0_ a1_ b1_) hm2 m1 m (10 : Int32) (10 : Int32) z50) hP (hD1 _ (hAd _ _ _ _)) hS (hA1 _ _ (hAd _ _ _ _) hS.1) (hLh m) (Nat.le_of_ble_eq_true rfl) (hs4 _ _) rfl tw_3_159 tw_3_156 tw_3_158 ts_18 tw_1_12 yd_X1_readSettings ⟨(Nat.le_of_ble_eq_true rfl), (Nat.le_of_ble_eq_true rfl)⟩ rfl hl.1 rfl (Nat.le_of_ble_eq_true rfl) dX1_readStatement_83 (fun H locs hP hS => ?_)
            refine lv_goto (tgt := 218) hx hb dX1_readStatement_86 (by decide) ?_
            cases hD
            exact hret _ _ _ hP hS (fun Qc hq => W.vret hx hb hr hq hS.2.2 dX1_readStatement_218 hlocks)
        · have hD := ifn hD c
          refine lv_aload_n hx hb dX1_readStatement_58 rfl (lv_at hl 0 rfl) ?_
          refine lv_bipush (v := (8 : Int32)) hx hb dX1_readStatement_59 (by decide) ?_
          refine lv_bipush (v := (9 : Int32)) hx hb dX1_readStatement_61 (by decide) ?_
          obtain ⟨m51, m52, z53, hD⟩ := b2_el hD
          refine rcV (Wf := fun z => Wf z m) (mm := m1) (As := [.int (8 : Int32), .int (9 : Int32)]) (rest := []) Fx0 (c_X1_readSettings l (Wf := fun z0_ z1_ => Wf z0_ z1_) (fun z1_ => hLh z1_) (fun z0_ => hL z0_) (fun a0_ b0_ a1_ b1_ => hAd a0_ b0_ a1_ b1_) hm2 m1 m (8 : Int32) (9 : Int32) z53) hP (hD1 _ (hAd _ _ _ _)) hS (hA1 _ _ (hAd _ _ _ _) hS.1) (hLh m) (Nat.le_of_ble_eq_true rfl) (hs4 _ _) rfl tw_3_159 tw_3_156 tw_3_158 ts_18 tw_1_12 yd_X1_readSettings ⟨(Nat.le_of_ble_eq_true rfl), (Nat.le_of_ble_eq_true rfl)⟩ rfl hl.1 rfl (Nat.le_of_ble_eq_true rfl) dX1_readStatement_63 (fun H locs hP hS => ?_)
          refine lv_goto (tgt := 218) hx hb dX1_readStatement_66 (by decide) ?_
          cases hD
          exact hret _ _ _ hP hS (fun Qc hq => W.vret hx hb hr hq hS.2.2 dX1_readStatement_218 hlocks)
      · have hD := ifn hD c
        refine lv_aload_n hx hb dX1_readStatement_39 rfl (lv_at hl 0 rfl) ?_
        refine lv_iconst (v := (5 : Int32)) hx hb dX1_readStatement_40 (by decide) ?_
        refine lv_bipush (v := (7 : Int32)) hx hb dX1_readStatement_41 (by decide) ?_
        obtain ⟨m54, m55, z56, hD⟩ := b2_el hD
        refine rcV (Wf := fun z => Wf z m) (mm := m1) (As := [.int (5 : Int32), .int (7 : Int32)]) (rest := []) Fx0 (c_X1_readSettings l (Wf := fun z0_ z1_ => Wf z0_ z1_) (fun z1_ => hLh z1_) (fun z0_ => hL z0_) (fun a0_ b0_ a1_ b1_ => hAd a0_ b0_ a1_ b1_) hm2 m1 m (5 : Int32) (7 : Int32) z56) hP (hD1 _ (hAd _ _ _ _)) hS (hA1 _ _ (hAd _ _ _ _) hS.1) (hLh m) (Nat.le_of_ble_eq_true rfl) (hs4 _ _) rfl tw_3_159 tw_3_156 tw_3_158 ts_18 tw_1_12 yd_X1_readSettings ⟨(Nat.le_of_ble_eq_true rfl), (Nat.le_of_ble_eq_true rfl)⟩ rfl hl.1 rfl (Nat.le_of_ble_eq_true rfl) dX1_readStatement_43 (fun H locs hP hS => ?_)
        refine lv_goto (tgt := 218) hx hb dX1_readStatement_46 (by decide) ?_
        cases hD
        exact hret _ _ _ hP hS (fun Qc hq => W.vret hx hb hr hq hS.2.2 dX1_readStatement_218 hlocks)
    · have hD := ifn hD c
      refine lv_aload_n hx hb dX1_readStatement_21 rfl (lv_at hl 0 rfl) ?_
      refine lv_iconst (v := (1 : Int32)) hx hb dX1_readStatement_22 (by decide) ?_
      refine lv_iconst (v := (4 : Int32)) hx hb dX1_readStatement_23 (by decide) ?_
      obtain ⟨m57, m58, z59, hD⟩ := b2_el hD
      refine rcV (Wf := fun z => Wf z m) (mm := m1) (As := [.int (1 : Int32), .int (4 : Int32)]) (rest := []) Fx0 (c_X1_readSettings l (Wf := fun z0_ z1_ => Wf z0_ z1_) (fun z1_ => hLh z1_) (fun z0_ => hL z0_) (fun a0_ b0_ a1_ b1_ => hAd a0_ b0_ a1_ b1_) hm2 m1 m (1 : Int32) (4 : Int32) z59) hP (hD1 _ (hAd _ _ _ _)) hS (hA1 _ _ (hAd _ _ _ _) hS.1) (hLh m) (Nat.le_of_ble_eq_true rfl) (hs4 _ _) rfl tw_3_159 tw_3_156 tw_3_158 ts_18 tw_1_12 yd_X1_readSettings ⟨(Nat.le_of_ble_eq_true rfl), (Nat.le_of_ble_eq_true rfl)⟩ rfl hl.1 rfl (Nat.le_of_ble_eq_true rfl) dX1_readStatement_24 (fun H locs hP hS => ?_)
      refine lv_goto (tgt := 218) hx hb dX1_readStatement_27 (by decide) ?_
      cases hD
      exact hret _ _ _ hP hS (fun Qc hq => W.vret hx hb hr hq hS.2.2 dX1_readStatement_218 hlocks)
  · have hD := ifn hD c
    cases hD
    exact hret _ _ _ hP hS (fun Qc hq => W.vret hx hb hr hq hS.2.2 dX1_readStatement_7 hlocks)

noncomputable def D_X1_readText_41 : Nat → Int32 → MM → MM → Option (MM × MM)
  | 0, _, _, _ => none
  | n + 1, x2, h, m => if (gi h 4 2) ≤ x2 then (some (h, m)) else (if (gi h 4 6) = 0 then (b2 (D_X1_isAtEnd h m) (fun v11 m12 => if v11 = 0 then (b1 (D_X1_readSemicolon m12 m) (fun m14 => b2 (D_X1_readStatement m14 m) (fun m16 m17 => bnd (x2 + (1 : Int32)) (fun v19 => D_X1_readText_41 n v19 m16 m17)))) else (some (m12, m)))) else (some (h, m)))
noncomputable def D_X1_readText (x1 : Int32) (h : MM) (m : MM) : Option (MM × MM) := bnd (if (900 : Int32) < x1 then (900 : Int32) else x1) (fun v1 => bnd (si h 4 2 v1) (fun m2 => bnd (si m2 4 3 (0 : Int32)) (fun m3 => bnd (si m3 4 6 (0 : Int32)) (fun m4 => bnd (si m4 4 7 (0 : Int32)) (fun m5 => b1 (D_X6_clear m) (fun m6 => b2 (D_X1_readMachine m5 m6) (fun m8 m9 => D_X1_readText_41 FU (0 : Int32) m8 m9)))))))
set_option maxHeartbeats 4000000 in
set_option maxRecDepth 100000 in
theorem c_X1_readText (l : Launch) {D : va_G} {cs : Nat → ClassId} {adh ad ma : Nat → Nat} {Wf : MM → MM → va_W} (hLh : ∀ m : MM, Ln 8 adh (hsh cs adh ma) (fun z => Wf z m)) (hL : ∀ h : MM, Ln 51 ad (msh cs ad) (fun z => Wf h z)) (hAd : ∀ a0_ b0_ a1_ b1_ : MM, (Wf a0_ a1_).map (fun q => q.1) = (Wf b0_ b1_).map (fun q => q.1)) (hm2 : ma 2 = ad 24) (h : MM) (m : MM) (x1 : Int32) {h' : MM} {m' : MM} (hD : D_X1_readText x1 h m = some (h', m')) : Ct l yX1_readText cX1_readText 3 none 6 128 D cs [.ref (adh 4), .int x1] (Wf h m) (Wf h' m') (none) := by
  refine Ct.ofW (by decide) (Nat.le_of_ble_eq_true rfl) (hAd _ _ _ _) ?_
  intro p e s m0 below meth c A Q ls args hx hb hr hml hlocks hown hts hK hP hD1 hSS hS hA1 hl hret
  have hT : ∀ w ∈ TBL, w.before args s = true := fun w h => hts w (List.mem_cons_of_mem _ h)
  have Fx0 : Fx p l m0 c cX1_readText 3 s args yX1_readText cX1_readText 3 none D cs A := ⟨hx, hb, hml, hown, hts, hK, hSS⟩
  have hown : s.vm.findClass RX1 = some m0.cls := hown
  have hl : lv_has ls 3 [(0, .ref (adh 4)), (1, .int x1)] := hl
  unfold D_X1_readText at hD
  have c_41 : ∀ (n : Nat), ∀ (x2 : Int32) (h : MM) (m : MM) (H : Heap) (locs : List Loc) (ls : Array Slot), D_X1_readText_41 n x2 h m = some (h', m') → va_P D vwCl (Wf h m) H → va_S A s.heap H locs → lv_has ls 3 [(0, .ref (adh 4)), (2, .int x2)] → W p l e ({ frames := 6, cells := 0, slots := 0, locals := 128 } : Room) s m0 args below meth c H locs 0 0 Q (F0 m0 41 ls []) := by
    intro n
    induction n with
    | zero =>
      intro x2 h m H locs ls hD hP hS hl
      exact nn_el hD
    | succ n ih =>
      intro x2 h m H locs ls hD hP hS hl
      rw [D_X1_readText_41] at hD
      refine lv_iload_n hx hb dX1_readText_41 rfl (lv_at hl 1 rfl) ?_
      refine lv_aload_n hx hb dX1_readText_42 rfl (lv_at hl 0 rfl) ?_
      refine rg (Wf := fun z => Wf z m) (mm := h) hx hb hT hu1 hown hK hP (hLh m) 4 2 (Nat.le_of_ble_eq_true rfl) (hs4 _ _) rfl (Nat.le_of_ble_eq_true rfl) (Fx0.T tw_2_215) rfl (v := .int (gi h 4 2)) rfl dX1_readText_43 ?_
      refine lv_icmp_ge (tgt := 77) hx hb dX1_readText_46 (by decide) (fun c => ?_) (fun c => ?_)
      · have hD := ifp hD c
        cases hD
        exact hret _ _ _ hP hS (fun Qc hq => W.vret hx hb hr hq hS.2.2 dX1_readText_77 hlocks)
      · have hD := ifn hD c
        refine lv_aload_n hx hb dX1_readText_49 rfl (lv_at hl 0 rfl) ?_
        refine rg (Wf := fun z => Wf z m) (mm := h) hx hb hT hu1 hown hK hP (hLh m) 4 6 (Nat.le_of_ble_eq_true rfl) (hs4 _ _) rfl (Nat.le_of_ble_eq_true rfl) (Fx0.T tw_2_219) rfl (v := .int (gi h 4 6)) rfl dX1_readText_50 ?_
        refine lv_if_ne (tgt := 77) hx hb dX1_readText_53 (by decide) (fun c => ?_) (fun c => ?_)
        · have hD := ifn hD c
          cases hD
          exact hret _ _ _ hP hS (fun Qc hq => W.vret hx hb hr hq hS.2.2 dX1_readText_77 hlocks)
        · have hD := ifp hD c
          refine lv_aload_n hx hb dX1_readText_56 rfl (lv_at hl 0 rfl) ?_
          obtain ⟨v11, m12, z13, hD⟩ := b2_el hD
          refine rcV (Wf := fun z => Wf z m) (mm := h) (As := []) (rest := []) Fx0 (c_X1_isAtEnd l (Wf := fun z0_ z1_ => Wf z0_ z1_) (fun z1_ => hLh z1_) (fun z0_ => hL z0_) (fun a0_ b0_ a1_ b1_ => hAd a0_ b0_ a1_ b1_) hm2 h m z13) hP (hD1 _ (hAd _ _ _ _)) hS (hA1 _ _ (hAd _ _ _ _) hS.1) (hLh m) (Nat.le_of_ble_eq_true rfl) (hs4 _ _) rfl tw_3_135 tw_3_132 tw_3_134 ts_13 tw_1_12 yd_X1_isAtEnd ⟨(Nat.le_of_ble_eq_true rfl), (Nat.le_of_ble_eq_true rfl)⟩ rfl hl.1 rfl (Nat.le_of_ble_eq_true rfl) dX1_readText_57 (fun H locs hP hS => ?_)
          refine lv_if_ne (tgt := 77) hx hb dX1_readText_60 (by decide) (fun c => ?_) (fun c => ?_)
          · have hD := ifn hD c
            cases hD
            exact hret _ _ _ hP hS (fun Qc hq => W.vret hx hb hr hq hS.2.2 dX1_readText_77 hlocks)
          · have hD := ifp hD c
            refine lv_aload_n hx hb dX1_readText_63 rfl (lv_at hl 0 rfl) ?_
            obtain ⟨m14, z15, hD⟩ := b1_el hD
            refine rcV (Wf := fun z => Wf z m) (mm := m12) (As := []) (rest := []) Fx0 (c_X1_readSemicolon l (Wf := fun z0_ z1_ => Wf z0_ z1_) (fun z1_ => hLh z1_) (fun z0_ => hL z0_) (fun a0_ b0_ a1_ b1_ => hAd a0_ b0_ a1_ b1_) hm2 m12 m z15) hP (hD1 _ (hAd _ _ _ _)) hS (hA1 _ _ (hAd _ _ _ _) hS.1) (hLh m) (Nat.le_of_ble_eq_true rfl) (hs4 _ _) rfl tw_3_167 tw_3_164 tw_3_166 ts_19 tw_1_12 yd_X1_readSemicolon ⟨(Nat.le_of_ble_eq_true rfl), (Nat.le_of_ble_eq_true rfl)⟩ rfl hl.1 rfl (Nat.le_of_ble_eq_true rfl) dX1_readText_64 (fun H locs hP hS => ?_)
            refine lv_aload_n hx hb dX1_readText_67 rfl (lv_at hl 0 rfl) ?_
            obtain ⟨m16, m17, z18, hD⟩ := b2_el hD
            refine rcV (Wf := fun z => Wf z m) (mm := m14) (As := []) (rest := []) Fx0 (c_X1_readStatement l (Wf := fun z0_ z1_ => Wf z0_ z1_) (fun z1_ => hLh z1_) (fun z0_ => hL z0_) (fun a0_ b0_ a1_ b1_ => hAd a0_ b0_ a1_ b1_) hm2 m14 m z18) hP (hD1 _ (hAd _ _ _ _)) hS (hA1 _ _ (hAd _ _ _ _) hS.1) (hLh m) (Nat.le_of_ble_eq_true rfl) (hs4 _ _) rfl tw_3_171 tw_3_168 tw_3_170 ts_20 tw_1_12 yd_X1_readStatement ⟨(Nat.le_of_ble_eq_true rfl), (Nat.le_of_ble_eq_true rfl)⟩ rfl hl.1 rfl (Nat.le_of_ble_eq_true rfl) dX1_readText_68 (fun H locs hP hS => ?_)
            obtain ⟨v19, ev19, hD⟩ := bnd_el hD
            refine lv_iinc (v := v19) (lv' := [(2, .int v19), (0, .ref (adh 4))]) hx hb dX1_readText_71 hl (k := 1) rfl (by rw [ev19]; rfl) (by decide) rfl (fun ls hl => ?_)
            refine lv_goto (tgt := 41) hx hb dX1_readText_74 (by decide) ?_
            exact ih _ _ _ _ _ _ hD hP hS (lv_sub hl [1, 0] rfl)
  refine lv_aload_n hx hb dX1_readText_0 rfl (lv_at hl 0 rfl) ?_
  refine lv_iload_n hx hb dX1_readText_1 rfl (lv_at hl 1 rfl) ?_
  refine lv_aload_n hx hb dX1_readText_2 rfl (lv_at hl 0 rfl) ?_
  refine rg (Wf := fun z => Wf z m) (mm := h) hx hb hT hu1 hown hK hP (hLh m) 4 0 (Nat.le_of_ble_eq_true rfl) (hs4 _ _) rfl (Nat.le_of_ble_eq_true rfl) (Fx0.T tw_2_213) rfl (v := .ref (adh 5)) rfl dX1_readText_3 ?_
  refine ralen (Wf := fun z => Wf z m) (mm := h) hx hb hK hP (hLh m) 5 0 (Nat.le_of_ble_eq_true rfl) (v := (900 : Int32)) (hs5 _ _) rfl rfl dX1_readText_6 ?_
  refine va_mmin hx hb (hml.trans hl.1.symm) hown (Fx0.T tw_3_120) (Fx0.T tw_3_121) (Fx0.T tw_1_18) (Fx0.T tw_3_122) (Nat.le_of_ble_eq_true rfl) (Nat.le_of_ble_eq_true rfl) (Nat.le_refl _) (Nat.le_refl _) dX1_readText_7 ?_
  obtain ⟨v1, ev1, hD⟩ := bnd_el hD
  refine lv_nmi ev1 ?_
  obtain ⟨m2, em2, hD⟩ := bnd_el hD
  refine rp (Wf := fun z => Wf z m) (mm := h) hx hb hT hu1 tyX1_ok nmX1 hown hK hP (hD1 _ (hAd _ _ _ _)) hS (hLh m) 4 2 (Nat.le_of_ble_eq_true rfl) (hs4 _ _) (hs4 _ _) rfl (Nat.le_of_ble_eq_true rfl) (Fx0.T tw_2_215) rfl rfl rfl rfl (Nat.le_of_ble_eq_true rfl) dX1_readText_10 em2 (fun H locs hP hS => ?_)
  refine lv_aload_n hx hb dX1_readText_13 rfl (lv_at hl 0 rfl) ?_
  refine lv_iconst (v := (0 : Int32)) hx hb dX1_readText_14 (by decide) ?_
  obtain ⟨m3, em3, hD⟩ := bnd_el hD
  refine rp (Wf := fun z => Wf z m) (mm := m2) hx hb hT hu1 tyX1_ok nmX1 hown hK hP (hD1 _ (hAd _ _ _ _)) hS (hLh m) 4 3 (Nat.le_of_ble_eq_true rfl) (hs4 _ _) (hs4 _ _) rfl (Nat.le_of_ble_eq_true rfl) (Fx0.T tw_2_216) rfl rfl rfl rfl (Nat.le_of_ble_eq_true rfl) dX1_readText_15 em3 (fun H locs hP hS => ?_)
  refine lv_aload_n hx hb dX1_readText_18 rfl (lv_at hl 0 rfl) ?_
  refine lv_iconst (v := (0 : Int32)) hx hb dX1_readText_19 (by decide) ?_
  obtain ⟨m4, em4, hD⟩ := bnd_el hD
  refine rp (Wf := fun z => Wf z m) (mm := m3) hx hb hT hu1 tyX1_ok nmX1 hown hK hP (hD1 _ (hAd _ _ _ _)) hS (hLh m) 4 6 (Nat.le_of_ble_eq_true rfl) (hs4 _ _) (hs4 _ _) rfl (Nat.le_of_ble_eq_true rfl) (Fx0.T tw_2_219) rfl rfl rfl rfl (Nat.le_of_ble_eq_true rfl) dX1_readText_20 em4 (fun H locs hP hS => ?_)
  refine lv_aload_n hx hb dX1_readText_23 rfl (lv_at hl 0 rfl) ?_
  refine lv_iconst (v := (0 : Int32)) hx hb dX1_readText_24 (by decide) ?_
  obtain ⟨m5, em5, hD⟩ := bnd_el hD
  refine rp (Wf := fun z => Wf z m) (mm := m4) hx hb hT hu1 tyX1_ok nmX1 hown hK hP (hD1 _ (hAd _ _ _ _)) hS (hLh m) 4 7 (Nat.le_of_ble_eq_true rfl) (hs4 _ _) (hs4 _ _) rfl (Nat.le_of_ble_eq_true rfl) (Fx0.T tw_2_221) rfl rfl rfl rfl (Nat.le_of_ble_eq_true rfl) dX1_readText_25 em5 (fun H locs hP hS => ?_)
  refine lv_aload_n hx hb dX1_readText_28 rfl (lv_at hl 0 rfl) ?_
  refine rg (Wf := fun z => Wf z m) (mm := m5) hx hb hT hu1 hown hK hP (hLh m) 4 1 (Nat.le_of_ble_eq_true rfl) (hs4 _ _) rfl (Nat.le_of_ble_eq_true rfl) (Fx0.T tw_2_214) rfl (v := .ref (ad 24)) (congrArg (fun z => some (Value.ref z)) hm2) dX1_readText_29 ?_
  obtain ⟨m6, z7, hD⟩ := b1_el hD
  refine rcVN (Wf := fun z => Wf m5 z) (mm := m) (As := []) (rest := []) Fx0 (c_X6_clear l (Wf := fun z0_ => Wf m5 z0_) (hL m5) (fun a0_ b0_ => hAd m5 m5 a0_ b0_) m z7) hP (hD1 _ (hAd _ _ _ _)) hS (hA1 _ _ (hAd _ _ _ _) hS.1) (hL m5) (Nat.le_of_ble_eq_true rfl) (ms24 _ _) rfl tw_2_42 tw_3_123 tw_2_41 ts_0 tw_1_2 yd_X6_clear ⟨(Nat.le_of_ble_eq_true rfl), (Nat.le_of_ble_eq_true rfl)⟩ rfl hl.1 rfl (Nat.le_of_ble_eq_true rfl) dX1_readText_32 (fun H locs hP hS => ?_)
  refine lv_aload_n hx hb dX1_readText_35 rfl (lv_at hl 0 rfl) ?_
  obtain ⟨m8, m9, z10, hD⟩ := b2_el hD
  refine rcV (Wf := fun z => Wf z m6) (mm := m5) (As := []) (rest := []) Fx0 (c_X1_readMachine l (Wf := fun z0_ z1_ => Wf z0_ z1_) (fun z1_ => hLh z1_) (fun z0_ => hL z0_) (fun a0_ b0_ a1_ b1_ => hAd a0_ b0_ a1_ b1_) hm2 m5 m6 z10) hP (hD1 _ (hAd _ _ _ _)) hS (hA1 _ _ (hAd _ _ _ _) hS.1) (hLh m6) (Nat.le_of_ble_eq_true rfl) (hs4 _ _) rfl tw_3_127 tw_3_124 tw_3_126 ts_11 tw_1_12 yd_X1_readMachine ⟨(Nat.le_of_ble_eq_true rfl), (Nat.le_of_ble_eq_true rfl)⟩ rfl hl.1 rfl (Nat.le_of_ble_eq_true rfl) dX1_readText_36 (fun H locs hP hS => ?_)
  refine lv_iconst (v := (0 : Int32)) hx hb dX1_readText_39 (by decide) ?_
  refine lv_istore_n (lv' := [(2, .int (0 : Int32)), (0, .ref (adh 4)), (1, .int x1)]) hx hb dX1_readText_40 rfl hl (by decide) rfl (fun ls hl => ?_)
  exact c_41 FU _ _ _ _ _ _ hD hP hS (lv_sub hl [1, 0] rfl)
