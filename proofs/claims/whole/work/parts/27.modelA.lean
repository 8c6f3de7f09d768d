/-! the reference's methods -/
noncomputable def D_X10_in (x0 : Int64) (x2 : Int64) (x4 : Int64) : Option Int32 := if x0 < x2 then (some ((0 : Int32))) else (if x4 < x0 then (some ((0 : Int32))) else (some ((1 : Int32))))
set_option maxHeartbeats 4000000 in
set_option maxRecDepth 100000 in
theorem c_X10_in (l : Launch) {D : va_G} {cs : Nat → ClassId} {w : va_W} (x0 : Int64) (x2 : Int64) (x4 : Int64) {rr : Int32} (hD : D_X10_in x0 x2 x4 = some (rr)) : Ct l yX10_in cX10_in 6 (some .boolean) 0 0 D cs [.long x0, .long x2, .long x4] (w) (w) (some (.int rr)) := by
  refine Ct.ofW (by decide) (Nat.le_of_ble_eq_true rfl) rfl ?_
  intro p e s m0 below meth c A Q ls args hx hb hr hml hlocks hown hts hK hP hD1 hSS hS hA1 hl hret
  have hT : ∀ w ∈ TBL, w.before args s = true := fun w h => hts w (List.mem_cons_of_mem _ h)
  have Fx0 : Fx p l m0 c cX10_in 6 s args yX10_in cX10_in 6 (some .boolean) D cs A := ⟨hx, hb, hml, hown, hts, hK, hSS⟩
  have hown : s.vm.findClass RX10 = some m0.cls := hown
  have hl : lv_has ls 6 [(0, .long x0), (2, .long x2), (4, .long x4)] := hl
  unfold D_X10_in at hD
  refine lv_lload_n hx hb dX10_in_0 rfl (lv_at hl 0 rfl) ?_
  refine lv_lload_n hx hb dX10_in_1 rfl (lv_at hl 1 rfl) ?_
  refine rlc_lt (tgt := 17) hx hb dX10_in_2 dX10_in_3 (by decide) (fun c => ?_) (fun c => ?_)
  · have hD := ifp hD c
    refine lv_iconst (v := (0 : Int32)) hx hb dX10_in_17 (by decide) ?_
    obtain rfl := es1 hD
    exact hret _ _ _ hP hS (fun Qc hq => W.zret hx hb hr rfl hq hS.2.2 dX10_in_18 hlocks)
  · have hD := ifn hD c
    refine lv_lload_n hx hb dX10_in_6 rfl (lv_at hl 0 rfl) ?_
    refine lv_lload hx hb dX10_in_7 (lv_at hl 2 rfl) ?_
    refine rlc_gt (tgt := 17) hx hb dX10_in_9 dX10_in_10 (by decide) (fun c => ?_) (fun c => ?_)
    · have hD := ifp hD c
      refine lv_iconst (v := (0 : Int32)) hx hb dX10_in_17 (by decide) ?_
      obtain rfl := es1 hD
      exact hret _ _ _ hP hS (fun Qc hq => W.zret hx hb hr rfl hq hS.2.2 dX10_in_18 hlocks)
    · have hD := ifn hD c
      refine lv_iconst (v := (1 : Int32)) hx hb dX10_in_13 (by decide) ?_
      refine lv_goto (tgt := 18) hx hb dX10_in_14 (by decide) ?_
      obtain rfl := es1 hD
      exact hret _ _ _ hP hS (fun Qc hq => W.zret hx hb hr rfl hq hS.2.2 dX10_in_18 hlocks)

noncomputable def D_X10_throwsIf (x1 : Int32) (x2 : Int32) (x : MM) : Option (Int32 × MM) := if (gi x 0 6) = 0 then (if x1 = 0 then (if (gi x 0 6) = 0 then (some ((0 : Int32), x)) else (some ((1 : Int32), x))) else (bnd (si x 0 6 x2) (fun m1 => if (gi m1 0 6) = 0 then (some ((0 : Int32), m1)) else (some ((1 : Int32), m1))))) else (if (gi x 0 6) = 0 then (some ((0 : Int32), x)) else (some ((1 : Int32), x)))
set_option maxHeartbeats 4000000 in
set_option maxRecDepth 100000 in
theorem c_X10_throwsIf (l : Launch) {D : va_G} {cs : Nat → ClassId} {adx : Nat → Nat} {Wf : MM → va_W} (hLx : Ln 9 adx (xsh cs adx) Wf) (hAd : ∀ a0_ b0_ : MM, (Wf a0_).map (fun q => q.1) = (Wf b0_).map (fun q => q.1)) (x : MM) (x1 : Int32) (x2 : Int32) {rr : Int32} {x' : MM} (hD : D_X10_throwsIf x1 x2 x = some (rr, x')) : Ct l yX10_throwsIf cX10_throwsIf 3 (some .boolean) 0 0 D cs [.ref (adx 0), .int x1, .int x2] (Wf x) (Wf x') (some (.int rr)) := by
  refine Ct.ofW (by decide) (Nat.le_of_ble_eq_true rfl) (hAd _ _) ?_
  intro p e s m0 below meth c A Q ls args hx hb hr hml hlocks hown hts hK hP hD1 hSS hS hA1 hl hret
  have hT : ∀ w ∈ TBL, w.before args s = true := fun w h => hts w (List.mem_cons_of_mem _ h)
  have Fx0 : Fx p l m0 c cX10_throwsIf 3 s args yX10_throwsIf cX10_throwsIf 3 (some .boolean) D cs A := ⟨hx, hb, hml, hown, hts, hK, hSS⟩
  have hown : s.vm.findClass RX10 = some m0.cls := hown
  have hl : lv_has ls 3 [(0, .ref (adx 0)), (1, .int x1), (2, .int x2)] := hl
  unfold D_X10_throwsIf at hD
  refine lv_aload_n hx hb dX10_throwsIf_0 rfl (lv_at hl 0 rfl) ?_
  refine rg  hx hb hT hu10 hown hK hP hLx 0 6 (Nat.le_of_ble_eq_true rfl) (xs0 _ _) rfl (Nat.le_of_ble_eq_true rfl) (Fx0.T tw_6_221) rfl (v := .int (gi x 0 6)) rfl dX10_throwsIf_1 ?_
  refine lv_if_ne (tgt := 16) hx hb dX10_throwsIf_4 (by decide) (fun c => ?_) (fun c => ?_)
  · have hD := ifn hD c
    refine lv_aload_n hx hb dX10_throwsIf_16 rfl (lv_at hl 0 rfl) ?_
    refine rg  hx hb hT hu10 hown hK hP hLx 0 6 (Nat.le_of_ble_eq_true rfl) (xs0 _ _) rfl (Nat.le_of_ble_eq_true rfl) (Fx0.T tw_6_221) rfl (v := .int (gi x 0 6)) rfl dX10_throwsIf_17 ?_
    refine lv_if_eq (tgt := 27) hx hb dX10_throwsIf_20 (by decide) (fun c => ?_) (fun c => ?_)
    · have hD := ifp hD c
      refine lv_iconst (v := (0 : Int32)) hx hb dX10_throwsIf_27 (by decide) ?_
      obtain ⟨rfl, rfl⟩ := es2 hD
      exact hret _ _ _ hP hS (fun Qc hq => W.zret hx hb hr rfl hq hS.2.2 dX10_throwsIf_28 hlocks)
    · have hD := ifn hD c
      refine lv_iconst (v := (1 : Int32)) hx hb dX10_throwsIf_23 (by decide) ?_
      refine lv_goto (tgt := 28) hx hb dX10_throwsIf_24 (by decide) ?_
      obtain ⟨rfl, rfl⟩ := es2 hD
      exact hret _ _ _ hP hS (fun Qc hq => W.zret hx hb hr rfl hq hS.2.2 dX10_throwsIf_28 hlocks)
  · have hD := ifp hD c
    refine lv_iload_n hx hb dX10_throwsIf_7 rfl (lv_at hl 1 rfl) ?_
    refine lv_if_eq (tgt := 16) hx hb dX10_throwsIf_8 (by decide) (fun c => ?_) (fun c => ?_)
    · have hD := ifp hD c
      refine lv_aload_n hx hb dX10_throwsIf_16 rfl (lv_at hl 0 rfl) ?_
      refine rg  hx hb hT hu10 hown hK hP hLx 0 6 (Nat.le_of_ble_eq_true rfl) (xs0 _ _) rfl (Nat.le_of_ble_eq_true rfl) (Fx0.T tw_6_221) rfl (v := .int (gi x 0 6)) rfl dX10_throwsIf_17 ?_
      refine lv_if_eq (tgt := 27) hx hb dX10_throwsIf_20 (by decide) (fun c => ?_) (fun c => ?_)
      · have hD := ifp hD c
        refine lv_iconst (v := (0 : Int32)) hx hb dX10_throwsIf_27 (by decide) ?_
        obtain ⟨rfl, rfl⟩ := es2 hD
        exact hret _ _ _ hP hS (fun Qc hq => W.zret hx hb hr rfl hq hS.2.2 dX10_throwsIf_28 hlocks)
      · have hD := ifn hD c
        refine lv_iconst (v := (1 : Int32)) hx hb dX10_throwsIf_23 (by decide) ?_
        refine lv_goto (tgt := 28) hx hb dX10_throwsIf_24 (by decide) ?_
        obtain ⟨rfl, rfl⟩ := es2 hD
        exact hret _ _ _ hP hS (fun Qc hq => W.zret hx hb hr rfl hq hS.2.2 dX10_throwsIf_28 hlocks)
    · have hD := ifn hD c
      refine lv_aload_n hx hb dX10_throwsIf_11 rfl (lv_at hl 0 rfl) ?_
      refine lv_iload_n hx hb dX10_throwsIf_12 rfl (lv_at hl 2 rfl) ?_
      obtain ⟨m1, em1, hD⟩ := bnd_el hD
      refine rp  hx hb hT hu10 tyX10_ok nmX10 hown hK hP (hD1 _ (hAd _ _)) hS hLx 0 6 (Nat.le_of_ble_eq_true rfl) (xs0 _ _) (xs0 _ _) rfl (Nat.le_of_ble_eq_true rfl) (Fx0.T tw_6_221) rfl rfl rfl rfl (Nat.le_of_ble_eq_true rfl) dX10_throwsIf_13 em1 (fun H locs hP hS => ?_)
      refine lv_aload_n hx hb dX10_throwsIf_16 rfl (lv_at hl 0 rfl) ?_
      refine rg  hx hb hT hu10 hown hK hP hLx 0 6 (Nat.le_of_ble_eq_true rfl) (xs0 _ _) rfl (Nat.le_of_ble_eq_true rfl) (Fx0.T tw_6_221) rfl (v := .int (gi m1 0 6)) rfl dX10_throwsIf_17 ?_
      refine lv_if_eq (tgt := 27) hx hb dX10_throwsIf_20 (by decide) (fun c => ?_) (fun c => ?_)
      · have hD := ifp hD c
        refine lv_iconst (v := (0 : Int32)) hx hb dX10_throwsIf_27 (by decide) ?_
        obtain ⟨rfl, rfl⟩ := es2 hD
        exact hret _ _ _ hP hS (fun Qc hq => W.zret hx hb hr rfl hq hS.2.2 dX10_throwsIf_28 hlocks)
      · have hD := ifn hD c
        refine lv_iconst (v := (1 : Int32)) hx hb dX10_throwsIf_23 (by decide) ?_
        refine lv_goto (tgt := 28) hx hb dX10_throwsIf_24 (by decide) ?_
        obtain ⟨rfl, rfl⟩ := es2 hD
        exact hret _ _ _ hP hS (fun Qc hq => W.zret hx hb hr rfl hq hS.2.2 dX10_throwsIf_28 hlocks)

noncomputable def D_X10_fine (x : MM) : Option (Int32 × MM) := bnd (si x 0 6 (0 : Int32)) (fun m1 => some ((1 : Int32), m1))
set_option maxHeartbeats 4000000 in
set_option maxRecDepth 100000 in
theorem c_X10_fine (l : Launch) {D : va_G} {cs : Nat → ClassId} {adx : Nat → Nat} {Wf : MM → va_W} (hLx : Ln 9 adx (xsh cs adx) Wf) (hAd : ∀ a0_ b0_ : MM, (Wf a0_).map (fun q => q.1) = (Wf b0_).map (fun q => q.1)) (x : MM) {rr : Int32} {x' : MM} (hD : D_X10_fine x = some (rr, x')) : Ct l yX10_fine cX10_fine 1 (some .boolean) 0 0 D cs [.ref (adx 0)] (Wf x) (Wf x') (some (.int rr)) := by
  refine Ct.ofW (by decide) (Nat.le_of_ble_eq_true rfl) (hAd _ _) ?_
  intro p e s m0 below meth c A Q ls args hx hb hr hml hlocks hown hts hK hP hD1 hSS hS hA1 hl hret
  have hT : ∀ w ∈ TBL, w.before args s = true := fun w h => hts w (List.mem_cons_of_mem _ h)
  have Fx0 : Fx p l m0 c cX10_fine 1 s args yX10_fine cX10_fine 1 (some .boolean) D cs A := ⟨hx, hb, hml, hown, hts, hK, hSS⟩
  have hown : s.vm.findClass RX10 = some m0.cls := hown
  have hl : lv_has ls 1 [(0, .ref (adx 0))] := hl
  unfold D_X10_fine at hD
  refine lv_aload_n hx hb dX10_fine_0 rfl (lv_at hl 0 rfl) ?_
  refine lv_iconst (v := (0 : Int32)) hx hb dX10_fine_1 (by decide) ?_
  obtain ⟨m1, em1, hD⟩ := bnd_el hD
  refine rp  hx hb hT hu10 tyX10_ok nmX10 hown hK hP (hD1 _ (hAd _ _)) hS hLx 0 6 (Nat.le_of_ble_eq_true rfl) (xs0 _ _) (xs0 _ _) rfl (Nat.le_of_ble_eq_true rfl) (Fx0.T tw_6_221) rfl rfl rfl rfl (Nat.le_of_ble_eq_true rfl) dX10_fine_2 em1 (fun H locs hP hS => ?_)
  refine lv_iconst (v := (1 : Int32)) hx hb dX10_fine_5 (by decide) ?_
  obtain ⟨rfl, rfl⟩ := es2 hD
  exact hret _ _ _ hP hS (fun Qc hq => W.zret hx hb hr rfl hq hS.2.2 dX10_fine_6 hlocks)

noncomputable def D_X10_copies_2 : Nat → Nat → Nat → Int32 → MM → Option MM
  | 0, _, _, _, _ => none
  | n + 1, q0, q1, x2, x => if (640 : Int32) ≤ x2 then (some (x)) else (if x2 < 0 ∨ 640 ≤ x2.toNatClampNeg then none else (if x2 < 0 ∨ 640 ≤ x2.toNatClampNeg then none else (bnd (si x q1 x2.toNatClampNeg (gi x q0 x2.toNatClampNeg)) (fun m3 => bnd (x2 + (1 : Int32)) (fun v4 => D_X10_copies_2 n q0 q1 v4 m3)))))
noncomputable def D_X10_copies (q0 : Nat) (q1 : Nat) (x : MM) : Option MM := D_X10_copies_2 FU q0 q1 (0 : Int32) x
set_option maxHeartbeats 4000000 in
set_option maxRecDepth 100000 in
theorem c_X10_copies (l : Launch) {D : va_G} {cs : Nat → ClassId} {adx : Nat → Nat} {Wf : MM → va_W} (hLx : Ln 9 adx (xsh cs adx) Wf) (hAd : ∀ a0_ b0_ : MM, (Wf a0_).map (fun q => q.1) = (Wf b0_).map (fun q => q.1)) (x : MM) (q0 : Nat) (haq0 : 1 ≤ q0) (hbq0 : q0 < 6) (q1 : Nat) (haq1 : 1 ≤ q1) (hbq1 : q1 < 6) {x' : MM} (hD : D_X10_copies q0 q1 x = some (x')) : Ct l yX10_copies cX10_copies 3 none 0 0 D cs [.ref (adx q0), .ref (adx q1)] (Wf x) (Wf x') (none) := by
  refine Ct.ofW (by decide) (Nat.le_of_ble_eq_true rfl) (hAd _ _) ?_
  intro p e s m0 below meth c A Q ls args hx hb hr hml hlocks hown hts hK hP hD1 hSS hS hA1 hl hret
  have hT : ∀ w ∈ TBL, w.before args s = true := fun w h => hts w (List.mem_cons_of_mem _ h)
  have Fx0 : Fx p l m0 c cX10_copies 3 s args yX10_copies cX10_copies 3 none D cs A := ⟨hx, hb, hml, hown, hts, hK, hSS⟩
  have hown : s.vm.findClass RX10 = some m0.cls := hown
  have hl : lv_has ls 3 [(0, .ref (adx q0)), (1, .ref (adx q1))] := hl
  unfold D_X10_copies at hD
  have c_2 : ∀ (n : Nat), ∀ (q0 : Nat) (q1 : Nat) (x2 : Int32) (x : MM) (H : Heap) (locs : List Loc) (ls : Array Slot), D_X10_copies_2 n q0 q1 x2 x = some (x') → 1 ≤ q0 → q0 < 6 → 1 ≤ q1 → q1 < 6 → va_P D vwCl (Wf x) H → va_S A s.heap H locs → lv_has ls 3 [(0, .ref (adx q0)), (1, .ref (adx q1)), (2, .int x2)] → W p l e ({ frames := 0, cells := 0, slots := 0, locals := 0 } : Room) s m0 args below meth c H locs 0 0 Q (F0 m0 2 ls []) := by
    intro n
    induction n with
    | zero =>
      intro q0 q1 x2 x H locs ls hD haq0 hbq0 haq1 hbq1 hP hS hl
      exact nn_el hD
    | succ n ih =>
      intro q0 q1 x2 x H locs ls hD haq0 hbq0 haq1 hbq1 hP hS hl
      rw [D_X10_copies_2] at hD
      refine lv_iload_n hx hb dX10_copies_2 rfl (lv_at hl 2 rfl) ?_
      refine lv_sipush (v := (640 : Int32)) hx hb dX10_copies_3 (by decide) ?_
      refine lv_icmp_ge (tgt := 21) hx hb dX10_copies_6 (by decide) (fun c => ?_) (fun c => ?_)
      · have hD := ifp hD c
        obtain rfl := es1 hD
        exact hret _ _ _ hP hS (fun Qc hq => W.vret hx hb hr hq hS.2.2 dX10_copies_21 hlocks)
      · have hD := ifn hD c
        refine lv_aload_n hx hb dX10_copies_9 rfl (lv_at hl 1 rfl) ?_
        refine lv_iload_n hx hb dX10_copies_10 rfl (lv_at hl 2 rfl) ?_
        refine lv_aload_n hx hb dX10_copies_11 rfl (lv_at hl 0 rfl) ?_
        refine lv_iload_n hx hb dX10_copies_12 rfl (lv_at hl 2 rfl) ?_
        obtain ⟨h1, hD⟩ := gd_el hD
        refine riald  hx hb hK hP hLx q0 (xaq hbq0) ((xar haq0 hbq0) _ _) h1 rfl dX10_copies_13 ?_
        obtain ⟨h2, hD⟩ := gd_el hD
        obtain ⟨m3, em3, hD⟩ := bnd_el hD
        refine riast  hx hb hK hP (hD1 _ (hAd _ _)) hS hLx q1 (xaq hbq1) (fun _ => (xar haq1 hbq1) _ _) h2 rfl dX10_copies_14 em3 (fun H locs hP hS => ?_)
        obtain ⟨v4, ev4, hD⟩ := bnd_el hD
        refine lv_iinc (v := v4) (lv' := [(2, .int v4), (0, .ref (adx q0)), (1, .ref (adx q1))]) hx hb dX10_copies_15 hl (k := 2) rfl (by rw [ev4]; rfl) (by decide) rfl (fun ls hl => ?_)
        refine lv_goto (tgt := 2) hx hb dX10_copies_18 (by decide) ?_
        exact ih _ _ _ _ _ _ _ hD haq0 hbq0 haq1 hbq1 hP hS (lv_sub hl [1, 2, 0] rfl)
  refine lv_iconst (v := (0 : Int32)) hx hb dX10_copies_0 (by decide) ?_
  refine lv_istore_n (lv' := [(2, .int (0 : Int32)), (0, .ref (adx q0)), (1, .ref (adx q1))]) hx hb dX10_copies_1 rfl hl (by decide) rfl (fun ls hl => ?_)
  exact c_2 FU _ _ _ _ _ _ _ hD haq0 hbq0 haq1 hbq1 hP hS (lv_sub hl [1, 2, 0] rfl)

noncomputable def D_X10_begins_117 : Nat → Nat → Int32 → MM → Option MM
  | 0, _, _, _ => none
  | n + 1, q0, x1, x => if (40 : Int32) ≤ x1 then (some (x)) else (if (((240 : Int32) + ((6 : Int32) * x1)) + (4 : Int32)) < 0 ∨ 640 ≤ (((240 : Int32) + ((6 : Int32) * x1)) + (4 : Int32)).toNatClampNeg then none else (bnd (si x q0 ((((240 : Int32) + ((6 : Int32) * x1)) + (4 : Int32)).toNatClampNeg) (-1 : Int32)) (fun m13 => if (((240 : Int32) + ((6 : Int32) * x1)) + (5 : Int32)) < 0 ∨ 640 ≤ (((240 : Int32) + ((6 : Int32) * x1)) + (5 : Int32)).toNatClampNeg then none else (bnd (si m13 q0 ((((240 : Int32) + ((6 : Int32) * x1)) + (5 : Int32)).toNatClampNeg) (-1 : Int32)) (fun m15 => bnd (x1 + (1 : Int32)) (fun v16 => D_X10_begins_117 n q0 v16 m15))))))
noncomputable def D_X10_begins_80 : Nat → Nat → Int32 → MM → Option MM
  | 0, _, _, _ => none
  | n + 1, q0, x1, x => if (4 : Int32) ≤ x1 then (D_X10_begins_117 FU q0 (0 : Int32) x) else (if (((58 : Int32) + ((8 : Int32) * x1)) + (0 : Int32)) < 0 ∨ 640 ≤ (((58 : Int32) + ((8 : Int32) * x1)) + (0 : Int32)).toNatClampNeg then none else (bnd (si x q0 ((((58 : Int32) + ((8 : Int32) * x1)) + (0 : Int32)).toNatClampNeg) (-1 : Int32)) (fun m18 => if (((58 : Int32) + ((8 : Int32) * x1)) + (1 : Int32)) < 0 ∨ 640 ≤ (((58 : Int32) + ((8 : Int32) * x1)) + (1 : Int32)).toNatClampNeg then none else (bnd (si m18 q0 ((((58 : Int32) + ((8 : Int32) * x1)) + (1 : Int32)).toNatClampNeg) (-1 : Int32)) (fun m20 => bnd (x1 + (1 : Int32)) (fun v21 => D_X10_begins_80 n q0 v21 m20))))))
noncomputable def D_X10_begins_2 : Nat → Nat → Int32 → MM → Option MM
  | 0, _, _, _ => none
  | n + 1, q0, x1, x => if (640 : Int32) ≤ x1 then (bnd (si x q0 1 (30 : Int32)) (fun m1 => bnd (si m1 q0 2 (10 : Int32)) (fun m2 => bnd (si m2 q0 3 (8 : Int32)) (fun m3 => bnd (si m3 q0 4 (10 : Int32)) (fun m4 => bnd (si m4 q0 5 (90 : Int32)) (fun m5 => bnd (si m5 q0 6 (6 : Int32)) (fun m6 => bnd (si m6 q0 7 (2 : Int32)) (fun m7 => bnd (si m7 q0 8 (500 : Int32)) (fun m8 => bnd (si m8 q0 14 (20 : Int32)) (fun m9 => bnd (si m9 q0 10 (1 : Int32)) (fun m10 => bnd (si m10 q0 24 (1 : Int32)) (fun m11 => D_X10_begins_80 FU q0 (0 : Int32) m11)))))))))))) else (if x1 < 0 ∨ 640 ≤ x1.toNatClampNeg then none else (bnd (si x q0 x1.toNatClampNeg (0 : Int32)) (fun m23 => bnd (x1 + (1 : Int32)) (fun v24 => D_X10_begins_2 n q0 v24 m23))))
noncomputable def D_X10_begins (q0 : Nat) (x : MM) : Option MM := D_X10_begins_2 FU q0 (0 : Int32) x
set_option maxHeartbeats 4000000 in
set_option maxRecDepth 100000 in
theorem c_X10_begins (l : Launch) {D : va_G} {cs : Nat → ClassId} {adx : Nat → Nat} {Wf : MM → va_W} (hLx : Ln 9 adx (xsh cs adx) Wf) (hAd : ∀ a0_ b0_ : MM, (Wf a0_).map (fun q => q.1) = (Wf b0_).map (fun q => q.1)) (x : MM) (q0 : Nat) (haq0 : 1 ≤ q0) (hbq0 : q0 < 6) {x' : MM} (hD : D_X10_begins q0 x = some (x')) : Ct l yX10_begins cX10_begins 2 none 0 0 D cs [.ref (adx q0)] (Wf x) (Wf x') (none) := by
  refine Ct.ofW (by decide) (Nat.le_of_ble_eq_true rfl) (hAd _ _) ?_
  intro p e s m0 below meth c A Q ls args hx hb hr hml hlocks hown hts hK hP hD1 hSS hS hA1 hl hret
  have hT : ∀ w ∈ TBL, w.before args s = true := fun w h => hts w (List.mem_cons_of_mem _ h)
  have Fx0 : Fx p l m0 c cX10_begins 2 s args yX10_begins cX10_begins 2 none D cs A := ⟨hx, hb, hml, hown, hts, hK, hSS⟩
  have hown : s.vm.findClass RX10 = some m0.cls := hown
  have hl : lv_has ls 2 [(0, .ref (adx q0))] := hl
  unfold D_X10_begins at hD
  have c_117 : ∀ (n : Nat), ∀ (q0 : Nat) (x1 : Int32) (x : MM) (H : Heap) (locs : List Loc) (ls : Array Slot), D_X10_begins_117 n q0 x1 x = some (x') → 1 ≤ q0 → q0 < 6 → va_P D vwCl (Wf x) H → va_S A s.heap H locs → lv_has ls 2 [(0, .ref (adx q0)), (1, .int x1)] → W p l e ({ frames := 0, cells := 0, slots := 0, locals := 0 } : Room) s m0 args below meth c H locs 0 0 Q (F0 m0 117 ls []) := by
    intro n
    induction n with
    | zero =>
      intro q0 x1 x H locs ls hD haq0 hbq0 hP hS hl
      exact nn_el hD
    | succ n ih =>
      intro q0 x1 x H locs ls hD haq0 hbq0 hP hS hl
      rw [D_X10_begins_117] at hD
      refine lv_iload_n hx hb dX10_begins_117 rfl (lv_at hl 1 rfl) ?_
      refine lv_bipush (v := (40 : Int32)) hx hb dX10_begins_118 (by decide) ?_
      refine lv_icmp_ge (tgt := 155) hx hb dX10_begins_120 (by decide) (fun c => ?_) (fun c => ?_)
      · have hD := ifp hD c
        obtain rfl := es1 hD
        exact hret _ _ _ hP hS (fun Qc hq => W.vret hx hb hr hq hS.2.2 dX10_begins_155 hlocks)
      · have hD := ifn hD c
        refine lv_aload_n hx hb dX10_begins_123 rfl (lv_at hl 0 rfl) ?_
        refine lv_sipush (v := (240 : Int32)) hx hb dX10_begins_124 (by decide) ?_
        refine lv_bipush (v := (6 : Int32)) hx hb dX10_begins_127 (by decide) ?_
        refine lv_iload_n hx hb dX10_begins_129 rfl (lv_at hl 1 rfl) ?_
        refine lv_imul hx hb dX10_begins_130 ?_
        refine lv_iadd hx hb dX10_begins_131 ?_
        refine lv_iconst (v := (4 : Int32)) hx hb dX10_begins_132 (by decide) ?_
        refine lv_iadd hx hb dX10_begins_133 ?_
        refine lv_iconst (v := (-1 : Int32)) hx hb dX10_begins_134 (by decide) ?_
        obtain ⟨h12, hD⟩ := gd_el hD
        obtain ⟨m13, em13, hD⟩ := bnd_el hD
        refine riast  hx hb hK hP (hD1 _ (hAd _ _)) hS hLx q0 (xaq hbq0) (fun _ => (xar haq0 hbq0) _ _) h12 rfl dX10_begins_135 em13 (fun H locs hP hS => ?_)
        refine lv_aload_n hx hb dX10_begins_136 rfl (lv_at hl 0 rfl) ?_
        refine lv_sipush (v := (240 : Int32)) hx hb dX10_begins_137 (by decide) ?_
        refine lv_bipush (v := (6 : Int32)) hx hb dX10_begins_140 (by decide) ?_
        refine lv_iload_n hx hb dX10_begins_142 rfl (lv_at hl 1 rfl) ?_
        refine lv_imul hx hb dX10_begins_143 ?_
        refine lv_iadd hx hb dX10_begins_144 ?_
        refine lv_iconst (v := (5 : Int32)) hx hb dX10_begins_145 (by decide) ?_
        refine lv_iadd hx hb dX10_begins_146 ?_
        refine lv_iconst (v := (-1 : Int32)) hx hb dX10_begins_147 (by decide) ?_
        obtain ⟨h14, hD⟩ := gd_el hD
        obtain ⟨m15, em15, hD⟩ := bnd_el hD
        refine riast  hx hb hK hP (hD1 _ (hAd _ _)) hS hLx q0 (xaq hbq0) (fun _ => (xar haq0 hbq0) _ _) h14 rfl dX10_begins_148 em15 (fun H locs hP hS => ?_)
        obtain ⟨v16, ev16, hD⟩ := bnd_el hD
        refine lv_iinc (v := v16) (lv' := [(1, .int v16), (0, .ref (adx q0))]) hx hb dX10_begins_149 hl (k := 1) rfl (by rw [ev16]; rfl) (by decide) rfl (fun ls hl => ?_)
        refine lv_goto (tgt := 117) hx hb dX10_begins_152 (by decide) ?_
        exact ih _ _ _ _ _ _ hD haq0 hbq0 hP hS (lv_sub hl [1, 0] rfl)
  have c_80 : ∀ (n : Nat), ∀ (q0 : Nat) (x1 : Int32) (x : MM) (H : Heap) (locs : List Loc) (ls : Array Slot), D_X10_begins_80 n q0 x1 x = some (x') → 1 ≤ q0 → q0 < 6 → va_P D vwCl (Wf x) H → va_S A s.heap H locs → lv_has ls 2 [(0, .ref (adx q0)), (1, .int x1)] → W p l e ({ frames := 0, cells := 0, slots := 0, locals := 0 } : Room) s m0 args below meth c H locs 0 0 Q (F0 m0 80 ls []) := by
    intro n
    induction n with
    | zero =>
      intro q0 x1 x H locs ls hD haq0 hbq0 hP hS hl
      exact nn_el hD
    | succ n ih =>
      intro q0 x1 x H locs ls hD haq0 hbq0 hP hS hl
      rw [D_X10_begins_80] at hD
      refine lv_iload_n hx hb dX10_begins_80 rfl (lv_at hl 1 rfl) ?_
      refine lv_iconst (v := (4 : Int32)) hx hb dX10_begins_81 (by decide) ?_
      refine lv_icmp_ge (tgt := 115) hx hb dX10_begins_82 (by decide) (fun c => ?_) (fun c => ?_)
      · have hD := ifp hD c
        refine lv_iconst (v := (0 : Int32)) hx hb dX10_begins_115 (by decide) ?_
        refine lv_istore_n (lv' := [(1, .int (0 : Int32)), (0, .ref (adx q0))]) hx hb dX10_begins_116 rfl hl (by decide) rfl (fun ls hl => ?_)
        exact c_117 FU _ _ _ _ _ _ hD haq0 hbq0 hP hS (lv_sub hl [1, 0] rfl)
      · have hD := ifn hD c
        refine lv_aload_n hx hb dX10_begins_85 rfl (lv_at hl 0 rfl) ?_
        refine lv_bipush (v := (58 : Int32)) hx hb dX10_begins_86 (by decide) ?_
        refine lv_bipush (v := (8 : Int32)) hx hb dX10_begins_88 (by decide) ?_
        refine lv_iload_n hx hb dX10_begins_90 rfl (lv_at hl 1 rfl) ?_
        refine lv_imul hx hb dX10_begins_91 ?_
        refine lv_iadd hx hb dX10_begins_92 ?_
        refine lv_iconst (v := (0 : Int32)) hx hb dX10_begins_93 (by decide) ?_
        refine lv_iadd hx hb dX10_begins_94 ?_
        refine lv_iconst (v := (-1 : Int32)) hx hb dX10_begins_95 (by decide) ?_
        obtain ⟨h17, hD⟩ := gd_el hD
        obtain ⟨m18, em18, hD⟩ := bnd_el hD
        refine riast  hx hb hK hP (hD1 _ (hAd _ _)) hS hLx q0 (xaq hbq0) (fun _ => (xar haq0 hbq0) _ _) h17 rfl dX10_begins_96 em18 (fun H locs hP hS => ?_)
        refine lv_aload_n hx hb dX10_begins_97 rfl (lv_at hl 0 rfl) ?_
        refine lv_bipush (v := (58 : Int32)) hx hb dX10_begins_98 (by decide) ?_
        refine lv_bipush (v := (8 : Int32)) hx hb dX10_begins_100 (by decide) ?_
        refine lv_iload_n hx hb dX10_begins_102 rfl (lv_at hl 1 rfl) ?_
        refine lv_imul hx hb dX10_begins_103 ?_
        refine lv_iadd hx hb dX10_begins_104 ?_
        refine lv_iconst (v := (1 : Int32)) hx hb dX10_begins_105 (by decide) ?_
        refine lv_iadd hx hb dX10_begins_106 ?_
        refine lv_iconst (v := (-1 : Int32)) hx hb dX10_begins_107 (by decide) ?_
        obtain ⟨h19, hD⟩ := gd_el hD
        obtain ⟨m20, em20, hD⟩ := bnd_el hD
        refine riast  hx hb hK hP (hD1 _ (hAd _ _)) hS hLx q0 (xaq hbq0) (fun _ => (xar haq0 hbq0) _ _) h19 rfl dX10_begins_108 em20 (fun H locs hP hS => ?_)
        obtain ⟨v21, ev21, hD⟩ := bnd_el hD
        refine lv_iinc (v := v21) (lv' := [(1, .int v21), (0, .ref (adx q0))]) hx hb dX10_begins_109 hl (k := 1) rfl (by rw [ev21]; rfl) (by decide) rfl (fun ls hl => ?_)
        refine lv_goto (tgt := 80) hx hb dX10_begins_112 (by decide) ?_
        exact ih _ _ _ _ _ _ hD haq0 hbq0 hP hS (lv_sub hl [1, 0] rfl)
  have c_2 : ∀ (n : Nat), ∀ (q0 : Nat) (x1 : Int32) (x : MM) (H : Heap) (locs : List Loc) (ls : Array Slot), D_X10_begins_2 n q0 x1 x = some (x') → 1 ≤ q0 → q0 < 6 → va_P D vwCl (Wf x) H → va_S A s.heap H locs → lv_has ls 2 [(0, .ref (adx q0)), (1, .int x1)] → W p l e ({ frames := 0, cells := 0, slots := 0, locals := 0 } : Room) s m0 args below meth c H locs 0 0 Q (F0 m0 2 ls []) := by
    intro n
    induction n with
    | zero =>
      intro q0 x1 x H locs ls hD haq0 hbq0 hP hS hl
      exact nn_el hD
    | succ n ih =>
      intro q0 x1 x H locs ls hD haq0 hbq0 hP hS hl
      rw [D_X10_begins_2] at hD
      refine lv_iload_n hx hb dX10_begins_2 rfl (lv_at hl 1 rfl) ?_
      refine lv_sipush (v := (640 : Int32)) hx hb dX10_begins_3 (by decide) ?_
      refine lv_icmp_ge (tgt := 19) hx hb dX10_begins_6 (by decide) (fun c => ?_) (fun c => ?_)
      · have hD := ifp hD c
        refine lv_aload_n hx hb dX10_begins_19 rfl (lv_at hl 0 rfl) ?_
        refine lv_iconst (v := (1 : Int32)) hx hb dX10_begins_20 (by decide) ?_
        refine lv_bipush (v := (30 : Int32)) hx hb dX10_begins_21 (by decide) ?_
        obtain ⟨m1, em1, hD⟩ := bnd_el hD
        refine riast  hx hb hK hP (hD1 _ (hAd _ _)) hS hLx q0 (xaq hbq0) (fun _ => (xar haq0 hbq0) _ _) (by decide) (j := 1) (by decide) dX10_begins_23 em1 (fun H locs hP hS => ?_)
        refine lv_aload_n hx hb dX10_begins_24 rfl (lv_at hl 0 rfl) ?_
        refine lv_iconst (v := (2 : Int32)) hx hb dX10_begins_25 (by decide) ?_
        refine lv_bipush (v := (10 : Int32)) hx hb dX10_begins_26 (by decide) ?_
        obtain ⟨m2, em2, hD⟩ := bnd_el hD
        refine riast  hx hb hK hP (hD1 _ (hAd _ _)) hS hLx q0 (xaq hbq0) (fun _ => (xar haq0 hbq0) _ _) (by decide) (j := 2) (by decide) dX10_begins_28 em2 (fun H locs hP hS => ?_)
        refine lv_aload_n hx hb dX10_begins_29 rfl (lv_at hl 0 rfl) ?_
        refine lv_iconst (v := (3 : Int32)) hx hb dX10_begins_30 (by decide) ?_
        refine lv_bipush (v := (8 : Int32)) hx hb dX10_begins_31 (by decide) ?_
        obtain ⟨m3, em3, hD⟩ := bnd_el hD
        refine riast  hx hb hK hP (hD1 _ (hAd _ _)) hS hLx q0 (xaq hbq0) (fun _ => (xar haq0 hbq0) _ _) (by decide) (j := 3) (by decide) dX10_begins_33 em3 (fun H locs hP hS => ?_)
        refine lv_aload_n hx hb dX10_begins_34 rfl (lv_at hl 0 rfl) ?_
        refine lv_iconst (v := (4 : Int32)) hx hb dX10_begins_35 (by decide) ?_
        refine lv_bipush (v := (10 : Int32)) hx hb dX10_begins_36 (by decide) ?_
        obtain ⟨m4, em4, hD⟩ := bnd_el hD
        refine riast  hx hb hK hP (hD1 _ (hAd _ _)) hS hLx q0 (xaq hbq0) (fun _ => (xar haq0 hbq0) _ _) (by decide) (j := 4) (by decide) dX10_begins_38 em4 (fun H locs hP hS => ?_)
        refine lv_aload_n hx hb dX10_begins_39 rfl (lv_at hl 0 rfl) ?_
        refine lv_iconst (v := (5 : Int32)) hx hb dX10_begins_40 (by decide) ?_
        refine lv_bipush (v := (90 : Int32)) hx hb dX10_begins_41 (by decide) ?_
        obtain ⟨m5, em5, hD⟩ := bnd_el hD
        refine riast  hx hb hK hP (hD1 _ (hAd _ _)) hS hLx q0 (xaq hbq0) (fun _ => (xar haq0 hbq0) _ _) (by decide) (j := 5) (by decide) dX10_begins_43 em5 (fun H locs hP hS => ?_)
        refine lv_aload_n hx hb dX10_begins_44 rfl (lv_at hl 0 rfl) ?_
        refine lv_bipush (v := (6 : Int32)) hx hb dX10_begins_45 (by decide) ?_
        refine lv_bipush (v := (6 : Int32)) hx hb dX10_begins_47 (by decide) ?_
        obtain ⟨m6, em6, hD⟩ := bnd_el hD
        refine riast  hx hb hK hP (hD1 _ (hAd _ _)) hS hLx q0 (xaq hbq0) (fun _ => (xar haq0 hbq0) _ _) (by decide) (j := 6) (by decide) dX10_begins_49 em6 (fun H locs hP hS => ?_)
        refine lv_aload_n hx hb dX10_begins_50 rfl (lv_at hl 0 rfl) ?_
        refine lv_bipush (v := (7 : Int32)) hx hb dX10_begins_51 (by decide) ?_
        refine lv_iconst (v := (2 : Int32)) hx hb dX10_begins_53 (by decide) ?_
        obtain ⟨m7, em7, hD⟩ := bnd_el hD
        refine riast  hx hb hK hP (hD1 _ (hAd _ _)) hS hLx q0 (xaq hbq0) (fun _ => (xar haq0 hbq0) _ _) (by decide) (j := 7) (by decide) dX10_begins_54 em7 (fun H locs hP hS => ?_)
        refine lv_aload_n hx hb dX10_begins_55 rfl (lv_at hl 0 rfl) ?_
        refine lv_bipush (v := (8 : Int32)) hx hb dX10_begins_56 (by decide) ?_
        refine lv_sipush (v := (500 : Int32)) hx hb dX10_begins_58 (by decide) ?_
        obtain ⟨m8, em8, hD⟩ := bnd_el hD
        refine riast  hx hb hK hP (hD1 _ (hAd _ _)) hS hLx q0 (xaq hbq0) (fun _ => (xar haq0 hbq0) _ _) (by decide) (j := 8) (by decide) dX10_begins_61 em8 (fun H locs hP hS => ?_)
        refine lv_aload_n hx hb dX10_begins_62 rfl (lv_at hl 0 rfl) ?_
        refine lv_bipush (v := (14 : Int32)) hx hb dX10_begins_63 (by decide) ?_
        refine lv_bipush (v := (20 : Int32)) hx hb dX10_begins_65 (by decide) ?_
        obtain ⟨m9, em9, hD⟩ := bnd_el hD
        refine riast  hx hb hK hP (hD1 _ (hAd _ _)) hS hLx q0 (xaq hbq0) (fun _ => (xar haq0 hbq0) _ _) (by decide) (j := 14) (by decide) dX10_begins_67 em9 (fun H locs hP hS => ?_)
        refine lv_aload_n hx hb dX10_begins_68 rfl (lv_at hl 0 rfl) ?_
        refine lv_bipush (v := (10 : Int32)) hx hb dX10_begins_69 (by decide) ?_
        refine lv_iconst (v := (1 : Int32)) hx hb dX10_begins_71 (by decide) ?_
        obtain ⟨m10, em10, hD⟩ := bnd_el hD
        refine riast  hx hb hK hP (hD1 _ (hAd _ _)) hS hLx q0 (xaq hbq0) (fun _ => (xar haq0 hbq0) _ _) (by decide) (j := 10) (by decide) dX10_begins_72 em10 (fun H locs hP hS => ?_)
        refine lv_aload_n hx hb dX10_begins_73 rfl (lv_at hl 0 rfl) ?_
        refine lv_bipush (v := (24 : Int32)) hx hb dX10_begins_74 (by decide) ?_
        refine lv_iconst (v := (1 : Int32)) hx hb dX10_begins_76 (by decide) ?_
        obtain ⟨m11, em11, hD⟩ := bnd_el hD
        refine riast  hx hb hK hP (hD1 _ (hAd _ _)) hS hLx q0 (xaq hbq0) (fun _ => (xar haq0 hbq0) _ _) (by decide) (j := 24) (by decide) dX10_begins_77 em11 (fun H locs hP hS => ?_)
        refine lv_iconst (v := (0 : Int32)) hx hb dX10_begins_78 (by decide) ?_
        refine lv_istore_n (lv' := [(1, .int (0 : Int32)), (0, .ref (adx q0))]) hx hb dX10_begins_79 rfl hl (by decide) rfl (fun ls hl => ?_)
        exact c_80 FU _ _ _ _ _ _ hD haq0 hbq0 hP hS (lv_sub hl [1, 0] rfl)
      · have hD := ifn hD c
        refine lv_aload_n hx hb dX10_begins_9 rfl (lv_at hl 0 rfl) ?_
        refine lv_iload_n hx hb dX10_begins_10 rfl (lv_at hl 1 rfl) ?_
        refine lv_iconst (v := (0 : Int32)) hx hb dX10_begins_11 (by decide) ?_
        obtain ⟨h22, hD⟩ := gd_el hD
        obtain ⟨m23, em23, hD⟩ := bnd_el hD
        refine riast  hx hb hK hP (hD1 _ (hAd _ _)) hS hLx q0 (xaq hbq0) (fun _ => (xar haq0 hbq0) _ _) h22 rfl dX10_begins_12 em23 (fun H locs hP hS => ?_)
        obtain ⟨v24, ev24, hD⟩ := bnd_el hD
        refine lv_iinc (v := v24) (lv' := [(1, .int v24), (0, .ref (adx q0))]) hx hb dX10_begins_13 hl (k := 1) rfl (by rw [ev24]; rfl) (by decide) rfl (fun ls hl => ?_)
        refine lv_goto (tgt := 2) hx hb dX10_begins_16 (by decide) ?_
        exact ih _ _ _ _ _ _ hD haq0 hbq0 hP hS (lv_sub hl [1, 0] rfl)
  refine lv_iconst (v := (0 : Int32)) hx hb dX10_begins_0 (by decide) ?_
  refine lv_istore_n (lv' := [(1, .int (0 : Int32)), (0, .ref (adx q0))]) hx hb dX10_begins_1 rfl hl (by decide) rfl (fun ls hl => ?_)
  exact c_2 FU _ _ _ _ _ _ hD haq0 hbq0 hP hS (lv_sub hl [1, 0] rfl)

noncomputable def D_X10_thrown (x : MM) : Option Int32 := some ((gi x 0 6))
set_option maxHeartbeats 4000000 in
set_option maxRecDepth 100000 in
theorem c_X10_thrown (l : Launch) {D : va_G} {cs : Nat → ClassId} {adx : Nat → Nat} {Wf : MM → va_W} (hLx : Ln 9 adx (xsh cs adx) Wf) (hAd : ∀ a0_ b0_ : MM, (Wf a0_).map (fun q => q.1) = (Wf b0_).map (fun q => q.1)) (x : MM) {rr : Int32} (hD : D_X10_thrown x = some (rr)) : Ct l yX10_thrown cX10_thrown 1 (some .int) 0 0 D cs [.ref (adx 0)] (Wf x) (Wf x) (some (.int rr)) := by
  refine Ct.ofW (by decide) (Nat.le_of_ble_eq_true rfl) rfl ?_
  intro p e s m0 below meth c A Q ls args hx hb hr hml hlocks hown hts hK hP hD1 hSS hS hA1 hl hret
  have hT : ∀ w ∈ TBL, w.before args s = true := fun w h => hts w (List.mem_cons_of_mem _ h)
  have Fx0 : Fx p l m0 c cX10_thrown 1 s args yX10_thrown cX10_thrown 1 (some .int) D cs A := ⟨hx, hb, hml, hown, hts, hK, hSS⟩
  have hown : s.vm.findClass RX10 = some m0.cls := hown
  have hl : lv_has ls 1 [(0, .ref (adx 0))] := hl
  unfold D_X10_thrown at hD
  refine lv_aload_n hx hb dX10_thrown_0 rfl (lv_at hl 0 rfl) ?_
  refine rg  hx hb hT hu10 hown hK hP hLx 0 6 (Nat.le_of_ble_eq_true rfl) (xs0 _ _) rfl (Nat.le_of_ble_eq_true rfl) (Fx0.T tw_6_221) rfl (v := .int (gi x 0 6)) rfl dX10_thrown_1 ?_
  obtain rfl := es1 hD
  exact hret _ _ _ hP hS (fun Qc hq => W.iret hx hb hr hq hS.2.2 dX10_thrown_4 hlocks)

noncomputable def D_X10_byteAt (x1 : Int32) (x : MM) : Option Int32 := if (gi x 0 8) ≤ x1 then (some ((-1 : Int32))) else (if x1 < 0 ∨ 900 ≤ x1.toNatClampNeg then none else (some ((gi x 7 x1.toNatClampNeg))))
set_option maxHeartbeats 4000000 in
set_option maxRecDepth 100000 in
theorem c_X10_byteAt (l : Launch) {D : va_G} {cs : Nat → ClassId} {adx : Nat → Nat} {Wf : MM → va_W} (hLx : Ln 9 adx (xsh cs adx) Wf) (hAd : ∀ a0_ b0_ : MM, (Wf a0_).map (fun q => q.1) = (Wf b0_).map (fun q => q.1)) (x : MM) (x1 : Int32) {rr : Int32} (hD : D_X10_byteAt x1 x = some (rr)) : Ct l yX10_byteAt cX10_byteAt 2 (some .int) 0 0 D cs [.ref (adx 0), .int x1] (Wf x) (Wf x) (some (.int rr)) := by
  refine Ct.ofW (by decide) (Nat.le_of_ble_eq_true rfl) rfl ?_
  intro p e s m0 below meth c A Q ls args hx hb hr hml hlocks hown hts hK hP hD1 hSS hS hA1 hl hret
  have hT : ∀ w ∈ TBL, w.before args s = true := fun w h => hts w (List.mem_cons_of_mem _ h)
  have Fx0 : Fx p l m0 c cX10_byteAt 2 s args yX10_byteAt cX10_byteAt 2 (some .int) D cs A := ⟨hx, hb, hml, hown, hts, hK, hSS⟩
  have hown : s.vm.findClass RX10 = some m0.cls := hown
  have hl : lv_has ls 2 [(0, .ref (adx 0)), (1, .int x1)] := hl
  unfold D_X10_byteAt at hD
  refine lv_iload_n hx hb dX10_byteAt_0 rfl (lv_at hl 1 rfl) ?_
  refine lv_aload_n hx hb dX10_byteAt_1 rfl (lv_at hl 0 rfl) ?_
  refine rg  hx hb hT hu10 hown hK hP hLx 0 8 (Nat.le_of_ble_eq_true rfl) (xs0 _ _) rfl (Nat.le_of_ble_eq_true rfl) (Fx0.T tw_6_223) rfl (v := .int (gi x 0 8)) rfl dX10_byteAt_2 ?_
  refine lv_icmp_ge (tgt := 17) hx hb dX10_byteAt_5 (by decide) (fun c => ?_) (fun c => ?_)
  · have hD := ifp hD c
    refine lv_iconst (v := (-1 : Int32)) hx hb dX10_byteAt_17 (by decide) ?_
    obtain rfl := es1 hD
    exact hret _ _ _ hP hS (fun Qc hq => W.iret hx hb hr hq hS.2.2 dX10_byteAt_18 hlocks)
  · have hD := ifn hD c
    refine lv_aload_n hx hb dX10_byteAt_8 rfl (lv_at hl 0 rfl) ?_
    refine rg  hx hb hT hu10 hown hK hP hLx 0 7 (Nat.le_of_ble_eq_true rfl) (xs0 _ _) rfl (Nat.le_of_ble_eq_true rfl) (Fx0.T tw_6_222) rfl (v := .ref (adx 7)) rfl dX10_byteAt_9 ?_
    refine lv_iload_n hx hb dX10_byteAt_12 rfl (lv_at hl 1 rfl) ?_
    obtain ⟨h1, hD⟩ := gd_el hD
    refine riald  hx hb hK hP hLx 7 (Nat.le_of_ble_eq_true rfl) (xs7 _ _) h1 rfl dX10_byteAt_13 ?_
    refine lv_goto (tgt := 18) hx hb dX10_byteAt_14 (by decide) ?_
    obtain rfl := es1 hD
    exact hret _ _ _ hP hS (fun Qc hq => W.iret hx hb hr hq hS.2.2 dX10_byteAt_18 hlocks)

noncomputable def D_X10_isLetter (x1 : Int32) (x : MM) : Option Int32 := b1 (D_X10_byteAt x1 x) (fun v1 => b1 (D_X10_in v1.toInt64 (97 : Int64) (122 : Int64)) (fun v3 => if v3 = 0 ∨ v3 = 1 then some (v3) else none))
set_option maxHeartbeats 4000000 in
set_option maxRecDepth 100000 in
theorem c_X10_isLetter (l : Launch) {D : va_G} {cs : Nat → ClassId} {adx : Nat → Nat} {Wf : MM → va_W} (hLx : Ln 9 adx (xsh cs adx) Wf) (hAd : ∀ a0_ b0_ : MM, (Wf a0_).map (fun q => q.1) = (Wf b0_).map (fun q => q.1)) (x : MM) (x1 : Int32) {rr : Int32} (hD : D_X10_isLetter x1 x = some (rr)) : Ct l yX10_isLetter cX10_isLetter 2 (some .boolean) 1 25 D cs [.ref (adx 0), .int x1] (Wf x) (Wf x) (some (.int rr)) := by
  refine Ct.ofW (by decide) (Nat.le_of_ble_eq_true rfl) rfl ?_
  intro p e s m0 below meth c A Q ls args hx hb hr hml hlocks hown hts hK hP hD1 hSS hS hA1 hl hret
  have hT : ∀ w ∈ TBL, w.before args s = true := fun w h => hts w (List.mem_cons_of_mem _ h)
  have Fx0 : Fx p l m0 c cX10_isLetter 2 s args yX10_isLetter cX10_isLetter 2 (some .boolean) D cs A := ⟨hx, hb, hml, hown, hts, hK, hSS⟩
  have hown : s.vm.findClass RX10 = some m0.cls := hown
  have hl : lv_has ls 2 [(0, .ref (adx 0)), (1, .int x1)] := hl
  unfold D_X10_isLetter at hD
  refine lv_aload_n hx hb dX10_isLetter_0 rfl (lv_at hl 0 rfl) ?_
  refine lv_iload_n hx hb dX10_isLetter_1 rfl (lv_at hl 1 rfl) ?_
  obtain ⟨v1, z2, hD⟩ := b1_el hD
  refine rcV  (As := [.int x1]) (rest := []) Fx0 (c_X10_byteAt l hLx hAd x x1 z2) hP (hD1 _ (hAd _ _)) hS (hA1 _ _ (hAd _ _) hS.1) hLx (Nat.le_of_ble_eq_true rfl) (xs0 _ _) rfl tw_7_60 tw_7_57 tw_7_59 ts_90 tw_1_13 yd_X10_byteAt ⟨(Nat.le_of_ble_eq_true rfl), (Nat.le_of_ble_eq_true rfl)⟩ rfl hl.1 rfl (Nat.le_of_ble_eq_true rfl) dX10_isLetter_2 (fun H locs hP hS => ?_)
  refine lv_i2l (v := v1.toInt64) hx hb dX10_isLetter_5 rfl ?_
  refine lv_ldc2 (v := (97 : Int64)) hx hb hown (Fx0.T tw_7_65) dX10_isLetter_6 ?_
  refine lv_ldc2 (v := (122 : Int64)) hx hb hown (Fx0.T tw_7_66) dX10_isLetter_9 ?_
  obtain ⟨v3, z4, hD⟩ := b1_el hD
  refine rcS (As := [.long v1.toInt64, .long (97 : Int64), .long (122 : Int64)]) (rest := []) Fx0 (c_X10_in l v1.toInt64 (97 : Int64) (122 : Int64) z4) hP (hD1 _ (hAd _ _)) hS (hA1 _ _ (hAd _ _) hS.1) tw_7_69 tw_7_67 tw_7_68 tw_1_13 yd_X10_in ⟨(Nat.le_of_ble_eq_true rfl), (Nat.le_of_ble_eq_true rfl)⟩ rfl hl.1 rfl (Nat.le_of_ble_eq_true rfl) dX10_isLetter_12 (fun H locs hP hS => ?_)
  obtain ⟨h5, hD⟩ := gb_el hD
  obtain rfl := es1 hD
  exact hret _ _ _ hP hS (fun Qc hq => W.zret hx hb hr (nbz h5).1 hq hS.2.2 dX10_isLetter_15 hlocks)

noncomputable def D_X10_isDigit (x1 : Int32) (x : MM) : Option Int32 := b1 (D_X10_byteAt x1 x) (fun v1 => b1 (D_X10_in v1.toInt64 (48 : Int64) (57 : Int64)) (fun v3 => if v3 = 0 ∨ v3 = 1 then some (v3) else none))
set_option maxHeartbeats 4000000 in
set_option maxRecDepth 100000 in
theorem c_X10_isDigit (l : Launch) {D : va_G} {cs : Nat → ClassId} {adx : Nat → Nat} {Wf : MM → va_W} (hLx : Ln 9 adx (xsh cs adx) Wf) (hAd : ∀ a0_ b0_ : MM, (Wf a0_).map (fun q => q.1) = (Wf b0_).map (fun q => q.1)) (x : MM) (x1 : Int32) {rr : Int32} (hD : D_X10_isDigit x1 x = some (rr)) : Ct l yX10_isDigit cX10_isDigit 2 (some .boolean) 1 25 D cs [.ref (adx 0), .int x1] (Wf x) (Wf x) (some (.int rr)) := by
  refine Ct.ofW (by decide) (Nat.le_of_ble_eq_true rfl) rfl ?_
  intro p e s m0 below meth c A Q ls args hx hb hr hml hlocks hown hts hK hP hD1 hSS hS hA1 hl hret
  have hT : ∀ w ∈ TBL, w.before args s = true := fun w h => hts w (List.mem_cons_of_mem _ h)
  have Fx0 : Fx p l m0 c cX10_isDigit 2 s args yX10_isDigit cX10_isDigit 2 (some .boolean) D cs A := ⟨hx, hb, hml, hown, hts, hK, hSS⟩
  have hown : s.vm.findClass RX10 = some m0.cls := hown
  have hl : lv_has ls 2 [(0, .ref (adx 0)), (1, .int x1)] := hl
  unfold D_X10_isDigit at hD
  refine lv_aload_n hx hb dX10_isDigit_0 rfl (lv_at hl 0 rfl) ?_
  refine lv_iload_n hx hb dX10_isDigit_1 rfl (lv_at hl 1 rfl) ?_
  obtain ⟨v1, z2, hD⟩ := b1_el hD
  refine rcV  (As := [.int x1]) (rest := []) Fx0 (c_X10_byteAt l hLx hAd x x1 z2) hP (hD1 _ (hAd _ _)) hS (hA1 _ _ (hAd _ _) hS.1) hLx (Nat.le_of_ble_eq_true rfl) (xs0 _ _) rfl tw_7_60 tw_7_57 tw_7_59 ts_90 tw_1_13 yd_X10_byteAt ⟨(Nat.le_of_ble_eq_true rfl), (Nat.le_of_ble_eq_true rfl)⟩ rfl hl.1 rfl (Nat.le_of_ble_eq_true rfl) dX10_isDigit_2 (fun H locs hP hS => ?_)
  refine lv_i2l (v := v1.toInt64) hx hb dX10_isDigit_5 rfl ?_
  refine lv_ldc2 (v := (48 : Int64)) hx hb hown (Fx0.T tw_7_88) dX10_isDigit_6 ?_
  refine lv_ldc2 (v := (57 : Int64)) hx hb hown (Fx0.T tw_7_89) dX10_isDigit_9 ?_
  obtain ⟨v3, z4, hD⟩ := b1_el hD
  refine rcS (As := [.long v1.toInt64, .long (48 : Int64), .long (57 : Int64)]) (rest := []) Fx0 (c_X10_in l v1.toInt64 (48 : Int64) (57 : Int64) z4) hP (hD1 _ (hAd _ _)) hS (hA1 _ _ (hAd _ _) hS.1) tw_7_69 tw_7_67 tw_7_68 tw_1_13 yd_X10_in ⟨(Nat.le_of_ble_eq_true rfl), (Nat.le_of_ble_eq_true rfl)⟩ rfl hl.1 rfl (Nat.le_of_ble_eq_true rfl) dX10_isDigit_12 (fun H locs hP hS => ?_)
  obtain ⟨h5, hD⟩ := gb_el hD
  obtain rfl := es1 hD
  exact hret _ _ _ hP hS (fun Qc hq => W.zret hx hb hr (nbz h5).1 hq hS.2.2 dX10_isDigit_15 hlocks)

noncomputable def D_X10_see_0 : Nat → MM → Option (Int32 × MM)
  | 0, _ => none
  | n + 1, x => b1 (D_X10_byteAt (gi x 0 9) x) (fun v1 => if v1 = (32 : Int32) then (bnd (si x 0 9 ((gi x 0 9) + (1 : Int32))) (fun m6 => D_X10_see_0 n m6)) else (bnd (si x 0 10 (gi x 0 9)) (fun m3 => b1 (D_X10_byteAt (gi m3 0 9) m3) (fun v4 => some (v4, m3)))))
noncomputable def D_X10_see (x : MM) : Option (Int32 × MM) := D_X10_see_0 FU x
set_option maxHeartbeats 4000000 in
set_option maxRecDepth 100000 in
theorem c_X10_see (l : Launch) {D : va_G} {cs : Nat → ClassId} {adx : Nat → Nat} {Wf : MM → va_W} (hLx : Ln 9 adx (xsh cs adx) Wf) (hAd : ∀ a0_ b0_ : MM, (Wf a0_).map (fun q => q.1) = (Wf b0_).map (fun q => q.1)) (x : MM) {rr : Int32} {x' : MM} (hD : D_X10_see x = some (rr, x')) : Ct l yX10_see cX10_see 1 (some .int) 1 21 D cs [.ref (adx 0)] (Wf x) (Wf x') (some (.int rr)) := by
  refine Ct.ofW (by decide) (Nat.le_of_ble_eq_true rfl) (hAd _ _) ?_
  intro p e s m0 below meth c A Q ls args hx hb hr hml hlocks hown hts hK hP hD1 hSS hS hA1 hl hret
  have hT : ∀ w ∈ TBL, w.before args s = true := fun w h => hts w (List.mem_cons_of_mem _ h)
  have Fx0 : Fx p l m0 c cX10_see 1 s args yX10_see cX10_see 1 (some .int) D cs A := ⟨hx, hb, hml, hown, hts, hK, hSS⟩
  have hown : s.vm.findClass RX10 = some m0.cls := hown
  have hl : lv_has ls 1 [(0, .ref (adx 0))] := hl
  unfold D_X10_see at hD
  have c_0 : ∀ (n : Nat), ∀ (x : MM) (H : Heap) (locs : List Loc) (ls : Array Slot), D_X10_see_0 n x = some (rr, x') → va_P D vwCl (Wf x) H → va_S A s.heap H locs → lv_has ls 1 [(0, .ref (adx 0))] → W p l e ({ frames := 1, cells := 0, slots := 0, locals := 21 } : Room) s m0 args below meth c H locs 0 0 Q (F0 m0 0 ls []) := by
    intro n
    induction n with
    | zero =>
      intro x H locs ls hD hP hS hl
      exact nn_el hD
    | succ n ih =>
      intro x H locs ls hD hP hS hl
      rw [D_X10_see_0] at hD
      refine lv_aload_n hx hb dX10_see_0 rfl (lv_at hl 0 rfl) ?_
      refine lv_aload_n hx hb dX10_see_1 rfl (lv_at hl 0 rfl) ?_
      refine rg  hx hb hT hu10 hown hK hP hLx 0 9 (Nat.le_of_ble_eq_true rfl) (xs0 _ _) rfl (Nat.le_of_ble_eq_true rfl) (Fx0.T tw_6_224) rfl (v := .int (gi x 0 9)) rfl dX10_see_2 ?_
      obtain ⟨v1, z2, hD⟩ := b1_el hD
      refine rcV  (As := [.int (gi x 0 9)]) (rest := []) Fx0 (c_X10_byteAt l hLx hAd x (gi x 0 9) z2) hP (hD1 _ (hAd _ _)) hS (hA1 _ _ (hAd _ _) hS.1) hLx (Nat.le_of_ble_eq_true rfl) (xs0 _ _) rfl tw_7_60 tw_7_57 tw_7_59 ts_90 tw_1_13 yd_X10_byteAt ⟨(Nat.le_of_ble_eq_true rfl), (Nat.le_of_ble_eq_true rfl)⟩ rfl hl.1 rfl (Nat.le_of_ble_eq_true rfl) dX10_see_5 (fun H locs hP hS => ?_)
      refine lv_bipush (v := (32 : Int32)) hx hb dX10_see_8 (by decide) ?_
      refine lv_icmp_ne (tgt := 26) hx hb dX10_see_10 (by decide) (fun c => ?_) (fun c => ?_)
      · have hD := ifn hD c
        refine lv_aload_n hx hb dX10_see_26 rfl (lv_at hl 0 rfl) ?_
        refine lv_aload_n hx hb dX10_see_27 rfl (lv_at hl 0 rfl) ?_
        refine rg  hx hb hT hu10 hown hK hP hLx 0 9 (Nat.le_of_ble_eq_true rfl) (xs0 _ _) rfl (Nat.le_of_ble_eq_true rfl) (Fx0.T tw_6_224) rfl (v := .int (gi x 0 9)) rfl dX10_see_28 ?_
        obtain ⟨m3, em3, hD⟩ := bnd_el hD
        refine rp  hx hb hT hu10 tyX10_ok nmX10 hown hK hP (hD1 _ (hAd _ _)) hS hLx 0 10 (Nat.le_of_ble_eq_true rfl) (xs0 _ _) (xs0 _ _) rfl (Nat.le_of_ble_eq_true rfl) (Fx0.T tw_6_225) rfl rfl rfl rfl (Nat.le_of_ble_eq_true rfl) dX10_see_31 em3 (fun H locs hP hS => ?_)
        refine lv_aload_n hx hb dX10_see_34 rfl (lv_at hl 0 rfl) ?_
        refine lv_aload_n hx hb dX10_see_35 rfl (lv_at hl 0 rfl) ?_
        refine rg  hx hb hT hu10 hown hK hP hLx 0 9 (Nat.le_of_ble_eq_true rfl) (xs0 _ _) rfl (Nat.le_of_ble_eq_true rfl) (Fx0.T tw_6_224) rfl (v := .int (gi m3 0 9)) rfl dX10_see_36 ?_
        obtain ⟨v4, z5, hD⟩ := b1_el hD
        refine rcV  (As := [.int (gi m3 0 9)]) (rest := []) Fx0 (c_X10_byteAt l hLx hAd m3 (gi m3 0 9) z5) hP (hD1 _ (hAd _ _)) hS (hA1 _ _ (hAd _ _) hS.1) hLx (Nat.le_of_ble_eq_true rfl) (xs0 _ _) rfl tw_7_60 tw_7_57 tw_7_59 ts_90 tw_1_13 yd_X10_byteAt ⟨(Nat.le_of_ble_eq_true rfl), (Nat.le_of_ble_eq_true rfl)⟩ rfl hl.1 rfl (Nat.le_of_ble_eq_true rfl) dX10_see_39 (fun H locs hP hS => ?_)
        obtain ⟨rfl, rfl⟩ := es2 hD
        exact hret _ _ _ hP hS (fun Qc hq => W.iret hx hb hr hq hS.2.2 dX10_see_42 hlocks)
      · have hD := ifp hD c
        refine lv_aload_n hx hb dX10_see_13 rfl (lv_at hl 0 rfl) ?_
        refine lv_dup hx hb dX10_see_14 rfl ?_
        refine rg  hx hb hT hu10 hown hK hP hLx 0 9 (Nat.le_of_ble_eq_true rfl) (xs0 _ _) rfl (Nat.le_of_ble_eq_true rfl) (Fx0.T tw_6_224) rfl (v := .int (gi x 0 9)) rfl dX10_see_15 ?_
        refine lv_iconst (v := (1 : Int32)) hx hb dX10_see_18 (by decide) ?_
        refine lv_iadd hx hb dX10_see_19 ?_
        obtain ⟨m6, em6, hD⟩ := bnd_el hD
        refine rp  hx hb hT hu10 tyX10_ok nmX10 hown hK hP (hD1 _ (hAd _ _)) hS hLx 0 9 (Nat.le_of_ble_eq_true rfl) (xs0 _ _) (xs0 _ _) rfl (Nat.le_of_ble_eq_true rfl) (Fx0.T tw_6_224) rfl rfl rfl rfl (Nat.le_of_ble_eq_true rfl) dX10_see_20 em6 (fun H locs hP hS => ?_)
        refine lv_goto (tgt := 0) hx hb dX10_see_23 (by decide) ?_
        exact ih _ _ _ _ hD hP hS (lv_sub hl [0] rfl)
  exact c_0 FU _ _ _ _ hD hP hS (lv_sub hl [0] rfl)

noncomputable def D_X10_fails (x1 : Int32) (x : MM) : Option (Int32 × MM) := if (gi x 0 12) = 0 then (bnd (si x 0 12 x1) (fun m1 => bnd (si m1 0 11 (gi m1 0 10)) (fun m2 => some ((0 : Int32), m2)))) else (some ((0 : Int32), x))
set_option maxHeartbeats 4000000 in
set_option maxRecDepth 100000 in
theorem c_X10_fails (l : Launch) {D : va_G} {cs : Nat → ClassId} {adx : Nat → Nat} {Wf : MM → va_W} (hLx : Ln 9 adx (xsh cs adx) Wf) (hAd : ∀ a0_ b0_ : MM, (Wf a0_).map (fun q => q.1) = (Wf b0_).map (fun q => q.1)) (x : MM) (x1 : Int32) {rr : Int32} {x' : MM} (hD : D_X10_fails x1 x = some (rr, x')) : Ct l yX10_fails cX10_fails 2 (some .boolean) 0 0 D cs [.ref (adx 0), .int x1] (Wf x) (Wf x') (some (.int rr)) := by
  refine Ct.ofW (by decide) (Nat.le_of_ble_eq_true rfl) (hAd _ _) ?_
  intro p e s m0 below meth c A Q ls args hx hb hr hml hlocks hown hts hK hP hD1 hSS hS hA1 hl hret
  have hT : ∀ w ∈ TBL, w.before args s = true := fun w h => hts w (List.mem_cons_of_mem _ h)
  have Fx0 : Fx p l m0 c cX10_fails 2 s args yX10_fails cX10_fails 2 (some .boolean) D cs A := ⟨hx, hb, hml, hown, hts, hK, hSS⟩
  have hown : s.vm.findClass RX10 = some m0.cls := hown
  have hl : lv_has ls 2 [(0, .ref (adx 0)), (1, .int x1)] := hl
  unfold D_X10_fails at hD
  refine lv_aload_n hx hb dX10_fails_0 rfl (lv_at hl 0 rfl) ?_
  refine rg  hx hb hT hu10 hown hK hP hLx 0 12 (Nat.le_of_ble_eq_true rfl) (xs0 _ _) rfl (Nat.le_of_ble_eq_true rfl) (Fx0.T tw_6_227) rfl (v := .int (gi x 0 12)) rfl dX10_fails_1 ?_
  refine lv_if_ne (tgt := 20) hx hb dX10_fails_4 (by decide) (fun c => ?_) (fun c => ?_)
  · have hD := ifn hD c
    refine lv_iconst (v := (0 : Int32)) hx hb dX10_fails_20 (by decide) ?_
    obtain ⟨rfl, rfl⟩ := es2 hD
    exact hret _ _ _ hP hS (fun Qc hq => W.zret hx hb hr rfl hq hS.2.2 dX10_fails_21 hlocks)
  · have hD := ifp hD c
    refine lv_aload_n hx hb dX10_fails_7 rfl (lv_at hl 0 rfl) ?_
    refine lv_iload_n hx hb dX10_fails_8 rfl (lv_at hl 1 rfl) ?_
    obtain ⟨m1, em1, hD⟩ := bnd_el hD
    refine rp  hx hb hT hu10 tyX10_ok nmX10 hown hK hP (hD1 _ (hAd _ _)) hS hLx 0 12 (Nat.le_of_ble_eq_true rfl) (xs0 _ _) (xs0 _ _) rfl (Nat.le_of_ble_eq_true rfl) (Fx0.T tw_6_227) rfl rfl rfl rfl (Nat.le_of_ble_eq_true rfl) dX10_fails_9 em1 (fun H locs hP hS => ?_)
    refine lv_aload_n hx hb dX10_fails_12 rfl (lv_at hl 0 rfl) ?_
    refine lv_aload_n hx hb dX10_fails_13 rfl (lv_at hl 0 rfl) ?_
    refine rg  hx hb hT hu10 hown hK hP hLx 0 10 (Nat.le_of_ble_eq_true rfl) (xs0 _ _) rfl (Nat.le_of_ble_eq_true rfl) (Fx0.T tw_6_225) rfl (v := .int (gi m1 0 10)) rfl dX10_fails_14 ?_
    obtain ⟨m2, em2, hD⟩ := bnd_el hD
    refine rp  hx hb hT hu10 tyX10_ok nmX10 hown hK hP (hD1 _ (hAd _ _)) hS hLx 0 11 (Nat.le_of_ble_eq_true rfl) (xs0 _ _) (xs0 _ _) rfl (Nat.le_of_ble_eq_true rfl) (Fx0.T tw_6_226) rfl rfl rfl rfl (Nat.le_of_ble_eq_true rfl) dX10_fails_17 em2 (fun H locs hP hS => ?_)
    refine lv_iconst (v := (0 : Int32)) hx hb dX10_fails_20 (by decide) ?_
    obtain ⟨rfl, rfl⟩ := es2 hD
    exact hret _ _ _ hP hS (fun Qc hq => W.zret hx hb hr rfl hq hS.2.2 dX10_fails_21 hlocks)

noncomputable def D_X10_takes_46 : Nat → Nat → Int32 → Int32 → Int32 → MM → Option (Int32 × MM)
  | 0, _, _, _, _, _ => none
  | n + 1, q1, x2, x3, x4, x => if x3 = 0 then (if x3 = 0 then (bnd (si x 0 9 (gi x 0 9)) (fun m9 => if x3 = 0 ∨ x3 = 1 then some (x3, m9) else none)) else (bnd (si x 0 9 x2) (fun m11 => if x3 = 0 ∨ x3 = 1 then some (x3, m11) else none))) else (if x2 ≤ ((gi x 0 10) + x4) then (if x3 = 0 then (bnd (si x 0 9 (gi x 0 9)) (fun m13 => if x3 = 0 ∨ x3 = 1 then some (x3, m13) else none)) else (bnd (si x 0 9 x2) (fun m15 => if x3 = 0 ∨ x3 = 1 then some (x3, m15) else none))) else (b1 (D_X10_byteAt ((gi x 0 10) + x4) x) (fun v17 => b1 (D_J0_charAt_5068e q1 x4) (fun v19 => if v17 = v19 then (bnd (x4 + (1 : Int32)) (fun v22 => D_X10_takes_46 n q1 x2 (1 : Int32) v22 x)) else (bnd (x4 + (1 : Int32)) (fun v21 => D_X10_takes_46 n q1 x2 (0 : Int32) v21 x))))))
noncomputable def D_X10_takes_10 : Nat → Nat → Int32 → MM → Option (Int32 × MM)
  | 0, _, _, _ => none
  | n + 1, q1, x2, x => b1 (D_X10_isLetter x2 x) (fun v5 => if v5 = 0 then (b1 (D_J0_length_8abf5 q1) (fun v7 => if (x2 - (gi x 0 10)) = v7 then (D_X10_takes_46 FU q1 x2 (1 : Int32) (0 : Int32) x) else (D_X10_takes_46 FU q1 x2 (0 : Int32) (0 : Int32) x))) else (bnd (x2 + (1 : Int32)) (fun v23 => D_X10_takes_10 n q1 v23 x)))
noncomputable def D_X10_takes (q1 : Nat) (x : MM) : Option (Int32 × MM) := b2 (D_X10_see x) (fun v1 m2 => bnd ((gi m2 0 10)) (fun v4 => D_X10_takes_10 FU q1 v4 m2))
set_option maxHeartbeats 4000000 in
set_option maxRecDepth 100000 in
theorem c_X10_takes (l : Launch) {D : va_G} {cs : Nat → ClassId} {adx : Nat → Nat} {Wf : MM → va_W} (hLx : Ln 9 adx (xsh cs adx) Wf) (hAd : ∀ a0_ b0_ : MM, (Wf a0_).map (fun q => q.1) = (Wf b0_).map (fun q => q.1)) (x : MM) (q1 : Nat) (haq1 : q1 < 12) {rr : Int32} {x' : MM} (hD : D_X10_takes q1 x = some (rr, x')) : Ct l yX10_takes cX10_takes 5 (some .boolean) 4 85 D cs [.ref (adx 0), .ref (sK D q1)] (Wf x) (Wf x') (some (.int rr)) := by
  refine Ct.ofW (by decide) (Nat.le_of_ble_eq_true rfl) (hAd _ _) ?_
  intro p e s m0 below meth c A Q ls args hx hb hr hml hlocks hown hts hK hP hD1 hSS hS hA1 hl hret
  have hT : ∀ w ∈ TBL, w.before args s = true := fun w h => hts w (List.mem_cons_of_mem _ h)
  have Fx0 : Fx p l m0 c cX10_takes 5 s args yX10_takes cX10_takes 5 (some .boolean) D cs A := ⟨hx, hb, hml, hown, hts, hK, hSS⟩
  have hown : s.vm.findClass RX10 = some m0.cls := hown
  have hl : lv_has ls 5 [(0, .ref (adx 0)), (1, .ref (sK D q1))] := hl
  unfold D_X10_takes at hD
  have c_46 : ∀ (n : Nat), ∀ (q1 : Nat) (x2 : Int32) (x3 : Int32) (x4 : Int32) (x : MM) (H : Heap) (locs : List Loc) (ls : Array Slot), D_X10_takes_46 n q1 x2 x3 x4 x = some (rr, x') → q1 < 12 → va_P D vwCl (Wf x) H → va_S A s.heap H locs → lv_has ls 5 [(0, .ref (adx 0)), (1, .ref (sK D q1)), (2, .int x2), (3, .int x3), (4, .int x4)] → W p l e ({ frames := 4, cells := 0, slots := 0, locals := 85 } : Room) s m0 args below meth c H locs 0 0 Q (F0 m0 46 ls []) := by
    intro n
    induction n with
    | zero =>
      intro q1 x2 x3 x4 x H locs ls hD haq1 hP hS hl
      exact nn_el hD
    | succ n ih =>
      intro q1 x2 x3 x4 x H locs ls hD haq1 hP hS hl
      rw [D_X10_takes_46] at hD
      refine lv_iload_n hx hb dX10_takes_46 rfl (lv_at hl 3 rfl) ?_
      refine lv_if_eq (tgt := 93) hx hb dX10_takes_47 (by decide) (fun c => ?_) (fun c => ?_)
      · have hD := ifp hD c
        refine lv_aload_n hx hb dX10_takes_93 rfl (lv_at hl 0 rfl) ?_
        refine lv_iload_n hx hb dX10_takes_94 rfl (lv_at hl 3 rfl) ?_
        refine lv_if_eq (tgt := 102) hx hb dX10_takes_95 (by decide) (fun c => ?_) (fun c => ?_)
        · have hD := ifp hD c
          refine lv_aload_n hx hb dX10_takes_102 rfl (lv_at hl 0 rfl) ?_
          refine rg  hx hb hT hu10 hown hK hP hLx 0 9 (Nat.le_of_ble_eq_true rfl) (xs0 _ _) rfl (Nat.le_of_ble_eq_true rfl) (Fx0.T tw_6_224) rfl (v := .int (gi x 0 9)) rfl dX10_takes_103 ?_
          obtain ⟨m9, em9, hD⟩ := bnd_el hD
          refine rp  hx hb hT hu10 tyX10_ok nmX10 hown hK hP (hD1 _ (hAd _ _)) hS hLx 0 9 (Nat.le_of_ble_eq_true rfl) (xs0 _ _) (xs0 _ _) rfl (Nat.le_of_ble_eq_true rfl) (Fx0.T tw_6_224) rfl rfl rfl rfl (Nat.le_of_ble_eq_true rfl) dX10_takes_106 em9 (fun H locs hP hS => ?_)
          refine lv_iload_n hx hb dX10_takes_109 rfl (lv_at hl 3 rfl) ?_
          obtain ⟨h10, hD⟩ := gb_el hD
          obtain ⟨rfl, rfl⟩ := es2 hD
          exact hret _ _ _ hP hS (fun Qc hq => W.zret hx hb hr (nbz h10).1 hq hS.2.2 dX10_takes_110 hlocks)
        · have hD := ifn hD c
          refine lv_iload_n hx hb dX10_takes_98 rfl (lv_at hl 2 rfl) ?_
          refine lv_goto (tgt := 106) hx hb dX10_takes_99 (by decide) ?_
          obtain ⟨m11, em11, hD⟩ := bnd_el hD
          refine rp  hx hb hT hu10 tyX10_ok nmX10 hown hK hP (hD1 _ (hAd _ _)) hS hLx 0 9 (Nat.le_of_ble_eq_true rfl) (xs0 _ _) (xs0 _ _) rfl (Nat.le_of_ble_eq_true rfl) (Fx0.T tw_6_224) rfl rfl rfl rfl (Nat.le_of_ble_eq_true rfl) dX10_takes_106 em11 (fun H locs hP hS => ?_)
          refine lv_iload_n hx hb dX10_takes_109 rfl (lv_at hl 3 rfl) ?_
          obtain ⟨h12, hD⟩ := gb_el hD
          obtain ⟨rfl, rfl⟩ := es2 hD
          exact hret _ _ _ hP hS (fun Qc hq => W.zret hx hb hr (nbz h12).1 hq hS.2.2 dX10_takes_110 hlocks)
      · have hD := ifn hD c
        refine lv_aload_n hx hb dX10_takes_50 rfl (lv_at hl 0 rfl) ?_
        refine rg  hx hb hT hu10 hown hK hP hLx 0 10 (Nat.le_of_ble_eq_true rfl) (xs0 _ _) rfl (Nat.le_of_ble_eq_true rfl) (Fx0.T tw_6_225) rfl (v := .int (gi x 0 10)) rfl dX10_takes_51 ?_
        refine lv_iload hx hb dX10_takes_54 (lv_at hl 4 rfl) ?_
        refine lv_iadd hx hb dX10_takes_56 ?_
        refine lv_iload_n hx hb dX10_takes_57 rfl (lv_at hl 2 rfl) ?_
        refine lv_icmp_ge (tgt := 93) hx hb dX10_takes_58 (by decide) (fun c => ?_) (fun c => ?_)
        · have hD := ifp hD c
          refine lv_aload_n hx hb dX10_takes_93 rfl (lv_at hl 0 rfl) ?_
          refine lv_iload_n hx hb dX10_takes_94 rfl (lv_at hl 3 rfl) ?_
          refine lv_if_eq (tgt := 102) hx hb dX10_takes_95 (by decide) (fun c => ?_) (fun c => ?_)
          · have hD := ifp hD c
            refine lv_aload_n hx hb dX10_takes_102 rfl (lv_at hl 0 rfl) ?_
            refine rg  hx hb hT hu10 hown hK hP hLx 0 9 (Nat.le_of_ble_eq_true rfl) (xs0 _ _) rfl (Nat.le_of_ble_eq_true rfl) (Fx0.T tw_6_224) rfl (v := .int (gi x 0 9)) rfl dX10_takes_103 ?_
            obtain ⟨m13, em13, hD⟩ := bnd_el hD
            refine rp  hx hb hT hu10 tyX10_ok nmX10 hown hK hP (hD1 _ (hAd _ _)) hS hLx 0 9 (Nat.le_of_ble_eq_true rfl) (xs0 _ _) (xs0 _ _) rfl (Nat.le_of_ble_eq_true rfl) (Fx0.T tw_6_224) rfl rfl rfl rfl (Nat.le_of_ble_eq_true rfl) dX10_takes_106 em13 (fun H locs hP hS => ?_)
            refine lv_iload_n hx hb dX10_takes_109 rfl (lv_at hl 3 rfl) ?_
            obtain ⟨h14, hD⟩ := gb_el hD
            obtain ⟨rfl, rfl⟩ := es2 hD
            exact hret _ _ _ hP hS (fun Qc hq => W.zret hx hb hr (nbz h14).1 hq hS.2.2 dX10_takes_110 hlocks)
          · have hD := ifn hD c
            refine lv_iload_n hx hb dX10_takes_98 rfl (lv_at hl 2 rfl) ?_
            refine lv_goto (tgt := 106) hx hb dX10_takes_99 (by decide) ?_
            obtain ⟨m15, em15, hD⟩ := bnd_el hD
            refine rp  hx hb hT hu10 tyX10_ok nmX10 hown hK hP (hD1 _ (hAd _ _)) hS hLx 0 9 (Nat.le_of_ble_eq_true rfl) (xs0 _ _) (xs0 _ _) rfl (Nat.le_of_ble_eq_true rfl) (Fx0.T tw_6_224) rfl rfl rfl rfl (Nat.le_of_ble_eq_true rfl) dX10_takes_106 em15 (fun H locs hP hS => ?_)
            refine lv_iload_n hx hb dX10_takes_109 rfl (lv_at hl 3 rfl) ?_
            obtain ⟨h16, hD⟩ := gb_el hD
            obtain ⟨rfl, rfl⟩ := es2 hD
            exact hret _ _ _ hP hS (fun Qc hq => W.zret hx hb hr (nbz h16).1 hq hS.2.2 dX10_takes_110 hlocks)
        · have hD := ifn hD c
          refine lv_aload_n hx hb dX10_takes_61 rfl (lv_at hl 0 rfl) ?_
          refine lv_aload_n hx hb dX10_takes_62 rfl (lv_at hl 0 rfl) ?_
          refine rg  hx hb hT hu10 hown hK hP hLx 0 10 (Nat.le_of_ble_eq_true rfl) (xs0 _ _) rfl (Nat.le_of_ble_eq_true rfl) (Fx0.T tw_6_225) rfl (v := .int (gi x 0 10)) rfl dX10_takes_63 ?_
          refine lv_iload hx hb dX10_takes_66 (lv_at hl 4 rfl) ?_
          refine lv_iadd hx hb dX10_takes_68 ?_
          obtain ⟨v17, z18, hD⟩ := b1_el hD
          refine rcV  (As := [.int ((gi x 0 10) + x4)]) (rest := []) Fx0 (c_X10_byteAt l hLx hAd x ((gi x 0 10) + x4) z18) hP (hD1 _ (hAd _ _)) hS (hA1 _ _ (hAd _ _) hS.1) hLx (Nat.le_of_ble_eq_true rfl) (xs0 _ _) rfl tw_7_60 tw_7_57 tw_7_59 ts_90 tw_1_13 yd_X10_byteAt ⟨(Nat.le_of_ble_eq_true rfl), (Nat.le_of_ble_eq_true rfl)⟩ rfl hl.1 rfl (Nat.le_of_ble_eq_true rfl) dX10_takes_69 (fun H locs hP hS => ?_)
          refine lv_aload_n hx hb dX10_takes_72 rfl (lv_at hl 1 rfl) ?_
          refine lv_iload hx hb dX10_takes_73 (lv_at hl 4 rfl) ?_
          obtain ⟨v19, z20, hD⟩ := b1_el hD
          refine rcT (As := [.int x4]) (rest := [.int v17]) Fx0 haq1 (c_J0_charAt_5068e l q1 haq1 x4 z20) hP (hD1 _ (hAd _ _)) hS (hA1 _ _ (hAd _ _) hS.1) tw_3_78 tw_7_71 tw_3_76 tw_3_77 tw_1_15 yd_J0_charAt_5068e ⟨(Nat.le_of_ble_eq_true rfl), (Nat.le_of_ble_eq_true rfl)⟩ rfl hl.1 rfl (Nat.le_of_ble_eq_true rfl) dX10_takes_75 (fun H locs hP hS => ?_)
          refine lv_icmp_ne (tgt := 85) hx hb dX10_takes_78 (by decide) (fun c => ?_) (fun c => ?_)
          · have hD := ifn hD c
            refine lv_iconst (v := (0 : Int32)) hx hb dX10_takes_85 (by decide) ?_
            refine lv_istore_n (lv' := [(3, .int (0 : Int32)), (0, .ref (adx 0)), (1, .ref (sK D q1)), (2, .int x2), (4, .int x4)]) hx hb dX10_takes_86 rfl hl (by decide) rfl (fun ls hl => ?_)
            obtain ⟨v21, ev21, hD⟩ := bnd_el hD
            refine lv_iinc (v := v21) (lv' := [(4, .int v21), (3, .int (0 : Int32)), (0, .ref (adx 0)), (1, .ref (sK D q1)), (2, .int x2)]) hx hb dX10_takes_87 hl (k := 4) rfl (by rw [ev21]; rfl) (by decide) rfl (fun ls hl => ?_)
            refine lv_goto (tgt := 46) hx hb dX10_takes_90 (by decide) ?_
            exact ih _ _ _ _ _ _ _ _ hD haq1 hP hS (lv_sub hl [2, 3, 4, 1, 0] rfl)
          · have hD := ifp hD c
            refine lv_iconst (v := (1 : Int32)) hx hb dX10_takes_81 (by decide) ?_
            refine lv_goto (tgt := 86) hx hb dX10_takes_82 (by decide) ?_
            refine lv_istore_n (lv' := [(3, .int (1 : Int32)), (0, .ref (adx 0)), (1, .ref (sK D q1)), (2, .int x2), (4, .int x4)]) hx hb dX10_takes_86 rfl hl (by decide) rfl (fun ls hl => ?_)
            obtain ⟨v22, ev22, hD⟩ := bnd_el hD
            refine lv_iinc (v := v22) (lv' := [(4, .int v22), (3, .int (1 : Int32)), (0, .ref (adx 0)), (1, .ref (sK D q1)), (2, .int x2)]) hx hb dX10_takes_87 hl (k := 4) rfl (by rw [ev22]; rfl) (by decide) rfl (fun ls hl => ?_)
            refine lv_goto (tgt := 46) hx hb dX10_takes_90 (by decide) ?_
            exact ih _ _ _ _ _ _ _ _ hD haq1 hP hS (lv_sub hl [2, 3, 4, 1, 0] rfl)
  have c_10 : ∀ (n : Nat), ∀ (q1 : Nat) (x2 : Int32) (x : MM) (H : Heap) (locs : List Loc) (ls : Array Slot), D_X10_takes_10 n q1 x2 x = some (rr, x') → q1 < 12 → va_P D vwCl (Wf x) H → va_S A s.heap H locs → lv_has ls 5 [(0, .ref (adx 0)), (1, .ref (sK D q1)), (2, .int x2)] → W p l e ({ frames := 4, cells := 0, slots := 0, locals := 85 } : Room) s m0 args below meth c H locs 0 0 Q (F0 m0 10 ls []) := by
    intro n
    induction n with
    | zero =>
      intro q1 x2 x H locs ls hD haq1 hP hS hl
      exact nn_el hD
    | succ n ih =>
      intro q1 x2 x H locs ls hD haq1 hP hS hl
      rw [D_X10_takes_10] at hD
      refine lv_aload_n hx hb dX10_takes_10 rfl (lv_at hl 0 rfl) ?_
      refine lv_iload_n hx hb dX10_takes_11 rfl (lv_at hl 2 rfl) ?_
      obtain ⟨v5, z6, hD⟩ := b1_el hD
      refine rcV  (As := [.int x2]) (rest := []) Fx0 (c_X10_isLetter l hLx hAd x x2 z6) hP (hD1 _ (hAd _ _)) hS (hA1 _ _ (hAd _ _) hS.1) hLx (Nat.le_of_ble_eq_true rfl) (xs0 _ _) rfl tw_7_64 tw_7_61 tw_7_63 ts_91 tw_1_13 yd_X10_isLetter ⟨(Nat.le_of_ble_eq_true rfl), (Nat.le_of_ble_eq_true rfl)⟩ rfl hl.1 rfl (Nat.le_of_ble_eq_true rfl) dX10_takes_12 (fun H locs hP hS => ?_)
      refine lv_if_eq (tgt := 24) hx hb dX10_takes_15 (by decide) (fun c => ?_) (fun c => ?_)
      · have hD := ifp hD c
        refine lv_iload_n hx hb dX10_takes_24 rfl (lv_at hl 2 rfl) ?_
        refine lv_aload_n hx hb dX10_takes_25 rfl (lv_at hl 0 rfl) ?_
        refine rg  hx hb hT hu10 hown hK hP hLx 0 10 (Nat.le_of_ble_eq_true rfl) (xs0 _ _) rfl (Nat.le_of_ble_eq_true rfl) (Fx0.T tw_6_225) rfl (v := .int (gi x 0 10)) rfl dX10_takes_26 ?_
        refine lv_isub hx hb dX10_takes_29 ?_
        refine lv_aload_n hx hb dX10_takes_30 rfl (lv_at hl 1 rfl) ?_
        obtain ⟨v7, z8, hD⟩ := b1_el hD
        refine rcT (As := []) (rest := [.int (x2 - (gi x 0 10))]) Fx0 haq1 (c_J0_length_8abf5 l q1 haq1 z8) hP (hD1 _ (hAd _ _)) hS (hA1 _ _ (hAd _ _) hS.1) tw_3_68 tw_7_70 tw_3_66 tw_3_67 tw_1_15 yd_J0_length_8abf5 ⟨(Nat.le_of_ble_eq_true rfl), (Nat.le_of_ble_eq_true rfl)⟩ rfl hl.1 rfl (Nat.le_of_ble_eq_true rfl) dX10_takes_31 (fun H locs hP hS => ?_)
        refine lv_icmp_ne (tgt := 41) hx hb dX10_takes_34 (by decide) (fun c => ?_) (fun c => ?_)
        · have hD := ifn hD c
          refine lv_iconst (v := (0 : Int32)) hx hb dX10_takes_41 (by decide) ?_
          refine lv_istore_n (lv' := [(3, .int (0 : Int32)), (0, .ref (adx 0)), (1, .ref (sK D q1)), (2, .int x2)]) hx hb dX10_takes_42 rfl hl (by decide) rfl (fun ls hl => ?_)
          refine lv_iconst (v := (0 : Int32)) hx hb dX10_takes_43 (by decide) ?_
          refine lv_istore (lv' := [(4, .int (0 : Int32)), (3, .int (0 : Int32)), (0, .ref (adx 0)), (1, .ref (sK D q1)), (2, .int x2)]) hx hb dX10_takes_44 hl (by decide) rfl (fun ls hl => ?_)
          exact c_46 FU _ _ _ _ _ _ _ _ hD haq1 hP hS (lv_sub hl [2, 3, 4, 1, 0] rfl)
        · have hD := ifp hD c
          refine lv_iconst (v := (1 : Int32)) hx hb dX10_takes_37 (by decide) ?_
          refine lv_goto (tgt := 42) hx hb dX10_takes_38 (by decide) ?_
          refine lv_istore_n (lv' := [(3, .int (1 : Int32)), (0, .ref (adx 0)), (1, .ref (sK D q1)), (2, .int x2)]) hx hb dX10_takes_42 rfl hl (by decide) rfl (fun ls hl => ?_)
          refine lv_iconst (v := (0 : Int32)) hx hb dX10_takes_43 (by decide) ?_
          refine lv_istore (lv' := [(4, .int (0 : Int32)), (3, .int (1 : Int32)), (0, .ref (adx 0)), (1, .ref (sK D q1)), (2, .int x2)]) hx hb dX10_takes_44 hl (by decide) rfl (fun ls hl => ?_)
          exact c_46 FU _ _ _ _ _ _ _ _ hD haq1 hP hS (lv_sub hl [2, 3, 4, 1, 0] rfl)
      · have hD := ifn hD c
        obtain ⟨v23, ev23, hD⟩ := bnd_el hD
        refine lv_iinc (v := v23) (lv' := [(2, .int v23), (0, .ref (adx 0)), (1, .ref (sK D q1))]) hx hb dX10_takes_18 hl (k := 2) rfl (by rw [ev23]; rfl) (by decide) rfl (fun ls hl => ?_)
        refine lv_goto (tgt := 10) hx hb dX10_takes_21 (by decide) ?_
        exact ih _ _ _ _ _ _ hD haq1 hP hS (lv_sub hl [1, 2, 0] rfl)
  refine lv_aload_n hx hb dX10_takes_0 rfl (lv_at hl 0 rfl) ?_
  obtain ⟨v1, m2, z3, hD⟩ := b2_el hD
  refine rcV  (As := []) (rest := []) Fx0 (c_X10_see l hLx hAd x z3) hP (hD1 _ (hAd _ _)) hS (hA1 _ _ (hAd _ _) hS.1) hLx (Nat.le_of_ble_eq_true rfl) (xs0 _ _) rfl tw_7_56 tw_7_53 tw_7_55 ts_89 tw_1_13 yd_X10_see ⟨(Nat.le_of_ble_eq_true rfl), (Nat.le_of_ble_eq_true rfl)⟩ rfl hl.1 rfl (Nat.le_of_ble_eq_true rfl) dX10_takes_1 (fun H locs hP hS => ?_)
  refine lv_pop hx hb dX10_takes_4 rfl ?_
  refine lv_aload_n hx hb dX10_takes_5 rfl (lv_at hl 0 rfl) ?_
  refine rg  hx hb hT hu10 hown hK hP hLx 0 10 (Nat.le_of_ble_eq_true rfl) (xs0 _ _) rfl (Nat.le_of_ble_eq_true rfl) (Fx0.T tw_6_225) rfl (v := .int (gi m2 0 10)) rfl dX10_takes_6 ?_
  obtain ⟨v4, ev4, hD⟩ := bnd_el hD
  refine lv_nmi ev4 ?_
  refine lv_istore_n (lv' := [(2, .int v4), (0, .ref (adx 0)), (1, .ref (sK D q1))]) hx hb dX10_takes_9 rfl hl (by decide) rfl (fun ls hl => ?_)
  exact c_10 FU _ _ _ _ _ _ hD haq1 hP hS (lv_sub hl [1, 2, 0] rfl)

noncomputable def D_X10_reads_24 : Nat → Int32 → Int32 → Int64 → MM → Option (Int32 × MM)
  | 0, _, _, _, _ => none
  | n + 1, x1, x2, x3, x => b1 (D_X10_isDigit (gi x 0 9) x) (fun v6 => if v6 = 0 then (b1 (D_X10_in x3 x1.toInt64 x2.toInt64) (fun v8 => if v8 = 0 then (b2 (D_X10_fails (2 : Int32) x) (fun v11 m12 => if v11 = 0 ∨ v11 = 1 then some (v11, m12) else none)) else (bnd (si x 0 14 x3.toInt32) (fun m10 => some ((1 : Int32), m10))))) else (b1 (D_X10_byteAt (gi x 0 9) x) (fun v15 => bnd (if ((((10 : Int64) * x3) + v15.toInt64) - (48 : Int64)) < (100000000 : Int64) then ((((10 : Int64) * x3) + v15.toInt64) - (48 : Int64)) else (100000000 : Int64)) (fun v17 => bnd (si x 0 9 ((gi x 0 9) + (1 : Int32))) (fun m18 => D_X10_reads_24 n x1 x2 v17 m18)))))
noncomputable def D_X10_reads (x1 : Int32) (x2 : Int32) (x : MM) : Option (Int32 × MM) := b2 (D_X10_see x) (fun v1 m2 => b1 (D_X10_isDigit (gi m2 0 9) m2) (fun v4 => if v4 = 0 then (b2 (D_X10_fails (1 : Int32) m2) (fun v19 m20 => if v19 = 0 ∨ v19 = 1 then some (v19, m20) else none)) else (D_X10_reads_24 FU x1 x2 (0 : Int64) m2)))
set_option maxHeartbeats 4000000 in
set_option maxRecDepth 100000 in
theorem c_X10_reads (l : Launch) {D : va_G} {cs : Nat → ClassId} {adx : Nat → Nat} {Wf : MM → va_W} (hLx : Ln 9 adx (xsh cs adx) Wf) (hAd : ∀ a0_ b0_ : MM, (Wf a0_).map (fun q => q.1) = (Wf b0_).map (fun q => q.1)) (x : MM) (x1 : Int32) (x2 : Int32) {rr : Int32} {x' : MM} (hD : D_X10_reads x1 x2 x = some (rr, x')) : Ct l yX10_reads cX10_reads 5 (some .boolean) 2 46 D cs [.ref (adx 0), .int x1, .int x2] (Wf x) (Wf x') (some (.int rr)) := by
  refine Ct.ofW (by decide) (Nat.le_of_ble_eq_true rfl) (hAd _ _) ?_
  intro p e s m0 below meth c A Q ls args hx hb hr hml hlocks hown hts hK hP hD1 hSS hS hA1 hl hret
  have hT : ∀ w ∈ TBL, w.before args s = true := fun w h => hts w (List.mem_cons_of_mem _ h)
  have Fx0 : Fx p l m0 c cX10_reads 5 s args yX10_reads cX10_reads 5 (some .boolean) D cs A := ⟨hx, hb, hml, hown, hts, hK, hSS⟩
  have hown : s.vm.findClass RX10 = some m0.cls := hown
  have hl : lv_has ls 5 [(0, .ref (adx 0)), (1, .int x1), (2, .int x2)] := hl
  unfold D_X10_reads at hD
  have c_24 : ∀ (n : Nat), ∀ (x1 : Int32) (x2 : Int32) (x3 : Int64) (x : MM) (H : Heap) (locs : List Loc) (ls : Array Slot), D_X10_reads_24 n x1 x2 x3 x = some (rr, x') → va_P D vwCl (Wf x) H → va_S A s.heap H locs → lv_has ls 5 [(0, .ref (adx 0)), (1, .int x1), (2, .int x2), (3, .long x3)] → W p l e ({ frames := 2, cells := 0, slots := 0, locals := 46 } : Room) s m0 args below meth c H locs 0 0 Q (F0 m0 24 ls []) := by
    intro n
    induction n with
    | zero =>
      intro x1 x2 x3 x H locs ls hD hP hS hl
      exact nn_el hD
    | succ n ih =>
      intro x1 x2 x3 x H locs ls hD hP hS hl
      rw [D_X10_reads_24] at hD
      refine lv_aload_n hx hb dX10_reads_24 rfl (lv_at hl 0 rfl) ?_
      refine lv_aload_n hx hb dX10_reads_25 rfl (lv_at hl 0 rfl) ?_
      refine rg  hx hb hT hu10 hown hK hP hLx 0 9 (Nat.le_of_ble_eq_true rfl) (xs0 _ _) rfl (Nat.le_of_ble_eq_true rfl) (Fx0.T tw_6_224) rfl (v := .int (gi x 0 9)) rfl dX10_reads_26 ?_
      obtain ⟨v6, z7, hD⟩ := b1_el hD
      refine rcV  (As := [.int (gi x 0 9)]) (rest := []) Fx0 (c_X10_isDigit l hLx hAd x (gi x 0 9) z7) hP (hD1 _ (hAd _ _)) hS (hA1 _ _ (hAd _ _) hS.1) hLx (Nat.le_of_ble_eq_true rfl) (xs0 _ _) rfl tw_7_87 tw_7_84 tw_7_86 ts_95 tw_1_13 yd_X10_isDigit ⟨(Nat.le_of_ble_eq_true rfl), (Nat.le_of_ble_eq_true rfl)⟩ rfl hl.1 rfl (Nat.le_of_ble_eq_true rfl) dX10_reads_29 (fun H locs hP hS => ?_)
      refine lv_if_eq (tgt := 74) hx hb dX10_reads_32 (by decide) (fun c => ?_) (fun c => ?_)
      · have hD := ifp hD c
        refine lv_lload_n hx hb dX10_reads_74 rfl (lv_at hl 3 rfl) ?_
        refine lv_iload_n hx hb dX10_reads_75 rfl (lv_at hl 1 rfl) ?_
        refine lv_i2l (v := x1.toInt64) hx hb dX10_reads_76 rfl ?_
        refine lv_iload_n hx hb dX10_reads_77 rfl (lv_at hl 2 rfl) ?_
        refine lv_i2l (v := x2.toInt64) hx hb dX10_reads_78 rfl ?_
        obtain ⟨v8, z9, hD⟩ := b1_el hD
        refine rcS (As := [.long x3, .long x1.toInt64, .long x2.toInt64]) (rest := []) Fx0 (c_X10_in l x3 x1.toInt64 x2.toInt64 z9) hP (hD1 _ (hAd _ _)) hS (hA1 _ _ (hAd _ _) hS.1) tw_7_69 tw_7_67 tw_7_68 tw_1_13 yd_X10_in ⟨(Nat.le_of_ble_eq_true rfl), (Nat.le_of_ble_eq_true rfl)⟩ rfl hl.1 rfl (Nat.le_of_ble_eq_true rfl) dX10_reads_79 (fun H locs hP hS => ?_)
        refine lv_if_ne (tgt := 91) hx hb dX10_reads_82 (by decide) (fun c => ?_) (fun c => ?_)
        · have hD := ifn hD c
          refine lv_aload_n hx hb dX10_reads_91 rfl (lv_at hl 0 rfl) ?_
          refine lv_lload_n hx hb dX10_reads_92 rfl (lv_at hl 3 rfl) ?_
          refine lv_l2i (v := x3.toInt32) hx hb dX10_reads_93 rfl ?_
          obtain ⟨m10, em10, hD⟩ := bnd_el hD
          refine rp  hx hb hT hu10 tyX10_ok nmX10 hown hK hP (hD1 _ (hAd _ _)) hS hLx 0 14 (Nat.le_of_ble_eq_true rfl) (xs0 _ _) (xs0 _ _) rfl (Nat.le_of_ble_eq_true rfl) (Fx0.T tw_6_229) rfl rfl rfl rfl (Nat.le_of_ble_eq_true rfl) dX10_reads_94 em10 (fun H locs hP hS => ?_)
          refine lv_iconst (v := (1 : Int32)) hx hb dX10_reads_97 (by decide) ?_
          obtain ⟨rfl, rfl⟩ := es2 hD
          exact hret _ _ _ hP hS (fun Qc hq => W.zret hx hb hr rfl hq hS.2.2 dX10_reads_98 hlocks)
        · have hD := ifp hD c
          refine lv_aload_n hx hb dX10_reads_85 rfl (lv_at hl 0 rfl) ?_
          refine lv_iconst (v := (2 : Int32)) hx hb dX10_reads_86 (by decide) ?_
          obtain ⟨v11, m12, z13, hD⟩ := b2_el hD
          refine rcV  (As := [.int (2 : Int32)]) (rest := []) Fx0 (c_X10_fails l hLx hAd x (2 : Int32) z13) hP (hD1 _ (hAd _ _)) hS (hA1 _ _ (hAd _ _) hS.1) hLx (Nat.le_of_ble_eq_true rfl) (xs0 _ _) rfl tw_7_75 tw_7_72 tw_7_74 ts_92 tw_1_13 yd_X10_fails ⟨(Nat.le_of_ble_eq_true rfl), (Nat.le_of_ble_eq_true rfl)⟩ rfl hl.1 rfl (Nat.le_of_ble_eq_true rfl) dX10_reads_87 (fun H locs hP hS => ?_)
          obtain ⟨h14, hD⟩ := gb_el hD
          obtain ⟨rfl, rfl⟩ := es2 hD
          exact hret _ _ _ hP hS (fun Qc hq => W.zret hx hb hr (nbz h14).1 hq hS.2.2 dX10_reads_90 hlocks)
      · have hD := ifn hD c
        refine lv_ldc2 (v := (100000000 : Int64)) hx hb hown (Fx0.T tw_7_90) dX10_reads_35 ?_
        refine lv_ldc2 (v := (10 : Int64)) hx hb hown (Fx0.T tw_7_91) dX10_reads_38 ?_
        refine lv_lload_n hx hb dX10_reads_41 rfl (lv_at hl 3 rfl) ?_
        refine lv_lmul hx hb dX10_reads_42 ?_
        refine lv_aload_n hx hb dX10_reads_43 rfl (lv_at hl 0 rfl) ?_
        refine lv_aload_n hx hb dX10_reads_44 rfl (lv_at hl 0 rfl) ?_
        refine rg  hx hb hT hu10 hown hK hP hLx 0 9 (Nat.le_of_ble_eq_true rfl) (xs0 _ _) rfl (Nat.le_of_ble_eq_true rfl) (Fx0.T tw_6_224) rfl (v := .int (gi x 0 9)) rfl dX10_reads_45 ?_
        obtain ⟨v15, z16, hD⟩ := b1_el hD
        refine rcV  (As := [.int (gi x 0 9)]) (rest := [.long ((10 : Int64) * x3), .long (100000000 : Int64)]) Fx0 (c_X10_byteAt l hLx hAd x (gi x 0 9) z16) hP (hD1 _ (hAd _ _)) hS (hA1 _ _ (hAd _ _) hS.1) hLx (Nat.le_of_ble_eq_true rfl) (xs0 _ _) rfl tw_7_60 tw_7_57 tw_7_59 ts_90 tw_1_13 yd_X10_byteAt ⟨(Nat.le_of_ble_eq_true rfl), (Nat.le_of_ble_eq_true rfl)⟩ rfl hl.1 rfl (Nat.le_of_ble_eq_true rfl) dX10_reads_48 (fun H locs hP hS => ?_)
        refine lv_i2l (v := v15.toInt64) hx hb dX10_reads_51 rfl ?_
        refine lv_ladd hx hb dX10_reads_52 ?_
        refine lv_ldc2 (v := (48 : Int64)) hx hb hown (Fx0.T tw_7_88) dX10_reads_53 ?_
        refine lv_lsub hx hb dX10_reads_56 ?_
        refine va_mmin_long hx hb (hml.trans hl.1.symm) hown (Fx0.T tw_7_92) (Fx0.T tw_7_93) (Fx0.T tw_1_14) (Fx0.T tw_7_94) (Nat.le_of_ble_eq_true rfl) (Nat.le_of_ble_eq_true rfl) (Nat.le_refl _) (Nat.le_refl _) dX10_reads_57 ?_
        obtain ⟨v17, ev17, hD⟩ := bnd_el hD
        refine lv_nml ev17 ?_
        refine lv_lstore_n (lv' := [(3, .long v17), (0, .ref (adx 0)), (1, .int x1), (2, .int x2)]) hx hb dX10_reads_60 rfl hl (by decide) rfl (fun ls hl => ?_)
        refine lv_aload_n hx hb dX10_reads_61 rfl (lv_at hl 1 rfl) ?_
        refine lv_dup hx hb dX10_reads_62 rfl ?_
        refine rg  hx hb hT hu10 hown hK hP hLx 0 9 (Nat.le_of_ble_eq_true rfl) (xs0 _ _) rfl (Nat.le_of_ble_eq_true rfl) (Fx0.T tw_6_224) rfl (v := .int (gi x 0 9)) rfl dX10_reads_63 ?_
        refine lv_iconst (v := (1 : Int32)) hx hb dX10_reads_66 (by decide) ?_
        refine lv_iadd hx hb dX10_reads_67 ?_
        obtain ⟨m18, em18, hD⟩ := bnd_el hD
        refine rp  hx hb hT hu10 tyX10_ok nmX10 hown hK hP (hD1 _ (hAd _ _)) hS hLx 0 9 (Nat.le_of_ble_eq_true rfl) (xs0 _ _) (xs0 _ _) rfl (Nat.le_of_ble_eq_true rfl) (Fx0.T tw_6_224) rfl rfl rfl rfl (Nat.le_of_ble_eq_true rfl) dX10_reads_68 em18 (fun H locs hP hS => ?_)
        refine lv_goto (tgt := 24) hx hb dX10_reads_71 (by decide) ?_
        exact ih _ _ _ _ _ _ _ hD hP hS (lv_sub hl [1, 2, 3, 0] rfl)
  refine lv_aload_n hx hb dX10_reads_0 rfl (lv_at hl 0 rfl) ?_
  obtain ⟨v1, m2, z3, hD⟩ := b2_el hD
  refine rcV  (As := []) (rest := []) Fx0 (c_X10_see l hLx hAd x z3) hP (hD1 _ (hAd _ _)) hS (hA1 _ _ (hAd _ _) hS.1) hLx (Nat.le_of_ble_eq_true rfl) (xs0 _ _) rfl tw_7_56 tw_7_53 tw_7_55 ts_89 tw_1_13 yd_X10_see ⟨(Nat.le_of_ble_eq_true rfl), (Nat.le_of_ble_eq_true rfl)⟩ rfl hl.1 rfl (Nat.le_of_ble_eq_true rfl) dX10_reads_1 (fun H locs hP hS => ?_)
  refine lv_pop hx hb dX10_reads_4 rfl ?_
  refine lv_aload_n hx hb dX10_reads_5 rfl (lv_at hl 0 rfl) ?_
  refine lv_aload_n hx hb dX10_reads_6 rfl (lv_at hl 0 rfl) ?_
  refine rg  hx hb hT hu10 hown hK hP hLx 0 9 (Nat.le_of_ble_eq_true rfl) (xs0 _ _) rfl (Nat.le_of_ble_eq_true rfl) (Fx0.T tw_6_224) rfl (v := .int (gi m2 0 9)) rfl dX10_reads_7 ?_
  obtain ⟨v4, z5, hD⟩ := b1_el hD
  refine rcV  (As := [.int (gi m2 0 9)]) (rest := []) Fx0 (c_X10_isDigit l hLx hAd m2 (gi m2 0 9) z5) hP (hD1 _ (hAd _ _)) hS (hA1 _ _ (hAd _ _) hS.1) hLx (Nat.le_of_ble_eq_true rfl) (xs0 _ _) rfl tw_7_87 tw_7_84 tw_7_86 ts_95 tw_1_13 yd_X10_isDigit ⟨(Nat.le_of_ble_eq_true rfl), (Nat.le_of_ble_eq_true rfl)⟩ rfl hl.1 rfl (Nat.le_of_ble_eq_true rfl) dX10_reads_10 (fun H locs hP hS => ?_)
  refine lv_if_ne (tgt := 22) hx hb dX10_reads_13 (by decide) (fun c => ?_) (fun c => ?_)
  · have hD := ifn hD c
    refine lv_lconst (v := (0 : Int64)) hx hb dX10_reads_22 (by decide) ?_
    refine lv_lstore_n (lv' := [(3, .long (0 : Int64)), (0, .ref (adx 0)), (1, .int x1), (2, .int x2)]) hx hb dX10_reads_23 rfl hl (by decide) rfl (fun ls hl => ?_)
    exact c_24 FU _ _ _ _ _ _ _ hD hP hS (lv_sub hl [1, 2, 3, 0] rfl)
  · have hD := ifp hD c
    refine lv_aload_n hx hb dX10_reads_16 rfl (lv_at hl 0 rfl) ?_
    refine lv_iconst (v := (1 : Int32)) hx hb dX10_reads_17 (by decide) ?_
    obtain ⟨v19, m20, z21, hD⟩ := b2_el hD
    refine rcV  (As := [.int (1 : Int32)]) (rest := []) Fx0 (c_X10_fails l hLx hAd m2 (1 : Int32) z21) hP (hD1 _ (hAd _ _)) hS (hA1 _ _ (hAd _ _) hS.1) hLx (Nat.le_of_ble_eq_true rfl) (xs0 _ _) rfl tw_7_75 tw_7_72 tw_7_74 ts_92 tw_1_13 yd_X10_fails ⟨(Nat.le_of_ble_eq_true rfl), (Nat.le_of_ble_eq_true rfl)⟩ rfl hl.1 rfl (Nat.le_of_ble_eq_true rfl) dX10_reads_18 (fun H locs hP hS => ?_)
    obtain ⟨h22, hD⟩ := gb_el hD
    obtain ⟨rfl, rfl⟩ := es2 hD
    exact hret _ _ _ hP hS (fun Qc hq => W.zret hx hb hr (nbz h22).1 hq hS.2.2 dX10_reads_21 hlocks)

noncomputable def D_X10_readsInto (x1 : Int32) (x2 : Int32) (x3 : Int32) (x : MM) : Option (Int32 × MM) := b2 (D_X10_reads x2 x3 x) (fun v1 m2 => if v1 = 0 then (some ((0 : Int32), m2)) else (if x1 < 0 ∨ 640 ≤ x1.toNatClampNeg then none else (bnd (si m2 3 x1.toNatClampNeg (gi m2 0 14)) (fun m5 => some ((1 : Int32), m5)))))
set_option maxHeartbeats 4000000 in
set_option maxRecDepth 100000 in
theorem c_X10_readsInto (l : Launch) {D : va_G} {cs : Nat → ClassId} {adx : Nat → Nat} {Wf : MM → va_W} (hLx : Ln 9 adx (xsh cs adx) Wf) (hAd : ∀ a0_ b0_ : MM, (Wf a0_).map (fun q => q.1) = (Wf b0_).map (fun q => q.1)) (x : MM) (x1 : Int32) (x2 : Int32) (x3 : Int32) {rr : Int32} {x' : MM} (hD : D_X10_readsInto x1 x2 x3 x = some (rr, x')) : Ct l yX10_readsInto cX10_readsInto 4 (some .boolean) 3 70 D cs [.ref (adx 0), .int x1, .int x2, .int x3] (Wf x) (Wf x') (some (.int rr)) := by
  refine Ct.ofW (by decide) (Nat.le_of_ble_eq_true rfl) (hAd _ _) ?_
  intro p e s m0 below meth c A Q ls args hx hb hr hml hlocks hown hts hK hP hD1 hSS hS hA1 hl hret
  have hT : ∀ w ∈ TBL, w.before args s = true := fun w h => hts w (List.mem_cons_of_mem _ h)
  have Fx0 : Fx p l m0 c cX10_readsInto 4 s args yX10_readsInto cX10_readsInto 4 (some .boolean) D cs A := ⟨hx, hb, hml, hown, hts, hK, hSS⟩
  have hown : s.vm.findClass RX10 = some m0.cls := hown
  have hl : lv_has ls 4 [(0, .ref (adx 0)), (1, .int x1), (2, .int x2), (3, .int x3)] := hl
  unfold D_X10_readsInto at hD
  refine lv_aload_n hx hb dX10_readsInto_0 rfl (lv_at hl 0 rfl) ?_
  refine lv_iload_n hx hb dX10_readsInto_1 rfl (lv_at hl 2 rfl) ?_
  refine lv_iload_n hx hb dX10_readsInto_2 rfl (lv_at hl 3 rfl) ?_
  obtain ⟨v1, m2, z3, hD⟩ := b2_el hD
  refine rcV  (As := [.int x2, .int x3]) (rest := []) Fx0 (c_X10_reads l hLx hAd x x2 x3 z3) hP (hD1 _ (hAd _ _)) hS (hA1 _ _ (hAd _ _) hS.1) hLx (Nat.le_of_ble_eq_true rfl) (xs0 _ _) rfl tw_7_83 tw_7_80 tw_7_82 ts_94 tw_1_13 yd_X10_reads ⟨(Nat.le_of_ble_eq_true rfl), (Nat.le_of_ble_eq_true rfl)⟩ rfl hl.1 rfl (Nat.le_of_ble_eq_true rfl) dX10_readsInto_3 (fun H locs hP hS => ?_)
  refine lv_if_ne (tgt := 11) hx hb dX10_readsInto_6 (by decide) (fun c => ?_) (fun c => ?_)
  · have hD := ifn hD c
    refine lv_aload_n hx hb dX10_readsInto_11 rfl (lv_at hl 0 rfl) ?_
    refine rg  hx hb hT hu10 hown hK hP hLx 0 2 (Nat.le_of_ble_eq_true rfl) (xs0 _ _) rfl (Nat.le_of_ble_eq_true rfl) (Fx0.T tw_6_217) rfl (v := .ref (adx 3)) rfl dX10_readsInto_12 ?_
    refine lv_iload_n hx hb dX10_readsInto_15 rfl (lv_at hl 1 rfl) ?_
    refine lv_aload_n hx hb dX10_readsInto_16 rfl (lv_at hl 0 rfl) ?_
    refine rg  hx hb hT hu10 hown hK hP hLx 0 14 (Nat.le_of_ble_eq_true rfl) (xs0 _ _) rfl (Nat.le_of_ble_eq_true rfl) (Fx0.T tw_6_229) rfl (v := .int (gi m2 0 14)) rfl dX10_readsInto_17 ?_
    obtain ⟨h4, hD⟩ := gd_el hD
    obtain ⟨m5, em5, hD⟩ := bnd_el hD
    refine riast  hx hb hK hP (hD1 _ (hAd _ _)) hS hLx 3 (Nat.le_of_ble_eq_true rfl) (fun _ => xs3 _ _) h4 rfl dX10_readsInto_20 em5 (fun H locs hP hS => ?_)
    refine lv_iconst (v := (1 : Int32)) hx hb dX10_readsInto_21 (by decide) ?_
    obtain ⟨rfl, rfl⟩ := es2 hD
    exact hret _ _ _ hP hS (fun Qc hq => W.zret hx hb hr rfl hq hS.2.2 dX10_readsInto_22 hlocks)
  · have hD := ifp hD c
    refine lv_iconst (v := (0 : Int32)) hx hb dX10_readsInto_9 (by decide) ?_
    obtain ⟨rfl, rfl⟩ := es2 hD
    exact hret _ _ _ hP hS (fun Qc hq => W.zret hx hb hr rfl hq hS.2.2 dX10_readsInto_10 hlocks)

noncomputable def D_X10_readTimes_4 : Nat → Int32 → Int32 → MM → Option (Int32 × MM)
  | 0, _, _, _ => none
  | n + 1, x1, x2, x => if (4 : Int32) < x2 then (if x1 = 0 ∨ x1 = 1 then some (x1, x) else none) else (if x1 = 0 then (bnd (x2 + (1 : Int32)) (fun v2 => D_X10_readTimes_4 n (0 : Int32) v2 x)) else (b2 (D_X10_readsInto x2 (0 : Int32) (200 : Int32) x) (fun v3 m4 => if v3 = 0 then (bnd (x2 + (1 : Int32)) (fun v6 => D_X10_readTimes_4 n (0 : Int32) v6 m4)) else (bnd (x2 + (1 : Int32)) (fun v7 => D_X10_readTimes_4 n (1 : Int32) v7 m4)))))
noncomputable def D_X10_readTimes (x : MM) : Option (Int32 × MM) := D_X10_readTimes_4 FU (1 : Int32) (1 : Int32) x
set_option maxHeartbeats 4000000 in
set_option maxRecDepth 100000 in
theorem c_X10_readTimes (l : Launch) {D : va_G} {cs : Nat → ClassId} {adx : Nat → Nat} {Wf : MM → va_W} (hLx : Ln 9 adx (xsh cs adx) Wf) (hAd : ∀ a0_ b0_ : MM, (Wf a0_).map (fun q => q.1) = (Wf b0_).map (fun q => q.1)) (x : MM) {rr : Int32} {x' : MM} (hD : D_X10_readTimes x = some (rr, x')) : Ct l yX10_readTimes cX10_readTimes 3 (some .boolean) 4 93 D cs [.ref (adx 0)] (Wf x) (Wf x') (some (.int rr)) := by
  refine Ct.ofW (by decide) (Nat.le_of_ble_eq_true rfl) (hAd _ _) ?_
  intro p e s m0 below meth c A Q ls args hx hb hr hml hlocks hown hts hK hP hD1 hSS hS hA1 hl hret
  have hT : ∀ w ∈ TBL, w.before args s = true := fun w h => hts w (List.mem_cons_of_mem _ h)
  have Fx0 : Fx p l m0 c cX10_readTimes 3 s args yX10_readTimes cX10_readTimes 3 (some .boolean) D cs A := ⟨hx, hb, hml, hown, hts, hK, hSS⟩
  have hown : s.vm.findClass RX10 = some m0.cls := hown
  have hl : lv_has ls 3 [(0, .ref (adx 0))] := hl
  unfold D_X10_readTimes at hD
  have c_4 : ∀ (n : Nat), ∀ (x1 : Int32) (x2 : Int32) (x : MM) (H : Heap) (locs : List Loc) (ls : Array Slot), D_X10_readTimes_4 n x1 x2 x = some (rr, x') → va_P D vwCl (Wf x) H → va_S A s.heap H locs → lv_has ls 3 [(0, .ref (adx 0)), (1, .int x1), (2, .int x2)] → W p l e ({ frames := 4, cells := 0, slots := 0, locals := 93 } : Room) s m0 args below meth c H locs 0 0 Q (F0 m0 4 ls []) := by
    intro n
    induction n with
    | zero =>
      intro x1 x2 x H locs ls hD hP hS hl
      exact nn_el hD
    | succ n ih =>
      intro x1 x2 x H locs ls hD hP hS hl
      rw [D_X10_readTimes_4] at hD
      refine lv_iload_n hx hb dX10_readTimes_4 rfl (lv_at hl 2 rfl) ?_
      refine lv_iconst (v := (4 : Int32)) hx hb dX10_readTimes_5 (by decide) ?_
      refine lv_icmp_gt (tgt := 37) hx hb dX10_readTimes_6 (by decide) (fun c => ?_) (fun c => ?_)
      · have hD := ifp hD c
        refine lv_iload_n hx hb dX10_readTimes_37 rfl (lv_at hl 1 rfl) ?_
        obtain ⟨h1, hD⟩ := gb_el hD
        obtain ⟨rfl, rfl⟩ := es2 hD
        exact hret _ _ _ hP hS (fun Qc hq => W.zret hx hb hr (nbz h1).1 hq hS.2.2 dX10_readTimes_38 hlocks)
      · have hD := ifn hD c
        refine lv_iload_n hx hb dX10_readTimes_9 rfl (lv_at hl 1 rfl) ?_
        refine lv_if_eq (tgt := 29) hx hb dX10_readTimes_10 (by decide) (fun c => ?_) (fun c => ?_)
        · have hD := ifp hD c
          refine lv_iconst (v := (0 : Int32)) hx hb dX10_readTimes_29 (by decide) ?_
          refine lv_istore_n (lv' := [(1, .int (0 : Int32)), (0, .ref (adx 0)), (2, .int x2)]) hx hb dX10_readTimes_30 rfl hl (by decide) rfl (fun ls hl => ?_)
          obtain ⟨v2, ev2, hD⟩ := bnd_el hD
          refine lv_iinc (v := v2) (lv' := [(2, .int v2), (1, .int (0 : Int32)), (0, .ref (adx 0))]) hx hb dX10_readTimes_31 hl (k := 2) rfl (by rw [ev2]; rfl) (by decide) rfl (fun ls hl => ?_)
          refine lv_goto (tgt := 4) hx hb dX10_readTimes_34 (by decide) ?_
          exact ih _ _ _ _ _ _ hD hP hS (lv_sub hl [2, 1, 0] rfl)
        · have hD := ifn hD c
          refine lv_aload_n hx hb dX10_readTimes_13 rfl (lv_at hl 0 rfl) ?_
          refine lv_iload_n hx hb dX10_readTimes_14 rfl (lv_at hl 2 rfl) ?_
          refine lv_iconst (v := (0 : Int32)) hx hb dX10_readTimes_15 (by decide) ?_
          refine lv_sipush (v := (200 : Int32)) hx hb dX10_readTimes_16 (by decide) ?_
          obtain ⟨v3, m4, z5, hD⟩ := b2_el hD
          refine rcV  (As := [.int x2, .int (0 : Int32), .int (200 : Int32)]) (rest := []) Fx0 (c_X10_readsInto l hLx hAd x x2 (0 : Int32) (200 : Int32) z5) hP (hD1 _ (hAd _ _)) hS (hA1 _ _ (hAd _ _) hS.1) hLx (Nat.le_of_ble_eq_true rfl) (xs0 _ _) rfl tw_7_79 tw_7_76 tw_7_78 ts_93 tw_1_13 yd_X10_readsInto ⟨(Nat.le_of_ble_eq_true rfl), (Nat.le_of_ble_eq_true rfl)⟩ rfl hl.1 rfl (Nat.le_of_ble_eq_true rfl) dX10_readTimes_19 (fun H locs hP hS => ?_)
          refine lv_if_eq (tgt := 29) hx hb dX10_readTimes_22 (by decide) (fun c => ?_) (fun c => ?_)
          · have hD := ifp hD c
            refine lv_iconst (v := (0 : Int32)) hx hb dX10_readTimes_29 (by decide) ?_
            refine lv_istore_n (lv' := [(1, .int (0 : Int32)), (0, .ref (adx 0)), (2, .int x2)]) hx hb dX10_readTimes_30 rfl hl (by decide) rfl (fun ls hl => ?_)
            obtain ⟨v6, ev6, hD⟩ := bnd_el hD
            refine lv_iinc (v := v6) (lv' := [(2, .int v6), (1, .int (0 : Int32)), (0, .ref (adx 0))]) hx hb dX10_readTimes_31 hl (k := 2) rfl (by rw [ev6]; rfl) (by decide) rfl (fun ls hl => ?_)
            refine lv_goto (tgt := 4) hx hb dX10_readTimes_34 (by decide) ?_
            exact ih _ _ _ _ _ _ hD hP hS (lv_sub hl [2, 1, 0] rfl)
          · have hD := ifn hD c
            refine lv_iconst (v := (1 : Int32)) hx hb dX10_readTimes_25 (by decide) ?_
            refine lv_goto (tgt := 30) hx hb dX10_readTimes_26 (by decide) ?_
            refine lv_istore_n (lv' := [(1, .int (1 : Int32)), (0, .ref (adx 0)), (2, .int x2)]) hx hb dX10_readTimes_30 rfl hl (by decide) rfl (fun ls hl => ?_)
            obtain ⟨v7, ev7, hD⟩ := bnd_el hD
            refine lv_iinc (v := v7) (lv' := [(2, .int v7), (1, .int (1 : Int32)), (0, .ref (adx 0))]) hx hb dX10_readTimes_31 hl (k := 2) rfl (by rw [ev7]; rfl) (by decide) rfl (fun ls hl => ?_)
            refine lv_goto (tgt := 4) hx hb dX10_readTimes_34 (by decide) ?_
            exact ih _ _ _ _ _ _ hD hP hS (lv_sub hl [2, 1, 0] rfl)
  refine lv_iconst (v := (1 : Int32)) hx hb dX10_readTimes_0 (by decide) ?_
  refine lv_istore_n (lv' := [(1, .int (1 : Int32)), (0, .ref (adx 0))]) hx hb dX10_readTimes_1 rfl hl (by decide) rfl (fun ls hl => ?_)
  refine lv_iconst (v := (1 : Int32)) hx hb dX10_readTimes_2 (by decide) ?_
  refine lv_istore_n (lv' := [(2, .int (1 : Int32)), (1, .int (1 : Int32)), (0, .ref (adx 0))]) hx hb dX10_readTimes_3 rfl hl (by decide) rfl (fun ls hl => ?_)
  exact c_4 FU _ _ _ _ _ _ hD hP hS (lv_sub hl [2, 1, 0] rfl)

noncomputable def D_X10_readNozzles_40 (k2 : Int32 → MM → Option (Int32 × MM)) (x : MM) : Option (Int32 × MM) := b2 (D_X10_readsInto ((44 : Int32) + (gi x 3 16)) (1 : Int32) (4 : Int32) x) (fun v4 m5 => if v4 = 0 then (some ((0 : Int32), m5)) else (bnd (si m5 3 16 ((gi m5 3 16) + (1 : Int32))) (fun m7 => b2 (D_X10_see m7) (fun v8 m9 => b1 (D_X10_isDigit (gi m9 0 9) m9) (fun v11 => k2 v11 m9)))))
noncomputable def D_X10_readNozzles_2 : Nat → Int32 → MM → Option (Int32 × MM)
  | 0, _, _ => none
  | n + 1, x1, x => if x1 = 0 then (some ((1 : Int32), x)) else (b2 (D_X10_see x) (fun v1 m2 => if (gi m2 3 16) = (6 : Int32) then (b1 (D_X10_isDigit (gi m2 0 9) m2) (fun v13 => if v13 = 0 then (D_X10_readNozzles_40 (D_X10_readNozzles_2 n) m2) else (b2 (D_X10_fails (3 : Int32) m2) (fun v15 m16 => if v15 = 0 ∨ v15 = 1 then some (v15, m16) else none)))) else (D_X10_readNozzles_40 (D_X10_readNozzles_2 n) m2)))
noncomputable def D_X10_readNozzles (x : MM) : Option (Int32 × MM) := D_X10_readNozzles_2 FU (1 : Int32) x
set_option maxHeartbeats 4000000 in
set_option maxRecDepth 100000 in
theorem c_X10_readNozzles (l : Launch) {D : va_G} {cs : Nat → ClassId} {adx : Nat → Nat} {Wf : MM → va_W} (hLx : Ln 9 adx (xsh cs adx) Wf) (hAd : ∀ a0_ b0_ : MM, (Wf a0_).map (fun q => q.1) = (Wf b0_).map (fun q => q.1)) (x : MM) {rr : Int32} {x' : MM} (hD : D_X10_readNozzles x = some (rr, x')) : Ct l yX10_readNozzles cX10_readNozzles 2 (some .boolean) 4 93 D cs [.ref (adx 0)] (Wf x) (Wf x') (some (.int rr)) := by
  refine Ct.ofW (by decide) (Nat.le_of_ble_eq_true rfl) (hAd _ _) ?_
  intro p e s m0 below meth c A Q ls args hx hb hr hml hlocks hown hts hK hP hD1 hSS hS hA1 hl hret
  have hT : ∀ w ∈ TBL, w.before args s = true := fun w h => hts w (List.mem_cons_of_mem _ h)
  have Fx0 : Fx p l m0 c cX10_readNozzles 2 s args yX10_readNozzles cX10_readNozzles 2 (some .boolean) D cs A := ⟨hx, hb, hml, hown, hts, hK, hSS⟩
  have hown : s.vm.findClass RX10 = some m0.cls := hown
  have hl : lv_has ls 2 [(0, .ref (adx 0))] := hl
  unfold D_X10_readNozzles at hD
  have c_40 : ∀ (k2 : Int32 → MM → Option (Int32 × MM)) (hk2 : ∀ (x1 : Int32) (x : MM) (H : Heap) (locs : List Loc) (ls : Array Slot), k2 x1 x = some (rr, x') → va_P D vwCl (Wf x) H → va_S A s.heap H locs → lv_has ls 2 [(0, .ref (adx 0)), (1, .int x1)] → W p l e ({ frames := 4, cells := 0, slots := 0, locals := 93 } : Room) s m0 args below meth c H locs 0 0 Q (F0 m0 2 ls [])), ∀ (x : MM) (H : Heap) (locs : List Loc) (ls : Array Slot), D_X10_readNozzles_40 k2 x = some (rr, x') → va_P D vwCl (Wf x) H → va_S A s.heap H locs → lv_has ls 2 [(0, .ref (adx 0))] → W p l e ({ frames := 4, cells := 0, slots := 0, locals := 93 } : Room) s m0 args below meth c H locs 0 0 Q (F0 m0 40 ls []) := by
    intro k2 hk2 x H locs ls hD hP hS hl
    unfold D_X10_readNozzles_40 at hD
    refine lv_aload_n hx hb dX10_readNozzles_40 rfl (lv_at hl 0 rfl) ?_
    refine lv_bipush (v := (44 : Int32)) hx hb dX10_readNozzles_41 (by decide) ?_
    refine lv_aload_n hx hb dX10_readNozzles_43 rfl (lv_at hl 0 rfl) ?_
    refine rg  hx hb hT hu10 hown hK hP hLx 0 2 (Nat.le_of_ble_eq_true rfl) (xs0 _ _) rfl (Nat.le_of_ble_eq_true rfl) (Fx0.T tw_6_217) rfl (v := .ref (adx 3)) rfl dX10_readNozzles_44 ?_
    refine lv_bipush (v := (16 : Int32)) hx hb dX10_readNozzles_47 (by decide) ?_
    refine riald  hx hb hK hP hLx 3 (Nat.le_of_ble_eq_true rfl) (xs3 _ _) (by decide) (j := 16) (by decide) dX10_readNozzles_49 ?_
    refine lv_iadd hx hb dX10_readNozzles_50 ?_
    refine lv_iconst (v := (1 : Int32)) hx hb dX10_readNozzles_51 (by decide) ?_
    refine lv_iconst (v := (4 : Int32)) hx hb dX10_readNozzles_52 (by decide) ?_
    obtain ⟨v4, m5, z6, hD⟩ := b2_el hD
    refine rcV  (As := [.int ((44 : Int32) + (gi x 3 16)), .int (1 : Int32), .int (4 : Int32)]) (rest := []) Fx0 (c_X10_readsInto l hLx hAd x ((44 : Int32) + (gi x 3 16)) (1 : Int32) (4 : Int32) z6) hP (hD1 _ (hAd _ _)) hS (hA1 _ _ (hAd _ _) hS.1) hLx (Nat.le_of_ble_eq_true rfl) (xs0 _ _) rfl tw_7_79 tw_7_76 tw_7_78 ts_93 tw_1_13 yd_X10_readsInto ⟨(Nat.le_of_ble_eq_true rfl), (Nat.le_of_ble_eq_true rfl)⟩ rfl hl.1 rfl (Nat.le_of_ble_eq_true rfl) dX10_readNozzles_53 (fun H locs hP hS => ?_)
    refine lv_if_ne (tgt := 61) hx hb dX10_readNozzles_56 (by decide) (fun c => ?_) (fun c => ?_)
    · have hD := ifn hD c
      refine lv_aload_n hx hb dX10_readNozzles_61 rfl (lv_at hl 0 rfl) ?_
      refine rg  hx hb hT hu10 hown hK hP hLx 0 2 (Nat.le_of_ble_eq_true rfl) (xs0 _ _) rfl (Nat.le_of_ble_eq_true rfl) (Fx0.T tw_6_217) rfl (v := .ref (adx 3)) rfl dX10_readNozzles_62 ?_
      refine lv_bipush (v := (16 : Int32)) hx hb dX10_readNozzles_65 (by decide) ?_
      refine lv_dup2_11 hx hb dX10_readNozzles_67 rfl rfl ?_
      refine riald  hx hb hK hP hLx 3 (Nat.le_of_ble_eq_true rfl) (xs3 _ _) (by decide) (j := 16) (by decide) dX10_readNozzles_68 ?_
      refine lv_iconst (v := (1 : Int32)) hx hb dX10_readNozzles_69 (by decide) ?_
      refine lv_iadd hx hb dX10_readNozzles_70 ?_
      obtain ⟨m7, em7, hD⟩ := bnd_el hD
      refine riast  hx hb hK hP (hD1 _ (hAd _ _)) hS hLx 3 (Nat.le_of_ble_eq_true rfl) (fun _ => xs3 _ _) (by decide) (j := 16) (by decide) dX10_readNozzles_71 em7 (fun H locs hP hS => ?_)
      refine lv_aload_n hx hb dX10_readNozzles_72 rfl (lv_at hl 0 rfl) ?_
      obtain ⟨v8, m9, z10, hD⟩ := b2_el hD
      refine rcV  (As := []) (rest := []) Fx0 (c_X10_see l hLx hAd m7 z10) hP (hD1 _ (hAd _ _)) hS (hA1 _ _ (hAd _ _) hS.1) hLx (Nat.le_of_ble_eq_true rfl) (xs0 _ _) rfl tw_7_56 tw_7_53 tw_7_55 ts_89 tw_1_13 yd_X10_see ⟨(Nat.le_of_ble_eq_true rfl), (Nat.le_of_ble_eq_true rfl)⟩ rfl hl.1 rfl (Nat.le_of_ble_eq_true rfl) dX10_readNozzles_73 (fun H locs hP hS => ?_)
      refine lv_pop hx hb dX10_readNozzles_76 rfl ?_
      refine lv_aload_n hx hb dX10_readNozzles_77 rfl (lv_at hl 0 rfl) ?_
      refine lv_aload_n hx hb dX10_readNozzles_78 rfl (lv_at hl 0 rfl) ?_
      refine rg  hx hb hT hu10 hown hK hP hLx 0 9 (Nat.le_of_ble_eq_true rfl) (xs0 _ _) rfl (Nat.le_of_ble_eq_true rfl) (Fx0.T tw_6_224) rfl (v := .int (gi m9 0 9)) rfl dX10_readNozzles_79 ?_
      obtain ⟨v11, z12, hD⟩ := b1_el hD
      refine rcV  (As := [.int (gi m9 0 9)]) (rest := []) Fx0 (c_X10_isDigit l hLx hAd m9 (gi m9 0 9) z12) hP (hD1 _ (hAd _ _)) hS (hA1 _ _ (hAd _ _) hS.1) hLx (Nat.le_of_ble_eq_true rfl) (xs0 _ _) rfl tw_7_87 tw_7_84 tw_7_86 ts_95 tw_1_13 yd_X10_isDigit ⟨(Nat.le_of_ble_eq_true rfl), (Nat.le_of_ble_eq_true rfl)⟩ rfl hl.1 rfl (Nat.le_of_ble_eq_true rfl) dX10_readNozzles_82 (fun H locs hP hS => ?_)
      refine lv_istore_n (lv' := [(1, .int v11), (0, .ref (adx 0))]) hx hb dX10_readNozzles_85 rfl hl (by decide) rfl (fun ls hl => ?_)
      refine lv_goto (tgt := 2) hx hb dX10_readNozzles_86 (by decide) ?_
      exact hk2 _ _ _ _ _ hD hP hS (lv_sub hl [1, 0] rfl)
    · have hD := ifp hD c
      refine lv_iconst (v := (0 : Int32)) hx hb dX10_readNozzles_59 (by decide) ?_
      obtain ⟨rfl, rfl⟩ := es2 hD
      exact hret _ _ _ hP hS (fun Qc hq => W.zret hx hb hr rfl hq hS.2.2 dX10_readNozzles_60 hlocks)
  have c_2 : ∀ (n : Nat), ∀ (x1 : Int32) (x : MM) (H : Heap) (locs : List Loc) (ls : Array Slot), D_X10_readNozzles_2 n x1 x = some (rr, x') → va_P D vwCl (Wf x) H → va_S A s.heap H locs → lv_has ls 2 [(0, .ref (adx 0)), (1, .int x1)] → W p l e ({ frames := 4, cells := 0, slots := 0, locals := 93 } : Room) s m0 args below meth c H locs 0 0 Q (F0 m0 2 ls []) := by
    intro n
    induction n with
    | zero =>
      intro x1 x H locs ls hD hP hS hl
      exact nn_el hD
    | succ n ih =>
      intro x1 x H locs ls hD hP hS hl
      rw [D_X10_readNozzles_2] at hD
      refine lv_iload_n hx hb dX10_readNozzles_2 rfl (lv_at hl 1 rfl) ?_
      refine lv_if_eq (tgt := 89) hx hb dX10_readNozzles_3 (by decide) (fun c => ?_) (fun c => ?_)
      · have hD := ifp hD c
        refine lv_iconst (v := (1 : Int32)) hx hb dX10_readNozzles_89 (by decide) ?_
        obtain ⟨rfl, rfl⟩ := es2 hD
        exact hret _ _ _ hP hS (fun Qc hq => W.zret hx hb hr rfl hq hS.2.2 dX10_readNozzles_90 hlocks)
      · have hD := ifn hD c
        refine lv_aload_n hx hb dX10_readNozzles_6 rfl (lv_at hl 0 rfl) ?_
        obtain ⟨v1, m2, z3, hD⟩ := b2_el hD
        refine rcV  (As := []) (rest := []) Fx0 (c_X10_see l hLx hAd x z3) hP (hD1 _ (hAd _ _)) hS (hA1 _ _ (hAd _ _) hS.1) hLx (Nat.le_of_ble_eq_true rfl) (xs0 _ _) rfl tw_7_56 tw_7_53 tw_7_55 ts_89 tw_1_13 yd_X10_see ⟨(Nat.le_of_ble_eq_true rfl), (Nat.le_of_ble_eq_true rfl)⟩ rfl hl.1 rfl (Nat.le_of_ble_eq_true rfl) dX10_readNozzles_7 (fun H locs hP hS => ?_)
        refine lv_pop hx hb dX10_readNozzles_10 rfl ?_
        refine lv_aload_n hx hb dX10_readNozzles_11 rfl (lv_at hl 0 rfl) ?_
        refine rg  hx hb hT hu10 hown hK hP hLx 0 2 (Nat.le_of_ble_eq_true rfl) (xs0 _ _) rfl (Nat.le_of_ble_eq_true rfl) (Fx0.T tw_6_217) rfl (v := .ref (adx 3)) rfl dX10_readNozzles_12 ?_
        refine lv_bipush (v := (16 : Int32)) hx hb dX10_readNozzles_15 (by decide) ?_
        refine riald  hx hb hK hP hLx 3 (Nat.le_of_ble_eq_true rfl) (xs3 _ _) (by decide) (j := 16) (by decide) dX10_readNozzles_17 ?_
        refine lv_bipush (v := (6 : Int32)) hx hb dX10_readNozzles_18 (by decide) ?_
        refine lv_icmp_ne (tgt := 40) hx hb dX10_readNozzles_20 (by decide) (fun c => ?_) (fun c => ?_)
        · have hD := ifn hD c
          exact c_40 _ ih _ _ _ _ hD hP hS (lv_sub hl [0] rfl)
        · have hD := ifp hD c
          refine lv_aload_n hx hb dX10_readNozzles_23 rfl (lv_at hl 0 rfl) ?_
          refine lv_aload_n hx hb dX10_readNozzles_24 rfl (lv_at hl 0 rfl) ?_
          refine rg  hx hb hT hu10 hown hK hP hLx 0 9 (Nat.le_of_ble_eq_true rfl) (xs0 _ _) rfl (Nat.le_of_ble_eq_true rfl) (Fx0.T tw_6_224) rfl (v := .int (gi m2 0 9)) rfl dX10_readNozzles_25 ?_
          obtain ⟨v13, z14, hD⟩ := b1_el hD
          refine rcV  (As := [.int (gi m2 0 9)]) (rest := []) Fx0 (c_X10_isDigit l hLx hAd m2 (gi m2 0 9) z14) hP (hD1 _ (hAd _ _)) hS (hA1 _ _ (hAd _ _) hS.1) hLx (Nat.le_of_ble_eq_true rfl) (xs0 _ _) rfl tw_7_87 tw_7_84 tw_7_86 ts_95 tw_1_13 yd_X10_isDigit ⟨(Nat.le_of_ble_eq_true rfl), (Nat.le_of_ble_eq_true rfl)⟩ rfl hl.1 rfl (Nat.le_of_ble_eq_true rfl) dX10_readNozzles_28 (fun H locs hP hS => ?_)
          refine lv_if_eq (tgt := 40) hx hb dX10_readNozzles_31 (by decide) (fun c => ?_) (fun c => ?_)
          · have hD := ifp hD c
            exact c_40 _ ih _ _ _ _ hD hP hS (lv_sub hl [0] rfl)
          · have hD := ifn hD c
            refine lv_aload_n hx hb dX10_readNozzles_34 rfl (lv_at hl 0 rfl) ?_
            refine lv_iconst (v := (3 : Int32)) hx hb dX10_readNozzles_35 (by decide) ?_
            obtain ⟨v15, m16, z17, hD⟩ := b2_el hD
            refine rcV  (As := [.int (3 : Int32)]) (rest := []) Fx0 (c_X10_fails l hLx hAd m2 (3 : Int32) z17) hP (hD1 _ (hAd _ _)) hS (hA1 _ _ (hAd _ _) hS.1) hLx (Nat.le_of_ble_eq_true rfl) (xs0 _ _) rfl tw_7_75 tw_7_72 tw_7_74 ts_92 tw_1_13 yd_X10_fails ⟨(Nat.le_of_ble_eq_true rfl), (Nat.le_of_ble_eq_true rfl)⟩ rfl hl.1 rfl (Nat.le_of_ble_eq_true rfl) dX10_readNozzles_36 (fun H locs hP hS => ?_)
            obtain ⟨h18, hD⟩ := gb_el hD
            obtain ⟨rfl, rfl⟩ := es2 hD
            exact hret _ _ _ hP hS (fun Qc hq => W.zret hx hb hr (nbz h18).1 hq hS.2.2 dX10_readNozzles_39 hlocks)
  refine lv_iconst (v := (1 : Int32)) hx hb dX10_readNozzles_0 (by decide) ?_
  refine lv_istore_n (lv' := [(1, .int (1 : Int32)), (0, .ref (adx 0))]) hx hb dX10_readNozzles_1 rfl hl (by decide) rfl (fun ls hl => ?_)
  exact c_2 FU _ _ _ _ _ hD hP hS (lv_sub hl [1, 0] rfl)

noncomputable def D_X10_isRoom (x1 : Int32) (x2 : Int32) (x3 : Int32) (x : MM) : Option (Int32 × MM) := bnd (si x 0 10 x1) (fun m1 => if x2 < 0 ∨ 640 ≤ x2.toNatClampNeg then none else (if (gi m1 3 x2.toNatClampNeg) < x3 then (some ((1 : Int32), m1)) else (b2 (D_X10_fails (3 : Int32) m1) (fun v3 m4 => if v3 = 0 then (some ((0 : Int32), m4)) else (some ((1 : Int32), m4))))))
set_option maxHeartbeats 4000000 in
set_option maxRecDepth 100000 in
theorem c_X10_isRoom (l : Launch) {D : va_G} {cs : Nat → ClassId} {adx : Nat → Nat} {Wf : MM → va_W} (hLx : Ln 9 adx (xsh cs adx) Wf) (hAd : ∀ a0_ b0_ : MM, (Wf a0_).map (fun q => q.1) = (Wf b0_).map (fun q => q.1)) (x : MM) (x1 : Int32) (x2 : Int32) (x3 : Int32) {rr : Int32} {x' : MM} (hD : D_X10_isRoom x1 x2 x3 x = some (rr, x')) : Ct l yX10_isRoom cX10_isRoom 4 (some .boolean) 1 21 D cs [.ref (adx 0), .int x1, .int x2, .int x3] (Wf x) (Wf x') (some (.int rr)) := by
  refine Ct.ofW (by decide) (Nat.le_of_ble_eq_true rfl) (hAd _ _) ?_
  intro p e s m0 below meth c A Q ls args hx hb hr hml hlocks hown hts hK hP hD1 hSS hS hA1 hl hret
  have hT : ∀ w ∈ TBL, w.before args s = true := fun w h => hts w (List.mem_cons_of_mem _ h)
  have Fx0 : Fx p l m0 c cX10_isRoom 4 s args yX10_isRoom cX10_isRoom 4 (some .boolean) D cs A := ⟨hx, hb, hml, hown, hts, hK, hSS⟩
  have hown : s.vm.findClass RX10 = some m0.cls := hown
  have hl : lv_has ls 4 [(0, .ref (adx 0)), (1, .int x1), (2, .int x2), (3, .int x3)] := hl
  unfold D_X10_isRoom at hD
  refine lv_aload_n hx hb dX10_isRoom_0 rfl (lv_at hl 0 rfl) ?_
  refine lv_iload_n hx hb dX10_isRoom_1 rfl (lv_at hl 1 rfl) ?_
  obtain ⟨m1, em1, hD⟩ := bnd_el hD
  refine rp  hx hb hT hu10 tyX10_ok nmX10 hown hK hP (hD1 _ (hAd _ _)) hS hLx 0 10 (Nat.le_of_ble_eq_true rfl) (xs0 _ _) (xs0 _ _) rfl (Nat.le_of_ble_eq_true rfl) (Fx0.T tw_6_225) rfl rfl rfl rfl (Nat.le_of_ble_eq_true rfl) dX10_isRoom_2 em1 (fun H locs hP hS => ?_)
  refine lv_aload_n hx hb dX10_isRoom_5 rfl (lv_at hl 0 rfl) ?_
  refine rg  hx hb hT hu10 hown hK hP hLx 0 2 (Nat.le_of_ble_eq_true rfl) (xs0 _ _) rfl (Nat.le_of_ble_eq_true rfl) (Fx0.T tw_6_217) rfl (v := .ref (adx 3)) rfl dX10_isRoom_6 ?_
  refine lv_iload_n hx hb dX10_isRoom_9 rfl (lv_at hl 2 rfl) ?_
  obtain ⟨h2, hD⟩ := gd_el hD
  refine riald  hx hb hK hP hLx 3 (Nat.le_of_ble_eq_true rfl) (xs3 _ _) h2 rfl dX10_isRoom_10 ?_
  refine lv_iload_n hx hb dX10_isRoom_11 rfl (lv_at hl 3 rfl) ?_
  refine lv_icmp_lt (tgt := 23) hx hb dX10_isRoom_12 (by decide) (fun c => ?_) (fun c => ?_)
  · have hD := ifp hD c
    refine lv_iconst (v := (1 : Int32)) hx hb dX10_isRoom_23 (by decide) ?_
    refine lv_goto (tgt := 28) hx hb dX10_isRoom_24 (by decide) ?_
    obtain ⟨rfl, rfl⟩ := es2 hD
    exact hret _ _ _ hP hS (fun Qc hq => W.zret hx hb hr rfl hq hS.2.2 dX10_isRoom_28 hlocks)
  · have hD := ifn hD c
    refine lv_aload_n hx hb dX10_isRoom_15 rfl (lv_at hl 0 rfl) ?_
    refine lv_iconst (v := (3 : Int32)) hx hb dX10_isRoom_16 (by decide) ?_
    obtain ⟨v3, m4, z5, hD⟩ := b2_el hD
    refine rcV  (As := [.int (3 : Int32)]) (rest := []) Fx0 (c_X10_fails l hLx hAd m1 (3 : Int32) z5) hP (hD1 _ (hAd _ _)) hS (hA1 _ _ (hAd _ _) hS.1) hLx (Nat.le_of_ble_eq_true rfl) (xs0 _ _) rfl tw_7_75 tw_7_72 tw_7_74 ts_92 tw_1_13 yd_X10_fails ⟨(Nat.le_of_ble_eq_true rfl), (Nat.le_of_ble_eq_true rfl)⟩ rfl hl.1 rfl (Nat.le_of_ble_eq_true rfl) dX10_isRoom_17 (fun H locs hP hS => ?_)
    refine lv_if_eq (tgt := 27) hx hb dX10_isRoom_20 (by decide) (fun c => ?_) (fun c => ?_)
    · have hD := ifp hD c
      refine lv_iconst (v := (0 : Int32)) hx hb dX10_isRoom_27 (by decide) ?_
      obtain ⟨rfl, rfl⟩ := es2 hD
      exact hret _ _ _ hP hS (fun Qc hq => W.zret hx hb hr rfl hq hS.2.2 dX10_isRoom_28 hlocks)
    · have hD := ifn hD c
      refine lv_iconst (v := (1 : Int32)) hx hb dX10_isRoom_23 (by decide) ?_
      refine lv_goto (tgt := 28) hx hb dX10_isRoom_24 (by decide) ?_
      obtain ⟨rfl, rfl⟩ := es2 hD
      exact hret _ _ _ hP hS (fun Qc hq => W.zret hx hb hr rfl hq hS.2.2 dX10_isRoom_28 hlocks)

noncomputable def D_X10_readKind (x1 : Int32) (x : MM) : Option (Int32 × MM) := b2 (D_X10_isRoom x1 (17 : Int32) (8 : Int32) x) (fun v1 m2 => if v1 = 0 then (some ((0 : Int32), m2)) else (b2 (D_X10_readsInto ((50 : Int32) + (gi m2 3 17)) (0 : Int32) ((gi m2 3 16) - (1 : Int32)) m2) (fun v4 m5 => if v4 = 0 then (some ((0 : Int32), m5)) else (bnd (si m5 3 17 ((gi m5 3 17) + (1 : Int32))) (fun m7 => some ((1 : Int32), m7))))))
set_option maxHeartbeats 4000000 in
set_option maxRecDepth 100000 in
theorem c_X10_readKind (l : Launch) {D : va_G} {cs : Nat → ClassId} {adx : Nat → Nat} {Wf : MM → va_W} (hLx : Ln 9 adx (xsh cs adx) Wf) (hAd : ∀ a0_ b0_ : MM, (Wf a0_).map (fun q => q.1) = (Wf b0_).map (fun q => q.1)) (x : MM) (x1 : Int32) {rr : Int32} {x' : MM} (hD : D_X10_readKind x1 x = some (rr, x')) : Ct l yX10_readKind cX10_readKind 2 (some .boolean) 4 93 D cs [.ref (adx 0), .int x1] (Wf x) (Wf x') (some (.int rr)) := by
  refine Ct.ofW (by decide) (Nat.le_of_ble_eq_true rfl) (hAd _ _) ?_
  intro p e s m0 below meth c A Q ls args hx hb hr hml hlocks hown hts hK hP hD1 hSS hS hA1 hl hret
  have hT : ∀ w ∈ TBL, w.before args s = true := fun w h => hts w (List.mem_cons_of_mem _ h)
  have Fx0 : Fx p l m0 c cX10_readKind 2 s args yX10_readKind cX10_readKind 2 (some .boolean) D cs A := ⟨hx, hb, hml, hown, hts, hK, hSS⟩
  have hown : s.vm.findClass RX10 = some m0.cls := hown
  have hl : lv_has ls 2 [(0, .ref (adx 0)), (1, .int x1)] := hl
  unfold D_X10_readKind at hD
  refine lv_aload_n hx hb dX10_readKind_0 rfl (lv_at hl 0 rfl) ?_
  refine lv_iload_n hx hb dX10_readKind_1 rfl (lv_at hl 1 rfl) ?_
  refine lv_bipush (v := (17 : Int32)) hx hb dX10_readKind_2 (by decide) ?_
  refine lv_bipush (v := (8 : Int32)) hx hb dX10_readKind_4 (by decide) ?_
  obtain ⟨v1, m2, z3, hD⟩ := b2_el hD
  refine rcV  (As := [.int x1, .int (17 : Int32), .int (8 : Int32)]) (rest := []) Fx0 (c_X10_isRoom l hLx hAd x x1 (17 : Int32) (8 : Int32) z3) hP (hD1 _ (hAd _ _)) hS (hA1 _ _ (hAd _ _) hS.1) hLx (Nat.le_of_ble_eq_true rfl) (xs0 _ _) rfl tw_7_118 tw_7_115 tw_7_117 ts_99 tw_1_13 yd_X10_isRoom ⟨(Nat.le_of_ble_eq_true rfl), (Nat.le_of_ble_eq_true rfl)⟩ rfl hl.1 rfl (Nat.le_of_ble_eq_true rfl) dX10_readKind_6 (fun H locs hP hS => ?_)
  refine lv_if_eq (tgt := 39) hx hb dX10_readKind_9 (by decide) (fun c => ?_) (fun c => ?_)
  · have hD := ifp hD c
    refine lv_iconst (v := (0 : Int32)) hx hb dX10_readKind_39 (by decide) ?_
    obtain ⟨rfl, rfl⟩ := es2 hD
    exact hret _ _ _ hP hS (fun Qc hq => W.zret hx hb hr rfl hq hS.2.2 dX10_readKind_40 hlocks)
  · have hD := ifn hD c
    refine lv_aload_n hx hb dX10_readKind_12 rfl (lv_at hl 0 rfl) ?_
    refine lv_bipush (v := (50 : Int32)) hx hb dX10_readKind_13 (by decide) ?_
    refine lv_aload_n hx hb dX10_readKind_15 rfl (lv_at hl 0 rfl) ?_
    refine rg  hx hb hT hu10 hown hK hP hLx 0 2 (Nat.le_of_ble_eq_true rfl) (xs0 _ _) rfl (Nat.le_of_ble_eq_true rfl) (Fx0.T tw_6_217) rfl (v := .ref (adx 3)) rfl dX10_readKind_16 ?_
    refine lv_bipush (v := (17 : Int32)) hx hb dX10_readKind_19 (by decide) ?_
    refine riald  hx hb hK hP hLx 3 (Nat.le_of_ble_eq_true rfl) (xs3 _ _) (by decide) (j := 17) (by decide) dX10_readKind_21 ?_
    refine lv_iadd hx hb dX10_readKind_22 ?_
    refine lv_iconst (v := (0 : Int32)) hx hb dX10_readKind_23 (by decide) ?_
    refine lv_aload_n hx hb dX10_readKind_24 rfl (lv_at hl 0 rfl) ?_
    refine rg  hx hb hT hu10 hown hK hP hLx 0 2 (Nat.le_of_ble_eq_true rfl) (xs0 _ _) rfl (Nat.le_of_ble_eq_true rfl) (Fx0.T tw_6_217) rfl (v := .ref (adx 3)) rfl dX10_readKind_25 ?_
    refine lv_bipush (v := (16 : Int32)) hx hb dX10_readKind_28 (by decide) ?_
    refine riald  hx hb hK hP hLx 3 (Nat.le_of_ble_eq_true rfl) (xs3 _ _) (by decide) (j := 16) (by decide) dX10_readKind_30 ?_
    refine lv_iconst (v := (1 : Int32)) hx hb dX10_readKind_31 (by decide) ?_
    refine lv_isub hx hb dX10_readKind_32 ?_
    obtain ⟨v4, m5, z6, hD⟩ := b2_el hD
    refine rcV  (As := [.int ((50 : Int32) + (gi m2 3 17)), .int (0 : Int32), .int ((gi m2 3 16) - (1 : Int32))]) (rest := []) Fx0 (c_X10_readsInto l hLx hAd m2 ((50 : Int32) + (gi m2 3 17)) (0 : Int32) ((gi m2 3 16) - (1 : Int32)) z6) hP (hD1 _ (hAd _ _)) hS (hA1 _ _ (hAd _ _) hS.1) hLx (Nat.le_of_ble_eq_true rfl) (xs0 _ _) rfl tw_7_79 tw_7_76 tw_7_78 ts_93 tw_1_13 yd_X10_readsInto ⟨(Nat.le_of_ble_eq_true rfl), (Nat.le_of_ble_eq_true rfl)⟩ rfl hl.1 rfl (Nat.le_of_ble_eq_true rfl) dX10_readKind_33 (fun H locs hP hS => ?_)
    refine lv_if_ne (tgt := 41) hx hb dX10_readKind_36 (by decide) (fun c => ?_) (fun c => ?_)
    · have hD := ifn hD c
      refine lv_aload_n hx hb dX10_readKind_41 rfl (lv_at hl 0 rfl) ?_
      refine rg  hx hb hT hu10 hown hK hP hLx 0 2 (Nat.le_of_ble_eq_true rfl) (xs0 _ _) rfl (Nat.le_of_ble_eq_true rfl) (Fx0.T tw_6_217) rfl (v := .ref (adx 3)) rfl dX10_readKind_42 ?_
      refine lv_bipush (v := (17 : Int32)) hx hb dX10_readKind_45 (by decide) ?_
      refine lv_dup2_11 hx hb dX10_readKind_47 rfl rfl ?_
      refine riald  hx hb hK hP hLx 3 (Nat.le_of_ble_eq_true rfl) (xs3 _ _) (by decide) (j := 17) (by decide) dX10_readKind_48 ?_
      refine lv_iconst (v := (1 : Int32)) hx hb dX10_readKind_49 (by decide) ?_
      refine lv_iadd hx hb dX10_readKind_50 ?_
      obtain ⟨m7, em7, hD⟩ := bnd_el hD
      refine riast  hx hb hK hP (hD1 _ (hAd _ _)) hS hLx 3 (Nat.le_of_ble_eq_true rfl) (fun _ => xs3 _ _) (by decide) (j := 17) (by decide) dX10_readKind_51 em7 (fun H locs hP hS => ?_)
      refine lv_iconst (v := (1 : Int32)) hx hb dX10_readKind_52 (by decide) ?_
      obtain ⟨rfl, rfl⟩ := es2 hD
      exact hret _ _ _ hP hS (fun Qc hq => W.zret hx hb hr rfl hq hS.2.2 dX10_readKind_53 hlocks)
    · have hD := ifp hD c
      refine lv_iconst (v := (0 : Int32)) hx hb dX10_readKind_39 (by decide) ?_
      obtain ⟨rfl, rfl⟩ := es2 hD
      exact hret _ _ _ hP hS (fun Qc hq => W.zret hx hb hr rfl hq hS.2.2 dX10_readKind_40 hlocks)

noncomputable def D_X10_readFeeder (x1 : Int32) (x : MM) : Option (Int32 × MM) := bnd (((130 : Int32) + ((11 : Int32) * (gi x 3 18)))) (fun v1 => b2 (D_X10_isRoom x1 (18 : Int32) (10 : Int32) x) (fun v2 m3 => if v2 = 0 then (some ((0 : Int32), m3)) else (b2 (D_X10_readsInto (v1 + (0 : Int32)) (0 : Int32) ((gi m3 3 17) - (1 : Int32)) m3) (fun v5 m6 => if v5 = 0 then (some ((0 : Int32), m6)) else (b2 (D_X10_readsInto (v1 + (1 : Int32)) (0 : Int32) (999 : Int32) m6) (fun v8 m9 => if v8 = 0 then (some ((0 : Int32), m9)) else (b2 (D_X10_readsInto (v1 + (2 : Int32)) (0 : Int32) (500 : Int32) m9) (fun v11 m12 => if v11 = 0 then (some ((0 : Int32), m12)) else (b2 (D_X10_readsInto (v1 + (3 : Int32)) (0 : Int32) (100 : Int32) m12) (fun v14 m15 => if v14 = 0 then (some ((0 : Int32), m15)) else (if (v1 + (0 : Int32)) < 0 ∨ 640 ≤ (v1 + (0 : Int32)).toNatClampNeg then none else (bnd ((((90 : Int32) + ((5 : Int32) * (gi m15 3 ((v1 + (0 : Int32)).toNatClampNeg)))) + (0 : Int32))) (fun v18 => if v18 < 0 ∨ 640 ≤ v18.toNatClampNeg then none else (if (v1 + (2 : Int32)) < 0 ∨ 640 ≤ (v1 + (2 : Int32)).toNatClampNeg then none else (if v18 < 0 ∨ 640 ≤ v18.toNatClampNeg then none else (bnd (si m15 3 v18.toNatClampNeg ((gi m15 3 v18.toNatClampNeg) + (gi m15 3 ((v1 + (2 : Int32)).toNatClampNeg)))) (fun m22 => bnd (si m22 3 18 ((gi m22 3 18) + (1 : Int32))) (fun m23 => some ((1 : Int32), m23)))))))))))))))))))
set_option maxHeartbeats 4000000 in
set_option maxRecDepth 100000 in
theorem c_X10_readFeeder (l : Launch) {D : va_G} {cs : Nat → ClassId} {adx : Nat → Nat} {Wf : MM → va_W} (hLx : Ln 9 adx (xsh cs adx) Wf) (hAd : ∀ a0_ b0_ : MM, (Wf a0_).map (fun q => q.1) = (Wf b0_).map (fun q => q.1)) (x : MM) (x1 : Int32) {rr : Int32} {x' : MM} (hD : D_X10_readFeeder x1 x = some (rr, x')) : Ct l yX10_readFeeder cX10_readFeeder 3 (some .boolean) 4 93 D cs [.ref (adx 0), .int x1] (Wf x) (Wf x') (some (.int rr)) := by
  refine Ct.ofW (by decide) (Nat.le_of_ble_eq_true rfl) (hAd _ _) ?_
  intro p e s m0 below meth c A Q ls args hx hb hr hml hlocks hown hts hK hP hD1 hSS hS hA1 hl hret
  have hT : ∀ w ∈ TBL, w.before args s = true := fun w h => hts w (List.mem_cons_of_mem _ h)
  have Fx0 : Fx p l m0 c cX10_readFeeder 3 s args yX10_readFeeder cX10_readFeeder 3 (some .boolean) D cs A := ⟨hx, hb, hml, hown, hts, hK, hSS⟩
  have hown : s.vm.findClass RX10 = some m0.cls := hown
  have hl : lv_has ls 3 [(0, .ref (adx 0)), (1, .int x1)] := hl
  unfold D_X10_readFeeder at hD
  refine lv_sipush (v := (130 : Int32)) hx hb dX10_readFeeder_0 (by decide) ?_
  refine lv_bipush (v := (11 : Int32)) hx hb dX10_readFeeder_3 (by decide) ?_
  refine lv_aload_n hx hb dX10_readFeeder_5 rfl (lv_at hl 0 rfl) ?_
  refine rg  hx hb hT hu10 hown hK hP hLx 0 2 (Nat.le_of_ble_eq_true rfl) (xs0 _ _) rfl (Nat.le_of_ble_eq_true rfl) (Fx0.T tw_6_217) rfl (v := .ref (adx 3)) rfl dX10_readFeeder_6 ?_
  refine lv_bipush (v := (18 : Int32)) hx hb dX10_readFeeder_9 (by decide) ?_
  refine riald  hx hb hK hP hLx 3 (Nat.le_of_ble_eq_true rfl) (xs3 _ _) (by decide) (j := 18) (by decide) dX10_readFeeder_11 ?_
  refine lv_imul hx hb dX10_readFeeder_12 ?_
  refine lv_iadd hx hb dX10_readFeeder_13 ?_
  obtain ⟨v1, ev1, hD⟩ := bnd_el hD
  refine lv_nmi ev1 ?_
  refine lv_istore_n (lv' := [(2, .int v1), (0, .ref (adx 0)), (1, .int x1)]) hx hb dX10_readFeeder_14 rfl hl (by decide) rfl (fun ls hl => ?_)
  refine lv_aload_n hx hb dX10_readFeeder_15 rfl (lv_at hl 1 rfl) ?_
  refine lv_iload_n hx hb dX10_readFeeder_16 rfl (lv_at hl 2 rfl) ?_
  refine lv_bipush (v := (18 : Int32)) hx hb dX10_readFeeder_17 (by decide) ?_
  refine lv_bipush (v := (10 : Int32)) hx hb dX10_readFeeder_19 (by decide) ?_
  obtain ⟨v2, m3, z4, hD⟩ := b2_el hD
  refine rcV  (As := [.int x1, .int (18 : Int32), .int (10 : Int32)]) (rest := []) Fx0 (c_X10_isRoom l hLx hAd x x1 (18 : Int32) (10 : Int32) z4) hP (hD1 _ (hAd _ _)) hS (hA1 _ _ (hAd _ _) hS.1) hLx (Nat.le_of_ble_eq_true rfl) (xs0 _ _) rfl tw_7_118 tw_7_115 tw_7_117 ts_99 tw_1_13 yd_X10_isRoom ⟨(Nat.le_of_ble_eq_true rfl), (Nat.le_of_ble_eq_true rfl)⟩ rfl hl.1 rfl (Nat.le_of_ble_eq_true rfl) dX10_readFeeder_21 (fun H locs hP hS => ?_)
  refine lv_if_eq (tgt := 88) hx hb dX10_readFeeder_24 (by decide) (fun c => ?_) (fun c => ?_)
  · have hD := ifp hD c
    refine lv_iconst (v := (0 : Int32)) hx hb dX10_readFeeder_88 (by decide) ?_
    obtain ⟨rfl, rfl⟩ := es2 hD
    exact hret _ _ _ hP hS (fun Qc hq => W.zret hx hb hr rfl hq hS.2.2 dX10_readFeeder_89 hlocks)
  · have hD := ifn hD c
    refine lv_aload_n hx hb dX10_readFeeder_27 rfl (lv_at hl 1 rfl) ?_
    refine lv_iload_n hx hb dX10_readFeeder_28 rfl (lv_at hl 0 rfl) ?_
    refine lv_iconst (v := (0 : Int32)) hx hb dX10_readFeeder_29 (by decide) ?_
    refine lv_iadd hx hb dX10_readFeeder_30 ?_
    refine lv_iconst (v := (0 : Int32)) hx hb dX10_readFeeder_31 (by decide) ?_
    refine lv_aload_n hx hb dX10_readFeeder_32 rfl (lv_at hl 1 rfl) ?_
    refine rg  hx hb hT hu10 hown hK hP hLx 0 2 (Nat.le_of_ble_eq_true rfl) (xs0 _ _) rfl (Nat.le_of_ble_eq_true rfl) (Fx0.T tw_6_217) rfl (v := .ref (adx 3)) rfl dX10_readFeeder_33 ?_
    refine lv_bipush (v := (17 : Int32)) hx hb dX10_readFeeder_36 (by decide) ?_
    refine riald  hx hb hK hP hLx 3 (Nat.le_of_ble_eq_true rfl) (xs3 _ _) (by decide) (j := 17) (by decide) dX10_readFeeder_38 ?_
    refine lv_iconst (v := (1 : Int32)) hx hb dX10_readFeeder_39 (by decide) ?_
    refine lv_isub hx hb dX10_readFeeder_40 ?_
    obtain ⟨v5, m6, z7, hD⟩ := b2_el hD
    refine rcV  (As := [.int (v1 + (0 : Int32)), .int (0 : Int32), .int ((gi m3 3 17) - (1 : Int32))]) (rest := []) Fx0 (c_X10_readsInto l hLx hAd m3 (v1 + (0 : Int32)) (0 : Int32) ((gi m3 3 17) - (1 : Int32)) z7) hP (hD1 _ (hAd _ _)) hS (hA1 _ _ (hAd _ _) hS.1) hLx (Nat.le_of_ble_eq_true rfl) (xs0 _ _) rfl tw_7_79 tw_7_76 tw_7_78 ts_93 tw_1_13 yd_X10_readsInto ⟨(Nat.le_of_ble_eq_true rfl), (Nat.le_of_ble_eq_true rfl)⟩ rfl hl.1 rfl (Nat.le_of_ble_eq_true rfl) dX10_readFeeder_41 (fun H locs hP hS => ?_)
    refine lv_if_eq (tgt := 88) hx hb dX10_readFeeder_44 (by decide) (fun c => ?_) (fun c => ?_)
    · have hD := ifp hD c
      refine lv_iconst (v := (0 : Int32)) hx hb dX10_readFeeder_88 (by decide) ?_
      obtain ⟨rfl, rfl⟩ := es2 hD
      exact hret _ _ _ hP hS (fun Qc hq => W.zret hx hb hr rfl hq hS.2.2 dX10_readFeeder_89 hlocks)
    · have hD := ifn hD c
      refine lv_aload_n hx hb dX10_readFeeder_47 rfl (lv_at hl 1 rfl) ?_
      refine lv_iload_n hx hb dX10_readFeeder_48 rfl (lv_at hl 0 rfl) ?_
      refine lv_iconst (v := (1 : Int32)) hx hb dX10_readFeeder_49 (by decide) ?_
      refine lv_iadd hx hb dX10_readFeeder_50 ?_
      refine lv_iconst (v := (0 : Int32)) hx hb dX10_readFeeder_51 (by decide) ?_
      refine lv_sipush (v := (999 : Int32)) hx hb dX10_readFeeder_52 (by decide) ?_
      obtain ⟨v8, m9, z10, hD⟩ := b2_el hD
      refine rcV  (As := [.int (v1 + (1 : Int32)), .int (0 : Int32), .int (999 : Int32)]) (rest := []) Fx0 (c_X10_readsInto l hLx hAd m6 (v1 + (1 : Int32)) (0 : Int32) (999 : Int32) z10) hP (hD1 _ (hAd _ _)) hS (hA1 _ _ (hAd _ _) hS.1) hLx (Nat.le_of_ble_eq_true rfl) (xs0 _ _) rfl tw_7_79 tw_7_76 tw_7_78 ts_93 tw_1_13 yd_X10_readsInto ⟨(Nat.le_of_ble_eq_true rfl), (Nat.le_of_ble_eq_true rfl)⟩ rfl hl.1 rfl (Nat.le_of_ble_eq_true rfl) dX10_readFeeder_55 (fun H locs hP hS => ?_)
      refine lv_if_eq (tgt := 88) hx hb dX10_readFeeder_58 (by decide) (fun c => ?_) (fun c => ?_)
      · have hD := ifp hD c
        refine lv_iconst (v := (0 : Int32)) hx hb dX10_readFeeder_88 (by decide) ?_
        obtain ⟨rfl, rfl⟩ := es2 hD
        exact hret _ _ _ hP hS (fun Qc hq => W.zret hx hb hr rfl hq hS.2.2 dX10_readFeeder_89 hlocks)
      · have hD := ifn hD c
        refine lv_aload_n hx hb dX10_readFeeder_61 rfl (lv_at hl 1 rfl) ?_
        refine lv_iload_n hx hb dX10_readFeeder_62 rfl (lv_at hl 0 rfl) ?_
        refine lv_iconst (v := (2 : Int32)) hx hb dX10_readFeeder_63 (by decide) ?_
        refine lv_iadd hx hb dX10_readFeeder_64 ?_
        refine lv_iconst (v := (0 : Int32)) hx hb dX10_readFeeder_65 (by decide) ?_
        refine lv_sipush (v := (500 : Int32)) hx hb dX10_readFeeder_66 (by decide) ?_
        obtain ⟨v11, m12, z13, hD⟩ := b2_el hD
        refine rcV  (As := [.int (v1 + (2 : Int32)), .int (0 : Int32), .int (500 : Int32)]) (rest := []) Fx0 (c_X10_readsInto l hLx hAd m9 (v1 + (2 : Int32)) (0 : Int32) (500 : Int32) z13) hP (hD1 _ (hAd _ _)) hS (hA1 _ _ (hAd _ _) hS.1) hLx (Nat.le_of_ble_eq_true rfl) (xs0 _ _) rfl tw_7_79 tw_7_76 tw_7_78 ts_93 tw_1_13 yd_X10_readsInto ⟨(Nat.le_of_ble_eq_true rfl), (Nat.le_of_ble_eq_true rfl)⟩ rfl hl.1 rfl (Nat.le_of_ble_eq_true rfl) dX10_readFeeder_69 (fun H locs hP hS => ?_)
        refine lv_if_eq (tgt := 88) hx hb dX10_readFeeder_72 (by decide) (fun c => ?_) (fun c => ?_)
        · have hD := ifp hD c
          refine lv_iconst (v := (0 : Int32)) hx hb dX10_readFeeder_88 (by decide) ?_
          obtain ⟨rfl, rfl⟩ := es2 hD
          exact hret _ _ _ hP hS (fun Qc hq => W.zret hx hb hr rfl hq hS.2.2 dX10_readFeeder_89 hlocks)
        · have hD := ifn hD c
          refine lv_aload_n hx hb dX10_readFeeder_75 rfl (lv_at hl 1 rfl) ?_
          refine lv_iload_n hx hb dX10_readFeeder_76 rfl (lv_at hl 0 rfl) ?_
          refine lv_iconst (v := (3 : Int32)) hx hb dX10_readFeeder_77 (by decide) ?_
          refine lv_iadd hx hb dX10_readFeeder_78 ?_
          refine lv_iconst (v := (0 : Int32)) hx hb dX10_readFeeder_79 (by decide) ?_
          refine lv_bipush (v := (100 : Int32)) hx hb dX10_readFeeder_80 (by decide) ?_
          obtain ⟨v14, m15, z16, hD⟩ := b2_el hD
          refine rcV  (As := [.int (v1 + (3 : Int32)), .int (0 : Int32), .int (100 : Int32)]) (rest := []) Fx0 (c_X10_readsInto l hLx hAd m12 (v1 + (3 : Int32)) (0 : Int32) (100 : Int32) z16) hP (hD1 _ (hAd _ _)) hS (hA1 _ _ (hAd _ _) hS.1) hLx (Nat.le_of_ble_eq_true rfl) (xs0 _ _) rfl tw_7_79 tw_7_76 tw_7_78 ts_93 tw_1_13 yd_X10_readsInto ⟨(Nat.le_of_ble_eq_true rfl), (Nat.le_of_ble_eq_true rfl)⟩ rfl hl.1 rfl (Nat.le_of_ble_eq_true rfl) dX10_readFeeder_82 (fun H locs hP hS => ?_)
          refine lv_if_ne (tgt := 90) hx hb dX10_readFeeder_85 (by decide) (fun c => ?_) (fun c => ?_)
          · have hD := ifn hD c
            refine lv_aload_n hx hb dX10_readFeeder_90 rfl (lv_at hl 1 rfl) ?_
            refine rg  hx hb hT hu10 hown hK hP hLx 0 2 (Nat.le_of_ble_eq_true rfl) (xs0 _ _) rfl (Nat.le_of_ble_eq_true rfl) (Fx0.T tw_6_217) rfl (v := .ref (adx 3)) rfl dX10_readFeeder_91 ?_
            refine lv_bipush (v := (90 : Int32)) hx hb dX10_readFeeder_94 (by decide) ?_
            refine lv_iconst (v := (5 : Int32)) hx hb dX10_readFeeder_96 (by decide) ?_
            refine lv_aload_n hx hb dX10_readFeeder_97 rfl (lv_at hl 1 rfl) ?_
            refine rg  hx hb hT hu10 hown hK hP hLx 0 2 (Nat.le_of_ble_eq_true rfl) (xs0 _ _) rfl (Nat.le_of_ble_eq_true rfl) (Fx0.T tw_6_217) rfl (v := .ref (adx 3)) rfl dX10_readFeeder_98 ?_
            refine lv_iload_n hx hb dX10_readFeeder_101 rfl (lv_at hl 0 rfl) ?_
            refine lv_iconst (v := (0 : Int32)) hx hb dX10_readFeeder_102 (by decide) ?_
            refine lv_iadd hx hb dX10_readFeeder_103 ?_
            obtain ⟨h17, hD⟩ := gd_el hD
            refine riald  hx hb hK hP hLx 3 (Nat.le_of_ble_eq_true rfl) (xs3 _ _) h17 rfl dX10_readFeeder_104 ?_
            refine lv_imul hx hb dX10_readFeeder_105 ?_
            refine lv_iadd hx hb dX10_readFeeder_106 ?_
            refine lv_iconst (v := (0 : Int32)) hx hb dX10_readFeeder_107 (by decide) ?_
            refine lv_iadd hx hb dX10_readFeeder_108 ?_
            obtain ⟨v18, ev18, hD⟩ := bnd_el hD
            refine lv_nmi ev18 ?_
            refine lv_dup2_11 hx hb dX10_readFeeder_109 rfl rfl ?_
            obtain ⟨h19, hD⟩ := gd_el hD
            refine riald  hx hb hK hP hLx 3 (Nat.le_of_ble_eq_true rfl) (xs3 _ _) h19 rfl dX10_readFeeder_110 ?_
            refine lv_aload_n hx hb dX10_readFeeder_111 rfl (lv_at hl 1 rfl) ?_
            refine rg  hx hb hT hu10 hown hK hP hLx 0 2 (Nat.le_of_ble_eq_true rfl) (xs0 _ _) rfl (Nat.le_of_ble_eq_true rfl) (Fx0.T tw_6_217) rfl (v := .ref (adx 3)) rfl dX10_readFeeder_112 ?_
            refine lv_iload_n hx hb dX10_readFeeder_115 rfl (lv_at hl 0 rfl) ?_
            refine lv_iconst (v := (2 : Int32)) hx hb dX10_readFeeder_116 (by decide) ?_
            refine lv_iadd hx hb dX10_readFeeder_117 ?_
            obtain ⟨h20, hD⟩ := gd_el hD
            refine riald  hx hb hK hP hLx 3 (Nat.le_of_ble_eq_true rfl) (xs3 _ _) h20 rfl dX10_readFeeder_118 ?_
            refine lv_iadd hx hb dX10_readFeeder_119 ?_
            obtain ⟨h21, hD⟩ := gd_el hD
            obtain ⟨m22, em22, hD⟩ := bnd_el hD
            refine riast  hx hb hK hP (hD1 _ (hAd _ _)) hS hLx 3 (Nat.le_of_ble_eq_true rfl) (fun _ => xs3 _ _) h21 rfl dX10_readFeeder_120 em22 (fun H locs hP hS => ?_)
            refine lv_aload_n hx hb dX10_readFeeder_121 rfl (lv_at hl 1 rfl) ?_
            refine rg  hx hb hT hu10 hown hK hP hLx 0 2 (Nat.le_of_ble_eq_true rfl) (xs0 _ _) rfl (Nat.le_of_ble_eq_true rfl) (Fx0.T tw_6_217) rfl (v := .ref (adx 3)) rfl dX10_readFeeder_122 ?_
            refine lv_bipush (v := (18 : Int32)) hx hb dX10_readFeeder_125 (by decide) ?_
            refine lv_dup2_11 hx hb dX10_readFeeder_127 rfl rfl ?_
            refine riald  hx hb hK hP hLx 3 (Nat.le_of_ble_eq_true rfl) (xs3 _ _) (by decide) (j := 18) (by decide) dX10_readFeeder_128 ?_
            refine lv_iconst (v := (1 : Int32)) hx hb dX10_readFeeder_129 (by decide) ?_
            refine lv_iadd hx hb dX10_readFeeder_130 ?_
            obtain ⟨m23, em23, hD⟩ := bnd_el hD
            refine riast  hx hb hK hP (hD1 _ (hAd _ _)) hS hLx 3 (Nat.le_of_ble_eq_true rfl) (fun _ => xs3 _ _) (by decide) (j := 18) (by decide) dX10_readFeeder_131 em23 (fun H locs hP hS => ?_)
            refine lv_iconst (v := (1 : Int32)) hx hb dX10_readFeeder_132 (by decide) ?_
            obtain ⟨rfl, rfl⟩ := es2 hD
            exact hret _ _ _ hP hS (fun Qc hq => W.zret hx hb hr rfl hq hS.2.2 dX10_readFeeder_133 hlocks)
          · have hD := ifp hD c
            refine lv_iconst (v := (0 : Int32)) hx hb dX10_readFeeder_88 (by decide) ?_
            obtain ⟨rfl, rfl⟩ := es2 hD
            exact hret _ _ _ hP hS (fun Qc hq => W.zret hx hb hr rfl hq hS.2.2 dX10_readFeeder_89 hlocks)

noncomputable def D_X10_readSpot (x1 : Int32) (x : MM) : Option (Int32 × MM) := bnd (((240 : Int32) + ((6 : Int32) * (gi x 3 19)))) (fun v1 => b2 (D_X10_isRoom x1 (19 : Int32) (40 : Int32) x) (fun v2 m3 => if v2 = 0 then (some ((0 : Int32), m3)) else (b2 (D_X10_readsInto v1 (0 : Int32) ((gi m3 3 17) - (1 : Int32)) m3) (fun v5 m6 => if v5 = 0 then (some ((0 : Int32), m6)) else (b2 (D_X10_readsInto (v1 + (1 : Int32)) (0 : Int32) (999 : Int32) m6) (fun v8 m9 => if v8 = 0 then (some ((0 : Int32), m9)) else (b2 (D_X10_readsInto (v1 + (2 : Int32)) (0 : Int32) (999 : Int32) m9) (fun v11 m12 => if v11 = 0 then (some ((0 : Int32), m12)) else (bnd (si m12 3 19 ((gi m12 3 19) + (1 : Int32))) (fun m14 => some ((1 : Int32), m14)))))))))))
set_option maxHeartbeats 4000000 in
set_option maxRecDepth 100000 in
theorem c_X10_readSpot (l : Launch) {D : va_G} {cs : Nat → ClassId} {adx : Nat → Nat} {Wf : MM → va_W} (hLx : Ln 9 adx (xsh cs adx) Wf) (hAd : ∀ a0_ b0_ : MM, (Wf a0_).map (fun q => q.1) = (Wf b0_).map (fun q => q.1)) (x : MM) (x1 : Int32) {rr : Int32} {x' : MM} (hD : D_X10_readSpot x1 x = some (rr, x')) : Ct l yX10_readSpot cX10_readSpot 3 (some .boolean) 4 93 D cs [.ref (adx 0), .int x1] (Wf x) (Wf x') (some (.int rr)) := by
  refine Ct.ofW (by decide) (Nat.le_of_ble_eq_true rfl) (hAd _ _) ?_
  intro p e s m0 below meth c A Q ls args hx hb hr hml hlocks hown hts hK hP hD1 hSS hS hA1 hl hret
  have hT : ∀ w ∈ TBL, w.before args s = true := fun w h => hts w (List.mem_cons_of_mem _ h)
  have Fx0 : Fx p l m0 c cX10_readSpot 3 s args yX10_readSpot cX10_readSpot 3 (some .boolean) D cs A := ⟨hx, hb, hml, hown, hts, hK, hSS⟩
  have hown : s.vm.findClass RX10 = some m0.cls := hown
  have hl : lv_has ls 3 [(0, .ref (adx 0)), (1, .int x1)] := hl
  unfold D_X10_readSpot at hD
  refine lv_sipush (v := (240 : Int32)) hx hb dX10_readSpot_0 (by decide) ?_
  refine lv_bipush (v := (6 : Int32)) hx hb dX10_readSpot_3 (by decide) ?_
  refine lv_aload_n hx hb dX10_readSpot_5 rfl (lv_at hl 0 rfl) ?_
  refine rg  hx hb hT hu10 hown hK hP hLx 0 2 (Nat.le_of_ble_eq_true rfl) (xs0 _ _) rfl (Nat.le_of_ble_eq_true rfl) (Fx0.T tw_6_217) rfl (v := .ref (adx 3)) rfl dX10_readSpot_6 ?_
  refine lv_bipush (v := (19 : Int32)) hx hb dX10_readSpot_9 (by decide) ?_
  refine riald  hx hb hK hP hLx 3 (Nat.le_of_ble_eq_true rfl) (xs3 _ _) (by decide) (j := 19) (by decide) dX10_readSpot_11 ?_
  refine lv_imul hx hb dX10_readSpot_12 ?_
  refine lv_iadd hx hb dX10_readSpot_13 ?_
  obtain ⟨v1, ev1, hD⟩ := bnd_el hD
  refine lv_nmi ev1 ?_
  refine lv_istore_n (lv' := [(2, .int v1), (0, .ref (adx 0)), (1, .int x1)]) hx hb dX10_readSpot_14 rfl hl (by decide) rfl (fun ls hl => ?_)
  refine lv_aload_n hx hb dX10_readSpot_15 rfl (lv_at hl 1 rfl) ?_
  refine lv_iload_n hx hb dX10_readSpot_16 rfl (lv_at hl 2 rfl) ?_
  refine lv_bipush (v := (19 : Int32)) hx hb dX10_readSpot_17 (by decide) ?_
  refine lv_bipush (v := (40 : Int32)) hx hb dX10_readSpot_19 (by decide) ?_
  obtain ⟨v2, m3, z4, hD⟩ := b2_el hD
  refine rcV  (As := [.int x1, .int (19 : Int32), .int (40 : Int32)]) (rest := []) Fx0 (c_X10_isRoom l hLx hAd x x1 (19 : Int32) (40 : Int32) z4) hP (hD1 _ (hAd _ _)) hS (hA1 _ _ (hAd _ _) hS.1) hLx (Nat.le_of_ble_eq_true rfl) (xs0 _ _) rfl tw_7_118 tw_7_115 tw_7_117 ts_99 tw_1_13 yd_X10_isRoom ⟨(Nat.le_of_ble_eq_true rfl), (Nat.le_of_ble_eq_true rfl)⟩ rfl hl.1 rfl (Nat.le_of_ble_eq_true rfl) dX10_readSpot_21 (fun H locs hP hS => ?_)
  refine lv_if_eq (tgt := 73) hx hb dX10_readSpot_24 (by decide) (fun c => ?_) (fun c => ?_)
  · have hD := ifp hD c
    refine lv_iconst (v := (0 : Int32)) hx hb dX10_readSpot_73 (by decide) ?_
    obtain ⟨rfl, rfl⟩ := es2 hD
    exact hret _ _ _ hP hS (fun Qc hq => W.zret hx hb hr rfl hq hS.2.2 dX10_readSpot_74 hlocks)
  · have hD := ifn hD c
    refine lv_aload_n hx hb dX10_readSpot_27 rfl (lv_at hl 1 rfl) ?_
    refine lv_iload_n hx hb dX10_readSpot_28 rfl (lv_at hl 0 rfl) ?_
    refine lv_iconst (v := (0 : Int32)) hx hb dX10_readSpot_29 (by decide) ?_
    refine lv_aload_n hx hb dX10_readSpot_30 rfl (lv_at hl 1 rfl) ?_
    refine rg  hx hb hT hu10 hown hK hP hLx 0 2 (Nat.le_of_ble_eq_true rfl) (xs0 _ _) rfl (Nat.le_of_ble_eq_true rfl) (Fx0.T tw_6_217) rfl (v := .ref (adx 3)) rfl dX10_readSpot_31 ?_
    refine lv_bipush (v := (17 : Int32)) hx hb dX10_readSpot_34 (by decide) ?_
    refine riald  hx hb hK hP hLx 3 (Nat.le_of_ble_eq_true rfl) (xs3 _ _) (by decide) (j := 17) (by decide) dX10_readSpot_36 ?_
    refine lv_iconst (v := (1 : Int32)) hx hb dX10_readSpot_37 (by decide) ?_
    refine lv_isub hx hb dX10_readSpot_38 ?_
    obtain ⟨v5, m6, z7, hD⟩ := b2_el hD
    refine rcV  (As := [.int v1, .int (0 : Int32), .int ((gi m3 3 17) - (1 : Int32))]) (rest := []) Fx0 (c_X10_readsInto l hLx hAd m3 v1 (0 : Int32) ((gi m3 3 17) - (1 : Int32)) z7) hP (hD1 _ (hAd _ _)) hS (hA1 _ _ (hAd _ _) hS.1) hLx (Nat.le_of_ble_eq_true rfl) (xs0 _ _) rfl tw_7_79 tw_7_76 tw_7_78 ts_93 tw_1_13 yd_X10_readsInto ⟨(Nat.le_of_ble_eq_true rfl), (Nat.le_of_ble_eq_true rfl)⟩ rfl hl.1 rfl (Nat.le_of_ble_eq_true rfl) dX10_readSpot_39 (fun H locs hP hS => ?_)
    refine lv_if_eq (tgt := 73) hx hb dX10_readSpot_42 (by decide) (fun c => ?_) (fun c => ?_)
    · have hD := ifp hD c
      refine lv_iconst (v := (0 : Int32)) hx hb dX10_readSpot_73 (by decide) ?_
      obtain ⟨rfl, rfl⟩ := es2 hD
      exact hret _ _ _ hP hS (fun Qc hq => W.zret hx hb hr rfl hq hS.2.2 dX10_readSpot_74 hlocks)
    · have hD := ifn hD c
      refine lv_aload_n hx hb dX10_readSpot_45 rfl (lv_at hl 1 rfl) ?_
      refine lv_iload_n hx hb dX10_readSpot_46 rfl (lv_at hl 0 rfl) ?_
      refine lv_iconst (v := (1 : Int32)) hx hb dX10_readSpot_47 (by decide) ?_
      refine lv_iadd hx hb dX10_readSpot_48 ?_
      refine lv_iconst (v := (0 : Int32)) hx hb dX10_readSpot_49 (by decide) ?_
      refine lv_sipush (v := (999 : Int32)) hx hb dX10_readSpot_50 (by decide) ?_
      obtain ⟨v8, m9, z10, hD⟩ := b2_el hD
      refine rcV  (As := [.int (v1 + (1 : Int32)), .int (0 : Int32), .int (999 : Int32)]) (rest := []) Fx0 (c_X10_readsInto l hLx hAd m6 (v1 + (1 : Int32)) (0 : Int32) (999 : Int32) z10) hP (hD1 _ (hAd _ _)) hS (hA1 _ _ (hAd _ _) hS.1) hLx (Nat.le_of_ble_eq_true rfl) (xs0 _ _) rfl tw_7_79 tw_7_76 tw_7_78 ts_93 tw_1_13 yd_X10_readsInto ⟨(Nat.le_of_ble_eq_true rfl), (Nat.le_of_ble_eq_true rfl)⟩ rfl hl.1 rfl (Nat.le_of_ble_eq_true rfl) dX10_readSpot_53 (fun H locs hP hS => ?_)
      refine lv_if_eq (tgt := 73) hx hb dX10_readSpot_56 (by decide) (fun c => ?_) (fun c => ?_)
      · have hD := ifp hD c
        refine lv_iconst (v := (0 : Int32)) hx hb dX10_readSpot_73 (by decide) ?_
        obtain ⟨rfl, rfl⟩ := es2 hD
        exact hret _ _ _ hP hS (fun Qc hq => W.zret hx hb hr rfl hq hS.2.2 dX10_readSpot_74 hlocks)
      · have hD := ifn hD c
        refine lv_aload_n hx hb dX10_readSpot_59 rfl (lv_at hl 1 rfl) ?_
        refine lv_iload_n hx hb dX10_readSpot_60 rfl (lv_at hl 0 rfl) ?_
        refine lv_iconst (v := (2 : Int32)) hx hb dX10_readSpot_61 (by decide) ?_
        refine lv_iadd hx hb dX10_readSpot_62 ?_
        refine lv_iconst (v := (0 : Int32)) hx hb dX10_readSpot_63 (by decide) ?_
        refine lv_sipush (v := (999 : Int32)) hx hb dX10_readSpot_64 (by decide) ?_
        obtain ⟨v11, m12, z13, hD⟩ := b2_el hD
        refine rcV  (As := [.int (v1 + (2 : Int32)), .int (0 : Int32), .int (999 : Int32)]) (rest := []) Fx0 (c_X10_readsInto l hLx hAd m9 (v1 + (2 : Int32)) (0 : Int32) (999 : Int32) z13) hP (hD1 _ (hAd _ _)) hS (hA1 _ _ (hAd _ _) hS.1) hLx (Nat.le_of_ble_eq_true rfl) (xs0 _ _) rfl tw_7_79 tw_7_76 tw_7_78 ts_93 tw_1_13 yd_X10_readsInto ⟨(Nat.le_of_ble_eq_true rfl), (Nat.le_of_ble_eq_true rfl)⟩ rfl hl.1 rfl (Nat.le_of_ble_eq_true rfl) dX10_readSpot_67 (fun H locs hP hS => ?_)
        refine lv_if_ne (tgt := 75) hx hb dX10_readSpot_70 (by decide) (fun c => ?_) (fun c => ?_)
        · have hD := ifn hD c
          refine lv_aload_n hx hb dX10_readSpot_75 rfl (lv_at hl 1 rfl) ?_
          refine rg  hx hb hT hu10 hown hK hP hLx 0 2 (Nat.le_of_ble_eq_true rfl) (xs0 _ _) rfl (Nat.le_of_ble_eq_true rfl) (Fx0.T tw_6_217) rfl (v := .ref (adx 3)) rfl dX10_readSpot_76 ?_
          refine lv_bipush (v := (19 : Int32)) hx hb dX10_readSpot_79 (by decide) ?_
          refine lv_dup2_11 hx hb dX10_readSpot_81 rfl rfl ?_
          refine riald  hx hb hK hP hLx 3 (Nat.le_of_ble_eq_true rfl) (xs3 _ _) (by decide) (j := 19) (by decide) dX10_readSpot_82 ?_
          refine lv_iconst (v := (1 : Int32)) hx hb dX10_readSpot_83 (by decide) ?_
          refine lv_iadd hx hb dX10_readSpot_84 ?_
          obtain ⟨m14, em14, hD⟩ := bnd_el hD
          refine riast  hx hb hK hP (hD1 _ (hAd _ _)) hS hLx 3 (Nat.le_of_ble_eq_true rfl) (fun _ => xs3 _ _) (by decide) (j := 19) (by decide) dX10_readSpot_85 em14 (fun H locs hP hS => ?_)
          refine lv_iconst (v := (1 : Int32)) hx hb dX10_readSpot_86 (by decide) ?_
          obtain ⟨rfl, rfl⟩ := es2 hD
          exact hret _ _ _ hP hS (fun Qc hq => W.zret hx hb hr rfl hq hS.2.2 dX10_readSpot_87 hlocks)
        · have hD := ifp hD c
          refine lv_iconst (v := (0 : Int32)) hx hb dX10_readSpot_73 (by decide) ?_
          obtain ⟨rfl, rfl⟩ := es2 hD
          exact hret _ _ _ hP hS (fun Qc hq => W.zret hx hb hr rfl hq hS.2.2 dX10_readSpot_74 hlocks)

noncomputable def D_X10_pairIn_2 (x : MM) : Nat → Nat → Int32 → Int32 → Int32 → Option Int32
  | 0, _, _, _, _ => none
  | n + 1, q0, x1, x2, x3 => if (gi x q0 20) ≤ x3 then (some ((-1 : Int32))) else (if ((600 : Int32) + ((2 : Int32) * x3)) < 0 ∨ 640 ≤ ((600 : Int32) + ((2 : Int32) * x3)).toNatClampNeg then none else (if (gi x q0 (((600 : Int32) + ((2 : Int32) * x3)).toNatClampNeg)) = x1 then (if (((600 : Int32) + ((2 : Int32) * x3)) + (1 : Int32)) < 0 ∨ 640 ≤ (((600 : Int32) + ((2 : Int32) * x3)) + (1 : Int32)).toNatClampNeg then none else (if (gi x q0 ((((600 : Int32) + ((2 : Int32) * x3)) + (1 : Int32)).toNatClampNeg)) = x2 then (some (x3)) else (bnd (x3 + (1 : Int32)) (fun v4 => D_X10_pairIn_2 x n q0 x1 x2 v4)))) else (bnd (x3 + (1 : Int32)) (fun v2 => D_X10_pairIn_2 x n q0 x1 x2 v2))))
noncomputable def D_X10_pairIn (q0 : Nat) (x1 : Int32) (x2 : Int32) (x : MM) : Option Int32 := D_X10_pairIn_2 x FU q0 x1 x2 (0 : Int32)
set_option maxHeartbeats 4000000 in
set_option maxRecDepth 100000 in
theorem c_X10_pairIn (l : Launch) {D : va_G} {cs : Nat → ClassId} {adx : Nat → Nat} {Wf : MM → va_W} (hLx : Ln 9 adx (xsh cs adx) Wf) (hAd : ∀ a0_ b0_ : MM, (Wf a0_).map (fun q => q.1) = (Wf b0_).map (fun q => q.1)) (x : MM) (q0 : Nat) (haq0 : 1 ≤ q0) (hbq0 : q0 < 6) (x1 : Int32) (x2 : Int32) {rr : Int32} (hD : D_X10_pairIn q0 x1 x2 x = some (rr)) : Ct l yX10_pairIn cX10_pairIn 4 (some .int) 0 0 D cs [.ref (adx q0), .int x1, .int x2] (Wf x) (Wf x) (some (.int rr)) := by
  refine Ct.ofW (by decide) (Nat.le_of_ble_eq_true rfl) rfl ?_
  intro p e s m0 below meth c A Q ls args hx hb hr hml hlocks hown hts hK hP hD1 hSS hS hA1 hl hret
  have hT : ∀ w ∈ TBL, w.before args s = true := fun w h => hts w (List.mem_cons_of_mem _ h)
  have Fx0 : Fx p l m0 c cX10_pairIn 4 s args yX10_pairIn cX10_pairIn 4 (some .int) D cs A := ⟨hx, hb, hml, hown, hts, hK, hSS⟩
  have hown : s.vm.findClass RX10 = some m0.cls := hown
  have hl : lv_has ls 4 [(0, .ref (adx q0)), (1, .int x1), (2, .int x2)] := hl
  unfold D_X10_pairIn at hD
  have c_2 : ∀ (n : Nat), ∀ (q0 : Nat) (x1 : Int32) (x2 : Int32) (x3 : Int32) (H : Heap) (locs : List Loc) (ls : Array Slot), D_X10_pairIn_2 x n q0 x1 x2 x3 = some (rr) → 1 ≤ q0 → q0 < 6 → va_P D vwCl (Wf x) H → va_S A s.heap H locs → lv_has ls 4 [(0, .ref (adx q0)), (1, .int x1), (2, .int x2), (3, .int x3)] → W p l e ({ frames := 0, cells := 0, slots := 0, locals := 0 } : Room) s m0 args below meth c H locs 0 0 Q (F0 m0 2 ls []) := by
    intro n
    induction n with
    | zero =>
      intro q0 x1 x2 x3 H locs ls hD haq0 hbq0 hP hS hl
      exact nn_el hD
    | succ n ih =>
      intro q0 x1 x2 x3 H locs ls hD haq0 hbq0 hP hS hl
      rw [D_X10_pairIn_2] at hD
      refine lv_iload_n hx hb dX10_pairIn_2 rfl (lv_at hl 3 rfl) ?_
      refine lv_aload_n hx hb dX10_pairIn_3 rfl (lv_at hl 0 rfl) ?_
      refine lv_bipush (v := (20 : Int32)) hx hb dX10_pairIn_4 (by decide) ?_
      refine riald  hx hb hK hP hLx q0 (xaq hbq0) ((xar haq0 hbq0) _ _) (by decide) (j := 20) (by decide) dX10_pairIn_6 ?_
      refine lv_icmp_ge (tgt := 46) hx hb dX10_pairIn_7 (by decide) (fun c => ?_) (fun c => ?_)
      · have hD := ifp hD c
        refine lv_iconst (v := (-1 : Int32)) hx hb dX10_pairIn_46 (by decide) ?_
        obtain rfl := es1 hD
        exact hret _ _ _ hP hS (fun Qc hq => W.iret hx hb hr hq hS.2.2 dX10_pairIn_47 hlocks)
      · have hD := ifn hD c
        refine lv_aload_n hx hb dX10_pairIn_10 rfl (lv_at hl 0 rfl) ?_
        refine lv_sipush (v := (600 : Int32)) hx hb dX10_pairIn_11 (by decide) ?_
        refine lv_iconst (v := (2 : Int32)) hx hb dX10_pairIn_14 (by decide) ?_
        refine lv_iload_n hx hb dX10_pairIn_15 rfl (lv_at hl 3 rfl) ?_
        refine lv_imul hx hb dX10_pairIn_16 ?_
        refine lv_iadd hx hb dX10_pairIn_17 ?_
        obtain ⟨h1, hD⟩ := gd_el hD
        refine riald  hx hb hK hP hLx q0 (xaq hbq0) ((xar haq0 hbq0) _ _) h1 rfl dX10_pairIn_18 ?_
        refine lv_iload_n hx hb dX10_pairIn_19 rfl (lv_at hl 1 rfl) ?_
        refine lv_icmp_ne (tgt := 40) hx hb dX10_pairIn_20 (by decide) (fun c => ?_) (fun c => ?_)
        · have hD := ifn hD c
          obtain ⟨v2, ev2, hD⟩ := bnd_el hD
          refine lv_iinc (v := v2) (lv' := [(3, .int v2), (0, .ref (adx q0)), (1, .int x1), (2, .int x2)]) hx hb dX10_pairIn_40 hl (k := 3) rfl (by rw [ev2]; rfl) (by decide) rfl (fun ls hl => ?_)
          refine lv_goto (tgt := 2) hx hb dX10_pairIn_43 (by decide) ?_
          exact ih _ _ _ _ _ _ _ hD haq0 hbq0 hP hS (lv_sub hl [1, 2, 3, 0] rfl)
        · have hD := ifp hD c
          refine lv_aload_n hx hb dX10_pairIn_23 rfl (lv_at hl 0 rfl) ?_
          refine lv_sipush (v := (600 : Int32)) hx hb dX10_pairIn_24 (by decide) ?_
          refine lv_iconst (v := (2 : Int32)) hx hb dX10_pairIn_27 (by decide) ?_
          refine lv_iload_n hx hb dX10_pairIn_28 rfl (lv_at hl 3 rfl) ?_
          refine lv_imul hx hb dX10_pairIn_29 ?_
          refine lv_iadd hx hb dX10_pairIn_30 ?_
          refine lv_iconst (v := (1 : Int32)) hx hb dX10_pairIn_31 (by decide) ?_
          refine lv_iadd hx hb dX10_pairIn_32 ?_
          obtain ⟨h3, hD⟩ := gd_el hD
          refine riald  hx hb hK hP hLx q0 (xaq hbq0) ((xar haq0 hbq0) _ _) h3 rfl dX10_pairIn_33 ?_
          refine lv_iload_n hx hb dX10_pairIn_34 rfl (lv_at hl 2 rfl) ?_
          refine lv_icmp_ne (tgt := 40) hx hb dX10_pairIn_35 (by decide) (fun c => ?_) (fun c => ?_)
          · have hD := ifn hD c
            obtain ⟨v4, ev4, hD⟩ := bnd_el hD
            refine lv_iinc (v := v4) (lv' := [(3, .int v4), (0, .ref (adx q0)), (1, .int x1), (2, .int x2)]) hx hb dX10_pairIn_40 hl (k := 3) rfl (by rw [ev4]; rfl) (by decide) rfl (fun ls hl => ?_)
            refine lv_goto (tgt := 2) hx hb dX10_pairIn_43 (by decide) ?_
            exact ih _ _ _ _ _ _ _ hD haq0 hbq0 hP hS (lv_sub hl [1, 2, 3, 0] rfl)
          · have hD := ifp hD c
            refine lv_iload_n hx hb dX10_pairIn_38 rfl (lv_at hl 3 rfl) ?_
            obtain rfl := es1 hD
            exact hret _ _ _ hP hS (fun Qc hq => W.iret hx hb hr hq hS.2.2 dX10_pairIn_39 hlocks)
  refine lv_iconst (v := (0 : Int32)) hx hb dX10_pairIn_0 (by decide) ?_
  refine lv_istore_n (lv' := [(3, .int (0 : Int32)), (0, .ref (adx q0)), (1, .int x1), (2, .int x2)]) hx hb dX10_pairIn_1 rfl hl (by decide) rfl (fun ls hl => ?_)
  exact c_2 FU _ _ _ _ _ _ _ hD haq0 hbq0 hP hS (lv_sub hl [1, 2, 3, 0] rfl)

noncomputable def D_X10_leads_19 (x : MM) (k7 : Nat → Int32 → Int64 → Int32 → Option Int32) : Nat → Nat → Int32 → Int64 → Int32 → Int32 → Option Int32
  | 0, _, _, _, _, _ => none
  | n + 1, q0, x2, x3, x5, x6 => if (gi x q0 20) ≤ x6 then (bnd (x5 + (1 : Int32)) (fun v2 => k7 q0 x2 x3 v2)) else (if ((600 : Int32) + ((2 : Int32) * x6)) < 0 ∨ 640 ≤ ((600 : Int32) + ((2 : Int32) * x6)).toNatClampNeg then none else (if (((600 : Int32) + ((2 : Int32) * x6)) + (1 : Int32)) < 0 ∨ 640 ≤ (((600 : Int32) + ((2 : Int32) * x6)) + (1 : Int32)).toNatClampNeg then none else (bnd ((x3 ||| (((x3 >>> ((gi x q0 (((600 : Int32) + ((2 : Int32) * x6)).toNatClampNeg)).toInt64 &&& 63)) &&& (1 : Int64)) <<< ((gi x q0 ((((600 : Int32) + ((2 : Int32) * x6)) + (1 : Int32)).toNatClampNeg)).toInt64 &&& 63)))) (fun v5 => bnd (x6 + (1 : Int32)) (fun v6 => D_X10_leads_19 x k7 n q0 x2 v5 x5 v6)))))
noncomputable def D_X10_leads_7 (x : MM) : Nat → Nat → Int32 → Int64 → Int32 → Option Int32
  | 0, _, _, _, _ => none
  | n + 1, q0, x2, x3, x5 => if (gi x q0 20) ≤ x5 then (if ((x3 >>> (x2.toInt64 &&& 63)) &&& (1 : Int64)) = (1 : Int64) then (some ((1 : Int32))) else (some ((0 : Int32)))) else (D_X10_leads_19 x (D_X10_leads_7 x n) FU q0 x2 x3 x5 (0 : Int32))
noncomputable def D_X10_leads (q0 : Nat) (x1 : Int32) (x2 : Int32) (x : MM) : Option Int32 := bnd (((1 : Int64) <<< (x1.toInt64 &&& 63))) (fun v1 => D_X10_leads_7 x FU q0 x2 v1 (0 : Int32))
set_option maxHeartbeats 4000000 in
set_option maxRecDepth 100000 in
theorem c_X10_leads (l : Launch) {D : va_G} {cs : Nat → ClassId} {adx : Nat → Nat} {Wf : MM → va_W} (hLx : Ln 9 adx (xsh cs adx) Wf) (hAd : ∀ a0_ b0_ : MM, (Wf a0_).map (fun q => q.1) = (Wf b0_).map (fun q => q.1)) (x : MM) (q0 : Nat) (haq0 : 1 ≤ q0) (hbq0 : q0 < 6) (x1 : Int32) (x2 : Int32) {rr : Int32} (hD : D_X10_leads q0 x1 x2 x = some (rr)) : Ct l yX10_leads cX10_leads 7 (some .boolean) 0 0 D cs [.ref (adx q0), .int x1, .int x2] (Wf x) (Wf x) (some (.int rr)) := by
  refine Ct.ofW (by decide) (Nat.le_of_ble_eq_true rfl) rfl ?_
  intro p e s m0 below meth c A Q ls args hx hb hr hml hlocks hown hts hK hP hD1 hSS hS hA1 hl hret
  have hT : ∀ w ∈ TBL, w.before args s = true := fun w h => hts w (List.mem_cons_of_mem _ h)
  have Fx0 : Fx p l m0 c cX10_leads 7 s args yX10_leads cX10_leads 7 (some .boolean) D cs A := ⟨hx, hb, hml, hown, hts, hK, hSS⟩
  have hown : s.vm.findClass RX10 = some m0.cls := hown
  have hl : lv_has ls 7 [(0, .ref (adx q0)), (1, .int x1), (2, .int x2)] := hl
  unfold D_X10_leads at hD
  have c_19 : ∀ (k7 : Nat → Int32 → Int64 → Int32 → Option Int32) (hk7 : ∀ (q0 : Nat) (x2 : Int32) (x3 : Int64) (x5 : Int32) (H : Heap) (locs : List Loc) (ls : Array Slot), k7 q0 x2 x3 x5 = some (rr) → 1 ≤ q0 → q0 < 6 → va_P D vwCl (Wf x) H → va_S A s.heap H locs → lv_has ls 7 [(0, .ref (adx q0)), (2, .int x2), (3, .long x3), (5, .int x5)] → W p l e ({ frames := 0, cells := 0, slots := 0, locals := 0 } : Room) s m0 args below meth c H locs 0 0 Q (F0 m0 7 ls [])) (n : Nat), ∀ (q0 : Nat) (x2 : Int32) (x3 : Int64) (x5 : Int32) (x6 : Int32) (H : Heap) (locs : List Loc) (ls : Array Slot), D_X10_leads_19 x k7 n q0 x2 x3 x5 x6 = some (rr) → 1 ≤ q0 → q0 < 6 → va_P D vwCl (Wf x) H → va_S A s.heap H locs → lv_has ls 7 [(0, .ref (adx q0)), (2, .int x2), (3, .long x3), (5, .int x5), (6, .int x6)] → W p l e ({ frames := 0, cells := 0, slots := 0, locals := 0 } : Room) s m0 args below meth c H locs 0 0 Q (F0 m0 19 ls []) := by
    intro k7 hk7 n
    induction n with
    | zero =>
      intro q0 x2 x3 x5 x6 H locs ls hD haq0 hbq0 hP hS hl
      exact nn_el hD
    | succ n ih =>
      intro q0 x2 x3 x5 x6 H locs ls hD haq0 hbq0 hP hS hl
      rw [D_X10_leads_19] at hD
      refine lv_iload hx hb dX10_leads_19 (lv_at hl 4 rfl) ?_
      refine lv_aload_n hx hb dX10_leads_21 rfl (lv_at hl 0 rfl) ?_
      refine lv_bipush (v := (20 : Int32)) hx hb dX10_leads_22 (by decide) ?_
      refine riald  hx hb hK hP hLx q0 (xaq hbq0) ((xar haq0 hbq0) _ _) (by decide) (j := 20) (by decide) dX10_leads_24 ?_
      refine lv_icmp_ge (tgt := 64) hx hb dX10_leads_25 (by decide) (fun c => ?_) (fun c => ?_)
      · have hD := ifp hD c
        obtain ⟨v2, ev2, hD⟩ := bnd_el hD
        refine lv_iinc (v := v2) (lv' := [(5, .int v2), (0, .ref (adx q0)), (2, .int x2), (3, .long x3), (6, .int x6)]) hx hb dX10_leads_64 hl (k := 3) rfl (by rw [ev2]; rfl) (by decide) rfl (fun ls hl => ?_)
        refine lv_goto (tgt := 7) hx hb dX10_leads_67 (by decide) ?_
        exact hk7 _ _ _ _ _ _ _ hD haq0 hbq0 hP hS (lv_sub hl [1, 2, 3, 0] rfl)
      · have hD := ifn hD c
        refine lv_lload_n hx hb dX10_leads_28 rfl (lv_at hl 2 rfl) ?_
        refine lv_lload_n hx hb dX10_leads_29 rfl (lv_at hl 2 rfl) ?_
        refine lv_aload_n hx hb dX10_leads_30 rfl (lv_at hl 0 rfl) ?_
        refine lv_sipush (v := (600 : Int32)) hx hb dX10_leads_31 (by decide) ?_
        refine lv_iconst (v := (2 : Int32)) hx hb dX10_leads_34 (by decide) ?_
        refine lv_iload hx hb dX10_leads_35 (lv_at hl 4 rfl) ?_
        refine lv_imul hx hb dX10_leads_37 ?_
        refine lv_iadd hx hb dX10_leads_38 ?_
        obtain ⟨h3, hD⟩ := gd_el hD
        refine riald  hx hb hK hP hLx q0 (xaq hbq0) ((xar haq0 hbq0) _ _) h3 rfl dX10_leads_39 ?_
        refine lv_lshr (v := (x3 >>> ((gi x q0 (((600 : Int32) + ((2 : Int32) * x6)).toNatClampNeg)).toInt64 &&& 63))) hx hb dX10_leads_40 rfl ?_
        refine lv_lconst (v := (1 : Int64)) hx hb dX10_leads_41 (by decide) ?_
        refine lv_land hx hb dX10_leads_42 ?_
        refine lv_aload_n hx hb dX10_leads_43 rfl (lv_at hl 0 rfl) ?_
        refine lv_sipush (v := (600 : Int32)) hx hb dX10_leads_44 (by decide) ?_
        refine lv_iconst (v := (2 : Int32)) hx hb dX10_leads_47 (by decide) ?_
        refine lv_iload hx hb dX10_leads_48 (lv_at hl 4 rfl) ?_
        refine lv_imul hx hb dX10_leads_50 ?_
        refine lv_iadd hx hb dX10_leads_51 ?_
        refine lv_iconst (v := (1 : Int32)) hx hb dX10_leads_52 (by decide) ?_
        refine lv_iadd hx hb dX10_leads_53 ?_
        obtain ⟨h4, hD⟩ := gd_el hD
        refine riald  hx hb hK hP hLx q0 (xaq hbq0) ((xar haq0 hbq0) _ _) h4 rfl dX10_leads_54 ?_
        refine lv_lshl (v := (((x3 >>> ((gi x q0 (((600 : Int32) + ((2 : Int32) * x6)).toNatClampNeg)).toInt64 &&& 63)) &&& (1 : Int64)) <<< ((gi x q0 ((((600 : Int32) + ((2 : Int32) * x6)) + (1 : Int32)).toNatClampNeg)).toInt64 &&& 63))) hx hb dX10_leads_55 rfl ?_
        refine lv_lor hx hb dX10_leads_56 ?_
        obtain ⟨v5, ev5, hD⟩ := bnd_el hD
        refine lv_nml ev5 ?_
        refine lv_lstore_n (lv' := [(3, .long v5), (0, .ref (adx q0)), (2, .int x2), (5, .int x5), (6, .int x6)]) hx hb dX10_leads_57 rfl hl (by decide) rfl (fun ls hl => ?_)
        obtain ⟨v6, ev6, hD⟩ := bnd_el hD
        refine lv_iinc (v := v6) (lv' := [(6, .int v6), (3, .long v5), (0, .ref (adx q0)), (2, .int x2), (5, .int x5)]) hx hb dX10_leads_58 hl (k := 4) rfl (by rw [ev6]; rfl) (by decide) rfl (fun ls hl => ?_)
        refine lv_goto (tgt := 19) hx hb dX10_leads_61 (by decide) ?_
        exact ih _ _ _ _ _ _ _ _ hD haq0 hbq0 hP hS (lv_sub hl [2, 3, 1, 4, 0] rfl)
  have c_7 : ∀ (n : Nat), ∀ (q0 : Nat) (x2 : Int32) (x3 : Int64) (x5 : Int32) (H : Heap) (locs : List Loc) (ls : Array Slot), D_X10_leads_7 x n q0 x2 x3 x5 = some (rr) → 1 ≤ q0 → q0 < 6 → va_P D vwCl (Wf x) H → va_S A s.heap H locs → lv_has ls 7 [(0, .ref (adx q0)), (2, .int x2), (3, .long x3), (5, .int x5)] → W p l e ({ frames := 0, cells := 0, slots := 0, locals := 0 } : Room) s m0 args below meth c H locs 0 0 Q (F0 m0 7 ls []) := by
    intro n
    induction n with
    | zero =>
      intro q0 x2 x3 x5 H locs ls hD haq0 hbq0 hP hS hl
      exact nn_el hD
    | succ n ih =>
      intro q0 x2 x3 x5 H locs ls hD haq0 hbq0 hP hS hl
      rw [D_X10_leads_7] at hD
      refine lv_iload hx hb dX10_leads_7 (lv_at hl 3 rfl) ?_
      refine lv_aload_n hx hb dX10_leads_9 rfl (lv_at hl 0 rfl) ?_
      refine lv_bipush (v := (20 : Int32)) hx hb dX10_leads_10 (by decide) ?_
      refine riald  hx hb hK hP hLx q0 (xaq hbq0) ((xar haq0 hbq0) _ _) (by decide) (j := 20) (by decide) dX10_leads_12 ?_
      refine lv_icmp_ge (tgt := 70) hx hb dX10_leads_13 (by decide) (fun c => ?_) (fun c => ?_)
      · have hD := ifp hD c
        refine lv_lload_n hx hb dX10_leads_70 rfl (lv_at hl 2 rfl) ?_
        refine lv_iload_n hx hb dX10_leads_71 rfl (lv_at hl 1 rfl) ?_
        refine lv_lshr (v := (x3 >>> (x2.toInt64 &&& 63))) hx hb dX10_leads_72 rfl ?_
        refine lv_lconst (v := (1 : Int64)) hx hb dX10_leads_73 (by decide) ?_
        refine lv_land hx hb dX10_leads_74 ?_
        refine lv_lconst (v := (1 : Int64)) hx hb dX10_leads_75 (by decide) ?_
        refine rlc_ne (tgt := 84) hx hb dX10_leads_76 dX10_leads_77 (by decide) (fun c => ?_) (fun c => ?_)
        · have hD := ifn hD c
          refine lv_iconst (v := (0 : Int32)) hx hb dX10_leads_84 (by decide) ?_
          obtain rfl := es1 hD
          exact hret _ _ _ hP hS (fun Qc hq => W.zret hx hb hr rfl hq hS.2.2 dX10_leads_85 hlocks)
        · have hD := ifp hD c
          refine lv_iconst (v := (1 : Int32)) hx hb dX10_leads_80 (by decide) ?_
          refine lv_goto (tgt := 85) hx hb dX10_leads_81 (by decide) ?_
          obtain rfl := es1 hD
          exact hret _ _ _ hP hS (fun Qc hq => W.zret hx hb hr rfl hq hS.2.2 dX10_leads_85 hlocks)
      · have hD := ifn hD c
        refine lv_iconst (v := (0 : Int32)) hx hb dX10_leads_16 (by decide) ?_
        refine lv_istore (lv' := [(6, .int (0 : Int32)), (0, .ref (adx q0)), (2, .int x2), (3, .long x3), (5, .int x5)]) hx hb dX10_leads_17 hl (by decide) rfl (fun ls hl => ?_)
        exact c_19 _ ih FU _ _ _ _ _ _ _ _ hD haq0 hbq0 hP hS (lv_sub hl [1, 2, 3, 4, 0] rfl)
  refine lv_lconst (v := (1 : Int64)) hx hb dX10_leads_0 (by decide) ?_
  refine lv_iload_n hx hb dX10_leads_1 rfl (lv_at hl 1 rfl) ?_
  refine lv_lshl (v := ((1 : Int64) <<< (x1.toInt64 &&& 63))) hx hb dX10_leads_2 rfl ?_
  obtain ⟨v1, ev1, hD⟩ := bnd_el hD
  refine lv_nml ev1 ?_
  refine lv_lstore_n (lv' := [(3, .long v1), (0, .ref (adx q0)), (1, .int x1), (2, .int x2)]) hx hb dX10_leads_3 rfl hl (by decide) rfl (fun ls hl => ?_)
  refine lv_iconst (v := (0 : Int32)) hx hb dX10_leads_4 (by decide) ?_
  refine lv_istore (lv' := [(5, .int (0 : Int32)), (3, .long v1), (0, .ref (adx q0)), (1, .int x1), (2, .int x2)]) hx hb dX10_leads_5 hl (by decide) rfl (fun ls hl => ?_)
  exact c_7 FU _ _ _ _ _ _ _ hD haq0 hbq0 hP hS (lv_sub hl [2, 4, 1, 0] rfl)

noncomputable def D_X10_addsPair (q0 : Nat) (x1 : Int32) (x2 : Int32) (x : MM) : Option MM := if ((600 : Int32) + ((2 : Int32) * (gi x q0 20))) < 0 ∨ 640 ≤ ((600 : Int32) + ((2 : Int32) * (gi x q0 20))).toNatClampNeg then none else (bnd (si x q0 (((600 : Int32) + ((2 : Int32) * (gi x q0 20))).toNatClampNeg) x1) (fun m2 => if (((600 : Int32) + ((2 : Int32) * (gi m2 q0 20))) + (1 : Int32)) < 0 ∨ 640 ≤ (((600 : Int32) + ((2 : Int32) * (gi m2 q0 20))) + (1 : Int32)).toNatClampNeg then none else (bnd (si m2 q0 ((((600 : Int32) + ((2 : Int32) * (gi m2 q0 20))) + (1 : Int32)).toNatClampNeg) x2) (fun m4 => bnd (si m4 q0 20 ((gi m4 q0 20) + (1 : Int32))) (fun m5 => some (m5))))))
set_option maxHeartbeats 4000000 in
set_option maxRecDepth 100000 in
theorem c_X10_addsPair (l : Launch) {D : va_G} {cs : Nat → ClassId} {adx : Nat → Nat} {Wf : MM → va_W} (hLx : Ln 9 adx (xsh cs adx) Wf) (hAd : ∀ a0_ b0_ : MM, (Wf a0_).map (fun q => q.1) = (Wf b0_).map (fun q => q.1)) (x : MM) (q0 : Nat) (haq0 : 1 ≤ q0) (hbq0 : q0 < 6) (x1 : Int32) (x2 : Int32) {x' : MM} (hD : D_X10_addsPair q0 x1 x2 x = some (x')) : Ct l yX10_addsPair cX10_addsPair 3 none 0 0 D cs [.ref (adx q0), .int x1, .int x2] (Wf x) (Wf x') (none) := by
  refine Ct.ofW (by decide) (Nat.le_of_ble_eq_true rfl) (hAd _ _) ?_
  intro p e s m0 below meth c A Q ls args hx hb hr hml hlocks hown hts hK hP hD1 hSS hS hA1 hl hret
  have hT : ∀ w ∈ TBL, w.before args s = true := fun w h => hts w (List.mem_cons_of_mem _ h)
  have Fx0 : Fx p l m0 c cX10_addsPair 3 s args yX10_addsPair cX10_addsPair 3 none D cs A := ⟨hx, hb, hml, hown, hts, hK, hSS⟩
  have hown : s.vm.findClass RX10 = some m0.cls := hown
  have hl : lv_has ls 3 [(0, .ref (adx q0)), (1, .int x1), (2, .int x2)] := hl
  unfold D_X10_addsPair at hD
  refine lv_aload_n hx hb dX10_addsPair_0 rfl (lv_at hl 0 rfl) ?_
  refine lv_sipush (v := (600 : Int32)) hx hb dX10_addsPair_1 (by decide) ?_
  refine lv_iconst (v := (2 : Int32)) hx hb dX10_addsPair_4 (by decide) ?_
  refine lv_aload_n hx hb dX10_addsPair_5 rfl (lv_at hl 0 rfl) ?_
  refine lv_bipush (v := (20 : Int32)) hx hb dX10_addsPair_6 (by decide) ?_
  refine riald  hx hb hK hP hLx q0 (xaq hbq0) ((xar haq0 hbq0) _ _) (by decide) (j := 20) (by decide) dX10_addsPair_8 ?_
  refine lv_imul hx hb dX10_addsPair_9 ?_
  refine lv_iadd hx hb dX10_addsPair_10 ?_
  refine lv_iload_n hx hb dX10_addsPair_11 rfl (lv_at hl 1 rfl) ?_
  obtain ⟨h1, hD⟩ := gd_el hD
  obtain ⟨m2, em2, hD⟩ := bnd_el hD
  refine riast  hx hb hK hP (hD1 _ (hAd _ _)) hS hLx q0 (xaq hbq0) (fun _ => (xar haq0 hbq0) _ _) h1 rfl dX10_addsPair_12 em2 (fun H locs hP hS => ?_)
  refine lv_aload_n hx hb dX10_addsPair_13 rfl (lv_at hl 0 rfl) ?_
  refine lv_sipush (v := (600 : Int32)) hx hb dX10_addsPair_14 (by decide) ?_
  refine lv_iconst (v := (2 : Int32)) hx hb dX10_addsPair_17 (by decide) ?_
  refine lv_aload_n hx hb dX10_addsPair_18 rfl (lv_at hl 0 rfl) ?_
  refine lv_bipush (v := (20 : Int32)) hx hb dX10_addsPair_19 (by decide) ?_
  refine riald  hx hb hK hP hLx q0 (xaq hbq0) ((xar haq0 hbq0) _ _) (by decide) (j := 20) (by decide) dX10_addsPair_21 ?_
  refine lv_imul hx hb dX10_addsPair_22 ?_
  refine lv_iadd hx hb dX10_addsPair_23 ?_
  refine lv_iconst (v := (1 : Int32)) hx hb dX10_addsPair_24 (by decide) ?_
  refine lv_iadd hx hb dX10_addsPair_25 ?_
  refine lv_iload_n hx hb dX10_addsPair_26 rfl (lv_at hl 2 rfl) ?_
  obtain ⟨h3, hD⟩ := gd_el hD
  obtain ⟨m4, em4, hD⟩ := bnd_el hD
  refine riast  hx hb hK hP (hD1 _ (hAd _ _)) hS hLx q0 (xaq hbq0) (fun _ => (xar haq0 hbq0) _ _) h3 rfl dX10_addsPair_27 em4 (fun H locs hP hS => ?_)
  refine lv_aload_n hx hb dX10_addsPair_28 rfl (lv_at hl 0 rfl) ?_
  refine lv_bipush (v := (20 : Int32)) hx hb dX10_addsPair_29 (by decide) ?_
  refine lv_dup2_11 hx hb dX10_addsPair_31 rfl rfl ?_
  refine riald  hx hb hK hP hLx q0 (xaq hbq0) ((xar haq0 hbq0) _ _) (by decide) (j := 20) (by decide) dX10_addsPair_32 ?_
  refine lv_iconst (v := (1 : Int32)) hx hb dX10_addsPair_33 (by decide) ?_
  refine lv_iadd hx hb dX10_addsPair_34 ?_
  obtain ⟨m5, em5, hD⟩ := bnd_el hD
  refine riast  hx hb hK hP (hD1 _ (hAd _ _)) hS hLx q0 (xaq hbq0) (fun _ => (xar haq0 hbq0) _ _) (by decide) (j := 20) (by decide) dX10_addsPair_35 em5 (fun H locs hP hS => ?_)
  obtain rfl := es1 hD
  exact hret _ _ _ hP hS (fun Qc hq => W.vret hx hb hr hq hS.2.2 dX10_addsPair_36 hlocks)

noncomputable def D_X10_readBefore (x1 : Int32) (x : MM) : Option (Int32 × MM) := b2 (D_X10_isRoom x1 (20 : Int32) (20 : Int32) x) (fun v1 m2 => if v1 = 0 then (some ((0 : Int32), m2)) else (b2 (D_X10_reads (0 : Int32) ((gi m2 3 19) - (1 : Int32)) m2) (fun v4 m5 => if v4 = 0 then (some ((0 : Int32), m5)) else (bnd ((gi m5 0 14)) (fun v7 => b2 (D_X10_reads (0 : Int32) ((gi m5 3 19) - (1 : Int32)) m5) (fun v8 m9 => if v8 = 0 then (some ((0 : Int32), m9)) else (b1 (D_X10_leads 3 (gi m9 0 14) v7 m9) (fun v11 => if v11 = 0 then (b1 (D_X10_pairIn 3 v7 (gi m9 0 14) m9) (fun v13 => if v13 = (-1 : Int32) then (b1 (D_X10_addsPair 3 v7 (gi m9 0 14) m9) (fun m15 => some ((1 : Int32), m15))) else (some ((1 : Int32), m9)))) else (b2 (D_X10_fails (4 : Int32) m9) (fun v17 m18 => if v17 = 0 ∨ v17 = 1 then some (v17, m18) else none))))))))))
set_option maxHeartbeats 4000000 in
set_option maxRecDepth 100000 in
theorem c_X10_readBefore (l : Launch) {D : va_G} {cs : Nat → ClassId} {adx : Nat → Nat} {Wf : MM → va_W} (hLx : Ln 9 adx (xsh cs adx) Wf) (hAd : ∀ a0_ b0_ : MM, (Wf a0_).map (fun q => q.1) = (Wf b0_).map (fun q => q.1)) (x : MM) (x1 : Int32) {rr : Int32} {x' : MM} (hD : D_X10_readBefore x1 x = some (rr, x')) : Ct l yX10_readBefore cX10_readBefore 3 (some .boolean) 3 70 D cs [.ref (adx 0), .int x1] (Wf x) (Wf x') (some (.int rr)) := by
  refine Ct.ofW (by decide) (Nat.le_of_ble_eq_true rfl) (hAd _ _) ?_
  intro p e s m0 below meth c A Q ls args hx hb hr hml hlocks hown hts hK hP hD1 hSS hS hA1 hl hret
  have hT : ∀ w ∈ TBL, w.before args s = true := fun w h => hts w (List.mem_cons_of_mem _ h)
  have Fx0 : Fx p l m0 c cX10_readBefore 3 s args yX10_readBefore cX10_readBefore 3 (some .boolean) D cs A := ⟨hx, hb, hml, hown, hts, hK, hSS⟩
  have hown : s.vm.findClass RX10 = some m0.cls := hown
  have hl : lv_has ls 3 [(0, .ref (adx 0)), (1, .int x1)] := hl
  unfold D_X10_readBefore at hD
  refine lv_aload_n hx hb dX10_readBefore_0 rfl (lv_at hl 0 rfl) ?_
  refine lv_iload_n hx hb dX10_readBefore_1 rfl (lv_at hl 1 rfl) ?_
  refine lv_bipush (v := (20 : Int32)) hx hb dX10_readBefore_2 (by decide) ?_
  refine lv_bipush (v := (20 : Int32)) hx hb dX10_readBefore_4 (by decide) ?_
  obtain ⟨v1, m2, z3, hD⟩ := b2_el hD
  refine rcV  (As := [.int x1, .int (20 : Int32), .int (20 : Int32)]) (rest := []) Fx0 (c_X10_isRoom l hLx hAd x x1 (20 : Int32) (20 : Int32) z3) hP (hD1 _ (hAd _ _)) hS (hA1 _ _ (hAd _ _) hS.1) hLx (Nat.le_of_ble_eq_true rfl) (xs0 _ _) rfl tw_7_118 tw_7_115 tw_7_117 ts_99 tw_1_13 yd_X10_isRoom ⟨(Nat.le_of_ble_eq_true rfl), (Nat.le_of_ble_eq_true rfl)⟩ rfl hl.1 rfl (Nat.le_of_ble_eq_true rfl) dX10_readBefore_6 (fun H locs hP hS => ?_)
  refine lv_if_eq (tgt := 29) hx hb dX10_readBefore_9 (by decide) (fun c => ?_) (fun c => ?_)
  · have hD := ifp hD c
    refine lv_iconst (v := (0 : Int32)) hx hb dX10_readBefore_29 (by decide) ?_
    obtain ⟨rfl, rfl⟩ := es2 hD
    exact hret _ _ _ hP hS (fun Qc hq => W.zret hx hb hr rfl hq hS.2.2 dX10_readBefore_30 hlocks)
  · have hD := ifn hD c
    refine lv_aload_n hx hb dX10_readBefore_12 rfl (lv_at hl 0 rfl) ?_
    refine lv_iconst (v := (0 : Int32)) hx hb dX10_readBefore_13 (by decide) ?_
    refine lv_aload_n hx hb dX10_readBefore_14 rfl (lv_at hl 0 rfl) ?_
    refine rg  hx hb hT hu10 hown hK hP hLx 0 2 (Nat.le_of_ble_eq_true rfl) (xs0 _ _) rfl (Nat.le_of_ble_eq_true rfl) (Fx0.T tw_6_217) rfl (v := .ref (adx 3)) rfl dX10_readBefore_15 ?_
    refine lv_bipush (v := (19 : Int32)) hx hb dX10_readBefore_18 (by decide) ?_
    refine riald  hx hb hK hP hLx 3 (Nat.le_of_ble_eq_true rfl) (xs3 _ _) (by decide) (j := 19) (by decide) dX10_readBefore_20 ?_
    refine lv_iconst (v := (1 : Int32)) hx hb dX10_readBefore_21 (by decide) ?_
    refine lv_isub hx hb dX10_readBefore_22 ?_
    obtain ⟨v4, m5, z6, hD⟩ := b2_el hD
    refine rcV  (As := [.int (0 : Int32), .int ((gi m2 3 19) - (1 : Int32))]) (rest := []) Fx0 (c_X10_reads l hLx hAd m2 (0 : Int32) ((gi m2 3 19) - (1 : Int32)) z6) hP (hD1 _ (hAd _ _)) hS (hA1 _ _ (hAd _ _) hS.1) hLx (Nat.le_of_ble_eq_true rfl) (xs0 _ _) rfl tw_7_83 tw_7_80 tw_7_82 ts_94 tw_1_13 yd_X10_reads ⟨(Nat.le_of_ble_eq_true rfl), (Nat.le_of_ble_eq_true rfl)⟩ rfl hl.1 rfl (Nat.le_of_ble_eq_true rfl) dX10_readBefore_23 (fun H locs hP hS => ?_)
    refine lv_if_ne (tgt := 31) hx hb dX10_readBefore_26 (by decide) (fun c => ?_) (fun c => ?_)
    · have hD := ifn hD c
      refine lv_aload_n hx hb dX10_readBefore_31 rfl (lv_at hl 0 rfl) ?_
      refine rg  hx hb hT hu10 hown hK hP hLx 0 14 (Nat.le_of_ble_eq_true rfl) (xs0 _ _) rfl (Nat.le_of_ble_eq_true rfl) (Fx0.T tw_6_229) rfl (v := .int (gi m5 0 14)) rfl dX10_readBefore_32 ?_
      obtain ⟨v7, ev7, hD⟩ := bnd_el hD
      refine lv_nmi ev7 ?_
      refine lv_istore_n (lv' := [(2, .int v7), (0, .ref (adx 0)), (1, .int x1)]) hx hb dX10_readBefore_35 rfl hl (by decide) rfl (fun ls hl => ?_)
      refine lv_aload_n hx hb dX10_readBefore_36 rfl (lv_at hl 1 rfl) ?_
      refine lv_iconst (v := (0 : Int32)) hx hb dX10_readBefore_37 (by decide) ?_
      refine lv_aload_n hx hb dX10_readBefore_38 rfl (lv_at hl 1 rfl) ?_
      refine rg  hx hb hT hu10 hown hK hP hLx 0 2 (Nat.le_of_ble_eq_true rfl) (xs0 _ _) rfl (Nat.le_of_ble_eq_true rfl) (Fx0.T tw_6_217) rfl (v := .ref (adx 3)) rfl dX10_readBefore_39 ?_
      refine lv_bipush (v := (19 : Int32)) hx hb dX10_readBefore_42 (by decide) ?_
      refine riald  hx hb hK hP hLx 3 (Nat.le_of_ble_eq_true rfl) (xs3 _ _) (by decide) (j := 19) (by decide) dX10_readBefore_44 ?_
      refine lv_iconst (v := (1 : Int32)) hx hb dX10_readBefore_45 (by decide) ?_
      refine lv_isub hx hb dX10_readBefore_46 ?_
      obtain ⟨v8, m9, z10, hD⟩ := b2_el hD
      refine rcV  (As := [.int (0 : Int32), .int ((gi m5 3 19) - (1 : Int32))]) (rest := []) Fx0 (c_X10_reads l hLx hAd m5 (0 : Int32) ((gi m5 3 19) - (1 : Int32)) z10) hP (hD1 _ (hAd _ _)) hS (hA1 _ _ (hAd _ _) hS.1) hLx (Nat.le_of_ble_eq_true rfl) (xs0 _ _) rfl tw_7_83 tw_7_80 tw_7_82 ts_94 tw_1_13 yd_X10_reads ⟨(Nat.le_of_ble_eq_true rfl), (Nat.le_of_ble_eq_true rfl)⟩ rfl hl.1 rfl (Nat.le_of_ble_eq_true rfl) dX10_readBefore_47 (fun H locs hP hS => ?_)
      refine lv_if_ne (tgt := 55) hx hb dX10_readBefore_50 (by decide) (fun c => ?_) (fun c => ?_)
      · have hD := ifn hD c
        refine lv_aload_n hx hb dX10_readBefore_55 rfl (lv_at hl 1 rfl) ?_
        refine rg  hx hb hT hu10 hown hK hP hLx 0 2 (Nat.le_of_ble_eq_true rfl) (xs0 _ _) rfl (Nat.le_of_ble_eq_true rfl) (Fx0.T tw_6_217) rfl (v := .ref (adx 3)) rfl dX10_readBefore_56 ?_
        refine lv_aload_n hx hb dX10_readBefore_59 rfl (lv_at hl 1 rfl) ?_
        refine rg  hx hb hT hu10 hown hK hP hLx 0 14 (Nat.le_of_ble_eq_true rfl) (xs0 _ _) rfl (Nat.le_of_ble_eq_true rfl) (Fx0.T tw_6_229) rfl (v := .int (gi m9 0 14)) rfl dX10_readBefore_60 ?_
        refine lv_iload_n hx hb dX10_readBefore_63 rfl (lv_at hl 0 rfl) ?_
        obtain ⟨v11, z12, hD⟩ := b1_el hD
        refine rcS (As := [.ref (adx 3), .int (gi m9 0 14), .int v7]) (rest := []) Fx0 (c_X10_leads l hLx hAd m9 3 (by decide) (by decide) (gi m9 0 14) v7 z12) hP (hD1 _ (hAd _ _)) hS (hA1 _ _ (hAd _ _) hS.1) tw_7_121 tw_7_119 tw_7_120 tw_1_13 yd_X10_leads ⟨(Nat.le_of_ble_eq_true rfl), (Nat.le_of_ble_eq_true rfl)⟩ rfl hl.1 rfl (Nat.le_of_ble_eq_true rfl) dX10_readBefore_64 (fun H locs hP hS => ?_)
        refine lv_if_eq (tgt := 76) hx hb dX10_readBefore_67 (by decide) (fun c => ?_) (fun c => ?_)
        · have hD := ifp hD c
          refine lv_aload_n hx hb dX10_readBefore_76 rfl (lv_at hl 1 rfl) ?_
          refine rg  hx hb hT hu10 hown hK hP hLx 0 2 (Nat.le_of_ble_eq_true rfl) (xs0 _ _) rfl (Nat.le_of_ble_eq_true rfl) (Fx0.T tw_6_217) rfl (v := .ref (adx 3)) rfl dX10_readBefore_77 ?_
          refine lv_iload_n hx hb dX10_readBefore_80 rfl (lv_at hl 0 rfl) ?_
          refine lv_aload_n hx hb dX10_readBefore_81 rfl (lv_at hl 1 rfl) ?_
          refine rg  hx hb hT hu10 hown hK hP hLx 0 14 (Nat.le_of_ble_eq_true rfl) (xs0 _ _) rfl (Nat.le_of_ble_eq_true rfl) (Fx0.T tw_6_229) rfl (v := .int (gi m9 0 14)) rfl dX10_readBefore_82 ?_
          obtain ⟨v13, z14, hD⟩ := b1_el hD
          refine rcS (As := [.ref (adx 3), .int v7, .int (gi m9 0 14)]) (rest := []) Fx0 (c_X10_pairIn l hLx hAd m9 3 (by decide) (by decide) v7 (gi m9 0 14) z14) hP (hD1 _ (hAd _ _)) hS (hA1 _ _ (hAd _ _) hS.1) tw_7_124 tw_7_122 tw_7_123 tw_1_13 yd_X10_pairIn ⟨(Nat.le_of_ble_eq_true rfl), (Nat.le_of_ble_eq_true rfl)⟩ rfl hl.1 rfl (Nat.le_of_ble_eq_true rfl) dX10_readBefore_85 (fun H locs hP hS => ?_)
          refine lv_iconst (v := (-1 : Int32)) hx hb dX10_readBefore_88 (by decide) ?_
          refine lv_icmp_ne (tgt := 104) hx hb dX10_readBefore_89 (by decide) (fun c => ?_) (fun c => ?_)
          · have hD := ifn hD c
            refine lv_iconst (v := (1 : Int32)) hx hb dX10_readBefore_104 (by decide) ?_
            obtain ⟨rfl, rfl⟩ := es2 hD
            exact hret _ _ _ hP hS (fun Qc hq => W.zret hx hb hr rfl hq hS.2.2 dX10_readBefore_105 hlocks)
          · have hD := ifp hD c
            refine lv_aload_n hx hb dX10_readBefore_92 rfl (lv_at hl 1 rfl) ?_
            refine rg  hx hb hT hu10 hown hK hP hLx 0 2 (Nat.le_of_ble_eq_true rfl) (xs0 _ _) rfl (Nat.le_of_ble_eq_true rfl) (Fx0.T tw_6_217) rfl (v := .ref (adx 3)) rfl dX10_readBefore_93 ?_
            refine lv_iload_n hx hb dX10_readBefore_96 rfl (lv_at hl 0 rfl) ?_
            refine lv_aload_n hx hb dX10_readBefore_97 rfl (lv_at hl 1 rfl) ?_
            refine rg  hx hb hT hu10 hown hK hP hLx 0 14 (Nat.le_of_ble_eq_true rfl) (xs0 _ _) rfl (Nat.le_of_ble_eq_true rfl) (Fx0.T tw_6_229) rfl (v := .int (gi m9 0 14)) rfl dX10_readBefore_98 ?_
            obtain ⟨m15, z16, hD⟩ := b1_el hD
            refine rcS (As := [.ref (adx 3), .int v7, .int (gi m9 0 14)]) (rest := []) Fx0 (c_X10_addsPair l hLx hAd m9 3 (by decide) (by decide) v7 (gi m9 0 14) z16) hP (hD1 _ (hAd _ _)) hS (hA1 _ _ (hAd _ _) hS.1) tw_7_127 tw_7_125 tw_7_126 tw_1_13 yd_X10_addsPair ⟨(Nat.le_of_ble_eq_true rfl), (Nat.le_of_ble_eq_true rfl)⟩ rfl hl.1 rfl (Nat.le_of_ble_eq_true rfl) dX10_readBefore_101 (fun H locs hP hS => ?_)
            refine lv_iconst (v := (1 : Int32)) hx hb dX10_readBefore_104 (by decide) ?_
            obtain ⟨rfl, rfl⟩ := es2 hD
            exact hret _ _ _ hP hS (fun Qc hq => W.zret hx hb hr rfl hq hS.2.2 dX10_readBefore_105 hlocks)
        · have hD := ifn hD c
          refine lv_aload_n hx hb dX10_readBefore_70 rfl (lv_at hl 1 rfl) ?_
          refine lv_iconst (v := (4 : Int32)) hx hb dX10_readBefore_71 (by decide) ?_
          obtain ⟨v17, m18, z19, hD⟩ := b2_el hD
          refine rcV  (As := [.int (4 : Int32)]) (rest := []) Fx0 (c_X10_fails l hLx hAd m9 (4 : Int32) z19) hP (hD1 _ (hAd _ _)) hS (hA1 _ _ (hAd _ _) hS.1) hLx (Nat.le_of_ble_eq_true rfl) (xs0 _ _) rfl tw_7_75 tw_7_72 tw_7_74 ts_92 tw_1_13 yd_X10_fails ⟨(Nat.le_of_ble_eq_true rfl), (Nat.le_of_ble_eq_true rfl)⟩ rfl hl.1 rfl (Nat.le_of_ble_eq_true rfl) dX10_readBefore_72 (fun H locs hP hS => ?_)
          obtain ⟨h20, hD⟩ := gb_el hD
          obtain ⟨rfl, rfl⟩ := es2 hD
          exact hret _ _ _ hP hS (fun Qc hq => W.zret hx hb hr (nbz h20).1 hq hS.2.2 dX10_readBefore_75 hlocks)
      · have hD := ifp hD c
        refine lv_iconst (v := (0 : Int32)) hx hb dX10_readBefore_53 (by decide) ?_
        obtain ⟨rfl, rfl⟩ := es2 hD
        exact hret _ _ _ hP hS (fun Qc hq => W.zret hx hb hr rfl hq hS.2.2 dX10_readBefore_54 hlocks)
    · have hD := ifp hD c
      refine lv_iconst (v := (0 : Int32)) hx hb dX10_readBefore_29 (by decide) ?_
      obtain ⟨rfl, rfl⟩ := es2 hD
      exact hret _ _ _ hP hS (fun Qc hq => W.zret hx hb hr rfl hq hS.2.2 dX10_readBefore_30 hlocks)

noncomputable def D_X10_readStatement (x : MM) : Option (Int32 × MM) := b2 (D_X10_see x) (fun v1 m2 => bnd ((gi m2 0 10)) (fun v4 => b2 (D_X10_takes 1 m2) (fun v5 m6 => if v5 = 0 then (b2 (D_X10_takes 2 m6) (fun v8 m9 => if v8 = 0 then (b2 (D_X10_takes 3 m9) (fun v11 m12 => if v11 = 0 then (b2 (D_X10_takes 4 m12) (fun v14 m15 => if v14 = 0 then (b2 (D_X10_takes 5 m15) (fun v17 m18 => if v17 = 0 then (b2 (D_X10_takes 6 m18) (fun v20 m21 => if v20 = 0 then (b2 (D_X10_takes 11 m21) (fun v23 m24 => if v23 = 0 then (b2 (D_X10_takes 7 m24) (fun v26 m27 => if v26 = 0 then (b2 (D_X10_takes 8 m27) (fun v29 m30 => if v29 = 0 then (b2 (D_X10_takes 9 m30) (fun v32 m33 => if v32 = 0 then (b2 (D_X10_takes 10 m33) (fun v35 m36 => if v35 = 0 then (b2 (D_X10_fails (1 : Int32) m36) (fun v38 m39 => if v38 = 0 ∨ v38 = 1 then some (v38, m39) else none)) else (b2 (D_X10_readSpot v4 m36) (fun v42 m43 => if v42 = 0 ∨ v42 = 1 then some (v42, m43) else none)))) else (b2 (D_X10_readFeeder v4 m33) (fun v46 m47 => if v46 = 0 ∨ v46 = 1 then some (v46, m47) else none)))) else (b2 (D_X10_readKind v4 m30) (fun v50 m51 => if v50 = 0 ∨ v50 = 1 then some (v50, m51) else none)))) else (b2 (D_X10_readNozzles m27) (fun v54 m55 => if v54 = 0 ∨ v54 = 1 then some (v54, m55) else none)))) else (b2 (D_X10_readBefore v4 m24) (fun v58 m59 => if v58 = 0 ∨ v58 = 1 then some (v58, m59) else none)))) else (b2 (D_X10_readsInto (12 : Int32) (0 : Int32) (200 : Int32) m21) (fun v62 m63 => if v62 = 0 then (some ((0 : Int32), m63)) else (b2 (D_X10_readsInto (13 : Int32) (0 : Int32) (100 : Int32) m63) (fun v65 m66 => if v65 = 0 then (some ((0 : Int32), m66)) else (b2 (D_X10_readsInto (14 : Int32) (0 : Int32) (200 : Int32) m66) (fun v68 m69 => if v68 = 0 then (some ((0 : Int32), m69)) else (some ((1 : Int32), m69)))))))))) else (b2 (D_X10_readsInto (11 : Int32) (0 : Int32) (20 : Int32) m18) (fun v71 m72 => if v71 = 0 ∨ v71 = 1 then some (v71, m72) else none)))) else (b2 (D_X10_readsInto (10 : Int32) (0 : Int32) (999999 : Int32) m15) (fun v75 m76 => if v75 = 0 ∨ v75 = 1 then some (v75, m76) else none)))) else (b2 (D_X10_readsInto (8 : Int32) (0 : Int32) (999 : Int32) m12) (fun v79 m80 => if v79 = 0 then (some ((0 : Int32), m80)) else (b2 (D_X10_readsInto (9 : Int32) (0 : Int32) (999 : Int32) m80) (fun v82 m83 => if v82 = 0 then (some ((0 : Int32), m83)) else (some ((1 : Int32), m83)))))))) else (b2 (D_X10_readsInto (5 : Int32) (0 : Int32) (100 : Int32) m9) (fun v85 m86 => if v85 = 0 then (some ((0 : Int32), m86)) else (b2 (D_X10_readsInto (6 : Int32) (0 : Int32) ((100 : Int32) - (gi m86 3 5)) m86) (fun v88 m89 => if v88 = 0 then (some ((0 : Int32), m89)) else (b2 (D_X10_readsInto (7 : Int32) (0 : Int32) (5 : Int32) m89) (fun v91 m92 => if v91 = 0 then (some ((0 : Int32), m92)) else (some ((1 : Int32), m92)))))))))) else (b2 (D_X10_readTimes m6) (fun v94 m95 => if v94 = 0 ∨ v94 = 1 then some (v94, m95) else none)))))
set_option maxHeartbeats 4000000 in
set_option maxRecDepth 100000 in
theorem c_X10_readStatement (l : Launch) {D : va_G} {cs : Nat → ClassId} {adx : Nat → Nat} {Wf : MM → va_W} (hLx : Ln 9 adx (xsh cs adx) Wf) (hAd : ∀ a0_ b0_ : MM, (Wf a0_).map (fun q => q.1) = (Wf b0_).map (fun q => q.1)) (x : MM) {rr : Int32} {x' : MM} (hD : D_X10_readStatement x = some (rr, x')) : Ct l yX10_readStatement cX10_readStatement 2 (some .boolean) 5 115 D cs [.ref (adx 0)] (Wf x) (Wf x') (some (.int rr)) := by
  refine Ct.ofW (by decide) (Nat.le_of_ble_eq_true rfl) (hAd _ _) ?_
  intro p e s m0 below meth c A Q ls args hx hb hr hml hlocks hown hts hK hP hD1 hSS hS hA1 hl hret
  have hT : ∀ w ∈ TBL, w.before args s = true := fun w h => hts w (List.mem_cons_of_mem _ h)
  have Fx0 : Fx p l m0 c cX10_readStatement 2 s args yX10_readStatement cX10_readStatement 2 (some .boolean) D cs A := ⟨hx, hb, hml, hown, hts, hK, hSS⟩
  have hown : s.vm.findClass RX10 = some m0.cls := hown
  have hl : lv_has ls 2 [(0, .ref (adx 0))] := hl
  unfold D_X10_readStatement at hD
  refine lv_aload_n hx hb dX10_readStatement_0 rfl (lv_at hl 0 rfl) ?_
  obtain ⟨v1, m2, z3, hD⟩ := b2_el hD
  refine rcV  (As := []) (rest := []) Fx0 (c_X10_see l hLx hAd x z3) hP (hD1 _ (hAd _ _)) hS (hA1 _ _ (hAd _ _) hS.1) hLx (Nat.le_of_ble_eq_true rfl) (xs0 _ _) rfl tw_7_56 tw_7_53 tw_7_55 ts_89 tw_1_13 yd_X10_see ⟨(Nat.le_of_ble_eq_true rfl), (Nat.le_of_ble_eq_true rfl)⟩ rfl hl.1 rfl (Nat.le_of_ble_eq_true rfl) dX10_readStatement_1 (fun H locs hP hS => ?_)
  refine lv_pop hx hb dX10_readStatement_4 rfl ?_
  refine lv_aload_n hx hb dX10_readStatement_5 rfl (lv_at hl 0 rfl) ?_
  refine rg  hx hb hT hu10 hown hK hP hLx 0 10 (Nat.le_of_ble_eq_true rfl) (xs0 _ _) rfl (Nat.le_of_ble_eq_true rfl) (Fx0.T tw_6_225) rfl (v := .int (gi m2 0 10)) rfl dX10_readStatement_6 ?_
  obtain ⟨v4, ev4, hD⟩ := bnd_el hD
  refine lv_nmi ev4 ?_
  refine lv_istore_n (lv' := [(1, .int v4), (0, .ref (adx 0))]) hx hb dX10_readStatement_9 rfl hl (by decide) rfl (fun ls hl => ?_)
  refine lv_aload_n hx hb dX10_readStatement_10 rfl (lv_at hl 1 rfl) ?_
  refine rldc (x := ("PlacerHeadModel", 137, "times", 1)) hx hb hown hK 17 rfl dX10_readStatement_11 ?_
  obtain ⟨v5, m6, z7, hD⟩ := b2_el hD
  refine rcV  (As := [.ref (sK D 1)]) (rest := []) Fx0 (c_X10_takes l hLx hAd m2 1 (by decide) z7) hP (hD1 _ (hAd _ _)) hS (hA1 _ _ (hAd _ _) hS.1) hLx (Nat.le_of_ble_eq_true rfl) (xs0 _ _) rfl tw_7_52 tw_7_49 tw_7_51 ts_88 tw_1_13 yd_X10_takes ⟨(Nat.le_of_ble_eq_true rfl), (Nat.le_of_ble_eq_true rfl)⟩ rfl hl.1 rfl (Nat.le_of_ble_eq_true rfl) dX10_readStatement_13 (fun H locs hP hS => ?_)
  refine lv_if_eq (tgt := 24) hx hb dX10_readStatement_16 (by decide) (fun c => ?_) (fun c => ?_)
  · have hD := ifp hD c
    refine lv_aload_n hx hb dX10_readStatement_24 rfl (lv_at hl 1 rfl) ?_
    refine rldc (x := ("PlacerHeadModel", 147, "vision", 2)) hx hb hown hK 18 rfl dX10_readStatement_25 ?_
    obtain ⟨v8, m9, z10, hD⟩ := b2_el hD
    refine rcV  (As := [.ref (sK D 2)]) (rest := []) Fx0 (c_X10_takes l hLx hAd m6 2 (by decide) z10) hP (hD1 _ (hAd _ _)) hS (hA1 _ _ (hAd _ _) hS.1) hLx (Nat.le_of_ble_eq_true rfl) (xs0 _ _) rfl tw_7_52 tw_7_49 tw_7_51 ts_88 tw_1_13 yd_X10_takes ⟨(Nat.le_of_ble_eq_true rfl), (Nat.le_of_ble_eq_true rfl)⟩ rfl hl.1 rfl (Nat.le_of_ble_eq_true rfl) dX10_readStatement_27 (fun H locs hP hS => ?_)
    refine lv_if_eq (tgt := 80) hx hb dX10_readStatement_30 (by decide) (fun c => ?_) (fun c => ?_)
    · have hD := ifp hD c
      refine lv_aload_n hx hb dX10_readStatement_80 rfl (lv_at hl 1 rfl) ?_
      refine rldc (x := ("PlacerHeadModel", 149, "camera", 3)) hx hb hown hK 19 rfl dX10_readStatement_81 ?_
      obtain ⟨v11, m12, z13, hD⟩ := b2_el hD
      refine rcV  (As := [.ref (sK D 3)]) (rest := []) Fx0 (c_X10_takes l hLx hAd m9 3 (by decide) z13) hP (hD1 _ (hAd _ _)) hS (hA1 _ _ (hAd _ _) hS.1) hLx (Nat.le_of_ble_eq_true rfl) (xs0 _ _) rfl tw_7_52 tw_7_49 tw_7_51 ts_88 tw_1_13 yd_X10_takes ⟨(Nat.le_of_ble_eq_true rfl), (Nat.le_of_ble_eq_true rfl)⟩ rfl hl.1 rfl (Nat.le_of_ble_eq_true rfl) dX10_readStatement_83 (fun H locs hP hS => ?_)
      refine lv_if_eq (tgt := 121) hx hb dX10_readStatement_86 (by decide) (fun c => ?_) (fun c => ?_)
      · have hD := ifp hD c
        refine lv_aload_n hx hb dX10_readStatement_121 rfl (lv_at hl 1 rfl) ?_
        refine rldc (x := ("PlacerHeadModel", 151, "seed", 4)) hx hb hown hK 20 rfl dX10_readStatement_122 ?_
        obtain ⟨v14, m15, z16, hD⟩ := b2_el hD
        refine rcV  (As := [.ref (sK D 4)]) (rest := []) Fx0 (c_X10_takes l hLx hAd m12 4 (by decide) z16) hP (hD1 _ (hAd _ _)) hS (hA1 _ _ (hAd _ _) hS.1) hLx (Nat.le_of_ble_eq_true rfl) (xs0 _ _) rfl tw_7_52 tw_7_49 tw_7_51 ts_88 tw_1_13 yd_X10_takes ⟨(Nat.le_of_ble_eq_true rfl), (Nat.le_of_ble_eq_true rfl)⟩ rfl hl.1 rfl (Nat.le_of_ble_eq_true rfl) dX10_readStatement_124 (fun H locs hP hS => ?_)
        refine lv_if_eq (tgt := 140) hx hb dX10_readStatement_127 (by decide) (fun c => ?_) (fun c => ?_)
        · have hD := ifp hD c
          refine lv_aload_n hx hb dX10_readStatement_140 rfl (lv_at hl 1 rfl) ?_
          refine rldc (x := ("PlacerHeadModel", 154, "alarm", 5)) hx hb hown hK 21 rfl dX10_readStatement_141 ?_
          obtain ⟨v17, m18, z19, hD⟩ := b2_el hD
          refine rcV  (As := [.ref (sK D 5)]) (rest := []) Fx0 (c_X10_takes l hLx hAd m15 5 (by decide) z19) hP (hD1 _ (hAd _ _)) hS (hA1 _ _ (hAd _ _) hS.1) hLx (Nat.le_of_ble_eq_true rfl) (xs0 _ _) rfl tw_7_52 tw_7_49 tw_7_51 ts_88 tw_1_13 yd_X10_takes ⟨(Nat.le_of_ble_eq_true rfl), (Nat.le_of_ble_eq_true rfl)⟩ rfl hl.1 rfl (Nat.le_of_ble_eq_true rfl) dX10_readStatement_143 (fun H locs hP hS => ?_)
          refine lv_if_eq (tgt := 159) hx hb dX10_readStatement_146 (by decide) (fun c => ?_) (fun c => ?_)
          · have hD := ifp hD c
            refine lv_aload_n hx hb dX10_readStatement_159 rfl (lv_at hl 1 rfl) ?_
            refine rldc (x := ("PlacerHeadModel", 156, "wear", 6)) hx hb hown hK 22 rfl dX10_readStatement_160 ?_
            obtain ⟨v20, m21, z22, hD⟩ := b2_el hD
            refine rcV  (As := [.ref (sK D 6)]) (rest := []) Fx0 (c_X10_takes l hLx hAd m18 6 (by decide) z22) hP (hD1 _ (hAd _ _)) hS (hA1 _ _ (hAd _ _) hS.1) hLx (Nat.le_of_ble_eq_true rfl) (xs0 _ _) rfl tw_7_52 tw_7_49 tw_7_51 ts_88 tw_1_13 yd_X10_takes ⟨(Nat.le_of_ble_eq_true rfl), (Nat.le_of_ble_eq_true rfl)⟩ rfl hl.1 rfl (Nat.le_of_ble_eq_true rfl) dX10_readStatement_162 (fun H locs hP hS => ?_)
            refine lv_if_eq (tgt := 212) hx hb dX10_readStatement_165 (by decide) (fun c => ?_) (fun c => ?_)
            · have hD := ifp hD c
              refine lv_aload_n hx hb dX10_readStatement_212 rfl (lv_at hl 1 rfl) ?_
              refine rldc (x := ("PlacerHeadModel", 158, "before", 11)) hx hb hown hK 23 rfl dX10_readStatement_213 ?_
              obtain ⟨v23, m24, z25, hD⟩ := b2_el hD
              refine rcV  (As := [.ref (sK D 11)]) (rest := []) Fx0 (c_X10_takes l hLx hAd m21 11 (by decide) z25) hP (hD1 _ (hAd _ _)) hS (hA1 _ _ (hAd _ _) hS.1) hLx (Nat.le_of_ble_eq_true rfl) (xs0 _ _) rfl tw_7_52 tw_7_49 tw_7_51 ts_88 tw_1_13 yd_X10_takes ⟨(Nat.le_of_ble_eq_true rfl), (Nat.le_of_ble_eq_true rfl)⟩ rfl hl.1 rfl (Nat.le_of_ble_eq_true rfl) dX10_readStatement_215 (fun H locs hP hS => ?_)
              refine lv_if_eq (tgt := 227) hx hb dX10_readStatement_218 (by decide) (fun c => ?_) (fun c => ?_)
              · have hD := ifp hD c
                refine lv_aload_n hx hb dX10_readStatement_227 rfl (lv_at hl 1 rfl) ?_
                refine rldc (x := ("PlacerHeadModel", 163, "nozzles", 7)) hx hb hown hK 24 rfl dX10_readStatement_228 ?_
                obtain ⟨v26, m27, z28, hD⟩ := b2_el hD
                refine rcV  (As := [.ref (sK D 7)]) (rest := []) Fx0 (c_X10_takes l hLx hAd m24 7 (by decide) z28) hP (hD1 _ (hAd _ _)) hS (hA1 _ _ (hAd _ _) hS.1) hLx (Nat.le_of_ble_eq_true rfl) (xs0 _ _) rfl tw_7_52 tw_7_49 tw_7_51 ts_88 tw_1_13 yd_X10_takes ⟨(Nat.le_of_ble_eq_true rfl), (Nat.le_of_ble_eq_true rfl)⟩ rfl hl.1 rfl (Nat.le_of_ble_eq_true rfl) dX10_readStatement_230 (fun H locs hP hS => ?_)
                refine lv_if_eq (tgt := 241) hx hb dX10_readStatement_233 (by decide) (fun c => ?_) (fun c => ?_)
                · have hD := ifp hD c
                  refine lv_aload_n hx hb dX10_readStatement_241 rfl (lv_at hl 1 rfl) ?_
                  refine rldc (x := ("PlacerHeadModel", 168, "kind", 8)) hx hb hown hK 25 rfl dX10_readStatement_242 ?_
                  obtain ⟨v29, m30, z31, hD⟩ := b2_el hD
                  refine rcV  (As := [.ref (sK D 8)]) (rest := []) Fx0 (c_X10_takes l hLx hAd m27 8 (by decide) z31) hP (hD1 _ (hAd _ _)) hS (hA1 _ _ (hAd _ _) hS.1) hLx (Nat.le_of_ble_eq_true rfl) (xs0 _ _) rfl tw_7_52 tw_7_49 tw_7_51 ts_88 tw_1_13 yd_X10_takes ⟨(Nat.le_of_ble_eq_true rfl), (Nat.le_of_ble_eq_true rfl)⟩ rfl hl.1 rfl (Nat.le_of_ble_eq_true rfl) dX10_readStatement_244 (fun H locs hP hS => ?_)
                  refine lv_if_eq (tgt := 256) hx hb dX10_readStatement_247 (by decide) (fun c => ?_) (fun c => ?_)
                  · have hD := ifp hD c
                    refine lv_aload_n hx hb dX10_readStatement_256 rfl (lv_at hl 1 rfl) ?_
                    refine rldc (x := ("PlacerHeadModel", 173, "feeder", 9)) hx hb hown hK 26 rfl dX10_readStatement_257 ?_
                    obtain ⟨v32, m33, z34, hD⟩ := b2_el hD
                    refine rcV  (As := [.ref (sK D 9)]) (rest := []) Fx0 (c_X10_takes l hLx hAd m30 9 (by decide) z34) hP (hD1 _ (hAd _ _)) hS (hA1 _ _ (hAd _ _) hS.1) hLx (Nat.le_of_ble_eq_true rfl) (xs0 _ _) rfl tw_7_52 tw_7_49 tw_7_51 ts_88 tw_1_13 yd_X10_takes ⟨(Nat.le_of_ble_eq_true rfl), (Nat.le_of_ble_eq_true rfl)⟩ rfl hl.1 rfl (Nat.le_of_ble_eq_true rfl) dX10_readStatement_259 (fun H locs hP hS => ?_)
                    refine lv_if_eq (tgt := 271) hx hb dX10_readStatement_262 (by decide) (fun c => ?_) (fun c => ?_)
                    · have hD := ifp hD c
                      refine lv_aload_n hx hb dX10_readStatement_271 rfl (lv_at hl 1 rfl) ?_
                      refine rldc (x := ("PlacerHeadModel", 178, "spot", 10)) hx hb hown hK 27 rfl dX10_readStatement_272 ?_
                      obtain ⟨v35, m36, z37, hD⟩ := b2_el hD
                      refine rcV  (As := [.ref (sK D 10)]) (rest := []) Fx0 (c_X10_takes l hLx hAd m33 10 (by decide) z37) hP (hD1 _ (hAd _ _)) hS (hA1 _ _ (hAd _ _) hS.1) hLx (Nat.le_of_ble_eq_true rfl) (xs0 _ _) rfl tw_7_52 tw_7_49 tw_7_51 ts_88 tw_1_13 yd_X10_takes ⟨(Nat.le_of_ble_eq_true rfl), (Nat.le_of_ble_eq_true rfl)⟩ rfl hl.1 rfl (Nat.le_of_ble_eq_true rfl) dX10_readStatement_274 (fun H locs hP hS => ?_)
                      refine lv_if_eq (tgt := 288) hx hb dX10_readStatement_277 (by decide) (fun c => ?_) (fun c => ?_)
                      · have hD := ifp hD c
                        refine lv_aload_n hx hb dX10_readStatement_288 rfl (lv_at hl 1 rfl) ?_
                        refine lv_iconst (v := (1 : Int32)) hx hb dX10_readStatement_289 (by decide) ?_
                        obtain ⟨v38, m39, z40, hD⟩ := b2_el hD
                        refine rcV  (As := [.int (1 : Int32)]) (rest := []) Fx0 (c_X10_fails l hLx hAd m36 (1 : Int32) z40) hP (hD1 _ (hAd _ _)) hS (hA1 _ _ (hAd _ _) hS.1) hLx (Nat.le_of_ble_eq_true rfl) (xs0 _ _) rfl tw_7_75 tw_7_72 tw_7_74 ts_92 tw_1_13 yd_X10_fails ⟨(Nat.le_of_ble_eq_true rfl), (Nat.le_of_ble_eq_true rfl)⟩ rfl hl.1 rfl (Nat.le_of_ble_eq_true rfl) dX10_readStatement_290 (fun H locs hP hS => ?_)
                        obtain ⟨h41, hD⟩ := gb_el hD
                        obtain ⟨rfl, rfl⟩ := es2 hD
                        exact hret _ _ _ hP hS (fun Qc hq => W.zret hx hb hr (nbz h41).1 hq hS.2.2 dX10_readStatement_293 hlocks)
                      · have hD := ifn hD c
                        refine lv_aload_n hx hb dX10_readStatement_280 rfl (lv_at hl 1 rfl) ?_
                        refine lv_iload_n hx hb dX10_readStatement_281 rfl (lv_at hl 0 rfl) ?_
                        obtain ⟨v42, m43, z44, hD⟩ := b2_el hD
                        refine rcV  (As := [.int v4]) (rest := []) Fx0 (c_X10_readSpot l hLx hAd m36 v4 z44) hP (hD1 _ (hAd _ _)) hS (hA1 _ _ (hAd _ _) hS.1) hLx (Nat.le_of_ble_eq_true rfl) (xs0 _ _) rfl tw_7_147 tw_7_144 tw_7_146 ts_103 tw_1_13 yd_X10_readSpot ⟨(Nat.le_of_ble_eq_true rfl), (Nat.le_of_ble_eq_true rfl)⟩ rfl hl.1 rfl (Nat.le_of_ble_eq_true rfl) dX10_readStatement_282 (fun H locs hP hS => ?_)
                        refine lv_goto (tgt := 293) hx hb dX10_readStatement_285 (by decide) ?_
                        obtain ⟨h45, hD⟩ := gb_el hD
                        obtain ⟨rfl, rfl⟩ := es2 hD
                        exact hret _ _ _ hP hS (fun Qc hq => W.zret hx hb hr (nbz h45).1 hq hS.2.2 dX10_readStatement_293 hlocks)
                    · have hD := ifn hD c
                      refine lv_aload_n hx hb dX10_readStatement_265 rfl (lv_at hl 1 rfl) ?_
                      refine lv_iload_n hx hb dX10_readStatement_266 rfl (lv_at hl 0 rfl) ?_
                      obtain ⟨v46, m47, z48, hD⟩ := b2_el hD
                      refine rcV  (As := [.int v4]) (rest := []) Fx0 (c_X10_readFeeder l hLx hAd m33 v4 z48) hP (hD1 _ (hAd _ _)) hS (hA1 _ _ (hAd _ _) hS.1) hLx (Nat.le_of_ble_eq_true rfl) (xs0 _ _) rfl tw_7_142 tw_7_139 tw_7_141 ts_102 tw_1_13 yd_X10_readFeeder ⟨(Nat.le_of_ble_eq_true rfl), (Nat.le_of_ble_eq_true rfl)⟩ rfl hl.1 rfl (Nat.le_of_ble_eq_true rfl) dX10_readStatement_267 (fun H locs hP hS => ?_)
                      obtain ⟨h49, hD⟩ := gb_el hD
                      obtain ⟨rfl, rfl⟩ := es2 hD
                      exact hret _ _ _ hP hS (fun Qc hq => W.zret hx hb hr (nbz h49).1 hq hS.2.2 dX10_readStatement_270 hlocks)
                  · have hD := ifn hD c
                    refine lv_aload_n hx hb dX10_readStatement_250 rfl (lv_at hl 1 rfl) ?_
                    refine lv_iload_n hx hb dX10_readStatement_251 rfl (lv_at hl 0 rfl) ?_
                    obtain ⟨v50, m51, z52, hD⟩ := b2_el hD
                    refine rcV  (As := [.int v4]) (rest := []) Fx0 (c_X10_readKind l hLx hAd m30 v4 z52) hP (hD1 _ (hAd _ _)) hS (hA1 _ _ (hAd _ _) hS.1) hLx (Nat.le_of_ble_eq_true rfl) (xs0 _ _) rfl tw_7_137 tw_7_134 tw_7_136 ts_101 tw_1_13 yd_X10_readKind ⟨(Nat.le_of_ble_eq_true rfl), (Nat.le_of_ble_eq_true rfl)⟩ rfl hl.1 rfl (Nat.le_of_ble_eq_true rfl) dX10_readStatement_252 (fun H locs hP hS => ?_)
                    obtain ⟨h53, hD⟩ := gb_el hD
                    obtain ⟨rfl, rfl⟩ := es2 hD
                    exact hret _ _ _ hP hS (fun Qc hq => W.zret hx hb hr (nbz h53).1 hq hS.2.2 dX10_readStatement_255 hlocks)
                · have hD := ifn hD c
                  refine lv_aload_n hx hb dX10_readStatement_236 rfl (lv_at hl 1 rfl) ?_
                  obtain ⟨v54, m55, z56, hD⟩ := b2_el hD
                  refine rcV  (As := []) (rest := []) Fx0 (c_X10_readNozzles l hLx hAd m27 z56) hP (hD1 _ (hAd _ _)) hS (hA1 _ _ (hAd _ _) hS.1) hLx (Nat.le_of_ble_eq_true rfl) (xs0 _ _) rfl tw_7_132 tw_7_129 tw_7_131 ts_100 tw_1_13 yd_X10_readNozzles ⟨(Nat.le_of_ble_eq_true rfl), (Nat.le_of_ble_eq_true rfl)⟩ rfl hl.1 rfl (Nat.le_of_ble_eq_true rfl) dX10_readStatement_237 (fun H locs hP hS => ?_)
                  obtain ⟨h57, hD⟩ := gb_el hD
                  obtain ⟨rfl, rfl⟩ := es2 hD
                  exact hret _ _ _ hP hS (fun Qc hq => W.zret hx hb hr (nbz h57).1 hq hS.2.2 dX10_readStatement_240 hlocks)
              · have hD := ifn hD c
                refine lv_aload_n hx hb dX10_readStatement_221 rfl (lv_at hl 1 rfl) ?_
                refine lv_iload_n hx hb dX10_readStatement_222 rfl (lv_at hl 0 rfl) ?_
                obtain ⟨v58, m59, z60, hD⟩ := b2_el hD
                refine rcV  (As := [.int v4]) (rest := []) Fx0 (c_X10_readBefore l hLx hAd m24 v4 z60) hP (hD1 _ (hAd _ _)) hS (hA1 _ _ (hAd _ _) hS.1) hLx (Nat.le_of_ble_eq_true rfl) (xs0 _ _) rfl tw_7_114 tw_7_111 tw_7_113 ts_98 tw_1_13 yd_X10_readBefore ⟨(Nat.le_of_ble_eq_true rfl), (Nat.le_of_ble_eq_true rfl)⟩ rfl hl.1 rfl (Nat.le_of_ble_eq_true rfl) dX10_readStatement_223 (fun H locs hP hS => ?_)
                obtain ⟨h61, hD⟩ := gb_el hD
                obtain ⟨rfl, rfl⟩ := es2 hD
                exact hret _ _ _ hP hS (fun Qc hq => W.zret hx hb hr (nbz h61).1 hq hS.2.2 dX10_readStatement_226 hlocks)
            · have hD := ifn hD c
              refine lv_aload_n hx hb dX10_readStatement_168 rfl (lv_at hl 1 rfl) ?_
              refine lv_bipush (v := (12 : Int32)) hx hb dX10_readStatement_169 (by decide) ?_
              refine lv_iconst (v := (0 : Int32)) hx hb dX10_readStatement_171 (by decide) ?_
              refine lv_sipush (v := (200 : Int32)) hx hb dX10_readStatement_172 (by decide) ?_
              obtain ⟨v62, m63, z64, hD⟩ := b2_el hD
              refine rcV  (As := [.int (12 : Int32), .int (0 : Int32), .int (200 : Int32)]) (rest := []) Fx0 (c_X10_readsInto l hLx hAd m21 (12 : Int32) (0 : Int32) (200 : Int32) z64) hP (hD1 _ (hAd _ _)) hS (hA1 _ _ (hAd _ _) hS.1) hLx (Nat.le_of_ble_eq_true rfl) (xs0 _ _) rfl tw_7_79 tw_7_76 tw_7_78 ts_93 tw_1_13 yd_X10_readsInto ⟨(Nat.le_of_ble_eq_true rfl), (Nat.le_of_ble_eq_true rfl)⟩ rfl hl.1 rfl (Nat.le_of_ble_eq_true rfl) dX10_readStatement_175 (fun H locs hP hS => ?_)
              refine lv_if_eq (tgt := 210) hx hb dX10_readStatement_178 (by decide) (fun c => ?_) (fun c => ?_)
              · have hD := ifp hD c
                refine lv_iconst (v := (0 : Int32)) hx hb dX10_readStatement_210 (by decide) ?_
                obtain ⟨rfl, rfl⟩ := es2 hD
                exact hret _ _ _ hP hS (fun Qc hq => W.zret hx hb hr rfl hq hS.2.2 dX10_readStatement_211 hlocks)
              · have hD := ifn hD c
                refine lv_aload_n hx hb dX10_readStatement_181 rfl (lv_at hl 1 rfl) ?_
                refine lv_bipush (v := (13 : Int32)) hx hb dX10_readStatement_182 (by decide) ?_
                refine lv_iconst (v := (0 : Int32)) hx hb dX10_readStatement_184 (by decide) ?_
                refine lv_bipush (v := (100 : Int32)) hx hb dX10_readStatement_185 (by decide) ?_
                obtain ⟨v65, m66, z67, hD⟩ := b2_el hD
                refine rcV  (As := [.int (13 : Int32), .int (0 : Int32), .int (100 : Int32)]) (rest := []) Fx0 (c_X10_readsInto l hLx hAd m63 (13 : Int32) (0 : Int32) (100 : Int32) z67) hP (hD1 _ (hAd _ _)) hS (hA1 _ _ (hAd _ _) hS.1) hLx (Nat.le_of_ble_eq_true rfl) (xs0 _ _) rfl tw_7_79 tw_7_76 tw_7_78 ts_93 tw_1_13 yd_X10_readsInto ⟨(Nat.le_of_ble_eq_true rfl), (Nat.le_of_ble_eq_true rfl)⟩ rfl hl.1 rfl (Nat.le_of_ble_eq_true rfl) dX10_readStatement_187 (fun H locs hP hS => ?_)
                refine lv_if_eq (tgt := 210) hx hb dX10_readStatement_190 (by decide) (fun c => ?_) (fun c => ?_)
                · have hD := ifp hD c
                  refine lv_iconst (v := (0 : Int32)) hx hb dX10_readStatement_210 (by decide) ?_
                  obtain ⟨rfl, rfl⟩ := es2 hD
                  exact hret _ _ _ hP hS (fun Qc hq => W.zret hx hb hr rfl hq hS.2.2 dX10_readStatement_211 hlocks)
                · have hD := ifn hD c
                  refine lv_aload_n hx hb dX10_readStatement_193 rfl (lv_at hl 1 rfl) ?_
                  refine lv_bipush (v := (14 : Int32)) hx hb dX10_readStatement_194 (by decide) ?_
                  refine lv_iconst (v := (0 : Int32)) hx hb dX10_readStatement_196 (by decide) ?_
                  refine lv_sipush (v := (200 : Int32)) hx hb dX10_readStatement_197 (by decide) ?_
                  obtain ⟨v68, m69, z70, hD⟩ := b2_el hD
                  refine rcV  (As := [.int (14 : Int32), .int (0 : Int32), .int (200 : Int32)]) (rest := []) Fx0 (c_X10_readsInto l hLx hAd m66 (14 : Int32) (0 : Int32) (200 : Int32) z70) hP (hD1 _ (hAd _ _)) hS (hA1 _ _ (hAd _ _) hS.1) hLx (Nat.le_of_ble_eq_true rfl) (xs0 _ _) rfl tw_7_79 tw_7_76 tw_7_78 ts_93 tw_1_13 yd_X10_readsInto ⟨(Nat.le_of_ble_eq_true rfl), (Nat.le_of_ble_eq_true rfl)⟩ rfl hl.1 rfl (Nat.le_of_ble_eq_true rfl) dX10_readStatement_200 (fun H locs hP hS => ?_)
                  refine lv_if_eq (tgt := 210) hx hb dX10_readStatement_203 (by decide) (fun c => ?_) (fun c => ?_)
                  · have hD := ifp hD c
                    refine lv_iconst (v := (0 : Int32)) hx hb dX10_readStatement_210 (by decide) ?_
                    obtain ⟨rfl, rfl⟩ := es2 hD
                    exact hret _ _ _ hP hS (fun Qc hq => W.zret hx hb hr rfl hq hS.2.2 dX10_readStatement_211 hlocks)
                  · have hD := ifn hD c
                    refine lv_iconst (v := (1 : Int32)) hx hb dX10_readStatement_206 (by decide) ?_
                    refine lv_goto (tgt := 211) hx hb dX10_readStatement_207 (by decide) ?_
                    obtain ⟨rfl, rfl⟩ := es2 hD
                    exact hret _ _ _ hP hS (fun Qc hq => W.zret hx hb hr rfl hq hS.2.2 dX10_readStatement_211 hlocks)
          · have hD := ifn hD c
            refine lv_aload_n hx hb dX10_readStatement_149 rfl (lv_at hl 1 rfl) ?_
            refine lv_bipush (v := (11 : Int32)) hx hb dX10_readStatement_150 (by decide) ?_
            refine lv_iconst (v := (0 : Int32)) hx hb dX10_readStatement_152 (by decide) ?_
            refine lv_bipush (v := (20 : Int32)) hx hb dX10_readStatement_153 (by decide) ?_
            obtain ⟨v71, m72, z73, hD⟩ := b2_el hD
            refine rcV  (As := [.int (11 : Int32), .int (0 : Int32), .int (20 : Int32)]) (rest := []) Fx0 (c_X10_readsInto l hLx hAd m18 (11 : Int32) (0 : Int32) (20 : Int32) z73) hP (hD1 _ (hAd _ _)) hS (hA1 _ _ (hAd _ _) hS.1) hLx (Nat.le_of_ble_eq_true rfl) (xs0 _ _) rfl tw_7_79 tw_7_76 tw_7_78 ts_93 tw_1_13 yd_X10_readsInto ⟨(Nat.le_of_ble_eq_true rfl), (Nat.le_of_ble_eq_true rfl)⟩ rfl hl.1 rfl (Nat.le_of_ble_eq_true rfl) dX10_readStatement_155 (fun H locs hP hS => ?_)
            obtain ⟨h74, hD⟩ := gb_el hD
            obtain ⟨rfl, rfl⟩ := es2 hD
            exact hret _ _ _ hP hS (fun Qc hq => W.zret hx hb hr (nbz h74).1 hq hS.2.2 dX10_readStatement_158 hlocks)
        · have hD := ifn hD c
          refine lv_aload_n hx hb dX10_readStatement_130 rfl (lv_at hl 1 rfl) ?_
          refine lv_bipush (v := (10 : Int32)) hx hb dX10_readStatement_131 (by decide) ?_
          refine lv_iconst (v := (0 : Int32)) hx hb dX10_readStatement_133 (by decide) ?_
          refine lv_ldc (v := (999999 : Int32)) hx hb hown (Fx0.T tw_7_107) dX10_readStatement_134 ?_
          obtain ⟨v75, m76, z77, hD⟩ := b2_el hD
          refine rcV  (As := [.int (10 : Int32), .int (0 : Int32), .int (999999 : Int32)]) (rest := []) Fx0 (c_X10_readsInto l hLx hAd m15 (10 : Int32) (0 : Int32) (999999 : Int32) z77) hP (hD1 _ (hAd _ _)) hS (hA1 _ _ (hAd _ _) hS.1) hLx (Nat.le_of_ble_eq_true rfl) (xs0 _ _) rfl tw_7_79 tw_7_76 tw_7_78 ts_93 tw_1_13 yd_X10_readsInto ⟨(Nat.le_of_ble_eq_true rfl), (Nat.le_of_ble_eq_true rfl)⟩ rfl hl.1 rfl (Nat.le_of_ble_eq_true rfl) dX10_readStatement_136 (fun H locs hP hS => ?_)
          obtain ⟨h78, hD⟩ := gb_el hD
          obtain ⟨rfl, rfl⟩ := es2 hD
          exact hret _ _ _ hP hS (fun Qc hq => W.zret hx hb hr (nbz h78).1 hq hS.2.2 dX10_readStatement_139 hlocks)
      · have hD := ifn hD c
        refine lv_aload_n hx hb dX10_readStatement_89 rfl (lv_at hl 1 rfl) ?_
        refine lv_bipush (v := (8 : Int32)) hx hb dX10_readStatement_90 (by decide) ?_
        refine lv_iconst (v := (0 : Int32)) hx hb dX10_readStatement_92 (by decide) ?_
        refine lv_sipush (v := (999 : Int32)) hx hb dX10_readStatement_93 (by decide) ?_
        obtain ⟨v79, m80, z81, hD⟩ := b2_el hD
        refine rcV  (As := [.int (8 : Int32), .int (0 : Int32), .int (999 : Int32)]) (rest := []) Fx0 (c_X10_readsInto l hLx hAd m12 (8 : Int32) (0 : Int32) (999 : Int32) z81) hP (hD1 _ (hAd _ _)) hS (hA1 _ _ (hAd _ _) hS.1) hLx (Nat.le_of_ble_eq_true rfl) (xs0 _ _) rfl tw_7_79 tw_7_76 tw_7_78 ts_93 tw_1_13 yd_X10_readsInto ⟨(Nat.le_of_ble_eq_true rfl), (Nat.le_of_ble_eq_true rfl)⟩ rfl hl.1 rfl (Nat.le_of_ble_eq_true rfl) dX10_readStatement_96 (fun H locs hP hS => ?_)
        refine lv_if_eq (tgt := 119) hx hb dX10_readStatement_99 (by decide) (fun c => ?_) (fun c => ?_)
        · have hD := ifp hD c
          refine lv_iconst (v := (0 : Int32)) hx hb dX10_readStatement_119 (by decide) ?_
          obtain ⟨rfl, rfl⟩ := es2 hD
          exact hret _ _ _ hP hS (fun Qc hq => W.zret hx hb hr rfl hq hS.2.2 dX10_readStatement_120 hlocks)
        · have hD := ifn hD c
          refine lv_aload_n hx hb dX10_readStatement_102 rfl (lv_at hl 1 rfl) ?_
          refine lv_bipush (v := (9 : Int32)) hx hb dX10_readStatement_103 (by decide) ?_
          refine lv_iconst (v := (0 : Int32)) hx hb dX10_readStatement_105 (by decide) ?_
          refine lv_sipush (v := (999 : Int32)) hx hb dX10_readStatement_106 (by decide) ?_
          obtain ⟨v82, m83, z84, hD⟩ := b2_el hD
          refine rcV  (As := [.int (9 : Int32), .int (0 : Int32), .int (999 : Int32)]) (rest := []) Fx0 (c_X10_readsInto l hLx hAd m80 (9 : Int32) (0 : Int32) (999 : Int32) z84) hP (hD1 _ (hAd _ _)) hS (hA1 _ _ (hAd _ _) hS.1) hLx (Nat.le_of_ble_eq_true rfl) (xs0 _ _) rfl tw_7_79 tw_7_76 tw_7_78 ts_93 tw_1_13 yd_X10_readsInto ⟨(Nat.le_of_ble_eq_true rfl), (Nat.le_of_ble_eq_true rfl)⟩ rfl hl.1 rfl (Nat.le_of_ble_eq_true rfl) dX10_readStatement_109 (fun H locs hP hS => ?_)
          refine lv_if_eq (tgt := 119) hx hb dX10_readStatement_112 (by decide) (fun c => ?_) (fun c => ?_)
          · have hD := ifp hD c
            refine lv_iconst (v := (0 : Int32)) hx hb dX10_readStatement_119 (by decide) ?_
            obtain ⟨rfl, rfl⟩ := es2 hD
            exact hret _ _ _ hP hS (fun Qc hq => W.zret hx hb hr rfl hq hS.2.2 dX10_readStatement_120 hlocks)
          · have hD := ifn hD c
            refine lv_iconst (v := (1 : Int32)) hx hb dX10_readStatement_115 (by decide) ?_
            refine lv_goto (tgt := 120) hx hb dX10_readStatement_116 (by decide) ?_
            obtain ⟨rfl, rfl⟩ := es2 hD
            exact hret _ _ _ hP hS (fun Qc hq => W.zret hx hb hr rfl hq hS.2.2 dX10_readStatement_120 hlocks)
    · have hD := ifn hD c
      refine lv_aload_n hx hb dX10_readStatement_33 rfl (lv_at hl 1 rfl) ?_
      refine lv_iconst (v := (5 : Int32)) hx hb dX10_readStatement_34 (by decide) ?_
      refine lv_iconst (v := (0 : Int32)) hx hb dX10_readStatement_35 (by decide) ?_
      refine lv_bipush (v := (100 : Int32)) hx hb dX10_readStatement_36 (by decide) ?_
      obtain ⟨v85, m86, z87, hD⟩ := b2_el hD
      refine rcV  (As := [.int (5 : Int32), .int (0 : Int32), .int (100 : Int32)]) (rest := []) Fx0 (c_X10_readsInto l hLx hAd m9 (5 : Int32) (0 : Int32) (100 : Int32) z87) hP (hD1 _ (hAd _ _)) hS (hA1 _ _ (hAd _ _) hS.1) hLx (Nat.le_of_ble_eq_true rfl) (xs0 _ _) rfl tw_7_79 tw_7_76 tw_7_78 ts_93 tw_1_13 yd_X10_readsInto ⟨(Nat.le_of_ble_eq_true rfl), (Nat.le_of_ble_eq_true rfl)⟩ rfl hl.1 rfl (Nat.le_of_ble_eq_true rfl) dX10_readStatement_38 (fun H locs hP hS => ?_)
      refine lv_if_eq (tgt := 78) hx hb dX10_readStatement_41 (by decide) (fun c => ?_) (fun c => ?_)
      · have hD := ifp hD c
        refine lv_iconst (v := (0 : Int32)) hx hb dX10_readStatement_78 (by decide) ?_
        obtain ⟨rfl, rfl⟩ := es2 hD
        exact hret _ _ _ hP hS (fun Qc hq => W.zret hx hb hr rfl hq hS.2.2 dX10_readStatement_79 hlocks)
      · have hD := ifn hD c
        refine lv_aload_n hx hb dX10_readStatement_44 rfl (lv_at hl 1 rfl) ?_
        refine lv_bipush (v := (6 : Int32)) hx hb dX10_readStatement_45 (by decide) ?_
        refine lv_iconst (v := (0 : Int32)) hx hb dX10_readStatement_47 (by decide) ?_
        refine lv_bipush (v := (100 : Int32)) hx hb dX10_readStatement_48 (by decide) ?_
        refine lv_aload_n hx hb dX10_readStatement_50 rfl (lv_at hl 1 rfl) ?_
        refine rg  hx hb hT hu10 hown hK hP hLx 0 2 (Nat.le_of_ble_eq_true rfl) (xs0 _ _) rfl (Nat.le_of_ble_eq_true rfl) (Fx0.T tw_6_217) rfl (v := .ref (adx 3)) rfl dX10_readStatement_51 ?_
        refine lv_iconst (v := (5 : Int32)) hx hb dX10_readStatement_54 (by decide) ?_
        refine riald  hx hb hK hP hLx 3 (Nat.le_of_ble_eq_true rfl) (xs3 _ _) (by decide) (j := 5) (by decide) dX10_readStatement_55 ?_
        refine lv_isub hx hb dX10_readStatement_56 ?_
        obtain ⟨v88, m89, z90, hD⟩ := b2_el hD
        refine rcV  (As := [.int (6 : Int32), .int (0 : Int32), .int ((100 : Int32) - (gi m86 3 5))]) (rest := []) Fx0 (c_X10_readsInto l hLx hAd m86 (6 : Int32) (0 : Int32) ((100 : Int32) - (gi m86 3 5)) z90) hP (hD1 _ (hAd _ _)) hS (hA1 _ _ (hAd _ _) hS.1) hLx (Nat.le_of_ble_eq_true rfl) (xs0 _ _) rfl tw_7_79 tw_7_76 tw_7_78 ts_93 tw_1_13 yd_X10_readsInto ⟨(Nat.le_of_ble_eq_true rfl), (Nat.le_of_ble_eq_true rfl)⟩ rfl hl.1 rfl (Nat.le_of_ble_eq_true rfl) dX10_readStatement_57 (fun H locs hP hS => ?_)
        refine lv_if_eq (tgt := 78) hx hb dX10_readStatement_60 (by decide) (fun c => ?_) (fun c => ?_)
        · have hD := ifp hD c
          refine lv_iconst (v := (0 : Int32)) hx hb dX10_readStatement_78 (by decide) ?_
          obtain ⟨rfl, rfl⟩ := es2 hD
          exact hret _ _ _ hP hS (fun Qc hq => W.zret hx hb hr rfl hq hS.2.2 dX10_readStatement_79 hlocks)
        · have hD := ifn hD c
          refine lv_aload_n hx hb dX10_readStatement_63 rfl (lv_at hl 1 rfl) ?_
          refine lv_bipush (v := (7 : Int32)) hx hb dX10_readStatement_64 (by decide) ?_
          refine lv_iconst (v := (0 : Int32)) hx hb dX10_readStatement_66 (by decide) ?_
          refine lv_iconst (v := (5 : Int32)) hx hb dX10_readStatement_67 (by decide) ?_
          obtain ⟨v91, m92, z93, hD⟩ := b2_el hD
          refine rcV  (As := [.int (7 : Int32), .int (0 : Int32), .int (5 : Int32)]) (rest := []) Fx0 (c_X10_readsInto l hLx hAd m89 (7 : Int32) (0 : Int32) (5 : Int32) z93) hP (hD1 _ (hAd _ _)) hS (hA1 _ _ (hAd _ _) hS.1) hLx (Nat.le_of_ble_eq_true rfl) (xs0 _ _) rfl tw_7_79 tw_7_76 tw_7_78 ts_93 tw_1_13 yd_X10_readsInto ⟨(Nat.le_of_ble_eq_true rfl), (Nat.le_of_ble_eq_true rfl)⟩ rfl hl.1 rfl (Nat.le_of_ble_eq_true rfl) dX10_readStatement_68 (fun H locs hP hS => ?_)
          refine lv_if_eq (tgt := 78) hx hb dX10_readStatement_71 (by decide) (fun c => ?_) (fun c => ?_)
          · have hD := ifp hD c
            refine lv_iconst (v := (0 : Int32)) hx hb dX10_readStatement_78 (by decide) ?_
            obtain ⟨rfl, rfl⟩ := es2 hD
            exact hret _ _ _ hP hS (fun Qc hq => W.zret hx hb hr rfl hq hS.2.2 dX10_readStatement_79 hlocks)
          · have hD := ifn hD c
            refine lv_iconst (v := (1 : Int32)) hx hb dX10_readStatement_74 (by decide) ?_
            refine lv_goto (tgt := 79) hx hb dX10_readStatement_75 (by decide) ?_
            obtain ⟨rfl, rfl⟩ := es2 hD
            exact hret _ _ _ hP hS (fun Qc hq => W.zret hx hb hr rfl hq hS.2.2 dX10_readStatement_79 hlocks)
  · have hD := ifn hD c
    refine lv_aload_n hx hb dX10_readStatement_19 rfl (lv_at hl 1 rfl) ?_
    obtain ⟨v94, m95, z96, hD⟩ := b2_el hD
    refine rcV  (As := []) (rest := []) Fx0 (c_X10_readTimes l hLx hAd m6 z96) hP (hD1 _ (hAd _ _)) hS (hA1 _ _ (hAd _ _) hS.1) hLx (Nat.le_of_ble_eq_true rfl) (xs0 _ _) rfl tw_7_103 tw_7_100 tw_7_102 ts_97 tw_1_13 yd_X10_readTimes ⟨(Nat.le_of_ble_eq_true rfl), (Nat.le_of_ble_eq_true rfl)⟩ rfl hl.1 rfl (Nat.le_of_ble_eq_true rfl) dX10_readStatement_20 (fun H locs hP hS => ?_)
    obtain ⟨h97, hD⟩ := gb_el hD
    obtain ⟨rfl, rfl⟩ := es2 hD
    exact hret _ _ _ hP hS (fun Qc hq => W.zret hx hb hr (nbz h97).1 hq hS.2.2 dX10_readStatement_23 hlocks)

noncomputable def D_X10_readsAll_39 : Nat → MM → Option (Int32 × MM)
  | 0, _ => none
  | n + 1, x => b2 (D_X10_see x) (fun v10 m11 => if v10 = (59 : Int32) then (bnd (si m11 0 9 ((gi m11 0 9) + (1 : Int32))) (fun m19 => b2 (D_X10_readStatement m19) (fun v20 m21 => if v20 = 0 then (some ((0 : Int32), m21)) else (D_X10_readsAll_39 n m21)))) else (b2 (D_X10_see m11) (fun v13 m14 => if v13 = (-1 : Int32) then (some ((1 : Int32), m14)) else (b2 (D_X10_fails (1 : Int32) m14) (fun v16 m17 => if v16 = 0 then (some ((0 : Int32), m17)) else (some ((1 : Int32), m17)))))))
noncomputable def D_X10_readsAll (x : MM) : Option (Int32 × MM) := b2 (D_X10_takes 0 x) (fun v1 m2 => if v1 = 0 then (b2 (D_X10_fails (1 : Int32) m2) (fun v23 m24 => if v23 = 0 ∨ v23 = 1 then some (v23, m24) else none)) else (b2 (D_X10_readsInto (15 : Int32) (1 : Int32) (4 : Int32) m2) (fun v4 m5 => if v4 = 0 then (some ((0 : Int32), m5)) else (b2 (D_X10_readsInto (0 : Int32) (1 : Int32) (50 : Int32) m5) (fun v7 m8 => if v7 = 0 then (some ((0 : Int32), m8)) else (D_X10_readsAll_39 FU m8))))))
set_option maxHeartbeats 4000000 in
set_option maxRecDepth 100000 in
theorem c_X10_readsAll (l : Launch) {D : va_G} {cs : Nat → ClassId} {adx : Nat → Nat} {Wf : MM → va_W} (hLx : Ln 9 adx (xsh cs adx) Wf) (hAd : ∀ a0_ b0_ : MM, (Wf a0_).map (fun q => q.1) = (Wf b0_).map (fun q => q.1)) (x : MM) {rr : Int32} {x' : MM} (hD : D_X10_readsAll x = some (rr, x')) : Ct l yX10_readsAll cX10_readsAll 1 (some .boolean) 6 136 D cs [.ref (adx 0)] (Wf x) (Wf x') (some (.int rr)) := by
  refine Ct.ofW (by decide) (Nat.le_of_ble_eq_true rfl) (hAd _ _) ?_
  intro p e s m0 below meth c A Q ls args hx hb hr hml hlocks hown hts hK hP hD1 hSS hS hA1 hl hret
  have hT : ∀ w ∈ TBL, w.before args s = true := fun w h => hts w (List.mem_cons_of_mem _ h)
  have Fx0 : Fx p l m0 c cX10_readsAll 1 s args yX10_readsAll cX10_readsAll 1 (some .boolean) D cs A := ⟨hx, hb, hml, hown, hts, hK, hSS⟩
  have hown : s.vm.findClass RX10 = some m0.cls := hown
  have hl : lv_has ls 1 [(0, .ref (adx 0))] := hl
  unfold D_X10_readsAll at hD
  have c_39 : ∀ (n : Nat), ∀ (x : MM) (H : Heap) (locs : List Loc) (ls : Array Slot), D_X10_readsAll_39 n x = some (rr, x') → va_P D vwCl (Wf x) H → va_S A s.heap H locs → lv_has ls 1 [(0, .ref (adx 0))] → W p l e ({ frames := 6, cells := 0, slots := 0, locals := 136 } : Room) s m0 args below meth c H locs 0 0 Q (F0 m0 39 ls []) := by
    intro n
    induction n with
    | zero =>
      intro x H locs ls hD hP hS hl
      exact nn_el hD
    | succ n ih =>
      intro x H locs ls hD hP hS hl
      rw [D_X10_readsAll_39] at hD
      refine lv_aload_n hx hb dX10_readsAll_39 rfl (lv_at hl 0 rfl) ?_
      obtain ⟨v10, m11, z12, hD⟩ := b2_el hD
      refine rcV  (As := []) (rest := []) Fx0 (c_X10_see l hLx hAd x z12) hP (hD1 _ (hAd _ _)) hS (hA1 _ _ (hAd _ _) hS.1) hLx (Nat.le_of_ble_eq_true rfl) (xs0 _ _) rfl tw_7_56 tw_7_53 tw_7_55 ts_89 tw_1_13 yd_X10_see ⟨(Nat.le_of_ble_eq_true rfl), (Nat.le_of_ble_eq_true rfl)⟩ rfl hl.1 rfl (Nat.le_of_ble_eq_true rfl) dX10_readsAll_40 (fun H locs hP hS => ?_)
      refine lv_bipush (v := (59 : Int32)) hx hb dX10_readsAll_43 (by decide) ?_
      refine lv_icmp_ne (tgt := 67) hx hb dX10_readsAll_45 (by decide) (fun c => ?_) (fun c => ?_)
      · have hD := ifn hD c
        refine lv_aload_n hx hb dX10_readsAll_67 rfl (lv_at hl 0 rfl) ?_
        obtain ⟨v13, m14, z15, hD⟩ := b2_el hD
        refine rcV  (As := []) (rest := []) Fx0 (c_X10_see l hLx hAd m11 z15) hP (hD1 _ (hAd _ _)) hS (hA1 _ _ (hAd _ _) hS.1) hLx (Nat.le_of_ble_eq_true rfl) (xs0 _ _) rfl tw_7_56 tw_7_53 tw_7_55 ts_89 tw_1_13 yd_X10_see ⟨(Nat.le_of_ble_eq_true rfl), (Nat.le_of_ble_eq_true rfl)⟩ rfl hl.1 rfl (Nat.le_of_ble_eq_true rfl) dX10_readsAll_68 (fun H locs hP hS => ?_)
        refine lv_iconst (v := (-1 : Int32)) hx hb dX10_readsAll_71 (by decide) ?_
        refine lv_icmp_eq (tgt := 83) hx hb dX10_readsAll_72 (by decide) (fun c => ?_) (fun c => ?_)
        · have hD := ifp hD c
          refine lv_iconst (v := (1 : Int32)) hx hb dX10_readsAll_83 (by decide) ?_
          refine lv_goto (tgt := 88) hx hb dX10_readsAll_84 (by decide) ?_
          obtain ⟨rfl, rfl⟩ := es2 hD
          exact hret _ _ _ hP hS (fun Qc hq => W.zret hx hb hr rfl hq hS.2.2 dX10_readsAll_88 hlocks)
        · have hD := ifn hD c
          refine lv_aload_n hx hb dX10_readsAll_75 rfl (lv_at hl 0 rfl) ?_
          refine lv_iconst (v := (1 : Int32)) hx hb dX10_readsAll_76 (by decide) ?_
          obtain ⟨v16, m17, z18, hD⟩ := b2_el hD
          refine rcV  (As := [.int (1 : Int32)]) (rest := []) Fx0 (c_X10_fails l hLx hAd m14 (1 : Int32) z18) hP (hD1 _ (hAd _ _)) hS (hA1 _ _ (hAd _ _) hS.1) hLx (Nat.le_of_ble_eq_true rfl) (xs0 _ _) rfl tw_7_75 tw_7_72 tw_7_74 ts_92 tw_1_13 yd_X10_fails ⟨(Nat.le_of_ble_eq_true rfl), (Nat.le_of_ble_eq_true rfl)⟩ rfl hl.1 rfl (Nat.le_of_ble_eq_true rfl) dX10_readsAll_77 (fun H locs hP hS => ?_)
          refine lv_if_eq (tgt := 87) hx hb dX10_readsAll_80 (by decide) (fun c => ?_) (fun c => ?_)
          · have hD := ifp hD c
            refine lv_iconst (v := (0 : Int32)) hx hb dX10_readsAll_87 (by decide) ?_
            obtain ⟨rfl, rfl⟩ := es2 hD
            exact hret _ _ _ hP hS (fun Qc hq => W.zret hx hb hr rfl hq hS.2.2 dX10_readsAll_88 hlocks)
          · have hD := ifn hD c
            refine lv_iconst (v := (1 : Int32)) hx hb dX10_readsAll_83 (by decide) ?_
            refine lv_goto (tgt := 88) hx hb dX10_readsAll_84 (by decide) ?_
            obtain ⟨rfl, rfl⟩ := es2 hD
            exact hret _ _ _ hP hS (fun Qc hq => W.zret hx hb hr rfl hq hS.2.2 dX10_readsAll_88 hlocks)
      · have hD := ifp hD c
        refine lv_aload_n hx hb dX10_readsAll_48 rfl (lv_at hl 0 rfl) ?_
        refine lv_dup hx hb dX10_readsAll_49 rfl ?_
        refine rg  hx hb hT hu10 hown hK hP hLx 0 9 (Nat.le_of_ble_eq_true rfl) (xs0 _ _) rfl (Nat.le_of_ble_eq_true rfl) (Fx0.T tw_6_224) rfl (v := .int (gi m11 0 9)) rfl dX10_readsAll_50 ?_
        refine lv_iconst (v := (1 : Int32)) hx hb dX10_readsAll_53 (by decide) ?_
        refine lv_iadd hx hb dX10_readsAll_54 ?_
        obtain ⟨m19, em19, hD⟩ := bnd_el hD
        refine rp  hx hb hT hu10 tyX10_ok nmX10 hown hK hP (hD1 _ (hAd _ _)) hS hLx 0 9 (Nat.le_of_ble_eq_true rfl) (xs0 _ _) (xs0 _ _) rfl (Nat.le_of_ble_eq_true rfl) (Fx0.T tw_6_224) rfl rfl rfl rfl (Nat.le_of_ble_eq_true rfl) dX10_readsAll_55 em19 (fun H locs hP hS => ?_)
        refine lv_aload_n hx hb dX10_readsAll_58 rfl (lv_at hl 0 rfl) ?_
        obtain ⟨v20, m21, z22, hD⟩ := b2_el hD
        refine rcV  (As := []) (rest := []) Fx0 (c_X10_readStatement l hLx hAd m19 z22) hP (hD1 _ (hAd _ _)) hS (hA1 _ _ (hAd _ _) hS.1) hLx (Nat.le_of_ble_eq_true rfl) (xs0 _ _) rfl tw_7_98 tw_7_95 tw_7_97 ts_96 tw_1_13 yd_X10_readStatement ⟨(Nat.le_of_ble_eq_true rfl), (Nat.le_of_ble_eq_true rfl)⟩ rfl hl.1 rfl (Nat.le_of_ble_eq_true rfl) dX10_readsAll_59 (fun H locs hP hS => ?_)
        refine lv_if_ne (tgt := 39) hx hb dX10_readsAll_62 (by decide) (fun c => ?_) (fun c => ?_)
        · have hD := ifn hD c
          exact ih _ _ _ _ hD hP hS (lv_sub hl [0] rfl)
        · have hD := ifp hD c
          refine lv_iconst (v := (0 : Int32)) hx hb dX10_readsAll_65 (by decide) ?_
          obtain ⟨rfl, rfl⟩ := es2 hD
          exact hret _ _ _ hP hS (fun Qc hq => W.zret hx hb hr rfl hq hS.2.2 dX10_readsAll_66 hlocks)
  refine lv_aload_n hx hb dX10_readsAll_0 rfl (lv_at hl 0 rfl) ?_
  refine rldc (x := ("PlacerHeadModel", 183, "machine", 0)) hx hb hown hK 16 rfl dX10_readsAll_1 ?_
  obtain ⟨v1, m2, z3, hD⟩ := b2_el hD
  refine rcV  (As := [.ref (sK D 0)]) (rest := []) Fx0 (c_X10_takes l hLx hAd x 0 (by decide) z3) hP (hD1 _ (hAd _ _)) hS (hA1 _ _ (hAd _ _) hS.1) hLx (Nat.le_of_ble_eq_true rfl) (xs0 _ _) rfl tw_7_52 tw_7_49 tw_7_51 ts_88 tw_1_13 yd_X10_takes ⟨(Nat.le_of_ble_eq_true rfl), (Nat.le_of_ble_eq_true rfl)⟩ rfl hl.1 rfl (Nat.le_of_ble_eq_true rfl) dX10_readsAll_3 (fun H locs hP hS => ?_)
  refine lv_if_ne (tgt := 15) hx hb dX10_readsAll_6 (by decide) (fun c => ?_) (fun c => ?_)
  · have hD := ifn hD c
    refine lv_aload_n hx hb dX10_readsAll_15 rfl (lv_at hl 0 rfl) ?_
    refine lv_bipush (v := (15 : Int32)) hx hb dX10_readsAll_16 (by decide) ?_
    refine lv_iconst (v := (1 : Int32)) hx hb dX10_readsAll_18 (by decide) ?_
    refine lv_iconst (v := (4 : Int32)) hx hb dX10_readsAll_19 (by decide) ?_
    obtain ⟨v4, m5, z6, hD⟩ := b2_el hD
    refine rcV  (As := [.int (15 : Int32), .int (1 : Int32), .int (4 : Int32)]) (rest := []) Fx0 (c_X10_readsInto l hLx hAd m2 (15 : Int32) (1 : Int32) (4 : Int32) z6) hP (hD1 _ (hAd _ _)) hS (hA1 _ _ (hAd _ _) hS.1) hLx (Nat.le_of_ble_eq_true rfl) (xs0 _ _) rfl tw_7_79 tw_7_76 tw_7_78 ts_93 tw_1_13 yd_X10_readsInto ⟨(Nat.le_of_ble_eq_true rfl), (Nat.le_of_ble_eq_true rfl)⟩ rfl hl.1 rfl (Nat.le_of_ble_eq_true rfl) dX10_readsAll_20 (fun H locs hP hS => ?_)
    refine lv_if_eq (tgt := 37) hx hb dX10_readsAll_23 (by decide) (fun c => ?_) (fun c => ?_)
    · have hD := ifp hD c
      refine lv_iconst (v := (0 : Int32)) hx hb dX10_readsAll_37 (by decide) ?_
      obtain ⟨rfl, rfl⟩ := es2 hD
      exact hret _ _ _ hP hS (fun Qc hq => W.zret hx hb hr rfl hq hS.2.2 dX10_readsAll_38 hlocks)
    · have hD := ifn hD c
      refine lv_aload_n hx hb dX10_readsAll_26 rfl (lv_at hl 0 rfl) ?_
      refine lv_iconst (v := (0 : Int32)) hx hb dX10_readsAll_27 (by decide) ?_
      refine lv_iconst (v := (1 : Int32)) hx hb dX10_readsAll_28 (by decide) ?_
      refine lv_bipush (v := (50 : Int32)) hx hb dX10_readsAll_29 (by decide) ?_
      obtain ⟨v7, m8, z9, hD⟩ := b2_el hD
      refine rcV  (As := [.int (0 : Int32), .int (1 : Int32), .int (50 : Int32)]) (rest := []) Fx0 (c_X10_readsInto l hLx hAd m5 (0 : Int32) (1 : Int32) (50 : Int32) z9) hP (hD1 _ (hAd _ _)) hS (hA1 _ _ (hAd _ _) hS.1) hLx (Nat.le_of_ble_eq_true rfl) (xs0 _ _) rfl tw_7_79 tw_7_76 tw_7_78 ts_93 tw_1_13 yd_X10_readsInto ⟨(Nat.le_of_ble_eq_true rfl), (Nat.le_of_ble_eq_true rfl)⟩ rfl hl.1 rfl (Nat.le_of_ble_eq_true rfl) dX10_readsAll_31 (fun H locs hP hS => ?_)
      refine lv_if_ne (tgt := 39) hx hb dX10_readsAll_34 (by decide) (fun c => ?_) (fun c => ?_)
      · have hD := ifn hD c
        exact c_39 FU _ _ _ _ hD hP hS (lv_sub hl [0] rfl)
      · have hD := ifp hD c
        refine lv_iconst (v := (0 : Int32)) hx hb dX10_readsAll_37 (by decide) ?_
        obtain ⟨rfl, rfl⟩ := es2 hD
        exact hret _ _ _ hP hS (fun Qc hq => W.zret hx hb hr rfl hq hS.2.2 dX10_readsAll_38 hlocks)
  · have hD := ifp hD c
    refine lv_aload_n hx hb dX10_readsAll_9 rfl (lv_at hl 0 rfl) ?_
    refine lv_iconst (v := (1 : Int32)) hx hb dX10_readsAll_10 (by decide) ?_
    obtain ⟨v23, m24, z25, hD⟩ := b2_el hD
    refine rcV  (As := [.int (1 : Int32)]) (rest := []) Fx0 (c_X10_fails l hLx hAd m2 (1 : Int32) z25) hP (hD1 _ (hAd _ _)) hS (hA1 _ _ (hAd _ _) hS.1) hLx (Nat.le_of_ble_eq_true rfl) (xs0 _ _) rfl tw_7_75 tw_7_72 tw_7_74 ts_92 tw_1_13 yd_X10_fails ⟨(Nat.le_of_ble_eq_true rfl), (Nat.le_of_ble_eq_true rfl)⟩ rfl hl.1 rfl (Nat.le_of_ble_eq_true rfl) dX10_readsAll_11 (fun H locs hP hS => ?_)
    obtain ⟨h26, hD⟩ := gb_el hD
    obtain ⟨rfl, rfl⟩ := es2 hD
    exact hret _ _ _ hP hS (fun Qc hq => W.zret hx hb hr (nbz h26).1 hq hS.2.2 dX10_readsAll_14 hlocks)

noncomputable def D_X10_append_62 : Nat → Int64 → Int32 → MM → Option (Int32 × MM)
  | 0, _, _, _ => none
  | n + 1, x1, x4, x => if x4 < 0 then (some ((gi x 0 8), x)) else (bnd ((((x1.toUInt64 >>> (x4.toInt64.toUInt64 &&& Int64.toUInt64 63)).toInt64) &&& (255 : Int64)).toInt32) (fun v2 => if v2 = 0 then (bnd (x4 + (-8 : Int32)) (fun v7 => D_X10_append_62 n x1 v7 x)) else (if (gi x 0 8) < 0 ∨ 900 ≤ (gi x 0 8).toNatClampNeg then none else (bnd (si x 7 ((gi x 0 8).toNatClampNeg) v2) (fun m4 => bnd (si m4 0 8 ((gi m4 0 8) + (1 : Int32))) (fun m5 => bnd (x4 + (-8 : Int32)) (fun v6 => D_X10_append_62 n x1 v6 m5)))))))
noncomputable def D_X10_append_11 : Nat → Int64 → Int32 → Int32 → MM → Option (Int32 × MM)
  | 0, _, _, _, _ => none
  | n + 1, x1, x3, x4, x => if x4 < 0 then (if ((gi x 0 8) + x3) ≤ (900 : Int32) then (D_X10_append_62 FU x1 (56 : Int32) x) else (some ((-2 : Int32), x))) else (if (((x1.toUInt64 >>> (x4.toInt64.toUInt64 &&& Int64.toUInt64 63)).toInt64) &&& (255 : Int64)) = (0 : Int64) then (bnd ((x3 + (0 : Int32))) (fun v8 => bnd (x4 + (-8 : Int32)) (fun v9 => D_X10_append_11 n x1 v8 v9 x))) else (bnd ((x3 + (1 : Int32))) (fun v10 => bnd (x4 + (-8 : Int32)) (fun v11 => D_X10_append_11 n x1 v10 v11 x))))
noncomputable def D_X10_append (x1 : Int64) (x : MM) : Option (Int32 × MM) := bnd (si x 0 6 (0 : Int32)) (fun m1 => D_X10_append_11 FU x1 (0 : Int32) (56 : Int32) m1)
set_option maxHeartbeats 4000000 in
set_option maxRecDepth 100000 in
theorem c_X10_append (l : Launch) {D : va_G} {cs : Nat → ClassId} {adx : Nat → Nat} {Wf : MM → va_W} (hLx : Ln 9 adx (xsh cs adx) Wf) (hAd : ∀ a0_ b0_ : MM, (Wf a0_).map (fun q => q.1) = (Wf b0_).map (fun q => q.1)) (x : MM) (x1 : Int64) {rr : Int32} {x' : MM} (hD : D_X10_append x1 x = some (rr, x')) : Ct l yX10_append cX10_append 6 (some .int) 0 0 D cs [.ref (adx 0), .long x1] (Wf x) (Wf x') (some (.int rr)) := by
  refine Ct.ofW (by decide) (Nat.le_of_ble_eq_true rfl) (hAd _ _) ?_
  intro p e s m0 below meth c A Q ls args hx hb hr hml hlocks hown hts hK hP hD1 hSS hS hA1 hl hret
  have hT : ∀ w ∈ TBL, w.before args s = true := fun w h => hts w (List.mem_cons_of_mem _ h)
  have Fx0 : Fx p l m0 c cX10_append 6 s args yX10_append cX10_append 6 (some .int) D cs A := ⟨hx, hb, hml, hown, hts, hK, hSS⟩
  have hown : s.vm.findClass RX10 = some m0.cls := hown
  have hl : lv_has ls 6 [(0, .ref (adx 0)), (1, .long x1)] := hl
  unfold D_X10_append at hD
  have c_62 : ∀ (n : Nat), ∀ (x1 : Int64) (x4 : Int32) (x : MM) (H : Heap) (locs : List Loc) (ls : Array Slot), D_X10_append_62 n x1 x4 x = some (rr, x') → va_P D vwCl (Wf x) H → va_S A s.heap H locs → lv_has ls 6 [(0, .ref (adx 0)), (1, .long x1), (4, .int x4)] → W p l e ({ frames := 0, cells := 0, slots := 0, locals := 0 } : Room) s m0 args below meth c H locs 0 0 Q (F0 m0 62 ls []) := by
    intro n
    induction n with
    | zero =>
      intro x1 x4 x H locs ls hD hP hS hl
      exact nn_el hD
    | succ n ih =>
      intro x1 x4 x H locs ls hD hP hS hl
      rw [D_X10_append_62] at hD
      refine lv_iload hx hb dX10_append_62 (lv_at hl 2 rfl) ?_
      refine lv_if_lt (tgt := 113) hx hb dX10_append_64 (by decide) (fun c => ?_) (fun c => ?_)
      · have hD := ifp hD c
        refine lv_aload_n hx hb dX10_append_113 rfl (lv_at hl 0 rfl) ?_
        refine rg  hx hb hT hu10 hown hK hP hLx 0 8 (Nat.le_of_ble_eq_true rfl) (xs0 _ _) rfl (Nat.le_of_ble_eq_true rfl) (Fx0.T tw_6_223) rfl (v := .int (gi x 0 8)) rfl dX10_append_114 ?_
        obtain ⟨rfl, rfl⟩ := es2 hD
        exact hret _ _ _ hP hS (fun Qc hq => W.iret hx hb hr hq hS.2.2 dX10_append_117 hlocks)
      · have hD := ifn hD c
        refine lv_lload_n hx hb dX10_append_67 rfl (lv_at hl 1 rfl) ?_
        refine lv_iload hx hb dX10_append_68 (lv_at hl 2 rfl) ?_
        refine lv_lushr (v := ((x1.toUInt64 >>> (x4.toInt64.toUInt64 &&& Int64.toUInt64 63)).toInt64)) hx hb dX10_append_70 rfl ?_
        refine lv_ldc2 (v := (255 : Int64)) hx hb hown (Fx0.T tw_7_35) dX10_append_71 ?_
        refine lv_land hx hb dX10_append_74 ?_
        refine lv_l2i (v := (((x1.toUInt64 >>> (x4.toInt64.toUInt64 &&& Int64.toUInt64 63)).toInt64) &&& (255 : Int64)).toInt32) hx hb dX10_append_75 rfl ?_
        obtain ⟨v2, ev2, hD⟩ := bnd_el hD
        refine lv_nmi ev2 ?_
        refine lv_istore (lv' := [(5, .int v2), (0, .ref (adx 0)), (1, .long x1), (4, .int x4)]) hx hb dX10_append_76 hl (by decide) rfl (fun ls hl => ?_)
        refine lv_iload hx hb dX10_append_78 (lv_at hl 0 rfl) ?_
        refine lv_if_ne (tgt := 86) hx hb dX10_append_80 (by decide) (fun c => ?_) (fun c => ?_)
        · have hD := ifn hD c
          refine lv_aload_n hx hb dX10_append_86 rfl (lv_at hl 1 rfl) ?_
          refine rg  hx hb hT hu10 hown hK hP hLx 0 7 (Nat.le_of_ble_eq_true rfl) (xs0 _ _) rfl (Nat.le_of_ble_eq_true rfl) (Fx0.T tw_6_222) rfl (v := .ref (adx 7)) rfl dX10_append_87 ?_
          refine lv_aload_n hx hb dX10_append_90 rfl (lv_at hl 1 rfl) ?_
          refine rg  hx hb hT hu10 hown hK hP hLx 0 8 (Nat.le_of_ble_eq_true rfl) (xs0 _ _) rfl (Nat.le_of_ble_eq_true rfl) (Fx0.T tw_6_223) rfl (v := .int (gi x 0 8)) rfl dX10_append_91 ?_
          refine lv_iload hx hb dX10_append_94 (lv_at hl 0 rfl) ?_
          obtain ⟨h3, hD⟩ := gd_el hD
          obtain ⟨m4, em4, hD⟩ := bnd_el hD
          refine riast  hx hb hK hP (hD1 _ (hAd _ _)) hS hLx 7 (Nat.le_of_ble_eq_true rfl) (fun _ => xs7 _ _) h3 rfl dX10_append_96 em4 (fun H locs hP hS => ?_)
          refine lv_aload_n hx hb dX10_append_97 rfl (lv_at hl 1 rfl) ?_
          refine lv_dup hx hb dX10_append_98 rfl ?_
          refine rg  hx hb hT hu10 hown hK hP hLx 0 8 (Nat.le_of_ble_eq_true rfl) (xs0 _ _) rfl (Nat.le_of_ble_eq_true rfl) (Fx0.T tw_6_223) rfl (v := .int (gi m4 0 8)) rfl dX10_append_99 ?_
          refine lv_iconst (v := (1 : Int32)) hx hb dX10_append_102 (by decide) ?_
          refine lv_iadd hx hb dX10_append_103 ?_
          obtain ⟨m5, em5, hD⟩ := bnd_el hD
          refine rp  hx hb hT hu10 tyX10_ok nmX10 hown hK hP (hD1 _ (hAd _ _)) hS hLx 0 8 (Nat.le_of_ble_eq_true rfl) (xs0 _ _) (xs0 _ _) rfl (Nat.le_of_ble_eq_true rfl) (Fx0.T tw_6_223) rfl rfl rfl rfl (Nat.le_of_ble_eq_true rfl) dX10_append_104 em5 (fun H locs hP hS => ?_)
          obtain ⟨v6, ev6, hD⟩ := bnd_el hD
          refine lv_iinc (v := v6) (lv' := [(4, .int v6), (5, .int v2), (0, .ref (adx 0)), (1, .long x1)]) hx hb dX10_append_107 hl (k := 3) rfl (by rw [ev6]; rfl) (by decide) rfl (fun ls hl => ?_)
          refine lv_goto (tgt := 62) hx hb dX10_append_110 (by decide) ?_
          exact ih _ _ _ _ _ _ hD hP hS (lv_sub hl [2, 3, 0] rfl)
        · have hD := ifp hD c
          refine lv_goto (tgt := 107) hx hb dX10_append_83 (by decide) ?_
          obtain ⟨v7, ev7, hD⟩ := bnd_el hD
          refine lv_iinc (v := v7) (lv' := [(4, .int v7), (5, .int v2), (0, .ref (adx 0)), (1, .long x1)]) hx hb dX10_append_107 hl (k := 3) rfl (by rw [ev7]; rfl) (by decide) rfl (fun ls hl => ?_)
          refine lv_goto (tgt := 62) hx hb dX10_append_110 (by decide) ?_
          exact ih _ _ _ _ _ _ hD hP hS (lv_sub hl [2, 3, 0] rfl)
  have c_11 : ∀ (n : Nat), ∀ (x1 : Int64) (x3 : Int32) (x4 : Int32) (x : MM) (H : Heap) (locs : List Loc) (ls : Array Slot), D_X10_append_11 n x1 x3 x4 x = some (rr, x') → va_P D vwCl (Wf x) H → va_S A s.heap H locs → lv_has ls 6 [(0, .ref (adx 0)), (1, .long x1), (3, .int x3), (4, .int x4)] → W p l e ({ frames := 0, cells := 0, slots := 0, locals := 0 } : Room) s m0 args below meth c H locs 0 0 Q (F0 m0 11 ls []) := by
    intro n
    induction n with
    | zero =>
      intro x1 x3 x4 x H locs ls hD hP hS hl
      exact nn_el hD
    | succ n ih =>
      intro x1 x3 x4 x H locs ls hD hP hS hl
      rw [D_X10_append_11] at hD
      refine lv_iload hx hb dX10_append_11 (lv_at hl 3 rfl) ?_
      refine lv_if_lt (tgt := 43) hx hb dX10_append_13 (by decide) (fun c => ?_) (fun c => ?_)
      · have hD := ifp hD c
        refine lv_aload_n hx hb dX10_append_43 rfl (lv_at hl 0 rfl) ?_
        refine rg  hx hb hT hu10 hown hK hP hLx 0 8 (Nat.le_of_ble_eq_true rfl) (xs0 _ _) rfl (Nat.le_of_ble_eq_true rfl) (Fx0.T tw_6_223) rfl (v := .int (gi x 0 8)) rfl dX10_append_44 ?_
        refine lv_iload_n hx hb dX10_append_47 rfl (lv_at hl 2 rfl) ?_
        refine lv_iadd hx hb dX10_append_48 ?_
        refine lv_sipush (v := (900 : Int32)) hx hb dX10_append_49 (by decide) ?_
        refine lv_icmp_le (tgt := 58) hx hb dX10_append_52 (by decide) (fun c => ?_) (fun c => ?_)
        · have hD := ifp hD c
          refine lv_bipush (v := (56 : Int32)) hx hb dX10_append_58 (by decide) ?_
          refine lv_istore (lv' := [(4, .int (56 : Int32)), (0, .ref (adx 0)), (1, .long x1), (3, .int x3)]) hx hb dX10_append_60 hl (by decide) rfl (fun ls hl => ?_)
          exact c_62 FU _ _ _ _ _ _ hD hP hS (lv_sub hl [1, 2, 0] rfl)
        · have hD := ifn hD c
          refine lv_bipush (v := (-2 : Int32)) hx hb dX10_append_55 (by decide) ?_
          obtain ⟨rfl, rfl⟩ := es2 hD
          exact hret _ _ _ hP hS (fun Qc hq => W.iret hx hb hr hq hS.2.2 dX10_append_57 hlocks)
      · have hD := ifn hD c
        refine lv_iload_n hx hb dX10_append_16 rfl (lv_at hl 2 rfl) ?_
        refine lv_lload_n hx hb dX10_append_17 rfl (lv_at hl 1 rfl) ?_
        refine lv_iload hx hb dX10_append_18 (lv_at hl 3 rfl) ?_
        refine lv_lushr (v := ((x1.toUInt64 >>> (x4.toInt64.toUInt64 &&& Int64.toUInt64 63)).toInt64)) hx hb dX10_append_20 rfl ?_
        refine lv_ldc2 (v := (255 : Int64)) hx hb hown (Fx0.T tw_7_35) dX10_append_21 ?_
        refine lv_land hx hb dX10_append_24 ?_
        refine lv_lconst (v := (0 : Int64)) hx hb dX10_append_25 (by decide) ?_
        refine rlc_eq (tgt := 34) hx hb dX10_append_26 dX10_append_27 (by decide) (fun c => ?_) (fun c => ?_)
        · have hD := ifp hD c
          refine lv_iconst (v := (0 : Int32)) hx hb dX10_append_34 (by decide) ?_
          refine lv_iadd hx hb dX10_append_35 ?_
          obtain ⟨v8, ev8, hD⟩ := bnd_el hD
          refine lv_nmi ev8 ?_
          refine lv_istore_n (lv' := [(3, .int v8), (0, .ref (adx 0)), (1, .long x1), (4, .int x4)]) hx hb dX10_append_36 rfl hl (by decide) rfl (fun ls hl => ?_)
          obtain ⟨v9, ev9, hD⟩ := bnd_el hD
          refine lv_iinc (v := v9) (lv' := [(4, .int v9), (3, .int v8), (0, .ref (adx 0)), (1, .long x1)]) hx hb dX10_append_37 hl (k := 3) rfl (by rw [ev9]; rfl) (by decide) rfl (fun ls hl => ?_)
          refine lv_goto (tgt := 11) hx hb dX10_append_40 (by decide) ?_
          exact ih _ _ _ _ _ _ _ hD hP hS (lv_sub hl [2, 3, 1, 0] rfl)
        · have hD := ifn hD c
          refine lv_iconst (v := (1 : Int32)) hx hb dX10_append_30 (by decide) ?_
          refine lv_goto (tgt := 35) hx hb dX10_append_31 (by decide) ?_
          refine lv_iadd hx hb dX10_append_35 ?_
          obtain ⟨v10, ev10, hD⟩ := bnd_el hD
          refine lv_nmi ev10 ?_
          refine lv_istore_n (lv' := [(3, .int v10), (0, .ref (adx 0)), (1, .long x1), (4, .int x4)]) hx hb dX10_append_36 rfl hl (by decide) rfl (fun ls hl => ?_)
          obtain ⟨v11, ev11, hD⟩ := bnd_el hD
          refine lv_iinc (v := v11) (lv' := [(4, .int v11), (3, .int v10), (0, .ref (adx 0)), (1, .long x1)]) hx hb dX10_append_37 hl (k := 3) rfl (by rw [ev11]; rfl) (by decide) rfl (fun ls hl => ?_)
          refine lv_goto (tgt := 11) hx hb dX10_append_40 (by decide) ?_
          exact ih _ _ _ _ _ _ _ hD hP hS (lv_sub hl [2, 3, 1, 0] rfl)
  refine lv_aload_n hx hb dX10_append_0 rfl (lv_at hl 0 rfl) ?_
  refine lv_iconst (v := (0 : Int32)) hx hb dX10_append_1 (by decide) ?_
  obtain ⟨m1, em1, hD⟩ := bnd_el hD
  refine rp  hx hb hT hu10 tyX10_ok nmX10 hown hK hP (hD1 _ (hAd _ _)) hS hLx 0 6 (Nat.le_of_ble_eq_true rfl) (xs0 _ _) (xs0 _ _) rfl (Nat.le_of_ble_eq_true rfl) (Fx0.T tw_6_221) rfl rfl rfl rfl (Nat.le_of_ble_eq_true rfl) dX10_append_2 em1 (fun H locs hP hS => ?_)
  refine lv_iconst (v := (0 : Int32)) hx hb dX10_append_5 (by decide) ?_
  refine lv_istore_n (lv' := [(3, .int (0 : Int32)), (0, .ref (adx 0)), (1, .long x1)]) hx hb dX10_append_6 rfl hl (by decide) rfl (fun ls hl => ?_)
  refine lv_bipush (v := (56 : Int32)) hx hb dX10_append_7 (by decide) ?_
  refine lv_istore (lv' := [(4, .int (56 : Int32)), (3, .int (0 : Int32)), (0, .ref (adx 0)), (1, .long x1)]) hx hb dX10_append_9 hl (by decide) rfl (fun ls hl => ?_)
  exact c_11 FU _ _ _ _ _ _ _ hD hP hS (lv_sub hl [2, 3, 1, 0] rfl)

noncomputable def D_X10_loadError (x : MM) : Option (Int32 × MM) := bnd (si x 0 6 (0 : Int32)) (fun m1 => some ((gi m1 0 13), m1))
set_option maxHeartbeats 4000000 in
set_option maxRecDepth 100000 in
theorem c_X10_loadError (l : Launch) {D : va_G} {cs : Nat → ClassId} {adx : Nat → Nat} {Wf : MM → va_W} (hLx : Ln 9 adx (xsh cs adx) Wf) (hAd : ∀ a0_ b0_ : MM, (Wf a0_).map (fun q => q.1) = (Wf b0_).map (fun q => q.1)) (x : MM) {rr : Int32} {x' : MM} (hD : D_X10_loadError x = some (rr, x')) : Ct l yX10_loadError cX10_loadError 1 (some .int) 0 0 D cs [.ref (adx 0)] (Wf x) (Wf x') (some (.int rr)) := by
  refine Ct.ofW (by decide) (Nat.le_of_ble_eq_true rfl) (hAd _ _) ?_
  intro p e s m0 below meth c A Q ls args hx hb hr hml hlocks hown hts hK hP hD1 hSS hS hA1 hl hret
  have hT : ∀ w ∈ TBL, w.before args s = true := fun w h => hts w (List.mem_cons_of_mem _ h)
  have Fx0 : Fx p l m0 c cX10_loadError 1 s args yX10_loadError cX10_loadError 1 (some .int) D cs A := ⟨hx, hb, hml, hown, hts, hK, hSS⟩
  have hown : s.vm.findClass RX10 = some m0.cls := hown
  have hl : lv_has ls 1 [(0, .ref (adx 0))] := hl
  unfold D_X10_loadError at hD
  refine lv_aload_n hx hb dX10_loadError_0 rfl (lv_at hl 0 rfl) ?_
  refine lv_iconst (v := (0 : Int32)) hx hb dX10_loadError_1 (by decide) ?_
  obtain ⟨m1, em1, hD⟩ := bnd_el hD
  refine rp  hx hb hT hu10 tyX10_ok nmX10 hown hK hP (hD1 _ (hAd _ _)) hS hLx 0 6 (Nat.le_of_ble_eq_true rfl) (xs0 _ _) (xs0 _ _) rfl (Nat.le_of_ble_eq_true rfl) (Fx0.T tw_6_221) rfl rfl rfl rfl (Nat.le_of_ble_eq_true rfl) dX10_loadError_2 em1 (fun H locs hP hS => ?_)
  refine lv_aload_n hx hb dX10_loadError_5 rfl (lv_at hl 0 rfl) ?_
  refine rg  hx hb hT hu10 hown hK hP hLx 0 13 (Nat.le_of_ble_eq_true rfl) (xs0 _ _) rfl (Nat.le_of_ble_eq_true rfl) (Fx0.T tw_6_228) rfl (v := .int (gi m1 0 13)) rfl dX10_loadError_6 ?_
  obtain ⟨rfl, rfl⟩ := es2 hD
  exact hret _ _ _ hP hS (fun Qc hq => W.iret hx hb hr hq hS.2.2 dX10_loadError_9 hlocks)

noncomputable def D_X10_load (x : MM) : Option (Int32 × MM) := bnd (si x 0 6 (0 : Int32)) (fun m1 => b1 (D_X10_begins 3 m1) (fun m2 => bnd (si m2 0 9 (0 : Int32)) (fun m4 => bnd (si m4 0 12 (0 : Int32)) (fun m5 => b2 (D_X10_readsAll m5) (fun v6 m7 => bnd (si m7 0 8 (0 : Int32)) (fun m9 => bnd (si m9 0 13 (gi m9 0 12)) (fun m10 => if v6 = 0 then (some (((-100 : Int32) - (gi m10 0 11)), m10)) else (b1 (D_X10_copies 3 1 m10) (fun m11 => some ((gi m11 1 19), m11))))))))))
set_option maxHeartbeats 4000000 in
set_option maxRecDepth 100000 in
theorem c_X10_load (l : Launch) {D : va_G} {cs : Nat → ClassId} {adx : Nat → Nat} {Wf : MM → va_W} (hLx : Ln 9 adx (xsh cs adx) Wf) (hAd : ∀ a0_ b0_ : MM, (Wf a0_).map (fun q => q.1) = (Wf b0_).map (fun q => q.1)) (x : MM) {rr : Int32} {x' : MM} (hD : D_X10_load x = some (rr, x')) : Ct l yX10_load cX10_load 2 (some .int) 7 156 D cs [.ref (adx 0)] (Wf x) (Wf x') (some (.int rr)) := by
  refine Ct.ofW (by decide) (Nat.le_of_ble_eq_true rfl) (hAd _ _) ?_
  intro p e s m0 below meth c A Q ls args hx hb hr hml hlocks hown hts hK hP hD1 hSS hS hA1 hl hret
  have hT : ∀ w ∈ TBL, w.before args s = true := fun w h => hts w (List.mem_cons_of_mem _ h)
  have Fx0 : Fx p l m0 c cX10_load 2 s args yX10_load cX10_load 2 (some .int) D cs A := ⟨hx, hb, hml, hown, hts, hK, hSS⟩
  have hown : s.vm.findClass RX10 = some m0.cls := hown
  have hl : lv_has ls 2 [(0, .ref (adx 0))] := hl
  unfold D_X10_load at hD
  refine lv_aload_n hx hb dX10_load_0 rfl (lv_at hl 0 rfl) ?_
  refine lv_iconst (v := (0 : Int32)) hx hb dX10_load_1 (by decide) ?_
  obtain ⟨m1, em1, hD⟩ := bnd_el hD
  refine rp  hx hb hT hu10 tyX10_ok nmX10 hown hK hP (hD1 _ (hAd _ _)) hS hLx 0 6 (Nat.le_of_ble_eq_true rfl) (xs0 _ _) (xs0 _ _) rfl (Nat.le_of_ble_eq_true rfl) (Fx0.T tw_6_221) rfl rfl rfl rfl (Nat.le_of_ble_eq_true rfl) dX10_load_2 em1 (fun H locs hP hS => ?_)
  refine lv_aload_n hx hb dX10_load_5 rfl (lv_at hl 0 rfl) ?_
  refine rg  hx hb hT hu10 hown hK hP hLx 0 2 (Nat.le_of_ble_eq_true rfl) (xs0 _ _) rfl (Nat.le_of_ble_eq_true rfl) (Fx0.T tw_6_217) rfl (v := .ref (adx 3)) rfl dX10_load_6 ?_
  obtain ⟨m2, z3, hD⟩ := b1_el hD
  refine rcS (As := [.ref (adx 3)]) (rest := []) Fx0 (c_X10_begins l hLx hAd m1 3 (by decide) (by decide) z3) hP (hD1 _ (hAd _ _)) hS (hA1 _ _ (hAd _ _) hS.1) tw_6_214 tw_6_212 tw_6_213 tw_1_13 yd_X10_begins ⟨(Nat.le_of_ble_eq_true rfl), (Nat.le_of_ble_eq_true rfl)⟩ rfl hl.1 rfl (Nat.le_of_ble_eq_true rfl) dX10_load_9 (fun H locs hP hS => ?_)
  refine lv_aload_n hx hb dX10_load_12 rfl (lv_at hl 0 rfl) ?_
  refine lv_iconst (v := (0 : Int32)) hx hb dX10_load_13 (by decide) ?_
  obtain ⟨m4, em4, hD⟩ := bnd_el hD
  refine rp  hx hb hT hu10 tyX10_ok nmX10 hown hK hP (hD1 _ (hAd _ _)) hS hLx 0 9 (Nat.le_of_ble_eq_true rfl) (xs0 _ _) (xs0 _ _) rfl (Nat.le_of_ble_eq_true rfl) (Fx0.T tw_6_224) rfl rfl rfl rfl (Nat.le_of_ble_eq_true rfl) dX10_load_14 em4 (fun H locs hP hS => ?_)
  refine lv_aload_n hx hb dX10_load_17 rfl (lv_at hl 0 rfl) ?_
  refine lv_iconst (v := (0 : Int32)) hx hb dX10_load_18 (by decide) ?_
  obtain ⟨m5, em5, hD⟩ := bnd_el hD
  refine rp  hx hb hT hu10 tyX10_ok nmX10 hown hK hP (hD1 _ (hAd _ _)) hS hLx 0 12 (Nat.le_of_ble_eq_true rfl) (xs0 _ _) (xs0 _ _) rfl (Nat.le_of_ble_eq_true rfl) (Fx0.T tw_6_227) rfl rfl rfl rfl (Nat.le_of_ble_eq_true rfl) dX10_load_19 em5 (fun H locs hP hS => ?_)
  refine lv_aload_n hx hb dX10_load_22 rfl (lv_at hl 0 rfl) ?_
  obtain ⟨v6, m7, z8, hD⟩ := b2_el hD
  refine rcV  (As := []) (rest := []) Fx0 (c_X10_readsAll l hLx hAd m5 z8) hP (hD1 _ (hAd _ _)) hS (hA1 _ _ (hAd _ _) hS.1) hLx (Nat.le_of_ble_eq_true rfl) (xs0 _ _) rfl tw_7_47 tw_7_44 tw_7_46 ts_87 tw_1_13 yd_X10_readsAll ⟨(Nat.le_of_ble_eq_true rfl), (Nat.le_of_ble_eq_true rfl)⟩ rfl hl.1 rfl (Nat.le_of_ble_eq_true rfl) dX10_load_23 (fun H locs hP hS => ?_)
  refine lv_istore_n (lv' := [(1, .int v6), (0, .ref (adx 0))]) hx hb dX10_load_26 rfl hl (by decide) rfl (fun ls hl => ?_)
  refine lv_aload_n hx hb dX10_load_27 rfl (lv_at hl 1 rfl) ?_
  refine lv_iconst (v := (0 : Int32)) hx hb dX10_load_28 (by decide) ?_
  obtain ⟨m9, em9, hD⟩ := bnd_el hD
  refine rp  hx hb hT hu10 tyX10_ok nmX10 hown hK hP (hD1 _ (hAd _ _)) hS hLx 0 8 (Nat.le_of_ble_eq_true rfl) (xs0 _ _) (xs0 _ _) rfl (Nat.le_of_ble_eq_true rfl) (Fx0.T tw_6_223) rfl rfl rfl rfl (Nat.le_of_ble_eq_true rfl) dX10_load_29 em9 (fun H locs hP hS => ?_)
  refine lv_aload_n hx hb dX10_load_32 rfl (lv_at hl 1 rfl) ?_
  refine lv_aload_n hx hb dX10_load_33 rfl (lv_at hl 1 rfl) ?_
  refine rg  hx hb hT hu10 hown hK hP hLx 0 12 (Nat.le_of_ble_eq_true rfl) (xs0 _ _) rfl (Nat.le_of_ble_eq_true rfl) (Fx0.T tw_6_227) rfl (v := .int (gi m9 0 12)) rfl dX10_load_34 ?_
  obtain ⟨m10, em10, hD⟩ := bnd_el hD
  refine rp  hx hb hT hu10 tyX10_ok nmX10 hown hK hP (hD1 _ (hAd _ _)) hS hLx 0 13 (Nat.le_of_ble_eq_true rfl) (xs0 _ _) (xs0 _ _) rfl (Nat.le_of_ble_eq_true rfl) (Fx0.T tw_6_228) rfl rfl rfl rfl (Nat.le_of_ble_eq_true rfl) dX10_load_37 em10 (fun H locs hP hS => ?_)
  refine lv_iload_n hx hb dX10_load_40 rfl (lv_at hl 0 rfl) ?_
  refine lv_if_ne (tgt := 52) hx hb dX10_load_41 (by decide) (fun c => ?_) (fun c => ?_)
  · have hD := ifn hD c
    refine lv_aload_n hx hb dX10_load_52 rfl (lv_at hl 1 rfl) ?_
    refine rg  hx hb hT hu10 hown hK hP hLx 0 2 (Nat.le_of_ble_eq_true rfl) (xs0 _ _) rfl (Nat.le_of_ble_eq_true rfl) (Fx0.T tw_6_217) rfl (v := .ref (adx 3)) rfl dX10_load_53 ?_
    refine lv_aload_n hx hb dX10_load_56 rfl (lv_at hl 1 rfl) ?_
    refine rg  hx hb hT hu10 hown hK hP hLx 0 0 (Nat.le_of_ble_eq_true rfl) (xs0 _ _) rfl (Nat.le_of_ble_eq_true rfl) (Fx0.T tw_6_215) rfl (v := .ref (adx 1)) rfl dX10_load_57 ?_
    obtain ⟨m11, z12, hD⟩ := b1_el hD
    refine rcS (As := [.ref (adx 3), .ref (adx 1)]) (rest := []) Fx0 (c_X10_copies l hLx hAd m10 3 (by decide) (by decide) 1 (by decide) (by decide) z12) hP (hD1 _ (hAd _ _)) hS (hA1 _ _ (hAd _ _) hS.1) tw_7_150 tw_7_148 tw_7_149 tw_1_13 yd_X10_copies ⟨(Nat.le_of_ble_eq_true rfl), (Nat.le_of_ble_eq_true rfl)⟩ rfl hl.1 rfl (Nat.le_of_ble_eq_true rfl) dX10_load_60 (fun H locs hP hS => ?_)
    refine lv_aload_n hx hb dX10_load_63 rfl (lv_at hl 1 rfl) ?_
    refine rg  hx hb hT hu10 hown hK hP hLx 0 0 (Nat.le_of_ble_eq_true rfl) (xs0 _ _) rfl (Nat.le_of_ble_eq_true rfl) (Fx0.T tw_6_215) rfl (v := .ref (adx 1)) rfl dX10_load_64 ?_
    refine lv_bipush (v := (19 : Int32)) hx hb dX10_load_67 (by decide) ?_
    refine riald  hx hb hK hP hLx 1 (Nat.le_of_ble_eq_true rfl) (xs1 _ _) (by decide) (j := 19) (by decide) dX10_load_69 ?_
    obtain ⟨rfl, rfl⟩ := es2 hD
    exact hret _ _ _ hP hS (fun Qc hq => W.iret hx hb hr hq hS.2.2 dX10_load_70 hlocks)
  · have hD := ifp hD c
    refine lv_bipush (v := (-100 : Int32)) hx hb dX10_load_44 (by decide) ?_
    refine lv_aload_n hx hb dX10_load_46 rfl (lv_at hl 1 rfl) ?_
    refine rg  hx hb hT hu10 hown hK hP hLx 0 11 (Nat.le_of_ble_eq_true rfl) (xs0 _ _) rfl (Nat.le_of_ble_eq_true rfl) (Fx0.T tw_6_226) rfl (v := .int (gi m10 0 11)) rfl dX10_load_47 ?_
    refine lv_isub hx hb dX10_load_50 ?_
    obtain ⟨rfl, rfl⟩ := es2 hD
    exact hret _ _ _ hP hS (fun Qc hq => W.iret hx hb hr hq hS.2.2 dX10_load_51 hlocks)
