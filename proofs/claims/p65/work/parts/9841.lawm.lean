/-! the law's own methods -/
def lr {α : Type} (o : Option (Nat ⊕ α)) : Option α := match o with
  | some (.inr x) => some x
  | _ => none
theorem lr_el {α : Type} {o : Option (Nat ⊕ α)} {r : α} (h : lr o = some r) : o = some (.inr r) := by
  rcases o with _ | k | x
  · cases h
  · cases h
  · exact congrArg (fun z => some (Sum.inr z)) (Option.some.inj h)
section LAWM
variable {p : Program} {l : Launch} {e : Env} {R : Room} {s : State} {m : MethodId} {args : Array Value} {below : List Frame} {meth : Method} {c : Code} {H : Heap} {locs : List Loc} {cells slots : Nat} {Q : State → Prop}
variable {cc : ByteArray} {pc : Nat} {ls : Array Slot} {rest : List Value} {D : va_G} {A : Nat → Prop}
theorem sc_in (hSS : SS D A s s.heap) : va_X (sB D) (sL D) (sX D) s s.heap ∧ sB D < s.heap.size ∧ ¬ A (sB D) := ⟨hSS.2.2.2.2.2.2.2.2.2.2.2.1, by
  obtain ⟨scr, h1, -⟩ := hSS.2.2.2.2.2.2.2.2.2.2.2.1
  exact (Array.getElem?_eq_some_iff.mp h1).1, hSS.2.2.2.2.2.2.2.2.2.2.2.2⟩
theorem rsln (hx : p.tables.exec = Jvm.exec) (hb : c.code = cc) (hSS : SS D A s s.heap) (hS : va_S A s.heap H locs) (hdg : decode cc pc = .ok (.arraylength, 1)) (kk : W p l e R s m args below meth c H locs cells slots Q (F0 m (pc + 1) ls (.int (Int32.ofNat (sL D)) :: rest))) : W p l e R s m args below meth c H locs cells slots Q (F0 m pc ls (.ref (sB D) :: rest)) := va_slen hx hb (sc_in hSS).1 (sc_in hSS).2.1 (sc_in hSS).2.2 hS hdg kk
theorem rsld (hx : p.tables.exec = Jvm.exec) (hb : c.code = cc) (hSS : SS D A s s.heap) (hS : va_S A s.heap H locs) {i : Int32} {j : Nat} (hin : ¬ (i < 0 ∨ sL D ≤ i.toNatClampNeg)) (hj : i.toNatClampNeg = j) (hdg : decode cc pc = .ok (.iaload, 1)) (kk : W p l e R s m args below meth c H locs cells slots Q (F0 m (pc + 1) ls (.int (sX D j) :: rest))) : W p l e R s m args below meth c H locs cells slots Q (F0 m pc ls (.int i :: .ref (sB D) :: rest)) := by
  subst hj
  exact va_sld hx hb (sc_in hSS).1 (sc_in hSS).2.1 (sc_in hSS).2.2 hS hin hdg kk
end LAWM
noncomputable def D_L_cell (D : va_G) (x1 : Int32) : Option Int32 := if (Int32.ofNat (sL D)) = 0 then (some ((0 : Int32))) else (if (Int32.ofNat (sL D)) = 0 then none else if (x1 - x1 / (Int32.ofNat (sL D)) * (Int32.ofNat (sL D))) < 0 ∨ sL D ≤ (x1 - x1 / (Int32.ofNat (sL D)) * (Int32.ofNat (sL D))).toNatClampNeg then none else (bnd (if 0 ≤ ((sX D ((x1 - x1 / (Int32.ofNat (sL D)) * (Int32.ofNat (sL D))).toNatClampNeg)) - (sX D ((x1 - x1 / (Int32.ofNat (sL D)) * (Int32.ofNat (sL D))).toNatClampNeg)) / (100000 : Int32) * (100000 : Int32)) then ((sX D ((x1 - x1 / (Int32.ofNat (sL D)) * (Int32.ofNat (sL D))).toNatClampNeg)) - (sX D ((x1 - x1 / (Int32.ofNat (sL D)) * (Int32.ofNat (sL D))).toNatClampNeg)) / (100000 : Int32) * (100000 : Int32)) else 0 - ((sX D ((x1 - x1 / (Int32.ofNat (sL D)) * (Int32.ofNat (sL D))).toNatClampNeg)) - (sX D ((x1 - x1 / (Int32.ofNat (sL D)) * (Int32.ofNat (sL D))).toNatClampNeg)) / (100000 : Int32) * (100000 : Int32))) (fun v3 => some (v3))))
set_option maxHeartbeats 4000000 in
set_option maxRecDepth 100000 in
theorem c_L_cell (l : Launch) {D : va_G} {cs : Nat → ClassId} {w : va_W} (x1 : Int32) {rr : Int32} (hD : D_L_cell D x1 = some (rr)) : Ct l yL_cell cL_cell 2 (some .int) 1 24 D cs [.ref (sB D), .int x1] (w) (w) (some (.int rr)) := by
  refine Ct.ofW (by decide) (Nat.le_of_ble_eq_true rfl) rfl ?_
  intro p e s m0 below meth c A Q ls args hx hb hr hml hlocks hown hts hK hP hD1 hSS hS hA1 hl hret
  have hT : ∀ w ∈ TBL, w.before args s = true := fun w h => hts w (List.mem_cons_of_mem _ h)
  have Fx0 : Fx p l m0 c cL_cell 2 s args yL_cell cL_cell 2 (some .int) D cs A := ⟨hx, hb, hml, hown, hts, hK, hSS⟩
  have hown : s.vm.findClass RL = some m0.cls := hown
  have hl : lv_has ls 2 [(0, .ref (sB D)), (1, .int x1)] := hl
  unfold D_L_cell at hD
  refine lv_aload_n hx hb dL_cell_0 rfl (lv_at hl 0 rfl) ?_
  refine rsln hx hb hSS hS dL_cell_1 ?_
  refine lv_if_ne (tgt := 9) hx hb dL_cell_2 (by decide) (fun c => ?_) (fun c => ?_)
  · have hD := ifn hD c
    refine lv_aload_n hx hb dL_cell_9 rfl (lv_at hl 0 rfl) ?_
    refine lv_iload_n hx hb dL_cell_10 rfl (lv_at hl 1 rfl) ?_
    refine lv_aload_n hx hb dL_cell_11 rfl (lv_at hl 0 rfl) ?_
    refine rsln hx hb hSS hS dL_cell_12 ?_
    obtain ⟨h1, hD⟩ := gd_el hD
    refine lv_irem hx hb dL_cell_13 h1 ?_
    obtain ⟨h2, hD⟩ := gd_el hD
    refine rsld hx hb hSS hS h2 rfl dL_cell_14 ?_
    refine lv_ldc (v := (100000 : Int32)) hx hb hown (Fx0.T tw_4_161) dL_cell_15 ?_
    refine lv_irem hx hb dL_cell_17 (by decide) ?_
    refine va_mabs hx hb (hml.trans hl.1.symm) hown (Fx0.T tw_4_162) (Fx0.T tw_4_163) (Fx0.T tw_1_18) (Fx0.T tw_4_164) (Nat.le_of_ble_eq_true rfl) (Nat.le_of_ble_eq_true rfl) (Nat.le_refl _) (Nat.le_refl _) dL_cell_18 ?_
    obtain ⟨v3, ev3, hD⟩ := bnd_el hD
    refine lv_nmi ev3 ?_
    obtain rfl := es1 hD
    exact hret _ _ _ hP hS (fun Qc hq => W.iret hx hb hr hq hS.2.2 dL_cell_21 hlocks)
  · have hD := ifp hD c
    refine lv_iconst (v := (0 : Int32)) hx hb dL_cell_5 (by decide) ?_
    refine lv_goto (tgt := 21) hx hb dL_cell_6 (by decide) ?_
    obtain rfl := es1 hD
    exact hret _ _ _ hP hS (fun Qc hq => W.iret hx hb hr hq hS.2.2 dL_cell_21 hlocks)
noncomputable def D_L_step (D : va_G) (x2 : Int32) (h : MM) (m : MM) : Option (MM × MM) := b1 (D_L_cell D (x2 + (1 : Int32))) (fun v1 => b1 (lr (D_X9_count (0 : Int32) h m)) (fun v3 => if v3 = 0 then none else bnd ((v1 - v1 / v3 * v3)) (fun v6 => b1 (D_L_cell D (x2 + (2 : Int32))) (fun v7 => b1 (D_L_cell D x2) (fun v9 => if (v9 - v9 / (15 : Int32) * (15 : Int32)) = (0 : Int32) then (b2 (lr (D_X9_changeNozzle v6 (v7 - v7 / (2 : Int32) * (2 : Int32)) h m)) (fun v11 m12 => some (h, m12))) else (if (v9 - v9 / (15 : Int32) * (15 : Int32)) = (1 : Int32) then (b2 (lr (D_X9_pick v6 (v7 - v7 / (3 : Int32) * (3 : Int32)) h m)) (fun v14 m15 => some (h, m15))) else (if (v9 - v9 / (15 : Int32) * (15 : Int32)) = (2 : Int32) then (b2 (lr (D_X9_look v6 h m)) (fun v17 m18 => some (h, m18))) else (if (v9 - v9 / (15 : Int32) * (15 : Int32)) = (3 : Int32) then (b2 (lr (D_X9_place v6 (v7 - v7 / (6 : Int32) * (6 : Int32)) h m)) (fun v20 m21 => some (h, m21))) else (if (v9 - v9 / (15 : Int32) * (15 : Int32)) = (4 : Int32) then (b2 (lr (D_X9_discard v6 h m)) (fun v23 m24 => some (h, m24))) else (if (v9 - v9 / (15 : Int32) * (15 : Int32)) = (5 : Int32) then (b2 (lr (D_X9_clean v6 h m)) (fun v26 m27 => some (h, m27))) else (if (v9 - v9 / (15 : Int32) * (15 : Int32)) = (6 : Int32) then (b2 (lr (D_X9_splice (v7 - v7 / (3 : Int32) * (3 : Int32)) (v1 - v1 / (6 : Int32) * (6 : Int32)) h m)) (fun v29 m30 => some (h, m30))) else (if (v9 - v9 / (15 : Int32) * (15 : Int32)) = (7 : Int32) then (b2 (lr (D_X9_takeReel (v7 - v7 / (3 : Int32) * (3 : Int32)) h m)) (fun v32 m33 => some (h, m33))) else (if (v9 - v9 / (15 : Int32) * (15 : Int32)) = (8 : Int32) then (if (v1 - v1 / (2 : Int32) * (2 : Int32)) = 0 then (b2 (lr (D_X9_leaveOut (v7 - v7 / (6 : Int32) * (6 : Int32)) (1 : Int32) h m)) (fun v38 m39 => some (h, m39))) else (b2 (lr (D_X9_leaveOut (v7 - v7 / (6 : Int32) * (6 : Int32)) (0 : Int32) h m)) (fun v35 m36 => some (h, m36)))) else (if (v9 - v9 / (15 : Int32) * (15 : Int32)) = (9 : Int32) then (b2 (D_X9_newBoard h m) (fun v41 m42 => some (h, m42))) else (if (v9 - v9 / (15 : Int32) * (15 : Int32)) = (10 : Int32) then (b2 (D_X9_resume h m) (fun v44 m45 => some (h, m45))) else (if (v9 - v9 / (15 : Int32) * (15 : Int32)) = (11 : Int32) then (b2 (lr (D_X9_set (7 : Int32) (v1 - v1 / (6 : Int32) * (6 : Int32)) h m)) (fun v47 m48 => some (h, m48))) else (b3 (lr (D_X9_run ((1 : Int32) + (v1 - v1 / (9 : Int32) * (9 : Int32))) h m)) (fun v50 m51 m52 => some (m51, m52)))))))))))))))))))
set_option maxHeartbeats 4000000 in
set_option maxRecDepth 100000 in
theorem c_L_step (l : Launch) {D : va_G} {cs : Nat → ClassId} {adh ad ma : Nat → Nat} {Wf : MM → MM → va_W} (hLh : ∀ m : MM, Ln 8 adh (hsh cs adh ma) (fun z => Wf z m)) (hL : ∀ h : MM, Ln 51 ad (msh cs ad) (fun z => Wf h z)) (hAd : ∀ a0_ b0_ a1_ b1_ : MM, (Wf a0_ a1_).map (fun q => q.1) = (Wf b0_ b1_).map (fun q => q.1)) (hm1 : ma 1 = ad 24) (h : MM) (m : MM) (x2 : Int32) {h' : MM} {m' : MM} (hD : D_L_step D x2 h m = some (h', m')) : Ct l yL_step cL_step 6 none 8 177 D cs [.ref (adh 0), .ref (sB D), .int x2] (Wf h m) (Wf h' m') (none) := by
  refine Ct.ofW (by decide) (Nat.le_of_ble_eq_true rfl) (hAd _ _ _ _) ?_
  intro p e s m0 below meth c A Q ls args hx hb hr hml hlocks hown hts hK hP hD1 hSS hS hA1 hl hret
  have hT : ∀ w ∈ TBL, w.before args s = true := fun w h => hts w (List.mem_cons_of_mem _ h)
  have Fx0 : Fx p l m0 c cL_step 6 s args yL_step cL_step 6 none D cs A := ⟨hx, hb, hml, hown, hts, hK, hSS⟩
  have hown : s.vm.findClass RL = some m0.cls := hown
  have hl : lv_has ls 6 [(0, .ref (adh 0)), (1, .ref (sB D)), (2, .int x2)] := hl
  unfold D_L_step at hD
  refine lv_aload_n hx hb dL_step_0 rfl (lv_at hl 1 rfl) ?_
  refine lv_iload_n hx hb dL_step_1 rfl (lv_at hl 2 rfl) ?_
  refine lv_iconst (v := (1 : Int32)) hx hb dL_step_2 (by decide) ?_
  refine lv_iadd hx hb dL_step_3 ?_
  obtain ⟨v1, z2, hD⟩ := b1_el hD
  refine rcS (As := [.ref (sB D), .int (x2 + (1 : Int32))]) (rest := []) Fx0 (c_L_cell l (x2 + (1 : Int32)) z2) hP (hD1 _ (hAd _ _ _ _)) hS (hA1 _ _ (hAd _ _ _ _) hS.1) tw_4_160 tw_4_158 tw_4_159 tw_1_0 yd_L_cell ⟨(Nat.le_of_ble_eq_true rfl), (Nat.le_of_ble_eq_true rfl)⟩ rfl hl.1 rfl (Nat.le_of_ble_eq_true rfl) dL_step_4 (fun H locs hP hS => ?_)
  refine lv_istore_n (lv' := [(3, .int v1), (0, .ref (adh 0)), (1, .ref (sB D)), (2, .int x2)]) hx hb dL_step_7 rfl hl (by decide) rfl (fun ls hl => ?_)
  refine lv_iload_n hx hb dL_step_8 rfl (lv_at hl 0 rfl) ?_
  refine lv_aload_n hx hb dL_step_9 rfl (lv_at hl 1 rfl) ?_
  refine lv_iconst (v := (0 : Int32)) hx hb dL_step_10 (by decide) ?_
  obtain ⟨v3, z40, hD⟩ := b1_el hD
  have z4 := lr_el z40
  refine rcV (Wf := fun z => Wf z m) (mm := h) (As := [.int (0 : Int32)]) (rest := [.int v1]) Fx0 (c_X9_count l (Wf := fun z0_ z1_ => Wf z0_ z1_) (fun z1_ => hLh z1_) (fun z0_ => hL z0_) (fun a0_ b0_ a1_ b1_ => hAd a0_ b0_ a1_ b1_) hm1 h m (0 : Int32) z4) hP (hD1 _ (hAd _ _ _ _)) hS (hA1 _ _ (hAd _ _ _ _) hS.1) (hLh m) (Nat.le_of_ble_eq_true rfl) (hs0 _ _) rfl tw_5_23 tw_5_20 tw_5_21 tw_5_22 tw_1_1 yd_X9_count ⟨(Nat.le_of_ble_eq_true rfl), (Nat.le_of_ble_eq_true rfl)⟩ rfl hl.1 rfl (Nat.le_of_ble_eq_true rfl) dL_step_11 (fun H locs hP hS => ?_)
  obtain ⟨h5, hD⟩ := gd_el hD
  refine lv_irem hx hb dL_step_14 h5 ?_
  obtain ⟨v6, ev6, hD⟩ := bnd_el hD
  refine lv_nmi ev6 ?_
  refine lv_istore (lv' := [(4, .int v6), (3, .int v1), (0, .ref (adh 0)), (1, .ref (sB D)), (2, .int x2)]) hx hb dL_step_15 hl (by decide) rfl (fun ls hl => ?_)
  refine lv_aload_n hx hb dL_step_17 rfl (lv_at hl 3 rfl) ?_
  refine lv_iload_n hx hb dL_step_18 rfl (lv_at hl 4 rfl) ?_
  refine lv_iconst (v := (2 : Int32)) hx hb dL_step_19 (by decide) ?_
  refine lv_iadd hx hb dL_step_20 ?_
  obtain ⟨v7, z8, hD⟩ := b1_el hD
  refine rcS (As := [.ref (sB D), .int (x2 + (2 : Int32))]) (rest := []) Fx0 (c_L_cell l (x2 + (2 : Int32)) z8) hP (hD1 _ (hAd _ _ _ _)) hS (hA1 _ _ (hAd _ _ _ _) hS.1) tw_4_160 tw_4_158 tw_4_159 tw_1_0 yd_L_cell ⟨(Nat.le_of_ble_eq_true rfl), (Nat.le_of_ble_eq_true rfl)⟩ rfl hl.1 rfl (Nat.le_of_ble_eq_true rfl) dL_step_21 (fun H locs hP hS => ?_)
  refine lv_istore (lv' := [(5, .int v7), (4, .int v6), (3, .int v1), (0, .ref (adh 0)), (1, .ref (sB D)), (2, .int x2)]) hx hb dL_step_24 hl (by decide) rfl (fun ls hl => ?_)
  refine lv_aload_n hx hb dL_step_26 rfl (lv_at hl 4 rfl) ?_
  refine lv_iload_n hx hb dL_step_27 rfl (lv_at hl 5 rfl) ?_
  obtain ⟨v9, z10, hD⟩ := b1_el hD
  refine rcS (As := [.ref (sB D), .int x2]) (rest := []) Fx0 (c_L_cell l x2 z10) hP (hD1 _ (hAd _ _ _ _)) hS (hA1 _ _ (hAd _ _ _ _) hS.1) tw_4_160 tw_4_158 tw_4_159 tw_1_0 yd_L_cell ⟨(Nat.le_of_ble_eq_true rfl), (Nat.le_of_ble_eq_true rfl)⟩ rfl hl.1 rfl (Nat.le_of_ble_eq_true rfl) dL_step_28 (fun H locs hP hS => ?_)
  refine lv_bipush (v := (15 : Int32)) hx hb dL_step_31 (by decide) ?_
  refine lv_irem hx hb dL_step_33 (by decide) ?_
  by_cases sw34_0 : (v9 - v9 / (15 : Int32) * (15 : Int32)) = (0 : Int32)
  · have hD := ifp hD sw34_0
    refine lv_tableIn (off := 62) (tgt := 96) hx hb dL_step_34 (by rw [sw34_0]; decide) (by rw [sw34_0]; decide) (by rw [sw34_0]; rfl) (by decide) ?_
    refine lv_aload_n hx hb dL_step_96 rfl (lv_at hl 3 rfl) ?_
    refine lv_iload hx hb dL_step_97 (lv_at hl 1 rfl) ?_
    refine lv_iload hx hb dL_step_99 (lv_at hl 0 rfl) ?_
    refine lv_iconst (v := (2 : Int32)) hx hb dL_step_101 (by decide) ?_
    refine lv_irem hx hb dL_step_102 (by decide) ?_
    obtain ⟨v11, m12, z130, hD⟩ := b2_el hD
    have z13 := lr_el z130
    refine rcV (Wf := fun z => Wf z m) (mm := h) (As := [.int v6, .int (v7 - v7 / (2 : Int32) * (2 : Int32))]) (rest := []) Fx0 (c_X9_changeNozzle l (Wf := fun z0_ z1_ => Wf z0_ z1_) (fun z1_ => hLh z1_) (fun z0_ => hL z0_) (fun a0_ b0_ a1_ b1_ => hAd a0_ b0_ a1_ b1_) hm1 h m v6 (v7 - v7 / (2 : Int32) * (2 : Int32)) z13) hP (hD1 _ (hAd _ _ _ _)) hS (hA1 _ _ (hAd _ _ _ _) hS.1) (hLh m) (Nat.le_of_ble_eq_true rfl) (hs0 _ _) rfl tw_5_93 tw_5_90 tw_5_91 tw_5_92 tw_1_1 yd_X9_changeNozzle ⟨(Nat.le_of_ble_eq_true rfl), (Nat.le_of_ble_eq_true rfl)⟩ rfl hl.1 rfl (Nat.le_of_ble_eq_true rfl) dL_step_103 (fun H locs hP hS => ?_)
    refine lv_pop hx hb dL_step_106 rfl ?_
    refine lv_goto (tgt := 262) hx hb dL_step_107 (by decide) ?_
    obtain ⟨rfl, rfl⟩ := es2 hD
    exact hret _ _ _ hP hS (fun Qc hq => W.vret hx hb hr hq hS.2.2 dL_step_262 hlocks)
  · have hD := ifn hD sw34_0
    by_cases sw34_1 : (v9 - v9 / (15 : Int32) * (15 : Int32)) = (1 : Int32)
    · have hD := ifp hD sw34_1
      refine lv_tableIn (off := 76) (tgt := 110) hx hb dL_step_34 (by rw [sw34_1]; decide) (by rw [sw34_1]; decide) (by rw [sw34_1]; rfl) (by decide) ?_
      refine lv_aload_n hx hb dL_step_110 rfl (lv_at hl 3 rfl) ?_
      refine lv_iload hx hb dL_step_111 (lv_at hl 1 rfl) ?_
      refine lv_iload hx hb dL_step_113 (lv_at hl 0 rfl) ?_
      refine lv_iconst (v := (3 : Int32)) hx hb dL_step_115 (by decide) ?_
      refine lv_irem hx hb dL_step_116 (by decide) ?_
      obtain ⟨v14, m15, z160, hD⟩ := b2_el hD
      have z16 := lr_el z160
      refine rcV (Wf := fun z => Wf z m) (mm := h) (As := [.int v6, .int (v7 - v7 / (3 : Int32) * (3 : Int32))]) (rest := []) Fx0 (c_X9_pick l (Wf := fun z0_ z1_ => Wf z0_ z1_) (fun z1_ => hLh z1_) (fun z0_ => hL z0_) (fun a0_ b0_ a1_ b1_ => hAd a0_ b0_ a1_ b1_) hm1 h m v6 (v7 - v7 / (3 : Int32) * (3 : Int32)) z16) hP (hD1 _ (hAd _ _ _ _)) hS (hA1 _ _ (hAd _ _ _ _) hS.1) (hLh m) (Nat.le_of_ble_eq_true rfl) (hs0 _ _) rfl tw_5_183 tw_5_180 tw_5_181 tw_5_182 tw_1_1 yd_X9_pick ⟨(Nat.le_of_ble_eq_true rfl), (Nat.le_of_ble_eq_true rfl)⟩ rfl hl.1 rfl (Nat.le_of_ble_eq_true rfl) dL_step_117 (fun H locs hP hS => ?_)
      refine lv_pop hx hb dL_step_120 rfl ?_
      refine lv_goto (tgt := 262) hx hb dL_step_121 (by decide) ?_
      obtain ⟨rfl, rfl⟩ := es2 hD
      exact hret _ _ _ hP hS (fun Qc hq => W.vret hx hb hr hq hS.2.2 dL_step_262 hlocks)
    · have hD := ifn hD sw34_1
      by_cases sw34_2 : (v9 - v9 / (15 : Int32) * (15 : Int32)) = (2 : Int32)
      · have hD := ifp hD sw34_2
        refine lv_tableIn (off := 90) (tgt := 124) hx hb dL_step_34 (by rw [sw34_2]; decide) (by rw [sw34_2]; decide) (by rw [sw34_2]; rfl) (by decide) ?_
        refine lv_aload_n hx hb dL_step_124 rfl (lv_at hl 3 rfl) ?_
        refine lv_iload hx hb dL_step_125 (lv_at hl 1 rfl) ?_
        obtain ⟨v17, m18, z190, hD⟩ := b2_el hD
        have z19 := lr_el z190
        refine rcV (Wf := fun z => Wf z m) (mm := h) (As := [.int v6]) (rest := []) Fx0 (c_X9_look l (Wf := fun z0_ z1_ => Wf z0_ z1_) (fun z1_ => hLh z1_) (fun z0_ => hL z0_) (fun a0_ b0_ a1_ b1_ => hAd a0_ b0_ a1_ b1_) hm1 h m v6 z19) hP (hD1 _ (hAd _ _ _ _)) hS (hA1 _ _ (hAd _ _ _ _) hS.1) (hLh m) (Nat.le_of_ble_eq_true rfl) (hs0 _ _) rfl tw_5_187 tw_5_184 tw_5_185 tw_5_186 tw_1_1 yd_X9_look ⟨(Nat.le_of_ble_eq_true rfl), (Nat.le_of_ble_eq_true rfl)⟩ rfl hl.1 rfl (Nat.le_of_ble_eq_true rfl) dL_step_127 (fun H locs hP hS => ?_)
        refine lv_pop hx hb dL_step_130 rfl ?_
        refine lv_goto (tgt := 262) hx hb dL_step_131 (by decide) ?_
        obtain ⟨rfl, rfl⟩ := es2 hD
        exact hret _ _ _ hP hS (fun Qc hq => W.vret hx hb hr hq hS.2.2 dL_step_262 hlocks)
      · have hD := ifn hD sw34_2
        by_cases sw34_3 : (v9 - v9 / (15 : Int32) * (15 : Int32)) = (3 : Int32)
        · have hD := ifp hD sw34_3
          refine lv_tableIn (off := 100) (tgt := 134) hx hb dL_step_34 (by rw [sw34_3]; decide) (by rw [sw34_3]; decide) (by rw [sw34_3]; rfl) (by decide) ?_
          refine lv_aload_n hx hb dL_step_134 rfl (lv_at hl 3 rfl) ?_
          refine lv_iload hx hb dL_step_135 (lv_at hl 1 rfl) ?_
          refine lv_iload hx hb dL_step_137 (lv_at hl 0 rfl) ?_
          refine lv_bipush (v := (6 : Int32)) hx hb dL_step_139 (by decide) ?_
          refine lv_irem hx hb dL_step_141 (by decide) ?_
          obtain ⟨v20, m21, z220, hD⟩ := b2_el hD
          have z22 := lr_el z220
          refine rcV (Wf := fun z => Wf z m) (mm := h) (As := [.int v6, .int (v7 - v7 / (6 : Int32) * (6 : Int32))]) (rest := []) Fx0 (c_X9_place l (Wf := fun z0_ z1_ => Wf z0_ z1_) (fun z1_ => hLh z1_) (fun z0_ => hL z0_) (fun a0_ b0_ a1_ b1_ => hAd a0_ b0_ a1_ b1_) hm1 h m v6 (v7 - v7 / (6 : Int32) * (6 : Int32)) z22) hP (hD1 _ (hAd _ _ _ _)) hS (hA1 _ _ (hAd _ _ _ _) hS.1) (hLh m) (Nat.le_of_ble_eq_true rfl) (hs0 _ _) rfl tw_5_191 tw_5_188 tw_5_189 tw_5_190 tw_1_1 yd_X9_place ⟨(Nat.le_of_ble_eq_true rfl), (Nat.le_of_ble_eq_true rfl)⟩ rfl hl.1 rfl (Nat.le_of_ble_eq_true rfl) dL_step_142 (fun H locs hP hS => ?_)
          refine lv_pop hx hb dL_step_145 rfl ?_
          refine lv_goto (tgt := 262) hx hb dL_step_146 (by decide) ?_
          obtain ⟨rfl, rfl⟩ := es2 hD
          exact hret _ _ _ hP hS (fun Qc hq => W.vret hx hb hr hq hS.2.2 dL_step_262 hlocks)
        · have hD := ifn hD sw34_3
          by_cases sw34_4 : (v9 - v9 / (15 : Int32) * (15 : Int32)) = (4 : Int32)
          · have hD := ifp hD sw34_4
            refine lv_tableIn (off := 115) (tgt := 149) hx hb dL_step_34 (by rw [sw34_4]; decide) (by rw [sw34_4]; decide) (by rw [sw34_4]; rfl) (by decide) ?_
            refine lv_aload_n hx hb dL_step_149 rfl (lv_at hl 3 rfl) ?_
            refine lv_iload hx hb dL_step_150 (lv_at hl 1 rfl) ?_
            obtain ⟨v23, m24, z250, hD⟩ := b2_el hD
            have z25 := lr_el z250
            refine rcV (Wf := fun z => Wf z m) (mm := h) (As := [.int v6]) (rest := []) Fx0 (c_X9_discard l (Wf := fun z0_ z1_ => Wf z0_ z1_) (fun z1_ => hLh z1_) (fun z0_ => hL z0_) (fun a0_ b0_ a1_ b1_ => hAd a0_ b0_ a1_ b1_) hm1 h m v6 z25) hP (hD1 _ (hAd _ _ _ _)) hS (hA1 _ _ (hAd _ _ _ _) hS.1) (hLh m) (Nat.le_of_ble_eq_true rfl) (hs0 _ _) rfl tw_5_200 tw_5_197 tw_5_198 tw_5_199 tw_1_1 yd_X9_discard ⟨(Nat.le_of_ble_eq_true rfl), (Nat.le_of_ble_eq_true rfl)⟩ rfl hl.1 rfl (Nat.le_of_ble_eq_true rfl) dL_step_152 (fun H locs hP hS => ?_)
            refine lv_pop hx hb dL_step_155 rfl ?_
            refine lv_goto (tgt := 262) hx hb dL_step_156 (by decide) ?_
            obtain ⟨rfl, rfl⟩ := es2 hD
            exact hret _ _ _ hP hS (fun Qc hq => W.vret hx hb hr hq hS.2.2 dL_step_262 hlocks)
          · have hD := ifn hD sw34_4
            by_cases sw34_5 : (v9 - v9 / (15 : Int32) * (15 : Int32)) = (5 : Int32)
            · have hD := ifp hD sw34_5
              refine lv_tableIn (off := 125) (tgt := 159) hx hb dL_step_34 (by rw [sw34_5]; decide) (by rw [sw34_5]; decide) (by rw [sw34_5]; rfl) (by decide) ?_
              refine lv_aload_n hx hb dL_step_159 rfl (lv_at hl 3 rfl) ?_
              refine lv_iload hx hb dL_step_160 (lv_at hl 1 rfl) ?_
              obtain ⟨v26, m27, z280, hD⟩ := b2_el hD
              have z28 := lr_el z280
              refine rcV (Wf := fun z => Wf z m) (mm := h) (As := [.int v6]) (rest := []) Fx0 (c_X9_clean l (Wf := fun z0_ z1_ => Wf z0_ z1_) (fun z1_ => hLh z1_) (fun z0_ => hL z0_) (fun a0_ b0_ a1_ b1_ => hAd a0_ b0_ a1_ b1_) hm1 h m v6 z28) hP (hD1 _ (hAd _ _ _ _)) hS (hA1 _ _ (hAd _ _ _ _) hS.1) (hLh m) (Nat.le_of_ble_eq_true rfl) (hs0 _ _) rfl tw_5_204 tw_5_201 tw_5_202 tw_5_203 tw_1_1 yd_X9_clean ⟨(Nat.le_of_ble_eq_true rfl), (Nat.le_of_ble_eq_true rfl)⟩ rfl hl.1 rfl (Nat.le_of_ble_eq_true rfl) dL_step_162 (fun H locs hP hS => ?_)
              refine lv_pop hx hb dL_step_165 rfl ?_
              refine lv_goto (tgt := 262) hx hb dL_step_166 (by decide) ?_
              obtain ⟨rfl, rfl⟩ := es2 hD
              exact hret _ _ _ hP hS (fun Qc hq => W.vret hx hb hr hq hS.2.2 dL_step_262 hlocks)
            · have hD := ifn hD sw34_5
              by_cases sw34_6 : (v9 - v9 / (15 : Int32) * (15 : Int32)) = (6 : Int32)
              · have hD := ifp hD sw34_6
                refine lv_tableIn (off := 135) (tgt := 169) hx hb dL_step_34 (by rw [sw34_6]; decide) (by rw [sw34_6]; decide) (by rw [sw34_6]; rfl) (by decide) ?_
                refine lv_aload_n hx hb dL_step_169 rfl (lv_at hl 3 rfl) ?_
                refine lv_iload hx hb dL_step_170 (lv_at hl 0 rfl) ?_
                refine lv_iconst (v := (3 : Int32)) hx hb dL_step_172 (by decide) ?_
                refine lv_irem hx hb dL_step_173 (by decide) ?_
                refine lv_iload_n hx hb dL_step_174 rfl (lv_at hl 2 rfl) ?_
                refine lv_bipush (v := (6 : Int32)) hx hb dL_step_175 (by decide) ?_
                refine lv_irem hx hb dL_step_177 (by decide) ?_
                obtain ⟨v29, m30, z310, hD⟩ := b2_el hD
                have z31 := lr_el z310
                refine rcV (Wf := fun z => Wf z m) (mm := h) (As := [.int (v7 - v7 / (3 : Int32) * (3 : Int32)), .int (v1 - v1 / (6 : Int32) * (6 : Int32))]) (rest := []) Fx0 (c_X9_splice l (Wf := fun z0_ z1_ => Wf z0_ z1_) (fun z1_ => hLh z1_) (fun z0_ => hL z0_) (fun a0_ b0_ a1_ b1_ => hAd a0_ b0_ a1_ b1_) hm1 h m (v7 - v7 / (3 : Int32) * (3 : Int32)) (v1 - v1 / (6 : Int32) * (6 : Int32)) z31) hP (hD1 _ (hAd _ _ _ _)) hS (hA1 _ _ (hAd _ _ _ _) hS.1) (hLh m) (Nat.le_of_ble_eq_true rfl) (hs0 _ _) rfl tw_5_208 tw_5_205 tw_5_206 tw_5_207 tw_1_1 yd_X9_splice ⟨(Nat.le_of_ble_eq_true rfl), (Nat.le_of_ble_eq_true rfl)⟩ rfl hl.1 rfl (Nat.le_of_ble_eq_true rfl) dL_step_178 (fun H locs hP hS => ?_)
                refine lv_pop hx hb dL_step_181 rfl ?_
                refine lv_goto (tgt := 262) hx hb dL_step_182 (by decide) ?_
                obtain ⟨rfl, rfl⟩ := es2 hD
                exact hret _ _ _ hP hS (fun Qc hq => W.vret hx hb hr hq hS.2.2 dL_step_262 hlocks)
              · have hD := ifn hD sw34_6
                by_cases sw34_7 : (v9 - v9 / (15 : Int32) * (15 : Int32)) = (7 : Int32)
                · have hD := ifp hD sw34_7
                  refine lv_tableIn (off := 151) (tgt := 185) hx hb dL_step_34 (by rw [sw34_7]; decide) (by rw [sw34_7]; decide) (by rw [sw34_7]; rfl) (by decide) ?_
                  refine lv_aload_n hx hb dL_step_185 rfl (lv_at hl 3 rfl) ?_
                  refine lv_iload hx hb dL_step_186 (lv_at hl 0 rfl) ?_
                  refine lv_iconst (v := (3 : Int32)) hx hb dL_step_188 (by decide) ?_
                  refine lv_irem hx hb dL_step_189 (by decide) ?_
                  obtain ⟨v32, m33, z340, hD⟩ := b2_el hD
                  have z34 := lr_el z340
                  refine rcV (Wf := fun z => Wf z m) (mm := h) (As := [.int (v7 - v7 / (3 : Int32) * (3 : Int32))]) (rest := []) Fx0 (c_X9_takeReel l (Wf := fun z0_ z1_ => Wf z0_ z1_) (fun z1_ => hLh z1_) (fun z0_ => hL z0_) (fun a0_ b0_ a1_ b1_ => hAd a0_ b0_ a1_ b1_) hm1 h m (v7 - v7 / (3 : Int32) * (3 : Int32)) z34) hP (hD1 _ (hAd _ _ _ _)) hS (hA1 _ _ (hAd _ _ _ _) hS.1) (hLh m) (Nat.le_of_ble_eq_true rfl) (hs0 _ _) rfl tw_5_221 tw_5_218 tw_5_219 tw_5_220 tw_1_1 yd_X9_takeReel ⟨(Nat.le_of_ble_eq_true rfl), (Nat.le_of_ble_eq_true rfl)⟩ rfl hl.1 rfl (Nat.le_of_ble_eq_true rfl) dL_step_190 (fun H locs hP hS => ?_)
                  refine lv_pop hx hb dL_step_193 rfl ?_
                  refine lv_goto (tgt := 262) hx hb dL_step_194 (by decide) ?_
                  obtain ⟨rfl, rfl⟩ := es2 hD
                  exact hret _ _ _ hP hS (fun Qc hq => W.vret hx hb hr hq hS.2.2 dL_step_262 hlocks)
                · have hD := ifn hD sw34_7
                  by_cases sw34_8 : (v9 - v9 / (15 : Int32) * (15 : Int32)) = (8 : Int32)
                  · have hD := ifp hD sw34_8
                    refine lv_tableIn (off := 163) (tgt := 197) hx hb dL_step_34 (by rw [sw34_8]; decide) (by rw [sw34_8]; decide) (by rw [sw34_8]; rfl) (by decide) ?_
                    refine lv_aload_n hx hb dL_step_197 rfl (lv_at hl 3 rfl) ?_
                    refine lv_iload hx hb dL_step_198 (lv_at hl 0 rfl) ?_
                    refine lv_bipush (v := (6 : Int32)) hx hb dL_step_200 (by decide) ?_
                    refine lv_irem hx hb dL_step_202 (by decide) ?_
                    refine lv_iload_n hx hb dL_step_203 rfl (lv_at hl 2 rfl) ?_
                    refine lv_iconst (v := (2 : Int32)) hx hb dL_step_204 (by decide) ?_
                    refine lv_irem hx hb dL_step_205 (by decide) ?_
                    refine lv_if_ne (tgt := 213) hx hb dL_step_206 (by decide) (fun c => ?_) (fun c => ?_)
                    · have hD := ifn hD c
                      refine lv_iconst (v := (0 : Int32)) hx hb dL_step_213 (by decide) ?_
                      obtain ⟨v35, m36, z370, hD⟩ := b2_el hD
                      have z37 := lr_el z370
                      refine rcV (Wf := fun z => Wf z m) (mm := h) (As := [.int (v7 - v7 / (6 : Int32) * (6 : Int32)), .int (0 : Int32)]) (rest := []) Fx0 (c_X9_leaveOut l (Wf := fun z0_ z1_ => Wf z0_ z1_) (fun z1_ => hLh z1_) (fun z0_ => hL z0_) (fun a0_ b0_ a1_ b1_ => hAd a0_ b0_ a1_ b1_) hm1 h m (v7 - v7 / (6 : Int32) * (6 : Int32)) (0 : Int32) z37) hP (hD1 _ (hAd _ _ _ _)) hS (hA1 _ _ (hAd _ _ _ _) hS.1) (hLh m) (Nat.le_of_ble_eq_true rfl) (hs0 _ _) rfl tw_5_229 tw_5_226 tw_5_227 tw_5_228 tw_1_1 yd_X9_leaveOut ⟨(Nat.le_of_ble_eq_true rfl), (Nat.le_of_ble_eq_true rfl)⟩ rfl hl.1 rfl (Nat.le_of_ble_eq_true rfl) dL_step_214 (fun H locs hP hS => ?_)
                      refine lv_pop hx hb dL_step_217 rfl ?_
                      refine lv_goto (tgt := 262) hx hb dL_step_218 (by decide) ?_
                      obtain ⟨rfl, rfl⟩ := es2 hD
                      exact hret _ _ _ hP hS (fun Qc hq => W.vret hx hb hr hq hS.2.2 dL_step_262 hlocks)
                    · have hD := ifp hD c
                      refine lv_iconst (v := (1 : Int32)) hx hb dL_step_209 (by decide) ?_
                      refine lv_goto (tgt := 214) hx hb dL_step_210 (by decide) ?_
                      obtain ⟨v38, m39, z400, hD⟩ := b2_el hD
                      have z40 := lr_el z400
                      refine rcV (Wf := fun z => Wf z m) (mm := h) (As := [.int (v7 - v7 / (6 : Int32) * (6 : Int32)), .int (1 : Int32)]) (rest := []) Fx0 (c_X9_leaveOut l (Wf := fun z0_ z1_ => Wf z0_ z1_) (fun z1_ => hLh z1_) (fun z0_ => hL z0_) (fun a0_ b0_ a1_ b1_ => hAd a0_ b0_ a1_ b1_) hm1 h m (v7 - v7 / (6 : Int32) * (6 : Int32)) (1 : Int32) z40) hP (hD1 _ (hAd _ _ _ _)) hS (hA1 _ _ (hAd _ _ _ _) hS.1) (hLh m) (Nat.le_of_ble_eq_true rfl) (hs0 _ _) rfl tw_5_229 tw_5_226 tw_5_227 tw_5_228 tw_1_1 yd_X9_leaveOut ⟨(Nat.le_of_ble_eq_true rfl), (Nat.le_of_ble_eq_true rfl)⟩ rfl hl.1 rfl (Nat.le_of_ble_eq_true rfl) dL_step_214 (fun H locs hP hS => ?_)
                      refine lv_pop hx hb dL_step_217 rfl ?_
                      refine lv_goto (tgt := 262) hx hb dL_step_218 (by decide) ?_
                      obtain ⟨rfl, rfl⟩ := es2 hD
                      exact hret _ _ _ hP hS (fun Qc hq => W.vret hx hb hr hq hS.2.2 dL_step_262 hlocks)
                  · have hD := ifn hD sw34_8
                    by_cases sw34_9 : (v9 - v9 / (15 : Int32) * (15 : Int32)) = (9 : Int32)
                    · have hD := ifp hD sw34_9
                      refine lv_tableIn (off := 187) (tgt := 221) hx hb dL_step_34 (by rw [sw34_9]; decide) (by rw [sw34_9]; decide) (by rw [sw34_9]; rfl) (by decide) ?_
                      refine lv_aload_n hx hb dL_step_221 rfl (lv_at hl 3 rfl) ?_
                      obtain ⟨v41, m42, z43, hD⟩ := b2_el hD
                      refine rcV (Wf := fun z => Wf z m) (mm := h) (As := []) (rest := []) Fx0 (c_X9_newBoard l (Wf := fun z0_ z1_ => Wf z0_ z1_) (fun z1_ => hLh z1_) (fun z0_ => hL z0_) (fun a0_ b0_ a1_ b1_ => hAd a0_ b0_ a1_ b1_) hm1 h m z43) hP (hD1 _ (hAd _ _ _ _)) hS (hA1 _ _ (hAd _ _ _ _) hS.1) (hLh m) (Nat.le_of_ble_eq_true rfl) (hs0 _ _) rfl tw_6_6 tw_6_3 tw_6_4 tw_6_5 tw_1_1 yd_X9_newBoard ⟨(Nat.le_of_ble_eq_true rfl), (Nat.le_of_ble_eq_true rfl)⟩ rfl hl.1 rfl (Nat.le_of_ble_eq_true rfl) dL_step_222 (fun H locs hP hS => ?_)
                      refine lv_pop hx hb dL_step_225 rfl ?_
                      refine lv_goto (tgt := 262) hx hb dL_step_226 (by decide) ?_
                      obtain ⟨rfl, rfl⟩ := es2 hD
                      exact hret _ _ _ hP hS (fun Qc hq => W.vret hx hb hr hq hS.2.2 dL_step_262 hlocks)
                    · have hD := ifn hD sw34_9
                      by_cases sw34_10 : (v9 - v9 / (15 : Int32) * (15 : Int32)) = (10 : Int32)
                      · have hD := ifp hD sw34_10
                        refine lv_tableIn (off := 195) (tgt := 229) hx hb dL_step_34 (by rw [sw34_10]; decide) (by rw [sw34_10]; decide) (by rw [sw34_10]; rfl) (by decide) ?_
                        refine lv_aload_n hx hb dL_step_229 rfl (lv_at hl 3 rfl) ?_
                        obtain ⟨v44, m45, z46, hD⟩ := b2_el hD
                        refine rcV (Wf := fun z => Wf z m) (mm := h) (As := []) (rest := []) Fx0 (c_X9_resume l (Wf := fun z0_ z1_ => Wf z0_ z1_) (fun z1_ => hLh z1_) (fun z0_ => hL z0_) (fun a0_ b0_ a1_ b1_ => hAd a0_ b0_ a1_ b1_) hm1 h m z46) hP (hD1 _ (hAd _ _ _ _)) hS (hA1 _ _ (hAd _ _ _ _) hS.1) (hLh m) (Nat.le_of_ble_eq_true rfl) (hs0 _ _) rfl tw_6_20 tw_6_17 tw_6_18 tw_6_19 tw_1_1 yd_X9_resume ⟨(Nat.le_of_ble_eq_true rfl), (Nat.le_of_ble_eq_true rfl)⟩ rfl hl.1 rfl (Nat.le_of_ble_eq_true rfl) dL_step_230 (fun H locs hP hS => ?_)
                        refine lv_pop hx hb dL_step_233 rfl ?_
                        refine lv_goto (tgt := 262) hx hb dL_step_234 (by decide) ?_
                        obtain ⟨rfl, rfl⟩ := es2 hD
                        exact hret _ _ _ hP hS (fun Qc hq => W.vret hx hb hr hq hS.2.2 dL_step_262 hlocks)
                      · have hD := ifn hD sw34_10
                        by_cases sw34_11 : (v9 - v9 / (15 : Int32) * (15 : Int32)) = (11 : Int32)
                        · have hD := ifp hD sw34_11
                          refine lv_tableIn (off := 203) (tgt := 237) hx hb dL_step_34 (by rw [sw34_11]; decide) (by rw [sw34_11]; decide) (by rw [sw34_11]; rfl) (by decide) ?_
                          refine lv_aload_n hx hb dL_step_237 rfl (lv_at hl 3 rfl) ?_
                          refine lv_bipush (v := (7 : Int32)) hx hb dL_step_238 (by decide) ?_
                          refine lv_iload_n hx hb dL_step_240 rfl (lv_at hl 2 rfl) ?_
                          refine lv_bipush (v := (6 : Int32)) hx hb dL_step_241 (by decide) ?_
                          refine lv_irem hx hb dL_step_243 (by decide) ?_
                          obtain ⟨v47, m48, z490, hD⟩ := b2_el hD
                          have z49 := lr_el z490
                          refine rcV (Wf := fun z => Wf z m) (mm := h) (As := [.int (7 : Int32), .int (v1 - v1 / (6 : Int32) * (6 : Int32))]) (rest := []) Fx0 (c_X9_set l (Wf := fun z0_ z1_ => Wf z0_ z1_) (fun z1_ => hLh z1_) (fun z0_ => hL z0_) (fun a0_ b0_ a1_ b1_ => hAd a0_ b0_ a1_ b1_) hm1 h m (7 : Int32) (v1 - v1 / (6 : Int32) * (6 : Int32)) z49) hP (hD1 _ (hAd _ _ _ _)) hS (hA1 _ _ (hAd _ _ _ _) hS.1) (hLh m) (Nat.le_of_ble_eq_true rfl) (hs0 _ _) rfl tw_6_24 tw_6_21 tw_6_22 tw_6_23 tw_1_1 yd_X9_set ⟨(Nat.le_of_ble_eq_true rfl), (Nat.le_of_ble_eq_true rfl)⟩ rfl hl.1 rfl (Nat.le_of_ble_eq_true rfl) dL_step_244 (fun H locs hP hS => ?_)
                          refine lv_pop hx hb dL_step_247 rfl ?_
                          refine lv_goto (tgt := 262) hx hb dL_step_248 (by decide) ?_
                          obtain ⟨rfl, rfl⟩ := es2 hD
                          exact hret _ _ _ hP hS (fun Qc hq => W.vret hx hb hr hq hS.2.2 dL_step_262 hlocks)
                        · have hD := ifn hD sw34_11
                          refine lv_tableOut (tgt := 251) hx hb dL_step_34 (swo 0 11 (fun k h1 h2 e => ?_)) (by decide) ?_
                          · have h3 : k = 0 ∨ k = 1 ∨ k = 2 ∨ k = 3 ∨ k = 4 ∨ k = 5 ∨ k = 6 ∨ k = 7 ∨ k = 8 ∨ k = 9 ∨ k = 10 ∨ k = 11 ∨ False := by omega
                            rcases h3 with rfl | rfl | rfl | rfl | rfl | rfl | rfl | rfl | rfl | rfl | rfl | rfl | h3
                            · exact absurd e sw34_0
                            · exact absurd e sw34_1
                            · exact absurd e sw34_2
                            · exact absurd e sw34_3
                            · exact absurd e sw34_4
                            · exact absurd e sw34_5
                            · exact absurd e sw34_6
                            · exact absurd e sw34_7
                            · exact absurd e sw34_8
                            · exact absurd e sw34_9
                            · exact absurd e sw34_10
                            · exact absurd e sw34_11
                            · exact h3
                          refine lv_aload_n hx hb dL_step_251 rfl (lv_at hl 3 rfl) ?_
                          refine lv_iconst (v := (1 : Int32)) hx hb dL_step_252 (by decide) ?_
                          refine lv_iload_n hx hb dL_step_253 rfl (lv_at hl 2 rfl) ?_
                          refine lv_bipush (v := (9 : Int32)) hx hb dL_step_254 (by decide) ?_
                          refine lv_irem hx hb dL_step_256 (by decide) ?_
                          refine lv_iadd hx hb dL_step_257 ?_
                          obtain ⟨v50, m51, m52, z530, hD⟩ := b3_el hD
                          have z53 := lr_el z530
                          refine rcV (Wf := fun z => Wf z m) (mm := h) (As := [.int ((1 : Int32) + (v1 - v1 / (9 : Int32) * (9 : Int32)))]) (rest := []) Fx0 (c_X9_run l (Wf := fun z0_ z1_ => Wf z0_ z1_) (fun z1_ => hLh z1_) (fun z0_ => hL z0_) (fun a0_ b0_ a1_ b1_ => hAd a0_ b0_ a1_ b1_) hm1 h m ((1 : Int32) + (v1 - v1 / (9 : Int32) * (9 : Int32))) z53) hP (hD1 _ (hAd _ _ _ _)) hS (hA1 _ _ (hAd _ _ _ _) hS.1) (hLh m) (Nat.le_of_ble_eq_true rfl) (hs0 _ _) rfl tw_6_31 tw_6_28 tw_6_29 tw_6_30 tw_1_1 yd_X9_run ⟨(Nat.le_of_ble_eq_true rfl), (Nat.le_of_ble_eq_true rfl)⟩ rfl hl.1 rfl (Nat.le_of_ble_eq_true rfl) dL_step_258 (fun H locs hP hS => ?_)
                          refine lv_pop hx hb dL_step_261 rfl ?_
                          obtain ⟨rfl, rfl⟩ := es2 hD
                          exact hret _ _ _ hP hS (fun Qc hq => W.vret hx hb hr hq hS.2.2 dL_step_262 hlocks)
noncomputable def D_L_whole_113 (h : MM) (m : MM) (k105 : Int64 → Int32 → Option Int64) : Nat → Int64 → Int32 → Int32 → Option Int64
  | 0, _, _, _ => none
  | n + 1, x1, x3, x4 => if (7 : Int32) < x4 then (bnd (x3 + (1 : Int32)) (fun v16 => k105 x1 v16)) else (b1 (lr (D_X9_feederValue x3 x4 h m)) (fun v17 => bnd ((((31 : Int64) * x1) + v17.toInt64)) (fun v19 => bnd (x4 + (1 : Int32)) (fun v20 => D_L_whole_113 h m k105 n v19 x3 v20))))
noncomputable def D_L_whole_105 (h : MM) (m : MM) : Nat → Int64 → Int32 → Option Int64
  | 0, _, _ => none
  | n + 1, x1, x3 => if (3 : Int32) ≤ x3 then (some (x1)) else (D_L_whole_113 h m (D_L_whole_105 h m n) FU x1 x3 (0 : Int32))
noncomputable def D_L_whole_69 (h : MM) (m : MM) (k57 : Int64 → Int32 → Option Int64) : Nat → Int64 → Int32 → Int32 → Option Int64
  | 0, _, _, _ => none
  | n + 1, x1, x3, x4 => if (7 : Int32) < x4 then (bnd (x3 + (1 : Int32)) (fun v21 => k57 x1 v21)) else (b1 (lr (D_X9_spindleValue x3 x4 h m)) (fun v22 => bnd ((((31 : Int64) * x1) + v22.toInt64)) (fun v24 => bnd (x4 + (1 : Int32)) (fun v25 => D_L_whole_69 h m k57 n v24 x3 v25))))
noncomputable def D_L_whole_57 (h : MM) (m : MM) : Nat → Int64 → Int32 → Option Int64
  | 0, _, _ => none
  | n + 1, x1, x3 => b1 (lr (D_X9_count (0 : Int32) h m)) (fun v14 => if v14 ≤ x3 then (D_L_whole_105 h m FU x1 (0 : Int32)) else (D_L_whole_69 h m (D_L_whole_57 h m n) FU x1 x3 (0 : Int32)))
noncomputable def D_L_whole (h : MM) (m : MM) : Option Int64 := b1 (D_X9_now h m) (fun v1 => b1 (lr (D_X9_head (0 : Int32) h m)) (fun v3 => b1 (lr (D_X9_head (1 : Int32) h m)) (fun v5 => b1 (lr (D_X9_setting (10 : Int32) h m)) (fun v7 => b1 (D_X9_logSize h m) (fun v9 => b1 (D_X9_filledSet h m) (fun v11 => bnd ((((((v1.toInt64 + ((31 : Int64) * v3.toInt64)) + ((7 : Int64) * v5.toInt64)) + ((13 : Int64) * v7.toInt64)) + v9.toInt64) + (v11 * (5 : Int64)))) (fun v13 => D_L_whole_57 h m FU v13 (0 : Int32))))))))
set_option maxHeartbeats 4000000 in
set_option maxRecDepth 100000 in
theorem c_L_whole (l : Launch) {D : va_G} {cs : Nat → ClassId} {adh ad ma : Nat → Nat} {Wf : MM → MM → va_W} (hLh : ∀ m : MM, Ln 8 adh (hsh cs adh ma) (fun z => Wf z m)) (hL : ∀ h : MM, Ln 51 ad (msh cs ad) (fun z => Wf h z)) (hAd : ∀ a0_ b0_ a1_ b1_ : MM, (Wf a0_ a1_).map (fun q => q.1) = (Wf b0_ b1_).map (fun q => q.1)) (hm1 : ma 1 = ad 24) (h : MM) (m : MM) {rr : Int64} (hD : D_L_whole h m = some (rr)) : Ct l yL_whole cL_whole 5 (some .long) 8 126 D cs [.ref (adh 0)] (Wf h m) (Wf h m) (some (.long rr)) := by
  refine Ct.ofW (by decide) (Nat.le_of_ble_eq_true rfl) rfl ?_
  intro p e s m0 below meth c A Q ls args hx hb hr hml hlocks hown hts hK hP hD1 hSS hS hA1 hl hret
  have hT : ∀ w ∈ TBL, w.before args s = true := fun w h => hts w (List.mem_cons_of_mem _ h)
  have Fx0 : Fx p l m0 c cL_whole 5 s args yL_whole cL_whole 5 (some .long) D cs A := ⟨hx, hb, hml, hown, hts, hK, hSS⟩
  have hown : s.vm.findClass RL = some m0.cls := hown
  have hl : lv_has ls 5 [(0, .ref (adh 0))] := hl
  unfold D_L_whole at hD
  have c_113 : ∀ (k105 : Int64 → Int32 → Option Int64) (hk105 : ∀ (x1 : Int64) (x3 : Int32) (H : Heap) (locs : List Loc) (ls : Array Slot), k105 x1 x3 = some (rr) → va_P D vwCl (Wf h m) H → va_S A s.heap H locs → lv_has ls 5 [(0, .ref (adh 0)), (1, .long x1), (3, .int x3)] → W p l e ({ frames := 8, cells := 0, slots := 0, locals := 126 } : Room) s m0 args below meth c H locs 0 0 Q (F0 m0 105 ls [])) (n : Nat), ∀ (x1 : Int64) (x3 : Int32) (x4 : Int32) (H : Heap) (locs : List Loc) (ls : Array Slot), D_L_whole_113 h m k105 n x1 x3 x4 = some (rr) → va_P D vwCl (Wf h m) H → va_S A s.heap H locs → lv_has ls 5 [(0, .ref (adh 0)), (1, .long x1), (3, .int x3), (4, .int x4)] → W p l e ({ frames := 8, cells := 0, slots := 0, locals := 126 } : Room) s m0 args below meth c H locs 0 0 Q (F0 m0 113 ls []) := by
    intro k105 hk105 n
    induction n with
    | zero =>
      intro x1 x3 x4 H locs ls hD hP hS hl
      exact nn_el hD
    | succ n ih =>
      intro x1 x3 x4 H locs ls hD hP hS hl
      rw [D_L_whole_113] at hD
      refine lv_iload hx hb dL_whole_113 (lv_at hl 3 rfl) ?_
      refine lv_bipush (v := (7 : Int32)) hx hb dL_whole_115 (by decide) ?_
      refine lv_icmp_gt (tgt := 141) hx hb dL_whole_117 (by decide) (fun c => ?_) (fun c => ?_)
      · have hD := ifp hD c
        obtain ⟨v16, ev16, hD⟩ := bnd_el hD
        refine lv_iinc (v := v16) (lv' := [(3, .int v16), (0, .ref (adh 0)), (1, .long x1), (4, .int x4)]) hx hb dL_whole_141 hl (k := 2) rfl (by rw [ev16]; rfl) (by decide) rfl (fun ls hl => ?_)
        refine lv_goto (tgt := 105) hx hb dL_whole_144 (by decide) ?_
        exact hk105 _ _ _ _ _ hD hP hS (lv_sub hl [1, 2, 0] rfl)
      · have hD := ifn hD c
        refine lv_ldc2 (v := (31 : Int64)) hx hb hown (Fx0.T tw_6_147) dL_whole_120 ?_
        refine lv_lload_n hx hb dL_whole_123 rfl (lv_at hl 1 rfl) ?_
        refine lv_lmul hx hb dL_whole_124 ?_
        refine lv_aload_n hx hb dL_whole_125 rfl (lv_at hl 0 rfl) ?_
        refine lv_iload_n hx hb dL_whole_126 rfl (lv_at hl 2 rfl) ?_
        refine lv_iload hx hb dL_whole_127 (lv_at hl 3 rfl) ?_
        obtain ⟨v17, z180, hD⟩ := b1_el hD
        have z18 := lr_el z180
        refine rcV (Wf := fun z => Wf z m) (mm := h) (As := [.int x3, .int x4]) (rest := [.long ((31 : Int64) * x1)]) Fx0 (c_X9_feederValue l (Wf := fun z0_ z1_ => Wf z0_ z1_) (fun z1_ => hLh z1_) (fun z0_ => hL z0_) (fun a0_ b0_ a1_ b1_ => hAd a0_ b0_ a1_ b1_) hm1 h m x3 x4 z18) hP (hD1 _ (hAd _ _ _ _)) hS (hA1 _ _ (hAd _ _ _ _) hS.1) (hLh m) (Nat.le_of_ble_eq_true rfl) (hs0 _ _) rfl tw_6_162 tw_6_159 tw_6_160 tw_6_161 tw_1_1 yd_X9_feederValue ⟨(Nat.le_of_ble_eq_true rfl), (Nat.le_of_ble_eq_true rfl)⟩ rfl hl.1 rfl (Nat.le_of_ble_eq_true rfl) dL_whole_129 (fun H locs hP hS => ?_)
        refine lv_i2l (v := v17.toInt64) hx hb dL_whole_132 rfl ?_
        refine lv_ladd hx hb dL_whole_133 ?_
        obtain ⟨v19, ev19, hD⟩ := bnd_el hD
        refine lv_nml ev19 ?_
        refine lv_lstore_n (lv' := [(1, .long v19), (0, .ref (adh 0)), (3, .int x3), (4, .int x4)]) hx hb dL_whole_134 rfl hl (by decide) rfl (fun ls hl => ?_)
        obtain ⟨v20, ev20, hD⟩ := bnd_el hD
        refine lv_iinc (v := v20) (lv' := [(4, .int v20), (1, .long v19), (0, .ref (adh 0)), (3, .int x3)]) hx hb dL_whole_135 hl (k := 3) rfl (by rw [ev20]; rfl) (by decide) rfl (fun ls hl => ?_)
        refine lv_goto (tgt := 113) hx hb dL_whole_138 (by decide) ?_
        exact ih _ _ _ _ _ _ hD hP hS (lv_sub hl [2, 1, 3, 0] rfl)
  have c_105 : ∀ (n : Nat), ∀ (x1 : Int64) (x3 : Int32) (H : Heap) (locs : List Loc) (ls : Array Slot), D_L_whole_105 h m n x1 x3 = some (rr) → va_P D vwCl (Wf h m) H → va_S A s.heap H locs → lv_has ls 5 [(0, .ref (adh 0)), (1, .long x1), (3, .int x3)] → W p l e ({ frames := 8, cells := 0, slots := 0, locals := 126 } : Room) s m0 args below meth c H locs 0 0 Q (F0 m0 105 ls []) := by
    intro n
    induction n with
    | zero =>
      intro x1 x3 H locs ls hD hP hS hl
      exact nn_el hD
    | succ n ih =>
      intro x1 x3 H locs ls hD hP hS hl
      rw [D_L_whole_105] at hD
      refine lv_iload_n hx hb dL_whole_105 rfl (lv_at hl 2 rfl) ?_
      refine lv_iconst (v := (3 : Int32)) hx hb dL_whole_106 (by decide) ?_
      refine lv_icmp_ge (tgt := 147) hx hb dL_whole_107 (by decide) (fun c => ?_) (fun c => ?_)
      · have hD := ifp hD c
        refine lv_lload_n hx hb dL_whole_147 rfl (lv_at hl 1 rfl) ?_
        obtain rfl := es1 hD
        exact hret _ _ _ hP hS (fun Qc hq => W.lret hx hb hr hq hS.2.2 dL_whole_148 hlocks)
      · have hD := ifn hD c
        refine lv_iconst (v := (0 : Int32)) hx hb dL_whole_110 (by decide) ?_
        refine lv_istore (lv' := [(4, .int (0 : Int32)), (0, .ref (adh 0)), (1, .long x1), (3, .int x3)]) hx hb dL_whole_111 hl (by decide) rfl (fun ls hl => ?_)
        exact c_113 _ ih FU _ _ _ _ _ _ hD hP hS (lv_sub hl [1, 2, 3, 0] rfl)
  have c_69 : ∀ (k57 : Int64 → Int32 → Option Int64) (hk57 : ∀ (x1 : Int64) (x3 : Int32) (H : Heap) (locs : List Loc) (ls : Array Slot), k57 x1 x3 = some (rr) → va_P D vwCl (Wf h m) H → va_S A s.heap H locs → lv_has ls 5 [(0, .ref (adh 0)), (1, .long x1), (3, .int x3)] → W p l e ({ frames := 8, cells := 0, slots := 0, locals := 126 } : Room) s m0 args below meth c H locs 0 0 Q (F0 m0 57 ls [])) (n : Nat), ∀ (x1 : Int64) (x3 : Int32) (x4 : Int32) (H : Heap) (locs : List Loc) (ls : Array Slot), D_L_whole_69 h m k57 n x1 x3 x4 = some (rr) → va_P D vwCl (Wf h m) H → va_S A s.heap H locs → lv_has ls 5 [(0, .ref (adh 0)), (1, .long x1), (3, .int x3), (4, .int x4)] → W p l e ({ frames := 8, cells := 0, slots := 0, locals := 126 } : Room) s m0 args below meth c H locs 0 0 Q (F0 m0 69 ls []) := by
    intro k57 hk57 n
    induction n with
    | zero =>
      intro x1 x3 x4 H locs ls hD hP hS hl
      exact nn_el hD
    | succ n ih =>
      intro x1 x3 x4 H locs ls hD hP hS hl
      rw [D_L_whole_69] at hD
      refine lv_iload hx hb dL_whole_69 (lv_at hl 3 rfl) ?_
      refine lv_bipush (v := (7 : Int32)) hx hb dL_whole_71 (by decide) ?_
      refine lv_icmp_gt (tgt := 97) hx hb dL_whole_73 (by decide) (fun c => ?_) (fun c => ?_)
      · have hD := ifp hD c
        obtain ⟨v21, ev21, hD⟩ := bnd_el hD
        refine lv_iinc (v := v21) (lv' := [(3, .int v21), (0, .ref (adh 0)), (1, .long x1), (4, .int x4)]) hx hb dL_whole_97 hl (k := 2) rfl (by rw [ev21]; rfl) (by decide) rfl (fun ls hl => ?_)
        refine lv_goto (tgt := 57) hx hb dL_whole_100 (by decide) ?_
        exact hk57 _ _ _ _ _ hD hP hS (lv_sub hl [1, 2, 0] rfl)
      · have hD := ifn hD c
        refine lv_ldc2 (v := (31 : Int64)) hx hb hown (Fx0.T tw_6_147) dL_whole_76 ?_
        refine lv_lload_n hx hb dL_whole_79 rfl (lv_at hl 1 rfl) ?_
        refine lv_lmul hx hb dL_whole_80 ?_
        refine lv_aload_n hx hb dL_whole_81 rfl (lv_at hl 0 rfl) ?_
        refine lv_iload_n hx hb dL_whole_82 rfl (lv_at hl 2 rfl) ?_
        refine lv_iload hx hb dL_whole_83 (lv_at hl 3 rfl) ?_
        obtain ⟨v22, z230, hD⟩ := b1_el hD
        have z23 := lr_el z230
        refine rcV (Wf := fun z => Wf z m) (mm := h) (As := [.int x3, .int x4]) (rest := [.long ((31 : Int64) * x1)]) Fx0 (c_X9_spindleValue l (Wf := fun z0_ z1_ => Wf z0_ z1_) (fun z1_ => hLh z1_) (fun z0_ => hL z0_) (fun a0_ b0_ a1_ b1_ => hAd a0_ b0_ a1_ b1_) hm1 h m x3 x4 z23) hP (hD1 _ (hAd _ _ _ _)) hS (hA1 _ _ (hAd _ _ _ _) hS.1) (hLh m) (Nat.le_of_ble_eq_true rfl) (hs0 _ _) rfl tw_6_95 tw_6_92 tw_6_93 tw_6_94 tw_1_1 yd_X9_spindleValue ⟨(Nat.le_of_ble_eq_true rfl), (Nat.le_of_ble_eq_true rfl)⟩ rfl hl.1 rfl (Nat.le_of_ble_eq_true rfl) dL_whole_85 (fun H locs hP hS => ?_)
        refine lv_i2l (v := v22.toInt64) hx hb dL_whole_88 rfl ?_
        refine lv_ladd hx hb dL_whole_89 ?_
        obtain ⟨v24, ev24, hD⟩ := bnd_el hD
        refine lv_nml ev24 ?_
        refine lv_lstore_n (lv' := [(1, .long v24), (0, .ref (adh 0)), (3, .int x3), (4, .int x4)]) hx hb dL_whole_90 rfl hl (by decide) rfl (fun ls hl => ?_)
        obtain ⟨v25, ev25, hD⟩ := bnd_el hD
        refine lv_iinc (v := v25) (lv' := [(4, .int v25), (1, .long v24), (0, .ref (adh 0)), (3, .int x3)]) hx hb dL_whole_91 hl (k := 3) rfl (by rw [ev25]; rfl) (by decide) rfl (fun ls hl => ?_)
        refine lv_goto (tgt := 69) hx hb dL_whole_94 (by decide) ?_
        exact ih _ _ _ _ _ _ hD hP hS (lv_sub hl [2, 1, 3, 0] rfl)
  have c_57 : ∀ (n : Nat), ∀ (x1 : Int64) (x3 : Int32) (H : Heap) (locs : List Loc) (ls : Array Slot), D_L_whole_57 h m n x1 x3 = some (rr) → va_P D vwCl (Wf h m) H → va_S A s.heap H locs → lv_has ls 5 [(0, .ref (adh 0)), (1, .long x1), (3, .int x3)] → W p l e ({ frames := 8, cells := 0, slots := 0, locals := 126 } : Room) s m0 args below meth c H locs 0 0 Q (F0 m0 57 ls []) := by
    intro n
    induction n with
    | zero =>
      intro x1 x3 H locs ls hD hP hS hl
      exact nn_el hD
    | succ n ih =>
      intro x1 x3 H locs ls hD hP hS hl
      rw [D_L_whole_57] at hD
      refine lv_iload_n hx hb dL_whole_57 rfl (lv_at hl 2 rfl) ?_
      refine lv_aload_n hx hb dL_whole_58 rfl (lv_at hl 0 rfl) ?_
      refine lv_iconst (v := (0 : Int32)) hx hb dL_whole_59 (by decide) ?_
      obtain ⟨v14, z150, hD⟩ := b1_el hD
      have z15 := lr_el z150
      refine rcV (Wf := fun z => Wf z m) (mm := h) (As := [.int (0 : Int32)]) (rest := [.int x3]) Fx0 (c_X9_count l (Wf := fun z0_ z1_ => Wf z0_ z1_) (fun z1_ => hLh z1_) (fun z0_ => hL z0_) (fun a0_ b0_ a1_ b1_ => hAd a0_ b0_ a1_ b1_) hm1 h m (0 : Int32) z15) hP (hD1 _ (hAd _ _ _ _)) hS (hA1 _ _ (hAd _ _ _ _) hS.1) (hLh m) (Nat.le_of_ble_eq_true rfl) (hs0 _ _) rfl tw_5_23 tw_5_20 tw_5_21 tw_5_22 tw_1_1 yd_X9_count ⟨(Nat.le_of_ble_eq_true rfl), (Nat.le_of_ble_eq_true rfl)⟩ rfl hl.1 rfl (Nat.le_of_ble_eq_true rfl) dL_whole_60 (fun H locs hP hS => ?_)
      refine lv_icmp_ge (tgt := 103) hx hb dL_whole_63 (by decide) (fun c => ?_) (fun c => ?_)
      · have hD := ifp hD c
        refine lv_iconst (v := (0 : Int32)) hx hb dL_whole_103 (by decide) ?_
        refine lv_istore_n (lv' := [(3, .int (0 : Int32)), (0, .ref (adh 0)), (1, .long x1)]) hx hb dL_whole_104 rfl hl (by decide) rfl (fun ls hl => ?_)
        exact c_105 FU _ _ _ _ _ hD hP hS (lv_sub hl [1, 2, 0] rfl)
      · have hD := ifn hD c
        refine lv_iconst (v := (0 : Int32)) hx hb dL_whole_66 (by decide) ?_
        refine lv_istore (lv' := [(4, .int (0 : Int32)), (0, .ref (adh 0)), (1, .long x1), (3, .int x3)]) hx hb dL_whole_67 hl (by decide) rfl (fun ls hl => ?_)
        exact c_69 _ ih FU _ _ _ _ _ _ hD hP hS (lv_sub hl [1, 2, 3, 0] rfl)
  refine lv_aload_n hx hb dL_whole_0 rfl (lv_at hl 0 rfl) ?_
  obtain ⟨v1, z2, hD⟩ := b1_el hD
  refine rcV (Wf := fun z => Wf z m) (mm := h) (As := []) (rest := []) Fx0 (c_X9_now l (Wf := fun z0_ z1_ => Wf z0_ z1_) (fun z1_ => hLh z1_) (fun z0_ => hL z0_) (fun a0_ b0_ a1_ b1_ => hAd a0_ b0_ a1_ b1_) hm1 h m z2) hP (hD1 _ (hAd _ _ _ _)) hS (hA1 _ _ (hAd _ _ _ _) hS.1) (hLh m) (Nat.le_of_ble_eq_true rfl) (hs0 _ _) rfl tw_3_56 tw_3_53 tw_3_54 tw_3_55 tw_1_1 yd_X9_now ⟨(Nat.le_of_ble_eq_true rfl), (Nat.le_of_ble_eq_true rfl)⟩ rfl hl.1 rfl (Nat.le_of_ble_eq_true rfl) dL_whole_1 (fun H locs hP hS => ?_)
  refine lv_i2l (v := v1.toInt64) hx hb dL_whole_4 rfl ?_
  refine lv_ldc2 (v := (31 : Int64)) hx hb hown (Fx0.T tw_6_147) dL_whole_5 ?_
  refine lv_aload_n hx hb dL_whole_8 rfl (lv_at hl 0 rfl) ?_
  refine lv_iconst (v := (0 : Int32)) hx hb dL_whole_9 (by decide) ?_
  obtain ⟨v3, z40, hD⟩ := b1_el hD
  have z4 := lr_el z40
  refine rcV (Wf := fun z => Wf z m) (mm := h) (As := [.int (0 : Int32)]) (rest := [.long (31 : Int64), .long v1.toInt64]) Fx0 (c_X9_head l (Wf := fun z0_ z1_ => Wf z0_ z1_) (fun z1_ => hLh z1_) (fun z0_ => hL z0_) (fun a0_ b0_ a1_ b1_ => hAd a0_ b0_ a1_ b1_) hm1 h m (0 : Int32) z4) hP (hD1 _ (hAd _ _ _ _)) hS (hA1 _ _ (hAd _ _ _ _) hS.1) (hLh m) (Nat.le_of_ble_eq_true rfl) (hs0 _ _) rfl tw_6_151 tw_6_148 tw_6_149 tw_6_150 tw_1_1 yd_X9_head ⟨(Nat.le_of_ble_eq_true rfl), (Nat.le_of_ble_eq_true rfl)⟩ rfl hl.1 rfl (Nat.le_of_ble_eq_true rfl) dL_whole_10 (fun H locs hP hS => ?_)
  refine lv_i2l (v := v3.toInt64) hx hb dL_whole_13 rfl ?_
  refine lv_lmul hx hb dL_whole_14 ?_
  refine lv_ladd hx hb dL_whole_15 ?_
  refine lv_ldc2 (v := (7 : Int64)) hx hb hown (Fx0.T tw_6_152) dL_whole_16 ?_
  refine lv_aload_n hx hb dL_whole_19 rfl (lv_at hl 0 rfl) ?_
  refine lv_iconst (v := (1 : Int32)) hx hb dL_whole_20 (by decide) ?_
  obtain ⟨v5, z60, hD⟩ := b1_el hD
  have z6 := lr_el z60
  refine rcV (Wf := fun z => Wf z m) (mm := h) (As := [.int (1 : Int32)]) (rest := [.long (7 : Int64), .long (v1.toInt64 + ((31 : Int64) * v3.toInt64))]) Fx0 (c_X9_head l (Wf := fun z0_ z1_ => Wf z0_ z1_) (fun z1_ => hLh z1_) (fun z0_ => hL z0_) (fun a0_ b0_ a1_ b1_ => hAd a0_ b0_ a1_ b1_) hm1 h m (1 : Int32) z6) hP (hD1 _ (hAd _ _ _ _)) hS (hA1 _ _ (hAd _ _ _ _) hS.1) (hLh m) (Nat.le_of_ble_eq_true rfl) (hs0 _ _) rfl tw_6_151 tw_6_148 tw_6_149 tw_6_150 tw_1_1 yd_X9_head ⟨(Nat.le_of_ble_eq_true rfl), (Nat.le_of_ble_eq_true rfl)⟩ rfl hl.1 rfl (Nat.le_of_ble_eq_true rfl) dL_whole_21 (fun H locs hP hS => ?_)
  refine lv_i2l (v := v5.toInt64) hx hb dL_whole_24 rfl ?_
  refine lv_lmul hx hb dL_whole_25 ?_
  refine lv_ladd hx hb dL_whole_26 ?_
  refine lv_ldc2 (v := (13 : Int64)) hx hb hown (Fx0.T tw_6_153) dL_whole_27 ?_
  refine lv_aload_n hx hb dL_whole_30 rfl (lv_at hl 0 rfl) ?_
  refine lv_bipush (v := (10 : Int32)) hx hb dL_whole_31 (by decide) ?_
  obtain ⟨v7, z80, hD⟩ := b1_el hD
  have z8 := lr_el z80
  refine rcV (Wf := fun z => Wf z m) (mm := h) (As := [.int (10 : Int32)]) (rest := [.long (13 : Int64), .long ((v1.toInt64 + ((31 : Int64) * v3.toInt64)) + ((7 : Int64) * v5.toInt64))]) Fx0 (c_X9_setting l (Wf := fun z0_ z1_ => Wf z0_ z1_) (fun z1_ => hLh z1_) (fun z0_ => hL z0_) (fun a0_ b0_ a1_ b1_ => hAd a0_ b0_ a1_ b1_) hm1 h m (10 : Int32) z8) hP (hD1 _ (hAd _ _ _ _)) hS (hA1 _ _ (hAd _ _ _ _) hS.1) (hLh m) (Nat.le_of_ble_eq_true rfl) (hs0 _ _) rfl tw_6_157 tw_6_154 tw_6_155 tw_6_156 tw_1_1 yd_X9_setting ⟨(Nat.le_of_ble_eq_true rfl), (Nat.le_of_ble_eq_true rfl)⟩ rfl hl.1 rfl (Nat.le_of_ble_eq_true rfl) dL_whole_33 (fun H locs hP hS => ?_)
  refine lv_i2l (v := v7.toInt64) hx hb dL_whole_36 rfl ?_
  refine lv_lmul hx hb dL_whole_37 ?_
  refine lv_ladd hx hb dL_whole_38 ?_
  refine lv_aload_n hx hb dL_whole_39 rfl (lv_at hl 0 rfl) ?_
  obtain ⟨v9, z10, hD⟩ := b1_el hD
  refine rcV (Wf := fun z => Wf z m) (mm := h) (As := []) (rest := [.long (((v1.toInt64 + ((31 : Int64) * v3.toInt64)) + ((7 : Int64) * v5.toInt64)) + ((13 : Int64) * v7.toInt64))]) Fx0 (c_X9_logSize l (Wf := fun z0_ z1_ => Wf z0_ z1_) (fun z1_ => hLh z1_) (fun z0_ => hL z0_) (fun a0_ b0_ a1_ b1_ => hAd a0_ b0_ a1_ b1_) hm1 h m z10) hP (hD1 _ (hAd _ _ _ _)) hS (hA1 _ _ (hAd _ _ _ _) hS.1) (hLh m) (Nat.le_of_ble_eq_true rfl) (hs0 _ _) rfl tw_6_111 tw_6_108 tw_6_109 tw_6_110 tw_1_1 yd_X9_logSize ⟨(Nat.le_of_ble_eq_true rfl), (Nat.le_of_ble_eq_true rfl)⟩ rfl hl.1 rfl (Nat.le_of_ble_eq_true rfl) dL_whole_40 (fun H locs hP hS => ?_)
  refine lv_i2l (v := v9.toInt64) hx hb dL_whole_43 rfl ?_
  refine lv_ladd hx hb dL_whole_44 ?_
  refine lv_aload_n hx hb dL_whole_45 rfl (lv_at hl 0 rfl) ?_
  obtain ⟨v11, z12, hD⟩ := b1_el hD
  refine rcV (Wf := fun z => Wf z m) (mm := h) (As := []) (rest := [.long ((((v1.toInt64 + ((31 : Int64) * v3.toInt64)) + ((7 : Int64) * v5.toInt64)) + ((13 : Int64) * v7.toInt64)) + v9.toInt64)]) Fx0 (c_X9_filledSet l (Wf := fun z0_ z1_ => Wf z0_ z1_) (fun z1_ => hLh z1_) (fun z0_ => hL z0_) (fun a0_ b0_ a1_ b1_ => hAd a0_ b0_ a1_ b1_) hm1 h m z12) hP (hD1 _ (hAd _ _ _ _)) hS (hA1 _ _ (hAd _ _ _ _) hS.1) (hLh m) (Nat.le_of_ble_eq_true rfl) (hs0 _ _) rfl tw_6_131 tw_6_128 tw_6_129 tw_6_130 tw_1_1 yd_X9_filledSet ⟨(Nat.le_of_ble_eq_true rfl), (Nat.le_of_ble_eq_true rfl)⟩ rfl hl.1 rfl (Nat.le_of_ble_eq_true rfl) dL_whole_46 (fun H locs hP hS => ?_)
  refine lv_ldc2 (v := (5 : Int64)) hx hb hown (Fx0.T tw_6_158) dL_whole_49 ?_
  refine lv_lmul hx hb dL_whole_52 ?_
  refine lv_ladd hx hb dL_whole_53 ?_
  obtain ⟨v13, ev13, hD⟩ := bnd_el hD
  refine lv_nml ev13 ?_
  refine lv_lstore_n (lv' := [(1, .long v13), (0, .ref (adh 0))]) hx hb dL_whole_54 rfl hl (by decide) rfl (fun ls hl => ?_)
  refine lv_iconst (v := (0 : Int32)) hx hb dL_whole_55 (by decide) ?_
  refine lv_istore_n (lv' := [(3, .int (0 : Int32)), (1, .long v13), (0, .ref (adh 0))]) hx hb dL_whole_56 rfl hl (by decide) rfl (fun ls hl => ?_)
  exact c_57 FU _ _ _ _ _ hD hP hS (lv_sub hl [2, 1, 0] rfl)
noncomputable def D_L_areSpots_75 (h : MM) (m : MM) (k4 : Int64 → Int32 → Option Int32) (x1 : Int64) (x3 : Int32) (x4 : Int32) (xt0 : Int32) (xt1 : Int32) : Option Int32 := if xt1 = xt0 then (b1 (lr (D_X9_spotValue x3 (4 : Int32) h m)) (fun v13 => b1 (D_X9_now h m) (fun v15 => if v13 ≤ v15 then (if x4 = 0 then (b1 (lr (D_X9_blockedBy x3 h m)) (fun v18 => if v18 = (0 : Int64) then (bnd ((x1 ||| ((1 : Int64) <<< (x3.toInt64 &&& 63)))) (fun v21 => bnd (x3 + (1 : Int32)) (fun v22 => k4 v21 v22))) else (bnd (x3 + (1 : Int32)) (fun v20 => k4 x1 v20)))) else (bnd (x3 + (1 : Int32)) (fun v17 => k4 x1 v17))) else (some ((0 : Int32)))))) else (some ((0 : Int32)))
noncomputable def D_L_areSpots_47 (h : MM) (m : MM) (k4 : Int64 → Int32 → Option Int32) (x1 : Int64) (x3 : Int32) (x4 : Int32) (xt0 : Int32) (xt1 : Int32) : Option Int32 := if xt1 = xt0 then (b1 (lr (D_X9_spotValue x3 (5 : Int32) h m)) (fun v11 => if v11 < 0 then (if x4 = (1 : Int32) then (D_L_areSpots_75 h m k4 x1 x3 x4 (1 : Int32) (0 : Int32)) else (D_L_areSpots_75 h m k4 x1 x3 x4 (0 : Int32) (0 : Int32))) else (if x4 = (1 : Int32) then (D_L_areSpots_75 h m k4 x1 x3 x4 (1 : Int32) (1 : Int32)) else (D_L_areSpots_75 h m k4 x1 x3 x4 (0 : Int32) (1 : Int32))))) else (some ((0 : Int32)))
noncomputable def D_L_areSpots_4 (h : MM) (m : MM) : Nat → Int64 → Int32 → Option Int32
  | 0, _, _ => none
  | n + 1, x1, x3 => if (6 : Int32) ≤ x3 then (b1 (D_X9_fillableSet h m) (fun v1 => if x1 = v1 then (b1 (D_X9_fillableSet h m) (fun v3 => b1 (D_X9_filledSet h m) (fun v5 => if (v3 &&& v5) = (0 : Int64) then (some ((1 : Int32))) else (some ((0 : Int32)))))) else (some ((0 : Int32))))) else (b1 (lr (D_X9_spotValue x3 (3 : Int32) h m)) (fun v7 => b1 (D_X9_filledSet h m) (fun v9 => if ((v9 >>> (x3.toInt64 &&& 63)) &&& (1 : Int64)) = (1 : Int64) then (if v7 = (1 : Int32) then (D_L_areSpots_47 h m (D_L_areSpots_4 h m n) x1 x3 v7 (1 : Int32) (1 : Int32)) else (D_L_areSpots_47 h m (D_L_areSpots_4 h m n) x1 x3 v7 (0 : Int32) (1 : Int32))) else (if v7 = (1 : Int32) then (D_L_areSpots_47 h m (D_L_areSpots_4 h m n) x1 x3 v7 (1 : Int32) (0 : Int32)) else (D_L_areSpots_47 h m (D_L_areSpots_4 h m n) x1 x3 v7 (0 : Int32) (0 : Int32))))))
noncomputable def D_L_areSpots (h : MM) (m : MM) : Option Int32 := D_L_areSpots_4 h m FU (0 : Int64) (0 : Int32)
set_option maxHeartbeats 4000000 in
set_option maxRecDepth 100000 in
theorem c_L_areSpots (l : Launch) {D : va_G} {cs : Nat → ClassId} {adh ad ma : Nat → Nat} {Wf : MM → MM → va_W} (hLh : ∀ m : MM, Ln 8 adh (hsh cs adh ma) (fun z => Wf z m)) (hL : ∀ h : MM, Ln 51 ad (msh cs ad) (fun z => Wf h z)) (hAd : ∀ a0_ b0_ a1_ b1_ : MM, (Wf a0_ a1_).map (fun q => q.1) = (Wf b0_ b1_).map (fun q => q.1)) (hm1 : ma 1 = ad 24) (h : MM) (m : MM) {rr : Int32} (hD : D_L_areSpots h m = some (rr)) : Ct l yL_areSpots cL_areSpots 5 (some .boolean) 8 126 D cs [.ref (adh 0)] (Wf h m) (Wf h m) (some (.int rr)) := by
  refine Ct.ofW (by decide) (Nat.le_of_ble_eq_true rfl) rfl ?_
  intro p e s m0 below meth c A Q ls args hx hb hr hml hlocks hown hts hK hP hD1 hSS hS hA1 hl hret
  have hT : ∀ w ∈ TBL, w.before args s = true := fun w h => hts w (List.mem_cons_of_mem _ h)
  have Fx0 : Fx p l m0 c cL_areSpots 5 s args yL_areSpots cL_areSpots 5 (some .boolean) D cs A := ⟨hx, hb, hml, hown, hts, hK, hSS⟩
  have hown : s.vm.findClass RL = some m0.cls := hown
  have hl : lv_has ls 5 [(0, .ref (adh 0))] := hl
  unfold D_L_areSpots at hD
  have c_75 : ∀ (k4 : Int64 → Int32 → Option Int32) (hk4 : ∀ (x1 : Int64) (x3 : Int32) (H : Heap) (locs : List Loc) (ls : Array Slot), k4 x1 x3 = some (rr) → va_P D vwCl (Wf h m) H → va_S A s.heap H locs → lv_has ls 5 [(0, .ref (adh 0)), (1, .long x1), (3, .int x3)] → W p l e ({ frames := 8, cells := 0, slots := 0, locals := 126 } : Room) s m0 args below meth c H locs 0 0 Q (F0 m0 4 ls [])), ∀ (x1 : Int64) (x3 : Int32) (x4 : Int32) (xt0 : Int32) (xt1 : Int32) (H : Heap) (locs : List Loc) (ls : Array Slot), D_L_areSpots_75 h m k4 x1 x3 x4 xt0 xt1 = some (rr) → va_P D vwCl (Wf h m) H → va_S A s.heap H locs → lv_has ls 5 [(0, .ref (adh 0)), (1, .long x1), (3, .int x3), (4, .int x4)] → W p l e ({ frames := 8, cells := 0, slots := 0, locals := 126 } : Room) s m0 args below meth c H locs 0 0 Q (F0 m0 75 ls [.int xt0, .int xt1]) := by
    intro k4 hk4 x1 x3 x4 xt0 xt1 H locs ls hD hP hS hl
    unfold D_L_areSpots_75 at hD
    refine lv_icmp_ne (tgt := 91) hx hb dL_areSpots_75 (by decide) (fun c => ?_) (fun c => ?_)
    · have hD := ifn hD c
      refine lv_iconst (v := (0 : Int32)) hx hb dL_areSpots_91 (by decide) ?_
      obtain rfl := es1 hD
      exact hret _ _ _ hP hS (fun Qc hq => W.zret hx hb hr rfl hq hS.2.2 dL_areSpots_92 hlocks)
    · have hD := ifp hD c
      refine lv_aload_n hx hb dL_areSpots_78 rfl (lv_at hl 0 rfl) ?_
      refine lv_iload_n hx hb dL_areSpots_79 rfl (lv_at hl 2 rfl) ?_
      refine lv_iconst (v := (4 : Int32)) hx hb dL_areSpots_80 (by decide) ?_
      obtain ⟨v13, z140, hD⟩ := b1_el hD
      have z14 := lr_el z140
      refine rcV (Wf := fun z => Wf z m) (mm := h) (As := [.int x3, .int (4 : Int32)]) (rest := []) Fx0 (c_X9_spotValue l (Wf := fun z0_ z1_ => Wf z0_ z1_) (fun z1_ => hLh z1_) (fun z0_ => hL z0_) (fun a0_ b0_ a1_ b1_ => hAd a0_ b0_ a1_ b1_) hm1 h m x3 (4 : Int32) z14) hP (hD1 _ (hAd _ _ _ _)) hS (hA1 _ _ (hAd _ _ _ _) hS.1) (hLh m) (Nat.le_of_ble_eq_true rfl) (hs0 _ _) rfl tw_6_123 tw_6_120 tw_6_121 tw_6_122 tw_1_1 yd_X9_spotValue ⟨(Nat.le_of_ble_eq_true rfl), (Nat.le_of_ble_eq_true rfl)⟩ rfl hl.1 rfl (Nat.le_of_ble_eq_true rfl) dL_areSpots_81 (fun H locs hP hS => ?_)
      refine lv_aload_n hx hb dL_areSpots_84 rfl (lv_at hl 0 rfl) ?_
      obtain ⟨v15, z16, hD⟩ := b1_el hD
      refine rcV (Wf := fun z => Wf z m) (mm := h) (As := []) (rest := [.int v13]) Fx0 (c_X9_now l (Wf := fun z0_ z1_ => Wf z0_ z1_) (fun z1_ => hLh z1_) (fun z0_ => hL z0_) (fun a0_ b0_ a1_ b1_ => hAd a0_ b0_ a1_ b1_) hm1 h m z16) hP (hD1 _ (hAd _ _ _ _)) hS (hA1 _ _ (hAd _ _ _ _) hS.1) (hLh m) (Nat.le_of_ble_eq_true rfl) (hs0 _ _) rfl tw_3_56 tw_3_53 tw_3_54 tw_3_55 tw_1_1 yd_X9_now ⟨(Nat.le_of_ble_eq_true rfl), (Nat.le_of_ble_eq_true rfl)⟩ rfl hl.1 rfl (Nat.le_of_ble_eq_true rfl) dL_areSpots_85 (fun H locs hP hS => ?_)
      refine lv_icmp_le (tgt := 93) hx hb dL_areSpots_88 (by decide) (fun c => ?_) (fun c => ?_)
      · have hD := ifp hD c
        refine lv_iload hx hb dL_areSpots_93 (lv_at hl 3 rfl) ?_
        refine lv_if_ne (tgt := 114) hx hb dL_areSpots_95 (by decide) (fun c => ?_) (fun c => ?_)
        · have hD := ifn hD c
          obtain ⟨v17, ev17, hD⟩ := bnd_el hD
          refine lv_iinc (v := v17) (lv' := [(3, .int v17), (0, .ref (adh 0)), (1, .long x1), (4, .int x4)]) hx hb dL_areSpots_114 hl (k := 2) rfl (by rw [ev17]; rfl) (by decide) rfl (fun ls hl => ?_)
          refine lv_goto (tgt := 4) hx hb dL_areSpots_117 (by decide) ?_
          exact hk4 _ _ _ _ _ hD hP hS (lv_sub hl [1, 2, 0] rfl)
        · have hD := ifp hD c
          refine lv_aload_n hx hb dL_areSpots_98 rfl (lv_at hl 0 rfl) ?_
          refine lv_iload_n hx hb dL_areSpots_99 rfl (lv_at hl 2 rfl) ?_
          obtain ⟨v18, z190, hD⟩ := b1_el hD
          have z19 := lr_el z190
          refine rcV (Wf := fun z => Wf z m) (mm := h) (As := [.int x3]) (rest := []) Fx0 (c_X9_blockedBy l (Wf := fun z0_ z1_ => Wf z0_ z1_) (fun z1_ => hLh z1_) (fun z0_ => hL z0_) (fun a0_ b0_ a1_ b1_ => hAd a0_ b0_ a1_ b1_) hm1 h m x3 z19) hP (hD1 _ (hAd _ _ _ _)) hS (hA1 _ _ (hAd _ _ _ _) hS.1) (hLh m) (Nat.le_of_ble_eq_true rfl) (hs0 _ _) rfl tw_6_135 tw_6_132 tw_6_133 tw_6_134 tw_1_1 yd_X9_blockedBy ⟨(Nat.le_of_ble_eq_true rfl), (Nat.le_of_ble_eq_true rfl)⟩ rfl hl.1 rfl (Nat.le_of_ble_eq_true rfl) dL_areSpots_100 (fun H locs hP hS => ?_)
          refine lv_lconst (v := (0 : Int64)) hx hb dL_areSpots_103 (by decide) ?_
          refine rlc_ne (tgt := 114) hx hb dL_areSpots_104 dL_areSpots_105 (by decide) (fun c => ?_) (fun c => ?_)
          · have hD := ifn hD c
            obtain ⟨v20, ev20, hD⟩ := bnd_el hD
            refine lv_iinc (v := v20) (lv' := [(3, .int v20), (0, .ref (adh 0)), (1, .long x1), (4, .int x4)]) hx hb dL_areSpots_114 hl (k := 2) rfl (by rw [ev20]; rfl) (by decide) rfl (fun ls hl => ?_)
            refine lv_goto (tgt := 4) hx hb dL_areSpots_117 (by decide) ?_
            exact hk4 _ _ _ _ _ hD hP hS (lv_sub hl [1, 2, 0] rfl)
          · have hD := ifp hD c
            refine lv_lload_n hx hb dL_areSpots_108 rfl (lv_at hl 1 rfl) ?_
            refine lv_lconst (v := (1 : Int64)) hx hb dL_areSpots_109 (by decide) ?_
            refine lv_iload_n hx hb dL_areSpots_110 rfl (lv_at hl 2 rfl) ?_
            refine lv_lshl (v := ((1 : Int64) <<< (x3.toInt64 &&& 63))) hx hb dL_areSpots_111 rfl ?_
            refine lv_lor hx hb dL_areSpots_112 ?_
            obtain ⟨v21, ev21, hD⟩ := bnd_el hD
            refine lv_nml ev21 ?_
            refine lv_lstore_n (lv' := [(1, .long v21), (0, .ref (adh 0)), (3, .int x3), (4, .int x4)]) hx hb dL_areSpots_113 rfl hl (by decide) rfl (fun ls hl => ?_)
            obtain ⟨v22, ev22, hD⟩ := bnd_el hD
            refine lv_iinc (v := v22) (lv' := [(3, .int v22), (1, .long v21), (0, .ref (adh 0)), (4, .int x4)]) hx hb dL_areSpots_114 hl (k := 2) rfl (by rw [ev22]; rfl) (by decide) rfl (fun ls hl => ?_)
            refine lv_goto (tgt := 4) hx hb dL_areSpots_117 (by decide) ?_
            exact hk4 _ _ _ _ _ hD hP hS (lv_sub hl [2, 1, 0] rfl)
      · have hD := ifn hD c
        refine lv_iconst (v := (0 : Int32)) hx hb dL_areSpots_91 (by decide) ?_
        obtain rfl := es1 hD
        exact hret _ _ _ hP hS (fun Qc hq => W.zret hx hb hr rfl hq hS.2.2 dL_areSpots_92 hlocks)
  have c_47 : ∀ (k4 : Int64 → Int32 → Option Int32) (hk4 : ∀ (x1 : Int64) (x3 : Int32) (H : Heap) (locs : List Loc) (ls : Array Slot), k4 x1 x3 = some (rr) → va_P D vwCl (Wf h m) H → va_S A s.heap H locs → lv_has ls 5 [(0, .ref (adh 0)), (1, .long x1), (3, .int x3)] → W p l e ({ frames := 8, cells := 0, slots := 0, locals := 126 } : Room) s m0 args below meth c H locs 0 0 Q (F0 m0 4 ls [])), ∀ (x1 : Int64) (x3 : Int32) (x4 : Int32) (xt0 : Int32) (xt1 : Int32) (H : Heap) (locs : List Loc) (ls : Array Slot), D_L_areSpots_47 h m k4 x1 x3 x4 xt0 xt1 = some (rr) → va_P D vwCl (Wf h m) H → va_S A s.heap H locs → lv_has ls 5 [(0, .ref (adh 0)), (1, .long x1), (3, .int x3), (4, .int x4)] → W p l e ({ frames := 8, cells := 0, slots := 0, locals := 126 } : Room) s m0 args below meth c H locs 0 0 Q (F0 m0 47 ls [.int xt0, .int xt1]) := by
    intro k4 hk4 x1 x3 x4 xt0 xt1 H locs ls hD hP hS hl
    unfold D_L_areSpots_47 at hD
    refine lv_icmp_ne (tgt := 91) hx hb dL_areSpots_47 (by decide) (fun c => ?_) (fun c => ?_)
    · have hD := ifn hD c
      refine lv_iconst (v := (0 : Int32)) hx hb dL_areSpots_91 (by decide) ?_
      obtain rfl := es1 hD
      exact hret _ _ _ hP hS (fun Qc hq => W.zret hx hb hr rfl hq hS.2.2 dL_areSpots_92 hlocks)
    · have hD := ifp hD c
      refine lv_aload_n hx hb dL_areSpots_50 rfl (lv_at hl 0 rfl) ?_
      refine lv_iload_n hx hb dL_areSpots_51 rfl (lv_at hl 2 rfl) ?_
      refine lv_iconst (v := (5 : Int32)) hx hb dL_areSpots_52 (by decide) ?_
      obtain ⟨v11, z120, hD⟩ := b1_el hD
      have z12 := lr_el z120
      refine rcV (Wf := fun z => Wf z m) (mm := h) (As := [.int x3, .int (5 : Int32)]) (rest := []) Fx0 (c_X9_spotValue l (Wf := fun z0_ z1_ => Wf z0_ z1_) (fun z1_ => hLh z1_) (fun z0_ => hL z0_) (fun a0_ b0_ a1_ b1_ => hAd a0_ b0_ a1_ b1_) hm1 h m x3 (5 : Int32) z12) hP (hD1 _ (hAd _ _ _ _)) hS (hA1 _ _ (hAd _ _ _ _) hS.1) (hLh m) (Nat.le_of_ble_eq_true rfl) (hs0 _ _) rfl tw_6_123 tw_6_120 tw_6_121 tw_6_122 tw_1_1 yd_X9_spotValue ⟨(Nat.le_of_ble_eq_true rfl), (Nat.le_of_ble_eq_true rfl)⟩ rfl hl.1 rfl (Nat.le_of_ble_eq_true rfl) dL_areSpots_53 (fun H locs hP hS => ?_)
      refine lv_if_lt (tgt := 63) hx hb dL_areSpots_56 (by decide) (fun c => ?_) (fun c => ?_)
      · have hD := ifp hD c
        refine lv_iconst (v := (0 : Int32)) hx hb dL_areSpots_63 (by decide) ?_
        refine lv_iload hx hb dL_areSpots_64 (lv_at hl 3 rfl) ?_
        refine lv_iconst (v := (1 : Int32)) hx hb dL_areSpots_66 (by decide) ?_
        refine lv_icmp_ne (tgt := 74) hx hb dL_areSpots_67 (by decide) (fun c => ?_) (fun c => ?_)
        · have hD := ifn hD c
          refine lv_iconst (v := (0 : Int32)) hx hb dL_areSpots_74 (by decide) ?_
          exact c_75 _ hk4 _ _ _ _ _ _ _ _ hD hP hS (lv_sub hl [0, 1, 2, 3] rfl)
        · have hD := ifp hD c
          refine lv_iconst (v := (1 : Int32)) hx hb dL_areSpots_70 (by decide) ?_
          refine lv_goto (tgt := 75) hx hb dL_areSpots_71 (by decide) ?_
          exact c_75 _ hk4 _ _ _ _ _ _ _ _ hD hP hS (lv_sub hl [0, 1, 2, 3] rfl)
      · have hD := ifn hD c
        refine lv_iconst (v := (1 : Int32)) hx hb dL_areSpots_59 (by decide) ?_
        refine lv_goto (tgt := 64) hx hb dL_areSpots_60 (by decide) ?_
        refine lv_iload hx hb dL_areSpots_64 (lv_at hl 3 rfl) ?_
        refine lv_iconst (v := (1 : Int32)) hx hb dL_areSpots_66 (by decide) ?_
        refine lv_icmp_ne (tgt := 74) hx hb dL_areSpots_67 (by decide) (fun c => ?_) (fun c => ?_)
        · have hD := ifn hD c
          refine lv_iconst (v := (0 : Int32)) hx hb dL_areSpots_74 (by decide) ?_
          exact c_75 _ hk4 _ _ _ _ _ _ _ _ hD hP hS (lv_sub hl [0, 1, 2, 3] rfl)
        · have hD := ifp hD c
          refine lv_iconst (v := (1 : Int32)) hx hb dL_areSpots_70 (by decide) ?_
          refine lv_goto (tgt := 75) hx hb dL_areSpots_71 (by decide) ?_
          exact c_75 _ hk4 _ _ _ _ _ _ _ _ hD hP hS (lv_sub hl [0, 1, 2, 3] rfl)
  have c_4 : ∀ (n : Nat), ∀ (x1 : Int64) (x3 : Int32) (H : Heap) (locs : List Loc) (ls : Array Slot), D_L_areSpots_4 h m n x1 x3 = some (rr) → va_P D vwCl (Wf h m) H → va_S A s.heap H locs → lv_has ls 5 [(0, .ref (adh 0)), (1, .long x1), (3, .int x3)] → W p l e ({ frames := 8, cells := 0, slots := 0, locals := 126 } : Room) s m0 args below meth c H locs 0 0 Q (F0 m0 4 ls []) := by
    intro n
    induction n with
    | zero =>
      intro x1 x3 H locs ls hD hP hS hl
      exact nn_el hD
    | succ n ih =>
      intro x1 x3 H locs ls hD hP hS hl
      rw [D_L_areSpots_4] at hD
      refine lv_iload_n hx hb dL_areSpots_4 rfl (lv_at hl 2 rfl) ?_
      refine lv_bipush (v := (6 : Int32)) hx hb dL_areSpots_5 (by decide) ?_
      refine lv_icmp_ge (tgt := 120) hx hb dL_areSpots_7 (by decide) (fun c => ?_) (fun c => ?_)
      · have hD := ifp hD c
        refine lv_lload_n hx hb dL_areSpots_120 rfl (lv_at hl 1 rfl) ?_
        refine lv_aload_n hx hb dL_areSpots_121 rfl (lv_at hl 0 rfl) ?_
        obtain ⟨v1, z2, hD⟩ := b1_el hD
        refine rcV (Wf := fun z => Wf z m) (mm := h) (As := []) (rest := [.long x1]) Fx0 (c_X9_fillableSet l (Wf := fun z0_ z1_ => Wf z0_ z1_) (fun z1_ => hLh z1_) (fun z0_ => hL z0_) (fun a0_ b0_ a1_ b1_ => hAd a0_ b0_ a1_ b1_) hm1 h m z2) hP (hD1 _ (hAd _ _ _ _)) hS (hA1 _ _ (hAd _ _ _ _) hS.1) (hLh m) (Nat.le_of_ble_eq_true rfl) (hs0 _ _) rfl tw_6_139 tw_6_136 tw_6_137 tw_6_138 tw_1_1 yd_X9_fillableSet ⟨(Nat.le_of_ble_eq_true rfl), (Nat.le_of_ble_eq_true rfl)⟩ rfl hl.1 rfl (Nat.le_of_ble_eq_true rfl) dL_areSpots_122 (fun H locs hP hS => ?_)
        refine rlc_ne (tgt := 147) hx hb dL_areSpots_125 dL_areSpots_126 (by decide) (fun c => ?_) (fun c => ?_)
        · have hD := ifn hD c
          refine lv_iconst (v := (0 : Int32)) hx hb dL_areSpots_147 (by decide) ?_
          obtain rfl := es1 hD
          exact hret _ _ _ hP hS (fun Qc hq => W.zret hx hb hr rfl hq hS.2.2 dL_areSpots_148 hlocks)
        · have hD := ifp hD c
          refine lv_aload_n hx hb dL_areSpots_129 rfl (lv_at hl 0 rfl) ?_
          obtain ⟨v3, z4, hD⟩ := b1_el hD
          refine rcV (Wf := fun z => Wf z m) (mm := h) (As := []) (rest := []) Fx0 (c_X9_fillableSet l (Wf := fun z0_ z1_ => Wf z0_ z1_) (fun z1_ => hLh z1_) (fun z0_ => hL z0_) (fun a0_ b0_ a1_ b1_ => hAd a0_ b0_ a1_ b1_) hm1 h m z4) hP (hD1 _ (hAd _ _ _ _)) hS (hA1 _ _ (hAd _ _ _ _) hS.1) (hLh m) (Nat.le_of_ble_eq_true rfl) (hs0 _ _) rfl tw_6_139 tw_6_136 tw_6_137 tw_6_138 tw_1_1 yd_X9_fillableSet ⟨(Nat.le_of_ble_eq_true rfl), (Nat.le_of_ble_eq_true rfl)⟩ rfl hl.1 rfl (Nat.le_of_ble_eq_true rfl) dL_areSpots_130 (fun H locs hP hS => ?_)
          refine lv_aload_n hx hb dL_areSpots_133 rfl (lv_at hl 0 rfl) ?_
          obtain ⟨v5, z6, hD⟩ := b1_el hD
          refine rcV (Wf := fun z => Wf z m) (mm := h) (As := []) (rest := [.long v3]) Fx0 (c_X9_filledSet l (Wf := fun z0_ z1_ => Wf z0_ z1_) (fun z1_ => hLh z1_) (fun z0_ => hL z0_) (fun a0_ b0_ a1_ b1_ => hAd a0_ b0_ a1_ b1_) hm1 h m z6) hP (hD1 _ (hAd _ _ _ _)) hS (hA1 _ _ (hAd _ _ _ _) hS.1) (hLh m) (Nat.le_of_ble_eq_true rfl) (hs0 _ _) rfl tw_6_131 tw_6_128 tw_6_129 tw_6_130 tw_1_1 yd_X9_filledSet ⟨(Nat.le_of_ble_eq_true rfl), (Nat.le_of_ble_eq_true rfl)⟩ rfl hl.1 rfl (Nat.le_of_ble_eq_true rfl) dL_areSpots_134 (fun H locs hP hS => ?_)
          refine lv_land hx hb dL_areSpots_137 ?_
          refine lv_lconst (v := (0 : Int64)) hx hb dL_areSpots_138 (by decide) ?_
          refine rlc_ne (tgt := 147) hx hb dL_areSpots_139 dL_areSpots_140 (by decide) (fun c => ?_) (fun c => ?_)
          · have hD := ifn hD c
            refine lv_iconst (v := (0 : Int32)) hx hb dL_areSpots_147 (by decide) ?_
            obtain rfl := es1 hD
            exact hret _ _ _ hP hS (fun Qc hq => W.zret hx hb hr rfl hq hS.2.2 dL_areSpots_148 hlocks)
          · have hD := ifp hD c
            refine lv_iconst (v := (1 : Int32)) hx hb dL_areSpots_143 (by decide) ?_
            refine lv_goto (tgt := 148) hx hb dL_areSpots_144 (by decide) ?_
            obtain rfl := es1 hD
            exact hret _ _ _ hP hS (fun Qc hq => W.zret hx hb hr rfl hq hS.2.2 dL_areSpots_148 hlocks)
      · have hD := ifn hD c
        refine lv_aload_n hx hb dL_areSpots_10 rfl (lv_at hl 0 rfl) ?_
        refine lv_iload_n hx hb dL_areSpots_11 rfl (lv_at hl 2 rfl) ?_
        refine lv_iconst (v := (3 : Int32)) hx hb dL_areSpots_12 (by decide) ?_
        obtain ⟨v7, z80, hD⟩ := b1_el hD
        have z8 := lr_el z80
        refine rcV (Wf := fun z => Wf z m) (mm := h) (As := [.int x3, .int (3 : Int32)]) (rest := []) Fx0 (c_X9_spotValue l (Wf := fun z0_ z1_ => Wf z0_ z1_) (fun z1_ => hLh z1_) (fun z0_ => hL z0_) (fun a0_ b0_ a1_ b1_ => hAd a0_ b0_ a1_ b1_) hm1 h m x3 (3 : Int32) z8) hP (hD1 _ (hAd _ _ _ _)) hS (hA1 _ _ (hAd _ _ _ _) hS.1) (hLh m) (Nat.le_of_ble_eq_true rfl) (hs0 _ _) rfl tw_6_123 tw_6_120 tw_6_121 tw_6_122 tw_1_1 yd_X9_spotValue ⟨(Nat.le_of_ble_eq_true rfl), (Nat.le_of_ble_eq_true rfl)⟩ rfl hl.1 rfl (Nat.le_of_ble_eq_true rfl) dL_areSpots_13 (fun H locs hP hS => ?_)
        refine lv_istore (lv' := [(4, .int v7), (0, .ref (adh 0)), (1, .long x1), (3, .int x3)]) hx hb dL_areSpots_16 hl (by decide) rfl (fun ls hl => ?_)
        refine lv_aload_n hx hb dL_areSpots_18 rfl (lv_at hl 1 rfl) ?_
        obtain ⟨v9, z10, hD⟩ := b1_el hD
        refine rcV (Wf := fun z => Wf z m) (mm := h) (As := []) (rest := []) Fx0 (c_X9_filledSet l (Wf := fun z0_ z1_ => Wf z0_ z1_) (fun z1_ => hLh z1_) (fun z0_ => hL z0_) (fun a0_ b0_ a1_ b1_ => hAd a0_ b0_ a1_ b1_) hm1 h m z10) hP (hD1 _ (hAd _ _ _ _)) hS (hA1 _ _ (hAd _ _ _ _) hS.1) (hLh m) (Nat.le_of_ble_eq_true rfl) (hs0 _ _) rfl tw_6_131 tw_6_128 tw_6_129 tw_6_130 tw_1_1 yd_X9_filledSet ⟨(Nat.le_of_ble_eq_true rfl), (Nat.le_of_ble_eq_true rfl)⟩ rfl hl.1 rfl (Nat.le_of_ble_eq_true rfl) dL_areSpots_19 (fun H locs hP hS => ?_)
        refine lv_iload_n hx hb dL_areSpots_22 rfl (lv_at hl 3 rfl) ?_
        refine lv_lshr (v := (v9 >>> (x3.toInt64 &&& 63))) hx hb dL_areSpots_23 rfl ?_
        refine lv_lconst (v := (1 : Int64)) hx hb dL_areSpots_24 (by decide) ?_
        refine lv_land hx hb dL_areSpots_25 ?_
        refine lv_lconst (v := (1 : Int64)) hx hb dL_areSpots_26 (by decide) ?_
        refine rlc_ne (tgt := 35) hx hb dL_areSpots_27 dL_areSpots_28 (by decide) (fun c => ?_) (fun c => ?_)
        · have hD := ifn hD c
          refine lv_iconst (v := (0 : Int32)) hx hb dL_areSpots_35 (by decide) ?_
          refine lv_iload hx hb dL_areSpots_36 (lv_at hl 0 rfl) ?_
          refine lv_iconst (v := (1 : Int32)) hx hb dL_areSpots_38 (by decide) ?_
          refine lv_icmp_ne (tgt := 46) hx hb dL_areSpots_39 (by decide) (fun c => ?_) (fun c => ?_)
          · have hD := ifn hD c
            refine lv_iconst (v := (0 : Int32)) hx hb dL_areSpots_46 (by decide) ?_
            exact c_47 _ ih _ _ _ _ _ _ _ _ hD hP hS (lv_sub hl [1, 2, 3, 0] rfl)
          · have hD := ifp hD c
            refine lv_iconst (v := (1 : Int32)) hx hb dL_areSpots_42 (by decide) ?_
            refine lv_goto (tgt := 47) hx hb dL_areSpots_43 (by decide) ?_
            exact c_47 _ ih _ _ _ _ _ _ _ _ hD hP hS (lv_sub hl [1, 2, 3, 0] rfl)
        · have hD := ifp hD c
          refine lv_iconst (v := (1 : Int32)) hx hb dL_areSpots_31 (by decide) ?_
          refine lv_goto (tgt := 36) hx hb dL_areSpots_32 (by decide) ?_
          refine lv_iload hx hb dL_areSpots_36 (lv_at hl 0 rfl) ?_
          refine lv_iconst (v := (1 : Int32)) hx hb dL_areSpots_38 (by decide) ?_
          refine lv_icmp_ne (tgt := 46) hx hb dL_areSpots_39 (by decide) (fun c => ?_) (fun c => ?_)
          · have hD := ifn hD c
            refine lv_iconst (v := (0 : Int32)) hx hb dL_areSpots_46 (by decide) ?_
            exact c_47 _ ih _ _ _ _ _ _ _ _ hD hP hS (lv_sub hl [1, 2, 3, 0] rfl)
          · have hD := ifp hD c
            refine lv_iconst (v := (1 : Int32)) hx hb dL_areSpots_42 (by decide) ?_
            refine lv_goto (tgt := 47) hx hb dL_areSpots_43 (by decide) ?_
            exact c_47 _ ih _ _ _ _ _ _ _ _ hD hP hS (lv_sub hl [1, 2, 3, 0] rfl)
  refine lv_lconst (v := (0 : Int64)) hx hb dL_areSpots_0 (by decide) ?_
  refine lv_lstore_n (lv' := [(1, .long (0 : Int64)), (0, .ref (adh 0))]) hx hb dL_areSpots_1 rfl hl (by decide) rfl (fun ls hl => ?_)
  refine lv_iconst (v := (0 : Int32)) hx hb dL_areSpots_2 (by decide) ?_
  refine lv_istore_n (lv' := [(3, .int (0 : Int32)), (1, .long (0 : Int64)), (0, .ref (adh 0))]) hx hb dL_areSpots_3 rfl hl (by decide) rfl (fun ls hl => ?_)
  exact c_4 FU _ _ _ _ _ hD hP hS (lv_sub hl [2, 1, 0] rfl)
