/-! numbers in a text -/
theorem rtbT {p : Program} {l : Launch} {e : Env} {R : Room} {s : State} {m : MethodId} {args : Array Value} {below : List Frame} {meth : Method} {c : Code} {H : Heap} {locs : List Loc} {cells slots : Nat} {Q : State → Prop} {cc : ByteArray} {pc : Nat} {ls : Array Slot} {rest : List Value} {A : Nat → Prop} (hx : p.tables.exec = Jvm.exec) (hb : c.code = cc) {t N j : Nat} {f : Nat → Int32} (hT : va_T .byte t N (fun j => .int (f j)) A s s.heap) (hS : va_S A s.heap H locs) {i : Int32} (hin : ¬ (i < 0 ∨ N ≤ i.toNatClampNeg)) (hj : i.toNatClampNeg = j) (hdg : decode cc pc = .ok (.baload, 1))
    (kk : W p l e R s m args below meth c H locs cells slots Q (F0 m (pc + 1) ls (.int (f j) :: rest))) : W p l e R s m args below meth c H locs cells slots Q (F0 m pc ls (.int i :: .ref t :: rest)) := by
  subst hj
  exact va_tb hx hb hT hS hin rfl hdg kk
noncomputable def D_J6_stringSize_0f7a4_16 : Nat → Int32 → Int32 → Int32 → Int32 → Option Int32
  | 0, _, _, _, _ => none
  | n + 1, x0, x1, x2, x3 => if (10 : Int32) ≤ x3 then (some (((10 : Int32) + x1))) else (if x0 ≤ x2 then (bnd (((10 : Int32) * x2)) (fun v1 => bnd (x3 + (1 : Int32)) (fun v2 => D_J6_stringSize_0f7a4_16 n x0 x1 v1 v2))) else (some ((x3 + x1))))
noncomputable def D_J6_stringSize_0f7a4 (x0 : Int32) : Option Int32 := if x0 < 0 then (D_J6_stringSize_0f7a4_16 FU x0 (1 : Int32) (-10 : Int32) (1 : Int32)) else (bnd ((-x0)) (fun v3 => D_J6_stringSize_0f7a4_16 FU v3 (0 : Int32) (-10 : Int32) (1 : Int32)))
set_option maxHeartbeats 4000000 in
set_option maxRecDepth 100000 in
theorem c_J6_stringSize_0f7a4 (l : Launch) {D : va_G} {cs : Nat → ClassId} {w : va_W} (x0 : Int32) {rr : Int32} (hD : D_J6_stringSize_0f7a4 x0 = some (rr)) : Ct l yJ6_stringSize_0f7a4 cJ6_stringSize_0f7a4 4 (some .int) 0 0 D cs [.int x0] (w) (w) (some (.int rr)) := by
  refine Ct.ofW (by decide) (Nat.le_of_ble_eq_true rfl) rfl ?_
  intro p e s m0 below meth c A Q ls args hx hb hr hml hlocks hown hts hK hP hD1 hSS hS hA1 hl hret
  have hT : ∀ w ∈ TBL, w.before args s = true := fun w h => hts w (List.mem_cons_of_mem _ h)
  have Fx0 : Fx p l m0 c cJ6_stringSize_0f7a4 4 s args yJ6_stringSize_0f7a4 cJ6_stringSize_0f7a4 4 (some .int) D cs A := ⟨hx, hb, hml, hown, hts, hK, hSS⟩
  have hown : s.vm.findClass RJ6 = some m0.cls := hown
  have hl : lv_has ls 4 [(0, .int x0)] := hl
  unfold D_J6_stringSize_0f7a4 at hD
  have c_16 : ∀ (n : Nat), ∀ (x0 : Int32) (x1 : Int32) (x2 : Int32) (x3 : Int32) (H : Heap) (locs : List Loc) (ls : Array Slot), D_J6_stringSize_0f7a4_16 n x0 x1 x2 x3 = some (rr) → va_P D vwCl (w) H → va_S A s.heap H locs → lv_has ls 4 [(0, .int x0), (1, .int x1), (2, .int x2), (3, .int x3)] → W p l e ({ frames := 0, cells := 0, slots := 0, locals := 0 } : Room) s m0 args below meth c H locs 0 0 Q (F0 m0 16 ls []) := by
    intro n
    induction n with
    | zero =>
      intro x0 x1 x2 x3 H locs ls hD hP hS hl
      exact nn_el hD
    | succ n ih =>
      intro x0 x1 x2 x3 H locs ls hD hP hS hl
      rw [D_J6_stringSize_0f7a4_16] at hD
      refine lv_iload_n hx hb dJ6_stringSize_0f7a4_16 rfl (lv_at hl 3 rfl) ?_
      refine lv_bipush (v := (10 : Int32)) hx hb dJ6_stringSize_0f7a4_17 (by decide) ?_
      refine lv_icmp_ge (tgt := 42) hx hb dJ6_stringSize_0f7a4_19 (by decide) (fun c => ?_) (fun c => ?_)
      · have hD := ifp hD c
        refine lv_bipush (v := (10 : Int32)) hx hb dJ6_stringSize_0f7a4_42 (by decide) ?_
        refine lv_iload_n hx hb dJ6_stringSize_0f7a4_44 rfl (lv_at hl 1 rfl) ?_
        refine lv_iadd hx hb dJ6_stringSize_0f7a4_45 ?_
        cases hD
        exact hret _ _ _ hP hS (fun Qc hq => W.iret hx hb hr hq hS.2.2 dJ6_stringSize_0f7a4_46 hlocks)
      · have hD := ifn hD c
        refine lv_iload_n hx hb dJ6_stringSize_0f7a4_22 rfl (lv_at hl 0 rfl) ?_
        refine lv_iload_n hx hb dJ6_stringSize_0f7a4_23 rfl (lv_at hl 2 rfl) ?_
        refine lv_icmp_le (tgt := 31) hx hb dJ6_stringSize_0f7a4_24 (by decide) (fun c => ?_) (fun c => ?_)
        · have hD := ifp hD c
          refine lv_bipush (v := (10 : Int32)) hx hb dJ6_stringSize_0f7a4_31 (by decide) ?_
          refine lv_iload_n hx hb dJ6_stringSize_0f7a4_33 rfl (lv_at hl 2 rfl) ?_
          refine lv_imul hx hb dJ6_stringSize_0f7a4_34 ?_
          obtain ⟨v1, ev1, hD⟩ := bnd_el hD
          refine lv_nmi ev1 ?_
          refine lv_istore_n (lv' := [(2, .int v1), (0, .int x0), (1, .int x1), (3, .int x3)]) hx hb dJ6_stringSize_0f7a4_35 rfl hl (by decide) rfl (fun ls hl => ?_)
          obtain ⟨v2, ev2, hD⟩ := bnd_el hD
          refine lv_iinc (v := v2) (lv' := [(3, .int v2), (2, .int v1), (0, .int x0), (1, .int x1)]) hx hb dJ6_stringSize_0f7a4_36 hl (k := 3) rfl (by rw [ev2]; rfl) (by decide) rfl (fun ls hl => ?_)
          refine lv_goto (tgt := 16) hx hb dJ6_stringSize_0f7a4_39 (by decide) ?_
          exact ih _ _ _ _ _ _ _ hD hP hS (lv_sub hl [2, 3, 1, 0] rfl)
        · have hD := ifn hD c
          refine lv_iload_n hx hb dJ6_stringSize_0f7a4_27 rfl (lv_at hl 3 rfl) ?_
          refine lv_iload_n hx hb dJ6_stringSize_0f7a4_28 rfl (lv_at hl 1 rfl) ?_
          refine lv_iadd hx hb dJ6_stringSize_0f7a4_29 ?_
          cases hD
          exact hret _ _ _ hP hS (fun Qc hq => W.iret hx hb hr hq hS.2.2 dJ6_stringSize_0f7a4_30 hlocks)
  refine lv_iconst (v := (1 : Int32)) hx hb dJ6_stringSize_0f7a4_0 (by decide) ?_
  refine lv_istore_n (lv' := [(1, .int (1 : Int32)), (0, .int x0)]) hx hb dJ6_stringSize_0f7a4_1 rfl hl (by decide) rfl (fun ls hl => ?_)
  refine lv_iload_n hx hb dJ6_stringSize_0f7a4_2 rfl (lv_at hl 1 rfl) ?_
  refine lv_if_lt (tgt := 11) hx hb dJ6_stringSize_0f7a4_3 (by decide) (fun c => ?_) (fun c => ?_)
  · have hD := ifp hD c
    refine lv_bipush (v := (-10 : Int32)) hx hb dJ6_stringSize_0f7a4_11 (by decide) ?_
    refine lv_istore_n (lv' := [(2, .int (-10 : Int32)), (1, .int (1 : Int32)), (0, .int x0)]) hx hb dJ6_stringSize_0f7a4_13 rfl hl (by decide) rfl (fun ls hl => ?_)
    refine lv_iconst (v := (1 : Int32)) hx hb dJ6_stringSize_0f7a4_14 (by decide) ?_
    refine lv_istore_n (lv' := [(3, .int (1 : Int32)), (2, .int (-10 : Int32)), (1, .int (1 : Int32)), (0, .int x0)]) hx hb dJ6_stringSize_0f7a4_15 rfl hl (by decide) rfl (fun ls hl => ?_)
    exact c_16 FU _ _ _ _ _ _ _ hD hP hS (lv_sub hl [3, 2, 1, 0] rfl)
  · have hD := ifn hD c
    refine lv_iconst (v := (0 : Int32)) hx hb dJ6_stringSize_0f7a4_6 (by decide) ?_
    refine lv_istore_n (lv' := [(1, .int (0 : Int32)), (0, .int x0)]) hx hb dJ6_stringSize_0f7a4_7 rfl hl (by decide) rfl (fun ls hl => ?_)
    refine lv_iload_n hx hb dJ6_stringSize_0f7a4_8 rfl (lv_at hl 1 rfl) ?_
    refine lv_ineg hx hb dJ6_stringSize_0f7a4_9 ?_
    obtain ⟨v3, ev3, hD⟩ := bnd_el hD
    refine lv_nmi ev3 ?_
    refine lv_istore_n (lv' := [(0, .int v3), (1, .int (0 : Int32))]) hx hb dJ6_stringSize_0f7a4_10 rfl hl (by decide) rfl (fun ls hl => ?_)
    refine lv_bipush (v := (-10 : Int32)) hx hb dJ6_stringSize_0f7a4_11 (by decide) ?_
    refine lv_istore_n (lv' := [(2, .int (-10 : Int32)), (0, .int v3), (1, .int (0 : Int32))]) hx hb dJ6_stringSize_0f7a4_13 rfl hl (by decide) rfl (fun ls hl => ?_)
    refine lv_iconst (v := (1 : Int32)) hx hb dJ6_stringSize_0f7a4_14 (by decide) ?_
    refine lv_istore_n (lv' := [(3, .int (1 : Int32)), (2, .int (-10 : Int32)), (0, .int v3), (1, .int (0 : Int32))]) hx hb dJ6_stringSize_0f7a4_15 rfl hl (by decide) rfl (fun ls hl => ?_)
    exact c_16 FU _ _ _ _ _ _ _ hD hP hS (lv_sub hl [2, 3, 1, 0] rfl)
noncomputable def D_J6_getChars_ba4f3_22 (q2 N2 : Nat) : Nat → Int32 → Int32 → Int32 → MM → Option (Int32 × MM)
  | 0, _, _, _, _ => none
  | n + 1, x0, x5, x6, m => if (-100 : Int32) < x0 then (bnd (x5 + (-1 : Int32)) (fun v2 => if (-x0) < 0 ∨ 100 ≤ (-x0).toNatClampNeg then none else (if v2 < 0 ∨ N2 ≤ v2.toNatClampNeg then none else (bnd (si m q2 v2.toNatClampNeg (vp_nar .byte (dgO ((-x0).toNatClampNeg)))) (fun m6 => if (-9 : Int32) ≤ x0 then (if x6 = 0 then (some (v2, m6)) else (bnd (v2 + (-1 : Int32)) (fun v7 => if v7 < 0 ∨ N2 ≤ v7.toNatClampNeg then none else (bnd (si m6 q2 v7.toNatClampNeg (vp_nar .byte (45 : Int32))) (fun m9 => some (v7, m9)))))) else (bnd (v2 + (-1 : Int32)) (fun v10 => if (-x0) < 0 ∨ 100 ≤ (-x0).toNatClampNeg then none else (if v10 < 0 ∨ N2 ≤ v10.toNatClampNeg then none else (bnd (si m6 q2 v10.toNatClampNeg (vp_nar .byte (dgT ((-x0).toNatClampNeg)))) (fun m14 => if x6 = 0 then (some (v10, m14)) else (bnd (v10 + (-1 : Int32)) (fun v15 => if v15 < 0 ∨ N2 ≤ v15.toNatClampNeg then none else (bnd (si m14 q2 v15.toNatClampNeg (vp_nar .byte (45 : Int32))) (fun m17 => some (v15, m17))))))))))))))) else (bnd ((x0 / (100 : Int32))) (fun v18 => bnd (((v18 * (100 : Int32)) - x0)) (fun v19 => bnd (x5 + (-1 : Int32)) (fun v20 => if v19 < 0 ∨ 100 ≤ v19.toNatClampNeg then none else (if v20 < 0 ∨ N2 ≤ v20.toNatClampNeg then none else (bnd (si m q2 v20.toNatClampNeg (vp_nar .byte (dgO v19.toNatClampNeg))) (fun m24 => bnd (v20 + (-1 : Int32)) (fun v25 => if v19 < 0 ∨ 100 ≤ v19.toNatClampNeg then none else (if v25 < 0 ∨ N2 ≤ v25.toNatClampNeg then none else (bnd (si m24 q2 v25.toNatClampNeg (vp_nar .byte (dgT v19.toNatClampNeg))) (fun m29 => D_J6_getChars_ba4f3_22 q2 N2 n v18 v25 x6 m29)))))))))))
noncomputable def D_J6_getChars_ba4f3 (x0 : Int32) (x1 : Int32) (q2 N2 : Nat) (m : MM) : Option (Int32 × MM) := if 0 ≤ x0 then (bnd ((-x0)) (fun v1 => D_J6_getChars_ba4f3_22 q2 N2 FU v1 x1 (0 : Int32) m)) else (D_J6_getChars_ba4f3_22 q2 N2 FU x0 x1 (1 : Int32) m)
set_option maxHeartbeats 4000000 in
set_option maxRecDepth 100000 in
theorem c_J6_getChars_ba4f3 (l : Launch) {D : va_G} {cs : Nat → ClassId} {na : Nat} {ad : Nat → Nat} {sh : Sh} {Wf : MM → va_W} (hL : Ln na ad (sh) Wf) (hAd : ∀ a0_ b0_ : MM, (Wf a0_).map (fun q => q.1) = (Wf b0_).map (fun q => q.1)) (m : MM) (x0 : Int32) (x1 : Int32) (q2 N2 : Nat) (hqa : q2 < na) (hsa : ∀ (r : Nat → Int32) (t : Nat → Int64), sh q2 r t = .inl (cs 0, N2, .inl r)) {rr : Int32} {m' : MM} (hD : D_J6_getChars_ba4f3 x0 x1 q2 N2 m = some (rr, m')) : Ct l yJ6_getChars_ba4f3 cJ6_getChars_ba4f3 7 (some .int) 0 0 D cs [.int x0, .int x1, .ref (ad q2)] (Wf m) (Wf m') (some (.int rr)) := by
  refine Ct.ofW (by decide) (Nat.le_of_ble_eq_true rfl) (hAd _ _) ?_
  intro p e s m0 below meth c A Q ls args hx hb hr hml hlocks hown hts hK hP hD1 hSS hS hA1 hl hret
  have hT : ∀ w ∈ TBL, w.before args s = true := fun w h => hts w (List.mem_cons_of_mem _ h)
  have Fx0 : Fx p l m0 c cJ6_getChars_ba4f3 7 s args yJ6_getChars_ba4f3 cJ6_getChars_ba4f3 7 (some .int) D cs A := ⟨hx, hb, hml, hown, hts, hK, hSS⟩
  have hown : s.vm.findClass RJ6 = some m0.cls := hown
  have hl : lv_has ls 7 [(0, .int x0), (1, .int x1), (2, .ref (ad q2))] := hl
  unfold D_J6_getChars_ba4f3 at hD
  have c_22 : ∀ (n : Nat), ∀ (x0 : Int32) (x5 : Int32) (x6 : Int32) (m : MM) (H : Heap) (locs : List Loc) (ls : Array Slot), D_J6_getChars_ba4f3_22 q2 N2 n x0 x5 x6 m = some (rr, m') → va_P D vwCl (Wf m) H → va_S A s.heap H locs → lv_has ls 7 [(0, .int x0), (2, .ref (ad q2)), (5, .int x5), (6, .int x6)] → W p l e ({ frames := 0, cells := 0, slots := 0, locals := 0 } : Room) s m0 args below meth c H locs 0 0 Q (F0 m0 22 ls []) := by
    intro n
    induction n with
    | zero =>
      intro x0 x5 x6 m H locs ls hD hP hS hl
      exact nn_el hD
    | succ n ih =>
      intro x0 x5 x6 m H locs ls hD hP hS hl
      rw [D_J6_getChars_ba4f3_22] at hD
      refine lv_iload_n hx hb dJ6_getChars_ba4f3_22 rfl (lv_at hl 0 rfl) ?_
      refine lv_bipush (v := (-100 : Int32)) hx hb dJ6_getChars_ba4f3_23 (by decide) ?_
      refine lv_icmp_gt (tgt := 72) hx hb dJ6_getChars_ba4f3_25 (by decide) (fun c => ?_) (fun c => ?_)
      · have hD := ifp hD c
        refine lv_aload_n hx hb dJ6_getChars_ba4f3_72 rfl (lv_at hl 1 rfl) ?_
        obtain ⟨v2, ev2, hD⟩ := bnd_el hD
        refine lv_iinc (v := v2) (lv' := [(5, .int v2), (0, .int x0), (2, .ref (ad q2)), (6, .int x6)]) hx hb dJ6_getChars_ba4f3_73 hl (k := 2) rfl (by rw [ev2]; rfl) (by decide) rfl (fun ls hl => ?_)
        refine lv_iload hx hb dJ6_getChars_ba4f3_76 (lv_at hl 0 rfl) ?_
        obtain ⟨t3, hzt3, htt3⟩ := hSS.2.2.2.2.2.2.2.2.2.1
        refine va_gets hx hb hzt3 hS hown (Fx0.T tw_4_178) (fun _ h9 => h9) dJ6_getChars_ba4f3_78 ?_
        refine lv_iload_n hx hb dJ6_getChars_ba4f3_81 rfl (lv_at hl 1 rfl) ?_
        refine lv_ineg hx hb dJ6_getChars_ba4f3_82 ?_
        obtain ⟨h4, hD⟩ := gd_el hD
        refine rtbT hx hb htt3 hS h4 rfl dJ6_getChars_ba4f3_83 ?_
        obtain ⟨h5, hD⟩ := gd_el hD
        obtain ⟨m6, em6, hD⟩ := bnd_el hD
        refine rbast  hx hb hK hP (hD1 _ (hAd _ _)) hS hL q2 hqa (fun _ => hsa _ _) h5 rfl dJ6_getChars_ba4f3_84 em6 (fun H locs hP hS => ?_)
        refine lv_iload_n hx hb dJ6_getChars_ba4f3_85 rfl (lv_at hl 1 rfl) ?_
        refine lv_bipush (v := (-9 : Int32)) hx hb dJ6_getChars_ba4f3_86 (by decide) ?_
        refine lv_icmp_ge (tgt := 104) hx hb dJ6_getChars_ba4f3_88 (by decide) (fun c => ?_) (fun c => ?_)
        · have hD := ifp hD c
          refine lv_iload hx hb dJ6_getChars_ba4f3_104 (lv_at hl 3 rfl) ?_
          refine lv_if_eq (tgt := 118) hx hb dJ6_getChars_ba4f3_106 (by decide) (fun c => ?_) (fun c => ?_)
          · have hD := ifp hD c
            refine lv_iload hx hb dJ6_getChars_ba4f3_118 (lv_at hl 0 rfl) ?_
            cases hD
            exact hret _ _ _ hP hS (fun Qc hq => W.iret hx hb hr hq hS.2.2 dJ6_getChars_ba4f3_120 hlocks)
          · have hD := ifn hD c
            refine lv_aload_n hx hb dJ6_getChars_ba4f3_109 rfl (lv_at hl 2 rfl) ?_
            obtain ⟨v7, ev7, hD⟩ := bnd_el hD
            refine lv_iinc (v := v7) (lv' := [(5, .int v7), (0, .int x0), (2, .ref (ad q2)), (6, .int x6)]) hx hb dJ6_getChars_ba4f3_110 hl (k := 0) rfl (by rw [ev7]; rfl) (by decide) rfl (fun ls hl => ?_)
            refine lv_iload hx hb dJ6_getChars_ba4f3_113 (lv_at hl 0 rfl) ?_
            refine lv_bipush (v := (45 : Int32)) hx hb dJ6_getChars_ba4f3_115 (by decide) ?_
            obtain ⟨h8, hD⟩ := gd_el hD
            obtain ⟨m9, em9, hD⟩ := bnd_el hD
            refine rbast  hx hb hK hP (hD1 _ (hAd _ _)) hS hL q2 hqa (fun _ => hsa _ _) h8 rfl dJ6_getChars_ba4f3_117 em9 (fun H locs hP hS => ?_)
            refine lv_iload hx hb dJ6_getChars_ba4f3_118 (lv_at hl 0 rfl) ?_
            cases hD
            exact hret _ _ _ hP hS (fun Qc hq => W.iret hx hb hr hq hS.2.2 dJ6_getChars_ba4f3_120 hlocks)
        · have hD := ifn hD c
          refine lv_aload_n hx hb dJ6_getChars_ba4f3_91 rfl (lv_at hl 2 rfl) ?_
          obtain ⟨v10, ev10, hD⟩ := bnd_el hD
          refine lv_iinc (v := v10) (lv' := [(5, .int v10), (0, .int x0), (2, .ref (ad q2)), (6, .int x6)]) hx hb dJ6_getChars_ba4f3_92 hl (k := 0) rfl (by rw [ev10]; rfl) (by decide) rfl (fun ls hl => ?_)
          refine lv_iload hx hb dJ6_getChars_ba4f3_95 (lv_at hl 0 rfl) ?_
          obtain ⟨t11, hzt11, htt11⟩ := hSS.2.2.2.2.2.2.2.2.2.2.1
          refine va_gets hx hb hzt11 hS hown (Fx0.T tw_4_180) (fun _ h9 => h9) dJ6_getChars_ba4f3_97 ?_
          refine lv_iload_n hx hb dJ6_getChars_ba4f3_100 rfl (lv_at hl 1 rfl) ?_
          refine lv_ineg hx hb dJ6_getChars_ba4f3_101 ?_
          obtain ⟨h12, hD⟩ := gd_el hD
          refine rtbT hx hb htt11 hS h12 rfl dJ6_getChars_ba4f3_102 ?_
          obtain ⟨h13, hD⟩ := gd_el hD
          obtain ⟨m14, em14, hD⟩ := bnd_el hD
          refine rbast  hx hb hK hP (hD1 _ (hAd _ _)) hS hL q2 hqa (fun _ => hsa _ _) h13 rfl dJ6_getChars_ba4f3_103 em14 (fun H locs hP hS => ?_)
          refine lv_iload hx hb dJ6_getChars_ba4f3_104 (lv_at hl 3 rfl) ?_
          refine lv_if_eq (tgt := 118) hx hb dJ6_getChars_ba4f3_106 (by decide) (fun c => ?_) (fun c => ?_)
          · have hD := ifp hD c
            refine lv_iload hx hb dJ6_getChars_ba4f3_118 (lv_at hl 0 rfl) ?_
            cases hD
            exact hret _ _ _ hP hS (fun Qc hq => W.iret hx hb hr hq hS.2.2 dJ6_getChars_ba4f3_120 hlocks)
          · have hD := ifn hD c
            refine lv_aload_n hx hb dJ6_getChars_ba4f3_109 rfl (lv_at hl 2 rfl) ?_
            obtain ⟨v15, ev15, hD⟩ := bnd_el hD
            refine lv_iinc (v := v15) (lv' := [(5, .int v15), (0, .int x0), (2, .ref (ad q2)), (6, .int x6)]) hx hb dJ6_getChars_ba4f3_110 hl (k := 0) rfl (by rw [ev15]; rfl) (by decide) rfl (fun ls hl => ?_)
            refine lv_iload hx hb dJ6_getChars_ba4f3_113 (lv_at hl 0 rfl) ?_
            refine lv_bipush (v := (45 : Int32)) hx hb dJ6_getChars_ba4f3_115 (by decide) ?_
            obtain ⟨h16, hD⟩ := gd_el hD
            obtain ⟨m17, em17, hD⟩ := bnd_el hD
            refine rbast  hx hb hK hP (hD1 _ (hAd _ _)) hS hL q2 hqa (fun _ => hsa _ _) h16 rfl dJ6_getChars_ba4f3_117 em17 (fun H locs hP hS => ?_)
            refine lv_iload hx hb dJ6_getChars_ba4f3_118 (lv_at hl 0 rfl) ?_
            cases hD
            exact hret _ _ _ hP hS (fun Qc hq => W.iret hx hb hr hq hS.2.2 dJ6_getChars_ba4f3_120 hlocks)
      · have hD := ifn hD c
        refine lv_iload_n hx hb dJ6_getChars_ba4f3_28 rfl (lv_at hl 0 rfl) ?_
        refine lv_bipush (v := (100 : Int32)) hx hb dJ6_getChars_ba4f3_29 (by decide) ?_
        refine lv_idiv hx hb dJ6_getChars_ba4f3_31 (by decide) ?_
        obtain ⟨v18, ev18, hD⟩ := bnd_el hD
        refine lv_nmi ev18 ?_
        refine lv_istore_n (lv' := [(3, .int v18), (0, .int x0), (2, .ref (ad q2)), (5, .int x5), (6, .int x6)]) hx hb dJ6_getChars_ba4f3_32 rfl hl (by decide) rfl (fun ls hl => ?_)
        refine lv_iload_n hx hb dJ6_getChars_ba4f3_33 rfl (lv_at hl 0 rfl) ?_
        refine lv_bipush (v := (100 : Int32)) hx hb dJ6_getChars_ba4f3_34 (by decide) ?_
        refine lv_imul hx hb dJ6_getChars_ba4f3_36 ?_
        refine lv_iload_n hx hb dJ6_getChars_ba4f3_37 rfl (lv_at hl 1 rfl) ?_
        refine lv_isub hx hb dJ6_getChars_ba4f3_38 ?_
        obtain ⟨v19, ev19, hD⟩ := bnd_el hD
        refine lv_nmi ev19 ?_
        refine lv_istore (lv' := [(4, .int v19), (3, .int v18), (0, .int x0), (2, .ref (ad q2)), (5, .int x5), (6, .int x6)]) hx hb dJ6_getChars_ba4f3_39 hl (by decide) rfl (fun ls hl => ?_)
        refine lv_iload_n hx hb dJ6_getChars_ba4f3_41 rfl (lv_at hl 1 rfl) ?_
        refine lv_istore_n (lv' := [(0, .int v18), (4, .int v19), (3, .int v18), (2, .ref (ad q2)), (5, .int x5), (6, .int x6)]) hx hb dJ6_getChars_ba4f3_42 rfl hl (by decide) rfl (fun ls hl => ?_)
        refine lv_aload_n hx hb dJ6_getChars_ba4f3_43 rfl (lv_at hl 3 rfl) ?_
        obtain ⟨v20, ev20, hD⟩ := bnd_el hD
        refine lv_iinc (v := v20) (lv' := [(5, .int v20), (0, .int v18), (4, .int v19), (3, .int v18), (2, .ref (ad q2)), (6, .int x6)]) hx hb dJ6_getChars_ba4f3_44 hl (k := 4) rfl (by rw [ev20]; rfl) (by decide) rfl (fun ls hl => ?_)
        refine lv_iload hx hb dJ6_getChars_ba4f3_47 (lv_at hl 0 rfl) ?_
        obtain ⟨t21, hzt21, htt21⟩ := hSS.2.2.2.2.2.2.2.2.2.1
        refine va_gets hx hb hzt21 hS hown (Fx0.T tw_4_178) (fun _ h9 => h9) dJ6_getChars_ba4f3_49 ?_
        refine lv_iload hx hb dJ6_getChars_ba4f3_52 (lv_at hl 2 rfl) ?_
        obtain ⟨h22, hD⟩ := gd_el hD
        refine rtbT hx hb htt21 hS h22 rfl dJ6_getChars_ba4f3_54 ?_
        obtain ⟨h23, hD⟩ := gd_el hD
        obtain ⟨m24, em24, hD⟩ := bnd_el hD
        refine rbast  hx hb hK hP (hD1 _ (hAd _ _)) hS hL q2 hqa (fun _ => hsa _ _) h23 rfl dJ6_getChars_ba4f3_55 em24 (fun H locs hP hS => ?_)
        refine lv_aload_n hx hb dJ6_getChars_ba4f3_56 rfl (lv_at hl 4 rfl) ?_
        obtain ⟨v25, ev25, hD⟩ := bnd_el hD
        refine lv_iinc (v := v25) (lv' := [(5, .int v25), (0, .int v18), (4, .int v19), (3, .int v18), (2, .ref (ad q2)), (6, .int x6)]) hx hb dJ6_getChars_ba4f3_57 hl (k := 0) rfl (by rw [ev25]; rfl) (by decide) rfl (fun ls hl => ?_)
        refine lv_iload hx hb dJ6_getChars_ba4f3_60 (lv_at hl 0 rfl) ?_
        obtain ⟨t26, hzt26, htt26⟩ := hSS.2.2.2.2.2.2.2.2.2.2.1
        refine va_gets hx hb hzt26 hS hown (Fx0.T tw_4_180) (fun _ h9 => h9) dJ6_getChars_ba4f3_62 ?_
        refine lv_iload hx hb dJ6_getChars_ba4f3_65 (lv_at hl 2 rfl) ?_
        obtain ⟨h27, hD⟩ := gd_el hD
        refine rtbT hx hb htt26 hS h27 rfl dJ6_getChars_ba4f3_67 ?_
        obtain ⟨h28, hD⟩ := gd_el hD
        obtain ⟨m29, em29, hD⟩ := bnd_el hD
        refine rbast  hx hb hK hP (hD1 _ (hAd _ _)) hS hL q2 hqa (fun _ => hsa _ _) h28 rfl dJ6_getChars_ba4f3_68 em29 (fun H locs hP hS => ?_)
        refine lv_goto (tgt := 22) hx hb dJ6_getChars_ba4f3_69 (by decide) ?_
        exact ih _ _ _ _ _ _ _ hD hP hS (lv_sub hl [1, 4, 0, 5] rfl)
  refine lv_iload_n hx hb dJ6_getChars_ba4f3_0 rfl (lv_at hl 1 rfl) ?_
  refine lv_istore (lv' := [(5, .int x1), (0, .int x0), (1, .int x1), (2, .ref (ad q2))]) hx hb dJ6_getChars_ba4f3_1 hl (by decide) rfl (fun ls hl => ?_)
  refine lv_iload_n hx hb dJ6_getChars_ba4f3_3 rfl (lv_at hl 1 rfl) ?_
  refine lv_if_ge (tgt := 11) hx hb dJ6_getChars_ba4f3_4 (by decide) (fun c => ?_) (fun c => ?_)
  · have hD := ifp hD c
    refine lv_iconst (v := (0 : Int32)) hx hb dJ6_getChars_ba4f3_11 (by decide) ?_
    refine lv_istore (lv' := [(6, .int (0 : Int32)), (5, .int x1), (0, .int x0), (1, .int x1), (2, .ref (ad q2))]) hx hb dJ6_getChars_ba4f3_12 hl (by decide) rfl (fun ls hl => ?_)
    refine lv_iload hx hb dJ6_getChars_ba4f3_14 (lv_at hl 0 rfl) ?_
    refine lv_if_ne (tgt := 22) hx hb dJ6_getChars_ba4f3_16 (by decide) (fun c => absurd c (by decide)) (fun _ => ?_)
    refine lv_iload_n hx hb dJ6_getChars_ba4f3_19 rfl (lv_at hl 2 rfl) ?_
    refine lv_ineg hx hb dJ6_getChars_ba4f3_20 ?_
    obtain ⟨v1, ev1, hD⟩ := bnd_el hD
    refine lv_nmi ev1 ?_
    refine lv_istore_n (lv' := [(0, .int v1), (6, .int (0 : Int32)), (5, .int x1), (1, .int x1), (2, .ref (ad q2))]) hx hb dJ6_getChars_ba4f3_21 rfl hl (by decide) rfl (fun ls hl => ?_)
    exact c_22 FU _ _ _ _ _ _ _ hD hP hS (lv_sub hl [0, 4, 2, 1] rfl)
  · have hD := ifn hD c
    refine lv_iconst (v := (1 : Int32)) hx hb dJ6_getChars_ba4f3_7 (by decide) ?_
    refine lv_goto (tgt := 12) hx hb dJ6_getChars_ba4f3_8 (by decide) ?_
    refine lv_istore (lv' := [(6, .int (1 : Int32)), (5, .int x1), (0, .int x0), (1, .int x1), (2, .ref (ad q2))]) hx hb dJ6_getChars_ba4f3_12 hl (by decide) rfl (fun ls hl => ?_)
    refine lv_iload hx hb dJ6_getChars_ba4f3_14 (lv_at hl 0 rfl) ?_
    refine lv_if_ne (tgt := 22) hx hb dJ6_getChars_ba4f3_16 (by decide) (fun _ => ?_) (fun c => absurd c (by decide))
    exact c_22 FU _ _ _ _ _ _ _ hD hP hS (lv_sub hl [2, 4, 1, 0] rfl)
