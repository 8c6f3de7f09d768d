/-! addsUp: two walks -/
def ash (cs : Nat → ClassId) : Sh := fun _ r _ => .inl (cs 1, 2, .inl r)
theorem as0 {cs : Nat → ClassId} (r : Nat → Int32) (t : Nat → Int64) : ash cs 0 r t = .inl (cs 1, 2, .inl r) := rfl
noncomputable def D_addsA_6 (h : MM) (m : MM) : Nat → Int32 → Int32 → Int32 → Option (Int32 × Int32)
  | 0, _, _, _ => none
  | n + 1, x1, x2, x3 => if (6 : Int32) < x3 then (some (x1, x2)) else (b1 (lr (D_X9_timeOf x3 h m)) (fun v1 => bnd ((x1 + v1)) (fun v3 => b1 (lr (D_X9_done x3 h m)) (fun v4 => bnd ((x2 + v4)) (fun v6 => bnd (x3 + (1 : Int32)) (fun v7 => D_addsA_6 h m n v3 v6 v7))))))
noncomputable def D_addsA (h : MM) (m : MM) : Option (Int32 × Int32) := D_addsA_6 h m FU (0 : Int32) (0 : Int32) (1 : Int32)
set_option maxHeartbeats 4000000 in
set_option maxRecDepth 100000 in
theorem w_addsA (l : Launch) {RR : Room} (hRf : 8 ≤ RR.frames) (hRl : 125 ≤ RR.locals) {p : Program} {e : Env} {s : State} {m0 : MethodId} {args : Array Value} {below : List Frame} {meth : Method} {c : Code} {D : va_G} {cs : Nat → ClassId} {A : Nat → Prop} {Q : State → Prop} {adh ad ma : Nat → Nat} {Wf : MM → MM → va_W} (hLh : ∀ m : MM, Ln 8 adh (hsh cs adh ma) (fun z => Wf z m)) (hL : ∀ h : MM, Ln 51 ad (msh cs ad) (fun z => Wf h z)) (hAd : ∀ a0_ b0_ a1_ b1_ : MM, (Wf a0_ a1_).map (fun q => q.1) = (Wf b0_ b1_).map (fun q => q.1)) (hm1 : ma 1 = ad 24) (h : MM) (m : MM) (Fx0 : Fl p m0 c cL_addsUp 8 s args RL D cs A) (hD1 : ∀ w1 : va_W, w1.map (fun q => q.1) = (Wf h m).map (fun q => q.1) → va_D A w1) (hA1 : ∀ (w1 : va_W) (z : Nat), w1.map (fun q => q.1) = (Wf h m).map (fun q => q.1) → s.heap.size ≤ z → ∀ q : Nat, va_A w1 z q → A q) {cells slots : Nat} (hc9 : cells ≤ RR.cells ∧ slots ≤ RR.slots) {x1' x2' : Int32} (hD : D_addsA h m = some (x1', x2')) (hk : ∀ (H : Heap) (locs : List Loc) (ls : Array Slot), va_P D vwCl (Wf h m) H → va_S A s.heap H locs → lv_has ls 8 [(0, .ref (adh 0)), (1, .int x1'), (2, .int x2')] → W p l e RR s m0 args below meth c H locs cells slots Q (F0 m0 34 ls [])) (H : Heap) (locs : List Loc) (ls : Array Slot) (hP : va_P D vwCl (Wf h m) H) (hS : va_S A s.heap H locs) (hl : lv_has ls 8 [(0, .ref (adh 0))]) : W p l e RR s m0 args below meth c H locs cells slots Q (F0 m0 0 ls []) := by
  obtain ⟨hx, hb, hml, hown, hT, hK, hSS⟩ := id Fx0
  unfold D_addsA at hD
  have c_6 : ∀ (n : Nat), ∀ (x1 : Int32) (x2 : Int32) (x3 : Int32) (H : Heap) (locs : List Loc) (ls : Array Slot), D_addsA_6 h m n x1 x2 x3 = some (x1', x2') → va_P D vwCl (Wf h m) H → va_S A s.heap H locs → lv_has ls 8 [(0, .ref (adh 0)), (1, .int x1), (2, .int x2), (3, .int x3)] → W p l e RR s m0 args below meth c H locs cells slots Q (F0 m0 6 ls []) := by
    intro n
    induction n with
    | zero =>
      intro x1 x2 x3 H locs ls hD hP hS hl
      exact nn_el hD
    | succ n ih =>
      intro x1 x2 x3 H locs ls hD hP hS hl
      rw [D_addsA_6] at hD
      refine lv_iload_n hx hb dL_addsUp_6 rfl (lv_at hl 3 rfl) ?_
      refine lv_bipush (v := (6 : Int32)) hx hb dL_addsUp_7 (by decide) ?_
      refine lv_icmp_gt (tgt := 34) hx hb dL_addsUp_9 (by decide) (fun c => ?_) (fun c => ?_)
      · have hD := ifp hD c
        obtain ⟨rfl, rfl⟩ := es2 hD
        exact hk _ _ _ hP hS (lv_sub hl [0, 1, 2] rfl)
      · have hD := ifn hD c
        refine lv_iload_n hx hb dL_addsUp_12 rfl (lv_at hl 1 rfl) ?_
        refine lv_aload_n hx hb dL_addsUp_13 rfl (lv_at hl 0 rfl) ?_
        refine lv_iload_n hx hb dL_addsUp_14 rfl (lv_at hl 3 rfl) ?_
        obtain ⟨v1, z20, hD⟩ := b1_el hD
        have z2 := lr_el z20
        refine lrV (Wf := fun z => Wf z m) (mm := h) (As := [.int x3]) (rest := [.int x1]) Fx0 (c_X9_timeOf l (Wf := fun z0_ z1_ => Wf z0_ z1_) (fun z1_ => hLh z1_) (fun z0_ => hL z0_) (fun a0_ b0_ a1_ b1_ => hAd a0_ b0_ a1_ b1_) hm1 h m x3 z2) hP (hD1 _ (hAd _ _ _ _)) hS (hA1 _ _ (hAd _ _ _ _) hS.1) (hLh m) (Nat.le_of_ble_eq_true rfl) (hs0 _ _) rfl tw_6_87 tw_6_84 tw_6_85 tw_6_86 tw_1_1 yd_X9_timeOf ⟨Nat.le_trans (Nat.le_of_ble_eq_true rfl) hRf, Nat.le_trans (Nat.le_of_ble_eq_true rfl) hRl⟩ hc9 rfl hl.1 rfl (Nat.le_of_ble_eq_true rfl) dL_addsUp_15 (fun H locs hP hS => ?_)
        refine lv_iadd hx hb dL_addsUp_18 ?_
        obtain ⟨v3, ev3, hD⟩ := bnd_el hD
        refine lv_nmi ev3 ?_
        refine lv_istore_n (lv' := [(1, .int v3), (0, .ref (adh 0)), (2, .int x2), (3, .int x3)]) hx hb dL_addsUp_19 rfl hl (by decide) rfl (fun ls hl => ?_)
        refine lv_iload_n hx hb dL_addsUp_20 rfl (lv_at hl 2 rfl) ?_
        refine lv_aload_n hx hb dL_addsUp_21 rfl (lv_at hl 1 rfl) ?_
        refine lv_iload_n hx hb dL_addsUp_22 rfl (lv_at hl 3 rfl) ?_
        obtain ⟨v4, z50, hD⟩ := b1_el hD
        have z5 := lr_el z50
        refine lrV (Wf := fun z => Wf z m) (mm := h) (As := [.int x3]) (rest := [.int x2]) Fx0 (c_X9_done l (Wf := fun z0_ z1_ => Wf z0_ z1_) (fun z1_ => hLh z1_) (fun z0_ => hL z0_) (fun a0_ b0_ a1_ b1_ => hAd a0_ b0_ a1_ b1_) hm1 h m x3 z5) hP (hD1 _ (hAd _ _ _ _)) hS (hA1 _ _ (hAd _ _ _ _) hS.1) (hLh m) (Nat.le_of_ble_eq_true rfl) (hs0 _ _) rfl tw_6_91 tw_6_88 tw_6_89 tw_6_90 tw_1_1 yd_X9_done ⟨Nat.le_trans (Nat.le_of_ble_eq_true rfl) hRf, Nat.le_trans (Nat.le_of_ble_eq_true rfl) hRl⟩ hc9 rfl hl.1 rfl (Nat.le_of_ble_eq_true rfl) dL_addsUp_23 (fun H locs hP hS => ?_)
        refine lv_iadd hx hb dL_addsUp_26 ?_
        obtain ⟨v6, ev6, hD⟩ := bnd_el hD
        refine lv_nmi ev6 ?_
        refine lv_istore_n (lv' := [(2, .int v6), (1, .int v3), (0, .ref (adh 0)), (3, .int x3)]) hx hb dL_addsUp_27 rfl hl (by decide) rfl (fun ls hl => ?_)
        obtain ⟨v7, ev7, hD⟩ := bnd_el hD
        refine lv_iinc (v := v7) (lv' := [(3, .int v7), (2, .int v6), (1, .int v3), (0, .ref (adh 0))]) hx hb dL_addsUp_28 hl (k := 3) rfl (by rw [ev7]; rfl) (by decide) rfl (fun ls hl => ?_)
        refine lv_goto (tgt := 6) hx hb dL_addsUp_31 (by decide) ?_
        exact ih _ _ _ _ _ _ hD hP hS (lv_sub hl [3, 2, 1, 0] rfl)
  refine lv_iconst (v := (0 : Int32)) hx hb dL_addsUp_0 (by decide) ?_
  refine lv_istore_n (lv' := [(1, .int (0 : Int32)), (0, .ref (adh 0))]) hx hb dL_addsUp_1 rfl hl (by decide) rfl (fun ls hl => ?_)
  refine lv_iconst (v := (0 : Int32)) hx hb dL_addsUp_2 (by decide) ?_
  refine lv_istore_n (lv' := [(2, .int (0 : Int32)), (1, .int (0 : Int32)), (0, .ref (adh 0))]) hx hb dL_addsUp_3 rfl hl (by decide) rfl (fun ls hl => ?_)
  refine lv_iconst (v := (1 : Int32)) hx hb dL_addsUp_4 (by decide) ?_
  refine lv_istore_n (lv' := [(3, .int (1 : Int32)), (2, .int (0 : Int32)), (1, .int (0 : Int32)), (0, .ref (adh 0))]) hx hb dL_addsUp_5 rfl hl (by decide) rfl (fun ls hl => ?_)
  exact c_6 FU _ _ _ _ _ _ hD hP hS (lv_sub hl [3, 2, 1, 0] rfl)
noncomputable def D_addsB_180 (h : MM) (m : MM) : Nat → Int32 → Int32 → Int32 → Int32 → Int32 → Int32 → MM → Option (Int32 × MM)
  | 0, _, _, _, _, _, _, _ => none
  | n + 1, x1, x2, x4, x5, x6, x7, u => if (3 : Int32) ≤ x7 then (b1 (D_X9_now h m) (fun v3 => if x1 = v3 then (b1 (D_X9_logSize h m) (fun v5 => bnd (if x2 < (40 : Int32) then x2 else (40 : Int32)) (fun v7 => if v5 = v7 then (b1 (lr (D_X9_freeNozzles (0 : Int32) h m)) (fun v8 => if (gi u 0 0) = v8 then (b1 (lr (D_X9_freeNozzles (1 : Int32) h m)) (fun v10 => if (gi u 0 1) = v10 then (b1 (lr (D_X9_done (1 : Int32) h m)) (fun v12 => if x4 = v12 then (if x5 = x6 then (b1 (D_X9_isBalanced h m) (fun v14 => if v14 = 0 then (some ((0 : Int32), u)) else (some ((1 : Int32), u)))) else (some ((0 : Int32), u))) else (some ((0 : Int32), u)))) else (some ((0 : Int32), u)))) else (some ((0 : Int32), u)))) else (some ((0 : Int32), u))))) else (some ((0 : Int32), u)))) else (b1 (lr (D_X9_ledger x7 (2 : Int32) h m)) (fun v16 => bnd ((x6 + v16)) (fun v18 => bnd (x7 + (1 : Int32)) (fun v19 => D_addsB_180 h m n x1 x2 x4 x5 v18 v19 u))))
noncomputable def D_addsB_145 (h : MM) (m : MM) (k55 : Int32 → Int32 → Int32 → Int32 → Int32 → MM → Option (Int32 × MM)) (x1 : Int32) (x2 : Int32) (x4 : Int32) (x5 : Int32) (x6 : Int32) (u : MM) : Option (Int32 × MM) := b1 (lr (D_X9_spindleValue x6 (2 : Int32) h m)) (fun v30 => if v30 = (1 : Int32) then (b1 (lr (D_X9_spindleValue x6 (1 : Int32) h m)) (fun v33 => if 0 ≤ v33 then (bnd (x6 + (1 : Int32)) (fun v35 => k55 x1 x2 x4 x5 v35 u)) else (some ((0 : Int32), u)))) else (bnd (x6 + (1 : Int32)) (fun v32 => k55 x1 x2 x4 x5 v32 u)))
noncomputable def D_addsB_116 (h : MM) (m : MM) (k55 : Int32 → Int32 → Int32 → Int32 → Int32 → MM → Option (Int32 × MM)) (x1 : Int32) (x2 : Int32) (x4 : Int32) (x6 : Int32) (x7 : Int32) (xt0 : Int32) (xt1 : Int32) (u : MM) : Option (Int32 × MM) := bnd ((xt1 + xt0)) (fun v27 => b1 (lr (D_X9_spindleValue x6 (1 : Int32) h m)) (fun v28 => if v28 < 0 then (D_addsB_145 h m k55 x1 x2 x4 v27 x6 u) else (b1 (lr (D_X9_spindleValue x6 (1 : Int32) h m)) (fun v36 => b1 (lr (D_X9_nozzleFor v36 h m)) (fun v38 => if v38 = x7 then (D_addsB_145 h m k55 x1 x2 x4 v27 x6 u) else (some ((0 : Int32), u)))))))
noncomputable def D_addsB_87 (h : MM) (m : MM) (k55 : Int32 → Int32 → Int32 → Int32 → Int32 → MM → Option (Int32 × MM)) (x1 : Int32) (x2 : Int32) (x4 : Int32) (x5 : Int32) (x6 : Int32) (x7 : Int32) (u : MM) : Option (Int32 × MM) := b1 (lr (D_X9_spindleValue x6 (5 : Int32) h m)) (fun v22 => bnd ((x4 + v22)) (fun v24 => b1 (lr (D_X9_spindleValue x6 (1 : Int32) h m)) (fun v25 => if v25 < 0 then (D_addsB_116 h m k55 x1 x2 v24 x6 x7 (0 : Int32) x5 u) else (D_addsB_116 h m k55 x1 x2 v24 x6 x7 (1 : Int32) x5 u))))
noncomputable def D_addsB_55 (h : MM) (m : MM) : Nat → Int32 → Int32 → Int32 → Int32 → Int32 → MM → Option (Int32 × MM)
  | 0, _, _, _, _, _, _ => none
  | n + 1, x1, x2, x4, x5, x6, u => b1 (lr (D_X9_count (0 : Int32) h m)) (fun v1 => if v1 ≤ x6 then (D_addsB_180 h m FU x1 x2 x4 x5 (0 : Int32) (0 : Int32) u) else (b1 (lr (D_X9_spindleValue x6 (0 : Int32) h m)) (fun v20 => if v20 < 0 then (D_addsB_87 h m (D_addsB_55 h m n) x1 x2 x4 x5 x6 v20 u) else (if v20 < 0 ∨ 2 ≤ v20.toNatClampNeg then none else (if v20 < 0 ∨ 2 ≤ v20.toNatClampNeg then none else (bnd (si u 0 v20.toNatClampNeg ((gi u 0 v20.toNatClampNeg) - (1 : Int32))) (fun m42 => D_addsB_87 h m (D_addsB_55 h m n) x1 x2 x4 x5 x6 v20 m42)))))))
noncomputable def D_addsB (x1 : Int32) (x2 : Int32) (h : MM) (m : MM) (u : MM) : Option (Int32 × MM) := D_addsB_55 h m FU x1 x2 (0 : Int32) (0 : Int32) (0 : Int32) u
set_option maxHeartbeats 4000000 in
set_option maxRecDepth 100000 in
theorem w_addsB (l : Launch) {RR : Room} (hRf : 8 ≤ RR.frames) (hRl : 126 ≤ RR.locals) {p : Program} {e : Env} {s : State} {m0 : MethodId} {args : Array Value} {below : List Frame} {meth : Method} {c : Code} {D : va_G} {cs : Nat → ClassId} {A : Nat → Prop} {Q : State → Prop} {adh ad adu ma : Nat → Nat} {Wf : MM → MM → MM → va_W} (hLh : ∀ m u : MM, Ln 8 adh (hsh cs adh ma) (fun z => Wf z m u)) (hL : ∀ h u : MM, Ln 51 ad (msh cs ad) (fun z => Wf h z u)) (hLu : ∀ h m : MM, Ln 1 adu (ash cs) (fun z => Wf h m z)) (hAd : ∀ a0_ b0_ a1_ b1_ a2_ b2_ : MM, (Wf a0_ a1_ a2_).map (fun q => q.1) = (Wf b0_ b1_ b2_).map (fun q => q.1)) (hm1 : ma 1 = ad 24) (x1 : Int32) (x2 : Int32) (h : MM) (m : MM) (u : MM) (Fx0 : Fl p m0 c cL_addsUp 8 s args RL D cs A) (hD1 : ∀ w1 : va_W, w1.map (fun q => q.1) = (Wf h m u).map (fun q => q.1) → va_D A w1) (hA1 : ∀ (w1 : va_W) (z : Nat), w1.map (fun q => q.1) = (Wf h m u).map (fun q => q.1) → s.heap.size ≤ z → ∀ q : Nat, va_A w1 z q → A q) {cells slots : Nat} (hc9 : cells ≤ RR.cells ∧ slots ≤ RR.slots) {rr : Int32} {u' : MM} (hD : D_addsB x1 x2 h m u = some (rr, u')) (hk : ∀ (pc : Nat) (H : Heap) (locs : List Loc) (ls : Array Slot), decode cL_addsUp pc = .ok (.ireturn, 1) → va_P D vwCl (Wf h m u') H → va_S A s.heap H locs → W p l e RR s m0 args below meth c H locs cells slots Q (F0 m0 pc ls [.int rr])) (H : Heap) (locs : List Loc) (ls : Array Slot) (hP : va_P D vwCl (Wf h m u) H) (hS : va_S A s.heap H locs) (hl : lv_has ls 8 [(0, .ref (adh 0)), (1, .int x1), (2, .int x2), (3, .ref (adu 0))]) : W p l e RR s m0 args below meth c H locs cells slots Q (F0 m0 46 ls []) := by
  obtain ⟨hx, hb, hml, hown, hT, hK, hSS⟩ := id Fx0
  unfold D_addsB at hD
  have c_180 : ∀ (n : Nat), ∀ (x1 : Int32) (x2 : Int32) (x4 : Int32) (x5 : Int32) (x6 : Int32) (x7 : Int32) (u : MM) (H : Heap) (locs : List Loc) (ls : Array Slot), D_addsB_180 h m n x1 x2 x4 x5 x6 x7 u = some (rr, u') → va_P D vwCl (Wf h m u) H → va_S A s.heap H locs → lv_has ls 8 [(0, .ref (adh 0)), (1, .int x1), (2, .int x2), (3, .ref (adu 0)), (4, .int x4), (5, .int x5), (6, .int x6), (7, .int x7)] → W p l e RR s m0 args below meth c H locs cells slots Q (F0 m0 180 ls []) := by
    intro n
    induction n with
    | zero =>
      intro x1 x2 x4 x5 x6 x7 u H locs ls hD hP hS hl
      exact nn_el hD
    | succ n ih =>
      intro x1 x2 x4 x5 x6 x7 u H locs ls hD hP hS hl
      rw [D_addsB_180] at hD
      refine lv_iload hx hb dL_addsUp_180 (lv_at hl 7 rfl) ?_
      refine lv_iconst (v := (3 : Int32)) hx hb dL_addsUp_182 (by decide) ?_
      refine lv_icmp_ge (tgt := 204) hx hb dL_addsUp_183 (by decide) (fun c => ?_) (fun c => ?_)
      · have hD := ifp hD c
        refine lv_iload_n hx hb dL_addsUp_204 rfl (lv_at hl 1 rfl) ?_
        refine lv_aload_n hx hb dL_addsUp_205 rfl (lv_at hl 0 rfl) ?_
        obtain ⟨v3, z4, hD⟩ := b1_el hD
        refine lrV (Wf := fun z => Wf z m u) (mm := h) (As := []) (rest := [.int x1]) Fx0 (c_X9_now l (Wf := fun z0_ z1_ => Wf z0_ z1_ u) (fun z1_ => hLh z1_ u) (fun z0_ => hL z0_ u) (fun a0_ b0_ a1_ b1_ => hAd a0_ b0_ a1_ b1_ u u) hm1 h m z4) hP (hD1 _ (hAd _ _ _ _ _ _)) hS (hA1 _ _ (hAd _ _ _ _ _ _) hS.1) (hLh m u) (Nat.le_of_ble_eq_true rfl) (hs0 _ _) rfl tw_3_56 tw_3_53 tw_3_54 tw_3_55 tw_1_1 yd_X9_now ⟨Nat.le_trans (Nat.le_of_ble_eq_true rfl) hRf, Nat.le_trans (Nat.le_of_ble_eq_true rfl) hRl⟩ hc9 rfl hl.1 rfl (Nat.le_of_ble_eq_true rfl) dL_addsUp_206 (fun H locs hP hS => ?_)
        refine lv_icmp_ne (tgt := 275) hx hb dL_addsUp_209 (by decide) (fun c => ?_) (fun c => ?_)
        · have hD := ifn hD c
          refine lv_iconst (v := (0 : Int32)) hx hb dL_addsUp_275 (by decide) ?_
          obtain ⟨rfl, rfl⟩ := es2 hD
          exact hk _ _ _ _ dL_addsUp_276 hP hS
        · have hD := ifp hD c
          refine lv_aload_n hx hb dL_addsUp_212 rfl (lv_at hl 0 rfl) ?_
          obtain ⟨v5, z6, hD⟩ := b1_el hD
          refine lrV (Wf := fun z => Wf z m u) (mm := h) (As := []) (rest := []) Fx0 (c_X9_logSize l (Wf := fun z0_ z1_ => Wf z0_ z1_ u) (fun z1_ => hLh z1_ u) (fun z0_ => hL z0_ u) (fun a0_ b0_ a1_ b1_ => hAd a0_ b0_ a1_ b1_ u u) hm1 h m z6) hP (hD1 _ (hAd _ _ _ _ _ _)) hS (hA1 _ _ (hAd _ _ _ _ _ _) hS.1) (hLh m u) (Nat.le_of_ble_eq_true rfl) (hs0 _ _) rfl tw_6_111 tw_6_108 tw_6_109 tw_6_110 tw_1_1 yd_X9_logSize ⟨Nat.le_trans (Nat.le_of_ble_eq_true rfl) hRf, Nat.le_trans (Nat.le_of_ble_eq_true rfl) hRl⟩ hc9 rfl hl.1 rfl (Nat.le_of_ble_eq_true rfl) dL_addsUp_213 (fun H locs hP hS => ?_)
          refine lv_bipush (v := (40 : Int32)) hx hb dL_addsUp_216 (by decide) ?_
          refine lv_iload_n hx hb dL_addsUp_218 rfl (lv_at hl 2 rfl) ?_
          refine va_mmin hx hb (hml.trans hl.1.symm) hown (Fl.T Fx0 tw_6_112) (Fl.T Fx0 tw_3_121) (Fl.T Fx0 tw_1_18) (Fl.T Fx0 tw_3_122) (Nat.le_trans (Nat.le_of_ble_eq_true rfl) hRf) (Nat.le_trans (Nat.le_of_ble_eq_true rfl) hRl) hc9.1 hc9.2 dL_addsUp_219 ?_
          obtain ⟨v7, ev7, hD⟩ := bnd_el hD
          refine lv_nmi ev7 ?_
          refine lv_icmp_ne (tgt := 275) hx hb dL_addsUp_222 (by decide) (fun c => ?_) (fun c => ?_)
          · have hD := ifn hD c
            refine lv_iconst (v := (0 : Int32)) hx hb dL_addsUp_275 (by decide) ?_
            obtain ⟨rfl, rfl⟩ := es2 hD
            exact hk _ _ _ _ dL_addsUp_276 hP hS
          · have hD := ifp hD c
            refine lv_aload_n hx hb dL_addsUp_225 rfl (lv_at hl 3 rfl) ?_
            refine lv_iconst (v := (0 : Int32)) hx hb dL_addsUp_226 (by decide) ?_
            refine riald (Wf := fun z => Wf h m z) (mm := u) hx hb hK hP (hLu h m) 0 (Nat.le_of_ble_eq_true rfl) (as0 _ _) (by decide) (j := 0) (by decide) dL_addsUp_227 ?_
            refine lv_aload_n hx hb dL_addsUp_228 rfl (lv_at hl 0 rfl) ?_
            refine lv_iconst (v := (0 : Int32)) hx hb dL_addsUp_229 (by decide) ?_
            obtain ⟨v8, z90, hD⟩ := b1_el hD
            have z9 := lr_el z90
            refine lrV (Wf := fun z => Wf z m u) (mm := h) (As := [.int (0 : Int32)]) (rest := [.int (gi u 0 0)]) Fx0 (c_X9_freeNozzles l (Wf := fun z0_ z1_ => Wf z0_ z1_ u) (fun z1_ => hLh z1_ u) (fun z0_ => hL z0_ u) (fun a0_ b0_ a1_ b1_ => hAd a0_ b0_ a1_ b1_ u u) hm1 h m (0 : Int32) z9) hP (hD1 _ (hAd _ _ _ _ _ _)) hS (hA1 _ _ (hAd _ _ _ _ _ _) hS.1) (hLh m u) (Nat.le_of_ble_eq_true rfl) (hs0 _ _) rfl tw_6_116 tw_6_113 tw_6_114 tw_6_115 tw_1_1 yd_X9_freeNozzles ⟨Nat.le_trans (Nat.le_of_ble_eq_true rfl) hRf, Nat.le_trans (Nat.le_of_ble_eq_true rfl) hRl⟩ hc9 rfl hl.1 rfl (Nat.le_of_ble_eq_true rfl) dL_addsUp_230 (fun H locs hP hS => ?_)
            refine lv_icmp_ne (tgt := 275) hx hb dL_addsUp_233 (by decide) (fun c => ?_) (fun c => ?_)
            · have hD := ifn hD c
              refine lv_iconst (v := (0 : Int32)) hx hb dL_addsUp_275 (by decide) ?_
              obtain ⟨rfl, rfl⟩ := es2 hD
              exact hk _ _ _ _ dL_addsUp_276 hP hS
            · have hD := ifp hD c
              refine lv_aload_n hx hb dL_addsUp_236 rfl (lv_at hl 3 rfl) ?_
              refine lv_iconst (v := (1 : Int32)) hx hb dL_addsUp_237 (by decide) ?_
              refine riald (Wf := fun z => Wf h m z) (mm := u) hx hb hK hP (hLu h m) 0 (Nat.le_of_ble_eq_true rfl) (as0 _ _) (by decide) (j := 1) (by decide) dL_addsUp_238 ?_
              refine lv_aload_n hx hb dL_addsUp_239 rfl (lv_at hl 0 rfl) ?_
              refine lv_iconst (v := (1 : Int32)) hx hb dL_addsUp_240 (by decide) ?_
              obtain ⟨v10, z110, hD⟩ := b1_el hD
              have z11 := lr_el z110
              refine lrV (Wf := fun z => Wf z m u) (mm := h) (As := [.int (1 : Int32)]) (rest := [.int (gi u 0 1)]) Fx0 (c_X9_freeNozzles l (Wf := fun z0_ z1_ => Wf z0_ z1_ u) (fun z1_ => hLh z1_ u) (fun z0_ => hL z0_ u) (fun a0_ b0_ a1_ b1_ => hAd a0_ b0_ a1_ b1_ u u) hm1 h m (1 : Int32) z11) hP (hD1 _ (hAd _ _ _ _ _ _)) hS (hA1 _ _ (hAd _ _ _ _ _ _) hS.1) (hLh m u) (Nat.le_of_ble_eq_true rfl) (hs0 _ _) rfl tw_6_116 tw_6_113 tw_6_114 tw_6_115 tw_1_1 yd_X9_freeNozzles ⟨Nat.le_trans (Nat.le_of_ble_eq_true rfl) hRf, Nat.le_trans (Nat.le_of_ble_eq_true rfl) hRl⟩ hc9 rfl hl.1 rfl (Nat.le_of_ble_eq_true rfl) dL_addsUp_241 (fun H locs hP hS => ?_)
              refine lv_icmp_ne (tgt := 275) hx hb dL_addsUp_244 (by decide) (fun c => ?_) (fun c => ?_)
              · have hD := ifn hD c
                refine lv_iconst (v := (0 : Int32)) hx hb dL_addsUp_275 (by decide) ?_
                obtain ⟨rfl, rfl⟩ := es2 hD
                exact hk _ _ _ _ dL_addsUp_276 hP hS
              · have hD := ifp hD c
                refine lv_iload hx hb dL_addsUp_247 (lv_at hl 4 rfl) ?_
                refine lv_aload_n hx hb dL_addsUp_249 rfl (lv_at hl 0 rfl) ?_
                refine lv_iconst (v := (1 : Int32)) hx hb dL_addsUp_250 (by decide) ?_
                obtain ⟨v12, z130, hD⟩ := b1_el hD
                have z13 := lr_el z130
                refine lrV (Wf := fun z => Wf z m u) (mm := h) (As := [.int (1 : Int32)]) (rest := [.int x4]) Fx0 (c_X9_done l (Wf := fun z0_ z1_ => Wf z0_ z1_ u) (fun z1_ => hLh z1_ u) (fun z0_ => hL z0_ u) (fun a0_ b0_ a1_ b1_ => hAd a0_ b0_ a1_ b1_ u u) hm1 h m (1 : Int32) z13) hP (hD1 _ (hAd _ _ _ _ _ _)) hS (hA1 _ _ (hAd _ _ _ _ _ _) hS.1) (hLh m u) (Nat.le_of_ble_eq_true rfl) (hs0 _ _) rfl tw_6_91 tw_6_88 tw_6_89 tw_6_90 tw_1_1 yd_X9_done ⟨Nat.le_trans (Nat.le_of_ble_eq_true rfl) hRf, Nat.le_trans (Nat.le_of_ble_eq_true rfl) hRl⟩ hc9 rfl hl.1 rfl (Nat.le_of_ble_eq_true rfl) dL_addsUp_251 (fun H locs hP hS => ?_)
                refine lv_icmp_ne (tgt := 275) hx hb dL_addsUp_254 (by decide) (fun c => ?_) (fun c => ?_)
                · have hD := ifn hD c
                  refine lv_iconst (v := (0 : Int32)) hx hb dL_addsUp_275 (by decide) ?_
                  obtain ⟨rfl, rfl⟩ := es2 hD
                  exact hk _ _ _ _ dL_addsUp_276 hP hS
                · have hD := ifp hD c
                  refine lv_iload hx hb dL_addsUp_257 (lv_at hl 5 rfl) ?_
                  refine lv_iload hx hb dL_addsUp_259 (lv_at hl 6 rfl) ?_
                  refine lv_icmp_ne (tgt := 275) hx hb dL_addsUp_261 (by decide) (fun c => ?_) (fun c => ?_)
                  · have hD := ifn hD c
                    refine lv_iconst (v := (0 : Int32)) hx hb dL_addsUp_275 (by decide) ?_
                    obtain ⟨rfl, rfl⟩ := es2 hD
                    exact hk _ _ _ _ dL_addsUp_276 hP hS
                  · have hD := ifp hD c
                    refine lv_aload_n hx hb dL_addsUp_264 rfl (lv_at hl 0 rfl) ?_
                    obtain ⟨v14, z15, hD⟩ := b1_el hD
                    refine lrV (Wf := fun z => Wf z m u) (mm := h) (As := []) (rest := []) Fx0 (c_X9_isBalanced l (Wf := fun z0_ z1_ => Wf z0_ z1_ u) (fun z1_ => hLh z1_ u) (fun z0_ => hL z0_ u) (fun a0_ b0_ a1_ b1_ => hAd a0_ b0_ a1_ b1_ u u) hm1 h m z15) hP (hD1 _ (hAd _ _ _ _ _ _)) hS (hA1 _ _ (hAd _ _ _ _ _ _) hS.1) (hLh m u) (Nat.le_of_ble_eq_true rfl) (hs0 _ _) rfl tw_3_36 tw_3_33 tw_3_34 tw_3_35 tw_1_1 yd_X9_isBalanced ⟨Nat.le_trans (Nat.le_of_ble_eq_true rfl) hRf, Nat.le_trans (Nat.le_of_ble_eq_true rfl) hRl⟩ hc9 rfl hl.1 rfl (Nat.le_of_ble_eq_true rfl) dL_addsUp_265 (fun H locs hP hS => ?_)
                    refine lv_if_eq (tgt := 275) hx hb dL_addsUp_268 (by decide) (fun c => ?_) (fun c => ?_)
                    · have hD := ifp hD c
                      refine lv_iconst (v := (0 : Int32)) hx hb dL_addsUp_275 (by decide) ?_
                      obtain ⟨rfl, rfl⟩ := es2 hD
                      exact hk _ _ _ _ dL_addsUp_276 hP hS
                    · have hD := ifn hD c
                      refine lv_iconst (v := (1 : Int32)) hx hb dL_addsUp_271 (by decide) ?_
                      refine lv_goto (tgt := 276) hx hb dL_addsUp_272 (by decide) ?_
                      obtain ⟨rfl, rfl⟩ := es2 hD
                      exact hk _ _ _ _ dL_addsUp_276 hP hS
      · have hD := ifn hD c
        refine lv_iload hx hb dL_addsUp_186 (lv_at hl 6 rfl) ?_
        refine lv_aload_n hx hb dL_addsUp_188 rfl (lv_at hl 0 rfl) ?_
        refine lv_iload hx hb dL_addsUp_189 (lv_at hl 7 rfl) ?_
        refine lv_iconst (v := (2 : Int32)) hx hb dL_addsUp_191 (by decide) ?_
        obtain ⟨v16, z170, hD⟩ := b1_el hD
        have z17 := lr_el z170
        refine lrV (Wf := fun z => Wf z m u) (mm := h) (As := [.int x7, .int (2 : Int32)]) (rest := [.int x6]) Fx0 (c_X9_ledger l (Wf := fun z0_ z1_ => Wf z0_ z1_ u) (fun z1_ => hLh z1_ u) (fun z0_ => hL z0_ u) (fun a0_ b0_ a1_ b1_ => hAd a0_ b0_ a1_ b1_ u u) hm1 h m x7 (2 : Int32) z17) hP (hD1 _ (hAd _ _ _ _ _ _)) hS (hA1 _ _ (hAd _ _ _ _ _ _) hS.1) (hLh m u) (Nat.le_of_ble_eq_true rfl) (hs0 _ _) rfl tw_6_107 tw_6_104 tw_6_105 tw_6_106 tw_1_1 yd_X9_ledger ⟨Nat.le_trans (Nat.le_of_ble_eq_true rfl) hRf, Nat.le_trans (Nat.le_of_ble_eq_true rfl) hRl⟩ hc9 rfl hl.1 rfl (Nat.le_of_ble_eq_true rfl) dL_addsUp_192 (fun H locs hP hS => ?_)
        refine lv_iadd hx hb dL_addsUp_195 ?_
        obtain ⟨v18, ev18, hD⟩ := bnd_el hD
        refine lv_nmi ev18 ?_
        refine lv_istore (lv' := [(6, .int v18), (0, .ref (adh 0)), (1, .int x1), (2, .int x2), (3, .ref (adu 0)), (4, .int x4), (5, .int x5), (7, .int x7)]) hx hb dL_addsUp_196 hl (by decide) rfl (fun ls hl => ?_)
        obtain ⟨v19, ev19, hD⟩ := bnd_el hD
        refine lv_iinc (v := v19) (lv' := [(7, .int v19), (6, .int v18), (0, .ref (adh 0)), (1, .int x1), (2, .int x2), (3, .ref (adu 0)), (4, .int x4), (5, .int x5)]) hx hb dL_addsUp_198 hl (k := 7) rfl (by rw [ev19]; rfl) (by decide) rfl (fun ls hl => ?_)
        refine lv_goto (tgt := 180) hx hb dL_addsUp_201 (by decide) ?_
        exact ih _ _ _ _ _ _ _ _ _ _ hD hP hS (lv_sub hl [2, 3, 4, 5, 6, 7, 1, 0] rfl)
  have c_145 : ∀ (k55 : Int32 → Int32 → Int32 → Int32 → Int32 → MM → Option (Int32 × MM)) (hk55 : ∀ (x1 : Int32) (x2 : Int32) (x4 : Int32) (x5 : Int32) (x6 : Int32) (u : MM) (H : Heap) (locs : List Loc) (ls : Array Slot), k55 x1 x2 x4 x5 x6 u = some (rr, u') → va_P D vwCl (Wf h m u) H → va_S A s.heap H locs → lv_has ls 8 [(0, .ref (adh 0)), (1, .int x1), (2, .int x2), (3, .ref (adu 0)), (4, .int x4), (5, .int x5), (6, .int x6)] → W p l e RR s m0 args below meth c H locs cells slots Q (F0 m0 55 ls [])), ∀ (x1 : Int32) (x2 : Int32) (x4 : Int32) (x5 : Int32) (x6 : Int32) (u : MM) (H : Heap) (locs : List Loc) (ls : Array Slot), D_addsB_145 h m k55 x1 x2 x4 x5 x6 u = some (rr, u') → va_P D vwCl (Wf h m u) H → va_S A s.heap H locs → lv_has ls 8 [(0, .ref (adh 0)), (1, .int x1), (2, .int x2), (3, .ref (adu 0)), (4, .int x4), (5, .int x5), (6, .int x6)] → W p l e RR s m0 args below meth c H locs cells slots Q (F0 m0 145 ls []) := by
    intro k55 hk55 x1 x2 x4 x5 x6 u H locs ls hD hP hS hl
    unfold D_addsB_145 at hD
    refine lv_aload_n hx hb dL_addsUp_145 rfl (lv_at hl 0 rfl) ?_
    refine lv_iload hx hb dL_addsUp_146 (lv_at hl 6 rfl) ?_
    refine lv_iconst (v := (2 : Int32)) hx hb dL_addsUp_148 (by decide) ?_
    obtain ⟨v30, z310, hD⟩ := b1_el hD
    have z31 := lr_el z310
    refine lrV (Wf := fun z => Wf z m u) (mm := h) (As := [.int x6, .int (2 : Int32)]) (rest := []) Fx0 (c_X9_spindleValue l (Wf := fun z0_ z1_ => Wf z0_ z1_ u) (fun z1_ => hLh z1_ u) (fun z0_ => hL z0_ u) (fun a0_ b0_ a1_ b1_ => hAd a0_ b0_ a1_ b1_ u u) hm1 h m x6 (2 : Int32) z31) hP (hD1 _ (hAd _ _ _ _ _ _)) hS (hA1 _ _ (hAd _ _ _ _ _ _) hS.1) (hLh m u) (Nat.le_of_ble_eq_true rfl) (hs0 _ _) rfl tw_6_95 tw_6_92 tw_6_93 tw_6_94 tw_1_1 yd_X9_spindleValue ⟨Nat.le_trans (Nat.le_of_ble_eq_true rfl) hRf, Nat.le_trans (Nat.le_of_ble_eq_true rfl) hRl⟩ hc9 rfl hl.1 rfl (Nat.le_of_ble_eq_true rfl) dL_addsUp_149 (fun H locs hP hS => ?_)
    refine lv_iconst (v := (1 : Int32)) hx hb dL_addsUp_152 (by decide) ?_
    refine lv_icmp_ne (tgt := 168) hx hb dL_addsUp_153 (by decide) (fun c => ?_) (fun c => ?_)
    · have hD := ifn hD c
      obtain ⟨v32, ev32, hD⟩ := bnd_el hD
      refine lv_iinc (v := v32) (lv' := [(6, .int v32), (0, .ref (adh 0)), (1, .int x1), (2, .int x2), (3, .ref (adu 0)), (4, .int x4), (5, .int x5)]) hx hb dL_addsUp_168 hl (k := 6) rfl (by rw [ev32]; rfl) (by decide) rfl (fun ls hl => ?_)
      refine lv_goto (tgt := 55) hx hb dL_addsUp_171 (by decide) ?_
      exact hk55 _ _ _ _ _ _ _ _ _ hD hP hS (lv_sub hl [1, 2, 3, 4, 5, 6, 0] rfl)
    · have hD := ifp hD c
      refine lv_aload_n hx hb dL_addsUp_156 rfl (lv_at hl 0 rfl) ?_
      refine lv_iload hx hb dL_addsUp_157 (lv_at hl 6 rfl) ?_
      refine lv_iconst (v := (1 : Int32)) hx hb dL_addsUp_159 (by decide) ?_
      obtain ⟨v33, z340, hD⟩ := b1_el hD
      have z34 := lr_el z340
      refine lrV (Wf := fun z => Wf z m u) (mm := h) (As := [.int x6, .int (1 : Int32)]) (rest := []) Fx0 (c_X9_spindleValue l (Wf := fun z0_ z1_ => Wf z0_ z1_ u) (fun z1_ => hLh z1_ u) (fun z0_ => hL z0_ u) (fun a0_ b0_ a1_ b1_ => hAd a0_ b0_ a1_ b1_ u u) hm1 h m x6 (1 : Int32) z34) hP (hD1 _ (hAd _ _ _ _ _ _)) hS (hA1 _ _ (hAd _ _ _ _ _ _) hS.1) (hLh m u) (Nat.le_of_ble_eq_true rfl) (hs0 _ _) rfl tw_6_95 tw_6_92 tw_6_93 tw_6_94 tw_1_1 yd_X9_spindleValue ⟨Nat.le_trans (Nat.le_of_ble_eq_true rfl) hRf, Nat.le_trans (Nat.le_of_ble_eq_true rfl) hRl⟩ hc9 rfl hl.1 rfl (Nat.le_of_ble_eq_true rfl) dL_addsUp_160 (fun H locs hP hS => ?_)
      refine lv_if_ge (tgt := 168) hx hb dL_addsUp_163 (by decide) (fun c => ?_) (fun c => ?_)
      · have hD := ifp hD c
        obtain ⟨v35, ev35, hD⟩ := bnd_el hD
        refine lv_iinc (v := v35) (lv' := [(6, .int v35), (0, .ref (adh 0)), (1, .int x1), (2, .int x2), (3, .ref (adu 0)), (4, .int x4), (5, .int x5)]) hx hb dL_addsUp_168 hl (k := 6) rfl (by rw [ev35]; rfl) (by decide) rfl (fun ls hl => ?_)
        refine lv_goto (tgt := 55) hx hb dL_addsUp_171 (by decide) ?_
        exact hk55 _ _ _ _ _ _ _ _ _ hD hP hS (lv_sub hl [1, 2, 3, 4, 5, 6, 0] rfl)
      · have hD := ifn hD c
        refine lv_iconst (v := (0 : Int32)) hx hb dL_addsUp_166 (by decide) ?_
        obtain ⟨rfl, rfl⟩ := es2 hD
        exact hk _ _ _ _ dL_addsUp_167 hP hS
  have c_116 : ∀ (k55 : Int32 → Int32 → Int32 → Int32 → Int32 → MM → Option (Int32 × MM)) (hk55 : ∀ (x1 : Int32) (x2 : Int32) (x4 : Int32) (x5 : Int32) (x6 : Int32) (u : MM) (H : Heap) (locs : List Loc) (ls : Array Slot), k55 x1 x2 x4 x5 x6 u = some (rr, u') → va_P D vwCl (Wf h m u) H → va_S A s.heap H locs → lv_has ls 8 [(0, .ref (adh 0)), (1, .int x1), (2, .int x2), (3, .ref (adu 0)), (4, .int x4), (5, .int x5), (6, .int x6)] → W p l e RR s m0 args below meth c H locs cells slots Q (F0 m0 55 ls [])), ∀ (x1 : Int32) (x2 : Int32) (x4 : Int32) (x6 : Int32) (x7 : Int32) (xt0 : Int32) (xt1 : Int32) (u : MM) (H : Heap) (locs : List Loc) (ls : Array Slot), D_addsB_116 h m k55 x1 x2 x4 x6 x7 xt0 xt1 u = some (rr, u') → va_P D vwCl (Wf h m u) H → va_S A s.heap H locs → lv_has ls 8 [(0, .ref (adh 0)), (1, .int x1), (2, .int x2), (3, .ref (adu 0)), (4, .int x4), (6, .int x6), (7, .int x7)] → W p l e RR s m0 args below meth c H locs cells slots Q (F0 m0 116 ls [.int xt0, .int xt1]) := by
    intro k55 hk55 x1 x2 x4 x6 x7 xt0 xt1 u H locs ls hD hP hS hl
    unfold D_addsB_116 at hD
    refine lv_iadd hx hb dL_addsUp_116 ?_
    obtain ⟨v27, ev27, hD⟩ := bnd_el hD
    refine lv_nmi ev27 ?_
    refine lv_istore (lv' := [(5, .int v27), (0, .ref (adh 0)), (1, .int x1), (2, .int x2), (3, .ref (adu 0)), (4, .int x4), (6, .int x6), (7, .int x7)]) hx hb dL_addsUp_117 hl (by decide) rfl (fun ls hl => ?_)
    refine lv_aload_n hx hb dL_addsUp_119 rfl (lv_at hl 1 rfl) ?_
    refine lv_iload hx hb dL_addsUp_120 (lv_at hl 6 rfl) ?_
    refine lv_iconst (v := (1 : Int32)) hx hb dL_addsUp_122 (by decide) ?_
    obtain ⟨v28, z290, hD⟩ := b1_el hD
    have z29 := lr_el z290
    refine lrV (Wf := fun z => Wf z m u) (mm := h) (As := [.int x6, .int (1 : Int32)]) (rest := []) Fx0 (c_X9_spindleValue l (Wf := fun z0_ z1_ => Wf z0_ z1_ u) (fun z1_ => hLh z1_ u) (fun z0_ => hL z0_ u) (fun a0_ b0_ a1_ b1_ => hAd a0_ b0_ a1_ b1_ u u) hm1 h m x6 (1 : Int32) z29) hP (hD1 _ (hAd _ _ _ _ _ _)) hS (hA1 _ _ (hAd _ _ _ _ _ _) hS.1) (hLh m u) (Nat.le_of_ble_eq_true rfl) (hs0 _ _) rfl tw_6_95 tw_6_92 tw_6_93 tw_6_94 tw_1_1 yd_X9_spindleValue ⟨Nat.le_trans (Nat.le_of_ble_eq_true rfl) hRf, Nat.le_trans (Nat.le_of_ble_eq_true rfl) hRl⟩ hc9 rfl hl.1 rfl (Nat.le_of_ble_eq_true rfl) dL_addsUp_123 (fun H locs hP hS => ?_)
    refine lv_if_lt (tgt := 145) hx hb dL_addsUp_126 (by decide) (fun c => ?_) (fun c => ?_)
    · have hD := ifp hD c
      exact c_145 _ hk55 _ _ _ _ _ _ _ _ _ hD hP hS (lv_sub hl [1, 2, 3, 4, 5, 0, 6] rfl)
    · have hD := ifn hD c
      refine lv_aload_n hx hb dL_addsUp_129 rfl (lv_at hl 1 rfl) ?_
      refine lv_aload_n hx hb dL_addsUp_130 rfl (lv_at hl 1 rfl) ?_
      refine lv_iload hx hb dL_addsUp_131 (lv_at hl 6 rfl) ?_
      refine lv_iconst (v := (1 : Int32)) hx hb dL_addsUp_133 (by decide) ?_
      obtain ⟨v36, z370, hD⟩ := b1_el hD
      have z37 := lr_el z370
      refine lrV (Wf := fun z => Wf z m u) (mm := h) (As := [.int x6, .int (1 : Int32)]) (rest := [.ref (adh 0)]) Fx0 (c_X9_spindleValue l (Wf := fun z0_ z1_ => Wf z0_ z1_ u) (fun z1_ => hLh z1_ u) (fun z0_ => hL z0_ u) (fun a0_ b0_ a1_ b1_ => hAd a0_ b0_ a1_ b1_ u u) hm1 h m x6 (1 : Int32) z37) hP (hD1 _ (hAd _ _ _ _ _ _)) hS (hA1 _ _ (hAd _ _ _ _ _ _) hS.1) (hLh m u) (Nat.le_of_ble_eq_true rfl) (hs0 _ _) rfl tw_6_95 tw_6_92 tw_6_93 tw_6_94 tw_1_1 yd_X9_spindleValue ⟨Nat.le_trans (Nat.le_of_ble_eq_true rfl) hRf, Nat.le_trans (Nat.le_of_ble_eq_true rfl) hRl⟩ hc9 rfl hl.1 rfl (Nat.le_of_ble_eq_true rfl) dL_addsUp_134 (fun H locs hP hS => ?_)
      obtain ⟨v38, z390, hD⟩ := b1_el hD
      have z39 := lr_el z390
      refine lrV (Wf := fun z => Wf z m u) (mm := h) (As := [.int v36]) (rest := []) Fx0 (c_X9_nozzleFor l (Wf := fun z0_ z1_ => Wf z0_ z1_ u) (fun z1_ => hLh z1_ u) (fun z0_ => hL z0_ u) (fun a0_ b0_ a1_ b1_ => hAd a0_ b0_ a1_ b1_ u u) hm1 h m v36 z39) hP (hD1 _ (hAd _ _ _ _ _ _)) hS (hA1 _ _ (hAd _ _ _ _ _ _) hS.1) (hLh m u) (Nat.le_of_ble_eq_true rfl) (hs0 _ _) rfl tw_6_103 tw_6_100 tw_6_101 tw_6_102 tw_1_1 yd_X9_nozzleFor ⟨Nat.le_trans (Nat.le_of_ble_eq_true rfl) hRf, Nat.le_trans (Nat.le_of_ble_eq_true rfl) hRl⟩ hc9 rfl hl.1 rfl (Nat.le_of_ble_eq_true rfl) dL_addsUp_137 (fun H locs hP hS => ?_)
      refine lv_iload hx hb dL_addsUp_140 (lv_at hl 7 rfl) ?_
      refine lv_icmp_ne (tgt := 166) hx hb dL_addsUp_142 (by decide) (fun c => ?_) (fun c => ?_)
      · have hD := ifn hD c
        refine lv_iconst (v := (0 : Int32)) hx hb dL_addsUp_166 (by decide) ?_
        obtain ⟨rfl, rfl⟩ := es2 hD
        exact hk _ _ _ _ dL_addsUp_167 hP hS
      · have hD := ifp hD c
        exact c_145 _ hk55 _ _ _ _ _ _ _ _ _ hD hP hS (lv_sub hl [1, 2, 3, 4, 5, 0, 6] rfl)
  have c_87 : ∀ (k55 : Int32 → Int32 → Int32 → Int32 → Int32 → MM → Option (Int32 × MM)) (hk55 : ∀ (x1 : Int32) (x2 : Int32) (x4 : Int32) (x5 : Int32) (x6 : Int32) (u : MM) (H : Heap) (locs : List Loc) (ls : Array Slot), k55 x1 x2 x4 x5 x6 u = some (rr, u') → va_P D vwCl (Wf h m u) H → va_S A s.heap H locs → lv_has ls 8 [(0, .ref (adh 0)), (1, .int x1), (2, .int x2), (3, .ref (adu 0)), (4, .int x4), (5, .int x5), (6, .int x6)] → W p l e RR s m0 args below meth c H locs cells slots Q (F0 m0 55 ls [])), ∀ (x1 : Int32) (x2 : Int32) (x4 : Int32) (x5 : Int32) (x6 : Int32) (x7 : Int32) (u : MM) (H : Heap) (locs : List Loc) (ls : Array Slot), D_addsB_87 h m k55 x1 x2 x4 x5 x6 x7 u = some (rr, u') → va_P D vwCl (Wf h m u) H → va_S A s.heap H locs → lv_has ls 8 [(0, .ref (adh 0)), (1, .int x1), (2, .int x2), (3, .ref (adu 0)), (4, .int x4), (5, .int x5), (6, .int x6), (7, .int x7)] → W p l e RR s m0 args below meth c H locs cells slots Q (F0 m0 87 ls []) := by
    intro k55 hk55 x1 x2 x4 x5 x6 x7 u H locs ls hD hP hS hl
    unfold D_addsB_87 at hD
    refine lv_iload hx hb dL_addsUp_87 (lv_at hl 4 rfl) ?_
    refine lv_aload_n hx hb dL_addsUp_89 rfl (lv_at hl 0 rfl) ?_
    refine lv_iload hx hb dL_addsUp_90 (lv_at hl 6 rfl) ?_
    refine lv_iconst (v := (5 : Int32)) hx hb dL_addsUp_92 (by decide) ?_
    obtain ⟨v22, z230, hD⟩ := b1_el hD
    have z23 := lr_el z230
    refine lrV (Wf := fun z => Wf z m u) (mm := h) (As := [.int x6, .int (5 : Int32)]) (rest := [.int x4]) Fx0 (c_X9_spindleValue l (Wf := fun z0_ z1_ => Wf z0_ z1_ u) (fun z1_ => hLh z1_ u) (fun z0_ => hL z0_ u) (fun a0_ b0_ a1_ b1_ => hAd a0_ b0_ a1_ b1_ u u) hm1 h m x6 (5 : Int32) z23) hP (hD1 _ (hAd _ _ _ _ _ _)) hS (hA1 _ _ (hAd _ _ _ _ _ _) hS.1) (hLh m u) (Nat.le_of_ble_eq_true rfl) (hs0 _ _) rfl tw_6_95 tw_6_92 tw_6_93 tw_6_94 tw_1_1 yd_X9_spindleValue ⟨Nat.le_trans (Nat.le_of_ble_eq_true rfl) hRf, Nat.le_trans (Nat.le_of_ble_eq_true rfl) hRl⟩ hc9 rfl hl.1 rfl (Nat.le_of_ble_eq_true rfl) dL_addsUp_93 (fun H locs hP hS => ?_)
    refine lv_iadd hx hb dL_addsUp_96 ?_
    obtain ⟨v24, ev24, hD⟩ := bnd_el hD
    refine lv_nmi ev24 ?_
    refine lv_istore (lv' := [(4, .int v24), (0, .ref (adh 0)), (1, .int x1), (2, .int x2), (3, .ref (adu 0)), (5, .int x5), (6, .int x6), (7, .int x7)]) hx hb dL_addsUp_97 hl (by decide) rfl (fun ls hl => ?_)
    refine lv_iload hx hb dL_addsUp_99 (lv_at hl 5 rfl) ?_
    refine lv_aload_n hx hb dL_addsUp_101 rfl (lv_at hl 1 rfl) ?_
    refine lv_iload hx hb dL_addsUp_102 (lv_at hl 6 rfl) ?_
    refine lv_iconst (v := (1 : Int32)) hx hb dL_addsUp_104 (by decide) ?_
    obtain ⟨v25, z260, hD⟩ := b1_el hD
    have z26 := lr_el z260
    refine lrV (Wf := fun z => Wf z m u) (mm := h) (As := [.int x6, .int (1 : Int32)]) (rest := [.int x5]) Fx0 (c_X9_spindleValue l (Wf := fun z0_ z1_ => Wf z0_ z1_ u) (fun z1_ => hLh z1_ u) (fun z0_ => hL z0_ u) (fun a0_ b0_ a1_ b1_ => hAd a0_ b0_ a1_ b1_ u u) hm1 h m x6 (1 : Int32) z26) hP (hD1 _ (hAd _ _ _ _ _ _)) hS (hA1 _ _ (hAd _ _ _ _ _ _) hS.1) (hLh m u) (Nat.le_of_ble_eq_true rfl) (hs0 _ _) rfl tw_6_95 tw_6_92 tw_6_93 tw_6_94 tw_1_1 yd_X9_spindleValue ⟨Nat.le_trans (Nat.le_of_ble_eq_true rfl) hRf, Nat.le_trans (Nat.le_of_ble_eq_true rfl) hRl⟩ hc9 rfl hl.1 rfl (Nat.le_of_ble_eq_true rfl) dL_addsUp_105 (fun H locs hP hS => ?_)
    refine lv_if_lt (tgt := 115) hx hb dL_addsUp_108 (by decide) (fun c => ?_) (fun c => ?_)
    · have hD := ifp hD c
      refine lv_iconst (v := (0 : Int32)) hx hb dL_addsUp_115 (by decide) ?_
      exact c_116 _ hk55 _ _ _ _ _ _ _ _ _ _ _ hD hP hS (lv_sub hl [1, 2, 3, 4, 0, 6, 7] rfl)
    · have hD := ifn hD c
      refine lv_iconst (v := (1 : Int32)) hx hb dL_addsUp_111 (by decide) ?_
      refine lv_goto (tgt := 116) hx hb dL_addsUp_112 (by decide) ?_
      exact c_116 _ hk55 _ _ _ _ _ _ _ _ _ _ _ hD hP hS (lv_sub hl [1, 2, 3, 4, 0, 6, 7] rfl)
  have c_55 : ∀ (n : Nat), ∀ (x1 : Int32) (x2 : Int32) (x4 : Int32) (x5 : Int32) (x6 : Int32) (u : MM) (H : Heap) (locs : List Loc) (ls : Array Slot), D_addsB_55 h m n x1 x2 x4 x5 x6 u = some (rr, u') → va_P D vwCl (Wf h m u) H → va_S A s.heap H locs → lv_has ls 8 [(0, .ref (adh 0)), (1, .int x1), (2, .int x2), (3, .ref (adu 0)), (4, .int x4), (5, .int x5), (6, .int x6)] → W p l e RR s m0 args below meth c H locs cells slots Q (F0 m0 55 ls []) := by
    intro n
    induction n with
    | zero =>
      intro x1 x2 x4 x5 x6 u H locs ls hD hP hS hl
      exact nn_el hD
    | succ n ih =>
      intro x1 x2 x4 x5 x6 u H locs ls hD hP hS hl
      rw [D_addsB_55] at hD
      refine lv_iload hx hb dL_addsUp_55 (lv_at hl 6 rfl) ?_
      refine lv_aload_n hx hb dL_addsUp_57 rfl (lv_at hl 0 rfl) ?_
      refine lv_iconst (v := (0 : Int32)) hx hb dL_addsUp_58 (by decide) ?_
      obtain ⟨v1, z20, hD⟩ := b1_el hD
      have z2 := lr_el z20
      refine lrV (Wf := fun z => Wf z m u) (mm := h) (As := [.int (0 : Int32)]) (rest := [.int x6]) Fx0 (c_X9_count l (Wf := fun z0_ z1_ => Wf z0_ z1_ u) (fun z1_ => hLh z1_ u) (fun z0_ => hL z0_ u) (fun a0_ b0_ a1_ b1_ => hAd a0_ b0_ a1_ b1_ u u) hm1 h m (0 : Int32) z2) hP (hD1 _ (hAd _ _ _ _ _ _)) hS (hA1 _ _ (hAd _ _ _ _ _ _) hS.1) (hLh m u) (Nat.le_of_ble_eq_true rfl) (hs0 _ _) rfl tw_5_23 tw_5_20 tw_5_21 tw_5_22 tw_1_1 yd_X9_count ⟨Nat.le_trans (Nat.le_of_ble_eq_true rfl) hRf, Nat.le_trans (Nat.le_of_ble_eq_true rfl) hRl⟩ hc9 rfl hl.1 rfl (Nat.le_of_ble_eq_true rfl) dL_addsUp_59 (fun H locs hP hS => ?_)
      refine lv_icmp_ge (tgt := 174) hx hb dL_addsUp_62 (by decide) (fun c => ?_) (fun c => ?_)
      · have hD := ifp hD c
        refine lv_iconst (v := (0 : Int32)) hx hb dL_addsUp_174 (by decide) ?_
        refine lv_istore (lv' := [(6, .int (0 : Int32)), (0, .ref (adh 0)), (1, .int x1), (2, .int x2), (3, .ref (adu 0)), (4, .int x4), (5, .int x5)]) hx hb dL_addsUp_175 hl (by decide) rfl (fun ls hl => ?_)
        refine lv_iconst (v := (0 : Int32)) hx hb dL_addsUp_177 (by decide) ?_
        refine lv_istore (lv' := [(7, .int (0 : Int32)), (6, .int (0 : Int32)), (0, .ref (adh 0)), (1, .int x1), (2, .int x2), (3, .ref (adu 0)), (4, .int x4), (5, .int x5)]) hx hb dL_addsUp_178 hl (by decide) rfl (fun ls hl => ?_)
        exact c_180 FU _ _ _ _ _ _ _ _ _ _ hD hP hS (lv_sub hl [2, 3, 4, 5, 6, 7, 1, 0] rfl)
      · have hD := ifn hD c
        refine lv_aload_n hx hb dL_addsUp_65 rfl (lv_at hl 0 rfl) ?_
        refine lv_iload hx hb dL_addsUp_66 (lv_at hl 6 rfl) ?_
        refine lv_iconst (v := (0 : Int32)) hx hb dL_addsUp_68 (by decide) ?_
        obtain ⟨v20, z210, hD⟩ := b1_el hD
        have z21 := lr_el z210
        refine lrV (Wf := fun z => Wf z m u) (mm := h) (As := [.int x6, .int (0 : Int32)]) (rest := []) Fx0 (c_X9_spindleValue l (Wf := fun z0_ z1_ => Wf z0_ z1_ u) (fun z1_ => hLh z1_ u) (fun z0_ => hL z0_ u) (fun a0_ b0_ a1_ b1_ => hAd a0_ b0_ a1_ b1_ u u) hm1 h m x6 (0 : Int32) z21) hP (hD1 _ (hAd _ _ _ _ _ _)) hS (hA1 _ _ (hAd _ _ _ _ _ _) hS.1) (hLh m u) (Nat.le_of_ble_eq_true rfl) (hs0 _ _) rfl tw_6_95 tw_6_92 tw_6_93 tw_6_94 tw_1_1 yd_X9_spindleValue ⟨Nat.le_trans (Nat.le_of_ble_eq_true rfl) hRf, Nat.le_trans (Nat.le_of_ble_eq_true rfl) hRl⟩ hc9 rfl hl.1 rfl (Nat.le_of_ble_eq_true rfl) dL_addsUp_69 (fun H locs hP hS => ?_)
        refine lv_istore (lv' := [(7, .int v20), (0, .ref (adh 0)), (1, .int x1), (2, .int x2), (3, .ref (adu 0)), (4, .int x4), (5, .int x5), (6, .int x6)]) hx hb dL_addsUp_72 hl (by decide) rfl (fun ls hl => ?_)
        refine lv_iload hx hb dL_addsUp_74 (lv_at hl 0 rfl) ?_
        refine lv_if_lt (tgt := 87) hx hb dL_addsUp_76 (by decide) (fun c => ?_) (fun c => ?_)
        · have hD := ifp hD c
          exact c_87 _ ih _ _ _ _ _ _ _ _ _ _ hD hP hS (lv_sub hl [1, 2, 3, 4, 5, 6, 7, 0] rfl)
        · have hD := ifn hD c
          refine lv_aload_n hx hb dL_addsUp_79 rfl (lv_at hl 4 rfl) ?_
          refine lv_iload hx hb dL_addsUp_80 (lv_at hl 0 rfl) ?_
          refine lv_dup2_11 hx hb dL_addsUp_82 rfl rfl ?_
          obtain ⟨h40, hD⟩ := gd_el hD
          refine riald (Wf := fun z => Wf h m z) (mm := u) hx hb hK hP (hLu h m) 0 (Nat.le_of_ble_eq_true rfl) (as0 _ _) h40 rfl dL_addsUp_83 ?_
          refine lv_iconst (v := (1 : Int32)) hx hb dL_addsUp_84 (by decide) ?_
          refine lv_isub hx hb dL_addsUp_85 ?_
          obtain ⟨h41, hD⟩ := gd_el hD
          obtain ⟨m42, em42, hD⟩ := bnd_el hD
          refine riast (Wf := fun z => Wf h m z) (mm := u) hx hb hK hP (hD1 _ (hAd _ _ _ _ _ _)) hS (hLu h m) 0 (Nat.le_of_ble_eq_true rfl) (fun _ => as0 _ _) h41 rfl dL_addsUp_86 em42 (fun H locs hP hS => ?_)
          exact c_87 _ ih _ _ _ _ _ _ _ _ _ _ hD hP hS (lv_sub hl [1, 2, 3, 4, 5, 6, 7, 0] rfl)
  refine lv_iconst (v := (0 : Int32)) hx hb dL_addsUp_46 (by decide) ?_
  refine lv_istore (lv' := [(4, .int (0 : Int32)), (0, .ref (adh 0)), (1, .int x1), (2, .int x2), (3, .ref (adu 0))]) hx hb dL_addsUp_47 hl (by decide) rfl (fun ls hl => ?_)
  refine lv_iconst (v := (0 : Int32)) hx hb dL_addsUp_49 (by decide) ?_
  refine lv_istore (lv' := [(5, .int (0 : Int32)), (4, .int (0 : Int32)), (0, .ref (adh 0)), (1, .int x1), (2, .int x2), (3, .ref (adu 0))]) hx hb dL_addsUp_50 hl (by decide) rfl (fun ls hl => ?_)
  refine lv_iconst (v := (0 : Int32)) hx hb dL_addsUp_52 (by decide) ?_
  refine lv_istore (lv' := [(6, .int (0 : Int32)), (5, .int (0 : Int32)), (4, .int (0 : Int32)), (0, .ref (adh 0)), (1, .int x1), (2, .int x2), (3, .ref (adu 0))]) hx hb dL_addsUp_53 hl (by decide) rfl (fun ls hl => ?_)
  exact c_55 FU _ _ _ _ _ _ _ _ _ hD hP hS (lv_sub hl [3, 4, 5, 6, 2, 1, 0] rfl)
