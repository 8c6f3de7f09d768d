/-! the law's body -/
abbrev LKont : Type := Int32 → MM → MM → MM → MM → MM → MM → MM → Option Unit
/-- what follows at the loop's head, with n rounds left -/
def LK (p : Program) (l : Launch) (e : Env) (s : State) (m0 : MethodId) (below : List Frame) (meth : Method) (c : Code) (b : Nat) (D : va_G) (A : Nat → Prop) (Q : State → Prop) (adh adx adu : Nat → Nat) (Wf : MM → MM → MM → MM → MM → MM → MM → va_W) (n : Nat) (k : LKont) : Prop := ∀ (x4 : Int32) (h m f c0 c1 x u : MM) (cells slots : Nat) (H : Heap) (locs : List Loc) (ls : Array Slot), k x4 h m f c0 c1 x u = some () → cells + n ≤ 601024 → slots + 6 * n ≤ 7293034 → va_P D vwCl (Wf h m f c0 c1 x u) H → va_S A s.heap H locs → lv_has ls 8 [(0, .ref b), (1, .ref (adh 0)), (2, .ref (adx 0)), (3, .ref (adu 0)), (4, .int x4)] → W p l e room_1 s m0 #[Value.ref b] below meth c H locs cells slots Q (F0 m0 23 ls [])
/-- what holds throughout the law -/
def LX (p : Program) (s : State) (m0 : MethodId) (c : Code) (b L : Nat) (xs : Nat → Int32) (D : va_G) (cs : Nat → ClassId) (A : Nat → Prop) (w0 : va_W) : Prop := Fl p m0 c cL_law 8 s #[Value.ref b] RL D cs A ∧ va_X b L xs s s.heap ∧ b < s.heap.size ∧ ¬ A b ∧ (∀ w1 : va_W, w1.map (fun q => q.1) = w0.map (fun q => q.1) → va_D A w1) ∧ ∀ (w1 : va_W) (z : Nat), w1.map (fun q => q.1) = w0.map (fun q => q.1) → s.heap.size ≤ z → ∀ q : Nat, va_A w1 z q → A q
def zMM : MM := (fun _ _ => 0, fun _ _ => 0)
theorem LX.rest {p : Program} {s : State} {m0 : MethodId} {c : Code} {b L : Nat} {xs : Nat → Int32} {D : va_G} {cs : Nat → ClassId} {A : Nat → Prop} {w0 : va_W} (h : LX p s m0 c b L xs D cs A w0) : p.tables.exec = Jvm.exec ∧ c.code = cL_law ∧ c.maxLocals = 8 ∧ s.vm.findClass RL = some m0.cls ∧ KK D cs s ∧ (∀ w ∈ TBL, w.before #[Value.ref b] s = true) := ⟨h.1.1, h.1.2.1, h.1.2.2.1, h.1.2.2.2.1, h.1.2.2.2.2.2.1, h.1.2.2.2.2.1⟩
noncomputable def D_L_law_300 (L : Nat) (xs : Nat → Int32) (k : LKont) (x4 : Int32) (h : MM) (m : MM) (f : MM) (c0 : MM) (c1 : MM) (x : MM) (u : MM) : Option Unit := if (x4 + (1 : Int32)) < 0 ∨ L ≤ (x4 + (1 : Int32)).toNatClampNeg then none else (if (x4 + (2 : Int32)) < 0 ∨ L ≤ (x4 + (2 : Int32)).toNatClampNeg then none else (b2 (D_X9_append (((xs (x4 + (1 : Int32)).toNatClampNeg).toInt64 <<< ((32 : Int32).toInt64 &&& 63)) ||| ((xs (x4 + (2 : Int32)).toNatClampNeg).toInt64 &&& (4294967295 : Int64))) h m) (fun v3 m4 => if (x4 + (1 : Int32)) < 0 ∨ L ≤ (x4 + (1 : Int32)).toNatClampNeg then none else (if (x4 + (2 : Int32)) < 0 ∨ L ≤ (x4 + (2 : Int32)).toNatClampNeg then none else (b2 (D_X10_append (((xs (x4 + (1 : Int32)).toNatClampNeg).toInt64 <<< ((32 : Int32).toInt64 &&& 63)) ||| ((xs (x4 + (2 : Int32)).toNatClampNeg).toInt64 &&& (4294967295 : Int64))) x) (fun v8 m9 => if v3 = v8 then (bnd (x4 + (3 : Int32)) (fun v11 => k v11 m4 m f c0 c1 m9 u)) else (none)))))))
set_option maxHeartbeats 4000000 in
set_option maxRecDepth 100000 in
theorem c_L_law_300 (l : Launch) (hst : l.stackTraces = false) {p : Program} {e : Env} {s : State} {m0 : MethodId} {below : List Frame} {meth : Method} {c : Code} {b L : Nat} {xs : Nat → Int32} {D : va_G} {cs : Nat → ClassId} {A : Nat → Prop} {Q : State → Prop} {adh ad adf ad0 ad1 adx adu ma : Nat → Nat} {Wf : MM → MM → MM → MM → MM → MM → MM → va_W} (hLh : ∀ m f c0 c1 x u : MM, Ln 8 adh (hsh cs adh ma) (fun z => Wf z m f c0 c1 x u)) (hL : ∀ h f c0 c1 x u : MM, Ln 51 ad (msh cs ad) (fun z => Wf h z f c0 c1 x u)) (hLf : ∀ h m c0 c1 x u : MM, Ln 51 adf (msh cs adf) (fun z => Wf h m z c0 c1 x u)) (hL0 : ∀ h m f c1 x u : MM, Ln 51 ad0 (msh cs ad0) (fun z => Wf h m f z c1 x u)) (hL1 : ∀ h m f c0 x u : MM, Ln 51 ad1 (msh cs ad1) (fun z => Wf h m f c0 z x u)) (hLx : ∀ h m f c0 c1 u : MM, Ln 9 adx (xsh cs adx) (fun z => Wf h m f c0 c1 z u)) (hLu : ∀ h m f c0 c1 x : MM, Ln 1 adu (ush cs) (fun z => Wf h m f c0 c1 x z)) (hAd : ∀ a0_ b0_ a1_ b1_ a2_ b2_ a3_ b3_ a4_ b4_ a5_ b5_ a6_ b6_ : MM, (Wf a0_ a1_ a2_ a3_ a4_ a5_ a6_).map (fun q => q.1) = (Wf b0_ b1_ b2_ b3_ b4_ b5_ b6_).map (fun q => q.1)) (hm1 : ma 1 = ad 24) (hm2 : ma 2 = adf 24) (hm3 : ma 3 = ad0 24) (hm4 : ma 4 = ad1 24) (hLX : LX p s m0 c b L xs D cs A (Wf zMM zMM zMM zMM zMM zMM zMM)) (n : Nat) (k : LKont) (hk : LK p l e s m0 below meth c b D A Q adh adx adu Wf n k) (x4 : Int32) (h : MM) (m : MM) (f : MM) (c0 : MM) (c1 : MM) (x : MM) (u : MM) (cells slots : Nat) (H : Heap) (locs : List Loc) (ls : Array Slot) (hD : D_L_law_300 L xs k x4 h m f c0 c1 x u = some ()) (hcl : cells + (n + 1) ≤ 601024) (hsl : slots + 6 * (n + 1) ≤ 7293034) (hP : va_P D vwCl (Wf h m f c0 c1 x u) H) (hS : va_S A s.heap H locs) (hl : lv_has ls 8 [(0, .ref b), (1, .ref (adh 0)), (2, .ref (adx 0)), (3, .ref (adu 0)), (4, .int x4)]) : W p l e room_1 s m0 #[Value.ref b] below meth c H locs cells slots Q (F0 m0 300 ls []) := by
  obtain ⟨hx, hb, hml, hown, hK, hT⟩ := hLX.rest
  obtain ⟨Fx0, hX, hbl, hbA, hD1, hA1⟩ := hLX
  unfold D_L_law_300 at hD
  refine lv_aload_n hx hb dL_law_300 rfl (lv_at hl 1 rfl) ?_
  refine lv_aload_n hx hb dL_law_301 rfl (lv_at hl 0 rfl) ?_
  refine lv_iload hx hb dL_law_302 (lv_at hl 4 rfl) ?_
  refine lv_iconst (v := (1 : Int32)) hx hb dL_law_304 (by decide) ?_
  refine lv_iadd hx hb dL_law_305 ?_
  obtain ⟨h1, hD⟩ := gd_el hD
  refine va_sld hx hb hX hbl hbA hS h1 dL_law_306 ?_
  refine lv_i2l (v := (xs (x4 + (1 : Int32)).toNatClampNeg).toInt64) hx hb dL_law_307 rfl ?_
  refine lv_bipush (v := (32 : Int32)) hx hb dL_law_308 (by decide) ?_
  refine lv_lshl (v := ((xs (x4 + (1 : Int32)).toNatClampNeg).toInt64 <<< ((32 : Int32).toInt64 &&& 63))) hx hb dL_law_310 rfl ?_
  refine lv_aload_n hx hb dL_law_311 rfl (lv_at hl 0 rfl) ?_
  refine lv_iload hx hb dL_law_312 (lv_at hl 4 rfl) ?_
  refine lv_iconst (v := (2 : Int32)) hx hb dL_law_314 (by decide) ?_
  refine lv_iadd hx hb dL_law_315 ?_
  obtain ⟨h2, hD⟩ := gd_el hD
  refine va_sld hx hb hX hbl hbA hS h2 dL_law_316 ?_
  refine lv_i2l (v := (xs (x4 + (2 : Int32)).toNatClampNeg).toInt64) hx hb dL_law_317 rfl ?_
  refine lv_ldc2 (v := (4294967295 : Int64)) hx hb hown (Fx0.T tw_9_173) dL_law_318 ?_
  refine lv_land hx hb dL_law_321 ?_
  refine lv_lor hx hb dL_law_322 ?_
  obtain ⟨v3, m4, z5, hD⟩ := b2_el hD
  refine lrV (Wf := fun z => Wf z m f c0 c1 x u) (mm := h) (As := [.long (((xs (x4 + (1 : Int32)).toNatClampNeg).toInt64 <<< ((32 : Int32).toInt64 &&& 63)) ||| ((xs (x4 + (2 : Int32)).toNatClampNeg).toInt64 &&& (4294967295 : Int64)))]) (rest := []) Fx0 (c_X9_append l (Wf := fun z0_ z1_ => Wf z0_ z1_ f c0 c1 x u) (fun z1_ => hLh z1_ f c0 c1 x u) (fun z0_ => hL z0_ f c0 c1 x u) (fun a0_ b0_ a1_ b1_ => hAd a0_ b0_ a1_ b1_ f f c0 c0 c1 c1 x x u u) hm1 h m (((xs (x4 + (1 : Int32)).toNatClampNeg).toInt64 <<< ((32 : Int32).toInt64 &&& 63)) ||| ((xs (x4 + (2 : Int32)).toNatClampNeg).toInt64 &&& (4294967295 : Int64))) z5) hP (hD1 _ (hAd _ _ _ _ _ _ _ _ _ _ _ _ _ _)) hS (hA1 _ _ (hAd _ _ _ _ _ _ _ _ _ _ _ _ _ _) hS.1) (hLh m f c0 c1 x u) (Nat.le_of_ble_eq_true rfl) (hs0 _ _) rfl tw_3_35 tw_3_32 tw_3_33 tw_3_34 tw_1_1 yd_X9_append ⟨(Nat.le_of_ble_eq_true rfl), (Nat.le_of_ble_eq_true rfl)⟩ ⟨show _ ≤ 601024 by omega, show _ ≤ 7293034 by omega⟩ rfl hl.1 rfl (Nat.le_of_ble_eq_true rfl) dL_law_323 (fun H locs hP hS => ?_)
  refine lv_aload_n hx hb dL_law_326 rfl (lv_at hl 2 rfl) ?_
  refine lv_aload_n hx hb dL_law_327 rfl (lv_at hl 0 rfl) ?_
  refine lv_iload hx hb dL_law_328 (lv_at hl 4 rfl) ?_
  refine lv_iconst (v := (1 : Int32)) hx hb dL_law_330 (by decide) ?_
  refine lv_iadd hx hb dL_law_331 ?_
  obtain ⟨h6, hD⟩ := gd_el hD
  refine va_sld hx hb hX hbl hbA hS h6 dL_law_332 ?_
  refine lv_i2l (v := (xs (x4 + (1 : Int32)).toNatClampNeg).toInt64) hx hb dL_law_333 rfl ?_
  refine lv_bipush (v := (32 : Int32)) hx hb dL_law_334 (by decide) ?_
  refine lv_lshl (v := ((xs (x4 + (1 : Int32)).toNatClampNeg).toInt64 <<< ((32 : Int32).toInt64 &&& 63))) hx hb dL_law_336 rfl ?_
  refine lv_aload_n hx hb dL_law_337 rfl (lv_at hl 0 rfl) ?_
  refine lv_iload hx hb dL_law_338 (lv_at hl 4 rfl) ?_
  refine lv_iconst (v := (2 : Int32)) hx hb dL_law_340 (by decide) ?_
  refine lv_iadd hx hb dL_law_341 ?_
  obtain ⟨h7, hD⟩ := gd_el hD
  refine va_sld hx hb hX hbl hbA hS h7 dL_law_342 ?_
  refine lv_i2l (v := (xs (x4 + (2 : Int32)).toNatClampNeg).toInt64) hx hb dL_law_343 rfl ?_
  refine lv_ldc2 (v := (4294967295 : Int64)) hx hb hown (Fx0.T tw_9_173) dL_law_344 ?_
  refine lv_land hx hb dL_law_347 ?_
  refine lv_lor hx hb dL_law_348 ?_
  obtain ⟨v8, m9, z10, hD⟩ := b2_el hD
  refine lrV (Wf := fun z => Wf m4 m f c0 c1 z u) (mm := x) (As := [.long (((xs (x4 + (1 : Int32)).toNatClampNeg).toInt64 <<< ((32 : Int32).toInt64 &&& 63)) ||| ((xs (x4 + (2 : Int32)).toNatClampNeg).toInt64 &&& (4294967295 : Int64)))]) (rest := [.int v3]) Fx0 (c_X10_append l (Wf := fun z0_ => Wf m4 m f c0 c1 z0_ u) (hLx m4 m f c0 c1 u) (fun a0_ b0_ => hAd m4 m4 m m f f c0 c0 c1 c1 a0_ b0_ u u) x (((xs (x4 + (1 : Int32)).toNatClampNeg).toInt64 <<< ((32 : Int32).toInt64 &&& 63)) ||| ((xs (x4 + (2 : Int32)).toNatClampNeg).toInt64 &&& (4294967295 : Int64))) z10) hP (hD1 _ (hAd _ _ _ _ _ _ _ _ _ _ _ _ _ _)) hS (hA1 _ _ (hAd _ _ _ _ _ _ _ _ _ _ _ _ _ _) hS.1) (hLx m4 m f c0 c1 u) (Nat.le_of_ble_eq_true rfl) (xs0 _ _) rfl tw_7_34 tw_7_31 tw_7_32 tw_7_33 tw_1_13 yd_X10_append ⟨(Nat.le_of_ble_eq_true rfl), (Nat.le_of_ble_eq_true rfl)⟩ ⟨show _ ≤ 601024 by omega, show _ ≤ 7293034 by omega⟩ rfl hl.1 rfl (Nat.le_of_ble_eq_true rfl) dL_law_349 (fun H locs hP hS => ?_)
  refine lv_icmp_eq (tgt := 2964) hx hb dL_law_352 (by decide) (fun c => ?_) (fun c => ?_)
  · have hD := ifp hD c
    obtain ⟨v11, ev11, hD⟩ := bnd_el hD
    refine lv_iinc (v := v11) (lv' := [(4, .int v11), (0, .ref b), (1, .ref (adh 0)), (2, .ref (adx 0)), (3, .ref (adu 0))]) hx hb dL_law_2964 hl (k := 4) rfl (by rw [ev11]; rfl) (by decide) rfl (fun ls hl => ?_)
    refine lv_goto (tgt := 23) hx hb dL_law_2967 (by decide) ?_
    exact hk v11 m4 m f c0 c1 m9 u _ _ _ _ _ hD (show _ + n ≤ 601024 by omega) (show _ + 6 * n ≤ 7293034 by omega) hP hS (lv_sub hl [1, 2, 3, 4, 0] rfl)
  · have hD := ifn hD c
    refine lv_iconst (v := (0 : Int32)) hx hb dL_law_355 (by decide) ?_
    exact nn_el hD
noncomputable def D_L_law_357 (L : Nat) (xs : Nat → Int32) (k : LKont) (x4 : Int32) (h : MM) (m : MM) (f : MM) (c0 : MM) (c1 : MM) (x : MM) (u : MM) : Option Unit := b4 (D_X9_load h m f) (fun v1 m2 m3 m4 => b2 (D_X10_load x) (fun v6 m7 => if v1 = v6 then (bnd (x4 + (3 : Int32)) (fun v9 => k v9 m2 m3 m4 c0 c1 m7 u)) else (none)))
set_option maxHeartbeats 4000000 in
set_option maxRecDepth 100000 in
theorem c_L_law_357 (l : Launch) (hst : l.stackTraces = false) {p : Program} {e : Env} {s : State} {m0 : MethodId} {below : List Frame} {meth : Method} {c : Code} {b L : Nat} {xs : Nat → Int32} {D : va_G} {cs : Nat → ClassId} {A : Nat → Prop} {Q : State → Prop} {adh ad adf ad0 ad1 adx adu ma : Nat → Nat} {Wf : MM → MM → MM → MM → MM → MM → MM → va_W} (hLh : ∀ m f c0 c1 x u : MM, Ln 8 adh (hsh cs adh ma) (fun z => Wf z m f c0 c1 x u)) (hL : ∀ h f c0 c1 x u : MM, Ln 51 ad (msh cs ad) (fun z => Wf h z f c0 c1 x u)) (hLf : ∀ h m c0 c1 x u : MM, Ln 51 adf (msh cs adf) (fun z => Wf h m z c0 c1 x u)) (hL0 : ∀ h m f c1 x u : MM, Ln 51 ad0 (msh cs ad0) (fun z => Wf h m f z c1 x u)) (hL1 : ∀ h m f c0 x u : MM, Ln 51 ad1 (msh cs ad1) (fun z => Wf h m f c0 z x u)) (hLx : ∀ h m f c0 c1 u : MM, Ln 9 adx (xsh cs adx) (fun z => Wf h m f c0 c1 z u)) (hLu : ∀ h m f c0 c1 x : MM, Ln 1 adu (ush cs) (fun z => Wf h m f c0 c1 x z)) (hAd : ∀ a0_ b0_ a1_ b1_ a2_ b2_ a3_ b3_ a4_ b4_ a5_ b5_ a6_ b6_ : MM, (Wf a0_ a1_ a2_ a3_ a4_ a5_ a6_).map (fun q => q.1) = (Wf b0_ b1_ b2_ b3_ b4_ b5_ b6_).map (fun q => q.1)) (hm1 : ma 1 = ad 24) (hm2 : ma 2 = adf 24) (hm3 : ma 3 = ad0 24) (hm4 : ma 4 = ad1 24) (hLX : LX p s m0 c b L xs D cs A (Wf zMM zMM zMM zMM zMM zMM zMM)) (n : Nat) (k : LKont) (hk : LK p l e s m0 below meth c b D A Q adh adx adu Wf n k) (x4 : Int32) (h : MM) (m : MM) (f : MM) (c0 : MM) (c1 : MM) (x : MM) (u : MM) (cells slots : Nat) (H : Heap) (locs : List Loc) (ls : Array Slot) (hD : D_L_law_357 L xs k x4 h m f c0 c1 x u = some ()) (hcl : cells + (n + 1) ≤ 601024) (hsl : slots + 6 * (n + 1) ≤ 7293034) (hP : va_P D vwCl (Wf h m f c0 c1 x u) H) (hS : va_S A s.heap H locs) (hl : lv_has ls 8 [(0, .ref b), (1, .ref (adh 0)), (2, .ref (adx 0)), (3, .ref (adu 0)), (4, .int x4)]) : W p l e room_1 s m0 #[Value.ref b] below meth c H locs cells slots Q (F0 m0 357 ls []) := by
  obtain ⟨hx, hb, hml, hown, hK, hT⟩ := hLX.rest
  obtain ⟨Fx0, hX, hbl, hbA, hD1, hA1⟩ := hLX
  unfold D_L_law_357 at hD
  refine lv_aload_n hx hb dL_law_357 rfl (lv_at hl 1 rfl) ?_
  obtain ⟨v1, m2, m3, m4, z5, hD⟩ := b4_el hD
  refine lrV (Wf := fun z => Wf z m f c0 c1 x u) (mm := h) (As := []) (rest := []) Fx0 (c_X9_load l (Wf := fun z0_ z1_ z2_ => Wf z0_ z1_ z2_ c0 c1 x u) (fun z1_ z2_ => hLh z1_ z2_ c0 c1 x u) (fun z0_ z2_ => hL z0_ z2_ c0 c1 x u) (fun z0_ z1_ => hLf z0_ z1_ c0 c1 x u) (fun a0_ b0_ a1_ b1_ a2_ b2_ => hAd a0_ b0_ a1_ b1_ a2_ b2_ c0 c0 c1 c1 x x u u) hm1 hm2 h m f z5) hP (hD1 _ (hAd _ _ _ _ _ _ _ _ _ _ _ _ _ _)) hS (hA1 _ _ (hAd _ _ _ _ _ _ _ _ _ _ _ _ _ _) hS.1) (hLh m f c0 c1 x u) (Nat.le_of_ble_eq_true rfl) (hs0 _ _) rfl tw_3_39 tw_3_36 tw_3_37 tw_3_38 tw_1_1 yd_X9_load ⟨(Nat.le_of_ble_eq_true rfl), (Nat.le_of_ble_eq_true rfl)⟩ ⟨show _ ≤ 601024 by omega, show _ ≤ 7293034 by omega⟩ rfl hl.1 rfl (Nat.le_of_ble_eq_true rfl) dL_law_358 (fun H locs hP hS => ?_)
  refine lv_aload_n hx hb dL_law_361 rfl (lv_at hl 2 rfl) ?_
  obtain ⟨v6, m7, z8, hD⟩ := b2_el hD
  refine lrV (Wf := fun z => Wf m2 m3 m4 c0 c1 z u) (mm := x) (As := []) (rest := [.int v1]) Fx0 (c_X10_load l (Wf := fun z0_ => Wf m2 m3 m4 c0 c1 z0_ u) (hLx m2 m3 m4 c0 c1 u) (fun a0_ b0_ => hAd m2 m2 m3 m3 m4 m4 c0 c0 c1 c1 a0_ b0_ u u) x z8) hP (hD1 _ (hAd _ _ _ _ _ _ _ _ _ _ _ _ _ _)) hS (hA1 _ _ (hAd _ _ _ _ _ _ _ _ _ _ _ _ _ _) hS.1) (hLx m2 m3 m4 c0 c1 u) (Nat.le_of_ble_eq_true rfl) (xs0 _ _) rfl tw_7_43 tw_7_40 tw_7_41 tw_7_42 tw_1_13 yd_X10_load ⟨(Nat.le_of_ble_eq_true rfl), (Nat.le_of_ble_eq_true rfl)⟩ ⟨show _ ≤ 601024 by omega, show _ ≤ 7293034 by omega⟩ rfl hl.1 rfl (Nat.le_of_ble_eq_true rfl) dL_law_362 (fun H locs hP hS => ?_)
  refine lv_icmp_eq (tgt := 2964) hx hb dL_law_365 (by decide) (fun c => ?_) (fun c => ?_)
  · have hD := ifp hD c
    obtain ⟨v9, ev9, hD⟩ := bnd_el hD
    refine lv_iinc (v := v9) (lv' := [(4, .int v9), (0, .ref b), (1, .ref (adh 0)), (2, .ref (adx 0)), (3, .ref (adu 0))]) hx hb dL_law_2964 hl (k := 4) rfl (by rw [ev9]; rfl) (by decide) rfl (fun ls hl => ?_)
    refine lv_goto (tgt := 23) hx hb dL_law_2967 (by decide) ?_
    exact hk v9 m2 m3 m4 c0 c1 m7 u _ _ _ _ _ hD (show _ + n ≤ 601024 by omega) (show _ + 6 * n ≤ 7293034 by omega) hP hS (lv_sub hl [1, 2, 3, 4, 0] rfl)
  · have hD := ifn hD c
    refine lv_iconst (v := (0 : Int32)) hx hb dL_law_368 (by decide) ?_
    exact nn_el hD
noncomputable def D_L_law_370 (L : Nat) (xs : Nat → Int32) (k : LKont) (x4 : Int32) (h : MM) (m : MM) (f : MM) (c0 : MM) (c1 : MM) (x : MM) (u : MM) : Option Unit := b1 (D_X9_loadError h m) (fun v1 => b2 (D_X10_loadError x) (fun v3 m4 => if v1 = v3 then (bnd (x4 + (3 : Int32)) (fun v6 => k v6 h m f c0 c1 m4 u)) else (none)))
set_option maxHeartbeats 4000000 in
set_option maxRecDepth 100000 in
theorem c_L_law_370 (l : Launch) (hst : l.stackTraces = false) {p : Program} {e : Env} {s : State} {m0 : MethodId} {below : List Frame} {meth : Method} {c : Code} {b L : Nat} {xs : Nat → Int32} {D : va_G} {cs : Nat → ClassId} {A : Nat → Prop} {Q : State → Prop} {adh ad adf ad0 ad1 adx adu ma : Nat → Nat} {Wf : MM → MM → MM → MM → MM → MM → MM → va_W} (hLh : ∀ m f c0 c1 x u : MM, Ln 8 adh (hsh cs adh ma) (fun z => Wf z m f c0 c1 x u)) (hL : ∀ h f c0 c1 x u : MM, Ln 51 ad (msh cs ad) (fun z => Wf h z f c0 c1 x u)) (hLf : ∀ h m c0 c1 x u : MM, Ln 51 adf (msh cs adf) (fun z => Wf h m z c0 c1 x u)) (hL0 : ∀ h m f c1 x u : MM, Ln 51 ad0 (msh cs ad0) (fun z => Wf h m f z c1 x u)) (hL1 : ∀ h m f c0 x u : MM, Ln 51 ad1 (msh cs ad1) (fun z => Wf h m f c0 z x u)) (hLx : ∀ h m f c0 c1 u : MM, Ln 9 adx (xsh cs adx) (fun z => Wf h m f c0 c1 z u)) (hLu : ∀ h m f c0 c1 x : MM, Ln 1 adu (ush cs) (fun z => Wf h m f c0 c1 x z)) (hAd : ∀ a0_ b0_ a1_ b1_ a2_ b2_ a3_ b3_ a4_ b4_ a5_ b5_ a6_ b6_ : MM, (Wf a0_ a1_ a2_ a3_ a4_ a5_ a6_).map (fun q => q.1) = (Wf b0_ b1_ b2_ b3_ b4_ b5_ b6_).map (fun q => q.1)) (hm1 : ma 1 = ad 24) (hm2 : ma 2 = adf 24) (hm3 : ma 3 = ad0 24) (hm4 : ma 4 = ad1 24) (hLX : LX p s m0 c b L xs D cs A (Wf zMM zMM zMM zMM zMM zMM zMM)) (n : Nat) (k : LKont) (hk : LK p l e s m0 below meth c b D A Q adh adx adu Wf n k) (x4 : Int32) (h : MM) (m : MM) (f : MM) (c0 : MM) (c1 : MM) (x : MM) (u : MM) (cells slots : Nat) (H : Heap) (locs : List Loc) (ls : Array Slot) (hD : D_L_law_370 L xs k x4 h m f c0 c1 x u = some ()) (hcl : cells + (n + 1) ≤ 601024) (hsl : slots + 6 * (n + 1) ≤ 7293034) (hP : va_P D vwCl (Wf h m f c0 c1 x u) H) (hS : va_S A s.heap H locs) (hl : lv_has ls 8 [(0, .ref b), (1, .ref (adh 0)), (2, .ref (adx 0)), (3, .ref (adu 0)), (4, .int x4)]) : W p l e room_1 s m0 #[Value.ref b] below meth c H locs cells slots Q (F0 m0 370 ls []) := by
  obtain ⟨hx, hb, hml, hown, hK, hT⟩ := hLX.rest
  obtain ⟨Fx0, hX, hbl, hbA, hD1, hA1⟩ := hLX
  unfold D_L_law_370 at hD
  refine lv_aload_n hx hb dL_law_370 rfl (lv_at hl 1 rfl) ?_
  obtain ⟨v1, z2, hD⟩ := b1_el hD
  refine lrV (Wf := fun z => Wf z m f c0 c1 x u) (mm := h) (As := []) (rest := []) Fx0 (c_X9_loadError l (Wf := fun z0_ z1_ => Wf z0_ z1_ f c0 c1 x u) (fun z1_ => hLh z1_ f c0 c1 x u) (fun z0_ => hL z0_ f c0 c1 x u) (fun a0_ b0_ a1_ b1_ => hAd a0_ b0_ a1_ b1_ f f c0 c0 c1 c1 x x u u) hm1 h m z2) hP (hD1 _ (hAd _ _ _ _ _ _ _ _ _ _ _ _ _ _)) hS (hA1 _ _ (hAd _ _ _ _ _ _ _ _ _ _ _ _ _ _) hS.1) (hLh m f c0 c1 x u) (Nat.le_of_ble_eq_true rfl) (hs0 _ _) rfl tw_4_0 tw_3_237 tw_3_238 tw_3_239 tw_1_1 yd_X9_loadError ⟨(Nat.le_of_ble_eq_true rfl), (Nat.le_of_ble_eq_true rfl)⟩ ⟨show _ ≤ 601024 by omega, show _ ≤ 7293034 by omega⟩ rfl hl.1 rfl (Nat.le_of_ble_eq_true rfl) dL_law_371 (fun H locs hP hS => ?_)
  refine lv_aload_n hx hb dL_law_374 rfl (lv_at hl 2 rfl) ?_
  obtain ⟨v3, m4, z5, hD⟩ := b2_el hD
  refine lrV (Wf := fun z => Wf h m f c0 c1 z u) (mm := x) (As := []) (rest := [.int v1]) Fx0 (c_X10_loadError l (Wf := fun z0_ => Wf h m f c0 c1 z0_ u) (hLx h m f c0 c1 u) (fun a0_ b0_ => hAd h h m m f f c0 c0 c1 c1 a0_ b0_ u u) x z5) hP (hD1 _ (hAd _ _ _ _ _ _ _ _ _ _ _ _ _ _)) hS (hA1 _ _ (hAd _ _ _ _ _ _ _ _ _ _ _ _ _ _) hS.1) (hLx h m f c0 c1 u) (Nat.le_of_ble_eq_true rfl) (xs0 _ _) rfl tw_7_39 tw_7_36 tw_7_37 tw_7_38 tw_1_13 yd_X10_loadError ⟨(Nat.le_of_ble_eq_true rfl), (Nat.le_of_ble_eq_true rfl)⟩ ⟨show _ ≤ 601024 by omega, show _ ≤ 7293034 by omega⟩ rfl hl.1 rfl (Nat.le_of_ble_eq_true rfl) dL_law_375 (fun H locs hP hS => ?_)
  refine lv_icmp_eq (tgt := 2964) hx hb dL_law_378 (by decide) (fun c => ?_) (fun c => ?_)
  · have hD := ifp hD c
    obtain ⟨v6, ev6, hD⟩ := bnd_el hD
    refine lv_iinc (v := v6) (lv' := [(4, .int v6), (0, .ref b), (1, .ref (adh 0)), (2, .ref (adx 0)), (3, .ref (adu 0))]) hx hb dL_law_2964 hl (k := 4) rfl (by rw [ev6]; rfl) (by decide) rfl (fun ls hl => ?_)
    refine lv_goto (tgt := 23) hx hb dL_law_2967 (by decide) ?_
    exact hk v6 h m f c0 c1 m4 u _ _ _ _ _ hD (show _ + n ≤ 601024 by omega) (show _ + 6 * n ≤ 7293034 by omega) hP hS (lv_sub hl [1, 2, 3, 4, 0] rfl)
  · have hD := ifn hD c
    refine lv_iconst (v := (0 : Int32)) hx hb dL_law_381 (by decide) ?_
    exact nn_el hD
noncomputable def D_L_law_383 (L : Nat) (xs : Nat → Int32) (k : LKont) (x4 : Int32) (h : MM) (m : MM) (f : MM) (c0 : MM) (c1 : MM) (x : MM) (u : MM) : Option Unit := if (x4 + (1 : Int32)) < 0 ∨ L ≤ (x4 + (1 : Int32)).toNatClampNeg then none else (b2 (D_L_count (xs (x4 + (1 : Int32)).toNatClampNeg) h m u) (fun v2 m3 => if (x4 + (1 : Int32)) < 0 ∨ L ≤ (x4 + (1 : Int32)).toNatClampNeg then none else (b2 (D_X10_count (xs (x4 + (1 : Int32)).toNatClampNeg) x) (fun v6 m7 => b1 (D_X10_thrown m7) (fun v9 => if v9 = v2 then (if v2 = 0 then (if (gl m3 0 0) = v6.toInt64 then (bnd (x4 + (3 : Int32)) (fun v12 => k v12 h m f c0 c1 m7 m3)) else (none)) else (bnd (x4 + (3 : Int32)) (fun v11 => k v11 h m f c0 c1 m7 m3))) else (none))))))
set_option maxHeartbeats 4000000 in
set_option maxRecDepth 100000 in
theorem c_L_law_383 (l : Launch) (hst : l.stackTraces = false) {p : Program} {e : Env} {s : State} {m0 : MethodId} {below : List Frame} {meth : Method} {c : Code} {b L : Nat} {xs : Nat → Int32} {D : va_G} {cs : Nat → ClassId} {A : Nat → Prop} {Q : State → Prop} {adh ad adf ad0 ad1 adx adu ma : Nat → Nat} {Wf : MM → MM → MM → MM → MM → MM → MM → va_W} (hLh : ∀ m f c0 c1 x u : MM, Ln 8 adh (hsh cs adh ma) (fun z => Wf z m f c0 c1 x u)) (hL : ∀ h f c0 c1 x u : MM, Ln 51 ad (msh cs ad) (fun z => Wf h z f c0 c1 x u)) (hLf : ∀ h m c0 c1 x u : MM, Ln 51 adf (msh cs adf) (fun z => Wf h m z c0 c1 x u)) (hL0 : ∀ h m f c1 x u : MM, Ln 51 ad0 (msh cs ad0) (fun z => Wf h m f z c1 x u)) (hL1 : ∀ h m f c0 x u : MM, Ln 51 ad1 (msh cs ad1) (fun z => Wf h m f c0 z x u)) (hLx : ∀ h m f c0 c1 u : MM, Ln 9 adx (xsh cs adx) (fun z => Wf h m f c0 c1 z u)) (hLu : ∀ h m f c0 c1 x : MM, Ln 1 adu (ush cs) (fun z => Wf h m f c0 c1 x z)) (hAd : ∀ a0_ b0_ a1_ b1_ a2_ b2_ a3_ b3_ a4_ b4_ a5_ b5_ a6_ b6_ : MM, (Wf a0_ a1_ a2_ a3_ a4_ a5_ a6_).map (fun q => q.1) = (Wf b0_ b1_ b2_ b3_ b4_ b5_ b6_).map (fun q => q.1)) (hm1 : ma 1 = ad 24) (hm2 : ma 2 = adf 24) (hm3 : ma 3 = ad0 24) (hm4 : ma 4 = ad1 24) (hLX : LX p s m0 c b L xs D cs A (Wf zMM zMM zMM zMM zMM zMM zMM)) (n : Nat) (k : LKont) (hk : LK p l e s m0 below meth c b D A Q adh adx adu Wf n k) (x4 : Int32) (h : MM) (m : MM) (f : MM) (c0 : MM) (c1 : MM) (x : MM) (u : MM) (cells slots : Nat) (H : Heap) (locs : List Loc) (ls : Array Slot) (hD : D_L_law_383 L xs k x4 h m f c0 c1 x u = some ()) (hcl : cells + (n + 1) ≤ 601024) (hsl : slots + 6 * (n + 1) ≤ 7293034) (hP : va_P D vwCl (Wf h m f c0 c1 x u) H) (hS : va_S A s.heap H locs) (hl : lv_has ls 8 [(0, .ref b), (1, .ref (adh 0)), (2, .ref (adx 0)), (3, .ref (adu 0)), (4, .int x4)]) : W p l e room_1 s m0 #[Value.ref b] below meth c H locs cells slots Q (F0 m0 383 ls []) := by
  obtain ⟨hx, hb, hml, hown, hK, hT⟩ := hLX.rest
  obtain ⟨Fx0, hX, hbl, hbA, hD1, hA1⟩ := hLX
  unfold D_L_law_383 at hD
  refine lv_aload_n hx hb dL_law_383 rfl (lv_at hl 1 rfl) ?_
  refine lv_aload_n hx hb dL_law_384 rfl (lv_at hl 0 rfl) ?_
  refine lv_iload hx hb dL_law_385 (lv_at hl 4 rfl) ?_
  refine lv_iconst (v := (1 : Int32)) hx hb dL_law_387 (by decide) ?_
  refine lv_iadd hx hb dL_law_388 ?_
  obtain ⟨h1, hD⟩ := gd_el hD
  refine va_sld hx hb hX hbl hbA hS h1 dL_law_389 ?_
  refine lv_aload_n hx hb dL_law_390 rfl (lv_at hl 3 rfl) ?_
  obtain ⟨v2, m3, z4, hD⟩ := b2_el hD
  refine lrL (As := [.ref (adh 0), .int (xs (x4 + (1 : Int32)).toNatClampNeg), .ref (adu 0)]) (rest := []) Fx0 (c_L_count l hst (Wf := fun z0_ z1_ z2_ => Wf z0_ z1_ f c0 c1 x z2_) (fun z1_ z2_ => hLh z1_ f c0 c1 x z2_) (fun z0_ z2_ => hL z0_ f c0 c1 x z2_) (fun z0_ z1_ => hLu z0_ z1_ f c0 c1 x) (fun a0_ b0_ a1_ b1_ a2_ b2_ => hAd a0_ b0_ a1_ b1_ f f c0 c0 c1 c1 x x a2_ b2_) hm1 h m u (xs (x4 + (1 : Int32)).toNatClampNeg) z4) hP (hD1 _ (hAd _ _ _ _ _ _ _ _ _ _ _ _ _ _)) hS (hA1 _ _ (hAd _ _ _ _ _ _ _ _ _ _ _ _ _ _) hS.1) tw_5_44 tw_5_42 tw_5_43 tw_1_0 yd_L_count ⟨(Nat.le_of_ble_eq_true rfl), (Nat.le_of_ble_eq_true rfl)⟩ ⟨show _ + 1 ≤ 601024 by omega, show _ + 6 ≤ 7293034 by omega⟩ rfl hl.1 rfl (Nat.le_of_ble_eq_true rfl) dL_law_391 (fun H locs hP hS => ?_)
  refine lv_istore (lv' := [(5, .int v2), (0, .ref b), (1, .ref (adh 0)), (2, .ref (adx 0)), (3, .ref (adu 0)), (4, .int x4)]) hx hb dL_law_394 hl (by decide) rfl (fun ls hl => ?_)
  refine lv_aload_n hx hb dL_law_396 rfl (lv_at hl 3 rfl) ?_
  refine lv_aload_n hx hb dL_law_397 rfl (lv_at hl 1 rfl) ?_
  refine lv_iload hx hb dL_law_398 (lv_at hl 5 rfl) ?_
  refine lv_iconst (v := (1 : Int32)) hx hb dL_law_400 (by decide) ?_
  refine lv_iadd hx hb dL_law_401 ?_
  obtain ⟨h5, hD⟩ := gd_el hD
  refine va_sld hx hb hX hbl hbA hS h5 dL_law_402 ?_
  obtain ⟨v6, m7, z8, hD⟩ := b2_el hD
  refine lrV (Wf := fun z => Wf h m f c0 c1 z m3) (mm := x) (As := [.int (xs (x4 + (1 : Int32)).toNatClampNeg)]) (rest := []) Fx0 (c_X10_count l (Wf := fun z0_ => Wf h m f c0 c1 z0_ m3) (hLx h m f c0 c1 m3) (fun a0_ b0_ => hAd h h m m f f c0 c0 c1 c1 a0_ b0_ m3 m3) x (xs (x4 + (1 : Int32)).toNatClampNeg) z8) hP (hD1 _ (hAd _ _ _ _ _ _ _ _ _ _ _ _ _ _)) hS (hA1 _ _ (hAd _ _ _ _ _ _ _ _ _ _ _ _ _ _) hS.1) (hLx h m f c0 c1 m3) (Nat.le_of_ble_eq_true rfl) (xs0 _ _) rfl tw_7_154 tw_7_151 tw_7_152 tw_7_153 tw_1_13 yd_X10_count ⟨(Nat.le_of_ble_eq_true rfl), (Nat.le_of_ble_eq_true rfl)⟩ ⟨show _ ≤ 601024 by omega, show _ ≤ 7293034 by omega⟩ rfl hl.1 rfl (Nat.le_of_ble_eq_true rfl) dL_law_403 (fun H locs hP hS => ?_)
  refine lv_istore (lv' := [(6, .int v6), (5, .int v2), (0, .ref b), (1, .ref (adh 0)), (2, .ref (adx 0)), (3, .ref (adu 0)), (4, .int x4)]) hx hb dL_law_406 hl (by decide) rfl (fun ls hl => ?_)
  refine lv_aload_n hx hb dL_law_408 rfl (lv_at hl 4 rfl) ?_
  obtain ⟨v9, z10, hD⟩ := b1_el hD
  refine lrV (Wf := fun z => Wf h m f c0 c1 z m3) (mm := m7) (As := []) (rest := []) Fx0 (c_X10_thrown l (Wf := fun z0_ => Wf h m f c0 c1 z0_ m3) (hLx h m f c0 c1 m3) (fun a0_ b0_ => hAd h h m m f f c0 c0 c1 c1 a0_ b0_ m3 m3) m7 z10) hP (hD1 _ (hAd _ _ _ _ _ _ _ _ _ _ _ _ _ _)) hS (hA1 _ _ (hAd _ _ _ _ _ _ _ _ _ _ _ _ _ _) hS.1) (hLx h m f c0 c1 m3) (Nat.le_of_ble_eq_true rfl) (xs0 _ _) rfl tw_7_30 tw_7_27 tw_7_28 tw_7_29 tw_1_13 yd_X10_thrown ⟨(Nat.le_of_ble_eq_true rfl), (Nat.le_of_ble_eq_true rfl)⟩ ⟨show _ ≤ 601024 by omega, show _ ≤ 7293034 by omega⟩ rfl hl.1 rfl (Nat.le_of_ble_eq_true rfl) dL_law_409 (fun H locs hP hS => ?_)
  refine lv_iload hx hb dL_law_412 (lv_at hl 1 rfl) ?_
  refine lv_icmp_eq (tgt := 419) hx hb dL_law_414 (by decide) (fun c => ?_) (fun c => ?_)
  · have hD := ifp hD c
    refine lv_iload hx hb dL_law_419 (lv_at hl 1 rfl) ?_
    refine lv_if_ne (tgt := 436) hx hb dL_law_421 (by decide) (fun c => ?_) (fun c => ?_)
    · have hD := ifn hD c
      refine lv_goto (tgt := 2964) hx hb dL_law_436 (by decide) ?_
      obtain ⟨v11, ev11, hD⟩ := bnd_el hD
      refine lv_iinc (v := v11) (lv' := [(4, .int v11), (6, .int v6), (5, .int v2), (0, .ref b), (1, .ref (adh 0)), (2, .ref (adx 0)), (3, .ref (adu 0))]) hx hb dL_law_2964 hl (k := 6) rfl (by rw [ev11]; rfl) (by decide) rfl (fun ls hl => ?_)
      refine lv_goto (tgt := 23) hx hb dL_law_2967 (by decide) ?_
      exact hk v11 h m f c0 c1 m7 m3 _ _ _ _ _ hD (show _ + n ≤ 601024 by omega) (show _ + 6 * n ≤ 7293034 by omega) hP hS (lv_sub hl [3, 4, 5, 6, 0] rfl)
    · have hD := ifp hD c
      refine lv_aload_n hx hb dL_law_424 rfl (lv_at hl 5 rfl) ?_
      refine lv_iconst (v := (0 : Int32)) hx hb dL_law_425 (by decide) ?_
      refine rlald (Wf := fun z => Wf h m f c0 c1 m7 z) (mm := m3) hx hb hK hP (hLu h m f c0 c1 m7) 0 (Nat.le_of_ble_eq_true rfl) (us0 _ _) (by decide) (j := 0) (by decide) dL_law_426 ?_
      refine lv_iload hx hb dL_law_427 (lv_at hl 0 rfl) ?_
      refine lv_i2l (v := v6.toInt64) hx hb dL_law_429 rfl ?_
      refine rlc_eq (tgt := 436) hx hb dL_law_430 dL_law_431 (by decide) (fun c => ?_) (fun c => ?_)
      · have hD := ifp hD c
        refine lv_goto (tgt := 2964) hx hb dL_law_436 (by decide) ?_
        obtain ⟨v12, ev12, hD⟩ := bnd_el hD
        refine lv_iinc (v := v12) (lv' := [(4, .int v12), (6, .int v6), (5, .int v2), (0, .ref b), (1, .ref (adh 0)), (2, .ref (adx 0)), (3, .ref (adu 0))]) hx hb dL_law_2964 hl (k := 6) rfl (by rw [ev12]; rfl) (by decide) rfl (fun ls hl => ?_)
        refine lv_goto (tgt := 23) hx hb dL_law_2967 (by decide) ?_
        exact hk v12 h m f c0 c1 m7 m3 _ _ _ _ _ hD (show _ + n ≤ 601024 by omega) (show _ + 6 * n ≤ 7293034 by omega) hP hS (lv_sub hl [3, 4, 5, 6, 0] rfl)
      · have hD := ifn hD c
        refine lv_iconst (v := (0 : Int32)) hx hb dL_law_434 (by decide) ?_
        exact nn_el hD
  · have hD := ifn hD c
    refine lv_iconst (v := (0 : Int32)) hx hb dL_law_417 (by decide) ?_
    exact nn_el hD
noncomputable def D_L_law_439 (L : Nat) (xs : Nat → Int32) (k : LKont) (x4 : Int32) (h : MM) (m : MM) (f : MM) (c0 : MM) (c1 : MM) (x : MM) (u : MM) : Option Unit := if (x4 + (1 : Int32)) < 0 ∨ L ≤ (x4 + (1 : Int32)).toNatClampNeg then none else (b2 (D_L_setting (xs (x4 + (1 : Int32)).toNatClampNeg) h m u) (fun v2 m3 => if (x4 + (1 : Int32)) < 0 ∨ L ≤ (x4 + (1 : Int32)).toNatClampNeg then none else (b2 (D_X10_setting (xs (x4 + (1 : Int32)).toNatClampNeg) x) (fun v6 m7 => b1 (D_X10_thrown m7) (fun v9 => if v9 = v2 then (if v2 = 0 then (if (gl m3 0 0) = v6.toInt64 then (bnd (x4 + (3 : Int32)) (fun v12 => k v12 h m f c0 c1 m7 m3)) else (none)) else (bnd (x4 + (3 : Int32)) (fun v11 => k v11 h m f c0 c1 m7 m3))) else (none))))))
set_option maxHeartbeats 4000000 in
set_option maxRecDepth 100000 in
theorem c_L_law_439 (l : Launch) (hst : l.stackTraces = false) {p : Program} {e : Env} {s : State} {m0 : MethodId} {below : List Frame} {meth : Method} {c : Code} {b L : Nat} {xs : Nat → Int32} {D : va_G} {cs : Nat → ClassId} {A : Nat → Prop} {Q : State → Prop} {adh ad adf ad0 ad1 adx adu ma : Nat → Nat} {Wf : MM → MM → MM → MM → MM → MM → MM → va_W} (hLh : ∀ m f c0 c1 x u : MM, Ln 8 adh (hsh cs adh ma) (fun z => Wf z m f c0 c1 x u)) (hL : ∀ h f c0 c1 x u : MM, Ln 51 ad (msh cs ad) (fun z => Wf h z f c0 c1 x u)) (hLf : ∀ h m c0 c1 x u : MM, Ln 51 adf (msh cs adf) (fun z => Wf h m z c0 c1 x u)) (hL0 : ∀ h m f c1 x u : MM, Ln 51 ad0 (msh cs ad0) (fun z => Wf h m f z c1 x u)) (hL1 : ∀ h m f c0 x u : MM, Ln 51 ad1 (msh cs ad1) (fun z => Wf h m f c0 z x u)) (hLx : ∀ h m f c0 c1 u : MM, Ln 9 adx (xsh cs adx) (fun z => Wf h m f c0 c1 z u)) (hLu : ∀ h m f c0 c1 x : MM, Ln 1 adu (ush cs) (fun z => Wf h m f c0 c1 x z)) (hAd : ∀ a0_ b0_ a1_ b1_ a2_ b2_ a3_ b3_ a4_ b4_ a5_ b5_ a6_ b6_ : MM, (Wf a0_ a1_ a2_ a3_ a4_ a5_ a6_).map (fun q => q.1) = (Wf b0_ b1_ b2_ b3_ b4_ b5_ b6_).map (fun q => q.1)) (hm1 : ma 1 = ad 24) (hm2 : ma 2 = adf 24) (hm3 : ma 3 = ad0 24) (hm4 : ma 4 = ad1 24) (hLX : LX p s m0 c b L xs D cs A (Wf zMM zMM zMM zMM zMM zMM zMM)) (n : Nat) (k : LKont) (hk : LK p l e s m0 below meth c b D A Q adh adx adu Wf n k) (x4 : Int32) (h : MM) (m : MM) (f : MM) (c0 : MM) (c1 : MM) (x : MM) (u : MM) (cells slots : Nat) (H : Heap) (locs : List Loc) (ls : Array Slot) (hD : D_L_law_439 L xs k x4 h m f c0 c1 x u = some ()) (hcl : cells + (n + 1) ≤ 601024) (hsl : slots + 6 * (n + 1) ≤ 7293034) (hP : va_P D vwCl (Wf h m f c0 c1 x u) H) (hS : va_S A s.heap H locs) (hl : lv_has ls 8 [(0, .ref b), (1, .ref (adh 0)), (2, .ref (adx 0)), (3, .ref (adu 0)), (4, .int x4)]) : W p l e room_1 s m0 #[Value.ref b] below meth c H locs cells slots Q (F0 m0 439 ls []) := by
  obtain ⟨hx, hb, hml, hown, hK, hT⟩ := hLX.rest
  obtain ⟨Fx0, hX, hbl, hbA, hD1, hA1⟩ := hLX
  unfold D_L_law_439 at hD
  refine lv_aload_n hx hb dL_law_439 rfl (lv_at hl 1 rfl) ?_
  refine lv_aload_n hx hb dL_law_440 rfl (lv_at hl 0 rfl) ?_
  refine lv_iload hx hb dL_law_441 (lv_at hl 4 rfl) ?_
  refine lv_iconst (v := (1 : Int32)) hx hb dL_law_443 (by decide) ?_
  refine lv_iadd hx hb dL_law_444 ?_
  obtain ⟨h1, hD⟩ := gd_el hD
  refine va_sld hx hb hX hbl hbA hS h1 dL_law_445 ?_
  refine lv_aload_n hx hb dL_law_446 rfl (lv_at hl 3 rfl) ?_
  obtain ⟨v2, m3, z4, hD⟩ := b2_el hD
  refine lrL (As := [.ref (adh 0), .int (xs (x4 + (1 : Int32)).toNatClampNeg), .ref (adu 0)]) (rest := []) Fx0 (c_L_setting l hst (Wf := fun z0_ z1_ z2_ => Wf z0_ z1_ f c0 c1 x z2_) (fun z1_ z2_ => hLh z1_ f c0 c1 x z2_) (fun z0_ z2_ => hL z0_ f c0 c1 x z2_) (fun z0_ z1_ => hLu z0_ z1_ f c0 c1 x) (fun a0_ b0_ a1_ b1_ a2_ b2_ => hAd a0_ b0_ a1_ b1_ f f c0 c0 c1 c1 x x a2_ b2_) hm1 h m u (xs (x4 + (1 : Int32)).toNatClampNeg) z4) hP (hD1 _ (hAd _ _ _ _ _ _ _ _ _ _ _ _ _ _)) hS (hA1 _ _ (hAd _ _ _ _ _ _ _ _ _ _ _ _ _ _) hS.1) tw_5_118 tw_5_116 tw_5_117 tw_1_0 yd_L_setting ⟨(Nat.le_of_ble_eq_true rfl), (Nat.le_of_ble_eq_true rfl)⟩ ⟨show _ + 1 ≤ 601024 by omega, show _ + 6 ≤ 7293034 by omega⟩ rfl hl.1 rfl (Nat.le_of_ble_eq_true rfl) dL_law_447 (fun H locs hP hS => ?_)
  refine lv_istore (lv' := [(5, .int v2), (0, .ref b), (1, .ref (adh 0)), (2, .ref (adx 0)), (3, .ref (adu 0)), (4, .int x4)]) hx hb dL_law_450 hl (by decide) rfl (fun ls hl => ?_)
  refine lv_aload_n hx hb dL_law_452 rfl (lv_at hl 3 rfl) ?_
  refine lv_aload_n hx hb dL_law_453 rfl (lv_at hl 1 rfl) ?_
  refine lv_iload hx hb dL_law_454 (lv_at hl 5 rfl) ?_
  refine lv_iconst (v := (1 : Int32)) hx hb dL_law_456 (by decide) ?_
  refine lv_iadd hx hb dL_law_457 ?_
  obtain ⟨h5, hD⟩ := gd_el hD
  refine va_sld hx hb hX hbl hbA hS h5 dL_law_458 ?_
  obtain ⟨v6, m7, z8, hD⟩ := b2_el hD
  refine lrV (Wf := fun z => Wf h m f c0 c1 z m3) (mm := x) (As := [.int (xs (x4 + (1 : Int32)).toNatClampNeg)]) (rest := []) Fx0 (c_X10_setting l (Wf := fun z0_ => Wf h m f c0 c1 z0_ m3) (hLx h m f c0 c1 m3) (fun a0_ b0_ => hAd h h m m f f c0 c0 c1 c1 a0_ b0_ m3 m3) x (xs (x4 + (1 : Int32)).toNatClampNeg) z8) hP (hD1 _ (hAd _ _ _ _ _ _ _ _ _ _ _ _ _ _)) hS (hA1 _ _ (hAd _ _ _ _ _ _ _ _ _ _ _ _ _ _) hS.1) (hLx h m f c0 c1 m3) (Nat.le_of_ble_eq_true rfl) (xs0 _ _) rfl tw_7_167 tw_7_164 tw_7_165 tw_7_166 tw_1_13 yd_X10_setting ⟨(Nat.le_of_ble_eq_true rfl), (Nat.le_of_ble_eq_true rfl)⟩ ⟨show _ ≤ 601024 by omega, show _ ≤ 7293034 by omega⟩ rfl hl.1 rfl (Nat.le_of_ble_eq_true rfl) dL_law_459 (fun H locs hP hS => ?_)
  refine lv_istore (lv' := [(6, .int v6), (5, .int v2), (0, .ref b), (1, .ref (adh 0)), (2, .ref (adx 0)), (3, .ref (adu 0)), (4, .int x4)]) hx hb dL_law_462 hl (by decide) rfl (fun ls hl => ?_)
  refine lv_aload_n hx hb dL_law_464 rfl (lv_at hl 4 rfl) ?_
  obtain ⟨v9, z10, hD⟩ := b1_el hD
  refine lrV (Wf := fun z => Wf h m f c0 c1 z m3) (mm := m7) (As := []) (rest := []) Fx0 (c_X10_thrown l (Wf := fun z0_ => Wf h m f c0 c1 z0_ m3) (hLx h m f c0 c1 m3) (fun a0_ b0_ => hAd h h m m f f c0 c0 c1 c1 a0_ b0_ m3 m3) m7 z10) hP (hD1 _ (hAd _ _ _ _ _ _ _ _ _ _ _ _ _ _)) hS (hA1 _ _ (hAd _ _ _ _ _ _ _ _ _ _ _ _ _ _) hS.1) (hLx h m f c0 c1 m3) (Nat.le_of_ble_eq_true rfl) (xs0 _ _) rfl tw_7_30 tw_7_27 tw_7_28 tw_7_29 tw_1_13 yd_X10_thrown ⟨(Nat.le_of_ble_eq_true rfl), (Nat.le_of_ble_eq_true rfl)⟩ ⟨show _ ≤ 601024 by omega, show _ ≤ 7293034 by omega⟩ rfl hl.1 rfl (Nat.le_of_ble_eq_true rfl) dL_law_465 (fun H locs hP hS => ?_)
  refine lv_iload hx hb dL_law_468 (lv_at hl 1 rfl) ?_
  refine lv_icmp_eq (tgt := 475) hx hb dL_law_470 (by decide) (fun c => ?_) (fun c => ?_)
  · have hD := ifp hD c
    refine lv_iload hx hb dL_law_475 (lv_at hl 1 rfl) ?_
    refine lv_if_ne (tgt := 492) hx hb dL_law_477 (by decide) (fun c => ?_) (fun c => ?_)
    · have hD := ifn hD c
      refine lv_goto (tgt := 2964) hx hb dL_law_492 (by decide) ?_
      obtain ⟨v11, ev11, hD⟩ := bnd_el hD
      refine lv_iinc (v := v11) (lv' := [(4, .int v11), (6, .int v6), (5, .int v2), (0, .ref b), (1, .ref (adh 0)), (2, .ref (adx 0)), (3, .ref (adu 0))]) hx hb dL_law_2964 hl (k := 6) rfl (by rw [ev11]; rfl) (by decide) rfl (fun ls hl => ?_)
      refine lv_goto (tgt := 23) hx hb dL_law_2967 (by decide) ?_
      exact hk v11 h m f c0 c1 m7 m3 _ _ _ _ _ hD (show _ + n ≤ 601024 by omega) (show _ + 6 * n ≤ 7293034 by omega) hP hS (lv_sub hl [3, 4, 5, 6, 0] rfl)
    · have hD := ifp hD c
      refine lv_aload_n hx hb dL_law_480 rfl (lv_at hl 5 rfl) ?_
      refine lv_iconst (v := (0 : Int32)) hx hb dL_law_481 (by decide) ?_
      refine rlald (Wf := fun z => Wf h m f c0 c1 m7 z) (mm := m3) hx hb hK hP (hLu h m f c0 c1 m7) 0 (Nat.le_of_ble_eq_true rfl) (us0 _ _) (by decide) (j := 0) (by decide) dL_law_482 ?_
      refine lv_iload hx hb dL_law_483 (lv_at hl 0 rfl) ?_
      refine lv_i2l (v := v6.toInt64) hx hb dL_law_485 rfl ?_
      refine rlc_eq (tgt := 492) hx hb dL_law_486 dL_law_487 (by decide) (fun c => ?_) (fun c => ?_)
      · have hD := ifp hD c
        refine lv_goto (tgt := 2964) hx hb dL_law_492 (by decide) ?_
        obtain ⟨v12, ev12, hD⟩ := bnd_el hD
        refine lv_iinc (v := v12) (lv' := [(4, .int v12), (6, .int v6), (5, .int v2), (0, .ref b), (1, .ref (adh 0)), (2, .ref (adx 0)), (3, .ref (adu 0))]) hx hb dL_law_2964 hl (k := 6) rfl (by rw [ev12]; rfl) (by decide) rfl (fun ls hl => ?_)
        refine lv_goto (tgt := 23) hx hb dL_law_2967 (by decide) ?_
        exact hk v12 h m f c0 c1 m7 m3 _ _ _ _ _ hD (show _ + n ≤ 601024 by omega) (show _ + 6 * n ≤ 7293034 by omega) hP hS (lv_sub hl [3, 4, 5, 6, 0] rfl)
      · have hD := ifn hD c
        refine lv_iconst (v := (0 : Int32)) hx hb dL_law_490 (by decide) ?_
        exact nn_el hD
  · have hD := ifn hD c
    refine lv_iconst (v := (0 : Int32)) hx hb dL_law_473 (by decide) ?_
    exact nn_el hD
noncomputable def D_L_law_495 (L : Nat) (xs : Nat → Int32) (k : LKont) (x4 : Int32) (h : MM) (m : MM) (f : MM) (c0 : MM) (c1 : MM) (x : MM) (u : MM) : Option Unit := if (x4 + (1 : Int32)) < 0 ∨ L ≤ (x4 + (1 : Int32)).toNatClampNeg then none else (if (x4 + (2 : Int32)) < 0 ∨ L ≤ (x4 + (2 : Int32)).toNatClampNeg then none else (b3 (D_L_set (xs (x4 + (1 : Int32)).toNatClampNeg) (xs (x4 + (2 : Int32)).toNatClampNeg) h m u) (fun v3 m4 m5 => if (x4 + (1 : Int32)) < 0 ∨ L ≤ (x4 + (1 : Int32)).toNatClampNeg then none else (if (x4 + (2 : Int32)) < 0 ∨ L ≤ (x4 + (2 : Int32)).toNatClampNeg then none else (b2 (D_X10_set (xs (x4 + (1 : Int32)).toNatClampNeg) (xs (x4 + (2 : Int32)).toNatClampNeg) x) (fun v9 m10 => b1 (D_X10_thrown m10) (fun v12 => if v12 = v3 then (if v3 = 0 then (if (gl m5 0 0) = v9.toInt64 then (bnd (x4 + (3 : Int32)) (fun v15 => k v15 h m4 f c0 c1 m10 m5)) else (none)) else (bnd (x4 + (3 : Int32)) (fun v14 => k v14 h m4 f c0 c1 m10 m5))) else (none))))))))
set_option maxHeartbeats 4000000 in
set_option maxRecDepth 100000 in
theorem c_L_law_495 (l : Launch) (hst : l.stackTraces = false) {p : Program} {e : Env} {s : State} {m0 : MethodId} {below : List Frame} {meth : Method} {c : Code} {b L : Nat} {xs : Nat → Int32} {D : va_G} {cs : Nat → ClassId} {A : Nat → Prop} {Q : State → Prop} {adh ad adf ad0 ad1 adx adu ma : Nat → Nat} {Wf : MM → MM → MM → MM → MM → MM → MM → va_W} (hLh : ∀ m f c0 c1 x u : MM, Ln 8 adh (hsh cs adh ma) (fun z => Wf z m f c0 c1 x u)) (hL : ∀ h f c0 c1 x u : MM, Ln 51 ad (msh cs ad) (fun z => Wf h z f c0 c1 x u)) (hLf : ∀ h m c0 c1 x u : MM, Ln 51 adf (msh cs adf) (fun z => Wf h m z c0 c1 x u)) (hL0 : ∀ h m f c1 x u : MM, Ln 51 ad0 (msh cs ad0) (fun z => Wf h m f z c1 x u)) (hL1 : ∀ h m f c0 x u : MM, Ln 51 ad1 (msh cs ad1) (fun z => Wf h m f c0 z x u)) (hLx : ∀ h m f c0 c1 u : MM, Ln 9 adx (xsh cs adx) (fun z => Wf h m f c0 c1 z u)) (hLu : ∀ h m f c0 c1 x : MM, Ln 1 adu (ush cs) (fun z => Wf h m f c0 c1 x z)) (hAd : ∀ a0_ b0_ a1_ b1_ a2_ b2_ a3_ b3_ a4_ b4_ a5_ b5_ a6_ b6_ : MM, (Wf a0_ a1_ a2_ a3_ a4_ a5_ a6_).map (fun q => q.1) = (Wf b0_ b1_ b2_ b3_ b4_ b5_ b6_).map (fun q => q.1)) (hm1 : ma 1 = ad 24) (hm2 : ma 2 = adf 24) (hm3 : ma 3 = ad0 24) (hm4 : ma 4 = ad1 24) (hLX : LX p s m0 c b L xs D cs A (Wf zMM zMM zMM zMM zMM zMM zMM)) (n : Nat) (k : LKont) (hk : LK p l e s m0 below meth c b D A Q adh adx adu Wf n k) (x4 : Int32) (h : MM) (m : MM) (f : MM) (c0 : MM) (c1 : MM) (x : MM) (u : MM) (cells slots : Nat) (H : Heap) (locs : List Loc) (ls : Array Slot) (hD : D_L_law_495 L xs k x4 h m f c0 c1 x u = some ()) (hcl : cells + (n + 1) ≤ 601024) (hsl : slots + 6 * (n + 1) ≤ 7293034) (hP : va_P D vwCl (Wf h m f c0 c1 x u) H) (hS : va_S A s.heap H locs) (hl : lv_has ls 8 [(0, .ref b), (1, .ref (adh 0)), (2, .ref (adx 0)), (3, .ref (adu 0)), (4, .int x4)]) : W p l e room_1 s m0 #[Value.ref b] below meth c H locs cells slots Q (F0 m0 495 ls []) := by
  obtain ⟨hx, hb, hml, hown, hK, hT⟩ := hLX.rest
  obtain ⟨Fx0, hX, hbl, hbA, hD1, hA1⟩ := hLX
  unfold D_L_law_495 at hD
  refine lv_aload_n hx hb dL_law_495 rfl (lv_at hl 1 rfl) ?_
  refine lv_aload_n hx hb dL_law_496 rfl (lv_at hl 0 rfl) ?_
  refine lv_iload hx hb dL_law_497 (lv_at hl 4 rfl) ?_
  refine lv_iconst (v := (1 : Int32)) hx hb dL_law_499 (by decide) ?_
  refine lv_iadd hx hb dL_law_500 ?_
  obtain ⟨h1, hD⟩ := gd_el hD
  refine va_sld hx hb hX hbl hbA hS h1 dL_law_501 ?_
  refine lv_aload_n hx hb dL_law_502 rfl (lv_at hl 0 rfl) ?_
  refine lv_iload hx hb dL_law_503 (lv_at hl 4 rfl) ?_
  refine lv_iconst (v := (2 : Int32)) hx hb dL_law_505 (by decide) ?_
  refine lv_iadd hx hb dL_law_506 ?_
  obtain ⟨h2, hD⟩ := gd_el hD
  refine va_sld hx hb hX hbl hbA hS h2 dL_law_507 ?_
  refine lv_aload_n hx hb dL_law_508 rfl (lv_at hl 3 rfl) ?_
  obtain ⟨v3, m4, m5, z6, hD⟩ := b3_el hD
  refine lrL (As := [.ref (adh 0), .int (xs (x4 + (1 : Int32)).toNatClampNeg), .int (xs (x4 + (2 : Int32)).toNatClampNeg), .ref (adu 0)]) (rest := []) Fx0 (c_L_set l hst (Wf := fun z0_ z1_ z2_ => Wf z0_ z1_ f c0 c1 x z2_) (fun z1_ z2_ => hLh z1_ f c0 c1 x z2_) (fun z0_ z2_ => hL z0_ f c0 c1 x z2_) (fun z0_ z1_ => hLu z0_ z1_ f c0 c1 x) (fun a0_ b0_ a1_ b1_ a2_ b2_ => hAd a0_ b0_ a1_ b1_ f f c0 c0 c1 c1 x x a2_ b2_) hm1 h m u (xs (x4 + (1 : Int32)).toNatClampNeg) (xs (x4 + (2 : Int32)).toNatClampNeg) z6) hP (hD1 _ (hAd _ _ _ _ _ _ _ _ _ _ _ _ _ _)) hS (hA1 _ _ (hAd _ _ _ _ _ _ _ _ _ _ _ _ _ _) hS.1) tw_5_129 tw_5_127 tw_5_128 tw_1_0 yd_L_set ⟨(Nat.le_of_ble_eq_true rfl), (Nat.le_of_ble_eq_true rfl)⟩ ⟨show _ + 1 ≤ 601024 by omega, show _ + 6 ≤ 7293034 by omega⟩ rfl hl.1 rfl (Nat.le_of_ble_eq_true rfl) dL_law_509 (fun H locs hP hS => ?_)
  refine lv_istore (lv' := [(5, .int v3), (0, .ref b), (1, .ref (adh 0)), (2, .ref (adx 0)), (3, .ref (adu 0)), (4, .int x4)]) hx hb dL_law_512 hl (by decide) rfl (fun ls hl => ?_)
  refine lv_aload_n hx hb dL_law_514 rfl (lv_at hl 3 rfl) ?_
  refine lv_aload_n hx hb dL_law_515 rfl (lv_at hl 1 rfl) ?_
  refine lv_iload hx hb dL_law_516 (lv_at hl 5 rfl) ?_
  refine lv_iconst (v := (1 : Int32)) hx hb dL_law_518 (by decide) ?_
  refine lv_iadd hx hb dL_law_519 ?_
  obtain ⟨h7, hD⟩ := gd_el hD
  refine va_sld hx hb hX hbl hbA hS h7 dL_law_520 ?_
  refine lv_aload_n hx hb dL_law_521 rfl (lv_at hl 1 rfl) ?_
  refine lv_iload hx hb dL_law_522 (lv_at hl 5 rfl) ?_
  refine lv_iconst (v := (2 : Int32)) hx hb dL_law_524 (by decide) ?_
  refine lv_iadd hx hb dL_law_525 ?_
  obtain ⟨h8, hD⟩ := gd_el hD
  refine va_sld hx hb hX hbl hbA hS h8 dL_law_526 ?_
  obtain ⟨v9, m10, z11, hD⟩ := b2_el hD
  refine lrV (Wf := fun z => Wf h m4 f c0 c1 z m5) (mm := x) (As := [.int (xs (x4 + (1 : Int32)).toNatClampNeg), .int (xs (x4 + (2 : Int32)).toNatClampNeg)]) (rest := []) Fx0 (c_X10_set l (Wf := fun z0_ => Wf h m4 f c0 c1 z0_ m5) (hLx h m4 f c0 c1 m5) (fun a0_ b0_ => hAd h h m4 m4 f f c0 c0 c1 c1 a0_ b0_ m5 m5) x (xs (x4 + (1 : Int32)).toNatClampNeg) (xs (x4 + (2 : Int32)).toNatClampNeg) z11) hP (hD1 _ (hAd _ _ _ _ _ _ _ _ _ _ _ _ _ _)) hS (hA1 _ _ (hAd _ _ _ _ _ _ _ _ _ _ _ _ _ _) hS.1) (hLx h m4 f c0 c1 m5) (Nat.le_of_ble_eq_true rfl) (xs0 _ _) rfl tw_7_172 tw_7_169 tw_7_170 tw_7_171 tw_1_13 yd_X10_set ⟨(Nat.le_of_ble_eq_true rfl), (Nat.le_of_ble_eq_true rfl)⟩ ⟨show _ ≤ 601024 by omega, show _ ≤ 7293034 by omega⟩ rfl hl.1 rfl (Nat.le_of_ble_eq_true rfl) dL_law_527 (fun H locs hP hS => ?_)
  refine lv_istore (lv' := [(6, .int v9), (5, .int v3), (0, .ref b), (1, .ref (adh 0)), (2, .ref (adx 0)), (3, .ref (adu 0)), (4, .int x4)]) hx hb dL_law_530 hl (by decide) rfl (fun ls hl => ?_)
  refine lv_aload_n hx hb dL_law_532 rfl (lv_at hl 4 rfl) ?_
  obtain ⟨v12, z13, hD⟩ := b1_el hD
  refine lrV (Wf := fun z => Wf h m4 f c0 c1 z m5) (mm := m10) (As := []) (rest := []) Fx0 (c_X10_thrown l (Wf := fun z0_ => Wf h m4 f c0 c1 z0_ m5) (hLx h m4 f c0 c1 m5) (fun a0_ b0_ => hAd h h m4 m4 f f c0 c0 c1 c1 a0_ b0_ m5 m5) m10 z13) hP (hD1 _ (hAd _ _ _ _ _ _ _ _ _ _ _ _ _ _)) hS (hA1 _ _ (hAd _ _ _ _ _ _ _ _ _ _ _ _ _ _) hS.1) (hLx h m4 f c0 c1 m5) (Nat.le_of_ble_eq_true rfl) (xs0 _ _) rfl tw_7_30 tw_7_27 tw_7_28 tw_7_29 tw_1_13 yd_X10_thrown ⟨(Nat.le_of_ble_eq_true rfl), (Nat.le_of_ble_eq_true rfl)⟩ ⟨show _ ≤ 601024 by omega, show _ ≤ 7293034 by omega⟩ rfl hl.1 rfl (Nat.le_of_ble_eq_true rfl) dL_law_533 (fun H locs hP hS => ?_)
  refine lv_iload hx hb dL_law_536 (lv_at hl 1 rfl) ?_
  refine lv_icmp_eq (tgt := 543) hx hb dL_law_538 (by decide) (fun c => ?_) (fun c => ?_)
  · have hD := ifp hD c
    refine lv_iload hx hb dL_law_543 (lv_at hl 1 rfl) ?_
    refine lv_if_ne (tgt := 560) hx hb dL_law_545 (by decide) (fun c => ?_) (fun c => ?_)
    · have hD := ifn hD c
      refine lv_goto (tgt := 2964) hx hb dL_law_560 (by decide) ?_
      obtain ⟨v14, ev14, hD⟩ := bnd_el hD
      refine lv_iinc (v := v14) (lv' := [(4, .int v14), (6, .int v9), (5, .int v3), (0, .ref b), (1, .ref (adh 0)), (2, .ref (adx 0)), (3, .ref (adu 0))]) hx hb dL_law_2964 hl (k := 6) rfl (by rw [ev14]; rfl) (by decide) rfl (fun ls hl => ?_)
      refine lv_goto (tgt := 23) hx hb dL_law_2967 (by decide) ?_
      exact hk v14 h m4 f c0 c1 m10 m5 _ _ _ _ _ hD (show _ + n ≤ 601024 by omega) (show _ + 6 * n ≤ 7293034 by omega) hP hS (lv_sub hl [3, 4, 5, 6, 0] rfl)
    · have hD := ifp hD c
      refine lv_aload_n hx hb dL_law_548 rfl (lv_at hl 5 rfl) ?_
      refine lv_iconst (v := (0 : Int32)) hx hb dL_law_549 (by decide) ?_
      refine rlald (Wf := fun z => Wf h m4 f c0 c1 m10 z) (mm := m5) hx hb hK hP (hLu h m4 f c0 c1 m10) 0 (Nat.le_of_ble_eq_true rfl) (us0 _ _) (by decide) (j := 0) (by decide) dL_law_550 ?_
      refine lv_iload hx hb dL_law_551 (lv_at hl 0 rfl) ?_
      refine lv_i2l (v := v9.toInt64) hx hb dL_law_553 rfl ?_
      refine rlc_eq (tgt := 560) hx hb dL_law_554 dL_law_555 (by decide) (fun c => ?_) (fun c => ?_)
      · have hD := ifp hD c
        refine lv_goto (tgt := 2964) hx hb dL_law_560 (by decide) ?_
        obtain ⟨v15, ev15, hD⟩ := bnd_el hD
        refine lv_iinc (v := v15) (lv' := [(4, .int v15), (6, .int v9), (5, .int v3), (0, .ref b), (1, .ref (adh 0)), (2, .ref (adx 0)), (3, .ref (adu 0))]) hx hb dL_law_2964 hl (k := 6) rfl (by rw [ev15]; rfl) (by decide) rfl (fun ls hl => ?_)
        refine lv_goto (tgt := 23) hx hb dL_law_2967 (by decide) ?_
        exact hk v15 h m4 f c0 c1 m10 m5 _ _ _ _ _ hD (show _ + n ≤ 601024 by omega) (show _ + 6 * n ≤ 7293034 by omega) hP hS (lv_sub hl [3, 4, 5, 6, 0] rfl)
      · have hD := ifn hD c
        refine lv_iconst (v := (0 : Int32)) hx hb dL_law_558 (by decide) ?_
        exact nn_el hD
  · have hD := ifn hD c
    refine lv_iconst (v := (0 : Int32)) hx hb dL_law_541 (by decide) ?_
    exact nn_el hD
noncomputable def D_L_law_563 (L : Nat) (xs : Nat → Int32) (k : LKont) (x4 : Int32) (h : MM) (m : MM) (f : MM) (c0 : MM) (c1 : MM) (x : MM) (u : MM) : Option Unit := if (x4 + (1 : Int32)) < 0 ∨ L ≤ (x4 + (1 : Int32)).toNatClampNeg then none else (if (x4 + (2 : Int32)) < 0 ∨ L ≤ (x4 + (2 : Int32)).toNatClampNeg then none else (b2 (D_L_spindleValue (xs (x4 + (1 : Int32)).toNatClampNeg) (xs (x4 + (2 : Int32)).toNatClampNeg) h m u) (fun v3 m4 => if (x4 + (1 : Int32)) < 0 ∨ L ≤ (x4 + (1 : Int32)).toNatClampNeg then none else (if (x4 + (2 : Int32)) < 0 ∨ L ≤ (x4 + (2 : Int32)).toNatClampNeg then none else (b2 (D_X10_spindleValue (xs (x4 + (1 : Int32)).toNatClampNeg) (xs (x4 + (2 : Int32)).toNatClampNeg) x) (fun v8 m9 => b1 (D_X10_thrown m9) (fun v11 => if v11 = v3 then (if v3 = 0 then (if (gl m4 0 0) = v8.toInt64 then (bnd (x4 + (3 : Int32)) (fun v14 => k v14 h m f c0 c1 m9 m4)) else (none)) else (bnd (x4 + (3 : Int32)) (fun v13 => k v13 h m f c0 c1 m9 m4))) else (none))))))))
set_option maxHeartbeats 4000000 in
set_option maxRecDepth 100000 in
theorem c_L_law_563 (l : Launch) (hst : l.stackTraces = false) {p : Program} {e : Env} {s : State} {m0 : MethodId} {below : List Frame} {meth : Method} {c : Code} {b L : Nat} {xs : Nat → Int32} {D : va_G} {cs : Nat → ClassId} {A : Nat → Prop} {Q : State → Prop} {adh ad adf ad0 ad1 adx adu ma : Nat → Nat} {Wf : MM → MM → MM → MM → MM → MM → MM → va_W} (hLh : ∀ m f c0 c1 x u : MM, Ln 8 adh (hsh cs adh ma) (fun z => Wf z m f c0 c1 x u)) (hL : ∀ h f c0 c1 x u : MM, Ln 51 ad (msh cs ad) (fun z => Wf h z f c0 c1 x u)) (hLf : ∀ h m c0 c1 x u : MM, Ln 51 adf (msh cs adf) (fun z => Wf h m z c0 c1 x u)) (hL0 : ∀ h m f c1 x u : MM, Ln 51 ad0 (msh cs ad0) (fun z => Wf h m f z c1 x u)) (hL1 : ∀ h m f c0 x u : MM, Ln 51 ad1 (msh cs ad1) (fun z => Wf h m f c0 z x u)) (hLx : ∀ h m f c0 c1 u : MM, Ln 9 adx (xsh cs adx) (fun z => Wf h m f c0 c1 z u)) (hLu : ∀ h m f c0 c1 x : MM, Ln 1 adu (ush cs) (fun z => Wf h m f c0 c1 x z)) (hAd : ∀ a0_ b0_ a1_ b1_ a2_ b2_ a3_ b3_ a4_ b4_ a5_ b5_ a6_ b6_ : MM, (Wf a0_ a1_ a2_ a3_ a4_ a5_ a6_).map (fun q => q.1) = (Wf b0_ b1_ b2_ b3_ b4_ b5_ b6_).map (fun q => q.1)) (hm1 : ma 1 = ad 24) (hm2 : ma 2 = adf 24) (hm3 : ma 3 = ad0 24) (hm4 : ma 4 = ad1 24) (hLX : LX p s m0 c b L xs D cs A (Wf zMM zMM zMM zMM zMM zMM zMM)) (n : Nat) (k : LKont) (hk : LK p l e s m0 below meth c b D A Q adh adx adu Wf n k) (x4 : Int32) (h : MM) (m : MM) (f : MM) (c0 : MM) (c1 : MM) (x : MM) (u : MM) (cells slots : Nat) (H : Heap) (locs : List Loc) (ls : Array Slot) (hD : D_L_law_563 L xs k x4 h m f c0 c1 x u = some ()) (hcl : cells + (n + 1) ≤ 601024) (hsl : slots + 6 * (n + 1) ≤ 7293034) (hP : va_P D vwCl (Wf h m f c0 c1 x u) H) (hS : va_S A s.heap H locs) (hl : lv_has ls 8 [(0, .ref b), (1, .ref (adh 0)), (2, .ref (adx 0)), (3, .ref (adu 0)), (4, .int x4)]) : W p l e room_1 s m0 #[Value.ref b] below meth c H locs cells slots Q (F0 m0 563 ls []) := by
  obtain ⟨hx, hb, hml, hown, hK, hT⟩ := hLX.rest
  obtain ⟨Fx0, hX, hbl, hbA, hD1, hA1⟩ := hLX
  unfold D_L_law_563 at hD
  refine lv_aload_n hx hb dL_law_563 rfl (lv_at hl 1 rfl) ?_
  refine lv_aload_n hx hb dL_law_564 rfl (lv_at hl 0 rfl) ?_
  refine lv_iload hx hb dL_law_565 (lv_at hl 4 rfl) ?_
  refine lv_iconst (v := (1 : Int32)) hx hb dL_law_567 (by decide) ?_
  refine lv_iadd hx hb dL_law_568 ?_
  obtain ⟨h1, hD⟩ := gd_el hD
  refine va_sld hx hb hX hbl hbA hS h1 dL_law_569 ?_
  refine lv_aload_n hx hb dL_law_570 rfl (lv_at hl 0 rfl) ?_
  refine lv_iload hx hb dL_law_571 (lv_at hl 4 rfl) ?_
  refine lv_iconst (v := (2 : Int32)) hx hb dL_law_573 (by decide) ?_
  refine lv_iadd hx hb dL_law_574 ?_
  obtain ⟨h2, hD⟩ := gd_el hD
  refine va_sld hx hb hX hbl hbA hS h2 dL_law_575 ?_
  refine lv_aload_n hx hb dL_law_576 rfl (lv_at hl 3 rfl) ?_
  obtain ⟨v3, m4, z5, hD⟩ := b2_el hD
  refine lrL (As := [.ref (adh 0), .int (xs (x4 + (1 : Int32)).toNatClampNeg), .int (xs (x4 + (2 : Int32)).toNatClampNeg), .ref (adu 0)]) (rest := []) Fx0 (c_L_spindleValue l hst (Wf := fun z0_ z1_ z2_ => Wf z0_ z1_ f c0 c1 x z2_) (fun z1_ z2_ => hLh z1_ f c0 c1 x z2_) (fun z0_ z2_ => hL z0_ f c0 c1 x z2_) (fun z0_ z1_ => hLu z0_ z1_ f c0 c1 x) (fun a0_ b0_ a1_ b1_ a2_ b2_ => hAd a0_ b0_ a1_ b1_ f f c0 c0 c1 c1 x x a2_ b2_) hm1 h m u (xs (x4 + (1 : Int32)).toNatClampNeg) (xs (x4 + (2 : Int32)).toNatClampNeg) z5) hP (hD1 _ (hAd _ _ _ _ _ _ _ _ _ _ _ _ _ _)) hS (hA1 _ _ (hAd _ _ _ _ _ _ _ _ _ _ _ _ _ _) hS.1) tw_5_137 tw_5_135 tw_5_136 tw_1_0 yd_L_spindleValue ⟨(Nat.le_of_ble_eq_true rfl), (Nat.le_of_ble_eq_true rfl)⟩ ⟨show _ + 1 ≤ 601024 by omega, show _ + 6 ≤ 7293034 by omega⟩ rfl hl.1 rfl (Nat.le_of_ble_eq_true rfl) dL_law_577 (fun H locs hP hS => ?_)
  refine lv_istore (lv' := [(5, .int v3), (0, .ref b), (1, .ref (adh 0)), (2, .ref (adx 0)), (3, .ref (adu 0)), (4, .int x4)]) hx hb dL_law_580 hl (by decide) rfl (fun ls hl => ?_)
  refine lv_aload_n hx hb dL_law_582 rfl (lv_at hl 3 rfl) ?_
  refine lv_aload_n hx hb dL_law_583 rfl (lv_at hl 1 rfl) ?_
  refine lv_iload hx hb dL_law_584 (lv_at hl 5 rfl) ?_
  refine lv_iconst (v := (1 : Int32)) hx hb dL_law_586 (by decide) ?_
  refine lv_iadd hx hb dL_law_587 ?_
  obtain ⟨h6, hD⟩ := gd_el hD
  refine va_sld hx hb hX hbl hbA hS h6 dL_law_588 ?_
  refine lv_aload_n hx hb dL_law_589 rfl (lv_at hl 1 rfl) ?_
  refine lv_iload hx hb dL_law_590 (lv_at hl 5 rfl) ?_
  refine lv_iconst (v := (2 : Int32)) hx hb dL_law_592 (by decide) ?_
  refine lv_iadd hx hb dL_law_593 ?_
  obtain ⟨h7, hD⟩ := gd_el hD
  refine va_sld hx hb hX hbl hbA hS h7 dL_law_594 ?_
  obtain ⟨v8, m9, z10, hD⟩ := b2_el hD
  refine lrV (Wf := fun z => Wf h m f c0 c1 z m4) (mm := x) (As := [.int (xs (x4 + (1 : Int32)).toNatClampNeg), .int (xs (x4 + (2 : Int32)).toNatClampNeg)]) (rest := []) Fx0 (c_X10_spindleValue l (Wf := fun z0_ => Wf h m f c0 c1 z0_ m4) (hLx h m f c0 c1 m4) (fun a0_ b0_ => hAd h h m m f f c0 c0 c1 c1 a0_ b0_ m4 m4) x (xs (x4 + (1 : Int32)).toNatClampNeg) (xs (x4 + (2 : Int32)).toNatClampNeg) z10) hP (hD1 _ (hAd _ _ _ _ _ _ _ _ _ _ _ _ _ _)) hS (hA1 _ _ (hAd _ _ _ _ _ _ _ _ _ _ _ _ _ _) hS.1) (hLx h m f c0 c1 m4) (Nat.le_of_ble_eq_true rfl) (xs0 _ _) rfl tw_7_182 tw_7_179 tw_7_180 tw_7_181 tw_1_13 yd_X10_spindleValue ⟨(Nat.le_of_ble_eq_true rfl), (Nat.le_of_ble_eq_true rfl)⟩ ⟨show _ ≤ 601024 by omega, show _ ≤ 7293034 by omega⟩ rfl hl.1 rfl (Nat.le_of_ble_eq_true rfl) dL_law_595 (fun H locs hP hS => ?_)
  refine lv_istore (lv' := [(6, .int v8), (5, .int v3), (0, .ref b), (1, .ref (adh 0)), (2, .ref (adx 0)), (3, .ref (adu 0)), (4, .int x4)]) hx hb dL_law_598 hl (by decide) rfl (fun ls hl => ?_)
  refine lv_aload_n hx hb dL_law_600 rfl (lv_at hl 4 rfl) ?_
  obtain ⟨v11, z12, hD⟩ := b1_el hD
  refine lrV (Wf := fun z => Wf h m f c0 c1 z m4) (mm := m9) (As := []) (rest := []) Fx0 (c_X10_thrown l (Wf := fun z0_ => Wf h m f c0 c1 z0_ m4) (hLx h m f c0 c1 m4) (fun a0_ b0_ => hAd h h m m f f c0 c0 c1 c1 a0_ b0_ m4 m4) m9 z12) hP (hD1 _ (hAd _ _ _ _ _ _ _ _ _ _ _ _ _ _)) hS (hA1 _ _ (hAd _ _ _ _ _ _ _ _ _ _ _ _ _ _) hS.1) (hLx h m f c0 c1 m4) (Nat.le_of_ble_eq_true rfl) (xs0 _ _) rfl tw_7_30 tw_7_27 tw_7_28 tw_7_29 tw_1_13 yd_X10_thrown ⟨(Nat.le_of_ble_eq_true rfl), (Nat.le_of_ble_eq_true rfl)⟩ ⟨show _ ≤ 601024 by omega, show _ ≤ 7293034 by omega⟩ rfl hl.1 rfl (Nat.le_of_ble_eq_true rfl) dL_law_601 (fun H locs hP hS => ?_)
  refine lv_iload hx hb dL_law_604 (lv_at hl 1 rfl) ?_
  refine lv_icmp_eq (tgt := 611) hx hb dL_law_606 (by decide) (fun c => ?_) (fun c => ?_)
  · have hD := ifp hD c
    refine lv_iload hx hb dL_law_611 (lv_at hl 1 rfl) ?_
    refine lv_if_ne (tgt := 628) hx hb dL_law_613 (by decide) (fun c => ?_) (fun c => ?_)
    · have hD := ifn hD c
      refine lv_goto (tgt := 2964) hx hb dL_law_628 (by decide) ?_
      obtain ⟨v13, ev13, hD⟩ := bnd_el hD
      refine lv_iinc (v := v13) (lv' := [(4, .int v13), (6, .int v8), (5, .int v3), (0, .ref b), (1, .ref (adh 0)), (2, .ref (adx 0)), (3, .ref (adu 0))]) hx hb dL_law_2964 hl (k := 6) rfl (by rw [ev13]; rfl) (by decide) rfl (fun ls hl => ?_)
      refine lv_goto (tgt := 23) hx hb dL_law_2967 (by decide) ?_
      exact hk v13 h m f c0 c1 m9 m4 _ _ _ _ _ hD (show _ + n ≤ 601024 by omega) (show _ + 6 * n ≤ 7293034 by omega) hP hS (lv_sub hl [3, 4, 5, 6, 0] rfl)
    · have hD := ifp hD c
      refine lv_aload_n hx hb dL_law_616 rfl (lv_at hl 5 rfl) ?_
      refine lv_iconst (v := (0 : Int32)) hx hb dL_law_617 (by decide) ?_
      refine rlald (Wf := fun z => Wf h m f c0 c1 m9 z) (mm := m4) hx hb hK hP (hLu h m f c0 c1 m9) 0 (Nat.le_of_ble_eq_true rfl) (us0 _ _) (by decide) (j := 0) (by decide) dL_law_618 ?_
      refine lv_iload hx hb dL_law_619 (lv_at hl 0 rfl) ?_
      refine lv_i2l (v := v8.toInt64) hx hb dL_law_621 rfl ?_
      refine rlc_eq (tgt := 628) hx hb dL_law_622 dL_law_623 (by decide) (fun c => ?_) (fun c => ?_)
      · have hD := ifp hD c
        refine lv_goto (tgt := 2964) hx hb dL_law_628 (by decide) ?_
        obtain ⟨v14, ev14, hD⟩ := bnd_el hD
        refine lv_iinc (v := v14) (lv' := [(4, .int v14), (6, .int v8), (5, .int v3), (0, .ref b), (1, .ref (adh 0)), (2, .ref (adx 0)), (3, .ref (adu 0))]) hx hb dL_law_2964 hl (k := 6) rfl (by rw [ev14]; rfl) (by decide) rfl (fun ls hl => ?_)
        refine lv_goto (tgt := 23) hx hb dL_law_2967 (by decide) ?_
        exact hk v14 h m f c0 c1 m9 m4 _ _ _ _ _ hD (show _ + n ≤ 601024 by omega) (show _ + 6 * n ≤ 7293034 by omega) hP hS (lv_sub hl [3, 4, 5, 6, 0] rfl)
      · have hD := ifn hD c
        refine lv_iconst (v := (0 : Int32)) hx hb dL_law_626 (by decide) ?_
        exact nn_el hD
  · have hD := ifn hD c
    refine lv_iconst (v := (0 : Int32)) hx hb dL_law_609 (by decide) ?_
    exact nn_el hD
noncomputable def D_L_law_631 (L : Nat) (xs : Nat → Int32) (k : LKont) (x4 : Int32) (h : MM) (m : MM) (f : MM) (c0 : MM) (c1 : MM) (x : MM) (u : MM) : Option Unit := if (x4 + (1 : Int32)) < 0 ∨ L ≤ (x4 + (1 : Int32)).toNatClampNeg then none else (b2 (D_L_freeNozzles (xs (x4 + (1 : Int32)).toNatClampNeg) h m u) (fun v2 m3 => if (x4 + (1 : Int32)) < 0 ∨ L ≤ (x4 + (1 : Int32)).toNatClampNeg then none else (b2 (D_X10_freeNozzles (xs (x4 + (1 : Int32)).toNatClampNeg) x) (fun v6 m7 => b1 (D_X10_thrown m7) (fun v9 => if v9 = v2 then (if v2 = 0 then (if (gl m3 0 0) = v6.toInt64 then (bnd (x4 + (3 : Int32)) (fun v12 => k v12 h m f c0 c1 m7 m3)) else (none)) else (bnd (x4 + (3 : Int32)) (fun v11 => k v11 h m f c0 c1 m7 m3))) else (none))))))
set_option maxHeartbeats 4000000 in
set_option maxRecDepth 100000 in
theorem c_L_law_631 (l : Launch) (hst : l.stackTraces = false) {p : Program} {e : Env} {s : State} {m0 : MethodId} {below : List Frame} {meth : Method} {c : Code} {b L : Nat} {xs : Nat → Int32} {D : va_G} {cs : Nat → ClassId} {A : Nat → Prop} {Q : State → Prop} {adh ad adf ad0 ad1 adx adu ma : Nat → Nat} {Wf : MM → MM → MM → MM → MM → MM → MM → va_W} (hLh : ∀ m f c0 c1 x u : MM, Ln 8 adh (hsh cs adh ma) (fun z => Wf z m f c0 c1 x u)) (hL : ∀ h f c0 c1 x u : MM, Ln 51 ad (msh cs ad) (fun z => Wf h z f c0 c1 x u)) (hLf : ∀ h m c0 c1 x u : MM, Ln 51 adf (msh cs adf) (fun z => Wf h m z c0 c1 x u)) (hL0 : ∀ h m f c1 x u : MM, Ln 51 ad0 (msh cs ad0) (fun z => Wf h m f z c1 x u)) (hL1 : ∀ h m f c0 x u : MM, Ln 51 ad1 (msh cs ad1) (fun z => Wf h m f c0 z x u)) (hLx : ∀ h m f c0 c1 u : MM, Ln 9 adx (xsh cs adx) (fun z => Wf h m f c0 c1 z u)) (hLu : ∀ h m f c0 c1 x : MM, Ln 1 adu (ush cs) (fun z => Wf h m f c0 c1 x z)) (hAd : ∀ a0_ b0_ a1_ b1_ a2_ b2_ a3_ b3_ a4_ b4_ a5_ b5_ a6_ b6_ : MM, (Wf a0_ a1_ a2_ a3_ a4_ a5_ a6_).map (fun q => q.1) = (Wf b0_ b1_ b2_ b3_ b4_ b5_ b6_).map (fun q => q.1)) (hm1 : ma 1 = ad 24) (hm2 : ma 2 = adf 24) (hm3 : ma 3 = ad0 24) (hm4 : ma 4 = ad1 24) (hLX : LX p s m0 c b L xs D cs A (Wf zMM zMM zMM zMM zMM zMM zMM)) (n : Nat) (k : LKont) (hk : LK p l e s m0 below meth c b D A Q adh adx adu Wf n k) (x4 : Int32) (h : MM) (m : MM) (f : MM) (c0 : MM) (c1 : MM) (x : MM) (u : MM) (cells slots : Nat) (H : Heap) (locs : List Loc) (ls : Array Slot) (hD : D_L_law_631 L xs k x4 h m f c0 c1 x u = some ()) (hcl : cells + (n + 1) ≤ 601024) (hsl : slots + 6 * (n + 1) ≤ 7293034) (hP : va_P D vwCl (Wf h m f c0 c1 x u) H) (hS : va_S A s.heap H locs) (hl : lv_has ls 8 [(0, .ref b), (1, .ref (adh 0)), (2, .ref (adx 0)), (3, .ref (adu 0)), (4, .int x4)]) : W p l e room_1 s m0 #[Value.ref b] below meth c H locs cells slots Q (F0 m0 631 ls []) := by
  obtain ⟨hx, hb, hml, hown, hK, hT⟩ := hLX.rest
  obtain ⟨Fx0, hX, hbl, hbA, hD1, hA1⟩ := hLX
  unfold D_L_law_631 at hD
  refine lv_aload_n hx hb dL_law_631 rfl (lv_at hl 1 rfl) ?_
  refine lv_aload_n hx hb dL_law_632 rfl (lv_at hl 0 rfl) ?_
  refine lv_iload hx hb dL_law_633 (lv_at hl 4 rfl) ?_
  refine lv_iconst (v := (1 : Int32)) hx hb dL_law_635 (by decide) ?_
  refine lv_iadd hx hb dL_law_636 ?_
  obtain ⟨h1, hD⟩ := gd_el hD
  refine va_sld hx hb hX hbl hbA hS h1 dL_law_637 ?_
  refine lv_aload_n hx hb dL_law_638 rfl (lv_at hl 3 rfl) ?_
  obtain ⟨v2, m3, z4, hD⟩ := b2_el hD
  refine lrL (As := [.ref (adh 0), .int (xs (x4 + (1 : Int32)).toNatClampNeg), .ref (adu 0)]) (rest := []) Fx0 (c_L_freeNozzles l hst (Wf := fun z0_ z1_ z2_ => Wf z0_ z1_ f c0 c1 x z2_) (fun z1_ z2_ => hLh z1_ f c0 c1 x z2_) (fun z0_ z2_ => hL z0_ f c0 c1 x z2_) (fun z0_ z1_ => hLu z0_ z1_ f c0 c1 x) (fun a0_ b0_ a1_ b1_ a2_ b2_ => hAd a0_ b0_ a1_ b1_ f f c0 c0 c1 c1 x x a2_ b2_) hm1 h m u (xs (x4 + (1 : Int32)).toNatClampNeg) z4) hP (hD1 _ (hAd _ _ _ _ _ _ _ _ _ _ _ _ _ _)) hS (hA1 _ _ (hAd _ _ _ _ _ _ _ _ _ _ _ _ _ _) hS.1) tw_5_168 tw_5_166 tw_5_167 tw_1_0 yd_L_freeNozzles ⟨(Nat.le_of_ble_eq_true rfl), (Nat.le_of_ble_eq_true rfl)⟩ ⟨show _ + 1 ≤ 601024 by omega, show _ + 6 ≤ 7293034 by omega⟩ rfl hl.1 rfl (Nat.le_of_ble_eq_true rfl) dL_law_639 (fun H locs hP hS => ?_)
  refine lv_istore (lv' := [(5, .int v2), (0, .ref b), (1, .ref (adh 0)), (2, .ref (adx 0)), (3, .ref (adu 0)), (4, .int x4)]) hx hb dL_law_642 hl (by decide) rfl (fun ls hl => ?_)
  refine lv_aload_n hx hb dL_law_644 rfl (lv_at hl 3 rfl) ?_
  refine lv_aload_n hx hb dL_law_645 rfl (lv_at hl 1 rfl) ?_
  refine lv_iload hx hb dL_law_646 (lv_at hl 5 rfl) ?_
  refine lv_iconst (v := (1 : Int32)) hx hb dL_law_648 (by decide) ?_
  refine lv_iadd hx hb dL_law_649 ?_
  obtain ⟨h5, hD⟩ := gd_el hD
  refine va_sld hx hb hX hbl hbA hS h5 dL_law_650 ?_
  obtain ⟨v6, m7, z8, hD⟩ := b2_el hD
  refine lrV (Wf := fun z => Wf h m f c0 c1 z m3) (mm := x) (As := [.int (xs (x4 + (1 : Int32)).toNatClampNeg)]) (rest := []) Fx0 (c_X10_freeNozzles l (Wf := fun z0_ => Wf h m f c0 c1 z0_ m3) (hLx h m f c0 c1 m3) (fun a0_ b0_ => hAd h h m m f f c0 c0 c1 c1 a0_ b0_ m3 m3) x (xs (x4 + (1 : Int32)).toNatClampNeg) z8) hP (hD1 _ (hAd _ _ _ _ _ _ _ _ _ _ _ _ _ _)) hS (hA1 _ _ (hAd _ _ _ _ _ _ _ _ _ _ _ _ _ _) hS.1) (hLx h m f c0 c1 m3) (Nat.le_of_ble_eq_true rfl) (xs0 _ _) rfl tw_7_194 tw_7_191 tw_7_192 tw_7_193 tw_1_13 yd_X10_freeNozzles ⟨(Nat.le_of_ble_eq_true rfl), (Nat.le_of_ble_eq_true rfl)⟩ ⟨show _ ≤ 601024 by omega, show _ ≤ 7293034 by omega⟩ rfl hl.1 rfl (Nat.le_of_ble_eq_true rfl) dL_law_651 (fun H locs hP hS => ?_)
  refine lv_istore (lv' := [(6, .int v6), (5, .int v2), (0, .ref b), (1, .ref (adh 0)), (2, .ref (adx 0)), (3, .ref (adu 0)), (4, .int x4)]) hx hb dL_law_654 hl (by decide) rfl (fun ls hl => ?_)
  refine lv_aload_n hx hb dL_law_656 rfl (lv_at hl 4 rfl) ?_
  obtain ⟨v9, z10, hD⟩ := b1_el hD
  refine lrV (Wf := fun z => Wf h m f c0 c1 z m3) (mm := m7) (As := []) (rest := []) Fx0 (c_X10_thrown l (Wf := fun z0_ => Wf h m f c0 c1 z0_ m3) (hLx h m f c0 c1 m3) (fun a0_ b0_ => hAd h h m m f f c0 c0 c1 c1 a0_ b0_ m3 m3) m7 z10) hP (hD1 _ (hAd _ _ _ _ _ _ _ _ _ _ _ _ _ _)) hS (hA1 _ _ (hAd _ _ _ _ _ _ _ _ _ _ _ _ _ _) hS.1) (hLx h m f c0 c1 m3) (Nat.le_of_ble_eq_true rfl) (xs0 _ _) rfl tw_7_30 tw_7_27 tw_7_28 tw_7_29 tw_1_13 yd_X10_thrown ⟨(Nat.le_of_ble_eq_true rfl), (Nat.le_of_ble_eq_true rfl)⟩ ⟨show _ ≤ 601024 by omega, show _ ≤ 7293034 by omega⟩ rfl hl.1 rfl (Nat.le_of_ble_eq_true rfl) dL_law_657 (fun H locs hP hS => ?_)
  refine lv_iload hx hb dL_law_660 (lv_at hl 1 rfl) ?_
  refine lv_icmp_eq (tgt := 667) hx hb dL_law_662 (by decide) (fun c => ?_) (fun c => ?_)
  · have hD := ifp hD c
    refine lv_iload hx hb dL_law_667 (lv_at hl 1 rfl) ?_
    refine lv_if_ne (tgt := 684) hx hb dL_law_669 (by decide) (fun c => ?_) (fun c => ?_)
    · have hD := ifn hD c
      refine lv_goto (tgt := 2964) hx hb dL_law_684 (by decide) ?_
      obtain ⟨v11, ev11, hD⟩ := bnd_el hD
      refine lv_iinc (v := v11) (lv' := [(4, .int v11), (6, .int v6), (5, .int v2), (0, .ref b), (1, .ref (adh 0)), (2, .ref (adx 0)), (3, .ref (adu 0))]) hx hb dL_law_2964 hl (k := 6) rfl (by rw [ev11]; rfl) (by decide) rfl (fun ls hl => ?_)
      refine lv_goto (tgt := 23) hx hb dL_law_2967 (by decide) ?_
      exact hk v11 h m f c0 c1 m7 m3 _ _ _ _ _ hD (show _ + n ≤ 601024 by omega) (show _ + 6 * n ≤ 7293034 by omega) hP hS (lv_sub hl [3, 4, 5, 6, 0] rfl)
    · have hD := ifp hD c
      refine lv_aload_n hx hb dL_law_672 rfl (lv_at hl 5 rfl) ?_
      refine lv_iconst (v := (0 : Int32)) hx hb dL_law_673 (by decide) ?_
      refine rlald (Wf := fun z => Wf h m f c0 c1 m7 z) (mm := m3) hx hb hK hP (hLu h m f c0 c1 m7) 0 (Nat.le_of_ble_eq_true rfl) (us0 _ _) (by decide) (j := 0) (by decide) dL_law_674 ?_
      refine lv_iload hx hb dL_law_675 (lv_at hl 0 rfl) ?_
      refine lv_i2l (v := v6.toInt64) hx hb dL_law_677 rfl ?_
      refine rlc_eq (tgt := 684) hx hb dL_law_678 dL_law_679 (by decide) (fun c => ?_) (fun c => ?_)
      · have hD := ifp hD c
        refine lv_goto (tgt := 2964) hx hb dL_law_684 (by decide) ?_
        obtain ⟨v12, ev12, hD⟩ := bnd_el hD
        refine lv_iinc (v := v12) (lv' := [(4, .int v12), (6, .int v6), (5, .int v2), (0, .ref b), (1, .ref (adh 0)), (2, .ref (adx 0)), (3, .ref (adu 0))]) hx hb dL_law_2964 hl (k := 6) rfl (by rw [ev12]; rfl) (by decide) rfl (fun ls hl => ?_)
        refine lv_goto (tgt := 23) hx hb dL_law_2967 (by decide) ?_
        exact hk v12 h m f c0 c1 m7 m3 _ _ _ _ _ hD (show _ + n ≤ 601024 by omega) (show _ + 6 * n ≤ 7293034 by omega) hP hS (lv_sub hl [3, 4, 5, 6, 0] rfl)
      · have hD := ifn hD c
        refine lv_iconst (v := (0 : Int32)) hx hb dL_law_682 (by decide) ?_
        exact nn_el hD
  · have hD := ifn hD c
    refine lv_iconst (v := (0 : Int32)) hx hb dL_law_665 (by decide) ?_
    exact nn_el hD
noncomputable def D_L_law_687 (L : Nat) (xs : Nat → Int32) (k : LKont) (x4 : Int32) (h : MM) (m : MM) (f : MM) (c0 : MM) (c1 : MM) (x : MM) (u : MM) : Option Unit := if (x4 + (1 : Int32)) < 0 ∨ L ≤ (x4 + (1 : Int32)).toNatClampNeg then none else (b2 (D_L_nozzleFor (xs (x4 + (1 : Int32)).toNatClampNeg) h m u) (fun v2 m3 => if (x4 + (1 : Int32)) < 0 ∨ L ≤ (x4 + (1 : Int32)).toNatClampNeg then none else (b2 (D_X10_nozzleFor (xs (x4 + (1 : Int32)).toNatClampNeg) x) (fun v6 m7 => b1 (D_X10_thrown m7) (fun v9 => if v9 = v2 then (if v2 = 0 then (if (gl m3 0 0) = v6.toInt64 then (bnd (x4 + (3 : Int32)) (fun v12 => k v12 h m f c0 c1 m7 m3)) else (none)) else (bnd (x4 + (3 : Int32)) (fun v11 => k v11 h m f c0 c1 m7 m3))) else (none))))))
set_option maxHeartbeats 4000000 in
set_option maxRecDepth 100000 in
theorem c_L_law_687 (l : Launch) (hst : l.stackTraces = false) {p : Program} {e : Env} {s : State} {m0 : MethodId} {below : List Frame} {meth : Method} {c : Code} {b L : Nat} {xs : Nat → Int32} {D : va_G} {cs : Nat → ClassId} {A : Nat → Prop} {Q : State → Prop} {adh ad adf ad0 ad1 adx adu ma : Nat → Nat} {Wf : MM → MM → MM → MM → MM → MM → MM → va_W} (hLh : ∀ m f c0 c1 x u : MM, Ln 8 adh (hsh cs adh ma) (fun z => Wf z m f c0 c1 x u)) (hL : ∀ h f c0 c1 x u : MM, Ln 51 ad (msh cs ad) (fun z => Wf h z f c0 c1 x u)) (hLf : ∀ h m c0 c1 x u : MM, Ln 51 adf (msh cs adf) (fun z => Wf h m z c0 c1 x u)) (hL0 : ∀ h m f c1 x u : MM, Ln 51 ad0 (msh cs ad0) (fun z => Wf h m f z c1 x u)) (hL1 : ∀ h m f c0 x u : MM, Ln 51 ad1 (msh cs ad1) (fun z => Wf h m f c0 z x u)) (hLx : ∀ h m f c0 c1 u : MM, Ln 9 adx (xsh cs adx) (fun z => Wf h m f c0 c1 z u)) (hLu : ∀ h m f c0 c1 x : MM, Ln 1 adu (ush cs) (fun z => Wf h m f c0 c1 x z)) (hAd : ∀ a0_ b0_ a1_ b1_ a2_ b2_ a3_ b3_ a4_ b4_ a5_ b5_ a6_ b6_ : MM, (Wf a0_ a1_ a2_ a3_ a4_ a5_ a6_).map (fun q => q.1) = (Wf b0_ b1_ b2_ b3_ b4_ b5_ b6_).map (fun q => q.1)) (hm1 : ma 1 = ad 24) (hm2 : ma 2 = adf 24) (hm3 : ma 3 = ad0 24) (hm4 : ma 4 = ad1 24) (hLX : LX p s m0 c b L xs D cs A (Wf zMM zMM zMM zMM zMM zMM zMM)) (n : Nat) (k : LKont) (hk : LK p l e s m0 below meth c b D A Q adh adx adu Wf n k) (x4 : Int32) (h : MM) (m : MM) (f : MM) (c0 : MM) (c1 : MM) (x : MM) (u : MM) (cells slots : Nat) (H : Heap) (locs : List Loc) (ls : Array Slot) (hD : D_L_law_687 L xs k x4 h m f c0 c1 x u = some ()) (hcl : cells + (n + 1) ≤ 601024) (hsl : slots + 6 * (n + 1) ≤ 7293034) (hP : va_P D vwCl (Wf h m f c0 c1 x u) H) (hS : va_S A s.heap H locs) (hl : lv_has ls 8 [(0, .ref b), (1, .ref (adh 0)), (2, .ref (adx 0)), (3, .ref (adu 0)), (4, .int x4)]) : W p l e room_1 s m0 #[Value.ref b] below meth c H locs cells slots Q (F0 m0 687 ls []) := by
  obtain ⟨hx, hb, hml, hown, hK, hT⟩ := hLX.rest
  obtain ⟨Fx0, hX, hbl, hbA, hD1, hA1⟩ := hLX
  unfold D_L_law_687 at hD
  refine lv_aload_n hx hb dL_law_687 rfl (lv_at hl 1 rfl) ?_
  refine lv_aload_n hx hb dL_law_688 rfl (lv_at hl 0 rfl) ?_
  refine lv_iload hx hb dL_law_689 (lv_at hl 4 rfl) ?_
  refine lv_iconst (v := (1 : Int32)) hx hb dL_law_691 (by decide) ?_
  refine lv_iadd hx hb dL_law_692 ?_
  obtain ⟨h1, hD⟩ := gd_el hD
  refine va_sld hx hb hX hbl hbA hS h1 dL_law_693 ?_
  refine lv_aload_n hx hb dL_law_694 rfl (lv_at hl 3 rfl) ?_
  obtain ⟨v2, m3, z4, hD⟩ := b2_el hD
  refine lrL (As := [.ref (adh 0), .int (xs (x4 + (1 : Int32)).toNatClampNeg), .ref (adu 0)]) (rest := []) Fx0 (c_L_nozzleFor l hst (Wf := fun z0_ z1_ z2_ => Wf z0_ z1_ f c0 c1 x z2_) (fun z1_ z2_ => hLh z1_ f c0 c1 x z2_) (fun z0_ z2_ => hL z0_ f c0 c1 x z2_) (fun z0_ z1_ => hLu z0_ z1_ f c0 c1 x) (fun a0_ b0_ a1_ b1_ a2_ b2_ => hAd a0_ b0_ a1_ b1_ f f c0 c0 c1 c1 x x a2_ b2_) hm1 h m u (xs (x4 + (1 : Int32)).toNatClampNeg) z4) hP (hD1 _ (hAd _ _ _ _ _ _ _ _ _ _ _ _ _ _)) hS (hA1 _ _ (hAd _ _ _ _ _ _ _ _ _ _ _ _ _ _) hS.1) tw_5_175 tw_5_173 tw_5_174 tw_1_0 yd_L_nozzleFor ⟨(Nat.le_of_ble_eq_true rfl), (Nat.le_of_ble_eq_true rfl)⟩ ⟨show _ + 1 ≤ 601024 by omega, show _ + 6 ≤ 7293034 by omega⟩ rfl hl.1 rfl (Nat.le_of_ble_eq_true rfl) dL_law_695 (fun H locs hP hS => ?_)
  refine lv_istore (lv' := [(5, .int v2), (0, .ref b), (1, .ref (adh 0)), (2, .ref (adx 0)), (3, .ref (adu 0)), (4, .int x4)]) hx hb dL_law_698 hl (by decide) rfl (fun ls hl => ?_)
  refine lv_aload_n hx hb dL_law_700 rfl (lv_at hl 3 rfl) ?_
  refine lv_aload_n hx hb dL_law_701 rfl (lv_at hl 1 rfl) ?_
  refine lv_iload hx hb dL_law_702 (lv_at hl 5 rfl) ?_
  refine lv_iconst (v := (1 : Int32)) hx hb dL_law_704 (by decide) ?_
  refine lv_iadd hx hb dL_law_705 ?_
  obtain ⟨h5, hD⟩ := gd_el hD
  refine va_sld hx hb hX hbl hbA hS h5 dL_law_706 ?_
  obtain ⟨v6, m7, z8, hD⟩ := b2_el hD
  refine lrV (Wf := fun z => Wf h m f c0 c1 z m3) (mm := x) (As := [.int (xs (x4 + (1 : Int32)).toNatClampNeg)]) (rest := []) Fx0 (c_X10_nozzleFor l (Wf := fun z0_ => Wf h m f c0 c1 z0_ m3) (hLx h m f c0 c1 m3) (fun a0_ b0_ => hAd h h m m f f c0 c0 c1 c1 a0_ b0_ m3 m3) x (xs (x4 + (1 : Int32)).toNatClampNeg) z8) hP (hD1 _ (hAd _ _ _ _ _ _ _ _ _ _ _ _ _ _)) hS (hA1 _ _ (hAd _ _ _ _ _ _ _ _ _ _ _ _ _ _) hS.1) (hLx h m f c0 c1 m3) (Nat.le_of_ble_eq_true rfl) (xs0 _ _) rfl tw_7_202 tw_7_199 tw_7_200 tw_7_201 tw_1_13 yd_X10_nozzleFor ⟨(Nat.le_of_ble_eq_true rfl), (Nat.le_of_ble_eq_true rfl)⟩ ⟨show _ ≤ 601024 by omega, show _ ≤ 7293034 by omega⟩ rfl hl.1 rfl (Nat.le_of_ble_eq_true rfl) dL_law_707 (fun H locs hP hS => ?_)
  refine lv_istore (lv' := [(6, .int v6), (5, .int v2), (0, .ref b), (1, .ref (adh 0)), (2, .ref (adx 0)), (3, .ref (adu 0)), (4, .int x4)]) hx hb dL_law_710 hl (by decide) rfl (fun ls hl => ?_)
  refine lv_aload_n hx hb dL_law_712 rfl (lv_at hl 4 rfl) ?_
  obtain ⟨v9, z10, hD⟩ := b1_el hD
  refine lrV (Wf := fun z => Wf h m f c0 c1 z m3) (mm := m7) (As := []) (rest := []) Fx0 (c_X10_thrown l (Wf := fun z0_ => Wf h m f c0 c1 z0_ m3) (hLx h m f c0 c1 m3) (fun a0_ b0_ => hAd h h m m f f c0 c0 c1 c1 a0_ b0_ m3 m3) m7 z10) hP (hD1 _ (hAd _ _ _ _ _ _ _ _ _ _ _ _ _ _)) hS (hA1 _ _ (hAd _ _ _ _ _ _ _ _ _ _ _ _ _ _) hS.1) (hLx h m f c0 c1 m3) (Nat.le_of_ble_eq_true rfl) (xs0 _ _) rfl tw_7_30 tw_7_27 tw_7_28 tw_7_29 tw_1_13 yd_X10_thrown ⟨(Nat.le_of_ble_eq_true rfl), (Nat.le_of_ble_eq_true rfl)⟩ ⟨show _ ≤ 601024 by omega, show _ ≤ 7293034 by omega⟩ rfl hl.1 rfl (Nat.le_of_ble_eq_true rfl) dL_law_713 (fun H locs hP hS => ?_)
  refine lv_iload hx hb dL_law_716 (lv_at hl 1 rfl) ?_
  refine lv_icmp_eq (tgt := 723) hx hb dL_law_718 (by decide) (fun c => ?_) (fun c => ?_)
  · have hD := ifp hD c
    refine lv_iload hx hb dL_law_723 (lv_at hl 1 rfl) ?_
    refine lv_if_ne (tgt := 740) hx hb dL_law_725 (by decide) (fun c => ?_) (fun c => ?_)
    · have hD := ifn hD c
      refine lv_goto (tgt := 2964) hx hb dL_law_740 (by decide) ?_
      obtain ⟨v11, ev11, hD⟩ := bnd_el hD
      refine lv_iinc (v := v11) (lv' := [(4, .int v11), (6, .int v6), (5, .int v2), (0, .ref b), (1, .ref (adh 0)), (2, .ref (adx 0)), (3, .ref (adu 0))]) hx hb dL_law_2964 hl (k := 6) rfl (by rw [ev11]; rfl) (by decide) rfl (fun ls hl => ?_)
      refine lv_goto (tgt := 23) hx hb dL_law_2967 (by decide) ?_
      exact hk v11 h m f c0 c1 m7 m3 _ _ _ _ _ hD (show _ + n ≤ 601024 by omega) (show _ + 6 * n ≤ 7293034 by omega) hP hS (lv_sub hl [3, 4, 5, 6, 0] rfl)
    · have hD := ifp hD c
      refine lv_aload_n hx hb dL_law_728 rfl (lv_at hl 5 rfl) ?_
      refine lv_iconst (v := (0 : Int32)) hx hb dL_law_729 (by decide) ?_
      refine rlald (Wf := fun z => Wf h m f c0 c1 m7 z) (mm := m3) hx hb hK hP (hLu h m f c0 c1 m7) 0 (Nat.le_of_ble_eq_true rfl) (us0 _ _) (by decide) (j := 0) (by decide) dL_law_730 ?_
      refine lv_iload hx hb dL_law_731 (lv_at hl 0 rfl) ?_
      refine lv_i2l (v := v6.toInt64) hx hb dL_law_733 rfl ?_
      refine rlc_eq (tgt := 740) hx hb dL_law_734 dL_law_735 (by decide) (fun c => ?_) (fun c => ?_)
      · have hD := ifp hD c
        refine lv_goto (tgt := 2964) hx hb dL_law_740 (by decide) ?_
        obtain ⟨v12, ev12, hD⟩ := bnd_el hD
        refine lv_iinc (v := v12) (lv' := [(4, .int v12), (6, .int v6), (5, .int v2), (0, .ref b), (1, .ref (adh 0)), (2, .ref (adx 0)), (3, .ref (adu 0))]) hx hb dL_law_2964 hl (k := 6) rfl (by rw [ev12]; rfl) (by decide) rfl (fun ls hl => ?_)
        refine lv_goto (tgt := 23) hx hb dL_law_2967 (by decide) ?_
        exact hk v12 h m f c0 c1 m7 m3 _ _ _ _ _ hD (show _ + n ≤ 601024 by omega) (show _ + 6 * n ≤ 7293034 by omega) hP hS (lv_sub hl [3, 4, 5, 6, 0] rfl)
      · have hD := ifn hD c
        refine lv_iconst (v := (0 : Int32)) hx hb dL_law_738 (by decide) ?_
        exact nn_el hD
  · have hD := ifn hD c
    refine lv_iconst (v := (0 : Int32)) hx hb dL_law_721 (by decide) ?_
    exact nn_el hD
noncomputable def D_L_law_743 (L : Nat) (xs : Nat → Int32) (k : LKont) (x4 : Int32) (h : MM) (m : MM) (f : MM) (c0 : MM) (c1 : MM) (x : MM) (u : MM) : Option Unit := if (x4 + (1 : Int32)) < 0 ∨ L ≤ (x4 + (1 : Int32)).toNatClampNeg then none else (if (x4 + (2 : Int32)) < 0 ∨ L ≤ (x4 + (2 : Int32)).toNatClampNeg then none else (b2 (D_L_feederValue (xs (x4 + (1 : Int32)).toNatClampNeg) (xs (x4 + (2 : Int32)).toNatClampNeg) h m u) (fun v3 m4 => if (x4 + (1 : Int32)) < 0 ∨ L ≤ (x4 + (1 : Int32)).toNatClampNeg then none else (if (x4 + (2 : Int32)) < 0 ∨ L ≤ (x4 + (2 : Int32)).toNatClampNeg then none else (b2 (D_X10_feederValue (xs (x4 + (1 : Int32)).toNatClampNeg) (xs (x4 + (2 : Int32)).toNatClampNeg) x) (fun v8 m9 => b1 (D_X10_thrown m9) (fun v11 => if v11 = v3 then (if v3 = 0 then (if (gl m4 0 0) = v8.toInt64 then (bnd (x4 + (3 : Int32)) (fun v14 => k v14 h m f c0 c1 m9 m4)) else (none)) else (bnd (x4 + (3 : Int32)) (fun v13 => k v13 h m f c0 c1 m9 m4))) else (none))))))))
set_option maxHeartbeats 4000000 in
set_option maxRecDepth 100000 in
theorem c_L_law_743 (l : Launch) (hst : l.stackTraces = false) {p : Program} {e : Env} {s : State} {m0 : MethodId} {below : List Frame} {meth : Method} {c : Code} {b L : Nat} {xs : Nat → Int32} {D : va_G} {cs : Nat → ClassId} {A : Nat → Prop} {Q : State → Prop} {adh ad adf ad0 ad1 adx adu ma : Nat → Nat} {Wf : MM → MM → MM → MM → MM → MM → MM → va_W} (hLh : ∀ m f c0 c1 x u : MM, Ln 8 adh (hsh cs adh ma) (fun z => Wf z m f c0 c1 x u)) (hL : ∀ h f c0 c1 x u : MM, Ln 51 ad (msh cs ad) (fun z => Wf h z f c0 c1 x u)) (hLf : ∀ h m c0 c1 x u : MM, Ln 51 adf (msh cs adf) (fun z => Wf h m z c0 c1 x u)) (hL0 : ∀ h m f c1 x u : MM, Ln 51 ad0 (msh cs ad0) (fun z => Wf h m f z c1 x u)) (hL1 : ∀ h m f c0 x u : MM, Ln 51 ad1 (msh cs ad1) (fun z => Wf h m f c0 z x u)) (hLx : ∀ h m f c0 c1 u : MM, Ln 9 adx (xsh cs adx) (fun z => Wf h m f c0 c1 z u)) (hLu : ∀ h m f c0 c1 x : MM, Ln 1 adu (ush cs) (fun z => Wf h m f c0 c1 x z)) (hAd : ∀ a0_ b0_ a1_ b1_ a2_ b2_ a3_ b3_ a4_ b4_ a5_ b5_ a6_ b6_ : MM, (Wf a0_ a1_ a2_ a3_ a4_ a5_ a6_).map (fun q => q.1) = (Wf b0_ b1_ b2_ b3_ b4_ b5_ b6_).map (fun q => q.1)) (hm1 : ma 1 = ad 24) (hm2 : ma 2 = adf 24) (hm3 : ma 3 = ad0 24) (hm4 : ma 4 = ad1 24) (hLX : LX p s m0 c b L xs D cs A (Wf zMM zMM zMM zMM zMM zMM zMM)) (n : Nat) (k : LKont) (hk : LK p l e s m0 below meth c b D A Q adh adx adu Wf n k) (x4 : Int32) (h : MM) (m : MM) (f : MM) (c0 : MM) (c1 : MM) (x : MM) (u : MM) (cells slots : Nat) (H : Heap) (locs : List Loc) (ls : Array Slot) (hD : D_L_law_743 L xs k x4 h m f c0 c1 x u = some ()) (hcl : cells + (n + 1) ≤ 601024) (hsl : slots + 6 * (n + 1) ≤ 7293034) (hP : va_P D vwCl (Wf h m f c0 c1 x u) H) (hS : va_S A s.heap H locs) (hl : lv_has ls 8 [(0, .ref b), (1, .ref (adh 0)), (2, .ref (adx 0)), (3, .ref (adu 0)), (4, .int x4)]) : W p l e room_1 s m0 #[Value.ref b] below meth c H locs cells slots Q (F0 m0 743 ls []) := by
  obtain ⟨hx, hb, hml, hown, hK, hT⟩ := hLX.rest
  obtain ⟨Fx0, hX, hbl, hbA, hD1, hA1⟩ := hLX
  unfold D_L_law_743 at hD
  refine lv_aload_n hx hb dL_law_743 rfl (lv_at hl 1 rfl) ?_
  refine lv_aload_n hx hb dL_law_744 rfl (lv_at hl 0 rfl) ?_
  refine lv_iload hx hb dL_law_745 (lv_at hl 4 rfl) ?_
  refine lv_iconst (v := (1 : Int32)) hx hb dL_law_747 (by decide) ?_
  refine lv_iadd hx hb dL_law_748 ?_
  obtain ⟨h1, hD⟩ := gd_el hD
  refine va_sld hx hb hX hbl hbA hS h1 dL_law_749 ?_
  refine lv_aload_n hx hb dL_law_750 rfl (lv_at hl 0 rfl) ?_
  refine lv_iload hx hb dL_law_751 (lv_at hl 4 rfl) ?_
  refine lv_iconst (v := (2 : Int32)) hx hb dL_law_753 (by decide) ?_
  refine lv_iadd hx hb dL_law_754 ?_
  obtain ⟨h2, hD⟩ := gd_el hD
  refine va_sld hx hb hX hbl hbA hS h2 dL_law_755 ?_
  refine lv_aload_n hx hb dL_law_756 rfl (lv_at hl 3 rfl) ?_
  obtain ⟨v3, m4, z5, hD⟩ := b2_el hD
  refine lrL (As := [.ref (adh 0), .int (xs (x4 + (1 : Int32)).toNatClampNeg), .int (xs (x4 + (2 : Int32)).toNatClampNeg), .ref (adu 0)]) (rest := []) Fx0 (c_L_feederValue l hst (Wf := fun z0_ z1_ z2_ => Wf z0_ z1_ f c0 c1 x z2_) (fun z1_ z2_ => hLh z1_ f c0 c1 x z2_) (fun z0_ z2_ => hL z0_ f c0 c1 x z2_) (fun z0_ z1_ => hLu z0_ z1_ f c0 c1 x) (fun a0_ b0_ a1_ b1_ a2_ b2_ => hAd a0_ b0_ a1_ b1_ f f c0 c0 c1 c1 x x a2_ b2_) hm1 h m u (xs (x4 + (1 : Int32)).toNatClampNeg) (xs (x4 + (2 : Int32)).toNatClampNeg) z5) hP (hD1 _ (hAd _ _ _ _ _ _ _ _ _ _ _ _ _ _)) hS (hA1 _ _ (hAd _ _ _ _ _ _ _ _ _ _ _ _ _ _) hS.1) tw_5_182 tw_5_180 tw_5_181 tw_1_0 yd_L_feederValue ⟨(Nat.le_of_ble_eq_true rfl), (Nat.le_of_ble_eq_true rfl)⟩ ⟨show _ + 1 ≤ 601024 by omega, show _ + 6 ≤ 7293034 by omega⟩ rfl hl.1 rfl (Nat.le_of_ble_eq_true rfl) dL_law_757 (fun H locs hP hS => ?_)
  refine lv_istore (lv' := [(5, .int v3), (0, .ref b), (1, .ref (adh 0)), (2, .ref (adx 0)), (3, .ref (adu 0)), (4, .int x4)]) hx hb dL_law_760 hl (by decide) rfl (fun ls hl => ?_)
  refine lv_aload_n hx hb dL_law_762 rfl (lv_at hl 3 rfl) ?_
  refine lv_aload_n hx hb dL_law_763 rfl (lv_at hl 1 rfl) ?_
  refine lv_iload hx hb dL_law_764 (lv_at hl 5 rfl) ?_
  refine lv_iconst (v := (1 : Int32)) hx hb dL_law_766 (by decide) ?_
  refine lv_iadd hx hb dL_law_767 ?_
  obtain ⟨h6, hD⟩ := gd_el hD
  refine va_sld hx hb hX hbl hbA hS h6 dL_law_768 ?_
  refine lv_aload_n hx hb dL_law_769 rfl (lv_at hl 1 rfl) ?_
  refine lv_iload hx hb dL_law_770 (lv_at hl 5 rfl) ?_
  refine lv_iconst (v := (2 : Int32)) hx hb dL_law_772 (by decide) ?_
  refine lv_iadd hx hb dL_law_773 ?_
  obtain ⟨h7, hD⟩ := gd_el hD
  refine va_sld hx hb hX hbl hbA hS h7 dL_law_774 ?_
  obtain ⟨v8, m9, z10, hD⟩ := b2_el hD
  refine lrV (Wf := fun z => Wf h m f c0 c1 z m4) (mm := x) (As := [.int (xs (x4 + (1 : Int32)).toNatClampNeg), .int (xs (x4 + (2 : Int32)).toNatClampNeg)]) (rest := []) Fx0 (c_X10_feederValue l (Wf := fun z0_ => Wf h m f c0 c1 z0_ m4) (hLx h m f c0 c1 m4) (fun a0_ b0_ => hAd h h m m f f c0 c0 c1 c1 a0_ b0_ m4 m4) x (xs (x4 + (1 : Int32)).toNatClampNeg) (xs (x4 + (2 : Int32)).toNatClampNeg) z10) hP (hD1 _ (hAd _ _ _ _ _ _ _ _ _ _ _ _ _ _)) hS (hA1 _ _ (hAd _ _ _ _ _ _ _ _ _ _ _ _ _ _) hS.1) (hLx h m f c0 c1 m4) (Nat.le_of_ble_eq_true rfl) (xs0 _ _) rfl tw_7_210 tw_7_207 tw_7_208 tw_7_209 tw_1_13 yd_X10_feederValue ⟨(Nat.le_of_ble_eq_true rfl), (Nat.le_of_ble_eq_true rfl)⟩ ⟨show _ ≤ 601024 by omega, show _ ≤ 7293034 by omega⟩ rfl hl.1 rfl (Nat.le_of_ble_eq_true rfl) dL_law_775 (fun H locs hP hS => ?_)
  refine lv_istore (lv' := [(6, .int v8), (5, .int v3), (0, .ref b), (1, .ref (adh 0)), (2, .ref (adx 0)), (3, .ref (adu 0)), (4, .int x4)]) hx hb dL_law_778 hl (by decide) rfl (fun ls hl => ?_)
  refine lv_aload_n hx hb dL_law_780 rfl (lv_at hl 4 rfl) ?_
  obtain ⟨v11, z12, hD⟩ := b1_el hD
  refine lrV (Wf := fun z => Wf h m f c0 c1 z m4) (mm := m9) (As := []) (rest := []) Fx0 (c_X10_thrown l (Wf := fun z0_ => Wf h m f c0 c1 z0_ m4) (hLx h m f c0 c1 m4) (fun a0_ b0_ => hAd h h m m f f c0 c0 c1 c1 a0_ b0_ m4 m4) m9 z12) hP (hD1 _ (hAd _ _ _ _ _ _ _ _ _ _ _ _ _ _)) hS (hA1 _ _ (hAd _ _ _ _ _ _ _ _ _ _ _ _ _ _) hS.1) (hLx h m f c0 c1 m4) (Nat.le_of_ble_eq_true rfl) (xs0 _ _) rfl tw_7_30 tw_7_27 tw_7_28 tw_7_29 tw_1_13 yd_X10_thrown ⟨(Nat.le_of_ble_eq_true rfl), (Nat.le_of_ble_eq_true rfl)⟩ ⟨show _ ≤ 601024 by omega, show _ ≤ 7293034 by omega⟩ rfl hl.1 rfl (Nat.le_of_ble_eq_true rfl) dL_law_781 (fun H locs hP hS => ?_)
  refine lv_iload hx hb dL_law_784 (lv_at hl 1 rfl) ?_
  refine lv_icmp_eq (tgt := 791) hx hb dL_law_786 (by decide) (fun c => ?_) (fun c => ?_)
  · have hD := ifp hD c
    refine lv_iload hx hb dL_law_791 (lv_at hl 1 rfl) ?_
    refine lv_if_ne (tgt := 808) hx hb dL_law_793 (by decide) (fun c => ?_) (fun c => ?_)
    · have hD := ifn hD c
      refine lv_goto (tgt := 2964) hx hb dL_law_808 (by decide) ?_
      obtain ⟨v13, ev13, hD⟩ := bnd_el hD
      refine lv_iinc (v := v13) (lv' := [(4, .int v13), (6, .int v8), (5, .int v3), (0, .ref b), (1, .ref (adh 0)), (2, .ref (adx 0)), (3, .ref (adu 0))]) hx hb dL_law_2964 hl (k := 6) rfl (by rw [ev13]; rfl) (by decide) rfl (fun ls hl => ?_)
      refine lv_goto (tgt := 23) hx hb dL_law_2967 (by decide) ?_
      exact hk v13 h m f c0 c1 m9 m4 _ _ _ _ _ hD (show _ + n ≤ 601024 by omega) (show _ + 6 * n ≤ 7293034 by omega) hP hS (lv_sub hl [3, 4, 5, 6, 0] rfl)
    · have hD := ifp hD c
      refine lv_aload_n hx hb dL_law_796 rfl (lv_at hl 5 rfl) ?_
      refine lv_iconst (v := (0 : Int32)) hx hb dL_law_797 (by decide) ?_
      refine rlald (Wf := fun z => Wf h m f c0 c1 m9 z) (mm := m4) hx hb hK hP (hLu h m f c0 c1 m9) 0 (Nat.le_of_ble_eq_true rfl) (us0 _ _) (by decide) (j := 0) (by decide) dL_law_798 ?_
      refine lv_iload hx hb dL_law_799 (lv_at hl 0 rfl) ?_
      refine lv_i2l (v := v8.toInt64) hx hb dL_law_801 rfl ?_
      refine rlc_eq (tgt := 808) hx hb dL_law_802 dL_law_803 (by decide) (fun c => ?_) (fun c => ?_)
      · have hD := ifp hD c
        refine lv_goto (tgt := 2964) hx hb dL_law_808 (by decide) ?_
        obtain ⟨v14, ev14, hD⟩ := bnd_el hD
        refine lv_iinc (v := v14) (lv' := [(4, .int v14), (6, .int v8), (5, .int v3), (0, .ref b), (1, .ref (adh 0)), (2, .ref (adx 0)), (3, .ref (adu 0))]) hx hb dL_law_2964 hl (k := 6) rfl (by rw [ev14]; rfl) (by decide) rfl (fun ls hl => ?_)
        refine lv_goto (tgt := 23) hx hb dL_law_2967 (by decide) ?_
        exact hk v14 h m f c0 c1 m9 m4 _ _ _ _ _ hD (show _ + n ≤ 601024 by omega) (show _ + 6 * n ≤ 7293034 by omega) hP hS (lv_sub hl [3, 4, 5, 6, 0] rfl)
      · have hD := ifn hD c
        refine lv_iconst (v := (0 : Int32)) hx hb dL_law_806 (by decide) ?_
        exact nn_el hD
  · have hD := ifn hD c
    refine lv_iconst (v := (0 : Int32)) hx hb dL_law_789 (by decide) ?_
    exact nn_el hD
noncomputable def D_L_law_811 (L : Nat) (xs : Nat → Int32) (k : LKont) (x4 : Int32) (h : MM) (m : MM) (f : MM) (c0 : MM) (c1 : MM) (x : MM) (u : MM) : Option Unit := if (x4 + (1 : Int32)) < 0 ∨ L ≤ (x4 + (1 : Int32)).toNatClampNeg then none else (if (x4 + (2 : Int32)) < 0 ∨ L ≤ (x4 + (2 : Int32)).toNatClampNeg then none else (b3 (D_L_splice (xs (x4 + (1 : Int32)).toNatClampNeg) (xs (x4 + (2 : Int32)).toNatClampNeg) h m u) (fun v3 m4 m5 => if (x4 + (1 : Int32)) < 0 ∨ L ≤ (x4 + (1 : Int32)).toNatClampNeg then none else (if (x4 + (2 : Int32)) < 0 ∨ L ≤ (x4 + (2 : Int32)).toNatClampNeg then none else (b2 (D_X10_splice (xs (x4 + (1 : Int32)).toNatClampNeg) (xs (x4 + (2 : Int32)).toNatClampNeg) x) (fun v9 m10 => b1 (D_X10_thrown m10) (fun v12 => if v12 = v3 then (if v3 = 0 then (if (gl m5 0 0) = v9.toInt64 then (bnd (x4 + (3 : Int32)) (fun v15 => k v15 h m4 f c0 c1 m10 m5)) else (none)) else (bnd (x4 + (3 : Int32)) (fun v14 => k v14 h m4 f c0 c1 m10 m5))) else (none))))))))
set_option maxHeartbeats 4000000 in
set_option maxRecDepth 100000 in
theorem c_L_law_811 (l : Launch) (hst : l.stackTraces = false) {p : Program} {e : Env} {s : State} {m0 : MethodId} {below : List Frame} {meth : Method} {c : Code} {b L : Nat} {xs : Nat → Int32} {D : va_G} {cs : Nat → ClassId} {A : Nat → Prop} {Q : State → Prop} {adh ad adf ad0 ad1 adx adu ma : Nat → Nat} {Wf : MM → MM → MM → MM → MM → MM → MM → va_W} (hLh : ∀ m f c0 c1 x u : MM, Ln 8 adh (hsh cs adh ma) (fun z => Wf z m f c0 c1 x u)) (hL : ∀ h f c0 c1 x u : MM, Ln 51 ad (msh cs ad) (fun z => Wf h z f c0 c1 x u)) (hLf : ∀ h m c0 c1 x u : MM, Ln 51 adf (msh cs adf) (fun z => Wf h m z c0 c1 x u)) (hL0 : ∀ h m f c1 x u : MM, Ln 51 ad0 (msh cs ad0) (fun z => Wf h m f z c1 x u)) (hL1 : ∀ h m f c0 x u : MM, Ln 51 ad1 (msh cs ad1) (fun z => Wf h m f c0 z x u)) (hLx : ∀ h m f c0 c1 u : MM, Ln 9 adx (xsh cs adx) (fun z => Wf h m f c0 c1 z u)) (hLu : ∀ h m f c0 c1 x : MM, Ln 1 adu (ush cs) (fun z => Wf h m f c0 c1 x z)) (hAd : ∀ a0_ b0_ a1_ b1_ a2_ b2_ a3_ b3_ a4_ b4_ a5_ b5_ a6_ b6_ : MM, (Wf a0_ a1_ a2_ a3_ a4_ a5_ a6_).map (fun q => q.1) = (Wf b0_ b1_ b2_ b3_ b4_ b5_ b6_).map (fun q => q.1)) (hm1 : ma 1 = ad 24) (hm2 : ma 2 = adf 24) (hm3 : ma 3 = ad0 24) (hm4 : ma 4 = ad1 24) (hLX : LX p s m0 c b L xs D cs A (Wf zMM zMM zMM zMM zMM zMM zMM)) (n : Nat) (k : LKont) (hk : LK p l e s m0 below meth c b D A Q adh adx adu Wf n k) (x4 : Int32) (h : MM) (m : MM) (f : MM) (c0 : MM) (c1 : MM) (x : MM) (u : MM) (cells slots : Nat) (H : Heap) (locs : List Loc) (ls : Array Slot) (hD : D_L_law_811 L xs k x4 h m f c0 c1 x u = some ()) (hcl : cells + (n + 1) ≤ 601024) (hsl : slots + 6 * (n + 1) ≤ 7293034) (hP : va_P D vwCl (Wf h m f c0 c1 x u) H) (hS : va_S A s.heap H locs) (hl : lv_has ls 8 [(0, .ref b), (1, .ref (adh 0)), (2, .ref (adx 0)), (3, .ref (adu 0)), (4, .int x4)]) : W p l e room_1 s m0 #[Value.ref b] below meth c H locs cells slots Q (F0 m0 811 ls []) := by
  obtain ⟨hx, hb, hml, hown, hK, hT⟩ := hLX.rest
  obtain ⟨Fx0, hX, hbl, hbA, hD1, hA1⟩ := hLX
  unfold D_L_law_811 at hD
  refine lv_aload_n hx hb dL_law_811 rfl (lv_at hl 1 rfl) ?_
  refine lv_aload_n hx hb dL_law_812 rfl (lv_at hl 0 rfl) ?_
  refine lv_iload hx hb dL_law_813 (lv_at hl 4 rfl) ?_
  refine lv_iconst (v := (1 : Int32)) hx hb dL_law_815 (by decide) ?_
  refine lv_iadd hx hb dL_law_816 ?_
  obtain ⟨h1, hD⟩ := gd_el hD
  refine va_sld hx hb hX hbl hbA hS h1 dL_law_817 ?_
  refine lv_aload_n hx hb dL_law_818 rfl (lv_at hl 0 rfl) ?_
  refine lv_iload hx hb dL_law_819 (lv_at hl 4 rfl) ?_
  refine lv_iconst (v := (2 : Int32)) hx hb dL_law_821 (by decide) ?_
  refine lv_iadd hx hb dL_law_822 ?_
  obtain ⟨h2, hD⟩ := gd_el hD
  refine va_sld hx hb hX hbl hbA hS h2 dL_law_823 ?_
  refine lv_aload_n hx hb dL_law_824 rfl (lv_at hl 3 rfl) ?_
  obtain ⟨v3, m4, m5, z6, hD⟩ := b3_el hD
  refine lrL (As := [.ref (adh 0), .int (xs (x4 + (1 : Int32)).toNatClampNeg), .int (xs (x4 + (2 : Int32)).toNatClampNeg), .ref (adu 0)]) (rest := []) Fx0 (c_L_splice l hst (Wf := fun z0_ z1_ z2_ => Wf z0_ z1_ f c0 c1 x z2_) (fun z1_ z2_ => hLh z1_ f c0 c1 x z2_) (fun z0_ z2_ => hL z0_ f c0 c1 x z2_) (fun z0_ z1_ => hLu z0_ z1_ f c0 c1 x) (fun a0_ b0_ a1_ b1_ a2_ b2_ => hAd a0_ b0_ a1_ b1_ f f c0 c0 c1 c1 x x a2_ b2_) hm1 h m u (xs (x4 + (1 : Int32)).toNatClampNeg) (xs (x4 + (2 : Int32)).toNatClampNeg) z6) hP (hD1 _ (hAd _ _ _ _ _ _ _ _ _ _ _ _ _ _)) hS (hA1 _ _ (hAd _ _ _ _ _ _ _ _ _ _ _ _ _ _) hS.1) tw_5_193 tw_5_191 tw_5_192 tw_1_0 yd_L_splice ⟨(Nat.le_of_ble_eq_true rfl), (Nat.le_of_ble_eq_true rfl)⟩ ⟨show _ + 1 ≤ 601024 by omega, show _ + 6 ≤ 7293034 by omega⟩ rfl hl.1 rfl (Nat.le_of_ble_eq_true rfl) dL_law_825 (fun H locs hP hS => ?_)
  refine lv_istore (lv' := [(5, .int v3), (0, .ref b), (1, .ref (adh 0)), (2, .ref (adx 0)), (3, .ref (adu 0)), (4, .int x4)]) hx hb dL_law_828 hl (by decide) rfl (fun ls hl => ?_)
  refine lv_aload_n hx hb dL_law_830 rfl (lv_at hl 3 rfl) ?_
  refine lv_aload_n hx hb dL_law_831 rfl (lv_at hl 1 rfl) ?_
  refine lv_iload hx hb dL_law_832 (lv_at hl 5 rfl) ?_
  refine lv_iconst (v := (1 : Int32)) hx hb dL_law_834 (by decide) ?_
  refine lv_iadd hx hb dL_law_835 ?_
  obtain ⟨h7, hD⟩ := gd_el hD
  refine va_sld hx hb hX hbl hbA hS h7 dL_law_836 ?_
  refine lv_aload_n hx hb dL_law_837 rfl (lv_at hl 1 rfl) ?_
  refine lv_iload hx hb dL_law_838 (lv_at hl 5 rfl) ?_
  refine lv_iconst (v := (2 : Int32)) hx hb dL_law_840 (by decide) ?_
  refine lv_iadd hx hb dL_law_841 ?_
  obtain ⟨h8, hD⟩ := gd_el hD
  refine va_sld hx hb hX hbl hbA hS h8 dL_law_842 ?_
  obtain ⟨v9, m10, z11, hD⟩ := b2_el hD
  refine lrV (Wf := fun z => Wf h m4 f c0 c1 z m5) (mm := x) (As := [.int (xs (x4 + (1 : Int32)).toNatClampNeg), .int (xs (x4 + (2 : Int32)).toNatClampNeg)]) (rest := []) Fx0 (c_X10_splice l (Wf := fun z0_ => Wf h m4 f c0 c1 z0_ m5) (hLx h m4 f c0 c1 m5) (fun a0_ b0_ => hAd h h m4 m4 f f c0 c0 c1 c1 a0_ b0_ m5 m5) x (xs (x4 + (1 : Int32)).toNatClampNeg) (xs (x4 + (2 : Int32)).toNatClampNeg) z11) hP (hD1 _ (hAd _ _ _ _ _ _ _ _ _ _ _ _ _ _)) hS (hA1 _ _ (hAd _ _ _ _ _ _ _ _ _ _ _ _ _ _) hS.1) (hLx h m4 f c0 c1 m5) (Nat.le_of_ble_eq_true rfl) (xs0 _ _) rfl tw_7_226 tw_7_223 tw_7_224 tw_7_225 tw_1_13 yd_X10_splice ⟨(Nat.le_of_ble_eq_true rfl), (Nat.le_of_ble_eq_true rfl)⟩ ⟨show _ ≤ 601024 by omega, show _ ≤ 7293034 by omega⟩ rfl hl.1 rfl (Nat.le_of_ble_eq_true rfl) dL_law_843 (fun H locs hP hS => ?_)
  refine lv_istore (lv' := [(6, .int v9), (5, .int v3), (0, .ref b), (1, .ref (adh 0)), (2, .ref (adx 0)), (3, .ref (adu 0)), (4, .int x4)]) hx hb dL_law_846 hl (by decide) rfl (fun ls hl => ?_)
  refine lv_aload_n hx hb dL_law_848 rfl (lv_at hl 4 rfl) ?_
  obtain ⟨v12, z13, hD⟩ := b1_el hD
  refine lrV (Wf := fun z => Wf h m4 f c0 c1 z m5) (mm := m10) (As := []) (rest := []) Fx0 (c_X10_thrown l (Wf := fun z0_ => Wf h m4 f c0 c1 z0_ m5) (hLx h m4 f c0 c1 m5) (fun a0_ b0_ => hAd h h m4 m4 f f c0 c0 c1 c1 a0_ b0_ m5 m5) m10 z13) hP (hD1 _ (hAd _ _ _ _ _ _ _ _ _ _ _ _ _ _)) hS (hA1 _ _ (hAd _ _ _ _ _ _ _ _ _ _ _ _ _ _) hS.1) (hLx h m4 f c0 c1 m5) (Nat.le_of_ble_eq_true rfl) (xs0 _ _) rfl tw_7_30 tw_7_27 tw_7_28 tw_7_29 tw_1_13 yd_X10_thrown ⟨(Nat.le_of_ble_eq_true rfl), (Nat.le_of_ble_eq_true rfl)⟩ ⟨show _ ≤ 601024 by omega, show _ ≤ 7293034 by omega⟩ rfl hl.1 rfl (Nat.le_of_ble_eq_true rfl) dL_law_849 (fun H locs hP hS => ?_)
  refine lv_iload hx hb dL_law_852 (lv_at hl 1 rfl) ?_
  refine lv_icmp_eq (tgt := 859) hx hb dL_law_854 (by decide) (fun c => ?_) (fun c => ?_)
  · have hD := ifp hD c
    refine lv_iload hx hb dL_law_859 (lv_at hl 1 rfl) ?_
    refine lv_if_ne (tgt := 876) hx hb dL_law_861 (by decide) (fun c => ?_) (fun c => ?_)
    · have hD := ifn hD c
      refine lv_goto (tgt := 2964) hx hb dL_law_876 (by decide) ?_
      obtain ⟨v14, ev14, hD⟩ := bnd_el hD
      refine lv_iinc (v := v14) (lv' := [(4, .int v14), (6, .int v9), (5, .int v3), (0, .ref b), (1, .ref (adh 0)), (2, .ref (adx 0)), (3, .ref (adu 0))]) hx hb dL_law_2964 hl (k := 6) rfl (by rw [ev14]; rfl) (by decide) rfl (fun ls hl => ?_)
      refine lv_goto (tgt := 23) hx hb dL_law_2967 (by decide) ?_
      exact hk v14 h m4 f c0 c1 m10 m5 _ _ _ _ _ hD (show _ + n ≤ 601024 by omega) (show _ + 6 * n ≤ 7293034 by omega) hP hS (lv_sub hl [3, 4, 5, 6, 0] rfl)
    · have hD := ifp hD c
      refine lv_aload_n hx hb dL_law_864 rfl (lv_at hl 5 rfl) ?_
      refine lv_iconst (v := (0 : Int32)) hx hb dL_law_865 (by decide) ?_
      refine rlald (Wf := fun z => Wf h m4 f c0 c1 m10 z) (mm := m5) hx hb hK hP (hLu h m4 f c0 c1 m10) 0 (Nat.le_of_ble_eq_true rfl) (us0 _ _) (by decide) (j := 0) (by decide) dL_law_866 ?_
      refine lv_iload hx hb dL_law_867 (lv_at hl 0 rfl) ?_
      refine lv_i2l (v := v9.toInt64) hx hb dL_law_869 rfl ?_
      refine rlc_eq (tgt := 876) hx hb dL_law_870 dL_law_871 (by decide) (fun c => ?_) (fun c => ?_)
      · have hD := ifp hD c
        refine lv_goto (tgt := 2964) hx hb dL_law_876 (by decide) ?_
        obtain ⟨v15, ev15, hD⟩ := bnd_el hD
        refine lv_iinc (v := v15) (lv' := [(4, .int v15), (6, .int v9), (5, .int v3), (0, .ref b), (1, .ref (adh 0)), (2, .ref (adx 0)), (3, .ref (adu 0))]) hx hb dL_law_2964 hl (k := 6) rfl (by rw [ev15]; rfl) (by decide) rfl (fun ls hl => ?_)
        refine lv_goto (tgt := 23) hx hb dL_law_2967 (by decide) ?_
        exact hk v15 h m4 f c0 c1 m10 m5 _ _ _ _ _ hD (show _ + n ≤ 601024 by omega) (show _ + 6 * n ≤ 7293034 by omega) hP hS (lv_sub hl [3, 4, 5, 6, 0] rfl)
      · have hD := ifn hD c
        refine lv_iconst (v := (0 : Int32)) hx hb dL_law_874 (by decide) ?_
        exact nn_el hD
  · have hD := ifn hD c
    refine lv_iconst (v := (0 : Int32)) hx hb dL_law_857 (by decide) ?_
    exact nn_el hD
noncomputable def D_L_law_879 (L : Nat) (xs : Nat → Int32) (k : LKont) (x4 : Int32) (h : MM) (m : MM) (f : MM) (c0 : MM) (c1 : MM) (x : MM) (u : MM) : Option Unit := if (x4 + (1 : Int32)) < 0 ∨ L ≤ (x4 + (1 : Int32)).toNatClampNeg then none else (b3 (D_L_takeReel (xs (x4 + (1 : Int32)).toNatClampNeg) h m u) (fun v2 m3 m4 => if (x4 + (1 : Int32)) < 0 ∨ L ≤ (x4 + (1 : Int32)).toNatClampNeg then none else (b2 (D_X10_takeReel (xs (x4 + (1 : Int32)).toNatClampNeg) x) (fun v7 m8 => b1 (D_X10_thrown m8) (fun v10 => if v10 = v2 then (if v2 = 0 then (if (gl m4 0 0) = v7.toInt64 then (bnd (x4 + (3 : Int32)) (fun v13 => k v13 h m3 f c0 c1 m8 m4)) else (none)) else (bnd (x4 + (3 : Int32)) (fun v12 => k v12 h m3 f c0 c1 m8 m4))) else (none))))))
set_option maxHeartbeats 4000000 in
set_option maxRecDepth 100000 in
theorem c_L_law_879 (l : Launch) (hst : l.stackTraces = false) {p : Program} {e : Env} {s : State} {m0 : MethodId} {below : List Frame} {meth : Method} {c : Code} {b L : Nat} {xs : Nat → Int32} {D : va_G} {cs : Nat → ClassId} {A : Nat → Prop} {Q : State → Prop} {adh ad adf ad0 ad1 adx adu ma : Nat → Nat} {Wf : MM → MM → MM → MM → MM → MM → MM → va_W} (hLh : ∀ m f c0 c1 x u : MM, Ln 8 adh (hsh cs adh ma) (fun z => Wf z m f c0 c1 x u)) (hL : ∀ h f c0 c1 x u : MM, Ln 51 ad (msh cs ad) (fun z => Wf h z f c0 c1 x u)) (hLf : ∀ h m c0 c1 x u : MM, Ln 51 adf (msh cs adf) (fun z => Wf h m z c0 c1 x u)) (hL0 : ∀ h m f c1 x u : MM, Ln 51 ad0 (msh cs ad0) (fun z => Wf h m f z c1 x u)) (hL1 : ∀ h m f c0 x u : MM, Ln 51 ad1 (msh cs ad1) (fun z => Wf h m f c0 z x u)) (hLx : ∀ h m f c0 c1 u : MM, Ln 9 adx (xsh cs adx) (fun z => Wf h m f c0 c1 z u)) (hLu : ∀ h m f c0 c1 x : MM, Ln 1 adu (ush cs) (fun z => Wf h m f c0 c1 x z)) (hAd : ∀ a0_ b0_ a1_ b1_ a2_ b2_ a3_ b3_ a4_ b4_ a5_ b5_ a6_ b6_ : MM, (Wf a0_ a1_ a2_ a3_ a4_ a5_ a6_).map (fun q => q.1) = (Wf b0_ b1_ b2_ b3_ b4_ b5_ b6_).map (fun q => q.1)) (hm1 : ma 1 = ad 24) (hm2 : ma 2 = adf 24) (hm3 : ma 3 = ad0 24) (hm4 : ma 4 = ad1 24) (hLX : LX p s m0 c b L xs D cs A (Wf zMM zMM zMM zMM zMM zMM zMM)) (n : Nat) (k : LKont) (hk : LK p l e s m0 below meth c b D A Q adh adx adu Wf n k) (x4 : Int32) (h : MM) (m : MM) (f : MM) (c0 : MM) (c1 : MM) (x : MM) (u : MM) (cells slots : Nat) (H : Heap) (locs : List Loc) (ls : Array Slot) (hD : D_L_law_879 L xs k x4 h m f c0 c1 x u = some ()) (hcl : cells + (n + 1) ≤ 601024) (hsl : slots + 6 * (n + 1) ≤ 7293034) (hP : va_P D vwCl (Wf h m f c0 c1 x u) H) (hS : va_S A s.heap H locs) (hl : lv_has ls 8 [(0, .ref b), (1, .ref (adh 0)), (2, .ref (adx 0)), (3, .ref (adu 0)), (4, .int x4)]) : W p l e room_1 s m0 #[Value.ref b] below meth c H locs cells slots Q (F0 m0 879 ls []) := by
  obtain ⟨hx, hb, hml, hown, hK, hT⟩ := hLX.rest
  obtain ⟨Fx0, hX, hbl, hbA, hD1, hA1⟩ := hLX
  unfold D_L_law_879 at hD
  refine lv_aload_n hx hb dL_law_879 rfl (lv_at hl 1 rfl) ?_
  refine lv_aload_n hx hb dL_law_880 rfl (lv_at hl 0 rfl) ?_
  refine lv_iload hx hb dL_law_881 (lv_at hl 4 rfl) ?_
  refine lv_iconst (v := (1 : Int32)) hx hb dL_law_883 (by decide) ?_
  refine lv_iadd hx hb dL_law_884 ?_
  obtain ⟨h1, hD⟩ := gd_el hD
  refine va_sld hx hb hX hbl hbA hS h1 dL_law_885 ?_
  refine lv_aload_n hx hb dL_law_886 rfl (lv_at hl 3 rfl) ?_
  obtain ⟨v2, m3, m4, z5, hD⟩ := b3_el hD
  refine lrL (As := [.ref (adh 0), .int (xs (x4 + (1 : Int32)).toNatClampNeg), .ref (adu 0)]) (rest := []) Fx0 (c_L_takeReel l hst (Wf := fun z0_ z1_ z2_ => Wf z0_ z1_ f c0 c1 x z2_) (fun z1_ z2_ => hLh z1_ f c0 c1 x z2_) (fun z0_ z2_ => hL z0_ f c0 c1 x z2_) (fun z0_ z1_ => hLu z0_ z1_ f c0 c1 x) (fun a0_ b0_ a1_ b1_ a2_ b2_ => hAd a0_ b0_ a1_ b1_ f f c0 c0 c1 c1 x x a2_ b2_) hm1 h m u (xs (x4 + (1 : Int32)).toNatClampNeg) z5) hP (hD1 _ (hAd _ _ _ _ _ _ _ _ _ _ _ _ _ _)) hS (hA1 _ _ (hAd _ _ _ _ _ _ _ _ _ _ _ _ _ _) hS.1) tw_5_205 tw_5_203 tw_5_204 tw_1_0 yd_L_takeReel ⟨(Nat.le_of_ble_eq_true rfl), (Nat.le_of_ble_eq_true rfl)⟩ ⟨show _ + 1 ≤ 601024 by omega, show _ + 6 ≤ 7293034 by omega⟩ rfl hl.1 rfl (Nat.le_of_ble_eq_true rfl) dL_law_887 (fun H locs hP hS => ?_)
  refine lv_istore (lv' := [(5, .int v2), (0, .ref b), (1, .ref (adh 0)), (2, .ref (adx 0)), (3, .ref (adu 0)), (4, .int x4)]) hx hb dL_law_890 hl (by decide) rfl (fun ls hl => ?_)
  refine lv_aload_n hx hb dL_law_892 rfl (lv_at hl 3 rfl) ?_
  refine lv_aload_n hx hb dL_law_893 rfl (lv_at hl 1 rfl) ?_
  refine lv_iload hx hb dL_law_894 (lv_at hl 5 rfl) ?_
  refine lv_iconst (v := (1 : Int32)) hx hb dL_law_896 (by decide) ?_
  refine lv_iadd hx hb dL_law_897 ?_
  obtain ⟨h6, hD⟩ := gd_el hD
  refine va_sld hx hb hX hbl hbA hS h6 dL_law_898 ?_
  obtain ⟨v7, m8, z9, hD⟩ := b2_el hD
  refine lrV (Wf := fun z => Wf h m3 f c0 c1 z m4) (mm := x) (As := [.int (xs (x4 + (1 : Int32)).toNatClampNeg)]) (rest := []) Fx0 (c_X10_takeReel l (Wf := fun z0_ => Wf h m3 f c0 c1 z0_ m4) (hLx h m3 f c0 c1 m4) (fun a0_ b0_ => hAd h h m3 m3 f f c0 c0 c1 c1 a0_ b0_ m4 m4) x (xs (x4 + (1 : Int32)).toNatClampNeg) z9) hP (hD1 _ (hAd _ _ _ _ _ _ _ _ _ _ _ _ _ _)) hS (hA1 _ _ (hAd _ _ _ _ _ _ _ _ _ _ _ _ _ _) hS.1) (hLx h m3 f c0 c1 m4) (Nat.le_of_ble_eq_true rfl) (xs0 _ _) rfl tw_8_3 tw_8_0 tw_8_1 tw_8_2 tw_1_13 yd_X10_takeReel ⟨(Nat.le_of_ble_eq_true rfl), (Nat.le_of_ble_eq_true rfl)⟩ ⟨show _ ≤ 601024 by omega, show _ ≤ 7293034 by omega⟩ rfl hl.1 rfl (Nat.le_of_ble_eq_true rfl) dL_law_899 (fun H locs hP hS => ?_)
  refine lv_istore (lv' := [(6, .int v7), (5, .int v2), (0, .ref b), (1, .ref (adh 0)), (2, .ref (adx 0)), (3, .ref (adu 0)), (4, .int x4)]) hx hb dL_law_902 hl (by decide) rfl (fun ls hl => ?_)
  refine lv_aload_n hx hb dL_law_904 rfl (lv_at hl 4 rfl) ?_
  obtain ⟨v10, z11, hD⟩ := b1_el hD
  refine lrV (Wf := fun z => Wf h m3 f c0 c1 z m4) (mm := m8) (As := []) (rest := []) Fx0 (c_X10_thrown l (Wf := fun z0_ => Wf h m3 f c0 c1 z0_ m4) (hLx h m3 f c0 c1 m4) (fun a0_ b0_ => hAd h h m3 m3 f f c0 c0 c1 c1 a0_ b0_ m4 m4) m8 z11) hP (hD1 _ (hAd _ _ _ _ _ _ _ _ _ _ _ _ _ _)) hS (hA1 _ _ (hAd _ _ _ _ _ _ _ _ _ _ _ _ _ _) hS.1) (hLx h m3 f c0 c1 m4) (Nat.le_of_ble_eq_true rfl) (xs0 _ _) rfl tw_7_30 tw_7_27 tw_7_28 tw_7_29 tw_1_13 yd_X10_thrown ⟨(Nat.le_of_ble_eq_true rfl), (Nat.le_of_ble_eq_true rfl)⟩ ⟨show _ ≤ 601024 by omega, show _ ≤ 7293034 by omega⟩ rfl hl.1 rfl (Nat.le_of_ble_eq_true rfl) dL_law_905 (fun H locs hP hS => ?_)
  refine lv_iload hx hb dL_law_908 (lv_at hl 1 rfl) ?_
  refine lv_icmp_eq (tgt := 915) hx hb dL_law_910 (by decide) (fun c => ?_) (fun c => ?_)
  · have hD := ifp hD c
    refine lv_iload hx hb dL_law_915 (lv_at hl 1 rfl) ?_
    refine lv_if_ne (tgt := 932) hx hb dL_law_917 (by decide) (fun c => ?_) (fun c => ?_)
    · have hD := ifn hD c
      refine lv_goto (tgt := 2964) hx hb dL_law_932 (by decide) ?_
      obtain ⟨v12, ev12, hD⟩ := bnd_el hD
      refine lv_iinc (v := v12) (lv' := [(4, .int v12), (6, .int v7), (5, .int v2), (0, .ref b), (1, .ref (adh 0)), (2, .ref (adx 0)), (3, .ref (adu 0))]) hx hb dL_law_2964 hl (k := 6) rfl (by rw [ev12]; rfl) (by decide) rfl (fun ls hl => ?_)
      refine lv_goto (tgt := 23) hx hb dL_law_2967 (by decide) ?_
      exact hk v12 h m3 f c0 c1 m8 m4 _ _ _ _ _ hD (show _ + n ≤ 601024 by omega) (show _ + 6 * n ≤ 7293034 by omega) hP hS (lv_sub hl [3, 4, 5, 6, 0] rfl)
    · have hD := ifp hD c
      refine lv_aload_n hx hb dL_law_920 rfl (lv_at hl 5 rfl) ?_
      refine lv_iconst (v := (0 : Int32)) hx hb dL_law_921 (by decide) ?_
      refine rlald (Wf := fun z => Wf h m3 f c0 c1 m8 z) (mm := m4) hx hb hK hP (hLu h m3 f c0 c1 m8) 0 (Nat.le_of_ble_eq_true rfl) (us0 _ _) (by decide) (j := 0) (by decide) dL_law_922 ?_
      refine lv_iload hx hb dL_law_923 (lv_at hl 0 rfl) ?_
      refine lv_i2l (v := v7.toInt64) hx hb dL_law_925 rfl ?_
      refine rlc_eq (tgt := 932) hx hb dL_law_926 dL_law_927 (by decide) (fun c => ?_) (fun c => ?_)
      · have hD := ifp hD c
        refine lv_goto (tgt := 2964) hx hb dL_law_932 (by decide) ?_
        obtain ⟨v13, ev13, hD⟩ := bnd_el hD
        refine lv_iinc (v := v13) (lv' := [(4, .int v13), (6, .int v7), (5, .int v2), (0, .ref b), (1, .ref (adh 0)), (2, .ref (adx 0)), (3, .ref (adu 0))]) hx hb dL_law_2964 hl (k := 6) rfl (by rw [ev13]; rfl) (by decide) rfl (fun ls hl => ?_)
        refine lv_goto (tgt := 23) hx hb dL_law_2967 (by decide) ?_
        exact hk v13 h m3 f c0 c1 m8 m4 _ _ _ _ _ hD (show _ + n ≤ 601024 by omega) (show _ + 6 * n ≤ 7293034 by omega) hP hS (lv_sub hl [3, 4, 5, 6, 0] rfl)
      · have hD := ifn hD c
        refine lv_iconst (v := (0 : Int32)) hx hb dL_law_930 (by decide) ?_
        exact nn_el hD
  · have hD := ifn hD c
    refine lv_iconst (v := (0 : Int32)) hx hb dL_law_913 (by decide) ?_
    exact nn_el hD
noncomputable def D_L_law_935 (L : Nat) (xs : Nat → Int32) (k : LKont) (x4 : Int32) (h : MM) (m : MM) (f : MM) (c0 : MM) (c1 : MM) (x : MM) (u : MM) : Option Unit := if (x4 + (1 : Int32)) < 0 ∨ L ≤ (x4 + (1 : Int32)).toNatClampNeg then none else (if (x4 + (2 : Int32)) < 0 ∨ L ≤ (x4 + (2 : Int32)).toNatClampNeg then none else (b3 (D_L_setMiss (xs (x4 + (1 : Int32)).toNatClampNeg) (xs (x4 + (2 : Int32)).toNatClampNeg) h m u) (fun v3 m4 m5 => if (x4 + (1 : Int32)) < 0 ∨ L ≤ (x4 + (1 : Int32)).toNatClampNeg then none else (if (x4 + (2 : Int32)) < 0 ∨ L ≤ (x4 + (2 : Int32)).toNatClampNeg then none else (b2 (D_X10_setMiss (xs (x4 + (1 : Int32)).toNatClampNeg) (xs (x4 + (2 : Int32)).toNatClampNeg) x) (fun v9 m10 => b1 (D_X10_thrown m10) (fun v12 => if v12 = v3 then (if v3 = 0 then (if (gl m5 0 0) = v9.toInt64 then (bnd (x4 + (3 : Int32)) (fun v15 => k v15 h m4 f c0 c1 m10 m5)) else (none)) else (bnd (x4 + (3 : Int32)) (fun v14 => k v14 h m4 f c0 c1 m10 m5))) else (none))))))))
set_option maxHeartbeats 4000000 in
set_option maxRecDepth 100000 in
theorem c_L_law_935 (l : Launch) (hst : l.stackTraces = false) {p : Program} {e : Env} {s : State} {m0 : MethodId} {below : List Frame} {meth : Method} {c : Code} {b L : Nat} {xs : Nat → Int32} {D : va_G} {cs : Nat → ClassId} {A : Nat → Prop} {Q : State → Prop} {adh ad adf ad0 ad1 adx adu ma : Nat → Nat} {Wf : MM → MM → MM → MM → MM → MM → MM → va_W} (hLh : ∀ m f c0 c1 x u : MM, Ln 8 adh (hsh cs adh ma) (fun z => Wf z m f c0 c1 x u)) (hL : ∀ h f c0 c1 x u : MM, Ln 51 ad (msh cs ad) (fun z => Wf h z f c0 c1 x u)) (hLf : ∀ h m c0 c1 x u : MM, Ln 51 adf (msh cs adf) (fun z => Wf h m z c0 c1 x u)) (hL0 : ∀ h m f c1 x u : MM, Ln 51 ad0 (msh cs ad0) (fun z => Wf h m f z c1 x u)) (hL1 : ∀ h m f c0 x u : MM, Ln 51 ad1 (msh cs ad1) (fun z => Wf h m f c0 z x u)) (hLx : ∀ h m f c0 c1 u : MM, Ln 9 adx (xsh cs adx) (fun z => Wf h m f c0 c1 z u)) (hLu : ∀ h m f c0 c1 x : MM, Ln 1 adu (ush cs) (fun z => Wf h m f c0 c1 x z)) (hAd : ∀ a0_ b0_ a1_ b1_ a2_ b2_ a3_ b3_ a4_ b4_ a5_ b5_ a6_ b6_ : MM, (Wf a0_ a1_ a2_ a3_ a4_ a5_ a6_).map (fun q => q.1) = (Wf b0_ b1_ b2_ b3_ b4_ b5_ b6_).map (fun q => q.1)) (hm1 : ma 1 = ad 24) (hm2 : ma 2 = adf 24) (hm3 : ma 3 = ad0 24) (hm4 : ma 4 = ad1 24) (hLX : LX p s m0 c b L xs D cs A (Wf zMM zMM zMM zMM zMM zMM zMM)) (n : Nat) (k : LKont) (hk : LK p l e s m0 below meth c b D A Q adh adx adu Wf n k) (x4 : Int32) (h : MM) (m : MM) (f : MM) (c0 : MM) (c1 : MM) (x : MM) (u : MM) (cells slots : Nat) (H : Heap) (locs : List Loc) (ls : Array Slot) (hD : D_L_law_935 L xs k x4 h m f c0 c1 x u = some ()) (hcl : cells + (n + 1) ≤ 601024) (hsl : slots + 6 * (n + 1) ≤ 7293034) (hP : va_P D vwCl (Wf h m f c0 c1 x u) H) (hS : va_S A s.heap H locs) (hl : lv_has ls 8 [(0, .ref b), (1, .ref (adh 0)), (2, .ref (adx 0)), (3, .ref (adu 0)), (4, .int x4)]) : W p l e room_1 s m0 #[Value.ref b] below meth c H locs cells slots Q (F0 m0 935 ls []) := by
  obtain ⟨hx, hb, hml, hown, hK, hT⟩ := hLX.rest
  obtain ⟨Fx0, hX, hbl, hbA, hD1, hA1⟩ := hLX
  unfold D_L_law_935 at hD
  refine lv_aload_n hx hb dL_law_935 rfl (lv_at hl 1 rfl) ?_
  refine lv_aload_n hx hb dL_law_936 rfl (lv_at hl 0 rfl) ?_
  refine lv_iload hx hb dL_law_937 (lv_at hl 4 rfl) ?_
  refine lv_iconst (v := (1 : Int32)) hx hb dL_law_939 (by decide) ?_
  refine lv_iadd hx hb dL_law_940 ?_
  obtain ⟨h1, hD⟩ := gd_el hD
  refine va_sld hx hb hX hbl hbA hS h1 dL_law_941 ?_
  refine lv_aload_n hx hb dL_law_942 rfl (lv_at hl 0 rfl) ?_
  refine lv_iload hx hb dL_law_943 (lv_at hl 4 rfl) ?_
  refine lv_iconst (v := (2 : Int32)) hx hb dL_law_945 (by decide) ?_
  refine lv_iadd hx hb dL_law_946 ?_
  obtain ⟨h2, hD⟩ := gd_el hD
  refine va_sld hx hb hX hbl hbA hS h2 dL_law_947 ?_
  refine lv_aload_n hx hb dL_law_948 rfl (lv_at hl 3 rfl) ?_
  obtain ⟨v3, m4, m5, z6, hD⟩ := b3_el hD
  refine lrL (As := [.ref (adh 0), .int (xs (x4 + (1 : Int32)).toNatClampNeg), .int (xs (x4 + (2 : Int32)).toNatClampNeg), .ref (adu 0)]) (rest := []) Fx0 (c_L_setMiss l hst (Wf := fun z0_ z1_ z2_ => Wf z0_ z1_ f c0 c1 x z2_) (fun z1_ z2_ => hLh z1_ f c0 c1 x z2_) (fun z0_ z2_ => hL z0_ f c0 c1 x z2_) (fun z0_ z1_ => hLu z0_ z1_ f c0 c1 x) (fun a0_ b0_ a1_ b1_ a2_ b2_ => hAd a0_ b0_ a1_ b1_ f f c0 c0 c1 c1 x x a2_ b2_) hm1 h m u (xs (x4 + (1 : Int32)).toNatClampNeg) (xs (x4 + (2 : Int32)).toNatClampNeg) z6) hP (hD1 _ (hAd _ _ _ _ _ _ _ _ _ _ _ _ _ _)) hS (hA1 _ _ (hAd _ _ _ _ _ _ _ _ _ _ _ _ _ _) hS.1) tw_5_216 tw_5_214 tw_5_215 tw_1_0 yd_L_setMiss ⟨(Nat.le_of_ble_eq_true rfl), (Nat.le_of_ble_eq_true rfl)⟩ ⟨show _ + 1 ≤ 601024 by omega, show _ + 6 ≤ 7293034 by omega⟩ rfl hl.1 rfl (Nat.le_of_ble_eq_true rfl) dL_law_949 (fun H locs hP hS => ?_)
  refine lv_istore (lv' := [(5, .int v3), (0, .ref b), (1, .ref (adh 0)), (2, .ref (adx 0)), (3, .ref (adu 0)), (4, .int x4)]) hx hb dL_law_952 hl (by decide) rfl (fun ls hl => ?_)
  refine lv_aload_n hx hb dL_law_954 rfl (lv_at hl 3 rfl) ?_
  refine lv_aload_n hx hb dL_law_955 rfl (lv_at hl 1 rfl) ?_
  refine lv_iload hx hb dL_law_956 (lv_at hl 5 rfl) ?_
  refine lv_iconst (v := (1 : Int32)) hx hb dL_law_958 (by decide) ?_
  refine lv_iadd hx hb dL_law_959 ?_
  obtain ⟨h7, hD⟩ := gd_el hD
  refine va_sld hx hb hX hbl hbA hS h7 dL_law_960 ?_
  refine lv_aload_n hx hb dL_law_961 rfl (lv_at hl 1 rfl) ?_
  refine lv_iload hx hb dL_law_962 (lv_at hl 5 rfl) ?_
  refine lv_iconst (v := (2 : Int32)) hx hb dL_law_964 (by decide) ?_
  refine lv_iadd hx hb dL_law_965 ?_
  obtain ⟨h8, hD⟩ := gd_el hD
  refine va_sld hx hb hX hbl hbA hS h8 dL_law_966 ?_
  obtain ⟨v9, m10, z11, hD⟩ := b2_el hD
  refine lrV (Wf := fun z => Wf h m4 f c0 c1 z m5) (mm := x) (As := [.int (xs (x4 + (1 : Int32)).toNatClampNeg), .int (xs (x4 + (2 : Int32)).toNatClampNeg)]) (rest := []) Fx0 (c_X10_setMiss l (Wf := fun z0_ => Wf h m4 f c0 c1 z0_ m5) (hLx h m4 f c0 c1 m5) (fun a0_ b0_ => hAd h h m4 m4 f f c0 c0 c1 c1 a0_ b0_ m5 m5) x (xs (x4 + (1 : Int32)).toNatClampNeg) (xs (x4 + (2 : Int32)).toNatClampNeg) z11) hP (hD1 _ (hAd _ _ _ _ _ _ _ _ _ _ _ _ _ _)) hS (hA1 _ _ (hAd _ _ _ _ _ _ _ _ _ _ _ _ _ _) hS.1) (hLx h m4 f c0 c1 m5) (Nat.le_of_ble_eq_true rfl) (xs0 _ _) rfl tw_8_7 tw_8_4 tw_8_5 tw_8_6 tw_1_13 yd_X10_setMiss ⟨(Nat.le_of_ble_eq_true rfl), (Nat.le_of_ble_eq_true rfl)⟩ ⟨show _ ≤ 601024 by omega, show _ ≤ 7293034 by omega⟩ rfl hl.1 rfl (Nat.le_of_ble_eq_true rfl) dL_law_967 (fun H locs hP hS => ?_)
  refine lv_istore (lv' := [(6, .int v9), (5, .int v3), (0, .ref b), (1, .ref (adh 0)), (2, .ref (adx 0)), (3, .ref (adu 0)), (4, .int x4)]) hx hb dL_law_970 hl (by decide) rfl (fun ls hl => ?_)
  refine lv_aload_n hx hb dL_law_972 rfl (lv_at hl 4 rfl) ?_
  obtain ⟨v12, z13, hD⟩ := b1_el hD
  refine lrV (Wf := fun z => Wf h m4 f c0 c1 z m5) (mm := m10) (As := []) (rest := []) Fx0 (c_X10_thrown l (Wf := fun z0_ => Wf h m4 f c0 c1 z0_ m5) (hLx h m4 f c0 c1 m5) (fun a0_ b0_ => hAd h h m4 m4 f f c0 c0 c1 c1 a0_ b0_ m5 m5) m10 z13) hP (hD1 _ (hAd _ _ _ _ _ _ _ _ _ _ _ _ _ _)) hS (hA1 _ _ (hAd _ _ _ _ _ _ _ _ _ _ _ _ _ _) hS.1) (hLx h m4 f c0 c1 m5) (Nat.le_of_ble_eq_true rfl) (xs0 _ _) rfl tw_7_30 tw_7_27 tw_7_28 tw_7_29 tw_1_13 yd_X10_thrown ⟨(Nat.le_of_ble_eq_true rfl), (Nat.le_of_ble_eq_true rfl)⟩ ⟨show _ ≤ 601024 by omega, show _ ≤ 7293034 by omega⟩ rfl hl.1 rfl (Nat.le_of_ble_eq_true rfl) dL_law_973 (fun H locs hP hS => ?_)
  refine lv_iload hx hb dL_law_976 (lv_at hl 1 rfl) ?_
  refine lv_icmp_eq (tgt := 983) hx hb dL_law_978 (by decide) (fun c => ?_) (fun c => ?_)
  · have hD := ifp hD c
    refine lv_iload hx hb dL_law_983 (lv_at hl 1 rfl) ?_
    refine lv_if_ne (tgt := 1000) hx hb dL_law_985 (by decide) (fun c => ?_) (fun c => ?_)
    · have hD := ifn hD c
      refine lv_goto (tgt := 2964) hx hb dL_law_1000 (by decide) ?_
      obtain ⟨v14, ev14, hD⟩ := bnd_el hD
      refine lv_iinc (v := v14) (lv' := [(4, .int v14), (6, .int v9), (5, .int v3), (0, .ref b), (1, .ref (adh 0)), (2, .ref (adx 0)), (3, .ref (adu 0))]) hx hb dL_law_2964 hl (k := 6) rfl (by rw [ev14]; rfl) (by decide) rfl (fun ls hl => ?_)
      refine lv_goto (tgt := 23) hx hb dL_law_2967 (by decide) ?_
      exact hk v14 h m4 f c0 c1 m10 m5 _ _ _ _ _ hD (show _ + n ≤ 601024 by omega) (show _ + 6 * n ≤ 7293034 by omega) hP hS (lv_sub hl [3, 4, 5, 6, 0] rfl)
    · have hD := ifp hD c
      refine lv_aload_n hx hb dL_law_988 rfl (lv_at hl 5 rfl) ?_
      refine lv_iconst (v := (0 : Int32)) hx hb dL_law_989 (by decide) ?_
      refine rlald (Wf := fun z => Wf h m4 f c0 c1 m10 z) (mm := m5) hx hb hK hP (hLu h m4 f c0 c1 m10) 0 (Nat.le_of_ble_eq_true rfl) (us0 _ _) (by decide) (j := 0) (by decide) dL_law_990 ?_
      refine lv_iload hx hb dL_law_991 (lv_at hl 0 rfl) ?_
      refine lv_i2l (v := v9.toInt64) hx hb dL_law_993 rfl ?_
      refine rlc_eq (tgt := 1000) hx hb dL_law_994 dL_law_995 (by decide) (fun c => ?_) (fun c => ?_)
      · have hD := ifp hD c
        refine lv_goto (tgt := 2964) hx hb dL_law_1000 (by decide) ?_
        obtain ⟨v15, ev15, hD⟩ := bnd_el hD
        refine lv_iinc (v := v15) (lv' := [(4, .int v15), (6, .int v9), (5, .int v3), (0, .ref b), (1, .ref (adh 0)), (2, .ref (adx 0)), (3, .ref (adu 0))]) hx hb dL_law_2964 hl (k := 6) rfl (by rw [ev15]; rfl) (by decide) rfl (fun ls hl => ?_)
        refine lv_goto (tgt := 23) hx hb dL_law_2967 (by decide) ?_
        exact hk v15 h m4 f c0 c1 m10 m5 _ _ _ _ _ hD (show _ + n ≤ 601024 by omega) (show _ + 6 * n ≤ 7293034 by omega) hP hS (lv_sub hl [3, 4, 5, 6, 0] rfl)
      · have hD := ifn hD c
        refine lv_iconst (v := (0 : Int32)) hx hb dL_law_998 (by decide) ?_
        exact nn_el hD
  · have hD := ifn hD c
    refine lv_iconst (v := (0 : Int32)) hx hb dL_law_981 (by decide) ?_
    exact nn_el hD
noncomputable def D_L_law_1003 (L : Nat) (xs : Nat → Int32) (k : LKont) (x4 : Int32) (h : MM) (m : MM) (f : MM) (c0 : MM) (c1 : MM) (x : MM) (u : MM) : Option Unit := if (x4 + (1 : Int32)) < 0 ∨ L ≤ (x4 + (1 : Int32)).toNatClampNeg then none else (if (x4 + (2 : Int32)) < 0 ∨ L ≤ (x4 + (2 : Int32)).toNatClampNeg then none else (b3 (D_L_moveFeeder (xs (x4 + (1 : Int32)).toNatClampNeg) (xs (x4 + (2 : Int32)).toNatClampNeg) h m u) (fun v3 m4 m5 => if (x4 + (1 : Int32)) < 0 ∨ L ≤ (x4 + (1 : Int32)).toNatClampNeg then none else (if (x4 + (2 : Int32)) < 0 ∨ L ≤ (x4 + (2 : Int32)).toNatClampNeg then none else (b2 (D_X10_moveFeeder (xs (x4 + (1 : Int32)).toNatClampNeg) (xs (x4 + (2 : Int32)).toNatClampNeg) x) (fun v9 m10 => b1 (D_X10_thrown m10) (fun v12 => if v12 = v3 then (if v3 = 0 then (if (gl m5 0 0) = v9.toInt64 then (bnd (x4 + (3 : Int32)) (fun v15 => k v15 h m4 f c0 c1 m10 m5)) else (none)) else (bnd (x4 + (3 : Int32)) (fun v14 => k v14 h m4 f c0 c1 m10 m5))) else (none))))))))
set_option maxHeartbeats 4000000 in
set_option maxRecDepth 100000 in
theorem c_L_law_1003 (l : Launch) (hst : l.stackTraces = false) {p : Program} {e : Env} {s : State} {m0 : MethodId} {below : List Frame} {meth : Method} {c : Code} {b L : Nat} {xs : Nat → Int32} {D : va_G} {cs : Nat → ClassId} {A : Nat → Prop} {Q : State → Prop} {adh ad adf ad0 ad1 adx adu ma : Nat → Nat} {Wf : MM → MM → MM → MM → MM → MM → MM → va_W} (hLh : ∀ m f c0 c1 x u : MM, Ln 8 adh (hsh cs adh ma) (fun z => Wf z m f c0 c1 x u)) (hL : ∀ h f c0 c1 x u : MM, Ln 51 ad (msh cs ad) (fun z => Wf h z f c0 c1 x u)) (hLf : ∀ h m c0 c1 x u : MM, Ln 51 adf (msh cs adf) (fun z => Wf h m z c0 c1 x u)) (hL0 : ∀ h m f c1 x u : MM, Ln 51 ad0 (msh cs ad0) (fun z => Wf h m f z c1 x u)) (hL1 : ∀ h m f c0 x u : MM, Ln 51 ad1 (msh cs ad1) (fun z => Wf h m f c0 z x u)) (hLx : ∀ h m f c0 c1 u : MM, Ln 9 adx (xsh cs adx) (fun z => Wf h m f c0 c1 z u)) (hLu : ∀ h m f c0 c1 x : MM, Ln 1 adu (ush cs) (fun z => Wf h m f c0 c1 x z)) (hAd : ∀ a0_ b0_ a1_ b1_ a2_ b2_ a3_ b3_ a4_ b4_ a5_ b5_ a6_ b6_ : MM, (Wf a0_ a1_ a2_ a3_ a4_ a5_ a6_).map (fun q => q.1) = (Wf b0_ b1_ b2_ b3_ b4_ b5_ b6_).map (fun q => q.1)) (hm1 : ma 1 = ad 24) (hm2 : ma 2 = adf 24) (hm3 : ma 3 = ad0 24) (hm4 : ma 4 = ad1 24) (hLX : LX p s m0 c b L xs D cs A (Wf zMM zMM zMM zMM zMM zMM zMM)) (n : Nat) (k : LKont) (hk : LK p l e s m0 below meth c b D A Q adh adx adu Wf n k) (x4 : Int32) (h : MM) (m : MM) (f : MM) (c0 : MM) (c1 : MM) (x : MM) (u : MM) (cells slots : Nat) (H : Heap) (locs : List Loc) (ls : Array Slot) (hD : D_L_law_1003 L xs k x4 h m f c0 c1 x u = some ()) (hcl : cells + (n + 1) ≤ 601024) (hsl : slots + 6 * (n + 1) ≤ 7293034) (hP : va_P D vwCl (Wf h m f c0 c1 x u) H) (hS : va_S A s.heap H locs) (hl : lv_has ls 8 [(0, .ref b), (1, .ref (adh 0)), (2, .ref (adx 0)), (3, .ref (adu 0)), (4, .int x4)]) : W p l e room_1 s m0 #[Value.ref b] below meth c H locs cells slots Q (F0 m0 1003 ls []) := by
  obtain ⟨hx, hb, hml, hown, hK, hT⟩ := hLX.rest
  obtain ⟨Fx0, hX, hbl, hbA, hD1, hA1⟩ := hLX
  unfold D_L_law_1003 at hD
  refine lv_aload_n hx hb dL_law_1003 rfl (lv_at hl 1 rfl) ?_
  refine lv_aload_n hx hb dL_law_1004 rfl (lv_at hl 0 rfl) ?_
  refine lv_iload hx hb dL_law_1005 (lv_at hl 4 rfl) ?_
  refine lv_iconst (v := (1 : Int32)) hx hb dL_law_1007 (by decide) ?_
  refine lv_iadd hx hb dL_law_1008 ?_
  obtain ⟨h1, hD⟩ := gd_el hD
  refine va_sld hx hb hX hbl hbA hS h1 dL_law_1009 ?_
  refine lv_aload_n hx hb dL_law_1010 rfl (lv_at hl 0 rfl) ?_
  refine lv_iload hx hb dL_law_1011 (lv_at hl 4 rfl) ?_
  refine lv_iconst (v := (2 : Int32)) hx hb dL_law_1013 (by decide) ?_
  refine lv_iadd hx hb dL_law_1014 ?_
  obtain ⟨h2, hD⟩ := gd_el hD
  refine va_sld hx hb hX hbl hbA hS h2 dL_law_1015 ?_
  refine lv_aload_n hx hb dL_law_1016 rfl (lv_at hl 3 rfl) ?_
  obtain ⟨v3, m4, m5, z6, hD⟩ := b3_el hD
  refine lrL (As := [.ref (adh 0), .int (xs (x4 + (1 : Int32)).toNatClampNeg), .int (xs (x4 + (2 : Int32)).toNatClampNeg), .ref (adu 0)]) (rest := []) Fx0 (c_L_moveFeeder l hst (Wf := fun z0_ z1_ z2_ => Wf z0_ z1_ f c0 c1 x z2_) (fun z1_ z2_ => hLh z1_ f c0 c1 x z2_) (fun z0_ z2_ => hL z0_ f c0 c1 x z2_) (fun z0_ z1_ => hLu z0_ z1_ f c0 c1 x) (fun a0_ b0_ a1_ b1_ a2_ b2_ => hAd a0_ b0_ a1_ b1_ f f c0 c0 c1 c1 x x a2_ b2_) hm1 h m u (xs (x4 + (1 : Int32)).toNatClampNeg) (xs (x4 + (2 : Int32)).toNatClampNeg) z6) hP (hD1 _ (hAd _ _ _ _ _ _ _ _ _ _ _ _ _ _)) hS (hA1 _ _ (hAd _ _ _ _ _ _ _ _ _ _ _ _ _ _) hS.1) tw_5_223 tw_5_221 tw_5_222 tw_1_0 yd_L_moveFeeder ⟨(Nat.le_of_ble_eq_true rfl), (Nat.le_of_ble_eq_true rfl)⟩ ⟨show _ + 1 ≤ 601024 by omega, show _ + 6 ≤ 7293034 by omega⟩ rfl hl.1 rfl (Nat.le_of_ble_eq_true rfl) dL_law_1017 (fun H locs hP hS => ?_)
  refine lv_istore (lv' := [(5, .int v3), (0, .ref b), (1, .ref (adh 0)), (2, .ref (adx 0)), (3, .ref (adu 0)), (4, .int x4)]) hx hb dL_law_1020 hl (by decide) rfl (fun ls hl => ?_)
  refine lv_aload_n hx hb dL_law_1022 rfl (lv_at hl 3 rfl) ?_
  refine lv_aload_n hx hb dL_law_1023 rfl (lv_at hl 1 rfl) ?_
  refine lv_iload hx hb dL_law_1024 (lv_at hl 5 rfl) ?_
  refine lv_iconst (v := (1 : Int32)) hx hb dL_law_1026 (by decide) ?_
  refine lv_iadd hx hb dL_law_1027 ?_
  obtain ⟨h7, hD⟩ := gd_el hD
  refine va_sld hx hb hX hbl hbA hS h7 dL_law_1028 ?_
  refine lv_aload_n hx hb dL_law_1029 rfl (lv_at hl 1 rfl) ?_
  refine lv_iload hx hb dL_law_1030 (lv_at hl 5 rfl) ?_
  refine lv_iconst (v := (2 : Int32)) hx hb dL_law_1032 (by decide) ?_
  refine lv_iadd hx hb dL_law_1033 ?_
  obtain ⟨h8, hD⟩ := gd_el hD
  refine va_sld hx hb hX hbl hbA hS h8 dL_law_1034 ?_
  obtain ⟨v9, m10, z11, hD⟩ := b2_el hD
  refine lrV (Wf := fun z => Wf h m4 f c0 c1 z m5) (mm := x) (As := [.int (xs (x4 + (1 : Int32)).toNatClampNeg), .int (xs (x4 + (2 : Int32)).toNatClampNeg)]) (rest := []) Fx0 (c_X10_moveFeeder l (Wf := fun z0_ => Wf h m4 f c0 c1 z0_ m5) (hLx h m4 f c0 c1 m5) (fun a0_ b0_ => hAd h h m4 m4 f f c0 c0 c1 c1 a0_ b0_ m5 m5) x (xs (x4 + (1 : Int32)).toNatClampNeg) (xs (x4 + (2 : Int32)).toNatClampNeg) z11) hP (hD1 _ (hAd _ _ _ _ _ _ _ _ _ _ _ _ _ _)) hS (hA1 _ _ (hAd _ _ _ _ _ _ _ _ _ _ _ _ _ _) hS.1) (hLx h m4 f c0 c1 m5) (Nat.le_of_ble_eq_true rfl) (xs0 _ _) rfl tw_8_16 tw_8_13 tw_8_14 tw_8_15 tw_1_13 yd_X10_moveFeeder ⟨(Nat.le_of_ble_eq_true rfl), (Nat.le_of_ble_eq_true rfl)⟩ ⟨show _ ≤ 601024 by omega, show _ ≤ 7293034 by omega⟩ rfl hl.1 rfl (Nat.le_of_ble_eq_true rfl) dL_law_1035 (fun H locs hP hS => ?_)
  refine lv_istore (lv' := [(6, .int v9), (5, .int v3), (0, .ref b), (1, .ref (adh 0)), (2, .ref (adx 0)), (3, .ref (adu 0)), (4, .int x4)]) hx hb dL_law_1038 hl (by decide) rfl (fun ls hl => ?_)
  refine lv_aload_n hx hb dL_law_1040 rfl (lv_at hl 4 rfl) ?_
  obtain ⟨v12, z13, hD⟩ := b1_el hD
  refine lrV (Wf := fun z => Wf h m4 f c0 c1 z m5) (mm := m10) (As := []) (rest := []) Fx0 (c_X10_thrown l (Wf := fun z0_ => Wf h m4 f c0 c1 z0_ m5) (hLx h m4 f c0 c1 m5) (fun a0_ b0_ => hAd h h m4 m4 f f c0 c0 c1 c1 a0_ b0_ m5 m5) m10 z13) hP (hD1 _ (hAd _ _ _ _ _ _ _ _ _ _ _ _ _ _)) hS (hA1 _ _ (hAd _ _ _ _ _ _ _ _ _ _ _ _ _ _) hS.1) (hLx h m4 f c0 c1 m5) (Nat.le_of_ble_eq_true rfl) (xs0 _ _) rfl tw_7_30 tw_7_27 tw_7_28 tw_7_29 tw_1_13 yd_X10_thrown ⟨(Nat.le_of_ble_eq_true rfl), (Nat.le_of_ble_eq_true rfl)⟩ ⟨show _ ≤ 601024 by omega, show _ ≤ 7293034 by omega⟩ rfl hl.1 rfl (Nat.le_of_ble_eq_true rfl) dL_law_1041 (fun H locs hP hS => ?_)
  refine lv_iload hx hb dL_law_1044 (lv_at hl 1 rfl) ?_
  refine lv_icmp_eq (tgt := 1051) hx hb dL_law_1046 (by decide) (fun c => ?_) (fun c => ?_)
  · have hD := ifp hD c
    refine lv_iload hx hb dL_law_1051 (lv_at hl 1 rfl) ?_
    refine lv_if_ne (tgt := 1068) hx hb dL_law_1053 (by decide) (fun c => ?_) (fun c => ?_)
    · have hD := ifn hD c
      refine lv_goto (tgt := 2964) hx hb dL_law_1068 (by decide) ?_
      obtain ⟨v14, ev14, hD⟩ := bnd_el hD
      refine lv_iinc (v := v14) (lv' := [(4, .int v14), (6, .int v9), (5, .int v3), (0, .ref b), (1, .ref (adh 0)), (2, .ref (adx 0)), (3, .ref (adu 0))]) hx hb dL_law_2964 hl (k := 6) rfl (by rw [ev14]; rfl) (by decide) rfl (fun ls hl => ?_)
      refine lv_goto (tgt := 23) hx hb dL_law_2967 (by decide) ?_
      exact hk v14 h m4 f c0 c1 m10 m5 _ _ _ _ _ hD (show _ + n ≤ 601024 by omega) (show _ + 6 * n ≤ 7293034 by omega) hP hS (lv_sub hl [3, 4, 5, 6, 0] rfl)
    · have hD := ifp hD c
      refine lv_aload_n hx hb dL_law_1056 rfl (lv_at hl 5 rfl) ?_
      refine lv_iconst (v := (0 : Int32)) hx hb dL_law_1057 (by decide) ?_
      refine rlald (Wf := fun z => Wf h m4 f c0 c1 m10 z) (mm := m5) hx hb hK hP (hLu h m4 f c0 c1 m10) 0 (Nat.le_of_ble_eq_true rfl) (us0 _ _) (by decide) (j := 0) (by decide) dL_law_1058 ?_
      refine lv_iload hx hb dL_law_1059 (lv_at hl 0 rfl) ?_
      refine lv_i2l (v := v9.toInt64) hx hb dL_law_1061 rfl ?_
      refine rlc_eq (tgt := 1068) hx hb dL_law_1062 dL_law_1063 (by decide) (fun c => ?_) (fun c => ?_)
      · have hD := ifp hD c
        refine lv_goto (tgt := 2964) hx hb dL_law_1068 (by decide) ?_
        obtain ⟨v15, ev15, hD⟩ := bnd_el hD
        refine lv_iinc (v := v15) (lv' := [(4, .int v15), (6, .int v9), (5, .int v3), (0, .ref b), (1, .ref (adh 0)), (2, .ref (adx 0)), (3, .ref (adu 0))]) hx hb dL_law_2964 hl (k := 6) rfl (by rw [ev15]; rfl) (by decide) rfl (fun ls hl => ?_)
        refine lv_goto (tgt := 23) hx hb dL_law_2967 (by decide) ?_
        exact hk v15 h m4 f c0 c1 m10 m5 _ _ _ _ _ hD (show _ + n ≤ 601024 by omega) (show _ + 6 * n ≤ 7293034 by omega) hP hS (lv_sub hl [3, 4, 5, 6, 0] rfl)
      · have hD := ifn hD c
        refine lv_iconst (v := (0 : Int32)) hx hb dL_law_1066 (by decide) ?_
        exact nn_el hD
  · have hD := ifn hD c
    refine lv_iconst (v := (0 : Int32)) hx hb dL_law_1049 (by decide) ?_
    exact nn_el hD
noncomputable def D_L_law_1071 (L : Nat) (xs : Nat → Int32) (k : LKont) (x4 : Int32) (h : MM) (m : MM) (f : MM) (c0 : MM) (c1 : MM) (x : MM) (u : MM) : Option Unit := if (x4 + (1 : Int32)) < 0 ∨ L ≤ (x4 + (1 : Int32)).toNatClampNeg then none else (b2 (D_L_nearestFeeder (xs (x4 + (1 : Int32)).toNatClampNeg) h m u) (fun v2 m3 => if (x4 + (1 : Int32)) < 0 ∨ L ≤ (x4 + (1 : Int32)).toNatClampNeg then none else (b2 (D_X10_nearestFeeder (xs (x4 + (1 : Int32)).toNatClampNeg) x) (fun v6 m7 => b1 (D_X10_thrown m7) (fun v9 => if v9 = v2 then (if v2 = 0 then (if (gl m3 0 0) = v6.toInt64 then (bnd (x4 + (3 : Int32)) (fun v12 => k v12 h m f c0 c1 m7 m3)) else (none)) else (bnd (x4 + (3 : Int32)) (fun v11 => k v11 h m f c0 c1 m7 m3))) else (none))))))
set_option maxHeartbeats 4000000 in
set_option maxRecDepth 100000 in
theorem c_L_law_1071 (l : Launch) (hst : l.stackTraces = false) {p : Program} {e : Env} {s : State} {m0 : MethodId} {below : List Frame} {meth : Method} {c : Code} {b L : Nat} {xs : Nat → Int32} {D : va_G} {cs : Nat → ClassId} {A : Nat → Prop} {Q : State → Prop} {adh ad adf ad0 ad1 adx adu ma : Nat → Nat} {Wf : MM → MM → MM → MM → MM → MM → MM → va_W} (hLh : ∀ m f c0 c1 x u : MM, Ln 8 adh (hsh cs adh ma) (fun z => Wf z m f c0 c1 x u)) (hL : ∀ h f c0 c1 x u : MM, Ln 51 ad (msh cs ad) (fun z => Wf h z f c0 c1 x u)) (hLf : ∀ h m c0 c1 x u : MM, Ln 51 adf (msh cs adf) (fun z => Wf h m z c0 c1 x u)) (hL0 : ∀ h m f c1 x u : MM, Ln 51 ad0 (msh cs ad0) (fun z => Wf h m f z c1 x u)) (hL1 : ∀ h m f c0 x u : MM, Ln 51 ad1 (msh cs ad1) (fun z => Wf h m f c0 z x u)) (hLx : ∀ h m f c0 c1 u : MM, Ln 9 adx (xsh cs adx) (fun z => Wf h m f c0 c1 z u)) (hLu : ∀ h m f c0 c1 x : MM, Ln 1 adu (ush cs) (fun z => Wf h m f c0 c1 x z)) (hAd : ∀ a0_ b0_ a1_ b1_ a2_ b2_ a3_ b3_ a4_ b4_ a5_ b5_ a6_ b6_ : MM, (Wf a0_ a1_ a2_ a3_ a4_ a5_ a6_).map (fun q => q.1) = (Wf b0_ b1_ b2_ b3_ b4_ b5_ b6_).map (fun q => q.1)) (hm1 : ma 1 = ad 24) (hm2 : ma 2 = adf 24) (hm3 : ma 3 = ad0 24) (hm4 : ma 4 = ad1 24) (hLX : LX p s m0 c b L xs D cs A (Wf zMM zMM zMM zMM zMM zMM zMM)) (n : Nat) (k : LKont) (hk : LK p l e s m0 below meth c b D A Q adh adx adu Wf n k) (x4 : Int32) (h : MM) (m : MM) (f : MM) (c0 : MM) (c1 : MM) (x : MM) (u : MM) (cells slots : Nat) (H : Heap) (locs : List Loc) (ls : Array Slot) (hD : D_L_law_1071 L xs k x4 h m f c0 c1 x u = some ()) (hcl : cells + (n + 1) ≤ 601024) (hsl : slots + 6 * (n + 1) ≤ 7293034) (hP : va_P D vwCl (Wf h m f c0 c1 x u) H) (hS : va_S A s.heap H locs) (hl : lv_has ls 8 [(0, .ref b), (1, .ref (adh 0)), (2, .ref (adx 0)), (3, .ref (adu 0)), (4, .int x4)]) : W p l e room_1 s m0 #[Value.ref b] below meth c H locs cells slots Q (F0 m0 1071 ls []) := by
  obtain ⟨hx, hb, hml, hown, hK, hT⟩ := hLX.rest
  obtain ⟨Fx0, hX, hbl, hbA, hD1, hA1⟩ := hLX
  unfold D_L_law_1071 at hD
  refine lv_aload_n hx hb dL_law_1071 rfl (lv_at hl 1 rfl) ?_
  refine lv_aload_n hx hb dL_law_1072 rfl (lv_at hl 0 rfl) ?_
  refine lv_iload hx hb dL_law_1073 (lv_at hl 4 rfl) ?_
  refine lv_iconst (v := (1 : Int32)) hx hb dL_law_1075 (by decide) ?_
  refine lv_iadd hx hb dL_law_1076 ?_
  obtain ⟨h1, hD⟩ := gd_el hD
  refine va_sld hx hb hX hbl hbA hS h1 dL_law_1077 ?_
  refine lv_aload_n hx hb dL_law_1078 rfl (lv_at hl 3 rfl) ?_
  obtain ⟨v2, m3, z4, hD⟩ := b2_el hD
  refine lrL (As := [.ref (adh 0), .int (xs (x4 + (1 : Int32)).toNatClampNeg), .ref (adu 0)]) (rest := []) Fx0 (c_L_nearestFeeder l hst (Wf := fun z0_ z1_ z2_ => Wf z0_ z1_ f c0 c1 x z2_) (fun z1_ z2_ => hLh z1_ f c0 c1 x z2_) (fun z0_ z2_ => hL z0_ f c0 c1 x z2_) (fun z0_ z1_ => hLu z0_ z1_ f c0 c1 x) (fun a0_ b0_ a1_ b1_ a2_ b2_ => hAd a0_ b0_ a1_ b1_ f f c0 c0 c1 c1 x x a2_ b2_) hm1 h m u (xs (x4 + (1 : Int32)).toNatClampNeg) z4) hP (hD1 _ (hAd _ _ _ _ _ _ _ _ _ _ _ _ _ _)) hS (hA1 _ _ (hAd _ _ _ _ _ _ _ _ _ _ _ _ _ _) hS.1) tw_5_230 tw_5_228 tw_5_229 tw_1_0 yd_L_nearestFeeder ⟨(Nat.le_of_ble_eq_true rfl), (Nat.le_of_ble_eq_true rfl)⟩ ⟨show _ + 1 ≤ 601024 by omega, show _ + 6 ≤ 7293034 by omega⟩ rfl hl.1 rfl (Nat.le_of_ble_eq_true rfl) dL_law_1079 (fun H locs hP hS => ?_)
  refine lv_istore (lv' := [(5, .int v2), (0, .ref b), (1, .ref (adh 0)), (2, .ref (adx 0)), (3, .ref (adu 0)), (4, .int x4)]) hx hb dL_law_1082 hl (by decide) rfl (fun ls hl => ?_)
  refine lv_aload_n hx hb dL_law_1084 rfl (lv_at hl 3 rfl) ?_
  refine lv_aload_n hx hb dL_law_1085 rfl (lv_at hl 1 rfl) ?_
  refine lv_iload hx hb dL_law_1086 (lv_at hl 5 rfl) ?_
  refine lv_iconst (v := (1 : Int32)) hx hb dL_law_1088 (by decide) ?_
  refine lv_iadd hx hb dL_law_1089 ?_
  obtain ⟨h5, hD⟩ := gd_el hD
  refine va_sld hx hb hX hbl hbA hS h5 dL_law_1090 ?_
  obtain ⟨v6, m7, z8, hD⟩ := b2_el hD
  refine lrV (Wf := fun z => Wf h m f c0 c1 z m3) (mm := x) (As := [.int (xs (x4 + (1 : Int32)).toNatClampNeg)]) (rest := []) Fx0 (c_X10_nearestFeeder l (Wf := fun z0_ => Wf h m f c0 c1 z0_ m3) (hLx h m f c0 c1 m3) (fun a0_ b0_ => hAd h h m m f f c0 c0 c1 c1 a0_ b0_ m3 m3) x (xs (x4 + (1 : Int32)).toNatClampNeg) z8) hP (hD1 _ (hAd _ _ _ _ _ _ _ _ _ _ _ _ _ _)) hS (hA1 _ _ (hAd _ _ _ _ _ _ _ _ _ _ _ _ _ _) hS.1) (hLx h m f c0 c1 m3) (Nat.le_of_ble_eq_true rfl) (xs0 _ _) rfl tw_8_21 tw_8_18 tw_8_19 tw_8_20 tw_1_13 yd_X10_nearestFeeder ⟨(Nat.le_of_ble_eq_true rfl), (Nat.le_of_ble_eq_true rfl)⟩ ⟨show _ ≤ 601024 by omega, show _ ≤ 7293034 by omega⟩ rfl hl.1 rfl (Nat.le_of_ble_eq_true rfl) dL_law_1091 (fun H locs hP hS => ?_)
  refine lv_istore (lv' := [(6, .int v6), (5, .int v2), (0, .ref b), (1, .ref (adh 0)), (2, .ref (adx 0)), (3, .ref (adu 0)), (4, .int x4)]) hx hb dL_law_1094 hl (by decide) rfl (fun ls hl => ?_)
  refine lv_aload_n hx hb dL_law_1096 rfl (lv_at hl 4 rfl) ?_
  obtain ⟨v9, z10, hD⟩ := b1_el hD
  refine lrV (Wf := fun z => Wf h m f c0 c1 z m3) (mm := m7) (As := []) (rest := []) Fx0 (c_X10_thrown l (Wf := fun z0_ => Wf h m f c0 c1 z0_ m3) (hLx h m f c0 c1 m3) (fun a0_ b0_ => hAd h h m m f f c0 c0 c1 c1 a0_ b0_ m3 m3) m7 z10) hP (hD1 _ (hAd _ _ _ _ _ _ _ _ _ _ _ _ _ _)) hS (hA1 _ _ (hAd _ _ _ _ _ _ _ _ _ _ _ _ _ _) hS.1) (hLx h m f c0 c1 m3) (Nat.le_of_ble_eq_true rfl) (xs0 _ _) rfl tw_7_30 tw_7_27 tw_7_28 tw_7_29 tw_1_13 yd_X10_thrown ⟨(Nat.le_of_ble_eq_true rfl), (Nat.le_of_ble_eq_true rfl)⟩ ⟨show _ ≤ 601024 by omega, show _ ≤ 7293034 by omega⟩ rfl hl.1 rfl (Nat.le_of_ble_eq_true rfl) dL_law_1097 (fun H locs hP hS => ?_)
  refine lv_iload hx hb dL_law_1100 (lv_at hl 1 rfl) ?_
  refine lv_icmp_eq (tgt := 1107) hx hb dL_law_1102 (by decide) (fun c => ?_) (fun c => ?_)
  · have hD := ifp hD c
    refine lv_iload hx hb dL_law_1107 (lv_at hl 1 rfl) ?_
    refine lv_if_ne (tgt := 1124) hx hb dL_law_1109 (by decide) (fun c => ?_) (fun c => ?_)
    · have hD := ifn hD c
      refine lv_goto (tgt := 2964) hx hb dL_law_1124 (by decide) ?_
      obtain ⟨v11, ev11, hD⟩ := bnd_el hD
      refine lv_iinc (v := v11) (lv' := [(4, .int v11), (6, .int v6), (5, .int v2), (0, .ref b), (1, .ref (adh 0)), (2, .ref (adx 0)), (3, .ref (adu 0))]) hx hb dL_law_2964 hl (k := 6) rfl (by rw [ev11]; rfl) (by decide) rfl (fun ls hl => ?_)
      refine lv_goto (tgt := 23) hx hb dL_law_2967 (by decide) ?_
      exact hk v11 h m f c0 c1 m7 m3 _ _ _ _ _ hD (show _ + n ≤ 601024 by omega) (show _ + 6 * n ≤ 7293034 by omega) hP hS (lv_sub hl [3, 4, 5, 6, 0] rfl)
    · have hD := ifp hD c
      refine lv_aload_n hx hb dL_law_1112 rfl (lv_at hl 5 rfl) ?_
      refine lv_iconst (v := (0 : Int32)) hx hb dL_law_1113 (by decide) ?_
      refine rlald (Wf := fun z => Wf h m f c0 c1 m7 z) (mm := m3) hx hb hK hP (hLu h m f c0 c1 m7) 0 (Nat.le_of_ble_eq_true rfl) (us0 _ _) (by decide) (j := 0) (by decide) dL_law_1114 ?_
      refine lv_iload hx hb dL_law_1115 (lv_at hl 0 rfl) ?_
      refine lv_i2l (v := v6.toInt64) hx hb dL_law_1117 rfl ?_
      refine rlc_eq (tgt := 1124) hx hb dL_law_1118 dL_law_1119 (by decide) (fun c => ?_) (fun c => ?_)
      · have hD := ifp hD c
        refine lv_goto (tgt := 2964) hx hb dL_law_1124 (by decide) ?_
        obtain ⟨v12, ev12, hD⟩ := bnd_el hD
        refine lv_iinc (v := v12) (lv' := [(4, .int v12), (6, .int v6), (5, .int v2), (0, .ref b), (1, .ref (adh 0)), (2, .ref (adx 0)), (3, .ref (adu 0))]) hx hb dL_law_2964 hl (k := 6) rfl (by rw [ev12]; rfl) (by decide) rfl (fun ls hl => ?_)
        refine lv_goto (tgt := 23) hx hb dL_law_2967 (by decide) ?_
        exact hk v12 h m f c0 c1 m7 m3 _ _ _ _ _ hD (show _ + n ≤ 601024 by omega) (show _ + 6 * n ≤ 7293034 by omega) hP hS (lv_sub hl [3, 4, 5, 6, 0] rfl)
      · have hD := ifn hD c
        refine lv_iconst (v := (0 : Int32)) hx hb dL_law_1122 (by decide) ?_
        exact nn_el hD
  · have hD := ifn hD c
    refine lv_iconst (v := (0 : Int32)) hx hb dL_law_1105 (by decide) ?_
    exact nn_el hD
noncomputable def D_L_law_1127 (L : Nat) (xs : Nat → Int32) (k : LKont) (x4 : Int32) (h : MM) (m : MM) (f : MM) (c0 : MM) (c1 : MM) (x : MM) (u : MM) : Option Unit := if (x4 + (1 : Int32)) < 0 ∨ L ≤ (x4 + (1 : Int32)).toNatClampNeg then none else (if (x4 + (2 : Int32)) < 0 ∨ L ≤ (x4 + (2 : Int32)).toNatClampNeg then none else (b2 (D_L_spotValue (xs (x4 + (1 : Int32)).toNatClampNeg) (xs (x4 + (2 : Int32)).toNatClampNeg) h m u) (fun v3 m4 => if (x4 + (1 : Int32)) < 0 ∨ L ≤ (x4 + (1 : Int32)).toNatClampNeg then none else (if (x4 + (2 : Int32)) < 0 ∨ L ≤ (x4 + (2 : Int32)).toNatClampNeg then none else (b2 (D_X10_spotValue (xs (x4 + (1 : Int32)).toNatClampNeg) (xs (x4 + (2 : Int32)).toNatClampNeg) x) (fun v8 m9 => b1 (D_X10_thrown m9) (fun v11 => if v11 = v3 then (if v3 = 0 then (if (gl m4 0 0) = v8.toInt64 then (bnd (x4 + (3 : Int32)) (fun v14 => k v14 h m f c0 c1 m9 m4)) else (none)) else (bnd (x4 + (3 : Int32)) (fun v13 => k v13 h m f c0 c1 m9 m4))) else (none))))))))
set_option maxHeartbeats 4000000 in
set_option maxRecDepth 100000 in
theorem c_L_law_1127 (l : Launch) (hst : l.stackTraces = false) {p : Program} {e : Env} {s : State} {m0 : MethodId} {below : List Frame} {meth : Method} {c : Code} {b L : Nat} {xs : Nat → Int32} {D : va_G} {cs : Nat → ClassId} {A : Nat → Prop} {Q : State → Prop} {adh ad adf ad0 ad1 adx adu ma : Nat → Nat} {Wf : MM → MM → MM → MM → MM → MM → MM → va_W} (hLh : ∀ m f c0 c1 x u : MM, Ln 8 adh (hsh cs adh ma) (fun z => Wf z m f c0 c1 x u)) (hL : ∀ h f c0 c1 x u : MM, Ln 51 ad (msh cs ad) (fun z => Wf h z f c0 c1 x u)) (hLf : ∀ h m c0 c1 x u : MM, Ln 51 adf (msh cs adf) (fun z => Wf h m z c0 c1 x u)) (hL0 : ∀ h m f c1 x u : MM, Ln 51 ad0 (msh cs ad0) (fun z => Wf h m f z c1 x u)) (hL1 : ∀ h m f c0 x u : MM, Ln 51 ad1 (msh cs ad1) (fun z => Wf h m f c0 z x u)) (hLx : ∀ h m f c0 c1 u : MM, Ln 9 adx (xsh cs adx) (fun z => Wf h m f c0 c1 z u)) (hLu : ∀ h m f c0 c1 x : MM, Ln 1 adu (ush cs) (fun z => Wf h m f c0 c1 x z)) (hAd : ∀ a0_ b0_ a1_ b1_ a2_ b2_ a3_ b3_ a4_ b4_ a5_ b5_ a6_ b6_ : MM, (Wf a0_ a1_ a2_ a3_ a4_ a5_ a6_).map (fun q => q.1) = (Wf b0_ b1_ b2_ b3_ b4_ b5_ b6_).map (fun q => q.1)) (hm1 : ma 1 = ad 24) (hm2 : ma 2 = adf 24) (hm3 : ma 3 = ad0 24) (hm4 : ma 4 = ad1 24) (hLX : LX p s m0 c b L xs D cs A (Wf zMM zMM zMM zMM zMM zMM zMM)) (n : Nat) (k : LKont) (hk : LK p l e s m0 below meth c b D A Q adh adx adu Wf n k) (x4 : Int32) (h : MM) (m : MM) (f : MM) (c0 : MM) (c1 : MM) (x : MM) (u : MM) (cells slots : Nat) (H : Heap) (locs : List Loc) (ls : Array Slot) (hD : D_L_law_1127 L xs k x4 h m f c0 c1 x u = some ()) (hcl : cells + (n + 1) ≤ 601024) (hsl : slots + 6 * (n + 1) ≤ 7293034) (hP : va_P D vwCl (Wf h m f c0 c1 x u) H) (hS : va_S A s.heap H locs) (hl : lv_has ls 8 [(0, .ref b), (1, .ref (adh 0)), (2, .ref (adx 0)), (3, .ref (adu 0)), (4, .int x4)]) : W p l e room_1 s m0 #[Value.ref b] below meth c H locs cells slots Q (F0 m0 1127 ls []) := by
  obtain ⟨hx, hb, hml, hown, hK, hT⟩ := hLX.rest
  obtain ⟨Fx0, hX, hbl, hbA, hD1, hA1⟩ := hLX
  unfold D_L_law_1127 at hD
  refine lv_aload_n hx hb dL_law_1127 rfl (lv_at hl 1 rfl) ?_
  refine lv_aload_n hx hb dL_law_1128 rfl (lv_at hl 0 rfl) ?_
  refine lv_iload hx hb dL_law_1129 (lv_at hl 4 rfl) ?_
  refine lv_iconst (v := (1 : Int32)) hx hb dL_law_1131 (by decide) ?_
  refine lv_iadd hx hb dL_law_1132 ?_
  obtain ⟨h1, hD⟩ := gd_el hD
  refine va_sld hx hb hX hbl hbA hS h1 dL_law_1133 ?_
  refine lv_aload_n hx hb dL_law_1134 rfl (lv_at hl 0 rfl) ?_
  refine lv_iload hx hb dL_law_1135 (lv_at hl 4 rfl) ?_
  refine lv_iconst (v := (2 : Int32)) hx hb dL_law_1137 (by decide) ?_
  refine lv_iadd hx hb dL_law_1138 ?_
  obtain ⟨h2, hD⟩ := gd_el hD
  refine va_sld hx hb hX hbl hbA hS h2 dL_law_1139 ?_
  refine lv_aload_n hx hb dL_law_1140 rfl (lv_at hl 3 rfl) ?_
  obtain ⟨v3, m4, z5, hD⟩ := b2_el hD
  refine lrL (As := [.ref (adh 0), .int (xs (x4 + (1 : Int32)).toNatClampNeg), .int (xs (x4 + (2 : Int32)).toNatClampNeg), .ref (adu 0)]) (rest := []) Fx0 (c_L_spotValue l hst (Wf := fun z0_ z1_ z2_ => Wf z0_ z1_ f c0 c1 x z2_) (fun z1_ z2_ => hLh z1_ f c0 c1 x z2_) (fun z0_ z2_ => hL z0_ f c0 c1 x z2_) (fun z0_ z1_ => hLu z0_ z1_ f c0 c1 x) (fun a0_ b0_ a1_ b1_ a2_ b2_ => hAd a0_ b0_ a1_ b1_ f f c0 c0 c1 c1 x x a2_ b2_) hm1 h m u (xs (x4 + (1 : Int32)).toNatClampNeg) (xs (x4 + (2 : Int32)).toNatClampNeg) z5) hP (hD1 _ (hAd _ _ _ _ _ _ _ _ _ _ _ _ _ _)) hS (hA1 _ _ (hAd _ _ _ _ _ _ _ _ _ _ _ _ _ _) hS.1) tw_5_238 tw_5_236 tw_5_237 tw_1_0 yd_L_spotValue ⟨(Nat.le_of_ble_eq_true rfl), (Nat.le_of_ble_eq_true rfl)⟩ ⟨show _ + 1 ≤ 601024 by omega, show _ + 6 ≤ 7293034 by omega⟩ rfl hl.1 rfl (Nat.le_of_ble_eq_true rfl) dL_law_1141 (fun H locs hP hS => ?_)
  refine lv_istore (lv' := [(5, .int v3), (0, .ref b), (1, .ref (adh 0)), (2, .ref (adx 0)), (3, .ref (adu 0)), (4, .int x4)]) hx hb dL_law_1144 hl (by decide) rfl (fun ls hl => ?_)
  refine lv_aload_n hx hb dL_law_1146 rfl (lv_at hl 3 rfl) ?_
  refine lv_aload_n hx hb dL_law_1147 rfl (lv_at hl 1 rfl) ?_
  refine lv_iload hx hb dL_law_1148 (lv_at hl 5 rfl) ?_
  refine lv_iconst (v := (1 : Int32)) hx hb dL_law_1150 (by decide) ?_
  refine lv_iadd hx hb dL_law_1151 ?_
  obtain ⟨h6, hD⟩ := gd_el hD
  refine va_sld hx hb hX hbl hbA hS h6 dL_law_1152 ?_
  refine lv_aload_n hx hb dL_law_1153 rfl (lv_at hl 1 rfl) ?_
  refine lv_iload hx hb dL_law_1154 (lv_at hl 5 rfl) ?_
  refine lv_iconst (v := (2 : Int32)) hx hb dL_law_1156 (by decide) ?_
  refine lv_iadd hx hb dL_law_1157 ?_
  obtain ⟨h7, hD⟩ := gd_el hD
  refine va_sld hx hb hX hbl hbA hS h7 dL_law_1158 ?_
  obtain ⟨v8, m9, z10, hD⟩ := b2_el hD
  refine lrV (Wf := fun z => Wf h m f c0 c1 z m4) (mm := x) (As := [.int (xs (x4 + (1 : Int32)).toNatClampNeg), .int (xs (x4 + (2 : Int32)).toNatClampNeg)]) (rest := []) Fx0 (c_X10_spotValue l (Wf := fun z0_ => Wf h m f c0 c1 z0_ m4) (hLx h m f c0 c1 m4) (fun a0_ b0_ => hAd h h m m f f c0 c0 c1 c1 a0_ b0_ m4 m4) x (xs (x4 + (1 : Int32)).toNatClampNeg) (xs (x4 + (2 : Int32)).toNatClampNeg) z10) hP (hD1 _ (hAd _ _ _ _ _ _ _ _ _ _ _ _ _ _)) hS (hA1 _ _ (hAd _ _ _ _ _ _ _ _ _ _ _ _ _ _) hS.1) (hLx h m f c0 c1 m4) (Nat.le_of_ble_eq_true rfl) (xs0 _ _) rfl tw_8_30 tw_8_27 tw_8_28 tw_8_29 tw_1_13 yd_X10_spotValue ⟨(Nat.le_of_ble_eq_true rfl), (Nat.le_of_ble_eq_true rfl)⟩ ⟨show _ ≤ 601024 by omega, show _ ≤ 7293034 by omega⟩ rfl hl.1 rfl (Nat.le_of_ble_eq_true rfl) dL_law_1159 (fun H locs hP hS => ?_)
  refine lv_istore (lv' := [(6, .int v8), (5, .int v3), (0, .ref b), (1, .ref (adh 0)), (2, .ref (adx 0)), (3, .ref (adu 0)), (4, .int x4)]) hx hb dL_law_1162 hl (by decide) rfl (fun ls hl => ?_)
  refine lv_aload_n hx hb dL_law_1164 rfl (lv_at hl 4 rfl) ?_
  obtain ⟨v11, z12, hD⟩ := b1_el hD
  refine lrV (Wf := fun z => Wf h m f c0 c1 z m4) (mm := m9) (As := []) (rest := []) Fx0 (c_X10_thrown l (Wf := fun z0_ => Wf h m f c0 c1 z0_ m4) (hLx h m f c0 c1 m4) (fun a0_ b0_ => hAd h h m m f f c0 c0 c1 c1 a0_ b0_ m4 m4) m9 z12) hP (hD1 _ (hAd _ _ _ _ _ _ _ _ _ _ _ _ _ _)) hS (hA1 _ _ (hAd _ _ _ _ _ _ _ _ _ _ _ _ _ _) hS.1) (hLx h m f c0 c1 m4) (Nat.le_of_ble_eq_true rfl) (xs0 _ _) rfl tw_7_30 tw_7_27 tw_7_28 tw_7_29 tw_1_13 yd_X10_thrown ⟨(Nat.le_of_ble_eq_true rfl), (Nat.le_of_ble_eq_true rfl)⟩ ⟨show _ ≤ 601024 by omega, show _ ≤ 7293034 by omega⟩ rfl hl.1 rfl (Nat.le_of_ble_eq_true rfl) dL_law_1165 (fun H locs hP hS => ?_)
  refine lv_iload hx hb dL_law_1168 (lv_at hl 1 rfl) ?_
  refine lv_icmp_eq (tgt := 1175) hx hb dL_law_1170 (by decide) (fun c => ?_) (fun c => ?_)
  · have hD := ifp hD c
    refine lv_iload hx hb dL_law_1175 (lv_at hl 1 rfl) ?_
    refine lv_if_ne (tgt := 1192) hx hb dL_law_1177 (by decide) (fun c => ?_) (fun c => ?_)
    · have hD := ifn hD c
      refine lv_goto (tgt := 2964) hx hb dL_law_1192 (by decide) ?_
      obtain ⟨v13, ev13, hD⟩ := bnd_el hD
      refine lv_iinc (v := v13) (lv' := [(4, .int v13), (6, .int v8), (5, .int v3), (0, .ref b), (1, .ref (adh 0)), (2, .ref (adx 0)), (3, .ref (adu 0))]) hx hb dL_law_2964 hl (k := 6) rfl (by rw [ev13]; rfl) (by decide) rfl (fun ls hl => ?_)
      refine lv_goto (tgt := 23) hx hb dL_law_2967 (by decide) ?_
      exact hk v13 h m f c0 c1 m9 m4 _ _ _ _ _ hD (show _ + n ≤ 601024 by omega) (show _ + 6 * n ≤ 7293034 by omega) hP hS (lv_sub hl [3, 4, 5, 6, 0] rfl)
    · have hD := ifp hD c
      refine lv_aload_n hx hb dL_law_1180 rfl (lv_at hl 5 rfl) ?_
      refine lv_iconst (v := (0 : Int32)) hx hb dL_law_1181 (by decide) ?_
      refine rlald (Wf := fun z => Wf h m f c0 c1 m9 z) (mm := m4) hx hb hK hP (hLu h m f c0 c1 m9) 0 (Nat.le_of_ble_eq_true rfl) (us0 _ _) (by decide) (j := 0) (by decide) dL_law_1182 ?_
      refine lv_iload hx hb dL_law_1183 (lv_at hl 0 rfl) ?_
      refine lv_i2l (v := v8.toInt64) hx hb dL_law_1185 rfl ?_
      refine rlc_eq (tgt := 1192) hx hb dL_law_1186 dL_law_1187 (by decide) (fun c => ?_) (fun c => ?_)
      · have hD := ifp hD c
        refine lv_goto (tgt := 2964) hx hb dL_law_1192 (by decide) ?_
        obtain ⟨v14, ev14, hD⟩ := bnd_el hD
        refine lv_iinc (v := v14) (lv' := [(4, .int v14), (6, .int v8), (5, .int v3), (0, .ref b), (1, .ref (adh 0)), (2, .ref (adx 0)), (3, .ref (adu 0))]) hx hb dL_law_2964 hl (k := 6) rfl (by rw [ev14]; rfl) (by decide) rfl (fun ls hl => ?_)
        refine lv_goto (tgt := 23) hx hb dL_law_2967 (by decide) ?_
        exact hk v14 h m f c0 c1 m9 m4 _ _ _ _ _ hD (show _ + n ≤ 601024 by omega) (show _ + 6 * n ≤ 7293034 by omega) hP hS (lv_sub hl [3, 4, 5, 6, 0] rfl)
      · have hD := ifn hD c
        refine lv_iconst (v := (0 : Int32)) hx hb dL_law_1190 (by decide) ?_
        exact nn_el hD
  · have hD := ifn hD c
    refine lv_iconst (v := (0 : Int32)) hx hb dL_law_1173 (by decide) ?_
    exact nn_el hD
noncomputable def D_L_law_1195 (L : Nat) (xs : Nat → Int32) (k : LKont) (x4 : Int32) (h : MM) (m : MM) (f : MM) (c0 : MM) (c1 : MM) (x : MM) (u : MM) : Option Unit := if (x4 + (1 : Int32)) < 0 ∨ L ≤ (x4 + (1 : Int32)).toNatClampNeg then none else (if (x4 + (2 : Int32)) < 0 ∨ L ≤ (x4 + (2 : Int32)).toNatClampNeg then none else (if (xs (x4 + (2 : Int32)).toNatClampNeg) = 0 then (b3 (D_L_leaveOut (xs (x4 + (1 : Int32)).toNatClampNeg) (0 : Int32) h m u) (fun v3 m4 m5 => if (x4 + (1 : Int32)) < 0 ∨ L ≤ (x4 + (1 : Int32)).toNatClampNeg then none else (if (x4 + (2 : Int32)) < 0 ∨ L ≤ (x4 + (2 : Int32)).toNatClampNeg then none else (if (xs (x4 + (2 : Int32)).toNatClampNeg) = 0 then (b2 (D_X10_leaveOut (xs (x4 + (1 : Int32)).toNatClampNeg) (0 : Int32) x) (fun v9 m10 => b1 (D_X10_thrown m10) (fun v12 => if v12 = v3 then (if v3 = 0 then (if v9 = 0 then (if (gl m5 0 0) = (0 : Int64) then (bnd (x4 + (3 : Int32)) (fun v15 => k v15 h m4 f c0 c1 m10 m5)) else (none)) else (if (gl m5 0 0) = (1 : Int64) then (bnd (x4 + (3 : Int32)) (fun v16 => k v16 h m4 f c0 c1 m10 m5)) else (none))) else (bnd (x4 + (3 : Int32)) (fun v14 => k v14 h m4 f c0 c1 m10 m5))) else (none)))) else (b2 (D_X10_leaveOut (xs (x4 + (1 : Int32)).toNatClampNeg) (1 : Int32) x) (fun v17 m18 => b1 (D_X10_thrown m18) (fun v20 => if v20 = v3 then (if v3 = 0 then (if v17 = 0 then (if (gl m5 0 0) = (0 : Int64) then (bnd (x4 + (3 : Int32)) (fun v23 => k v23 h m4 f c0 c1 m18 m5)) else (none)) else (if (gl m5 0 0) = (1 : Int64) then (bnd (x4 + (3 : Int32)) (fun v24 => k v24 h m4 f c0 c1 m18 m5)) else (none))) else (bnd (x4 + (3 : Int32)) (fun v22 => k v22 h m4 f c0 c1 m18 m5))) else (none)))))))) else (b3 (D_L_leaveOut (xs (x4 + (1 : Int32)).toNatClampNeg) (1 : Int32) h m u) (fun v25 m26 m27 => if (x4 + (1 : Int32)) < 0 ∨ L ≤ (x4 + (1 : Int32)).toNatClampNeg then none else (if (x4 + (2 : Int32)) < 0 ∨ L ≤ (x4 + (2 : Int32)).toNatClampNeg then none else (if (xs (x4 + (2 : Int32)).toNatClampNeg) = 0 then (b2 (D_X10_leaveOut (xs (x4 + (1 : Int32)).toNatClampNeg) (0 : Int32) x) (fun v31 m32 => b1 (D_X10_thrown m32) (fun v34 => if v34 = v25 then (if v25 = 0 then (if v31 = 0 then (if (gl m27 0 0) = (0 : Int64) then (bnd (x4 + (3 : Int32)) (fun v37 => k v37 h m26 f c0 c1 m32 m27)) else (none)) else (if (gl m27 0 0) = (1 : Int64) then (bnd (x4 + (3 : Int32)) (fun v38 => k v38 h m26 f c0 c1 m32 m27)) else (none))) else (bnd (x4 + (3 : Int32)) (fun v36 => k v36 h m26 f c0 c1 m32 m27))) else (none)))) else (b2 (D_X10_leaveOut (xs (x4 + (1 : Int32)).toNatClampNeg) (1 : Int32) x) (fun v39 m40 => b1 (D_X10_thrown m40) (fun v42 => if v42 = v25 then (if v25 = 0 then (if v39 = 0 then (if (gl m27 0 0) = (0 : Int64) then (bnd (x4 + (3 : Int32)) (fun v45 => k v45 h m26 f c0 c1 m40 m27)) else (none)) else (if (gl m27 0 0) = (1 : Int64) then (bnd (x4 + (3 : Int32)) (fun v46 => k v46 h m26 f c0 c1 m40 m27)) else (none))) else (bnd (x4 + (3 : Int32)) (fun v44 => k v44 h m26 f c0 c1 m40 m27))) else (none))))))))))
set_option maxHeartbeats 4000000 in
set_option maxRecDepth 100000 in
theorem c_L_law_1195 (l : Launch) (hst : l.stackTraces = false) {p : Program} {e : Env} {s : State} {m0 : MethodId} {below : List Frame} {meth : Method} {c : Code} {b L : Nat} {xs : Nat → Int32} {D : va_G} {cs : Nat → ClassId} {A : Nat → Prop} {Q : State → Prop} {adh ad adf ad0 ad1 adx adu ma : Nat → Nat} {Wf : MM → MM → MM → MM → MM → MM → MM → va_W} (hLh : ∀ m f c0 c1 x u : MM, Ln 8 adh (hsh cs adh ma) (fun z => Wf z m f c0 c1 x u)) (hL : ∀ h f c0 c1 x u : MM, Ln 51 ad (msh cs ad) (fun z => Wf h z f c0 c1 x u)) (hLf : ∀ h m c0 c1 x u : MM, Ln 51 adf (msh cs adf) (fun z => Wf h m z c0 c1 x u)) (hL0 : ∀ h m f c1 x u : MM, Ln 51 ad0 (msh cs ad0) (fun z => Wf h m f z c1 x u)) (hL1 : ∀ h m f c0 x u : MM, Ln 51 ad1 (msh cs ad1) (fun z => Wf h m f c0 z x u)) (hLx : ∀ h m f c0 c1 u : MM, Ln 9 adx (xsh cs adx) (fun z => Wf h m f c0 c1 z u)) (hLu : ∀ h m f c0 c1 x : MM, Ln 1 adu (ush cs) (fun z => Wf h m f c0 c1 x z)) (hAd : ∀ a0_ b0_ a1_ b1_ a2_ b2_ a3_ b3_ a4_ b4_ a5_ b5_ a6_ b6_ : MM, (Wf a0_ a1_ a2_ a3_ a4_ a5_ a6_).map (fun q => q.1) = (Wf b0_ b1_ b2_ b3_ b4_ b5_ b6_).map (fun q => q.1)) (hm1 : ma 1 = ad 24) (hm2 : ma 2 = adf 24) (hm3 : ma 3 = ad0 24) (hm4 : ma 4 = ad1 24) (hLX : LX p s m0 c b L xs D cs A (Wf zMM zMM zMM zMM zMM zMM zMM)) (n : Nat) (k : LKont) (hk : LK p l e s m0 below meth c b D A Q adh adx adu Wf n k) (x4 : Int32) (h : MM) (m : MM) (f : MM) (c0 : MM) (c1 : MM) (x : MM) (u : MM) (cells slots : Nat) (H : Heap) (locs : List Loc) (ls : Array Slot) (hD : D_L_law_1195 L xs k x4 h m f c0 c1 x u = some ()) (hcl : cells + (n + 1) ≤ 601024) (hsl : slots + 6 * (n + 1) ≤ 7293034) (hP : va_P D vwCl (Wf h m f c0 c1 x u) H) (hS : va_S A s.heap H locs) (hl : lv_has ls 8 [(0, .ref b), (1, .ref (adh 0)), (2, .ref (adx 0)), (3, .ref (adu 0)), (4, .int x4)]) : W p l e room_1 s m0 #[Value.ref b] below meth c H locs cells slots Q (F0 m0 1195 ls []) := by
  obtain ⟨hx, hb, hml, hown, hK, hT⟩ := hLX.rest
  obtain ⟨Fx0, hX, hbl, hbA, hD1, hA1⟩ := hLX
  unfold D_L_law_1195 at hD
  refine lv_aload_n hx hb dL_law_1195 rfl (lv_at hl 1 rfl) ?_
  refine lv_aload_n hx hb dL_law_1196 rfl (lv_at hl 0 rfl) ?_
  refine lv_iload hx hb dL_law_1197 (lv_at hl 4 rfl) ?_
  refine lv_iconst (v := (1 : Int32)) hx hb dL_law_1199 (by decide) ?_
  refine lv_iadd hx hb dL_law_1200 ?_
  obtain ⟨h1, hD⟩ := gd_el hD
  refine va_sld hx hb hX hbl hbA hS h1 dL_law_1201 ?_
  refine lv_aload_n hx hb dL_law_1202 rfl (lv_at hl 0 rfl) ?_
  refine lv_iload hx hb dL_law_1203 (lv_at hl 4 rfl) ?_
  refine lv_iconst (v := (2 : Int32)) hx hb dL_law_1205 (by decide) ?_
  refine lv_iadd hx hb dL_law_1206 ?_
  obtain ⟨h2, hD⟩ := gd_el hD
  refine va_sld hx hb hX hbl hbA hS h2 dL_law_1207 ?_
  refine lv_if_eq (tgt := 1215) hx hb dL_law_1208 (by decide) (fun c => ?_) (fun c => ?_)
  · have hD := ifp hD c
    refine lv_iconst (v := (0 : Int32)) hx hb dL_law_1215 (by decide) ?_
    refine lv_aload_n hx hb dL_law_1216 rfl (lv_at hl 3 rfl) ?_
    obtain ⟨v3, m4, m5, z6, hD⟩ := b3_el hD
    refine lrL (As := [.ref (adh 0), .int (xs (x4 + (1 : Int32)).toNatClampNeg), .int (0 : Int32), .ref (adu 0)]) (rest := []) Fx0 (c_L_leaveOut l hst (Wf := fun z0_ z1_ z2_ => Wf z0_ z1_ f c0 c1 x z2_) (fun z1_ z2_ => hLh z1_ f c0 c1 x z2_) (fun z0_ z2_ => hL z0_ f c0 c1 x z2_) (fun z0_ z1_ => hLu z0_ z1_ f c0 c1 x) (fun a0_ b0_ a1_ b1_ a2_ b2_ => hAd a0_ b0_ a1_ b1_ f f c0 c0 c1 c1 x x a2_ b2_) hm1 h m u (xs (x4 + (1 : Int32)).toNatClampNeg) (0 : Int32) z6) hP (hD1 _ (hAd _ _ _ _ _ _ _ _ _ _ _ _ _ _)) hS (hA1 _ _ (hAd _ _ _ _ _ _ _ _ _ _ _ _ _ _) hS.1) tw_6_13 tw_6_11 tw_6_12 tw_1_0 yd_L_leaveOut ⟨(Nat.le_of_ble_eq_true rfl), (Nat.le_of_ble_eq_true rfl)⟩ ⟨show _ + 1 ≤ 601024 by omega, show _ + 6 ≤ 7293034 by omega⟩ rfl hl.1 rfl (Nat.le_of_ble_eq_true rfl) dL_law_1217 (fun H locs hP hS => ?_)
    refine lv_istore (lv' := [(5, .int v3), (0, .ref b), (1, .ref (adh 0)), (2, .ref (adx 0)), (3, .ref (adu 0)), (4, .int x4)]) hx hb dL_law_1220 hl (by decide) rfl (fun ls hl => ?_)
    refine lv_aload_n hx hb dL_law_1222 rfl (lv_at hl 3 rfl) ?_
    refine lv_aload_n hx hb dL_law_1223 rfl (lv_at hl 1 rfl) ?_
    refine lv_iload hx hb dL_law_1224 (lv_at hl 5 rfl) ?_
    refine lv_iconst (v := (1 : Int32)) hx hb dL_law_1226 (by decide) ?_
    refine lv_iadd hx hb dL_law_1227 ?_
    obtain ⟨h7, hD⟩ := gd_el hD
    refine va_sld hx hb hX hbl hbA hS h7 dL_law_1228 ?_
    refine lv_aload_n hx hb dL_law_1229 rfl (lv_at hl 1 rfl) ?_
    refine lv_iload hx hb dL_law_1230 (lv_at hl 5 rfl) ?_
    refine lv_iconst (v := (2 : Int32)) hx hb dL_law_1232 (by decide) ?_
    refine lv_iadd hx hb dL_law_1233 ?_
    obtain ⟨h8, hD⟩ := gd_el hD
    refine va_sld hx hb hX hbl hbA hS h8 dL_law_1234 ?_
    refine lv_if_eq (tgt := 1242) hx hb dL_law_1235 (by decide) (fun c => ?_) (fun c => ?_)
    · have hD := ifp hD c
      refine lv_iconst (v := (0 : Int32)) hx hb dL_law_1242 (by decide) ?_
      obtain ⟨v9, m10, z11, hD⟩ := b2_el hD
      refine lrV (Wf := fun z => Wf h m4 f c0 c1 z m5) (mm := x) (As := [.int (xs (x4 + (1 : Int32)).toNatClampNeg), .int (0 : Int32)]) (rest := []) Fx0 (c_X10_leaveOut l (Wf := fun z0_ => Wf h m4 f c0 c1 z0_ m5) (hLx h m4 f c0 c1 m5) (fun a0_ b0_ => hAd h h m4 m4 f f c0 c0 c1 c1 a0_ b0_ m5 m5) x (xs (x4 + (1 : Int32)).toNatClampNeg) (0 : Int32) z11) hP (hD1 _ (hAd _ _ _ _ _ _ _ _ _ _ _ _ _ _)) hS (hA1 _ _ (hAd _ _ _ _ _ _ _ _ _ _ _ _ _ _) hS.1) (hLx h m4 f c0 c1 m5) (Nat.le_of_ble_eq_true rfl) (xs0 _ _) rfl tw_8_46 tw_8_43 tw_8_44 tw_8_45 tw_1_13 yd_X10_leaveOut ⟨(Nat.le_of_ble_eq_true rfl), (Nat.le_of_ble_eq_true rfl)⟩ ⟨show _ ≤ 601024 by omega, show _ ≤ 7293034 by omega⟩ rfl hl.1 rfl (Nat.le_of_ble_eq_true rfl) dL_law_1243 (fun H locs hP hS => ?_)
      refine lv_istore (lv' := [(6, .int v9), (5, .int v3), (0, .ref b), (1, .ref (adh 0)), (2, .ref (adx 0)), (3, .ref (adu 0)), (4, .int x4)]) hx hb dL_law_1246 hl (by decide) rfl (fun ls hl => ?_)
      refine lv_aload_n hx hb dL_law_1248 rfl (lv_at hl 4 rfl) ?_
      obtain ⟨v12, z13, hD⟩ := b1_el hD
      refine lrV (Wf := fun z => Wf h m4 f c0 c1 z m5) (mm := m10) (As := []) (rest := []) Fx0 (c_X10_thrown l (Wf := fun z0_ => Wf h m4 f c0 c1 z0_ m5) (hLx h m4 f c0 c1 m5) (fun a0_ b0_ => hAd h h m4 m4 f f c0 c0 c1 c1 a0_ b0_ m5 m5) m10 z13) hP (hD1 _ (hAd _ _ _ _ _ _ _ _ _ _ _ _ _ _)) hS (hA1 _ _ (hAd _ _ _ _ _ _ _ _ _ _ _ _ _ _) hS.1) (hLx h m4 f c0 c1 m5) (Nat.le_of_ble_eq_true rfl) (xs0 _ _) rfl tw_7_30 tw_7_27 tw_7_28 tw_7_29 tw_1_13 yd_X10_thrown ⟨(Nat.le_of_ble_eq_true rfl), (Nat.le_of_ble_eq_true rfl)⟩ ⟨show _ ≤ 601024 by omega, show _ ≤ 7293034 by omega⟩ rfl hl.1 rfl (Nat.le_of_ble_eq_true rfl) dL_law_1249 (fun H locs hP hS => ?_)
      refine lv_iload hx hb dL_law_1252 (lv_at hl 1 rfl) ?_
      refine lv_icmp_eq (tgt := 1259) hx hb dL_law_1254 (by decide) (fun c => ?_) (fun c => ?_)
      · have hD := ifp hD c
        refine lv_iload hx hb dL_law_1259 (lv_at hl 1 rfl) ?_
        refine lv_if_ne (tgt := 1283) hx hb dL_law_1261 (by decide) (fun c => ?_) (fun c => ?_)
        · have hD := ifn hD c
          refine lv_goto (tgt := 2964) hx hb dL_law_1283 (by decide) ?_
          obtain ⟨v14, ev14, hD⟩ := bnd_el hD
          refine lv_iinc (v := v14) (lv' := [(4, .int v14), (6, .int v9), (5, .int v3), (0, .ref b), (1, .ref (adh 0)), (2, .ref (adx 0)), (3, .ref (adu 0))]) hx hb dL_law_2964 hl (k := 6) rfl (by rw [ev14]; rfl) (by decide) rfl (fun ls hl => ?_)
          refine lv_goto (tgt := 23) hx hb dL_law_2967 (by decide) ?_
          exact hk v14 h m4 f c0 c1 m10 m5 _ _ _ _ _ hD (show _ + n ≤ 601024 by omega) (show _ + 6 * n ≤ 7293034 by omega) hP hS (lv_sub hl [3, 4, 5, 6, 0] rfl)
        · have hD := ifp hD c
          refine lv_aload_n hx hb dL_law_1264 rfl (lv_at hl 5 rfl) ?_
          refine lv_iconst (v := (0 : Int32)) hx hb dL_law_1265 (by decide) ?_
          refine rlald (Wf := fun z => Wf h m4 f c0 c1 m10 z) (mm := m5) hx hb hK hP (hLu h m4 f c0 c1 m10) 0 (Nat.le_of_ble_eq_true rfl) (us0 _ _) (by decide) (j := 0) (by decide) dL_law_1266 ?_
          refine lv_iload hx hb dL_law_1267 (lv_at hl 0 rfl) ?_
          refine lv_if_eq (tgt := 1276) hx hb dL_law_1269 (by decide) (fun c => ?_) (fun c => ?_)
          · have hD := ifp hD c
            refine lv_lconst (v := (0 : Int64)) hx hb dL_law_1276 (by decide) ?_
            refine rlc_eq (tgt := 1283) hx hb dL_law_1277 dL_law_1278 (by decide) (fun c => ?_) (fun c => ?_)
            · have hD := ifp hD c
              refine lv_goto (tgt := 2964) hx hb dL_law_1283 (by decide) ?_
              obtain ⟨v15, ev15, hD⟩ := bnd_el hD
              refine lv_iinc (v := v15) (lv' := [(4, .int v15), (6, .int v9), (5, .int v3), (0, .ref b), (1, .ref (adh 0)), (2, .ref (adx 0)), (3, .ref (adu 0))]) hx hb dL_law_2964 hl (k := 6) rfl (by rw [ev15]; rfl) (by decide) rfl (fun ls hl => ?_)
              refine lv_goto (tgt := 23) hx hb dL_law_2967 (by decide) ?_
              exact hk v15 h m4 f c0 c1 m10 m5 _ _ _ _ _ hD (show _ + n ≤ 601024 by omega) (show _ + 6 * n ≤ 7293034 by omega) hP hS (lv_sub hl [3, 4, 5, 6, 0] rfl)
            · have hD := ifn hD c
              refine lv_iconst (v := (0 : Int32)) hx hb dL_law_1281 (by decide) ?_
              exact nn_el hD
          · have hD := ifn hD c
            refine lv_lconst (v := (1 : Int64)) hx hb dL_law_1272 (by decide) ?_
            refine lv_goto (tgt := 1277) hx hb dL_law_1273 (by decide) ?_
            refine rlc_eq (tgt := 1283) hx hb dL_law_1277 dL_law_1278 (by decide) (fun c => ?_) (fun c => ?_)
            · have hD := ifp hD c
              refine lv_goto (tgt := 2964) hx hb dL_law_1283 (by decide) ?_
              obtain ⟨v16, ev16, hD⟩ := bnd_el hD
              refine lv_iinc (v := v16) (lv' := [(4, .int v16), (6, .int v9), (5, .int v3), (0, .ref b), (1, .ref (adh 0)), (2, .ref (adx 0)), (3, .ref (adu 0))]) hx hb dL_law_2964 hl (k := 6) rfl (by rw [ev16]; rfl) (by decide) rfl (fun ls hl => ?_)
              refine lv_goto (tgt := 23) hx hb dL_law_2967 (by decide) ?_
              exact hk v16 h m4 f c0 c1 m10 m5 _ _ _ _ _ hD (show _ + n ≤ 601024 by omega) (show _ + 6 * n ≤ 7293034 by omega) hP hS (lv_sub hl [3, 4, 5, 6, 0] rfl)
            · have hD := ifn hD c
              refine lv_iconst (v := (0 : Int32)) hx hb dL_law_1281 (by decide) ?_
              exact nn_el hD
      · have hD := ifn hD c
        refine lv_iconst (v := (0 : Int32)) hx hb dL_law_1257 (by decide) ?_
        exact nn_el hD
    · have hD := ifn hD c
      refine lv_iconst (v := (1 : Int32)) hx hb dL_law_1238 (by decide) ?_
      refine lv_goto (tgt := 1243) hx hb dL_law_1239 (by decide) ?_
      obtain ⟨v17, m18, z19, hD⟩ := b2_el hD
      refine lrV (Wf := fun z => Wf h m4 f c0 c1 z m5) (mm := x) (As := [.int (xs (x4 + (1 : Int32)).toNatClampNeg), .int (1 : Int32)]) (rest := []) Fx0 (c_X10_leaveOut l (Wf := fun z0_ => Wf h m4 f c0 c1 z0_ m5) (hLx h m4 f c0 c1 m5) (fun a0_ b0_ => hAd h h m4 m4 f f c0 c0 c1 c1 a0_ b0_ m5 m5) x (xs (x4 + (1 : Int32)).toNatClampNeg) (1 : Int32) z19) hP (hD1 _ (hAd _ _ _ _ _ _ _ _ _ _ _ _ _ _)) hS (hA1 _ _ (hAd _ _ _ _ _ _ _ _ _ _ _ _ _ _) hS.1) (hLx h m4 f c0 c1 m5) (Nat.le_of_ble_eq_true rfl) (xs0 _ _) rfl tw_8_46 tw_8_43 tw_8_44 tw_8_45 tw_1_13 yd_X10_leaveOut ⟨(Nat.le_of_ble_eq_true rfl), (Nat.le_of_ble_eq_true rfl)⟩ ⟨show _ ≤ 601024 by omega, show _ ≤ 7293034 by omega⟩ rfl hl.1 rfl (Nat.le_of_ble_eq_true rfl) dL_law_1243 (fun H locs hP hS => ?_)
      refine lv_istore (lv' := [(6, .int v17), (5, .int v3), (0, .ref b), (1, .ref (adh 0)), (2, .ref (adx 0)), (3, .ref (adu 0)), (4, .int x4)]) hx hb dL_law_1246 hl (by decide) rfl (fun ls hl => ?_)
      refine lv_aload_n hx hb dL_law_1248 rfl (lv_at hl 4 rfl) ?_
      obtain ⟨v20, z21, hD⟩ := b1_el hD
      refine lrV (Wf := fun z => Wf h m4 f c0 c1 z m5) (mm := m18) (As := []) (rest := []) Fx0 (c_X10_thrown l (Wf := fun z0_ => Wf h m4 f c0 c1 z0_ m5) (hLx h m4 f c0 c1 m5) (fun a0_ b0_ => hAd h h m4 m4 f f c0 c0 c1 c1 a0_ b0_ m5 m5) m18 z21) hP (hD1 _ (hAd _ _ _ _ _ _ _ _ _ _ _ _ _ _)) hS (hA1 _ _ (hAd _ _ _ _ _ _ _ _ _ _ _ _ _ _) hS.1) (hLx h m4 f c0 c1 m5) (Nat.le_of_ble_eq_true rfl) (xs0 _ _) rfl tw_7_30 tw_7_27 tw_7_28 tw_7_29 tw_1_13 yd_X10_thrown ⟨(Nat.le_of_ble_eq_true rfl), (Nat.le_of_ble_eq_true rfl)⟩ ⟨show _ ≤ 601024 by omega, show _ ≤ 7293034 by omega⟩ rfl hl.1 rfl (Nat.le_of_ble_eq_true rfl) dL_law_1249 (fun H locs hP hS => ?_)
      refine lv_iload hx hb dL_law_1252 (lv_at hl 1 rfl) ?_
      refine lv_icmp_eq (tgt := 1259) hx hb dL_law_1254 (by decide) (fun c => ?_) (fun c => ?_)
      · have hD := ifp hD c
        refine lv_iload hx hb dL_law_1259 (lv_at hl 1 rfl) ?_
        refine lv_if_ne (tgt := 1283) hx hb dL_law_1261 (by decide) (fun c => ?_) (fun c => ?_)
        · have hD := ifn hD c
          refine lv_goto (tgt := 2964) hx hb dL_law_1283 (by decide) ?_
          obtain ⟨v22, ev22, hD⟩ := bnd_el hD
          refine lv_iinc (v := v22) (lv' := [(4, .int v22), (6, .int v17), (5, .int v3), (0, .ref b), (1, .ref (adh 0)), (2, .ref (adx 0)), (3, .ref (adu 0))]) hx hb dL_law_2964 hl (k := 6) rfl (by rw [ev22]; rfl) (by decide) rfl (fun ls hl => ?_)
          refine lv_goto (tgt := 23) hx hb dL_law_2967 (by decide) ?_
          exact hk v22 h m4 f c0 c1 m18 m5 _ _ _ _ _ hD (show _ + n ≤ 601024 by omega) (show _ + 6 * n ≤ 7293034 by omega) hP hS (lv_sub hl [3, 4, 5, 6, 0] rfl)
        · have hD := ifp hD c
          refine lv_aload_n hx hb dL_law_1264 rfl (lv_at hl 5 rfl) ?_
          refine lv_iconst (v := (0 : Int32)) hx hb dL_law_1265 (by decide) ?_
          refine rlald (Wf := fun z => Wf h m4 f c0 c1 m18 z) (mm := m5) hx hb hK hP (hLu h m4 f c0 c1 m18) 0 (Nat.le_of_ble_eq_true rfl) (us0 _ _) (by decide) (j := 0) (by decide) dL_law_1266 ?_
          refine lv_iload hx hb dL_law_1267 (lv_at hl 0 rfl) ?_
          refine lv_if_eq (tgt := 1276) hx hb dL_law_1269 (by decide) (fun c => ?_) (fun c => ?_)
          · have hD := ifp hD c
            refine lv_lconst (v := (0 : Int64)) hx hb dL_law_1276 (by decide) ?_
            refine rlc_eq (tgt := 1283) hx hb dL_law_1277 dL_law_1278 (by decide) (fun c => ?_) (fun c => ?_)
            · have hD := ifp hD c
              refine lv_goto (tgt := 2964) hx hb dL_law_1283 (by decide) ?_
              obtain ⟨v23, ev23, hD⟩ := bnd_el hD
              refine lv_iinc (v := v23) (lv' := [(4, .int v23), (6, .int v17), (5, .int v3), (0, .ref b), (1, .ref (adh 0)), (2, .ref (adx 0)), (3, .ref (adu 0))]) hx hb dL_law_2964 hl (k := 6) rfl (by rw [ev23]; rfl) (by decide) rfl (fun ls hl => ?_)
              refine lv_goto (tgt := 23) hx hb dL_law_2967 (by decide) ?_
              exact hk v23 h m4 f c0 c1 m18 m5 _ _ _ _ _ hD (show _ + n ≤ 601024 by omega) (show _ + 6 * n ≤ 7293034 by omega) hP hS (lv_sub hl [3, 4, 5, 6, 0] rfl)
            · have hD := ifn hD c
              refine lv_iconst (v := (0 : Int32)) hx hb dL_law_1281 (by decide) ?_
              exact nn_el hD
          · have hD := ifn hD c
            refine lv_lconst (v := (1 : Int64)) hx hb dL_law_1272 (by decide) ?_
            refine lv_goto (tgt := 1277) hx hb dL_law_1273 (by decide) ?_
            refine rlc_eq (tgt := 1283) hx hb dL_law_1277 dL_law_1278 (by decide) (fun c => ?_) (fun c => ?_)
            · have hD := ifp hD c
              refine lv_goto (tgt := 2964) hx hb dL_law_1283 (by decide) ?_
              obtain ⟨v24, ev24, hD⟩ := bnd_el hD
              refine lv_iinc (v := v24) (lv' := [(4, .int v24), (6, .int v17), (5, .int v3), (0, .ref b), (1, .ref (adh 0)), (2, .ref (adx 0)), (3, .ref (adu 0))]) hx hb dL_law_2964 hl (k := 6) rfl (by rw [ev24]; rfl) (by decide) rfl (fun ls hl => ?_)
              refine lv_goto (tgt := 23) hx hb dL_law_2967 (by decide) ?_
              exact hk v24 h m4 f c0 c1 m18 m5 _ _ _ _ _ hD (show _ + n ≤ 601024 by omega) (show _ + 6 * n ≤ 7293034 by omega) hP hS (lv_sub hl [3, 4, 5, 6, 0] rfl)
            · have hD := ifn hD c
              refine lv_iconst (v := (0 : Int32)) hx hb dL_law_1281 (by decide) ?_
              exact nn_el hD
      · have hD := ifn hD c
        refine lv_iconst (v := (0 : Int32)) hx hb dL_law_1257 (by decide) ?_
        exact nn_el hD
  · have hD := ifn hD c
    refine lv_iconst (v := (1 : Int32)) hx hb dL_law_1211 (by decide) ?_
    refine lv_goto (tgt := 1216) hx hb dL_law_1212 (by decide) ?_
    refine lv_aload_n hx hb dL_law_1216 rfl (lv_at hl 3 rfl) ?_
    obtain ⟨v25, m26, m27, z28, hD⟩ := b3_el hD
    refine lrL (As := [.ref (adh 0), .int (xs (x4 + (1 : Int32)).toNatClampNeg), .int (1 : Int32), .ref (adu 0)]) (rest := []) Fx0 (c_L_leaveOut l hst (Wf := fun z0_ z1_ z2_ => Wf z0_ z1_ f c0 c1 x z2_) (fun z1_ z2_ => hLh z1_ f c0 c1 x z2_) (fun z0_ z2_ => hL z0_ f c0 c1 x z2_) (fun z0_ z1_ => hLu z0_ z1_ f c0 c1 x) (fun a0_ b0_ a1_ b1_ a2_ b2_ => hAd a0_ b0_ a1_ b1_ f f c0 c0 c1 c1 x x a2_ b2_) hm1 h m u (xs (x4 + (1 : Int32)).toNatClampNeg) (1 : Int32) z28) hP (hD1 _ (hAd _ _ _ _ _ _ _ _ _ _ _ _ _ _)) hS (hA1 _ _ (hAd _ _ _ _ _ _ _ _ _ _ _ _ _ _) hS.1) tw_6_13 tw_6_11 tw_6_12 tw_1_0 yd_L_leaveOut ⟨(Nat.le_of_ble_eq_true rfl), (Nat.le_of_ble_eq_true rfl)⟩ ⟨show _ + 1 ≤ 601024 by omega, show _ + 6 ≤ 7293034 by omega⟩ rfl hl.1 rfl (Nat.le_of_ble_eq_true rfl) dL_law_1217 (fun H locs hP hS => ?_)
    refine lv_istore (lv' := [(5, .int v25), (0, .ref b), (1, .ref (adh 0)), (2, .ref (adx 0)), (3, .ref (adu 0)), (4, .int x4)]) hx hb dL_law_1220 hl (by decide) rfl (fun ls hl => ?_)
    refine lv_aload_n hx hb dL_law_1222 rfl (lv_at hl 3 rfl) ?_
    refine lv_aload_n hx hb dL_law_1223 rfl (lv_at hl 1 rfl) ?_
    refine lv_iload hx hb dL_law_1224 (lv_at hl 5 rfl) ?_
    refine lv_iconst (v := (1 : Int32)) hx hb dL_law_1226 (by decide) ?_
    refine lv_iadd hx hb dL_law_1227 ?_
    obtain ⟨h29, hD⟩ := gd_el hD
    refine va_sld hx hb hX hbl hbA hS h29 dL_law_1228 ?_
    refine lv_aload_n hx hb dL_law_1229 rfl (lv_at hl 1 rfl) ?_
    refine lv_iload hx hb dL_law_1230 (lv_at hl 5 rfl) ?_
    refine lv_iconst (v := (2 : Int32)) hx hb dL_law_1232 (by decide) ?_
    refine lv_iadd hx hb dL_law_1233 ?_
    obtain ⟨h30, hD⟩ := gd_el hD
    refine va_sld hx hb hX hbl hbA hS h30 dL_law_1234 ?_
    refine lv_if_eq (tgt := 1242) hx hb dL_law_1235 (by decide) (fun c => ?_) (fun c => ?_)
    · have hD := ifp hD c
      refine lv_iconst (v := (0 : Int32)) hx hb dL_law_1242 (by decide) ?_
      obtain ⟨v31, m32, z33, hD⟩ := b2_el hD
      refine lrV (Wf := fun z => Wf h m26 f c0 c1 z m27) (mm := x) (As := [.int (xs (x4 + (1 : Int32)).toNatClampNeg), .int (0 : Int32)]) (rest := []) Fx0 (c_X10_leaveOut l (Wf := fun z0_ => Wf h m26 f c0 c1 z0_ m27) (hLx h m26 f c0 c1 m27) (fun a0_ b0_ => hAd h h m26 m26 f f c0 c0 c1 c1 a0_ b0_ m27 m27) x (xs (x4 + (1 : Int32)).toNatClampNeg) (0 : Int32) z33) hP (hD1 _ (hAd _ _ _ _ _ _ _ _ _ _ _ _ _ _)) hS (hA1 _ _ (hAd _ _ _ _ _ _ _ _ _ _ _ _ _ _) hS.1) (hLx h m26 f c0 c1 m27) (Nat.le_of_ble_eq_true rfl) (xs0 _ _) rfl tw_8_46 tw_8_43 tw_8_44 tw_8_45 tw_1_13 yd_X10_leaveOut ⟨(Nat.le_of_ble_eq_true rfl), (Nat.le_of_ble_eq_true rfl)⟩ ⟨show _ ≤ 601024 by omega, show _ ≤ 7293034 by omega⟩ rfl hl.1 rfl (Nat.le_of_ble_eq_true rfl) dL_law_1243 (fun H locs hP hS => ?_)
      refine lv_istore (lv' := [(6, .int v31), (5, .int v25), (0, .ref b), (1, .ref (adh 0)), (2, .ref (adx 0)), (3, .ref (adu 0)), (4, .int x4)]) hx hb dL_law_1246 hl (by decide) rfl (fun ls hl => ?_)
      refine lv_aload_n hx hb dL_law_1248 rfl (lv_at hl 4 rfl) ?_
      obtain ⟨v34, z35, hD⟩ := b1_el hD
      refine lrV (Wf := fun z => Wf h m26 f c0 c1 z m27) (mm := m32) (As := []) (rest := []) Fx0 (c_X10_thrown l (Wf := fun z0_ => Wf h m26 f c0 c1 z0_ m27) (hLx h m26 f c0 c1 m27) (fun a0_ b0_ => hAd h h m26 m26 f f c0 c0 c1 c1 a0_ b0_ m27 m27) m32 z35) hP (hD1 _ (hAd _ _ _ _ _ _ _ _ _ _ _ _ _ _)) hS (hA1 _ _ (hAd _ _ _ _ _ _ _ _ _ _ _ _ _ _) hS.1) (hLx h m26 f c0 c1 m27) (Nat.le_of_ble_eq_true rfl) (xs0 _ _) rfl tw_7_30 tw_7_27 tw_7_28 tw_7_29 tw_1_13 yd_X10_thrown ⟨(Nat.le_of_ble_eq_true rfl), (Nat.le_of_ble_eq_true rfl)⟩ ⟨show _ ≤ 601024 by omega, show _ ≤ 7293034 by omega⟩ rfl hl.1 rfl (Nat.le_of_ble_eq_true rfl) dL_law_1249 (fun H locs hP hS => ?_)
      refine lv_iload hx hb dL_law_1252 (lv_at hl 1 rfl) ?_
      refine lv_icmp_eq (tgt := 1259) hx hb dL_law_1254 (by decide) (fun c => ?_) (fun c => ?_)
      · have hD := ifp hD c
        refine lv_iload hx hb dL_law_1259 (lv_at hl 1 rfl) ?_
        refine lv_if_ne (tgt := 1283) hx hb dL_law_1261 (by decide) (fun c => ?_) (fun c => ?_)
        · have hD := ifn hD c
          refine lv_goto (tgt := 2964) hx hb dL_law_1283 (by decide) ?_
          obtain ⟨v36, ev36, hD⟩ := bnd_el hD
          refine lv_iinc (v := v36) (lv' := [(4, .int v36), (6, .int v31), (5, .int v25), (0, .ref b), (1, .ref (adh 0)), (2, .ref (adx 0)), (3, .ref (adu 0))]) hx hb dL_law_2964 hl (k := 6) rfl (by rw [ev36]; rfl) (by decide) rfl (fun ls hl => ?_)
          refine lv_goto (tgt := 23) hx hb dL_law_2967 (by decide) ?_
          exact hk v36 h m26 f c0 c1 m32 m27 _ _ _ _ _ hD (show _ + n ≤ 601024 by omega) (show _ + 6 * n ≤ 7293034 by omega) hP hS (lv_sub hl [3, 4, 5, 6, 0] rfl)
        · have hD := ifp hD c
          refine lv_aload_n hx hb dL_law_1264 rfl (lv_at hl 5 rfl) ?_
          refine lv_iconst (v := (0 : Int32)) hx hb dL_law_1265 (by decide) ?_
          refine rlald (Wf := fun z => Wf h m26 f c0 c1 m32 z) (mm := m27) hx hb hK hP (hLu h m26 f c0 c1 m32) 0 (Nat.le_of_ble_eq_true rfl) (us0 _ _) (by decide) (j := 0) (by decide) dL_law_1266 ?_
          refine lv_iload hx hb dL_law_1267 (lv_at hl 0 rfl) ?_
          refine lv_if_eq (tgt := 1276) hx hb dL_law_1269 (by decide) (fun c => ?_) (fun c => ?_)
          · have hD := ifp hD c
            refine lv_lconst (v := (0 : Int64)) hx hb dL_law_1276 (by decide) ?_
            refine rlc_eq (tgt := 1283) hx hb dL_law_1277 dL_law_1278 (by decide) (fun c => ?_) (fun c => ?_)
            · have hD := ifp hD c
              refine lv_goto (tgt := 2964) hx hb dL_law_1283 (by decide) ?_
              obtain ⟨v37, ev37, hD⟩ := bnd_el hD
              refine lv_iinc (v := v37) (lv' := [(4, .int v37), (6, .int v31), (5, .int v25), (0, .ref b), (1, .ref (adh 0)), (2, .ref (adx 0)), (3, .ref (adu 0))]) hx hb dL_law_2964 hl (k := 6) rfl (by rw [ev37]; rfl) (by decide) rfl (fun ls hl => ?_)
              refine lv_goto (tgt := 23) hx hb dL_law_2967 (by decide) ?_
              exact hk v37 h m26 f c0 c1 m32 m27 _ _ _ _ _ hD (show _ + n ≤ 601024 by omega) (show _ + 6 * n ≤ 7293034 by omega) hP hS (lv_sub hl [3, 4, 5, 6, 0] rfl)
            · have hD := ifn hD c
              refine lv_iconst (v := (0 : Int32)) hx hb dL_law_1281 (by decide) ?_
              exact nn_el hD
          · have hD := ifn hD c
            refine lv_lconst (v := (1 : Int64)) hx hb dL_law_1272 (by decide) ?_
            refine lv_goto (tgt := 1277) hx hb dL_law_1273 (by decide) ?_
            refine rlc_eq (tgt := 1283) hx hb dL_law_1277 dL_law_1278 (by decide) (fun c => ?_) (fun c => ?_)
            · have hD := ifp hD c
              refine lv_goto (tgt := 2964) hx hb dL_law_1283 (by decide) ?_
              obtain ⟨v38, ev38, hD⟩ := bnd_el hD
              refine lv_iinc (v := v38) (lv' := [(4, .int v38), (6, .int v31), (5, .int v25), (0, .ref b), (1, .ref (adh 0)), (2, .ref (adx 0)), (3, .ref (adu 0))]) hx hb dL_law_2964 hl (k := 6) rfl (by rw [ev38]; rfl) (by decide) rfl (fun ls hl => ?_)
              refine lv_goto (tgt := 23) hx hb dL_law_2967 (by decide) ?_
              exact hk v38 h m26 f c0 c1 m32 m27 _ _ _ _ _ hD (show _ + n ≤ 601024 by omega) (show _ + 6 * n ≤ 7293034 by omega) hP hS (lv_sub hl [3, 4, 5, 6, 0] rfl)
            · have hD := ifn hD c
              refine lv_iconst (v := (0 : Int32)) hx hb dL_law_1281 (by decide) ?_
              exact nn_el hD
      · have hD := ifn hD c
        refine lv_iconst (v := (0 : Int32)) hx hb dL_law_1257 (by decide) ?_
        exact nn_el hD
    · have hD := ifn hD c
      refine lv_iconst (v := (1 : Int32)) hx hb dL_law_1238 (by decide) ?_
      refine lv_goto (tgt := 1243) hx hb dL_law_1239 (by decide) ?_
      obtain ⟨v39, m40, z41, hD⟩ := b2_el hD
      refine lrV (Wf := fun z => Wf h m26 f c0 c1 z m27) (mm := x) (As := [.int (xs (x4 + (1 : Int32)).toNatClampNeg), .int (1 : Int32)]) (rest := []) Fx0 (c_X10_leaveOut l (Wf := fun z0_ => Wf h m26 f c0 c1 z0_ m27) (hLx h m26 f c0 c1 m27) (fun a0_ b0_ => hAd h h m26 m26 f f c0 c0 c1 c1 a0_ b0_ m27 m27) x (xs (x4 + (1 : Int32)).toNatClampNeg) (1 : Int32) z41) hP (hD1 _ (hAd _ _ _ _ _ _ _ _ _ _ _ _ _ _)) hS (hA1 _ _ (hAd _ _ _ _ _ _ _ _ _ _ _ _ _ _) hS.1) (hLx h m26 f c0 c1 m27) (Nat.le_of_ble_eq_true rfl) (xs0 _ _) rfl tw_8_46 tw_8_43 tw_8_44 tw_8_45 tw_1_13 yd_X10_leaveOut ⟨(Nat.le_of_ble_eq_true rfl), (Nat.le_of_ble_eq_true rfl)⟩ ⟨show _ ≤ 601024 by omega, show _ ≤ 7293034 by omega⟩ rfl hl.1 rfl (Nat.le_of_ble_eq_true rfl) dL_law_1243 (fun H locs hP hS => ?_)
      refine lv_istore (lv' := [(6, .int v39), (5, .int v25), (0, .ref b), (1, .ref (adh 0)), (2, .ref (adx 0)), (3, .ref (adu 0)), (4, .int x4)]) hx hb dL_law_1246 hl (by decide) rfl (fun ls hl => ?_)
      refine lv_aload_n hx hb dL_law_1248 rfl (lv_at hl 4 rfl) ?_
      obtain ⟨v42, z43, hD⟩ := b1_el hD
      refine lrV (Wf := fun z => Wf h m26 f c0 c1 z m27) (mm := m40) (As := []) (rest := []) Fx0 (c_X10_thrown l (Wf := fun z0_ => Wf h m26 f c0 c1 z0_ m27) (hLx h m26 f c0 c1 m27) (fun a0_ b0_ => hAd h h m26 m26 f f c0 c0 c1 c1 a0_ b0_ m27 m27) m40 z43) hP (hD1 _ (hAd _ _ _ _ _ _ _ _ _ _ _ _ _ _)) hS (hA1 _ _ (hAd _ _ _ _ _ _ _ _ _ _ _ _ _ _) hS.1) (hLx h m26 f c0 c1 m27) (Nat.le_of_ble_eq_true rfl) (xs0 _ _) rfl tw_7_30 tw_7_27 tw_7_28 tw_7_29 tw_1_13 yd_X10_thrown ⟨(Nat.le_of_ble_eq_true rfl), (Nat.le_of_ble_eq_true rfl)⟩ ⟨show _ ≤ 601024 by omega, show _ ≤ 7293034 by omega⟩ rfl hl.1 rfl (Nat.le_of_ble_eq_true rfl) dL_law_1249 (fun H locs hP hS => ?_)
      refine lv_iload hx hb dL_law_1252 (lv_at hl 1 rfl) ?_
      refine lv_icmp_eq (tgt := 1259) hx hb dL_law_1254 (by decide) (fun c => ?_) (fun c => ?_)
      · have hD := ifp hD c
        refine lv_iload hx hb dL_law_1259 (lv_at hl 1 rfl) ?_
        refine lv_if_ne (tgt := 1283) hx hb dL_law_1261 (by decide) (fun c => ?_) (fun c => ?_)
        · have hD := ifn hD c
          refine lv_goto (tgt := 2964) hx hb dL_law_1283 (by decide) ?_
          obtain ⟨v44, ev44, hD⟩ := bnd_el hD
          refine lv_iinc (v := v44) (lv' := [(4, .int v44), (6, .int v39), (5, .int v25), (0, .ref b), (1, .ref (adh 0)), (2, .ref (adx 0)), (3, .ref (adu 0))]) hx hb dL_law_2964 hl (k := 6) rfl (by rw [ev44]; rfl) (by decide) rfl (fun ls hl => ?_)
          refine lv_goto (tgt := 23) hx hb dL_law_2967 (by decide) ?_
          exact hk v44 h m26 f c0 c1 m40 m27 _ _ _ _ _ hD (show _ + n ≤ 601024 by omega) (show _ + 6 * n ≤ 7293034 by omega) hP hS (lv_sub hl [3, 4, 5, 6, 0] rfl)
        · have hD := ifp hD c
          refine lv_aload_n hx hb dL_law_1264 rfl (lv_at hl 5 rfl) ?_
          refine lv_iconst (v := (0 : Int32)) hx hb dL_law_1265 (by decide) ?_
          refine rlald (Wf := fun z => Wf h m26 f c0 c1 m40 z) (mm := m27) hx hb hK hP (hLu h m26 f c0 c1 m40) 0 (Nat.le_of_ble_eq_true rfl) (us0 _ _) (by decide) (j := 0) (by decide) dL_law_1266 ?_
          refine lv_iload hx hb dL_law_1267 (lv_at hl 0 rfl) ?_
          refine lv_if_eq (tgt := 1276) hx hb dL_law_1269 (by decide) (fun c => ?_) (fun c => ?_)
          · have hD := ifp hD c
            refine lv_lconst (v := (0 : Int64)) hx hb dL_law_1276 (by decide) ?_
            refine rlc_eq (tgt := 1283) hx hb dL_law_1277 dL_law_1278 (by decide) (fun c => ?_) (fun c => ?_)
            · have hD := ifp hD c
              refine lv_goto (tgt := 2964) hx hb dL_law_1283 (by decide) ?_
              obtain ⟨v45, ev45, hD⟩ := bnd_el hD
              refine lv_iinc (v := v45) (lv' := [(4, .int v45), (6, .int v39), (5, .int v25), (0, .ref b), (1, .ref (adh 0)), (2, .ref (adx 0)), (3, .ref (adu 0))]) hx hb dL_law_2964 hl (k := 6) rfl (by rw [ev45]; rfl) (by decide) rfl (fun ls hl => ?_)
              refine lv_goto (tgt := 23) hx hb dL_law_2967 (by decide) ?_
              exact hk v45 h m26 f c0 c1 m40 m27 _ _ _ _ _ hD (show _ + n ≤ 601024 by omega) (show _ + 6 * n ≤ 7293034 by omega) hP hS (lv_sub hl [3, 4, 5, 6, 0] rfl)
            · have hD := ifn hD c
              refine lv_iconst (v := (0 : Int32)) hx hb dL_law_1281 (by decide) ?_
              exact nn_el hD
          · have hD := ifn hD c
            refine lv_lconst (v := (1 : Int64)) hx hb dL_law_1272 (by decide) ?_
            refine lv_goto (tgt := 1277) hx hb dL_law_1273 (by decide) ?_
            refine rlc_eq (tgt := 1283) hx hb dL_law_1277 dL_law_1278 (by decide) (fun c => ?_) (fun c => ?_)
            · have hD := ifp hD c
              refine lv_goto (tgt := 2964) hx hb dL_law_1283 (by decide) ?_
              obtain ⟨v46, ev46, hD⟩ := bnd_el hD
              refine lv_iinc (v := v46) (lv' := [(4, .int v46), (6, .int v39), (5, .int v25), (0, .ref b), (1, .ref (adh 0)), (2, .ref (adx 0)), (3, .ref (adu 0))]) hx hb dL_law_2964 hl (k := 6) rfl (by rw [ev46]; rfl) (by decide) rfl (fun ls hl => ?_)
              refine lv_goto (tgt := 23) hx hb dL_law_2967 (by decide) ?_
              exact hk v46 h m26 f c0 c1 m40 m27 _ _ _ _ _ hD (show _ + n ≤ 601024 by omega) (show _ + 6 * n ≤ 7293034 by omega) hP hS (lv_sub hl [3, 4, 5, 6, 0] rfl)
            · have hD := ifn hD c
              refine lv_iconst (v := (0 : Int32)) hx hb dL_law_1281 (by decide) ?_
              exact nn_el hD
      · have hD := ifn hD c
        refine lv_iconst (v := (0 : Int32)) hx hb dL_law_1257 (by decide) ?_
        exact nn_el hD
noncomputable def D_L_law_1286 (L : Nat) (xs : Nat → Int32) (k : LKont) (x4 : Int32) (h : MM) (m : MM) (f : MM) (c0 : MM) (c1 : MM) (x : MM) (u : MM) : Option Unit := if (x4 + (1 : Int32)) < 0 ∨ L ≤ (x4 + (1 : Int32)).toNatClampNeg then none else (b2 (D_L_openSpots (xs (x4 + (1 : Int32)).toNatClampNeg) h m u) (fun v2 m3 => if (x4 + (1 : Int32)) < 0 ∨ L ≤ (x4 + (1 : Int32)).toNatClampNeg then none else (b2 (D_X10_openSpots (xs (x4 + (1 : Int32)).toNatClampNeg) x) (fun v6 m7 => b1 (D_X10_thrown m7) (fun v9 => if v9 = v2 then (if v2 = 0 then (if (gl m3 0 0) = v6.toInt64 then (bnd (x4 + (3 : Int32)) (fun v12 => k v12 h m f c0 c1 m7 m3)) else (none)) else (bnd (x4 + (3 : Int32)) (fun v11 => k v11 h m f c0 c1 m7 m3))) else (none))))))
set_option maxHeartbeats 4000000 in
set_option maxRecDepth 100000 in
theorem c_L_law_1286 (l : Launch) (hst : l.stackTraces = false) {p : Program} {e : Env} {s : State} {m0 : MethodId} {below : List Frame} {meth : Method} {c : Code} {b L : Nat} {xs : Nat → Int32} {D : va_G} {cs : Nat → ClassId} {A : Nat → Prop} {Q : State → Prop} {adh ad adf ad0 ad1 adx adu ma : Nat → Nat} {Wf : MM → MM → MM → MM → MM → MM → MM → va_W} (hLh : ∀ m f c0 c1 x u : MM, Ln 8 adh (hsh cs adh ma) (fun z => Wf z m f c0 c1 x u)) (hL : ∀ h f c0 c1 x u : MM, Ln 51 ad (msh cs ad) (fun z => Wf h z f c0 c1 x u)) (hLf : ∀ h m c0 c1 x u : MM, Ln 51 adf (msh cs adf) (fun z => Wf h m z c0 c1 x u)) (hL0 : ∀ h m f c1 x u : MM, Ln 51 ad0 (msh cs ad0) (fun z => Wf h m f z c1 x u)) (hL1 : ∀ h m f c0 x u : MM, Ln 51 ad1 (msh cs ad1) (fun z => Wf h m f c0 z x u)) (hLx : ∀ h m f c0 c1 u : MM, Ln 9 adx (xsh cs adx) (fun z => Wf h m f c0 c1 z u)) (hLu : ∀ h m f c0 c1 x : MM, Ln 1 adu (ush cs) (fun z => Wf h m f c0 c1 x z)) (hAd : ∀ a0_ b0_ a1_ b1_ a2_ b2_ a3_ b3_ a4_ b4_ a5_ b5_ a6_ b6_ : MM, (Wf a0_ a1_ a2_ a3_ a4_ a5_ a6_).map (fun q => q.1) = (Wf b0_ b1_ b2_ b3_ b4_ b5_ b6_).map (fun q => q.1)) (hm1 : ma 1 = ad 24) (hm2 : ma 2 = adf 24) (hm3 : ma 3 = ad0 24) (hm4 : ma 4 = ad1 24) (hLX : LX p s m0 c b L xs D cs A (Wf zMM zMM zMM zMM zMM zMM zMM)) (n : Nat) (k : LKont) (hk : LK p l e s m0 below meth c b D A Q adh adx adu Wf n k) (x4 : Int32) (h : MM) (m : MM) (f : MM) (c0 : MM) (c1 : MM) (x : MM) (u : MM) (cells slots : Nat) (H : Heap) (locs : List Loc) (ls : Array Slot) (hD : D_L_law_1286 L xs k x4 h m f c0 c1 x u = some ()) (hcl : cells + (n + 1) ≤ 601024) (hsl : slots + 6 * (n + 1) ≤ 7293034) (hP : va_P D vwCl (Wf h m f c0 c1 x u) H) (hS : va_S A s.heap H locs) (hl : lv_has ls 8 [(0, .ref b), (1, .ref (adh 0)), (2, .ref (adx 0)), (3, .ref (adu 0)), (4, .int x4)]) : W p l e room_1 s m0 #[Value.ref b] below meth c H locs cells slots Q (F0 m0 1286 ls []) := by
  obtain ⟨hx, hb, hml, hown, hK, hT⟩ := hLX.rest
  obtain ⟨Fx0, hX, hbl, hbA, hD1, hA1⟩ := hLX
  unfold D_L_law_1286 at hD
  refine lv_aload_n hx hb dL_law_1286 rfl (lv_at hl 1 rfl) ?_
  refine lv_aload_n hx hb dL_law_1287 rfl (lv_at hl 0 rfl) ?_
  refine lv_iload hx hb dL_law_1288 (lv_at hl 4 rfl) ?_
  refine lv_iconst (v := (1 : Int32)) hx hb dL_law_1290 (by decide) ?_
  refine lv_iadd hx hb dL_law_1291 ?_
  obtain ⟨h1, hD⟩ := gd_el hD
  refine va_sld hx hb hX hbl hbA hS h1 dL_law_1292 ?_
  refine lv_aload_n hx hb dL_law_1293 rfl (lv_at hl 3 rfl) ?_
  obtain ⟨v2, m3, z4, hD⟩ := b2_el hD
  refine lrL (As := [.ref (adh 0), .int (xs (x4 + (1 : Int32)).toNatClampNeg), .ref (adu 0)]) (rest := []) Fx0 (c_L_openSpots l hst (Wf := fun z0_ z1_ z2_ => Wf z0_ z1_ f c0 c1 x z2_) (fun z1_ z2_ => hLh z1_ f c0 c1 x z2_) (fun z0_ z2_ => hL z0_ f c0 c1 x z2_) (fun z0_ z1_ => hLu z0_ z1_ f c0 c1 x) (fun a0_ b0_ a1_ b1_ a2_ b2_ => hAd a0_ b0_ a1_ b1_ f f c0 c0 c1 c1 x x a2_ b2_) hm1 h m u (xs (x4 + (1 : Int32)).toNatClampNeg) z4) hP (hD1 _ (hAd _ _ _ _ _ _ _ _ _ _ _ _ _ _)) hS (hA1 _ _ (hAd _ _ _ _ _ _ _ _ _ _ _ _ _ _) hS.1) tw_6_24 tw_6_22 tw_6_23 tw_1_0 yd_L_openSpots ⟨(Nat.le_of_ble_eq_true rfl), (Nat.le_of_ble_eq_true rfl)⟩ ⟨show _ + 1 ≤ 601024 by omega, show _ + 6 ≤ 7293034 by omega⟩ rfl hl.1 rfl (Nat.le_of_ble_eq_true rfl) dL_law_1294 (fun H locs hP hS => ?_)
  refine lv_istore (lv' := [(5, .int v2), (0, .ref b), (1, .ref (adh 0)), (2, .ref (adx 0)), (3, .ref (adu 0)), (4, .int x4)]) hx hb dL_law_1297 hl (by decide) rfl (fun ls hl => ?_)
  refine lv_aload_n hx hb dL_law_1299 rfl (lv_at hl 3 rfl) ?_
  refine lv_aload_n hx hb dL_law_1300 rfl (lv_at hl 1 rfl) ?_
  refine lv_iload hx hb dL_law_1301 (lv_at hl 5 rfl) ?_
  refine lv_iconst (v := (1 : Int32)) hx hb dL_law_1303 (by decide) ?_
  refine lv_iadd hx hb dL_law_1304 ?_
  obtain ⟨h5, hD⟩ := gd_el hD
  refine va_sld hx hb hX hbl hbA hS h5 dL_law_1305 ?_
  obtain ⟨v6, m7, z8, hD⟩ := b2_el hD
  refine lrV (Wf := fun z => Wf h m f c0 c1 z m3) (mm := x) (As := [.int (xs (x4 + (1 : Int32)).toNatClampNeg)]) (rest := []) Fx0 (c_X10_openSpots l (Wf := fun z0_ => Wf h m f c0 c1 z0_ m3) (hLx h m f c0 c1 m3) (fun a0_ b0_ => hAd h h m m f f c0 c0 c1 c1 a0_ b0_ m3 m3) x (xs (x4 + (1 : Int32)).toNatClampNeg) z8) hP (hD1 _ (hAd _ _ _ _ _ _ _ _ _ _ _ _ _ _)) hS (hA1 _ _ (hAd _ _ _ _ _ _ _ _ _ _ _ _ _ _) hS.1) (hLx h m f c0 c1 m3) (Nat.le_of_ble_eq_true rfl) (xs0 _ _) rfl tw_8_87 tw_8_84 tw_8_85 tw_8_86 tw_1_13 yd_X10_openSpots ⟨(Nat.le_of_ble_eq_true rfl), (Nat.le_of_ble_eq_true rfl)⟩ ⟨show _ ≤ 601024 by omega, show _ ≤ 7293034 by omega⟩ rfl hl.1 rfl (Nat.le_of_ble_eq_true rfl) dL_law_1306 (fun H locs hP hS => ?_)
  refine lv_istore (lv' := [(6, .int v6), (5, .int v2), (0, .ref b), (1, .ref (adh 0)), (2, .ref (adx 0)), (3, .ref (adu 0)), (4, .int x4)]) hx hb dL_law_1309 hl (by decide) rfl (fun ls hl => ?_)
  refine lv_aload_n hx hb dL_law_1311 rfl (lv_at hl 4 rfl) ?_
  obtain ⟨v9, z10, hD⟩ := b1_el hD
  refine lrV (Wf := fun z => Wf h m f c0 c1 z m3) (mm := m7) (As := []) (rest := []) Fx0 (c_X10_thrown l (Wf := fun z0_ => Wf h m f c0 c1 z0_ m3) (hLx h m f c0 c1 m3) (fun a0_ b0_ => hAd h h m m f f c0 c0 c1 c1 a0_ b0_ m3 m3) m7 z10) hP (hD1 _ (hAd _ _ _ _ _ _ _ _ _ _ _ _ _ _)) hS (hA1 _ _ (hAd _ _ _ _ _ _ _ _ _ _ _ _ _ _) hS.1) (hLx h m f c0 c1 m3) (Nat.le_of_ble_eq_true rfl) (xs0 _ _) rfl tw_7_30 tw_7_27 tw_7_28 tw_7_29 tw_1_13 yd_X10_thrown ⟨(Nat.le_of_ble_eq_true rfl), (Nat.le_of_ble_eq_true rfl)⟩ ⟨show _ ≤ 601024 by omega, show _ ≤ 7293034 by omega⟩ rfl hl.1 rfl (Nat.le_of_ble_eq_true rfl) dL_law_1312 (fun H locs hP hS => ?_)
  refine lv_iload hx hb dL_law_1315 (lv_at hl 1 rfl) ?_
  refine lv_icmp_eq (tgt := 1322) hx hb dL_law_1317 (by decide) (fun c => ?_) (fun c => ?_)
  · have hD := ifp hD c
    refine lv_iload hx hb dL_law_1322 (lv_at hl 1 rfl) ?_
    refine lv_if_ne (tgt := 1339) hx hb dL_law_1324 (by decide) (fun c => ?_) (fun c => ?_)
    · have hD := ifn hD c
      refine lv_goto (tgt := 2964) hx hb dL_law_1339 (by decide) ?_
      obtain ⟨v11, ev11, hD⟩ := bnd_el hD
      refine lv_iinc (v := v11) (lv' := [(4, .int v11), (6, .int v6), (5, .int v2), (0, .ref b), (1, .ref (adh 0)), (2, .ref (adx 0)), (3, .ref (adu 0))]) hx hb dL_law_2964 hl (k := 6) rfl (by rw [ev11]; rfl) (by decide) rfl (fun ls hl => ?_)
      refine lv_goto (tgt := 23) hx hb dL_law_2967 (by decide) ?_
      exact hk v11 h m f c0 c1 m7 m3 _ _ _ _ _ hD (show _ + n ≤ 601024 by omega) (show _ + 6 * n ≤ 7293034 by omega) hP hS (lv_sub hl [3, 4, 5, 6, 0] rfl)
    · have hD := ifp hD c
      refine lv_aload_n hx hb dL_law_1327 rfl (lv_at hl 5 rfl) ?_
      refine lv_iconst (v := (0 : Int32)) hx hb dL_law_1328 (by decide) ?_
      refine rlald (Wf := fun z => Wf h m f c0 c1 m7 z) (mm := m3) hx hb hK hP (hLu h m f c0 c1 m7) 0 (Nat.le_of_ble_eq_true rfl) (us0 _ _) (by decide) (j := 0) (by decide) dL_law_1329 ?_
      refine lv_iload hx hb dL_law_1330 (lv_at hl 0 rfl) ?_
      refine lv_i2l (v := v6.toInt64) hx hb dL_law_1332 rfl ?_
      refine rlc_eq (tgt := 1339) hx hb dL_law_1333 dL_law_1334 (by decide) (fun c => ?_) (fun c => ?_)
      · have hD := ifp hD c
        refine lv_goto (tgt := 2964) hx hb dL_law_1339 (by decide) ?_
        obtain ⟨v12, ev12, hD⟩ := bnd_el hD
        refine lv_iinc (v := v12) (lv' := [(4, .int v12), (6, .int v6), (5, .int v2), (0, .ref b), (1, .ref (adh 0)), (2, .ref (adx 0)), (3, .ref (adu 0))]) hx hb dL_law_2964 hl (k := 6) rfl (by rw [ev12]; rfl) (by decide) rfl (fun ls hl => ?_)
        refine lv_goto (tgt := 23) hx hb dL_law_2967 (by decide) ?_
        exact hk v12 h m f c0 c1 m7 m3 _ _ _ _ _ hD (show _ + n ≤ 601024 by omega) (show _ + 6 * n ≤ 7293034 by omega) hP hS (lv_sub hl [3, 4, 5, 6, 0] rfl)
      · have hD := ifn hD c
        refine lv_iconst (v := (0 : Int32)) hx hb dL_law_1337 (by decide) ?_
        exact nn_el hD
  · have hD := ifn hD c
    refine lv_iconst (v := (0 : Int32)) hx hb dL_law_1320 (by decide) ?_
    exact nn_el hD
noncomputable def D_L_law_1342 (L : Nat) (xs : Nat → Int32) (k : LKont) (x4 : Int32) (h : MM) (m : MM) (f : MM) (c0 : MM) (c1 : MM) (x : MM) (u : MM) : Option Unit := if (x4 + (1 : Int32)) < 0 ∨ L ≤ (x4 + (1 : Int32)).toNatClampNeg then none else (if (x4 + (2 : Int32)) < 0 ∨ L ≤ (x4 + (2 : Int32)).toNatClampNeg then none else (b3 (D_L_addBefore (xs (x4 + (1 : Int32)).toNatClampNeg) (xs (x4 + (2 : Int32)).toNatClampNeg) h m u) (fun v3 m4 m5 => if (x4 + (1 : Int32)) < 0 ∨ L ≤ (x4 + (1 : Int32)).toNatClampNeg then none else (if (x4 + (2 : Int32)) < 0 ∨ L ≤ (x4 + (2 : Int32)).toNatClampNeg then none else (b2 (D_X10_addBefore (xs (x4 + (1 : Int32)).toNatClampNeg) (xs (x4 + (2 : Int32)).toNatClampNeg) x) (fun v9 m10 => b1 (D_X10_thrown m10) (fun v12 => if v12 = v3 then (if v3 = 0 then (if (gl m5 0 0) = v9.toInt64 then (bnd (x4 + (3 : Int32)) (fun v15 => k v15 h m4 f c0 c1 m10 m5)) else (none)) else (bnd (x4 + (3 : Int32)) (fun v14 => k v14 h m4 f c0 c1 m10 m5))) else (none))))))))
set_option maxHeartbeats 4000000 in
set_option maxRecDepth 100000 in
theorem c_L_law_1342 (l : Launch) (hst : l.stackTraces = false) {p : Program} {e : Env} {s : State} {m0 : MethodId} {below : List Frame} {meth : Method} {c : Code} {b L : Nat} {xs : Nat → Int32} {D : va_G} {cs : Nat → ClassId} {A : Nat → Prop} {Q : State → Prop} {adh ad adf ad0 ad1 adx adu ma : Nat → Nat} {Wf : MM → MM → MM → MM → MM → MM → MM → va_W} (hLh : ∀ m f c0 c1 x u : MM, Ln 8 adh (hsh cs adh ma) (fun z => Wf z m f c0 c1 x u)) (hL : ∀ h f c0 c1 x u : MM, Ln 51 ad (msh cs ad) (fun z => Wf h z f c0 c1 x u)) (hLf : ∀ h m c0 c1 x u : MM, Ln 51 adf (msh cs adf) (fun z => Wf h m z c0 c1 x u)) (hL0 : ∀ h m f c1 x u : MM, Ln 51 ad0 (msh cs ad0) (fun z => Wf h m f z c1 x u)) (hL1 : ∀ h m f c0 x u : MM, Ln 51 ad1 (msh cs ad1) (fun z => Wf h m f c0 z x u)) (hLx : ∀ h m f c0 c1 u : MM, Ln 9 adx (xsh cs adx) (fun z => Wf h m f c0 c1 z u)) (hLu : ∀ h m f c0 c1 x : MM, Ln 1 adu (ush cs) (fun z => Wf h m f c0 c1 x z)) (hAd : ∀ a0_ b0_ a1_ b1_ a2_ b2_ a3_ b3_ a4_ b4_ a5_ b5_ a6_ b6_ : MM, (Wf a0_ a1_ a2_ a3_ a4_ a5_ a6_).map (fun q => q.1) = (Wf b0_ b1_ b2_ b3_ b4_ b5_ b6_).map (fun q => q.1)) (hm1 : ma 1 = ad 24) (hm2 : ma 2 = adf 24) (hm3 : ma 3 = ad0 24) (hm4 : ma 4 = ad1 24) (hLX : LX p s m0 c b L xs D cs A (Wf zMM zMM zMM zMM zMM zMM zMM)) (n : Nat) (k : LKont) (hk : LK p l e s m0 below meth c b D A Q adh adx adu Wf n k) (x4 : Int32) (h : MM) (m : MM) (f : MM) (c0 : MM) (c1 : MM) (x : MM) (u : MM) (cells slots : Nat) (H : Heap) (locs : List Loc) (ls : Array Slot) (hD : D_L_law_1342 L xs k x4 h m f c0 c1 x u = some ()) (hcl : cells + (n + 1) ≤ 601024) (hsl : slots + 6 * (n + 1) ≤ 7293034) (hP : va_P D vwCl (Wf h m f c0 c1 x u) H) (hS : va_S A s.heap H locs) (hl : lv_has ls 8 [(0, .ref b), (1, .ref (adh 0)), (2, .ref (adx 0)), (3, .ref (adu 0)), (4, .int x4)]) : W p l e room_1 s m0 #[Value.ref b] below meth c H locs cells slots Q (F0 m0 1342 ls []) := by
  obtain ⟨hx, hb, hml, hown, hK, hT⟩ := hLX.rest
  obtain ⟨Fx0, hX, hbl, hbA, hD1, hA1⟩ := hLX
  unfold D_L_law_1342 at hD
  refine lv_aload_n hx hb dL_law_1342 rfl (lv_at hl 1 rfl) ?_
  refine lv_aload_n hx hb dL_law_1343 rfl (lv_at hl 0 rfl) ?_
  refine lv_iload hx hb dL_law_1344 (lv_at hl 4 rfl) ?_
  refine lv_iconst (v := (1 : Int32)) hx hb dL_law_1346 (by decide) ?_
  refine lv_iadd hx hb dL_law_1347 ?_
  obtain ⟨h1, hD⟩ := gd_el hD
  refine va_sld hx hb hX hbl hbA hS h1 dL_law_1348 ?_
  refine lv_aload_n hx hb dL_law_1349 rfl (lv_at hl 0 rfl) ?_
  refine lv_iload hx hb dL_law_1350 (lv_at hl 4 rfl) ?_
  refine lv_iconst (v := (2 : Int32)) hx hb dL_law_1352 (by decide) ?_
  refine lv_iadd hx hb dL_law_1353 ?_
  obtain ⟨h2, hD⟩ := gd_el hD
  refine va_sld hx hb hX hbl hbA hS h2 dL_law_1354 ?_
  refine lv_aload_n hx hb dL_law_1355 rfl (lv_at hl 3 rfl) ?_
  obtain ⟨v3, m4, m5, z6, hD⟩ := b3_el hD
  refine lrL (As := [.ref (adh 0), .int (xs (x4 + (1 : Int32)).toNatClampNeg), .int (xs (x4 + (2 : Int32)).toNatClampNeg), .ref (adu 0)]) (rest := []) Fx0 (c_L_addBefore l hst (Wf := fun z0_ z1_ z2_ => Wf z0_ z1_ f c0 c1 x z2_) (fun z1_ z2_ => hLh z1_ f c0 c1 x z2_) (fun z0_ z2_ => hL z0_ f c0 c1 x z2_) (fun z0_ z1_ => hLu z0_ z1_ f c0 c1 x) (fun a0_ b0_ a1_ b1_ a2_ b2_ => hAd a0_ b0_ a1_ b1_ f f c0 c0 c1 c1 x x a2_ b2_) hm1 h m u (xs (x4 + (1 : Int32)).toNatClampNeg) (xs (x4 + (2 : Int32)).toNatClampNeg) z6) hP (hD1 _ (hAd _ _ _ _ _ _ _ _ _ _ _ _ _ _)) hS (hA1 _ _ (hAd _ _ _ _ _ _ _ _ _ _ _ _ _ _) hS.1) tw_6_32 tw_6_30 tw_6_31 tw_1_0 yd_L_addBefore ⟨(Nat.le_of_ble_eq_true rfl), (Nat.le_of_ble_eq_true rfl)⟩ ⟨show _ + 1 ≤ 601024 by omega, show _ + 6 ≤ 7293034 by omega⟩ rfl hl.1 rfl (Nat.le_of_ble_eq_true rfl) dL_law_1356 (fun H locs hP hS => ?_)
  refine lv_istore (lv' := [(5, .int v3), (0, .ref b), (1, .ref (adh 0)), (2, .ref (adx 0)), (3, .ref (adu 0)), (4, .int x4)]) hx hb dL_law_1359 hl (by decide) rfl (fun ls hl => ?_)
  refine lv_aload_n hx hb dL_law_1361 rfl (lv_at hl 3 rfl) ?_
  refine lv_aload_n hx hb dL_law_1362 rfl (lv_at hl 1 rfl) ?_
  refine lv_iload hx hb dL_law_1363 (lv_at hl 5 rfl) ?_
  refine lv_iconst (v := (1 : Int32)) hx hb dL_law_1365 (by decide) ?_
  refine lv_iadd hx hb dL_law_1366 ?_
  obtain ⟨h7, hD⟩ := gd_el hD
  refine va_sld hx hb hX hbl hbA hS h7 dL_law_1367 ?_
  refine lv_aload_n hx hb dL_law_1368 rfl (lv_at hl 1 rfl) ?_
  refine lv_iload hx hb dL_law_1369 (lv_at hl 5 rfl) ?_
  refine lv_iconst (v := (2 : Int32)) hx hb dL_law_1371 (by decide) ?_
  refine lv_iadd hx hb dL_law_1372 ?_
  obtain ⟨h8, hD⟩ := gd_el hD
  refine va_sld hx hb hX hbl hbA hS h8 dL_law_1373 ?_
  obtain ⟨v9, m10, z11, hD⟩ := b2_el hD
  refine lrV (Wf := fun z => Wf h m4 f c0 c1 z m5) (mm := x) (As := [.int (xs (x4 + (1 : Int32)).toNatClampNeg), .int (xs (x4 + (2 : Int32)).toNatClampNeg)]) (rest := []) Fx0 (c_X10_addBefore l (Wf := fun z0_ => Wf h m4 f c0 c1 z0_ m5) (hLx h m4 f c0 c1 m5) (fun a0_ b0_ => hAd h h m4 m4 f f c0 c0 c1 c1 a0_ b0_ m5 m5) x (xs (x4 + (1 : Int32)).toNatClampNeg) (xs (x4 + (2 : Int32)).toNatClampNeg) z11) hP (hD1 _ (hAd _ _ _ _ _ _ _ _ _ _ _ _ _ _)) hS (hA1 _ _ (hAd _ _ _ _ _ _ _ _ _ _ _ _ _ _) hS.1) (hLx h m4 f c0 c1 m5) (Nat.le_of_ble_eq_true rfl) (xs0 _ _) rfl tw_8_54 tw_8_51 tw_8_52 tw_8_53 tw_1_13 yd_X10_addBefore ⟨(Nat.le_of_ble_eq_true rfl), (Nat.le_of_ble_eq_true rfl)⟩ ⟨show _ ≤ 601024 by omega, show _ ≤ 7293034 by omega⟩ rfl hl.1 rfl (Nat.le_of_ble_eq_true rfl) dL_law_1374 (fun H locs hP hS => ?_)
  refine lv_istore (lv' := [(6, .int v9), (5, .int v3), (0, .ref b), (1, .ref (adh 0)), (2, .ref (adx 0)), (3, .ref (adu 0)), (4, .int x4)]) hx hb dL_law_1377 hl (by decide) rfl (fun ls hl => ?_)
  refine lv_aload_n hx hb dL_law_1379 rfl (lv_at hl 4 rfl) ?_
  obtain ⟨v12, z13, hD⟩ := b1_el hD
  refine lrV (Wf := fun z => Wf h m4 f c0 c1 z m5) (mm := m10) (As := []) (rest := []) Fx0 (c_X10_thrown l (Wf := fun z0_ => Wf h m4 f c0 c1 z0_ m5) (hLx h m4 f c0 c1 m5) (fun a0_ b0_ => hAd h h m4 m4 f f c0 c0 c1 c1 a0_ b0_ m5 m5) m10 z13) hP (hD1 _ (hAd _ _ _ _ _ _ _ _ _ _ _ _ _ _)) hS (hA1 _ _ (hAd _ _ _ _ _ _ _ _ _ _ _ _ _ _) hS.1) (hLx h m4 f c0 c1 m5) (Nat.le_of_ble_eq_true rfl) (xs0 _ _) rfl tw_7_30 tw_7_27 tw_7_28 tw_7_29 tw_1_13 yd_X10_thrown ⟨(Nat.le_of_ble_eq_true rfl), (Nat.le_of_ble_eq_true rfl)⟩ ⟨show _ ≤ 601024 by omega, show _ ≤ 7293034 by omega⟩ rfl hl.1 rfl (Nat.le_of_ble_eq_true rfl) dL_law_1380 (fun H locs hP hS => ?_)
  refine lv_iload hx hb dL_law_1383 (lv_at hl 1 rfl) ?_
  refine lv_icmp_eq (tgt := 1390) hx hb dL_law_1385 (by decide) (fun c => ?_) (fun c => ?_)
  · have hD := ifp hD c
    refine lv_iload hx hb dL_law_1390 (lv_at hl 1 rfl) ?_
    refine lv_if_ne (tgt := 1407) hx hb dL_law_1392 (by decide) (fun c => ?_) (fun c => ?_)
    · have hD := ifn hD c
      refine lv_goto (tgt := 2964) hx hb dL_law_1407 (by decide) ?_
      obtain ⟨v14, ev14, hD⟩ := bnd_el hD
      refine lv_iinc (v := v14) (lv' := [(4, .int v14), (6, .int v9), (5, .int v3), (0, .ref b), (1, .ref (adh 0)), (2, .ref (adx 0)), (3, .ref (adu 0))]) hx hb dL_law_2964 hl (k := 6) rfl (by rw [ev14]; rfl) (by decide) rfl (fun ls hl => ?_)
      refine lv_goto (tgt := 23) hx hb dL_law_2967 (by decide) ?_
      exact hk v14 h m4 f c0 c1 m10 m5 _ _ _ _ _ hD (show _ + n ≤ 601024 by omega) (show _ + 6 * n ≤ 7293034 by omega) hP hS (lv_sub hl [3, 4, 5, 6, 0] rfl)
    · have hD := ifp hD c
      refine lv_aload_n hx hb dL_law_1395 rfl (lv_at hl 5 rfl) ?_
      refine lv_iconst (v := (0 : Int32)) hx hb dL_law_1396 (by decide) ?_
      refine rlald (Wf := fun z => Wf h m4 f c0 c1 m10 z) (mm := m5) hx hb hK hP (hLu h m4 f c0 c1 m10) 0 (Nat.le_of_ble_eq_true rfl) (us0 _ _) (by decide) (j := 0) (by decide) dL_law_1397 ?_
      refine lv_iload hx hb dL_law_1398 (lv_at hl 0 rfl) ?_
      refine lv_i2l (v := v9.toInt64) hx hb dL_law_1400 rfl ?_
      refine rlc_eq (tgt := 1407) hx hb dL_law_1401 dL_law_1402 (by decide) (fun c => ?_) (fun c => ?_)
      · have hD := ifp hD c
        refine lv_goto (tgt := 2964) hx hb dL_law_1407 (by decide) ?_
        obtain ⟨v15, ev15, hD⟩ := bnd_el hD
        refine lv_iinc (v := v15) (lv' := [(4, .int v15), (6, .int v9), (5, .int v3), (0, .ref b), (1, .ref (adh 0)), (2, .ref (adx 0)), (3, .ref (adu 0))]) hx hb dL_law_2964 hl (k := 6) rfl (by rw [ev15]; rfl) (by decide) rfl (fun ls hl => ?_)
        refine lv_goto (tgt := 23) hx hb dL_law_2967 (by decide) ?_
        exact hk v15 h m4 f c0 c1 m10 m5 _ _ _ _ _ hD (show _ + n ≤ 601024 by omega) (show _ + 6 * n ≤ 7293034 by omega) hP hS (lv_sub hl [3, 4, 5, 6, 0] rfl)
      · have hD := ifn hD c
        refine lv_iconst (v := (0 : Int32)) hx hb dL_law_1405 (by decide) ?_
        exact nn_el hD
  · have hD := ifn hD c
    refine lv_iconst (v := (0 : Int32)) hx hb dL_law_1388 (by decide) ?_
    exact nn_el hD
noncomputable def D_L_law_1410 (L : Nat) (xs : Nat → Int32) (k : LKont) (x4 : Int32) (h : MM) (m : MM) (f : MM) (c0 : MM) (c1 : MM) (x : MM) (u : MM) : Option Unit := if (x4 + (1 : Int32)) < 0 ∨ L ≤ (x4 + (1 : Int32)).toNatClampNeg then none else (if (x4 + (2 : Int32)) < 0 ∨ L ≤ (x4 + (2 : Int32)).toNatClampNeg then none else (b3 (D_L_dropBefore (xs (x4 + (1 : Int32)).toNatClampNeg) (xs (x4 + (2 : Int32)).toNatClampNeg) h m u) (fun v3 m4 m5 => if (x4 + (1 : Int32)) < 0 ∨ L ≤ (x4 + (1 : Int32)).toNatClampNeg then none else (if (x4 + (2 : Int32)) < 0 ∨ L ≤ (x4 + (2 : Int32)).toNatClampNeg then none else (b2 (D_X10_dropBefore (xs (x4 + (1 : Int32)).toNatClampNeg) (xs (x4 + (2 : Int32)).toNatClampNeg) x) (fun v9 m10 => b1 (D_X10_thrown m10) (fun v12 => if v12 = v3 then (if v3 = 0 then (if v9 = 0 then (if (gl m5 0 0) = (0 : Int64) then (bnd (x4 + (3 : Int32)) (fun v15 => k v15 h m4 f c0 c1 m10 m5)) else (none)) else (if (gl m5 0 0) = (1 : Int64) then (bnd (x4 + (3 : Int32)) (fun v16 => k v16 h m4 f c0 c1 m10 m5)) else (none))) else (bnd (x4 + (3 : Int32)) (fun v14 => k v14 h m4 f c0 c1 m10 m5))) else (none))))))))
set_option maxHeartbeats 4000000 in
set_option maxRecDepth 100000 in
theorem c_L_law_1410 (l : Launch) (hst : l.stackTraces = false) {p : Program} {e : Env} {s : State} {m0 : MethodId} {below : List Frame} {meth : Method} {c : Code} {b L : Nat} {xs : Nat → Int32} {D : va_G} {cs : Nat → ClassId} {A : Nat → Prop} {Q : State → Prop} {adh ad adf ad0 ad1 adx adu ma : Nat → Nat} {Wf : MM → MM → MM → MM → MM → MM → MM → va_W} (hLh : ∀ m f c0 c1 x u : MM, Ln 8 adh (hsh cs adh ma) (fun z => Wf z m f c0 c1 x u)) (hL : ∀ h f c0 c1 x u : MM, Ln 51 ad (msh cs ad) (fun z => Wf h z f c0 c1 x u)) (hLf : ∀ h m c0 c1 x u : MM, Ln 51 adf (msh cs adf) (fun z => Wf h m z c0 c1 x u)) (hL0 : ∀ h m f c1 x u : MM, Ln 51 ad0 (msh cs ad0) (fun z => Wf h m f z c1 x u)) (hL1 : ∀ h m f c0 x u : MM, Ln 51 ad1 (msh cs ad1) (fun z => Wf h m f c0 z x u)) (hLx : ∀ h m f c0 c1 u : MM, Ln 9 adx (xsh cs adx) (fun z => Wf h m f c0 c1 z u)) (hLu : ∀ h m f c0 c1 x : MM, Ln 1 adu (ush cs) (fun z => Wf h m f c0 c1 x z)) (hAd : ∀ a0_ b0_ a1_ b1_ a2_ b2_ a3_ b3_ a4_ b4_ a5_ b5_ a6_ b6_ : MM, (Wf a0_ a1_ a2_ a3_ a4_ a5_ a6_).map (fun q => q.1) = (Wf b0_ b1_ b2_ b3_ b4_ b5_ b6_).map (fun q => q.1)) (hm1 : ma 1 = ad 24) (hm2 : ma 2 = adf 24) (hm3 : ma 3 = ad0 24) (hm4 : ma 4 = ad1 24) (hLX : LX p s m0 c b L xs D cs A (Wf zMM zMM zMM zMM zMM zMM zMM)) (n : Nat) (k : LKont) (hk : LK p l e s m0 below meth c b D A Q adh adx adu Wf n k) (x4 : Int32) (h : MM) (m : MM) (f : MM) (c0 : MM) (c1 : MM) (x : MM) (u : MM) (cells slots : Nat) (H : Heap) (locs : List Loc) (ls : Array Slot) (hD : D_L_law_1410 L xs k x4 h m f c0 c1 x u = some ()) (hcl : cells + (n + 1) ≤ 601024) (hsl : slots + 6 * (n + 1) ≤ 7293034) (hP : va_P D vwCl (Wf h m f c0 c1 x u) H) (hS : va_S A s.heap H locs) (hl : lv_has ls 8 [(0, .ref b), (1, .ref (adh 0)), (2, .ref (adx 0)), (3, .ref (adu 0)), (4, .int x4)]) : W p l e room_1 s m0 #[Value.ref b] below meth c H locs cells slots Q (F0 m0 1410 ls []) := by
  obtain ⟨hx, hb, hml, hown, hK, hT⟩ := hLX.rest
  obtain ⟨Fx0, hX, hbl, hbA, hD1, hA1⟩ := hLX
  unfold D_L_law_1410 at hD
  refine lv_aload_n hx hb dL_law_1410 rfl (lv_at hl 1 rfl) ?_
  refine lv_aload_n hx hb dL_law_1411 rfl (lv_at hl 0 rfl) ?_
  refine lv_iload hx hb dL_law_1412 (lv_at hl 4 rfl) ?_
  refine lv_iconst (v := (1 : Int32)) hx hb dL_law_1414 (by decide) ?_
  refine lv_iadd hx hb dL_law_1415 ?_
  obtain ⟨h1, hD⟩ := gd_el hD
  refine va_sld hx hb hX hbl hbA hS h1 dL_law_1416 ?_
  refine lv_aload_n hx hb dL_law_1417 rfl (lv_at hl 0 rfl) ?_
  refine lv_iload hx hb dL_law_1418 (lv_at hl 4 rfl) ?_
  refine lv_iconst (v := (2 : Int32)) hx hb dL_law_1420 (by decide) ?_
  refine lv_iadd hx hb dL_law_1421 ?_
  obtain ⟨h2, hD⟩ := gd_el hD
  refine va_sld hx hb hX hbl hbA hS h2 dL_law_1422 ?_
  refine lv_aload_n hx hb dL_law_1423 rfl (lv_at hl 3 rfl) ?_
  obtain ⟨v3, m4, m5, z6, hD⟩ := b3_el hD
  refine lrL (As := [.ref (adh 0), .int (xs (x4 + (1 : Int32)).toNatClampNeg), .int (xs (x4 + (2 : Int32)).toNatClampNeg), .ref (adu 0)]) (rest := []) Fx0 (c_L_dropBefore l hst (Wf := fun z0_ z1_ z2_ => Wf z0_ z1_ f c0 c1 x z2_) (fun z1_ z2_ => hLh z1_ f c0 c1 x z2_) (fun z0_ z2_ => hL z0_ f c0 c1 x z2_) (fun z0_ z1_ => hLu z0_ z1_ f c0 c1 x) (fun a0_ b0_ a1_ b1_ a2_ b2_ => hAd a0_ b0_ a1_ b1_ f f c0 c0 c1 c1 x x a2_ b2_) hm1 h m u (xs (x4 + (1 : Int32)).toNatClampNeg) (xs (x4 + (2 : Int32)).toNatClampNeg) z6) hP (hD1 _ (hAd _ _ _ _ _ _ _ _ _ _ _ _ _ _)) hS (hA1 _ _ (hAd _ _ _ _ _ _ _ _ _ _ _ _ _ _) hS.1) tw_6_42 tw_6_40 tw_6_41 tw_1_0 yd_L_dropBefore ⟨(Nat.le_of_ble_eq_true rfl), (Nat.le_of_ble_eq_true rfl)⟩ ⟨show _ + 1 ≤ 601024 by omega, show _ + 6 ≤ 7293034 by omega⟩ rfl hl.1 rfl (Nat.le_of_ble_eq_true rfl) dL_law_1424 (fun H locs hP hS => ?_)
  refine lv_istore (lv' := [(5, .int v3), (0, .ref b), (1, .ref (adh 0)), (2, .ref (adx 0)), (3, .ref (adu 0)), (4, .int x4)]) hx hb dL_law_1427 hl (by decide) rfl (fun ls hl => ?_)
  refine lv_aload_n hx hb dL_law_1429 rfl (lv_at hl 3 rfl) ?_
  refine lv_aload_n hx hb dL_law_1430 rfl (lv_at hl 1 rfl) ?_
  refine lv_iload hx hb dL_law_1431 (lv_at hl 5 rfl) ?_
  refine lv_iconst (v := (1 : Int32)) hx hb dL_law_1433 (by decide) ?_
  refine lv_iadd hx hb dL_law_1434 ?_
  obtain ⟨h7, hD⟩ := gd_el hD
  refine va_sld hx hb hX hbl hbA hS h7 dL_law_1435 ?_
  refine lv_aload_n hx hb dL_law_1436 rfl (lv_at hl 1 rfl) ?_
  refine lv_iload hx hb dL_law_1437 (lv_at hl 5 rfl) ?_
  refine lv_iconst (v := (2 : Int32)) hx hb dL_law_1439 (by decide) ?_
  refine lv_iadd hx hb dL_law_1440 ?_
  obtain ⟨h8, hD⟩ := gd_el hD
  refine va_sld hx hb hX hbl hbA hS h8 dL_law_1441 ?_
  obtain ⟨v9, m10, z11, hD⟩ := b2_el hD
  refine lrV (Wf := fun z => Wf h m4 f c0 c1 z m5) (mm := x) (As := [.int (xs (x4 + (1 : Int32)).toNatClampNeg), .int (xs (x4 + (2 : Int32)).toNatClampNeg)]) (rest := []) Fx0 (c_X10_dropBefore l (Wf := fun z0_ => Wf h m4 f c0 c1 z0_ m5) (hLx h m4 f c0 c1 m5) (fun a0_ b0_ => hAd h h m4 m4 f f c0 c0 c1 c1 a0_ b0_ m5 m5) x (xs (x4 + (1 : Int32)).toNatClampNeg) (xs (x4 + (2 : Int32)).toNatClampNeg) z11) hP (hD1 _ (hAd _ _ _ _ _ _ _ _ _ _ _ _ _ _)) hS (hA1 _ _ (hAd _ _ _ _ _ _ _ _ _ _ _ _ _ _) hS.1) (hLx h m4 f c0 c1 m5) (Nat.le_of_ble_eq_true rfl) (xs0 _ _) rfl tw_8_58 tw_8_55 tw_8_56 tw_8_57 tw_1_13 yd_X10_dropBefore ⟨(Nat.le_of_ble_eq_true rfl), (Nat.le_of_ble_eq_true rfl)⟩ ⟨show _ ≤ 601024 by omega, show _ ≤ 7293034 by omega⟩ rfl hl.1 rfl (Nat.le_of_ble_eq_true rfl) dL_law_1442 (fun H locs hP hS => ?_)
  refine lv_istore (lv' := [(6, .int v9), (5, .int v3), (0, .ref b), (1, .ref (adh 0)), (2, .ref (adx 0)), (3, .ref (adu 0)), (4, .int x4)]) hx hb dL_law_1445 hl (by decide) rfl (fun ls hl => ?_)
  refine lv_aload_n hx hb dL_law_1447 rfl (lv_at hl 4 rfl) ?_
  obtain ⟨v12, z13, hD⟩ := b1_el hD
  refine lrV (Wf := fun z => Wf h m4 f c0 c1 z m5) (mm := m10) (As := []) (rest := []) Fx0 (c_X10_thrown l (Wf := fun z0_ => Wf h m4 f c0 c1 z0_ m5) (hLx h m4 f c0 c1 m5) (fun a0_ b0_ => hAd h h m4 m4 f f c0 c0 c1 c1 a0_ b0_ m5 m5) m10 z13) hP (hD1 _ (hAd _ _ _ _ _ _ _ _ _ _ _ _ _ _)) hS (hA1 _ _ (hAd _ _ _ _ _ _ _ _ _ _ _ _ _ _) hS.1) (hLx h m4 f c0 c1 m5) (Nat.le_of_ble_eq_true rfl) (xs0 _ _) rfl tw_7_30 tw_7_27 tw_7_28 tw_7_29 tw_1_13 yd_X10_thrown ⟨(Nat.le_of_ble_eq_true rfl), (Nat.le_of_ble_eq_true rfl)⟩ ⟨show _ ≤ 601024 by omega, show _ ≤ 7293034 by omega⟩ rfl hl.1 rfl (Nat.le_of_ble_eq_true rfl) dL_law_1448 (fun H locs hP hS => ?_)
  refine lv_iload hx hb dL_law_1451 (lv_at hl 1 rfl) ?_
  refine lv_icmp_eq (tgt := 1458) hx hb dL_law_1453 (by decide) (fun c => ?_) (fun c => ?_)
  · have hD := ifp hD c
    refine lv_iload hx hb dL_law_1458 (lv_at hl 1 rfl) ?_
    refine lv_if_ne (tgt := 1482) hx hb dL_law_1460 (by decide) (fun c => ?_) (fun c => ?_)
    · have hD := ifn hD c
      refine lv_goto (tgt := 2964) hx hb dL_law_1482 (by decide) ?_
      obtain ⟨v14, ev14, hD⟩ := bnd_el hD
      refine lv_iinc (v := v14) (lv' := [(4, .int v14), (6, .int v9), (5, .int v3), (0, .ref b), (1, .ref (adh 0)), (2, .ref (adx 0)), (3, .ref (adu 0))]) hx hb dL_law_2964 hl (k := 6) rfl (by rw [ev14]; rfl) (by decide) rfl (fun ls hl => ?_)
      refine lv_goto (tgt := 23) hx hb dL_law_2967 (by decide) ?_
      exact hk v14 h m4 f c0 c1 m10 m5 _ _ _ _ _ hD (show _ + n ≤ 601024 by omega) (show _ + 6 * n ≤ 7293034 by omega) hP hS (lv_sub hl [3, 4, 5, 6, 0] rfl)
    · have hD := ifp hD c
      refine lv_aload_n hx hb dL_law_1463 rfl (lv_at hl 5 rfl) ?_
      refine lv_iconst (v := (0 : Int32)) hx hb dL_law_1464 (by decide) ?_
      refine rlald (Wf := fun z => Wf h m4 f c0 c1 m10 z) (mm := m5) hx hb hK hP (hLu h m4 f c0 c1 m10) 0 (Nat.le_of_ble_eq_true rfl) (us0 _ _) (by decide) (j := 0) (by decide) dL_law_1465 ?_
      refine lv_iload hx hb dL_law_1466 (lv_at hl 0 rfl) ?_
      refine lv_if_eq (tgt := 1475) hx hb dL_law_1468 (by decide) (fun c => ?_) (fun c => ?_)
      · have hD := ifp hD c
        refine lv_lconst (v := (0 : Int64)) hx hb dL_law_1475 (by decide) ?_
        refine rlc_eq (tgt := 1482) hx hb dL_law_1476 dL_law_1477 (by decide) (fun c => ?_) (fun c => ?_)
        · have hD := ifp hD c
          refine lv_goto (tgt := 2964) hx hb dL_law_1482 (by decide) ?_
          obtain ⟨v15, ev15, hD⟩ := bnd_el hD
          refine lv_iinc (v := v15) (lv' := [(4, .int v15), (6, .int v9), (5, .int v3), (0, .ref b), (1, .ref (adh 0)), (2, .ref (adx 0)), (3, .ref (adu 0))]) hx hb dL_law_2964 hl (k := 6) rfl (by rw [ev15]; rfl) (by decide) rfl (fun ls hl => ?_)
          refine lv_goto (tgt := 23) hx hb dL_law_2967 (by decide) ?_
          exact hk v15 h m4 f c0 c1 m10 m5 _ _ _ _ _ hD (show _ + n ≤ 601024 by omega) (show _ + 6 * n ≤ 7293034 by omega) hP hS (lv_sub hl [3, 4, 5, 6, 0] rfl)
        · have hD := ifn hD c
          refine lv_iconst (v := (0 : Int32)) hx hb dL_law_1480 (by decide) ?_
          exact nn_el hD
      · have hD := ifn hD c
        refine lv_lconst (v := (1 : Int64)) hx hb dL_law_1471 (by decide) ?_
        refine lv_goto (tgt := 1476) hx hb dL_law_1472 (by decide) ?_
        refine rlc_eq (tgt := 1482) hx hb dL_law_1476 dL_law_1477 (by decide) (fun c => ?_) (fun c => ?_)
        · have hD := ifp hD c
          refine lv_goto (tgt := 2964) hx hb dL_law_1482 (by decide) ?_
          obtain ⟨v16, ev16, hD⟩ := bnd_el hD
          refine lv_iinc (v := v16) (lv' := [(4, .int v16), (6, .int v9), (5, .int v3), (0, .ref b), (1, .ref (adh 0)), (2, .ref (adx 0)), (3, .ref (adu 0))]) hx hb dL_law_2964 hl (k := 6) rfl (by rw [ev16]; rfl) (by decide) rfl (fun ls hl => ?_)
          refine lv_goto (tgt := 23) hx hb dL_law_2967 (by decide) ?_
          exact hk v16 h m4 f c0 c1 m10 m5 _ _ _ _ _ hD (show _ + n ≤ 601024 by omega) (show _ + 6 * n ≤ 7293034 by omega) hP hS (lv_sub hl [3, 4, 5, 6, 0] rfl)
        · have hD := ifn hD c
          refine lv_iconst (v := (0 : Int32)) hx hb dL_law_1480 (by decide) ?_
          exact nn_el hD
  · have hD := ifn hD c
    refine lv_iconst (v := (0 : Int32)) hx hb dL_law_1456 (by decide) ?_
    exact nn_el hD
noncomputable def D_L_law_1485 (L : Nat) (xs : Nat → Int32) (k : LKont) (x4 : Int32) (h : MM) (m : MM) (f : MM) (c0 : MM) (c1 : MM) (x : MM) (u : MM) : Option Unit := if (x4 + (1 : Int32)) < 0 ∨ L ≤ (x4 + (1 : Int32)).toNatClampNeg then none else (b2 (D_L_blockedBy (xs (x4 + (1 : Int32)).toNatClampNeg) h m u) (fun v2 m3 => if (x4 + (1 : Int32)) < 0 ∨ L ≤ (x4 + (1 : Int32)).toNatClampNeg then none else (b2 (D_X10_blockedBy (xs (x4 + (1 : Int32)).toNatClampNeg) x) (fun v6 m7 => b1 (D_X10_thrown m7) (fun v9 => if v9 = v2 then (if v2 = 0 then (if (gl m3 0 0) = v6 then (bnd (x4 + (3 : Int32)) (fun v12 => k v12 h m f c0 c1 m7 m3)) else (none)) else (bnd (x4 + (3 : Int32)) (fun v11 => k v11 h m f c0 c1 m7 m3))) else (none))))))
set_option maxHeartbeats 4000000 in
set_option maxRecDepth 100000 in
theorem c_L_law_1485 (l : Launch) (hst : l.stackTraces = false) {p : Program} {e : Env} {s : State} {m0 : MethodId} {below : List Frame} {meth : Method} {c : Code} {b L : Nat} {xs : Nat → Int32} {D : va_G} {cs : Nat → ClassId} {A : Nat → Prop} {Q : State → Prop} {adh ad adf ad0 ad1 adx adu ma : Nat → Nat} {Wf : MM → MM → MM → MM → MM → MM → MM → va_W} (hLh : ∀ m f c0 c1 x u : MM, Ln 8 adh (hsh cs adh ma) (fun z => Wf z m f c0 c1 x u)) (hL : ∀ h f c0 c1 x u : MM, Ln 51 ad (msh cs ad) (fun z => Wf h z f c0 c1 x u)) (hLf : ∀ h m c0 c1 x u : MM, Ln 51 adf (msh cs adf) (fun z => Wf h m z c0 c1 x u)) (hL0 : ∀ h m f c1 x u : MM, Ln 51 ad0 (msh cs ad0) (fun z => Wf h m f z c1 x u)) (hL1 : ∀ h m f c0 x u : MM, Ln 51 ad1 (msh cs ad1) (fun z => Wf h m f c0 z x u)) (hLx : ∀ h m f c0 c1 u : MM, Ln 9 adx (xsh cs adx) (fun z => Wf h m f c0 c1 z u)) (hLu : ∀ h m f c0 c1 x : MM, Ln 1 adu (ush cs) (fun z => Wf h m f c0 c1 x z)) (hAd : ∀ a0_ b0_ a1_ b1_ a2_ b2_ a3_ b3_ a4_ b4_ a5_ b5_ a6_ b6_ : MM, (Wf a0_ a1_ a2_ a3_ a4_ a5_ a6_).map (fun q => q.1) = (Wf b0_ b1_ b2_ b3_ b4_ b5_ b6_).map (fun q => q.1)) (hm1 : ma 1 = ad 24) (hm2 : ma 2 = adf 24) (hm3 : ma 3 = ad0 24) (hm4 : ma 4 = ad1 24) (hLX : LX p s m0 c b L xs D cs A (Wf zMM zMM zMM zMM zMM zMM zMM)) (n : Nat) (k : LKont) (hk : LK p l e s m0 below meth c b D A Q adh adx adu Wf n k) (x4 : Int32) (h : MM) (m : MM) (f : MM) (c0 : MM) (c1 : MM) (x : MM) (u : MM) (cells slots : Nat) (H : Heap) (locs : List Loc) (ls : Array Slot) (hD : D_L_law_1485 L xs k x4 h m f c0 c1 x u = some ()) (hcl : cells + (n + 1) ≤ 601024) (hsl : slots + 6 * (n + 1) ≤ 7293034) (hP : va_P D vwCl (Wf h m f c0 c1 x u) H) (hS : va_S A s.heap H locs) (hl : lv_has ls 8 [(0, .ref b), (1, .ref (adh 0)), (2, .ref (adx 0)), (3, .ref (adu 0)), (4, .int x4)]) : W p l e room_1 s m0 #[Value.ref b] below meth c H locs cells slots Q (F0 m0 1485 ls []) := by
  obtain ⟨hx, hb, hml, hown, hK, hT⟩ := hLX.rest
  obtain ⟨Fx0, hX, hbl, hbA, hD1, hA1⟩ := hLX
  unfold D_L_law_1485 at hD
  refine lv_aload_n hx hb dL_law_1485 rfl (lv_at hl 1 rfl) ?_
  refine lv_aload_n hx hb dL_law_1486 rfl (lv_at hl 0 rfl) ?_
  refine lv_iload hx hb dL_law_1487 (lv_at hl 4 rfl) ?_
  refine lv_iconst (v := (1 : Int32)) hx hb dL_law_1489 (by decide) ?_
  refine lv_iadd hx hb dL_law_1490 ?_
  obtain ⟨h1, hD⟩ := gd_el hD
  refine va_sld hx hb hX hbl hbA hS h1 dL_law_1491 ?_
  refine lv_aload_n hx hb dL_law_1492 rfl (lv_at hl 3 rfl) ?_
  obtain ⟨v2, m3, z4, hD⟩ := b2_el hD
  refine lrL (As := [.ref (adh 0), .int (xs (x4 + (1 : Int32)).toNatClampNeg), .ref (adu 0)]) (rest := []) Fx0 (c_L_blockedBy l hst (Wf := fun z0_ z1_ z2_ => Wf z0_ z1_ f c0 c1 x z2_) (fun z1_ z2_ => hLh z1_ f c0 c1 x z2_) (fun z0_ z2_ => hL z0_ f c0 c1 x z2_) (fun z0_ z1_ => hLu z0_ z1_ f c0 c1 x) (fun a0_ b0_ a1_ b1_ a2_ b2_ => hAd a0_ b0_ a1_ b1_ f f c0 c0 c1 c1 x x a2_ b2_) hm1 h m u (xs (x4 + (1 : Int32)).toNatClampNeg) z4) hP (hD1 _ (hAd _ _ _ _ _ _ _ _ _ _ _ _ _ _)) hS (hA1 _ _ (hAd _ _ _ _ _ _ _ _ _ _ _ _ _ _) hS.1) tw_6_53 tw_6_51 tw_6_52 tw_1_0 yd_L_blockedBy ⟨(Nat.le_of_ble_eq_true rfl), (Nat.le_of_ble_eq_true rfl)⟩ ⟨show _ + 1 ≤ 601024 by omega, show _ + 6 ≤ 7293034 by omega⟩ rfl hl.1 rfl (Nat.le_of_ble_eq_true rfl) dL_law_1493 (fun H locs hP hS => ?_)
  refine lv_istore (lv' := [(5, .int v2), (0, .ref b), (1, .ref (adh 0)), (2, .ref (adx 0)), (3, .ref (adu 0)), (4, .int x4)]) hx hb dL_law_1496 hl (by decide) rfl (fun ls hl => ?_)
  refine lv_aload_n hx hb dL_law_1498 rfl (lv_at hl 3 rfl) ?_
  refine lv_aload_n hx hb dL_law_1499 rfl (lv_at hl 1 rfl) ?_
  refine lv_iload hx hb dL_law_1500 (lv_at hl 5 rfl) ?_
  refine lv_iconst (v := (1 : Int32)) hx hb dL_law_1502 (by decide) ?_
  refine lv_iadd hx hb dL_law_1503 ?_
  obtain ⟨h5, hD⟩ := gd_el hD
  refine va_sld hx hb hX hbl hbA hS h5 dL_law_1504 ?_
  obtain ⟨v6, m7, z8, hD⟩ := b2_el hD
  refine lrV (Wf := fun z => Wf h m f c0 c1 z m3) (mm := x) (As := [.int (xs (x4 + (1 : Int32)).toNatClampNeg)]) (rest := []) Fx0 (c_X10_blockedBy l (Wf := fun z0_ => Wf h m f c0 c1 z0_ m3) (hLx h m f c0 c1 m3) (fun a0_ b0_ => hAd h h m m f f c0 c0 c1 c1 a0_ b0_ m3 m3) x (xs (x4 + (1 : Int32)).toNatClampNeg) z8) hP (hD1 _ (hAd _ _ _ _ _ _ _ _ _ _ _ _ _ _)) hS (hA1 _ _ (hAd _ _ _ _ _ _ _ _ _ _ _ _ _ _) hS.1) (hLx h m f c0 c1 m3) (Nat.le_of_ble_eq_true rfl) (xs0 _ _) rfl tw_8_62 tw_8_59 tw_8_60 tw_8_61 tw_1_13 yd_X10_blockedBy ⟨(Nat.le_of_ble_eq_true rfl), (Nat.le_of_ble_eq_true rfl)⟩ ⟨show _ ≤ 601024 by omega, show _ ≤ 7293034 by omega⟩ rfl hl.1 rfl (Nat.le_of_ble_eq_true rfl) dL_law_1505 (fun H locs hP hS => ?_)
  refine lv_lstore (lv' := [(6, .long v6), (5, .int v2), (0, .ref b), (1, .ref (adh 0)), (2, .ref (adx 0)), (3, .ref (adu 0)), (4, .int x4)]) hx hb dL_law_1508 hl (by decide) rfl (fun ls hl => ?_)
  refine lv_aload_n hx hb dL_law_1510 rfl (lv_at hl 4 rfl) ?_
  obtain ⟨v9, z10, hD⟩ := b1_el hD
  refine lrV (Wf := fun z => Wf h m f c0 c1 z m3) (mm := m7) (As := []) (rest := []) Fx0 (c_X10_thrown l (Wf := fun z0_ => Wf h m f c0 c1 z0_ m3) (hLx h m f c0 c1 m3) (fun a0_ b0_ => hAd h h m m f f c0 c0 c1 c1 a0_ b0_ m3 m3) m7 z10) hP (hD1 _ (hAd _ _ _ _ _ _ _ _ _ _ _ _ _ _)) hS (hA1 _ _ (hAd _ _ _ _ _ _ _ _ _ _ _ _ _ _) hS.1) (hLx h m f c0 c1 m3) (Nat.le_of_ble_eq_true rfl) (xs0 _ _) rfl tw_7_30 tw_7_27 tw_7_28 tw_7_29 tw_1_13 yd_X10_thrown ⟨(Nat.le_of_ble_eq_true rfl), (Nat.le_of_ble_eq_true rfl)⟩ ⟨show _ ≤ 601024 by omega, show _ ≤ 7293034 by omega⟩ rfl hl.1 rfl (Nat.le_of_ble_eq_true rfl) dL_law_1511 (fun H locs hP hS => ?_)
  refine lv_iload hx hb dL_law_1514 (lv_at hl 1 rfl) ?_
  refine lv_icmp_eq (tgt := 1521) hx hb dL_law_1516 (by decide) (fun c => ?_) (fun c => ?_)
  · have hD := ifp hD c
    refine lv_iload hx hb dL_law_1521 (lv_at hl 1 rfl) ?_
    refine lv_if_ne (tgt := 1537) hx hb dL_law_1523 (by decide) (fun c => ?_) (fun c => ?_)
    · have hD := ifn hD c
      refine lv_goto (tgt := 2964) hx hb dL_law_1537 (by decide) ?_
      obtain ⟨v11, ev11, hD⟩ := bnd_el hD
      refine lv_iinc (v := v11) (lv' := [(4, .int v11), (6, .long v6), (5, .int v2), (0, .ref b), (1, .ref (adh 0)), (2, .ref (adx 0)), (3, .ref (adu 0))]) hx hb dL_law_2964 hl (k := 6) rfl (by rw [ev11]; rfl) (by decide) rfl (fun ls hl => ?_)
      refine lv_goto (tgt := 23) hx hb dL_law_2967 (by decide) ?_
      exact hk v11 h m f c0 c1 m7 m3 _ _ _ _ _ hD (show _ + n ≤ 601024 by omega) (show _ + 6 * n ≤ 7293034 by omega) hP hS (lv_sub hl [3, 4, 5, 6, 0] rfl)
    · have hD := ifp hD c
      refine lv_aload_n hx hb dL_law_1526 rfl (lv_at hl 5 rfl) ?_
      refine lv_iconst (v := (0 : Int32)) hx hb dL_law_1527 (by decide) ?_
      refine rlald (Wf := fun z => Wf h m f c0 c1 m7 z) (mm := m3) hx hb hK hP (hLu h m f c0 c1 m7) 0 (Nat.le_of_ble_eq_true rfl) (us0 _ _) (by decide) (j := 0) (by decide) dL_law_1528 ?_
      refine lv_lload hx hb dL_law_1529 (lv_at hl 0 rfl) ?_
      refine rlc_eq (tgt := 1537) hx hb dL_law_1531 dL_law_1532 (by decide) (fun c => ?_) (fun c => ?_)
      · have hD := ifp hD c
        refine lv_goto (tgt := 2964) hx hb dL_law_1537 (by decide) ?_
        obtain ⟨v12, ev12, hD⟩ := bnd_el hD
        refine lv_iinc (v := v12) (lv' := [(4, .int v12), (6, .long v6), (5, .int v2), (0, .ref b), (1, .ref (adh 0)), (2, .ref (adx 0)), (3, .ref (adu 0))]) hx hb dL_law_2964 hl (k := 6) rfl (by rw [ev12]; rfl) (by decide) rfl (fun ls hl => ?_)
        refine lv_goto (tgt := 23) hx hb dL_law_2967 (by decide) ?_
        exact hk v12 h m f c0 c1 m7 m3 _ _ _ _ _ hD (show _ + n ≤ 601024 by omega) (show _ + 6 * n ≤ 7293034 by omega) hP hS (lv_sub hl [3, 4, 5, 6, 0] rfl)
      · have hD := ifn hD c
        refine lv_iconst (v := (0 : Int32)) hx hb dL_law_1535 (by decide) ?_
        exact nn_el hD
  · have hD := ifn hD c
    refine lv_iconst (v := (0 : Int32)) hx hb dL_law_1519 (by decide) ?_
    exact nn_el hD
noncomputable def D_L_law_1540 (L : Nat) (xs : Nat → Int32) (k : LKont) (x4 : Int32) (h : MM) (m : MM) (f : MM) (c0 : MM) (c1 : MM) (x : MM) (u : MM) : Option Unit := if (x4 + (1 : Int32)) < 0 ∨ L ≤ (x4 + (1 : Int32)).toNatClampNeg then none else (b2 (D_L_chain (xs (x4 + (1 : Int32)).toNatClampNeg) h m u) (fun v2 m3 => if (x4 + (1 : Int32)) < 0 ∨ L ≤ (x4 + (1 : Int32)).toNatClampNeg then none else (b2 (D_X10_chain (xs (x4 + (1 : Int32)).toNatClampNeg) x) (fun v6 m7 => b1 (D_X10_thrown m7) (fun v9 => if v9 = v2 then (if v2 = 0 then (if (gl m3 0 0) = v6.toInt64 then (bnd (x4 + (3 : Int32)) (fun v12 => k v12 h m f c0 c1 m7 m3)) else (none)) else (bnd (x4 + (3 : Int32)) (fun v11 => k v11 h m f c0 c1 m7 m3))) else (none))))))
set_option maxHeartbeats 4000000 in
set_option maxRecDepth 100000 in
theorem c_L_law_1540 (l : Launch) (hst : l.stackTraces = false) {p : Program} {e : Env} {s : State} {m0 : MethodId} {below : List Frame} {meth : Method} {c : Code} {b L : Nat} {xs : Nat → Int32} {D : va_G} {cs : Nat → ClassId} {A : Nat → Prop} {Q : State → Prop} {adh ad adf ad0 ad1 adx adu ma : Nat → Nat} {Wf : MM → MM → MM → MM → MM → MM → MM → va_W} (hLh : ∀ m f c0 c1 x u : MM, Ln 8 adh (hsh cs adh ma) (fun z => Wf z m f c0 c1 x u)) (hL : ∀ h f c0 c1 x u : MM, Ln 51 ad (msh cs ad) (fun z => Wf h z f c0 c1 x u)) (hLf : ∀ h m c0 c1 x u : MM, Ln 51 adf (msh cs adf) (fun z => Wf h m z c0 c1 x u)) (hL0 : ∀ h m f c1 x u : MM, Ln 51 ad0 (msh cs ad0) (fun z => Wf h m f z c1 x u)) (hL1 : ∀ h m f c0 x u : MM, Ln 51 ad1 (msh cs ad1) (fun z => Wf h m f c0 z x u)) (hLx : ∀ h m f c0 c1 u : MM, Ln 9 adx (xsh cs adx) (fun z => Wf h m f c0 c1 z u)) (hLu : ∀ h m f c0 c1 x : MM, Ln 1 adu (ush cs) (fun z => Wf h m f c0 c1 x z)) (hAd : ∀ a0_ b0_ a1_ b1_ a2_ b2_ a3_ b3_ a4_ b4_ a5_ b5_ a6_ b6_ : MM, (Wf a0_ a1_ a2_ a3_ a4_ a5_ a6_).map (fun q => q.1) = (Wf b0_ b1_ b2_ b3_ b4_ b5_ b6_).map (fun q => q.1)) (hm1 : ma 1 = ad 24) (hm2 : ma 2 = adf 24) (hm3 : ma 3 = ad0 24) (hm4 : ma 4 = ad1 24) (hLX : LX p s m0 c b L xs D cs A (Wf zMM zMM zMM zMM zMM zMM zMM)) (n : Nat) (k : LKont) (hk : LK p l e s m0 below meth c b D A Q adh adx adu Wf n k) (x4 : Int32) (h : MM) (m : MM) (f : MM) (c0 : MM) (c1 : MM) (x : MM) (u : MM) (cells slots : Nat) (H : Heap) (locs : List Loc) (ls : Array Slot) (hD : D_L_law_1540 L xs k x4 h m f c0 c1 x u = some ()) (hcl : cells + (n + 1) ≤ 601024) (hsl : slots + 6 * (n + 1) ≤ 7293034) (hP : va_P D vwCl (Wf h m f c0 c1 x u) H) (hS : va_S A s.heap H locs) (hl : lv_has ls 8 [(0, .ref b), (1, .ref (adh 0)), (2, .ref (adx 0)), (3, .ref (adu 0)), (4, .int x4)]) : W p l e room_1 s m0 #[Value.ref b] below meth c H locs cells slots Q (F0 m0 1540 ls []) := by
  obtain ⟨hx, hb, hml, hown, hK, hT⟩ := hLX.rest
  obtain ⟨Fx0, hX, hbl, hbA, hD1, hA1⟩ := hLX
  unfold D_L_law_1540 at hD
  refine lv_aload_n hx hb dL_law_1540 rfl (lv_at hl 1 rfl) ?_
  refine lv_aload_n hx hb dL_law_1541 rfl (lv_at hl 0 rfl) ?_
  refine lv_iload hx hb dL_law_1542 (lv_at hl 4 rfl) ?_
  refine lv_iconst (v := (1 : Int32)) hx hb dL_law_1544 (by decide) ?_
  refine lv_iadd hx hb dL_law_1545 ?_
  obtain ⟨h1, hD⟩ := gd_el hD
  refine va_sld hx hb hX hbl hbA hS h1 dL_law_1546 ?_
  refine lv_aload_n hx hb dL_law_1547 rfl (lv_at hl 3 rfl) ?_
  obtain ⟨v2, m3, z4, hD⟩ := b2_el hD
  refine lrL (As := [.ref (adh 0), .int (xs (x4 + (1 : Int32)).toNatClampNeg), .ref (adu 0)]) (rest := []) Fx0 (c_L_chain l hst (Wf := fun z0_ z1_ z2_ => Wf z0_ z1_ f c0 c1 x z2_) (fun z1_ z2_ => hLh z1_ f c0 c1 x z2_) (fun z0_ z2_ => hL z0_ f c0 c1 x z2_) (fun z0_ z1_ => hLu z0_ z1_ f c0 c1 x) (fun a0_ b0_ a1_ b1_ a2_ b2_ => hAd a0_ b0_ a1_ b1_ f f c0 c0 c1 c1 x x a2_ b2_) hm1 h m u (xs (x4 + (1 : Int32)).toNatClampNeg) z4) hP (hD1 _ (hAd _ _ _ _ _ _ _ _ _ _ _ _ _ _)) hS (hA1 _ _ (hAd _ _ _ _ _ _ _ _ _ _ _ _ _ _) hS.1) tw_6_61 tw_6_59 tw_6_60 tw_1_0 yd_L_chain ⟨(Nat.le_of_ble_eq_true rfl), (Nat.le_of_ble_eq_true rfl)⟩ ⟨show _ + 1 ≤ 601024 by omega, show _ + 6 ≤ 7293034 by omega⟩ rfl hl.1 rfl (Nat.le_of_ble_eq_true rfl) dL_law_1548 (fun H locs hP hS => ?_)
  refine lv_istore (lv' := [(5, .int v2), (0, .ref b), (1, .ref (adh 0)), (2, .ref (adx 0)), (3, .ref (adu 0)), (4, .int x4)]) hx hb dL_law_1551 hl (by decide) rfl (fun ls hl => ?_)
  refine lv_aload_n hx hb dL_law_1553 rfl (lv_at hl 3 rfl) ?_
  refine lv_aload_n hx hb dL_law_1554 rfl (lv_at hl 1 rfl) ?_
  refine lv_iload hx hb dL_law_1555 (lv_at hl 5 rfl) ?_
  refine lv_iconst (v := (1 : Int32)) hx hb dL_law_1557 (by decide) ?_
  refine lv_iadd hx hb dL_law_1558 ?_
  obtain ⟨h5, hD⟩ := gd_el hD
  refine va_sld hx hb hX hbl hbA hS h5 dL_law_1559 ?_
  obtain ⟨v6, m7, z8, hD⟩ := b2_el hD
  refine lrV (Wf := fun z => Wf h m f c0 c1 z m3) (mm := x) (As := [.int (xs (x4 + (1 : Int32)).toNatClampNeg)]) (rest := []) Fx0 (c_X10_chain l (Wf := fun z0_ => Wf h m f c0 c1 z0_ m3) (hLx h m f c0 c1 m3) (fun a0_ b0_ => hAd h h m m f f c0 c0 c1 c1 a0_ b0_ m3 m3) x (xs (x4 + (1 : Int32)).toNatClampNeg) z8) hP (hD1 _ (hAd _ _ _ _ _ _ _ _ _ _ _ _ _ _)) hS (hA1 _ _ (hAd _ _ _ _ _ _ _ _ _ _ _ _ _ _) hS.1) (hLx h m f c0 c1 m3) (Nat.le_of_ble_eq_true rfl) (xs0 _ _) rfl tw_8_74 tw_8_71 tw_8_72 tw_8_73 tw_1_13 yd_X10_chain ⟨(Nat.le_of_ble_eq_true rfl), (Nat.le_of_ble_eq_true rfl)⟩ ⟨show _ ≤ 601024 by omega, show _ ≤ 7293034 by omega⟩ rfl hl.1 rfl (Nat.le_of_ble_eq_true rfl) dL_law_1560 (fun H locs hP hS => ?_)
  refine lv_istore (lv' := [(6, .int v6), (5, .int v2), (0, .ref b), (1, .ref (adh 0)), (2, .ref (adx 0)), (3, .ref (adu 0)), (4, .int x4)]) hx hb dL_law_1563 hl (by decide) rfl (fun ls hl => ?_)
  refine lv_aload_n hx hb dL_law_1565 rfl (lv_at hl 4 rfl) ?_
  obtain ⟨v9, z10, hD⟩ := b1_el hD
  refine lrV (Wf := fun z => Wf h m f c0 c1 z m3) (mm := m7) (As := []) (rest := []) Fx0 (c_X10_thrown l (Wf := fun z0_ => Wf h m f c0 c1 z0_ m3) (hLx h m f c0 c1 m3) (fun a0_ b0_ => hAd h h m m f f c0 c0 c1 c1 a0_ b0_ m3 m3) m7 z10) hP (hD1 _ (hAd _ _ _ _ _ _ _ _ _ _ _ _ _ _)) hS (hA1 _ _ (hAd _ _ _ _ _ _ _ _ _ _ _ _ _ _) hS.1) (hLx h m f c0 c1 m3) (Nat.le_of_ble_eq_true rfl) (xs0 _ _) rfl tw_7_30 tw_7_27 tw_7_28 tw_7_29 tw_1_13 yd_X10_thrown ⟨(Nat.le_of_ble_eq_true rfl), (Nat.le_of_ble_eq_true rfl)⟩ ⟨show _ ≤ 601024 by omega, show _ ≤ 7293034 by omega⟩ rfl hl.1 rfl (Nat.le_of_ble_eq_true rfl) dL_law_1566 (fun H locs hP hS => ?_)
  refine lv_iload hx hb dL_law_1569 (lv_at hl 1 rfl) ?_
  refine lv_icmp_eq (tgt := 1576) hx hb dL_law_1571 (by decide) (fun c => ?_) (fun c => ?_)
  · have hD := ifp hD c
    refine lv_iload hx hb dL_law_1576 (lv_at hl 1 rfl) ?_
    refine lv_if_ne (tgt := 1593) hx hb dL_law_1578 (by decide) (fun c => ?_) (fun c => ?_)
    · have hD := ifn hD c
      refine lv_goto (tgt := 2964) hx hb dL_law_1593 (by decide) ?_
      obtain ⟨v11, ev11, hD⟩ := bnd_el hD
      refine lv_iinc (v := v11) (lv' := [(4, .int v11), (6, .int v6), (5, .int v2), (0, .ref b), (1, .ref (adh 0)), (2, .ref (adx 0)), (3, .ref (adu 0))]) hx hb dL_law_2964 hl (k := 6) rfl (by rw [ev11]; rfl) (by decide) rfl (fun ls hl => ?_)
      refine lv_goto (tgt := 23) hx hb dL_law_2967 (by decide) ?_
      exact hk v11 h m f c0 c1 m7 m3 _ _ _ _ _ hD (show _ + n ≤ 601024 by omega) (show _ + 6 * n ≤ 7293034 by omega) hP hS (lv_sub hl [3, 4, 5, 6, 0] rfl)
    · have hD := ifp hD c
      refine lv_aload_n hx hb dL_law_1581 rfl (lv_at hl 5 rfl) ?_
      refine lv_iconst (v := (0 : Int32)) hx hb dL_law_1582 (by decide) ?_
      refine rlald (Wf := fun z => Wf h m f c0 c1 m7 z) (mm := m3) hx hb hK hP (hLu h m f c0 c1 m7) 0 (Nat.le_of_ble_eq_true rfl) (us0 _ _) (by decide) (j := 0) (by decide) dL_law_1583 ?_
      refine lv_iload hx hb dL_law_1584 (lv_at hl 0 rfl) ?_
      refine lv_i2l (v := v6.toInt64) hx hb dL_law_1586 rfl ?_
      refine rlc_eq (tgt := 1593) hx hb dL_law_1587 dL_law_1588 (by decide) (fun c => ?_) (fun c => ?_)
      · have hD := ifp hD c
        refine lv_goto (tgt := 2964) hx hb dL_law_1593 (by decide) ?_
        obtain ⟨v12, ev12, hD⟩ := bnd_el hD
        refine lv_iinc (v := v12) (lv' := [(4, .int v12), (6, .int v6), (5, .int v2), (0, .ref b), (1, .ref (adh 0)), (2, .ref (adx 0)), (3, .ref (adu 0))]) hx hb dL_law_2964 hl (k := 6) rfl (by rw [ev12]; rfl) (by decide) rfl (fun ls hl => ?_)
        refine lv_goto (tgt := 23) hx hb dL_law_2967 (by decide) ?_
        exact hk v12 h m f c0 c1 m7 m3 _ _ _ _ _ hD (show _ + n ≤ 601024 by omega) (show _ + 6 * n ≤ 7293034 by omega) hP hS (lv_sub hl [3, 4, 5, 6, 0] rfl)
      · have hD := ifn hD c
        refine lv_iconst (v := (0 : Int32)) hx hb dL_law_1591 (by decide) ?_
        exact nn_el hD
  · have hD := ifn hD c
    refine lv_iconst (v := (0 : Int32)) hx hb dL_law_1574 (by decide) ?_
    exact nn_el hD
noncomputable def D_L_law_1596 (L : Nat) (xs : Nat → Int32) (k : LKont) (x4 : Int32) (h : MM) (m : MM) (f : MM) (c0 : MM) (c1 : MM) (x : MM) (u : MM) : Option Unit := b1 (D_X9_fillableSet h m) (fun v1 => b2 (D_X10_fillableSet x) (fun v3 m4 => if v1 = v3 then (bnd (x4 + (3 : Int32)) (fun v6 => k v6 h m f c0 c1 m4 u)) else (none)))
set_option maxHeartbeats 4000000 in
set_option maxRecDepth 100000 in
theorem c_L_law_1596 (l : Launch) (hst : l.stackTraces = false) {p : Program} {e : Env} {s : State} {m0 : MethodId} {below : List Frame} {meth : Method} {c : Code} {b L : Nat} {xs : Nat → Int32} {D : va_G} {cs : Nat → ClassId} {A : Nat → Prop} {Q : State → Prop} {adh ad adf ad0 ad1 adx adu ma : Nat → Nat} {Wf : MM → MM → MM → MM → MM → MM → MM → va_W} (hLh : ∀ m f c0 c1 x u : MM, Ln 8 adh (hsh cs adh ma) (fun z => Wf z m f c0 c1 x u)) (hL : ∀ h f c0 c1 x u : MM, Ln 51 ad (msh cs ad) (fun z => Wf h z f c0 c1 x u)) (hLf : ∀ h m c0 c1 x u : MM, Ln 51 adf (msh cs adf) (fun z => Wf h m z c0 c1 x u)) (hL0 : ∀ h m f c1 x u : MM, Ln 51 ad0 (msh cs ad0) (fun z => Wf h m f z c1 x u)) (hL1 : ∀ h m f c0 x u : MM, Ln 51 ad1 (msh cs ad1) (fun z => Wf h m f c0 z x u)) (hLx : ∀ h m f c0 c1 u : MM, Ln 9 adx (xsh cs adx) (fun z => Wf h m f c0 c1 z u)) (hLu : ∀ h m f c0 c1 x : MM, Ln 1 adu (ush cs) (fun z => Wf h m f c0 c1 x z)) (hAd : ∀ a0_ b0_ a1_ b1_ a2_ b2_ a3_ b3_ a4_ b4_ a5_ b5_ a6_ b6_ : MM, (Wf a0_ a1_ a2_ a3_ a4_ a5_ a6_).map (fun q => q.1) = (Wf b0_ b1_ b2_ b3_ b4_ b5_ b6_).map (fun q => q.1)) (hm1 : ma 1 = ad 24) (hm2 : ma 2 = adf 24) (hm3 : ma 3 = ad0 24) (hm4 : ma 4 = ad1 24) (hLX : LX p s m0 c b L xs D cs A (Wf zMM zMM zMM zMM zMM zMM zMM)) (n : Nat) (k : LKont) (hk : LK p l e s m0 below meth c b D A Q adh adx adu Wf n k) (x4 : Int32) (h : MM) (m : MM) (f : MM) (c0 : MM) (c1 : MM) (x : MM) (u : MM) (cells slots : Nat) (H : Heap) (locs : List Loc) (ls : Array Slot) (hD : D_L_law_1596 L xs k x4 h m f c0 c1 x u = some ()) (hcl : cells + (n + 1) ≤ 601024) (hsl : slots + 6 * (n + 1) ≤ 7293034) (hP : va_P D vwCl (Wf h m f c0 c1 x u) H) (hS : va_S A s.heap H locs) (hl : lv_has ls 8 [(0, .ref b), (1, .ref (adh 0)), (2, .ref (adx 0)), (3, .ref (adu 0)), (4, .int x4)]) : W p l e room_1 s m0 #[Value.ref b] below meth c H locs cells slots Q (F0 m0 1596 ls []) := by
  obtain ⟨hx, hb, hml, hown, hK, hT⟩ := hLX.rest
  obtain ⟨Fx0, hX, hbl, hbA, hD1, hA1⟩ := hLX
  unfold D_L_law_1596 at hD
  refine lv_aload_n hx hb dL_law_1596 rfl (lv_at hl 1 rfl) ?_
  obtain ⟨v1, z2, hD⟩ := b1_el hD
  refine lrV (Wf := fun z => Wf z m f c0 c1 x u) (mm := h) (As := []) (rest := []) Fx0 (c_X9_fillableSet l (Wf := fun z0_ z1_ => Wf z0_ z1_ f c0 c1 x u) (fun z1_ => hLh z1_ f c0 c1 x u) (fun z0_ => hL z0_ f c0 c1 x u) (fun a0_ b0_ a1_ b1_ => hAd a0_ b0_ a1_ b1_ f f c0 c0 c1 c1 x x u u) hm1 h m z2) hP (hD1 _ (hAd _ _ _ _ _ _ _ _ _ _ _ _ _ _)) hS (hA1 _ _ (hAd _ _ _ _ _ _ _ _ _ _ _ _ _ _) hS.1) (hLh m f c0 c1 x u) (Nat.le_of_ble_eq_true rfl) (hs0 _ _) rfl tw_4_4 tw_4_1 tw_4_2 tw_4_3 tw_1_1 yd_X9_fillableSet ⟨(Nat.le_of_ble_eq_true rfl), (Nat.le_of_ble_eq_true rfl)⟩ ⟨show _ ≤ 601024 by omega, show _ ≤ 7293034 by omega⟩ rfl hl.1 rfl (Nat.le_of_ble_eq_true rfl) dL_law_1597 (fun H locs hP hS => ?_)
  refine lv_aload_n hx hb dL_law_1600 rfl (lv_at hl 2 rfl) ?_
  obtain ⟨v3, m4, z5, hD⟩ := b2_el hD
  refine lrV (Wf := fun z => Wf h m f c0 c1 z u) (mm := x) (As := []) (rest := [.long v1]) Fx0 (c_X10_fillableSet l (Wf := fun z0_ => Wf h m f c0 c1 z0_ u) (hLx h m f c0 c1 u) (fun a0_ b0_ => hAd h h m m f f c0 c0 c1 c1 a0_ b0_ u u) x z5) hP (hD1 _ (hAd _ _ _ _ _ _ _ _ _ _ _ _ _ _)) hS (hA1 _ _ (hAd _ _ _ _ _ _ _ _ _ _ _ _ _ _) hS.1) (hLx h m f c0 c1 u) (Nat.le_of_ble_eq_true rfl) (xs0 _ _) rfl tw_8_79 tw_8_76 tw_8_77 tw_8_78 tw_1_13 yd_X10_fillableSet ⟨(Nat.le_of_ble_eq_true rfl), (Nat.le_of_ble_eq_true rfl)⟩ ⟨show _ ≤ 601024 by omega, show _ ≤ 7293034 by omega⟩ rfl hl.1 rfl (Nat.le_of_ble_eq_true rfl) dL_law_1601 (fun H locs hP hS => ?_)
  refine rlc_eq (tgt := 2964) hx hb dL_law_1604 dL_law_1605 (by decide) (fun c => ?_) (fun c => ?_)
  · have hD := ifp hD c
    obtain ⟨v6, ev6, hD⟩ := bnd_el hD
    refine lv_iinc (v := v6) (lv' := [(4, .int v6), (0, .ref b), (1, .ref (adh 0)), (2, .ref (adx 0)), (3, .ref (adu 0))]) hx hb dL_law_2964 hl (k := 4) rfl (by rw [ev6]; rfl) (by decide) rfl (fun ls hl => ?_)
    refine lv_goto (tgt := 23) hx hb dL_law_2967 (by decide) ?_
    exact hk v6 h m f c0 c1 m4 u _ _ _ _ _ hD (show _ + n ≤ 601024 by omega) (show _ + 6 * n ≤ 7293034 by omega) hP hS (lv_sub hl [1, 2, 3, 4, 0] rfl)
  · have hD := ifn hD c
    refine lv_iconst (v := (0 : Int32)) hx hb dL_law_1608 (by decide) ?_
    exact nn_el hD
noncomputable def D_L_law_1610 (L : Nat) (xs : Nat → Int32) (k : LKont) (x4 : Int32) (h : MM) (m : MM) (f : MM) (c0 : MM) (c1 : MM) (x : MM) (u : MM) : Option Unit := b1 (D_X9_filledSet h m) (fun v1 => b2 (D_X10_filledSet x) (fun v3 m4 => if v1 = v3 then (bnd (x4 + (3 : Int32)) (fun v6 => k v6 h m f c0 c1 m4 u)) else (none)))
set_option maxHeartbeats 4000000 in
set_option maxRecDepth 100000 in
theorem c_L_law_1610 (l : Launch) (hst : l.stackTraces = false) {p : Program} {e : Env} {s : State} {m0 : MethodId} {below : List Frame} {meth : Method} {c : Code} {b L : Nat} {xs : Nat → Int32} {D : va_G} {cs : Nat → ClassId} {A : Nat → Prop} {Q : State → Prop} {adh ad adf ad0 ad1 adx adu ma : Nat → Nat} {Wf : MM → MM → MM → MM → MM → MM → MM → va_W} (hLh : ∀ m f c0 c1 x u : MM, Ln 8 adh (hsh cs adh ma) (fun z => Wf z m f c0 c1 x u)) (hL : ∀ h f c0 c1 x u : MM, Ln 51 ad (msh cs ad) (fun z => Wf h z f c0 c1 x u)) (hLf : ∀ h m c0 c1 x u : MM, Ln 51 adf (msh cs adf) (fun z => Wf h m z c0 c1 x u)) (hL0 : ∀ h m f c1 x u : MM, Ln 51 ad0 (msh cs ad0) (fun z => Wf h m f z c1 x u)) (hL1 : ∀ h m f c0 x u : MM, Ln 51 ad1 (msh cs ad1) (fun z => Wf h m f c0 z x u)) (hLx : ∀ h m f c0 c1 u : MM, Ln 9 adx (xsh cs adx) (fun z => Wf h m f c0 c1 z u)) (hLu : ∀ h m f c0 c1 x : MM, Ln 1 adu (ush cs) (fun z => Wf h m f c0 c1 x z)) (hAd : ∀ a0_ b0_ a1_ b1_ a2_ b2_ a3_ b3_ a4_ b4_ a5_ b5_ a6_ b6_ : MM, (Wf a0_ a1_ a2_ a3_ a4_ a5_ a6_).map (fun q => q.1) = (Wf b0_ b1_ b2_ b3_ b4_ b5_ b6_).map (fun q => q.1)) (hm1 : ma 1 = ad 24) (hm2 : ma 2 = adf 24) (hm3 : ma 3 = ad0 24) (hm4 : ma 4 = ad1 24) (hLX : LX p s m0 c b L xs D cs A (Wf zMM zMM zMM zMM zMM zMM zMM)) (n : Nat) (k : LKont) (hk : LK p l e s m0 below meth c b D A Q adh adx adu Wf n k) (x4 : Int32) (h : MM) (m : MM) (f : MM) (c0 : MM) (c1 : MM) (x : MM) (u : MM) (cells slots : Nat) (H : Heap) (locs : List Loc) (ls : Array Slot) (hD : D_L_law_1610 L xs k x4 h m f c0 c1 x u = some ()) (hcl : cells + (n + 1) ≤ 601024) (hsl : slots + 6 * (n + 1) ≤ 7293034) (hP : va_P D vwCl (Wf h m f c0 c1 x u) H) (hS : va_S A s.heap H locs) (hl : lv_has ls 8 [(0, .ref b), (1, .ref (adh 0)), (2, .ref (adx 0)), (3, .ref (adu 0)), (4, .int x4)]) : W p l e room_1 s m0 #[Value.ref b] below meth c H locs cells slots Q (F0 m0 1610 ls []) := by
  obtain ⟨hx, hb, hml, hown, hK, hT⟩ := hLX.rest
  obtain ⟨Fx0, hX, hbl, hbA, hD1, hA1⟩ := hLX
  unfold D_L_law_1610 at hD
  refine lv_aload_n hx hb dL_law_1610 rfl (lv_at hl 1 rfl) ?_
  obtain ⟨v1, z2, hD⟩ := b1_el hD
  refine lrV (Wf := fun z => Wf z m f c0 c1 x u) (mm := h) (As := []) (rest := []) Fx0 (c_X9_filledSet l (Wf := fun z0_ z1_ => Wf z0_ z1_ f c0 c1 x u) (fun z1_ => hLh z1_ f c0 c1 x u) (fun z0_ => hL z0_ f c0 c1 x u) (fun a0_ b0_ a1_ b1_ => hAd a0_ b0_ a1_ b1_ f f c0 c0 c1 c1 x x u u) hm1 h m z2) hP (hD1 _ (hAd _ _ _ _ _ _ _ _ _ _ _ _ _ _)) hS (hA1 _ _ (hAd _ _ _ _ _ _ _ _ _ _ _ _ _ _) hS.1) (hLh m f c0 c1 x u) (Nat.le_of_ble_eq_true rfl) (hs0 _ _) rfl tw_4_17 tw_4_14 tw_4_15 tw_4_16 tw_1_1 yd_X9_filledSet ⟨(Nat.le_of_ble_eq_true rfl), (Nat.le_of_ble_eq_true rfl)⟩ ⟨show _ ≤ 601024 by omega, show _ ≤ 7293034 by omega⟩ rfl hl.1 rfl (Nat.le_of_ble_eq_true rfl) dL_law_1611 (fun H locs hP hS => ?_)
  refine lv_aload_n hx hb dL_law_1614 rfl (lv_at hl 2 rfl) ?_
  obtain ⟨v3, m4, z5, hD⟩ := b2_el hD
  refine lrV (Wf := fun z => Wf h m f c0 c1 z u) (mm := x) (As := []) (rest := [.long v1]) Fx0 (c_X10_filledSet l (Wf := fun z0_ => Wf h m f c0 c1 z0_ u) (hLx h m f c0 c1 u) (fun a0_ b0_ => hAd h h m m f f c0 c0 c1 c1 a0_ b0_ u u) x z5) hP (hD1 _ (hAd _ _ _ _ _ _ _ _ _ _ _ _ _ _)) hS (hA1 _ _ (hAd _ _ _ _ _ _ _ _ _ _ _ _ _ _) hS.1) (hLx h m f c0 c1 u) (Nat.le_of_ble_eq_true rfl) (xs0 _ _) rfl tw_8_95 tw_8_92 tw_8_93 tw_8_94 tw_1_13 yd_X10_filledSet ⟨(Nat.le_of_ble_eq_true rfl), (Nat.le_of_ble_eq_true rfl)⟩ ⟨show _ ≤ 601024 by omega, show _ ≤ 7293034 by omega⟩ rfl hl.1 rfl (Nat.le_of_ble_eq_true rfl) dL_law_1615 (fun H locs hP hS => ?_)
  refine rlc_eq (tgt := 2964) hx hb dL_law_1618 dL_law_1619 (by decide) (fun c => ?_) (fun c => ?_)
  · have hD := ifp hD c
    obtain ⟨v6, ev6, hD⟩ := bnd_el hD
    refine lv_iinc (v := v6) (lv' := [(4, .int v6), (0, .ref b), (1, .ref (adh 0)), (2, .ref (adx 0)), (3, .ref (adu 0))]) hx hb dL_law_2964 hl (k := 4) rfl (by rw [ev6]; rfl) (by decide) rfl (fun ls hl => ?_)
    refine lv_goto (tgt := 23) hx hb dL_law_2967 (by decide) ?_
    exact hk v6 h m f c0 c1 m4 u _ _ _ _ _ hD (show _ + n ≤ 601024 by omega) (show _ + 6 * n ≤ 7293034 by omega) hP hS (lv_sub hl [1, 2, 3, 4, 0] rfl)
  · have hD := ifn hD c
    refine lv_iconst (v := (0 : Int32)) hx hb dL_law_1622 (by decide) ?_
    exact nn_el hD
noncomputable def D_L_law_1624 (L : Nat) (xs : Nat → Int32) (k : LKont) (x4 : Int32) (h : MM) (m : MM) (f : MM) (c0 : MM) (c1 : MM) (x : MM) (u : MM) : Option Unit := b2 (D_X9_newBoard h m) (fun v1 m2 => b2 (D_X10_newBoard x) (fun v4 m5 => if v1 = v4 then (bnd (x4 + (3 : Int32)) (fun v7 => k v7 h m2 f c0 c1 m5 u)) else (none)))
set_option maxHeartbeats 4000000 in
set_option maxRecDepth 100000 in
theorem c_L_law_1624 (l : Launch) (hst : l.stackTraces = false) {p : Program} {e : Env} {s : State} {m0 : MethodId} {below : List Frame} {meth : Method} {c : Code} {b L : Nat} {xs : Nat → Int32} {D : va_G} {cs : Nat → ClassId} {A : Nat → Prop} {Q : State → Prop} {adh ad adf ad0 ad1 adx adu ma : Nat → Nat} {Wf : MM → MM → MM → MM → MM → MM → MM → va_W} (hLh : ∀ m f c0 c1 x u : MM, Ln 8 adh (hsh cs adh ma) (fun z => Wf z m f c0 c1 x u)) (hL : ∀ h f c0 c1 x u : MM, Ln 51 ad (msh cs ad) (fun z => Wf h z f c0 c1 x u)) (hLf : ∀ h m c0 c1 x u : MM, Ln 51 adf (msh cs adf) (fun z => Wf h m z c0 c1 x u)) (hL0 : ∀ h m f c1 x u : MM, Ln 51 ad0 (msh cs ad0) (fun z => Wf h m f z c1 x u)) (hL1 : ∀ h m f c0 x u : MM, Ln 51 ad1 (msh cs ad1) (fun z => Wf h m f c0 z x u)) (hLx : ∀ h m f c0 c1 u : MM, Ln 9 adx (xsh cs adx) (fun z => Wf h m f c0 c1 z u)) (hLu : ∀ h m f c0 c1 x : MM, Ln 1 adu (ush cs) (fun z => Wf h m f c0 c1 x z)) (hAd : ∀ a0_ b0_ a1_ b1_ a2_ b2_ a3_ b3_ a4_ b4_ a5_ b5_ a6_ b6_ : MM, (Wf a0_ a1_ a2_ a3_ a4_ a5_ a6_).map (fun q => q.1) = (Wf b0_ b1_ b2_ b3_ b4_ b5_ b6_).map (fun q => q.1)) (hm1 : ma 1 = ad 24) (hm2 : ma 2 = adf 24) (hm3 : ma 3 = ad0 24) (hm4 : ma 4 = ad1 24) (hLX : LX p s m0 c b L xs D cs A (Wf zMM zMM zMM zMM zMM zMM zMM)) (n : Nat) (k : LKont) (hk : LK p l e s m0 below meth c b D A Q adh adx adu Wf n k) (x4 : Int32) (h : MM) (m : MM) (f : MM) (c0 : MM) (c1 : MM) (x : MM) (u : MM) (cells slots : Nat) (H : Heap) (locs : List Loc) (ls : Array Slot) (hD : D_L_law_1624 L xs k x4 h m f c0 c1 x u = some ()) (hcl : cells + (n + 1) ≤ 601024) (hsl : slots + 6 * (n + 1) ≤ 7293034) (hP : va_P D vwCl (Wf h m f c0 c1 x u) H) (hS : va_S A s.heap H locs) (hl : lv_has ls 8 [(0, .ref b), (1, .ref (adh 0)), (2, .ref (adx 0)), (3, .ref (adu 0)), (4, .int x4)]) : W p l e room_1 s m0 #[Value.ref b] below meth c H locs cells slots Q (F0 m0 1624 ls []) := by
  obtain ⟨hx, hb, hml, hown, hK, hT⟩ := hLX.rest
  obtain ⟨Fx0, hX, hbl, hbA, hD1, hA1⟩ := hLX
  unfold D_L_law_1624 at hD
  refine lv_aload_n hx hb dL_law_1624 rfl (lv_at hl 1 rfl) ?_
  obtain ⟨v1, m2, z3, hD⟩ := b2_el hD
  refine lrV (Wf := fun z => Wf z m f c0 c1 x u) (mm := h) (As := []) (rest := []) Fx0 (c_X9_newBoard l (Wf := fun z0_ z1_ => Wf z0_ z1_ f c0 c1 x u) (fun z1_ => hLh z1_ f c0 c1 x u) (fun z0_ => hL z0_ f c0 c1 x u) (fun a0_ b0_ a1_ b1_ => hAd a0_ b0_ a1_ b1_ f f c0 c0 c1 c1 x x u u) hm1 h m z3) hP (hD1 _ (hAd _ _ _ _ _ _ _ _ _ _ _ _ _ _)) hS (hA1 _ _ (hAd _ _ _ _ _ _ _ _ _ _ _ _ _ _) hS.1) (hLh m f c0 c1 x u) (Nat.le_of_ble_eq_true rfl) (hs0 _ _) rfl tw_4_21 tw_4_18 tw_4_19 tw_4_20 tw_1_1 yd_X9_newBoard ⟨(Nat.le_of_ble_eq_true rfl), (Nat.le_of_ble_eq_true rfl)⟩ ⟨show _ ≤ 601024 by omega, show _ ≤ 7293034 by omega⟩ rfl hl.1 rfl (Nat.le_of_ble_eq_true rfl) dL_law_1625 (fun H locs hP hS => ?_)
  refine lv_aload_n hx hb dL_law_1628 rfl (lv_at hl 2 rfl) ?_
  obtain ⟨v4, m5, z6, hD⟩ := b2_el hD
  refine lrV (Wf := fun z => Wf h m2 f c0 c1 z u) (mm := x) (As := []) (rest := [.int v1]) Fx0 (c_X10_newBoard l (Wf := fun z0_ => Wf h m2 f c0 c1 z0_ u) (hLx h m2 f c0 c1 u) (fun a0_ b0_ => hAd h h m2 m2 f f c0 c0 c1 c1 a0_ b0_ u u) x z6) hP (hD1 _ (hAd _ _ _ _ _ _ _ _ _ _ _ _ _ _)) hS (hA1 _ _ (hAd _ _ _ _ _ _ _ _ _ _ _ _ _ _) hS.1) (hLx h m2 f c0 c1 u) (Nat.le_of_ble_eq_true rfl) (xs0 _ _) rfl tw_8_99 tw_8_96 tw_8_97 tw_8_98 tw_1_13 yd_X10_newBoard ⟨(Nat.le_of_ble_eq_true rfl), (Nat.le_of_ble_eq_true rfl)⟩ ⟨show _ ≤ 601024 by omega, show _ ≤ 7293034 by omega⟩ rfl hl.1 rfl (Nat.le_of_ble_eq_true rfl) dL_law_1629 (fun H locs hP hS => ?_)
  refine lv_icmp_eq (tgt := 2964) hx hb dL_law_1632 (by decide) (fun c => ?_) (fun c => ?_)
  · have hD := ifp hD c
    obtain ⟨v7, ev7, hD⟩ := bnd_el hD
    refine lv_iinc (v := v7) (lv' := [(4, .int v7), (0, .ref b), (1, .ref (adh 0)), (2, .ref (adx 0)), (3, .ref (adu 0))]) hx hb dL_law_2964 hl (k := 4) rfl (by rw [ev7]; rfl) (by decide) rfl (fun ls hl => ?_)
    refine lv_goto (tgt := 23) hx hb dL_law_2967 (by decide) ?_
    exact hk v7 h m2 f c0 c1 m5 u _ _ _ _ _ hD (show _ + n ≤ 601024 by omega) (show _ + 6 * n ≤ 7293034 by omega) hP hS (lv_sub hl [1, 2, 3, 4, 0] rfl)
  · have hD := ifn hD c
    refine lv_iconst (v := (0 : Int32)) hx hb dL_law_1635 (by decide) ?_
    exact nn_el hD
noncomputable def D_L_law_1637 (L : Nat) (xs : Nat → Int32) (k : LKont) (x4 : Int32) (h : MM) (m : MM) (f : MM) (c0 : MM) (c1 : MM) (x : MM) (u : MM) : Option Unit := b1 (D_X9_boards h m) (fun v1 => b2 (D_X10_boards x) (fun v3 m4 => if v1 = v3 then (bnd (x4 + (3 : Int32)) (fun v6 => k v6 h m f c0 c1 m4 u)) else (none)))
set_option maxHeartbeats 4000000 in
set_option maxRecDepth 100000 in
theorem c_L_law_1637 (l : Launch) (hst : l.stackTraces = false) {p : Program} {e : Env} {s : State} {m0 : MethodId} {below : List Frame} {meth : Method} {c : Code} {b L : Nat} {xs : Nat → Int32} {D : va_G} {cs : Nat → ClassId} {A : Nat → Prop} {Q : State → Prop} {adh ad adf ad0 ad1 adx adu ma : Nat → Nat} {Wf : MM → MM → MM → MM → MM → MM → MM → va_W} (hLh : ∀ m f c0 c1 x u : MM, Ln 8 adh (hsh cs adh ma) (fun z => Wf z m f c0 c1 x u)) (hL : ∀ h f c0 c1 x u : MM, Ln 51 ad (msh cs ad) (fun z => Wf h z f c0 c1 x u)) (hLf : ∀ h m c0 c1 x u : MM, Ln 51 adf (msh cs adf) (fun z => Wf h m z c0 c1 x u)) (hL0 : ∀ h m f c1 x u : MM, Ln 51 ad0 (msh cs ad0) (fun z => Wf h m f z c1 x u)) (hL1 : ∀ h m f c0 x u : MM, Ln 51 ad1 (msh cs ad1) (fun z => Wf h m f c0 z x u)) (hLx : ∀ h m f c0 c1 u : MM, Ln 9 adx (xsh cs adx) (fun z => Wf h m f c0 c1 z u)) (hLu : ∀ h m f c0 c1 x : MM, Ln 1 adu (ush cs) (fun z => Wf h m f c0 c1 x z)) (hAd : ∀ a0_ b0_ a1_ b1_ a2_ b2_ a3_ b3_ a4_ b4_ a5_ b5_ a6_ b6_ : MM, (Wf a0_ a1_ a2_ a3_ a4_ a5_ a6_).map (fun q => q.1) = (Wf b0_ b1_ b2_ b3_ b4_ b5_ b6_).map (fun q => q.1)) (hm1 : ma 1 = ad 24) (hm2 : ma 2 = adf 24) (hm3 : ma 3 = ad0 24) (hm4 : ma 4 = ad1 24) (hLX : LX p s m0 c b L xs D cs A (Wf zMM zMM zMM zMM zMM zMM zMM)) (n : Nat) (k : LKont) (hk : LK p l e s m0 below meth c b D A Q adh adx adu Wf n k) (x4 : Int32) (h : MM) (m : MM) (f : MM) (c0 : MM) (c1 : MM) (x : MM) (u : MM) (cells slots : Nat) (H : Heap) (locs : List Loc) (ls : Array Slot) (hD : D_L_law_1637 L xs k x4 h m f c0 c1 x u = some ()) (hcl : cells + (n + 1) ≤ 601024) (hsl : slots + 6 * (n + 1) ≤ 7293034) (hP : va_P D vwCl (Wf h m f c0 c1 x u) H) (hS : va_S A s.heap H locs) (hl : lv_has ls 8 [(0, .ref b), (1, .ref (adh 0)), (2, .ref (adx 0)), (3, .ref (adu 0)), (4, .int x4)]) : W p l e room_1 s m0 #[Value.ref b] below meth c H locs cells slots Q (F0 m0 1637 ls []) := by
  obtain ⟨hx, hb, hml, hown, hK, hT⟩ := hLX.rest
  obtain ⟨Fx0, hX, hbl, hbA, hD1, hA1⟩ := hLX
  unfold D_L_law_1637 at hD
  refine lv_aload_n hx hb dL_law_1637 rfl (lv_at hl 1 rfl) ?_
  obtain ⟨v1, z2, hD⟩ := b1_el hD
  refine lrV (Wf := fun z => Wf z m f c0 c1 x u) (mm := h) (As := []) (rest := []) Fx0 (c_X9_boards l (Wf := fun z0_ z1_ => Wf z0_ z1_ f c0 c1 x u) (fun z1_ => hLh z1_ f c0 c1 x u) (fun z0_ => hL z0_ f c0 c1 x u) (fun a0_ b0_ a1_ b1_ => hAd a0_ b0_ a1_ b1_ f f c0 c0 c1 c1 x x u u) hm1 h m z2) hP (hD1 _ (hAd _ _ _ _ _ _ _ _ _ _ _ _ _ _)) hS (hA1 _ _ (hAd _ _ _ _ _ _ _ _ _ _ _ _ _ _) hS.1) (hLh m f c0 c1 x u) (Nat.le_of_ble_eq_true rfl) (hs0 _ _) rfl tw_4_35 tw_4_32 tw_4_33 tw_4_34 tw_1_1 yd_X9_boards ⟨(Nat.le_of_ble_eq_true rfl), (Nat.le_of_ble_eq_true rfl)⟩ ⟨show _ ≤ 601024 by omega, show _ ≤ 7293034 by omega⟩ rfl hl.1 rfl (Nat.le_of_ble_eq_true rfl) dL_law_1638 (fun H locs hP hS => ?_)
  refine lv_aload_n hx hb dL_law_1641 rfl (lv_at hl 2 rfl) ?_
  obtain ⟨v3, m4, z5, hD⟩ := b2_el hD
  refine lrV (Wf := fun z => Wf h m f c0 c1 z u) (mm := x) (As := []) (rest := [.int v1]) Fx0 (c_X10_boards l (Wf := fun z0_ => Wf h m f c0 c1 z0_ u) (hLx h m f c0 c1 u) (fun a0_ b0_ => hAd h h m m f f c0 c0 c1 c1 a0_ b0_ u u) x z5) hP (hD1 _ (hAd _ _ _ _ _ _ _ _ _ _ _ _ _ _)) hS (hA1 _ _ (hAd _ _ _ _ _ _ _ _ _ _ _ _ _ _) hS.1) (hLx h m f c0 c1 u) (Nat.le_of_ble_eq_true rfl) (xs0 _ _) rfl tw_8_103 tw_8_100 tw_8_101 tw_8_102 tw_1_13 yd_X10_boards ⟨(Nat.le_of_ble_eq_true rfl), (Nat.le_of_ble_eq_true rfl)⟩ ⟨show _ ≤ 601024 by omega, show _ ≤ 7293034 by omega⟩ rfl hl.1 rfl (Nat.le_of_ble_eq_true rfl) dL_law_1642 (fun H locs hP hS => ?_)
  refine lv_icmp_eq (tgt := 2964) hx hb dL_law_1645 (by decide) (fun c => ?_) (fun c => ?_)
  · have hD := ifp hD c
    obtain ⟨v6, ev6, hD⟩ := bnd_el hD
    refine lv_iinc (v := v6) (lv' := [(4, .int v6), (0, .ref b), (1, .ref (adh 0)), (2, .ref (adx 0)), (3, .ref (adu 0))]) hx hb dL_law_2964 hl (k := 4) rfl (by rw [ev6]; rfl) (by decide) rfl (fun ls hl => ?_)
    refine lv_goto (tgt := 23) hx hb dL_law_2967 (by decide) ?_
    exact hk v6 h m f c0 c1 m4 u _ _ _ _ _ hD (show _ + n ≤ 601024 by omega) (show _ + 6 * n ≤ 7293034 by omega) hP hS (lv_sub hl [1, 2, 3, 4, 0] rfl)
  · have hD := ifn hD c
    refine lv_iconst (v := (0 : Int32)) hx hb dL_law_1648 (by decide) ?_
    exact nn_el hD
noncomputable def D_L_law_1650 (L : Nat) (xs : Nat → Int32) (k : LKont) (x4 : Int32) (h : MM) (m : MM) (f : MM) (c0 : MM) (c1 : MM) (x : MM) (u : MM) : Option Unit := if (x4 + (1 : Int32)) < 0 ∨ L ≤ (x4 + (1 : Int32)).toNatClampNeg then none else (if (x4 + (2 : Int32)) < 0 ∨ L ≤ (x4 + (2 : Int32)).toNatClampNeg then none else (b3 (D_L_changeNozzle (xs (x4 + (1 : Int32)).toNatClampNeg) (xs (x4 + (2 : Int32)).toNatClampNeg) h m u) (fun v3 m4 m5 => if (x4 + (1 : Int32)) < 0 ∨ L ≤ (x4 + (1 : Int32)).toNatClampNeg then none else (if (x4 + (2 : Int32)) < 0 ∨ L ≤ (x4 + (2 : Int32)).toNatClampNeg then none else (b2 (D_X10_changeNozzle (xs (x4 + (1 : Int32)).toNatClampNeg) (xs (x4 + (2 : Int32)).toNatClampNeg) x) (fun v9 m10 => b1 (D_X10_thrown m10) (fun v12 => if v12 = v3 then (if v3 = 0 then (if (gl m5 0 0) = v9.toInt64 then (bnd (x4 + (3 : Int32)) (fun v15 => k v15 h m4 f c0 c1 m10 m5)) else (none)) else (bnd (x4 + (3 : Int32)) (fun v14 => k v14 h m4 f c0 c1 m10 m5))) else (none))))))))
set_option maxHeartbeats 4000000 in
set_option maxRecDepth 100000 in
theorem c_L_law_1650 (l : Launch) (hst : l.stackTraces = false) {p : Program} {e : Env} {s : State} {m0 : MethodId} {below : List Frame} {meth : Method} {c : Code} {b L : Nat} {xs : Nat → Int32} {D : va_G} {cs : Nat → ClassId} {A : Nat → Prop} {Q : State → Prop} {adh ad adf ad0 ad1 adx adu ma : Nat → Nat} {Wf : MM → MM → MM → MM → MM → MM → MM → va_W} (hLh : ∀ m f c0 c1 x u : MM, Ln 8 adh (hsh cs adh ma) (fun z => Wf z m f c0 c1 x u)) (hL : ∀ h f c0 c1 x u : MM, Ln 51 ad (msh cs ad) (fun z => Wf h z f c0 c1 x u)) (hLf : ∀ h m c0 c1 x u : MM, Ln 51 adf (msh cs adf) (fun z => Wf h m z c0 c1 x u)) (hL0 : ∀ h m f c1 x u : MM, Ln 51 ad0 (msh cs ad0) (fun z => Wf h m f z c1 x u)) (hL1 : ∀ h m f c0 x u : MM, Ln 51 ad1 (msh cs ad1) (fun z => Wf h m f c0 z x u)) (hLx : ∀ h m f c0 c1 u : MM, Ln 9 adx (xsh cs adx) (fun z => Wf h m f c0 c1 z u)) (hLu : ∀ h m f c0 c1 x : MM, Ln 1 adu (ush cs) (fun z => Wf h m f c0 c1 x z)) (hAd : ∀ a0_ b0_ a1_ b1_ a2_ b2_ a3_ b3_ a4_ b4_ a5_ b5_ a6_ b6_ : MM, (Wf a0_ a1_ a2_ a3_ a4_ a5_ a6_).map (fun q => q.1) = (Wf b0_ b1_ b2_ b3_ b4_ b5_ b6_).map (fun q => q.1)) (hm1 : ma 1 = ad 24) (hm2 : ma 2 = adf 24) (hm3 : ma 3 = ad0 24) (hm4 : ma 4 = ad1 24) (hLX : LX p s m0 c b L xs D cs A (Wf zMM zMM zMM zMM zMM zMM zMM)) (n : Nat) (k : LKont) (hk : LK p l e s m0 below meth c b D A Q adh adx adu Wf n k) (x4 : Int32) (h : MM) (m : MM) (f : MM) (c0 : MM) (c1 : MM) (x : MM) (u : MM) (cells slots : Nat) (H : Heap) (locs : List Loc) (ls : Array Slot) (hD : D_L_law_1650 L xs k x4 h m f c0 c1 x u = some ()) (hcl : cells + (n + 1) ≤ 601024) (hsl : slots + 6 * (n + 1) ≤ 7293034) (hP : va_P D vwCl (Wf h m f c0 c1 x u) H) (hS : va_S A s.heap H locs) (hl : lv_has ls 8 [(0, .ref b), (1, .ref (adh 0)), (2, .ref (adx 0)), (3, .ref (adu 0)), (4, .int x4)]) : W p l e room_1 s m0 #[Value.ref b] below meth c H locs cells slots Q (F0 m0 1650 ls []) := by
  obtain ⟨hx, hb, hml, hown, hK, hT⟩ := hLX.rest
  obtain ⟨Fx0, hX, hbl, hbA, hD1, hA1⟩ := hLX
  unfold D_L_law_1650 at hD
  refine lv_aload_n hx hb dL_law_1650 rfl (lv_at hl 1 rfl) ?_
  refine lv_aload_n hx hb dL_law_1651 rfl (lv_at hl 0 rfl) ?_
  refine lv_iload hx hb dL_law_1652 (lv_at hl 4 rfl) ?_
  refine lv_iconst (v := (1 : Int32)) hx hb dL_law_1654 (by decide) ?_
  refine lv_iadd hx hb dL_law_1655 ?_
  obtain ⟨h1, hD⟩ := gd_el hD
  refine va_sld hx hb hX hbl hbA hS h1 dL_law_1656 ?_
  refine lv_aload_n hx hb dL_law_1657 rfl (lv_at hl 0 rfl) ?_
  refine lv_iload hx hb dL_law_1658 (lv_at hl 4 rfl) ?_
  refine lv_iconst (v := (2 : Int32)) hx hb dL_law_1660 (by decide) ?_
  refine lv_iadd hx hb dL_law_1661 ?_
  obtain ⟨h2, hD⟩ := gd_el hD
  refine va_sld hx hb hX hbl hbA hS h2 dL_law_1662 ?_
  refine lv_aload_n hx hb dL_law_1663 rfl (lv_at hl 3 rfl) ?_
  obtain ⟨v3, m4, m5, z6, hD⟩ := b3_el hD
  refine lrL (As := [.ref (adh 0), .int (xs (x4 + (1 : Int32)).toNatClampNeg), .int (xs (x4 + (2 : Int32)).toNatClampNeg), .ref (adu 0)]) (rest := []) Fx0 (c_L_changeNozzle l hst (Wf := fun z0_ z1_ z2_ => Wf z0_ z1_ f c0 c1 x z2_) (fun z1_ z2_ => hLh z1_ f c0 c1 x z2_) (fun z0_ z2_ => hL z0_ f c0 c1 x z2_) (fun z0_ z1_ => hLu z0_ z1_ f c0 c1 x) (fun a0_ b0_ a1_ b1_ a2_ b2_ => hAd a0_ b0_ a1_ b1_ f f c0 c0 c1 c1 x x a2_ b2_) hm1 h m u (xs (x4 + (1 : Int32)).toNatClampNeg) (xs (x4 + (2 : Int32)).toNatClampNeg) z6) hP (hD1 _ (hAd _ _ _ _ _ _ _ _ _ _ _ _ _ _)) hS (hA1 _ _ (hAd _ _ _ _ _ _ _ _ _ _ _ _ _ _) hS.1) tw_6_72 tw_6_70 tw_6_71 tw_1_0 yd_L_changeNozzle ⟨(Nat.le_of_ble_eq_true rfl), (Nat.le_of_ble_eq_true rfl)⟩ ⟨show _ + 1 ≤ 601024 by omega, show _ + 6 ≤ 7293034 by omega⟩ rfl hl.1 rfl (Nat.le_of_ble_eq_true rfl) dL_law_1664 (fun H locs hP hS => ?_)
  refine lv_istore (lv' := [(5, .int v3), (0, .ref b), (1, .ref (adh 0)), (2, .ref (adx 0)), (3, .ref (adu 0)), (4, .int x4)]) hx hb dL_law_1667 hl (by decide) rfl (fun ls hl => ?_)
  refine lv_aload_n hx hb dL_law_1669 rfl (lv_at hl 3 rfl) ?_
  refine lv_aload_n hx hb dL_law_1670 rfl (lv_at hl 1 rfl) ?_
  refine lv_iload hx hb dL_law_1671 (lv_at hl 5 rfl) ?_
  refine lv_iconst (v := (1 : Int32)) hx hb dL_law_1673 (by decide) ?_
  refine lv_iadd hx hb dL_law_1674 ?_
  obtain ⟨h7, hD⟩ := gd_el hD
  refine va_sld hx hb hX hbl hbA hS h7 dL_law_1675 ?_
  refine lv_aload_n hx hb dL_law_1676 rfl (lv_at hl 1 rfl) ?_
  refine lv_iload hx hb dL_law_1677 (lv_at hl 5 rfl) ?_
  refine lv_iconst (v := (2 : Int32)) hx hb dL_law_1679 (by decide) ?_
  refine lv_iadd hx hb dL_law_1680 ?_
  obtain ⟨h8, hD⟩ := gd_el hD
  refine va_sld hx hb hX hbl hbA hS h8 dL_law_1681 ?_
  obtain ⟨v9, m10, z11, hD⟩ := b2_el hD
  refine lrV (Wf := fun z => Wf h m4 f c0 c1 z m5) (mm := x) (As := [.int (xs (x4 + (1 : Int32)).toNatClampNeg), .int (xs (x4 + (2 : Int32)).toNatClampNeg)]) (rest := []) Fx0 (c_X10_changeNozzle l (Wf := fun z0_ => Wf h m4 f c0 c1 z0_ m5) (hLx h m4 f c0 c1 m5) (fun a0_ b0_ => hAd h h m4 m4 f f c0 c0 c1 c1 a0_ b0_ m5 m5) x (xs (x4 + (1 : Int32)).toNatClampNeg) (xs (x4 + (2 : Int32)).toNatClampNeg) z11) hP (hD1 _ (hAd _ _ _ _ _ _ _ _ _ _ _ _ _ _)) hS (hA1 _ _ (hAd _ _ _ _ _ _ _ _ _ _ _ _ _ _) hS.1) (hLx h m4 f c0 c1 m5) (Nat.le_of_ble_eq_true rfl) (xs0 _ _) rfl tw_8_107 tw_8_104 tw_8_105 tw_8_106 tw_1_13 yd_X10_changeNozzle ⟨(Nat.le_of_ble_eq_true rfl), (Nat.le_of_ble_eq_true rfl)⟩ ⟨show _ ≤ 601024 by omega, show _ ≤ 7293034 by omega⟩ rfl hl.1 rfl (Nat.le_of_ble_eq_true rfl) dL_law_1682 (fun H locs hP hS => ?_)
  refine lv_istore (lv' := [(6, .int v9), (5, .int v3), (0, .ref b), (1, .ref (adh 0)), (2, .ref (adx 0)), (3, .ref (adu 0)), (4, .int x4)]) hx hb dL_law_1685 hl (by decide) rfl (fun ls hl => ?_)
  refine lv_aload_n hx hb dL_law_1687 rfl (lv_at hl 4 rfl) ?_
  obtain ⟨v12, z13, hD⟩ := b1_el hD
  refine lrV (Wf := fun z => Wf h m4 f c0 c1 z m5) (mm := m10) (As := []) (rest := []) Fx0 (c_X10_thrown l (Wf := fun z0_ => Wf h m4 f c0 c1 z0_ m5) (hLx h m4 f c0 c1 m5) (fun a0_ b0_ => hAd h h m4 m4 f f c0 c0 c1 c1 a0_ b0_ m5 m5) m10 z13) hP (hD1 _ (hAd _ _ _ _ _ _ _ _ _ _ _ _ _ _)) hS (hA1 _ _ (hAd _ _ _ _ _ _ _ _ _ _ _ _ _ _) hS.1) (hLx h m4 f c0 c1 m5) (Nat.le_of_ble_eq_true rfl) (xs0 _ _) rfl tw_7_30 tw_7_27 tw_7_28 tw_7_29 tw_1_13 yd_X10_thrown ⟨(Nat.le_of_ble_eq_true rfl), (Nat.le_of_ble_eq_true rfl)⟩ ⟨show _ ≤ 601024 by omega, show _ ≤ 7293034 by omega⟩ rfl hl.1 rfl (Nat.le_of_ble_eq_true rfl) dL_law_1688 (fun H locs hP hS => ?_)
  refine lv_iload hx hb dL_law_1691 (lv_at hl 1 rfl) ?_
  refine lv_icmp_eq (tgt := 1698) hx hb dL_law_1693 (by decide) (fun c => ?_) (fun c => ?_)
  · have hD := ifp hD c
    refine lv_iload hx hb dL_law_1698 (lv_at hl 1 rfl) ?_
    refine lv_if_ne (tgt := 1715) hx hb dL_law_1700 (by decide) (fun c => ?_) (fun c => ?_)
    · have hD := ifn hD c
      refine lv_goto (tgt := 2964) hx hb dL_law_1715 (by decide) ?_
      obtain ⟨v14, ev14, hD⟩ := bnd_el hD
      refine lv_iinc (v := v14) (lv' := [(4, .int v14), (6, .int v9), (5, .int v3), (0, .ref b), (1, .ref (adh 0)), (2, .ref (adx 0)), (3, .ref (adu 0))]) hx hb dL_law_2964 hl (k := 6) rfl (by rw [ev14]; rfl) (by decide) rfl (fun ls hl => ?_)
      refine lv_goto (tgt := 23) hx hb dL_law_2967 (by decide) ?_
      exact hk v14 h m4 f c0 c1 m10 m5 _ _ _ _ _ hD (show _ + n ≤ 601024 by omega) (show _ + 6 * n ≤ 7293034 by omega) hP hS (lv_sub hl [3, 4, 5, 6, 0] rfl)
    · have hD := ifp hD c
      refine lv_aload_n hx hb dL_law_1703 rfl (lv_at hl 5 rfl) ?_
      refine lv_iconst (v := (0 : Int32)) hx hb dL_law_1704 (by decide) ?_
      refine rlald (Wf := fun z => Wf h m4 f c0 c1 m10 z) (mm := m5) hx hb hK hP (hLu h m4 f c0 c1 m10) 0 (Nat.le_of_ble_eq_true rfl) (us0 _ _) (by decide) (j := 0) (by decide) dL_law_1705 ?_
      refine lv_iload hx hb dL_law_1706 (lv_at hl 0 rfl) ?_
      refine lv_i2l (v := v9.toInt64) hx hb dL_law_1708 rfl ?_
      refine rlc_eq (tgt := 1715) hx hb dL_law_1709 dL_law_1710 (by decide) (fun c => ?_) (fun c => ?_)
      · have hD := ifp hD c
        refine lv_goto (tgt := 2964) hx hb dL_law_1715 (by decide) ?_
        obtain ⟨v15, ev15, hD⟩ := bnd_el hD
        refine lv_iinc (v := v15) (lv' := [(4, .int v15), (6, .int v9), (5, .int v3), (0, .ref b), (1, .ref (adh 0)), (2, .ref (adx 0)), (3, .ref (adu 0))]) hx hb dL_law_2964 hl (k := 6) rfl (by rw [ev15]; rfl) (by decide) rfl (fun ls hl => ?_)
        refine lv_goto (tgt := 23) hx hb dL_law_2967 (by decide) ?_
        exact hk v15 h m4 f c0 c1 m10 m5 _ _ _ _ _ hD (show _ + n ≤ 601024 by omega) (show _ + 6 * n ≤ 7293034 by omega) hP hS (lv_sub hl [3, 4, 5, 6, 0] rfl)
      · have hD := ifn hD c
        refine lv_iconst (v := (0 : Int32)) hx hb dL_law_1713 (by decide) ?_
        exact nn_el hD
  · have hD := ifn hD c
    refine lv_iconst (v := (0 : Int32)) hx hb dL_law_1696 (by decide) ?_
    exact nn_el hD
noncomputable def D_L_law_1718 (L : Nat) (xs : Nat → Int32) (k : LKont) (x4 : Int32) (h : MM) (m : MM) (f : MM) (c0 : MM) (c1 : MM) (x : MM) (u : MM) : Option Unit := if (x4 + (1 : Int32)) < 0 ∨ L ≤ (x4 + (1 : Int32)).toNatClampNeg then none else (if (x4 + (2 : Int32)) < 0 ∨ L ≤ (x4 + (2 : Int32)).toNatClampNeg then none else (b3 (D_L_pick (xs (x4 + (1 : Int32)).toNatClampNeg) (xs (x4 + (2 : Int32)).toNatClampNeg) h m u) (fun v3 m4 m5 => if (x4 + (1 : Int32)) < 0 ∨ L ≤ (x4 + (1 : Int32)).toNatClampNeg then none else (if (x4 + (2 : Int32)) < 0 ∨ L ≤ (x4 + (2 : Int32)).toNatClampNeg then none else (b2 (D_X10_pick (xs (x4 + (1 : Int32)).toNatClampNeg) (xs (x4 + (2 : Int32)).toNatClampNeg) x) (fun v9 m10 => b1 (D_X10_thrown m10) (fun v12 => if v12 = v3 then (if v3 = 0 then (if (gl m5 0 0) = v9.toInt64 then (bnd (x4 + (3 : Int32)) (fun v15 => k v15 h m4 f c0 c1 m10 m5)) else (none)) else (bnd (x4 + (3 : Int32)) (fun v14 => k v14 h m4 f c0 c1 m10 m5))) else (none))))))))
set_option maxHeartbeats 4000000 in
set_option maxRecDepth 100000 in
theorem c_L_law_1718 (l : Launch) (hst : l.stackTraces = false) {p : Program} {e : Env} {s : State} {m0 : MethodId} {below : List Frame} {meth : Method} {c : Code} {b L : Nat} {xs : Nat → Int32} {D : va_G} {cs : Nat → ClassId} {A : Nat → Prop} {Q : State → Prop} {adh ad adf ad0 ad1 adx adu ma : Nat → Nat} {Wf : MM → MM → MM → MM → MM → MM → MM → va_W} (hLh : ∀ m f c0 c1 x u : MM, Ln 8 adh (hsh cs adh ma) (fun z => Wf z m f c0 c1 x u)) (hL : ∀ h f c0 c1 x u : MM, Ln 51 ad (msh cs ad) (fun z => Wf h z f c0 c1 x u)) (hLf : ∀ h m c0 c1 x u : MM, Ln 51 adf (msh cs adf) (fun z => Wf h m z c0 c1 x u)) (hL0 : ∀ h m f c1 x u : MM, Ln 51 ad0 (msh cs ad0) (fun z => Wf h m f z c1 x u)) (hL1 : ∀ h m f c0 x u : MM, Ln 51 ad1 (msh cs ad1) (fun z => Wf h m f c0 z x u)) (hLx : ∀ h m f c0 c1 u : MM, Ln 9 adx (xsh cs adx) (fun z => Wf h m f c0 c1 z u)) (hLu : ∀ h m f c0 c1 x : MM, Ln 1 adu (ush cs) (fun z => Wf h m f c0 c1 x z)) (hAd : ∀ a0_ b0_ a1_ b1_ a2_ b2_ a3_ b3_ a4_ b4_ a5_ b5_ a6_ b6_ : MM, (Wf a0_ a1_ a2_ a3_ a4_ a5_ a6_).map (fun q => q.1) = (Wf b0_ b1_ b2_ b3_ b4_ b5_ b6_).map (fun q => q.1)) (hm1 : ma 1 = ad 24) (hm2 : ma 2 = adf 24) (hm3 : ma 3 = ad0 24) (hm4 : ma 4 = ad1 24) (hLX : LX p s m0 c b L xs D cs A (Wf zMM zMM zMM zMM zMM zMM zMM)) (n : Nat) (k : LKont) (hk : LK p l e s m0 below meth c b D A Q adh adx adu Wf n k) (x4 : Int32) (h : MM) (m : MM) (f : MM) (c0 : MM) (c1 : MM) (x : MM) (u : MM) (cells slots : Nat) (H : Heap) (locs : List Loc) (ls : Array Slot) (hD : D_L_law_1718 L xs k x4 h m f c0 c1 x u = some ()) (hcl : cells + (n + 1) ≤ 601024) (hsl : slots + 6 * (n + 1) ≤ 7293034) (hP : va_P D vwCl (Wf h m f c0 c1 x u) H) (hS : va_S A s.heap H locs) (hl : lv_has ls 8 [(0, .ref b), (1, .ref (adh 0)), (2, .ref (adx 0)), (3, .ref (adu 0)), (4, .int x4)]) : W p l e room_1 s m0 #[Value.ref b] below meth c H locs cells slots Q (F0 m0 1718 ls []) := by
  obtain ⟨hx, hb, hml, hown, hK, hT⟩ := hLX.rest
  obtain ⟨Fx0, hX, hbl, hbA, hD1, hA1⟩ := hLX
  unfold D_L_law_1718 at hD
  refine lv_aload_n hx hb dL_law_1718 rfl (lv_at hl 1 rfl) ?_
  refine lv_aload_n hx hb dL_law_1719 rfl (lv_at hl 0 rfl) ?_
  refine lv_iload hx hb dL_law_1720 (lv_at hl 4 rfl) ?_
  refine lv_iconst (v := (1 : Int32)) hx hb dL_law_1722 (by decide) ?_
  refine lv_iadd hx hb dL_law_1723 ?_
  obtain ⟨h1, hD⟩ := gd_el hD
  refine va_sld hx hb hX hbl hbA hS h1 dL_law_1724 ?_
  refine lv_aload_n hx hb dL_law_1725 rfl (lv_at hl 0 rfl) ?_
  refine lv_iload hx hb dL_law_1726 (lv_at hl 4 rfl) ?_
  refine lv_iconst (v := (2 : Int32)) hx hb dL_law_1728 (by decide) ?_
  refine lv_iadd hx hb dL_law_1729 ?_
  obtain ⟨h2, hD⟩ := gd_el hD
  refine va_sld hx hb hX hbl hbA hS h2 dL_law_1730 ?_
  refine lv_aload_n hx hb dL_law_1731 rfl (lv_at hl 3 rfl) ?_
  obtain ⟨v3, m4, m5, z6, hD⟩ := b3_el hD
  refine lrL (As := [.ref (adh 0), .int (xs (x4 + (1 : Int32)).toNatClampNeg), .int (xs (x4 + (2 : Int32)).toNatClampNeg), .ref (adu 0)]) (rest := []) Fx0 (c_L_pick l hst (Wf := fun z0_ z1_ z2_ => Wf z0_ z1_ f c0 c1 x z2_) (fun z1_ z2_ => hLh z1_ f c0 c1 x z2_) (fun z0_ z2_ => hL z0_ f c0 c1 x z2_) (fun z0_ z1_ => hLu z0_ z1_ f c0 c1 x) (fun a0_ b0_ a1_ b1_ a2_ b2_ => hAd a0_ b0_ a1_ b1_ f f c0 c0 c1 c1 x x a2_ b2_) hm1 h m u (xs (x4 + (1 : Int32)).toNatClampNeg) (xs (x4 + (2 : Int32)).toNatClampNeg) z6) hP (hD1 _ (hAd _ _ _ _ _ _ _ _ _ _ _ _ _ _)) hS (hA1 _ _ (hAd _ _ _ _ _ _ _ _ _ _ _ _ _ _) hS.1) tw_6_80 tw_6_78 tw_6_79 tw_1_0 yd_L_pick ⟨(Nat.le_of_ble_eq_true rfl), (Nat.le_of_ble_eq_true rfl)⟩ ⟨show _ + 1 ≤ 601024 by omega, show _ + 6 ≤ 7293034 by omega⟩ rfl hl.1 rfl (Nat.le_of_ble_eq_true rfl) dL_law_1732 (fun H locs hP hS => ?_)
  refine lv_istore (lv' := [(5, .int v3), (0, .ref b), (1, .ref (adh 0)), (2, .ref (adx 0)), (3, .ref (adu 0)), (4, .int x4)]) hx hb dL_law_1735 hl (by decide) rfl (fun ls hl => ?_)
  refine lv_aload_n hx hb dL_law_1737 rfl (lv_at hl 3 rfl) ?_
  refine lv_aload_n hx hb dL_law_1738 rfl (lv_at hl 1 rfl) ?_
  refine lv_iload hx hb dL_law_1739 (lv_at hl 5 rfl) ?_
  refine lv_iconst (v := (1 : Int32)) hx hb dL_law_1741 (by decide) ?_
  refine lv_iadd hx hb dL_law_1742 ?_
  obtain ⟨h7, hD⟩ := gd_el hD
  refine va_sld hx hb hX hbl hbA hS h7 dL_law_1743 ?_
  refine lv_aload_n hx hb dL_law_1744 rfl (lv_at hl 1 rfl) ?_
  refine lv_iload hx hb dL_law_1745 (lv_at hl 5 rfl) ?_
  refine lv_iconst (v := (2 : Int32)) hx hb dL_law_1747 (by decide) ?_
  refine lv_iadd hx hb dL_law_1748 ?_
  obtain ⟨h8, hD⟩ := gd_el hD
  refine va_sld hx hb hX hbl hbA hS h8 dL_law_1749 ?_
  obtain ⟨v9, m10, z11, hD⟩ := b2_el hD
  refine lrV (Wf := fun z => Wf h m4 f c0 c1 z m5) (mm := x) (As := [.int (xs (x4 + (1 : Int32)).toNatClampNeg), .int (xs (x4 + (2 : Int32)).toNatClampNeg)]) (rest := []) Fx0 (c_X10_pick l (Wf := fun z0_ => Wf h m4 f c0 c1 z0_ m5) (hLx h m4 f c0 c1 m5) (fun a0_ b0_ => hAd h h m4 m4 f f c0 c0 c1 c1 a0_ b0_ m5 m5) x (xs (x4 + (1 : Int32)).toNatClampNeg) (xs (x4 + (2 : Int32)).toNatClampNeg) z11) hP (hD1 _ (hAd _ _ _ _ _ _ _ _ _ _ _ _ _ _)) hS (hA1 _ _ (hAd _ _ _ _ _ _ _ _ _ _ _ _ _ _) hS.1) (hLx h m4 f c0 c1 m5) (Nat.le_of_ble_eq_true rfl) (xs0 _ _) rfl tw_8_131 tw_8_128 tw_8_129 tw_8_130 tw_1_13 yd_X10_pick ⟨(Nat.le_of_ble_eq_true rfl), (Nat.le_of_ble_eq_true rfl)⟩ ⟨show _ ≤ 601024 by omega, show _ ≤ 7293034 by omega⟩ rfl hl.1 rfl (Nat.le_of_ble_eq_true rfl) dL_law_1750 (fun H locs hP hS => ?_)
  refine lv_istore (lv' := [(6, .int v9), (5, .int v3), (0, .ref b), (1, .ref (adh 0)), (2, .ref (adx 0)), (3, .ref (adu 0)), (4, .int x4)]) hx hb dL_law_1753 hl (by decide) rfl (fun ls hl => ?_)
  refine lv_aload_n hx hb dL_law_1755 rfl (lv_at hl 4 rfl) ?_
  obtain ⟨v12, z13, hD⟩ := b1_el hD
  refine lrV (Wf := fun z => Wf h m4 f c0 c1 z m5) (mm := m10) (As := []) (rest := []) Fx0 (c_X10_thrown l (Wf := fun z0_ => Wf h m4 f c0 c1 z0_ m5) (hLx h m4 f c0 c1 m5) (fun a0_ b0_ => hAd h h m4 m4 f f c0 c0 c1 c1 a0_ b0_ m5 m5) m10 z13) hP (hD1 _ (hAd _ _ _ _ _ _ _ _ _ _ _ _ _ _)) hS (hA1 _ _ (hAd _ _ _ _ _ _ _ _ _ _ _ _ _ _) hS.1) (hLx h m4 f c0 c1 m5) (Nat.le_of_ble_eq_true rfl) (xs0 _ _) rfl tw_7_30 tw_7_27 tw_7_28 tw_7_29 tw_1_13 yd_X10_thrown ⟨(Nat.le_of_ble_eq_true rfl), (Nat.le_of_ble_eq_true rfl)⟩ ⟨show _ ≤ 601024 by omega, show _ ≤ 7293034 by omega⟩ rfl hl.1 rfl (Nat.le_of_ble_eq_true rfl) dL_law_1756 (fun H locs hP hS => ?_)
  refine lv_iload hx hb dL_law_1759 (lv_at hl 1 rfl) ?_
  refine lv_icmp_eq (tgt := 1766) hx hb dL_law_1761 (by decide) (fun c => ?_) (fun c => ?_)
  · have hD := ifp hD c
    refine lv_iload hx hb dL_law_1766 (lv_at hl 1 rfl) ?_
    refine lv_if_ne (tgt := 1783) hx hb dL_law_1768 (by decide) (fun c => ?_) (fun c => ?_)
    · have hD := ifn hD c
      refine lv_goto (tgt := 2964) hx hb dL_law_1783 (by decide) ?_
      obtain ⟨v14, ev14, hD⟩ := bnd_el hD
      refine lv_iinc (v := v14) (lv' := [(4, .int v14), (6, .int v9), (5, .int v3), (0, .ref b), (1, .ref (adh 0)), (2, .ref (adx 0)), (3, .ref (adu 0))]) hx hb dL_law_2964 hl (k := 6) rfl (by rw [ev14]; rfl) (by decide) rfl (fun ls hl => ?_)
      refine lv_goto (tgt := 23) hx hb dL_law_2967 (by decide) ?_
      exact hk v14 h m4 f c0 c1 m10 m5 _ _ _ _ _ hD (show _ + n ≤ 601024 by omega) (show _ + 6 * n ≤ 7293034 by omega) hP hS (lv_sub hl [3, 4, 5, 6, 0] rfl)
    · have hD := ifp hD c
      refine lv_aload_n hx hb dL_law_1771 rfl (lv_at hl 5 rfl) ?_
      refine lv_iconst (v := (0 : Int32)) hx hb dL_law_1772 (by decide) ?_
      refine rlald (Wf := fun z => Wf h m4 f c0 c1 m10 z) (mm := m5) hx hb hK hP (hLu h m4 f c0 c1 m10) 0 (Nat.le_of_ble_eq_true rfl) (us0 _ _) (by decide) (j := 0) (by decide) dL_law_1773 ?_
      refine lv_iload hx hb dL_law_1774 (lv_at hl 0 rfl) ?_
      refine lv_i2l (v := v9.toInt64) hx hb dL_law_1776 rfl ?_
      refine rlc_eq (tgt := 1783) hx hb dL_law_1777 dL_law_1778 (by decide) (fun c => ?_) (fun c => ?_)
      · have hD := ifp hD c
        refine lv_goto (tgt := 2964) hx hb dL_law_1783 (by decide) ?_
        obtain ⟨v15, ev15, hD⟩ := bnd_el hD
        refine lv_iinc (v := v15) (lv' := [(4, .int v15), (6, .int v9), (5, .int v3), (0, .ref b), (1, .ref (adh 0)), (2, .ref (adx 0)), (3, .ref (adu 0))]) hx hb dL_law_2964 hl (k := 6) rfl (by rw [ev15]; rfl) (by decide) rfl (fun ls hl => ?_)
        refine lv_goto (tgt := 23) hx hb dL_law_2967 (by decide) ?_
        exact hk v15 h m4 f c0 c1 m10 m5 _ _ _ _ _ hD (show _ + n ≤ 601024 by omega) (show _ + 6 * n ≤ 7293034 by omega) hP hS (lv_sub hl [3, 4, 5, 6, 0] rfl)
      · have hD := ifn hD c
        refine lv_iconst (v := (0 : Int32)) hx hb dL_law_1781 (by decide) ?_
        exact nn_el hD
  · have hD := ifn hD c
    refine lv_iconst (v := (0 : Int32)) hx hb dL_law_1764 (by decide) ?_
    exact nn_el hD
noncomputable def D_L_law_1786 (L : Nat) (xs : Nat → Int32) (k : LKont) (x4 : Int32) (h : MM) (m : MM) (f : MM) (c0 : MM) (c1 : MM) (x : MM) (u : MM) : Option Unit := if (x4 + (1 : Int32)) < 0 ∨ L ≤ (x4 + (1 : Int32)).toNatClampNeg then none else (b3 (D_L_look (xs (x4 + (1 : Int32)).toNatClampNeg) h m u) (fun v2 m3 m4 => if (x4 + (1 : Int32)) < 0 ∨ L ≤ (x4 + (1 : Int32)).toNatClampNeg then none else (b2 (D_X10_look (xs (x4 + (1 : Int32)).toNatClampNeg) x) (fun v7 m8 => b1 (D_X10_thrown m8) (fun v10 => if v10 = v2 then (if v2 = 0 then (if (gl m4 0 0) = v7.toInt64 then (bnd (x4 + (3 : Int32)) (fun v13 => k v13 h m3 f c0 c1 m8 m4)) else (none)) else (bnd (x4 + (3 : Int32)) (fun v12 => k v12 h m3 f c0 c1 m8 m4))) else (none))))))
set_option maxHeartbeats 4000000 in
set_option maxRecDepth 100000 in
theorem c_L_law_1786 (l : Launch) (hst : l.stackTraces = false) {p : Program} {e : Env} {s : State} {m0 : MethodId} {below : List Frame} {meth : Method} {c : Code} {b L : Nat} {xs : Nat → Int32} {D : va_G} {cs : Nat → ClassId} {A : Nat → Prop} {Q : State → Prop} {adh ad adf ad0 ad1 adx adu ma : Nat → Nat} {Wf : MM → MM → MM → MM → MM → MM → MM → va_W} (hLh : ∀ m f c0 c1 x u : MM, Ln 8 adh (hsh cs adh ma) (fun z => Wf z m f c0 c1 x u)) (hL : ∀ h f c0 c1 x u : MM, Ln 51 ad (msh cs ad) (fun z => Wf h z f c0 c1 x u)) (hLf : ∀ h m c0 c1 x u : MM, Ln 51 adf (msh cs adf) (fun z => Wf h m z c0 c1 x u)) (hL0 : ∀ h m f c1 x u : MM, Ln 51 ad0 (msh cs ad0) (fun z => Wf h m f z c1 x u)) (hL1 : ∀ h m f c0 x u : MM, Ln 51 ad1 (msh cs ad1) (fun z => Wf h m f c0 z x u)) (hLx : ∀ h m f c0 c1 u : MM, Ln 9 adx (xsh cs adx) (fun z => Wf h m f c0 c1 z u)) (hLu : ∀ h m f c0 c1 x : MM, Ln 1 adu (ush cs) (fun z => Wf h m f c0 c1 x z)) (hAd : ∀ a0_ b0_ a1_ b1_ a2_ b2_ a3_ b3_ a4_ b4_ a5_ b5_ a6_ b6_ : MM, (Wf a0_ a1_ a2_ a3_ a4_ a5_ a6_).map (fun q => q.1) = (Wf b0_ b1_ b2_ b3_ b4_ b5_ b6_).map (fun q => q.1)) (hm1 : ma 1 = ad 24) (hm2 : ma 2 = adf 24) (hm3 : ma 3 = ad0 24) (hm4 : ma 4 = ad1 24) (hLX : LX p s m0 c b L xs D cs A (Wf zMM zMM zMM zMM zMM zMM zMM)) (n : Nat) (k : LKont) (hk : LK p l e s m0 below meth c b D A Q adh adx adu Wf n k) (x4 : Int32) (h : MM) (m : MM) (f : MM) (c0 : MM) (c1 : MM) (x : MM) (u : MM) (cells slots : Nat) (H : Heap) (locs : List Loc) (ls : Array Slot) (hD : D_L_law_1786 L xs k x4 h m f c0 c1 x u = some ()) (hcl : cells + (n + 1) ≤ 601024) (hsl : slots + 6 * (n + 1) ≤ 7293034) (hP : va_P D vwCl (Wf h m f c0 c1 x u) H) (hS : va_S A s.heap H locs) (hl : lv_has ls 8 [(0, .ref b), (1, .ref (adh 0)), (2, .ref (adx 0)), (3, .ref (adu 0)), (4, .int x4)]) : W p l e room_1 s m0 #[Value.ref b] below meth c H locs cells slots Q (F0 m0 1786 ls []) := by
  obtain ⟨hx, hb, hml, hown, hK, hT⟩ := hLX.rest
  obtain ⟨Fx0, hX, hbl, hbA, hD1, hA1⟩ := hLX
  unfold D_L_law_1786 at hD
  refine lv_aload_n hx hb dL_law_1786 rfl (lv_at hl 1 rfl) ?_
  refine lv_aload_n hx hb dL_law_1787 rfl (lv_at hl 0 rfl) ?_
  refine lv_iload hx hb dL_law_1788 (lv_at hl 4 rfl) ?_
  refine lv_iconst (v := (1 : Int32)) hx hb dL_law_1790 (by decide) ?_
  refine lv_iadd hx hb dL_law_1791 ?_
  obtain ⟨h1, hD⟩ := gd_el hD
  refine va_sld hx hb hX hbl hbA hS h1 dL_law_1792 ?_
  refine lv_aload_n hx hb dL_law_1793 rfl (lv_at hl 3 rfl) ?_
  obtain ⟨v2, m3, m4, z5, hD⟩ := b3_el hD
  refine lrL (As := [.ref (adh 0), .int (xs (x4 + (1 : Int32)).toNatClampNeg), .ref (adu 0)]) (rest := []) Fx0 (c_L_look l hst (Wf := fun z0_ z1_ z2_ => Wf z0_ z1_ f c0 c1 x z2_) (fun z1_ z2_ => hLh z1_ f c0 c1 x z2_) (fun z0_ z2_ => hL z0_ f c0 c1 x z2_) (fun z0_ z1_ => hLu z0_ z1_ f c0 c1 x) (fun a0_ b0_ a1_ b1_ a2_ b2_ => hAd a0_ b0_ a1_ b1_ f f c0 c0 c1 c1 x x a2_ b2_) hm1 h m u (xs (x4 + (1 : Int32)).toNatClampNeg) z5) hP (hD1 _ (hAd _ _ _ _ _ _ _ _ _ _ _ _ _ _)) hS (hA1 _ _ (hAd _ _ _ _ _ _ _ _ _ _ _ _ _ _) hS.1) tw_6_87 tw_6_85 tw_6_86 tw_1_0 yd_L_look ⟨(Nat.le_of_ble_eq_true rfl), (Nat.le_of_ble_eq_true rfl)⟩ ⟨show _ + 1 ≤ 601024 by omega, show _ + 6 ≤ 7293034 by omega⟩ rfl hl.1 rfl (Nat.le_of_ble_eq_true rfl) dL_law_1794 (fun H locs hP hS => ?_)
  refine lv_istore (lv' := [(5, .int v2), (0, .ref b), (1, .ref (adh 0)), (2, .ref (adx 0)), (3, .ref (adu 0)), (4, .int x4)]) hx hb dL_law_1797 hl (by decide) rfl (fun ls hl => ?_)
  refine lv_aload_n hx hb dL_law_1799 rfl (lv_at hl 3 rfl) ?_
  refine lv_aload_n hx hb dL_law_1800 rfl (lv_at hl 1 rfl) ?_
  refine lv_iload hx hb dL_law_1801 (lv_at hl 5 rfl) ?_
  refine lv_iconst (v := (1 : Int32)) hx hb dL_law_1803 (by decide) ?_
  refine lv_iadd hx hb dL_law_1804 ?_
  obtain ⟨h6, hD⟩ := gd_el hD
  refine va_sld hx hb hX hbl hbA hS h6 dL_law_1805 ?_
  obtain ⟨v7, m8, z9, hD⟩ := b2_el hD
  refine lrV (Wf := fun z => Wf h m3 f c0 c1 z m4) (mm := x) (As := [.int (xs (x4 + (1 : Int32)).toNatClampNeg)]) (rest := []) Fx0 (c_X10_look l (Wf := fun z0_ => Wf h m3 f c0 c1 z0_ m4) (hLx h m3 f c0 c1 m4) (fun a0_ b0_ => hAd h h m3 m3 f f c0 c0 c1 c1 a0_ b0_ m4 m4) x (xs (x4 + (1 : Int32)).toNatClampNeg) z9) hP (hD1 _ (hAd _ _ _ _ _ _ _ _ _ _ _ _ _ _)) hS (hA1 _ _ (hAd _ _ _ _ _ _ _ _ _ _ _ _ _ _) hS.1) (hLx h m3 f c0 c1 m4) (Nat.le_of_ble_eq_true rfl) (xs0 _ _) rfl tw_8_155 tw_8_152 tw_8_153 tw_8_154 tw_1_13 yd_X10_look ⟨(Nat.le_of_ble_eq_true rfl), (Nat.le_of_ble_eq_true rfl)⟩ ⟨show _ ≤ 601024 by omega, show _ ≤ 7293034 by omega⟩ rfl hl.1 rfl (Nat.le_of_ble_eq_true rfl) dL_law_1806 (fun H locs hP hS => ?_)
  refine lv_istore (lv' := [(6, .int v7), (5, .int v2), (0, .ref b), (1, .ref (adh 0)), (2, .ref (adx 0)), (3, .ref (adu 0)), (4, .int x4)]) hx hb dL_law_1809 hl (by decide) rfl (fun ls hl => ?_)
  refine lv_aload_n hx hb dL_law_1811 rfl (lv_at hl 4 rfl) ?_
  obtain ⟨v10, z11, hD⟩ := b1_el hD
  refine lrV (Wf := fun z => Wf h m3 f c0 c1 z m4) (mm := m8) (As := []) (rest := []) Fx0 (c_X10_thrown l (Wf := fun z0_ => Wf h m3 f c0 c1 z0_ m4) (hLx h m3 f c0 c1 m4) (fun a0_ b0_ => hAd h h m3 m3 f f c0 c0 c1 c1 a0_ b0_ m4 m4) m8 z11) hP (hD1 _ (hAd _ _ _ _ _ _ _ _ _ _ _ _ _ _)) hS (hA1 _ _ (hAd _ _ _ _ _ _ _ _ _ _ _ _ _ _) hS.1) (hLx h m3 f c0 c1 m4) (Nat.le_of_ble_eq_true rfl) (xs0 _ _) rfl tw_7_30 tw_7_27 tw_7_28 tw_7_29 tw_1_13 yd_X10_thrown ⟨(Nat.le_of_ble_eq_true rfl), (Nat.le_of_ble_eq_true rfl)⟩ ⟨show _ ≤ 601024 by omega, show _ ≤ 7293034 by omega⟩ rfl hl.1 rfl (Nat.le_of_ble_eq_true rfl) dL_law_1812 (fun H locs hP hS => ?_)
  refine lv_iload hx hb dL_law_1815 (lv_at hl 1 rfl) ?_
  refine lv_icmp_eq (tgt := 1822) hx hb dL_law_1817 (by decide) (fun c => ?_) (fun c => ?_)
  · have hD := ifp hD c
    refine lv_iload hx hb dL_law_1822 (lv_at hl 1 rfl) ?_
    refine lv_if_ne (tgt := 1839) hx hb dL_law_1824 (by decide) (fun c => ?_) (fun c => ?_)
    · have hD := ifn hD c
      refine lv_goto (tgt := 2964) hx hb dL_law_1839 (by decide) ?_
      obtain ⟨v12, ev12, hD⟩ := bnd_el hD
      refine lv_iinc (v := v12) (lv' := [(4, .int v12), (6, .int v7), (5, .int v2), (0, .ref b), (1, .ref (adh 0)), (2, .ref (adx 0)), (3, .ref (adu 0))]) hx hb dL_law_2964 hl (k := 6) rfl (by rw [ev12]; rfl) (by decide) rfl (fun ls hl => ?_)
      refine lv_goto (tgt := 23) hx hb dL_law_2967 (by decide) ?_
      exact hk v12 h m3 f c0 c1 m8 m4 _ _ _ _ _ hD (show _ + n ≤ 601024 by omega) (show _ + 6 * n ≤ 7293034 by omega) hP hS (lv_sub hl [3, 4, 5, 6, 0] rfl)
    · have hD := ifp hD c
      refine lv_aload_n hx hb dL_law_1827 rfl (lv_at hl 5 rfl) ?_
      refine lv_iconst (v := (0 : Int32)) hx hb dL_law_1828 (by decide) ?_
      refine rlald (Wf := fun z => Wf h m3 f c0 c1 m8 z) (mm := m4) hx hb hK hP (hLu h m3 f c0 c1 m8) 0 (Nat.le_of_ble_eq_true rfl) (us0 _ _) (by decide) (j := 0) (by decide) dL_law_1829 ?_
      refine lv_iload hx hb dL_law_1830 (lv_at hl 0 rfl) ?_
      refine lv_i2l (v := v7.toInt64) hx hb dL_law_1832 rfl ?_
      refine rlc_eq (tgt := 1839) hx hb dL_law_1833 dL_law_1834 (by decide) (fun c => ?_) (fun c => ?_)
      · have hD := ifp hD c
        refine lv_goto (tgt := 2964) hx hb dL_law_1839 (by decide) ?_
        obtain ⟨v13, ev13, hD⟩ := bnd_el hD
        refine lv_iinc (v := v13) (lv' := [(4, .int v13), (6, .int v7), (5, .int v2), (0, .ref b), (1, .ref (adh 0)), (2, .ref (adx 0)), (3, .ref (adu 0))]) hx hb dL_law_2964 hl (k := 6) rfl (by rw [ev13]; rfl) (by decide) rfl (fun ls hl => ?_)
        refine lv_goto (tgt := 23) hx hb dL_law_2967 (by decide) ?_
        exact hk v13 h m3 f c0 c1 m8 m4 _ _ _ _ _ hD (show _ + n ≤ 601024 by omega) (show _ + 6 * n ≤ 7293034 by omega) hP hS (lv_sub hl [3, 4, 5, 6, 0] rfl)
      · have hD := ifn hD c
        refine lv_iconst (v := (0 : Int32)) hx hb dL_law_1837 (by decide) ?_
        exact nn_el hD
  · have hD := ifn hD c
    refine lv_iconst (v := (0 : Int32)) hx hb dL_law_1820 (by decide) ?_
    exact nn_el hD
noncomputable def D_L_law_1842 (L : Nat) (xs : Nat → Int32) (k : LKont) (x4 : Int32) (h : MM) (m : MM) (f : MM) (c0 : MM) (c1 : MM) (x : MM) (u : MM) : Option Unit := if (x4 + (1 : Int32)) < 0 ∨ L ≤ (x4 + (1 : Int32)).toNatClampNeg then none else (if (x4 + (2 : Int32)) < 0 ∨ L ≤ (x4 + (2 : Int32)).toNatClampNeg then none else (b3 (D_L_place (xs (x4 + (1 : Int32)).toNatClampNeg) (xs (x4 + (2 : Int32)).toNatClampNeg) h m u) (fun v3 m4 m5 => if (x4 + (1 : Int32)) < 0 ∨ L ≤ (x4 + (1 : Int32)).toNatClampNeg then none else (if (x4 + (2 : Int32)) < 0 ∨ L ≤ (x4 + (2 : Int32)).toNatClampNeg then none else (b2 (D_X10_place (xs (x4 + (1 : Int32)).toNatClampNeg) (xs (x4 + (2 : Int32)).toNatClampNeg) x) (fun v9 m10 => b1 (D_X10_thrown m10) (fun v12 => if v12 = v3 then (if v3 = 0 then (if (gl m5 0 0) = v9.toInt64 then (bnd (x4 + (3 : Int32)) (fun v15 => k v15 h m4 f c0 c1 m10 m5)) else (none)) else (bnd (x4 + (3 : Int32)) (fun v14 => k v14 h m4 f c0 c1 m10 m5))) else (none))))))))
set_option maxHeartbeats 4000000 in
set_option maxRecDepth 100000 in
theorem c_L_law_1842 (l : Launch) (hst : l.stackTraces = false) {p : Program} {e : Env} {s : State} {m0 : MethodId} {below : List Frame} {meth : Method} {c : Code} {b L : Nat} {xs : Nat → Int32} {D : va_G} {cs : Nat → ClassId} {A : Nat → Prop} {Q : State → Prop} {adh ad adf ad0 ad1 adx adu ma : Nat → Nat} {Wf : MM → MM → MM → MM → MM → MM → MM → va_W} (hLh : ∀ m f c0 c1 x u : MM, Ln 8 adh (hsh cs adh ma) (fun z => Wf z m f c0 c1 x u)) (hL : ∀ h f c0 c1 x u : MM, Ln 51 ad (msh cs ad) (fun z => Wf h z f c0 c1 x u)) (hLf : ∀ h m c0 c1 x u : MM, Ln 51 adf (msh cs adf) (fun z => Wf h m z c0 c1 x u)) (hL0 : ∀ h m f c1 x u : MM, Ln 51 ad0 (msh cs ad0) (fun z => Wf h m f z c1 x u)) (hL1 : ∀ h m f c0 x u : MM, Ln 51 ad1 (msh cs ad1) (fun z => Wf h m f c0 z x u)) (hLx : ∀ h m f c0 c1 u : MM, Ln 9 adx (xsh cs adx) (fun z => Wf h m f c0 c1 z u)) (hLu : ∀ h m f c0 c1 x : MM, Ln 1 adu (ush cs) (fun z => Wf h m f c0 c1 x z)) (hAd : ∀ a0_ b0_ a1_ b1_ a2_ b2_ a3_ b3_ a4_ b4_ a5_ b5_ a6_ b6_ : MM, (Wf a0_ a1_ a2_ a3_ a4_ a5_ a6_).map (fun q => q.1) = (Wf b0_ b1_ b2_ b3_ b4_ b5_ b6_).map (fun q => q.1)) (hm1 : ma 1 = ad 24) (hm2 : ma 2 = adf 24) (hm3 : ma 3 = ad0 24) (hm4 : ma 4 = ad1 24) (hLX : LX p s m0 c b L xs D cs A (Wf zMM zMM zMM zMM zMM zMM zMM)) (n : Nat) (k : LKont) (hk : LK p l e s m0 below meth c b D A Q adh adx adu Wf n k) (x4 : Int32) (h : MM) (m : MM) (f : MM) (c0 : MM) (c1 : MM) (x : MM) (u : MM) (cells slots : Nat) (H : Heap) (locs : List Loc) (ls : Array Slot) (hD : D_L_law_1842 L xs k x4 h m f c0 c1 x u = some ()) (hcl : cells + (n + 1) ≤ 601024) (hsl : slots + 6 * (n + 1) ≤ 7293034) (hP : va_P D vwCl (Wf h m f c0 c1 x u) H) (hS : va_S A s.heap H locs) (hl : lv_has ls 8 [(0, .ref b), (1, .ref (adh 0)), (2, .ref (adx 0)), (3, .ref (adu 0)), (4, .int x4)]) : W p l e room_1 s m0 #[Value.ref b] below meth c H locs cells slots Q (F0 m0 1842 ls []) := by
  obtain ⟨hx, hb, hml, hown, hK, hT⟩ := hLX.rest
  obtain ⟨Fx0, hX, hbl, hbA, hD1, hA1⟩ := hLX
  unfold D_L_law_1842 at hD
  refine lv_aload_n hx hb dL_law_1842 rfl (lv_at hl 1 rfl) ?_
  refine lv_aload_n hx hb dL_law_1843 rfl (lv_at hl 0 rfl) ?_
  refine lv_iload hx hb dL_law_1844 (lv_at hl 4 rfl) ?_
  refine lv_iconst (v := (1 : Int32)) hx hb dL_law_1846 (by decide) ?_
  refine lv_iadd hx hb dL_law_1847 ?_
  obtain ⟨h1, hD⟩ := gd_el hD
  refine va_sld hx hb hX hbl hbA hS h1 dL_law_1848 ?_
  refine lv_aload_n hx hb dL_law_1849 rfl (lv_at hl 0 rfl) ?_
  refine lv_iload hx hb dL_law_1850 (lv_at hl 4 rfl) ?_
  refine lv_iconst (v := (2 : Int32)) hx hb dL_law_1852 (by decide) ?_
  refine lv_iadd hx hb dL_law_1853 ?_
  obtain ⟨h2, hD⟩ := gd_el hD
  refine va_sld hx hb hX hbl hbA hS h2 dL_law_1854 ?_
  refine lv_aload_n hx hb dL_law_1855 rfl (lv_at hl 3 rfl) ?_
  obtain ⟨v3, m4, m5, z6, hD⟩ := b3_el hD
  refine lrL (As := [.ref (adh 0), .int (xs (x4 + (1 : Int32)).toNatClampNeg), .int (xs (x4 + (2 : Int32)).toNatClampNeg), .ref (adu 0)]) (rest := []) Fx0 (c_L_place l hst (Wf := fun z0_ z1_ z2_ => Wf z0_ z1_ f c0 c1 x z2_) (fun z1_ z2_ => hLh z1_ f c0 c1 x z2_) (fun z0_ z2_ => hL z0_ f c0 c1 x z2_) (fun z0_ z1_ => hLu z0_ z1_ f c0 c1 x) (fun a0_ b0_ a1_ b1_ a2_ b2_ => hAd a0_ b0_ a1_ b1_ f f c0 c0 c1 c1 x x a2_ b2_) hm1 h m u (xs (x4 + (1 : Int32)).toNatClampNeg) (xs (x4 + (2 : Int32)).toNatClampNeg) z6) hP (hD1 _ (hAd _ _ _ _ _ _ _ _ _ _ _ _ _ _)) hS (hA1 _ _ (hAd _ _ _ _ _ _ _ _ _ _ _ _ _ _) hS.1) tw_6_94 tw_6_92 tw_6_93 tw_1_0 yd_L_place ⟨(Nat.le_of_ble_eq_true rfl), (Nat.le_of_ble_eq_true rfl)⟩ ⟨show _ + 1 ≤ 601024 by omega, show _ + 6 ≤ 7293034 by omega⟩ rfl hl.1 rfl (Nat.le_of_ble_eq_true rfl) dL_law_1856 (fun H locs hP hS => ?_)
  refine lv_istore (lv' := [(5, .int v3), (0, .ref b), (1, .ref (adh 0)), (2, .ref (adx 0)), (3, .ref (adu 0)), (4, .int x4)]) hx hb dL_law_1859 hl (by decide) rfl (fun ls hl => ?_)
  refine lv_aload_n hx hb dL_law_1861 rfl (lv_at hl 3 rfl) ?_
  refine lv_aload_n hx hb dL_law_1862 rfl (lv_at hl 1 rfl) ?_
  refine lv_iload hx hb dL_law_1863 (lv_at hl 5 rfl) ?_
  refine lv_iconst (v := (1 : Int32)) hx hb dL_law_1865 (by decide) ?_
  refine lv_iadd hx hb dL_law_1866 ?_
  obtain ⟨h7, hD⟩ := gd_el hD
  refine va_sld hx hb hX hbl hbA hS h7 dL_law_1867 ?_
  refine lv_aload_n hx hb dL_law_1868 rfl (lv_at hl 1 rfl) ?_
  refine lv_iload hx hb dL_law_1869 (lv_at hl 5 rfl) ?_
  refine lv_iconst (v := (2 : Int32)) hx hb dL_law_1871 (by decide) ?_
  refine lv_iadd hx hb dL_law_1872 ?_
  obtain ⟨h8, hD⟩ := gd_el hD
  refine va_sld hx hb hX hbl hbA hS h8 dL_law_1873 ?_
  obtain ⟨v9, m10, z11, hD⟩ := b2_el hD
  refine lrV (Wf := fun z => Wf h m4 f c0 c1 z m5) (mm := x) (As := [.int (xs (x4 + (1 : Int32)).toNatClampNeg), .int (xs (x4 + (2 : Int32)).toNatClampNeg)]) (rest := []) Fx0 (c_X10_place l (Wf := fun z0_ => Wf h m4 f c0 c1 z0_ m5) (hLx h m4 f c0 c1 m5) (fun a0_ b0_ => hAd h h m4 m4 f f c0 c0 c1 c1 a0_ b0_ m5 m5) x (xs (x4 + (1 : Int32)).toNatClampNeg) (xs (x4 + (2 : Int32)).toNatClampNeg) z11) hP (hD1 _ (hAd _ _ _ _ _ _ _ _ _ _ _ _ _ _)) hS (hA1 _ _ (hAd _ _ _ _ _ _ _ _ _ _ _ _ _ _) hS.1) (hLx h m4 f c0 c1 m5) (Nat.le_of_ble_eq_true rfl) (xs0 _ _) rfl tw_8_171 tw_8_168 tw_8_169 tw_8_170 tw_1_13 yd_X10_place ⟨(Nat.le_of_ble_eq_true rfl), (Nat.le_of_ble_eq_true rfl)⟩ ⟨show _ ≤ 601024 by omega, show _ ≤ 7293034 by omega⟩ rfl hl.1 rfl (Nat.le_of_ble_eq_true rfl) dL_law_1874 (fun H locs hP hS => ?_)
  refine lv_istore (lv' := [(6, .int v9), (5, .int v3), (0, .ref b), (1, .ref (adh 0)), (2, .ref (adx 0)), (3, .ref (adu 0)), (4, .int x4)]) hx hb dL_law_1877 hl (by decide) rfl (fun ls hl => ?_)
  refine lv_aload_n hx hb dL_law_1879 rfl (lv_at hl 4 rfl) ?_
  obtain ⟨v12, z13, hD⟩ := b1_el hD
  refine lrV (Wf := fun z => Wf h m4 f c0 c1 z m5) (mm := m10) (As := []) (rest := []) Fx0 (c_X10_thrown l (Wf := fun z0_ => Wf h m4 f c0 c1 z0_ m5) (hLx h m4 f c0 c1 m5) (fun a0_ b0_ => hAd h h m4 m4 f f c0 c0 c1 c1 a0_ b0_ m5 m5) m10 z13) hP (hD1 _ (hAd _ _ _ _ _ _ _ _ _ _ _ _ _ _)) hS (hA1 _ _ (hAd _ _ _ _ _ _ _ _ _ _ _ _ _ _) hS.1) (hLx h m4 f c0 c1 m5) (Nat.le_of_ble_eq_true rfl) (xs0 _ _) rfl tw_7_30 tw_7_27 tw_7_28 tw_7_29 tw_1_13 yd_X10_thrown ⟨(Nat.le_of_ble_eq_true rfl), (Nat.le_of_ble_eq_true rfl)⟩ ⟨show _ ≤ 601024 by omega, show _ ≤ 7293034 by omega⟩ rfl hl.1 rfl (Nat.le_of_ble_eq_true rfl) dL_law_1880 (fun H locs hP hS => ?_)
  refine lv_iload hx hb dL_law_1883 (lv_at hl 1 rfl) ?_
  refine lv_icmp_eq (tgt := 1890) hx hb dL_law_1885 (by decide) (fun c => ?_) (fun c => ?_)
  · have hD := ifp hD c
    refine lv_iload hx hb dL_law_1890 (lv_at hl 1 rfl) ?_
    refine lv_if_ne (tgt := 1907) hx hb dL_law_1892 (by decide) (fun c => ?_) (fun c => ?_)
    · have hD := ifn hD c
      refine lv_goto (tgt := 2964) hx hb dL_law_1907 (by decide) ?_
      obtain ⟨v14, ev14, hD⟩ := bnd_el hD
      refine lv_iinc (v := v14) (lv' := [(4, .int v14), (6, .int v9), (5, .int v3), (0, .ref b), (1, .ref (adh 0)), (2, .ref (adx 0)), (3, .ref (adu 0))]) hx hb dL_law_2964 hl (k := 6) rfl (by rw [ev14]; rfl) (by decide) rfl (fun ls hl => ?_)
      refine lv_goto (tgt := 23) hx hb dL_law_2967 (by decide) ?_
      exact hk v14 h m4 f c0 c1 m10 m5 _ _ _ _ _ hD (show _ + n ≤ 601024 by omega) (show _ + 6 * n ≤ 7293034 by omega) hP hS (lv_sub hl [3, 4, 5, 6, 0] rfl)
    · have hD := ifp hD c
      refine lv_aload_n hx hb dL_law_1895 rfl (lv_at hl 5 rfl) ?_
      refine lv_iconst (v := (0 : Int32)) hx hb dL_law_1896 (by decide) ?_
      refine rlald (Wf := fun z => Wf h m4 f c0 c1 m10 z) (mm := m5) hx hb hK hP (hLu h m4 f c0 c1 m10) 0 (Nat.le_of_ble_eq_true rfl) (us0 _ _) (by decide) (j := 0) (by decide) dL_law_1897 ?_
      refine lv_iload hx hb dL_law_1898 (lv_at hl 0 rfl) ?_
      refine lv_i2l (v := v9.toInt64) hx hb dL_law_1900 rfl ?_
      refine rlc_eq (tgt := 1907) hx hb dL_law_1901 dL_law_1902 (by decide) (fun c => ?_) (fun c => ?_)
      · have hD := ifp hD c
        refine lv_goto (tgt := 2964) hx hb dL_law_1907 (by decide) ?_
        obtain ⟨v15, ev15, hD⟩ := bnd_el hD
        refine lv_iinc (v := v15) (lv' := [(4, .int v15), (6, .int v9), (5, .int v3), (0, .ref b), (1, .ref (adh 0)), (2, .ref (adx 0)), (3, .ref (adu 0))]) hx hb dL_law_2964 hl (k := 6) rfl (by rw [ev15]; rfl) (by decide) rfl (fun ls hl => ?_)
        refine lv_goto (tgt := 23) hx hb dL_law_2967 (by decide) ?_
        exact hk v15 h m4 f c0 c1 m10 m5 _ _ _ _ _ hD (show _ + n ≤ 601024 by omega) (show _ + 6 * n ≤ 7293034 by omega) hP hS (lv_sub hl [3, 4, 5, 6, 0] rfl)
      · have hD := ifn hD c
        refine lv_iconst (v := (0 : Int32)) hx hb dL_law_1905 (by decide) ?_
        exact nn_el hD
  · have hD := ifn hD c
    refine lv_iconst (v := (0 : Int32)) hx hb dL_law_1888 (by decide) ?_
    exact nn_el hD
noncomputable def D_L_law_1910 (L : Nat) (xs : Nat → Int32) (k : LKont) (x4 : Int32) (h : MM) (m : MM) (f : MM) (c0 : MM) (c1 : MM) (x : MM) (u : MM) : Option Unit := if (x4 + (1 : Int32)) < 0 ∨ L ≤ (x4 + (1 : Int32)).toNatClampNeg then none else (b3 (D_L_discard (xs (x4 + (1 : Int32)).toNatClampNeg) h m u) (fun v2 m3 m4 => if (x4 + (1 : Int32)) < 0 ∨ L ≤ (x4 + (1 : Int32)).toNatClampNeg then none else (b2 (D_X10_discard (xs (x4 + (1 : Int32)).toNatClampNeg) x) (fun v7 m8 => b1 (D_X10_thrown m8) (fun v10 => if v10 = v2 then (if v2 = 0 then (if (gl m4 0 0) = v7.toInt64 then (bnd (x4 + (3 : Int32)) (fun v13 => k v13 h m3 f c0 c1 m8 m4)) else (none)) else (bnd (x4 + (3 : Int32)) (fun v12 => k v12 h m3 f c0 c1 m8 m4))) else (none))))))
set_option maxHeartbeats 4000000 in
set_option maxRecDepth 100000 in
theorem c_L_law_1910 (l : Launch) (hst : l.stackTraces = false) {p : Program} {e : Env} {s : State} {m0 : MethodId} {below : List Frame} {meth : Method} {c : Code} {b L : Nat} {xs : Nat → Int32} {D : va_G} {cs : Nat → ClassId} {A : Nat → Prop} {Q : State → Prop} {adh ad adf ad0 ad1 adx adu ma : Nat → Nat} {Wf : MM → MM → MM → MM → MM → MM → MM → va_W} (hLh : ∀ m f c0 c1 x u : MM, Ln 8 adh (hsh cs adh ma) (fun z => Wf z m f c0 c1 x u)) (hL : ∀ h f c0 c1 x u : MM, Ln 51 ad (msh cs ad) (fun z => Wf h z f c0 c1 x u)) (hLf : ∀ h m c0 c1 x u : MM, Ln 51 adf (msh cs adf) (fun z => Wf h m z c0 c1 x u)) (hL0 : ∀ h m f c1 x u : MM, Ln 51 ad0 (msh cs ad0) (fun z => Wf h m f z c1 x u)) (hL1 : ∀ h m f c0 x u : MM, Ln 51 ad1 (msh cs ad1) (fun z => Wf h m f c0 z x u)) (hLx : ∀ h m f c0 c1 u : MM, Ln 9 adx (xsh cs adx) (fun z => Wf h m f c0 c1 z u)) (hLu : ∀ h m f c0 c1 x : MM, Ln 1 adu (ush cs) (fun z => Wf h m f c0 c1 x z)) (hAd : ∀ a0_ b0_ a1_ b1_ a2_ b2_ a3_ b3_ a4_ b4_ a5_ b5_ a6_ b6_ : MM, (Wf a0_ a1_ a2_ a3_ a4_ a5_ a6_).map (fun q => q.1) = (Wf b0_ b1_ b2_ b3_ b4_ b5_ b6_).map (fun q => q.1)) (hm1 : ma 1 = ad 24) (hm2 : ma 2 = adf 24) (hm3 : ma 3 = ad0 24) (hm4 : ma 4 = ad1 24) (hLX : LX p s m0 c b L xs D cs A (Wf zMM zMM zMM zMM zMM zMM zMM)) (n : Nat) (k : LKont) (hk : LK p l e s m0 below meth c b D A Q adh adx adu Wf n k) (x4 : Int32) (h : MM) (m : MM) (f : MM) (c0 : MM) (c1 : MM) (x : MM) (u : MM) (cells slots : Nat) (H : Heap) (locs : List Loc) (ls : Array Slot) (hD : D_L_law_1910 L xs k x4 h m f c0 c1 x u = some ()) (hcl : cells + (n + 1) ≤ 601024) (hsl : slots + 6 * (n + 1) ≤ 7293034) (hP : va_P D vwCl (Wf h m f c0 c1 x u) H) (hS : va_S A s.heap H locs) (hl : lv_has ls 8 [(0, .ref b), (1, .ref (adh 0)), (2, .ref (adx 0)), (3, .ref (adu 0)), (4, .int x4)]) : W p l e room_1 s m0 #[Value.ref b] below meth c H locs cells slots Q (F0 m0 1910 ls []) := by
  obtain ⟨hx, hb, hml, hown, hK, hT⟩ := hLX.rest
  obtain ⟨Fx0, hX, hbl, hbA, hD1, hA1⟩ := hLX
  unfold D_L_law_1910 at hD
  refine lv_aload_n hx hb dL_law_1910 rfl (lv_at hl 1 rfl) ?_
  refine lv_aload_n hx hb dL_law_1911 rfl (lv_at hl 0 rfl) ?_
  refine lv_iload hx hb dL_law_1912 (lv_at hl 4 rfl) ?_
  refine lv_iconst (v := (1 : Int32)) hx hb dL_law_1914 (by decide) ?_
  refine lv_iadd hx hb dL_law_1915 ?_
  obtain ⟨h1, hD⟩ := gd_el hD
  refine va_sld hx hb hX hbl hbA hS h1 dL_law_1916 ?_
  refine lv_aload_n hx hb dL_law_1917 rfl (lv_at hl 3 rfl) ?_
  obtain ⟨v2, m3, m4, z5, hD⟩ := b3_el hD
  refine lrL (As := [.ref (adh 0), .int (xs (x4 + (1 : Int32)).toNatClampNeg), .ref (adu 0)]) (rest := []) Fx0 (c_L_discard l hst (Wf := fun z0_ z1_ z2_ => Wf z0_ z1_ f c0 c1 x z2_) (fun z1_ z2_ => hLh z1_ f c0 c1 x z2_) (fun z0_ z2_ => hL z0_ f c0 c1 x z2_) (fun z0_ z1_ => hLu z0_ z1_ f c0 c1 x) (fun a0_ b0_ a1_ b1_ a2_ b2_ => hAd a0_ b0_ a1_ b1_ f f c0 c0 c1 c1 x x a2_ b2_) hm1 h m u (xs (x4 + (1 : Int32)).toNatClampNeg) z5) hP (hD1 _ (hAd _ _ _ _ _ _ _ _ _ _ _ _ _ _)) hS (hA1 _ _ (hAd _ _ _ _ _ _ _ _ _ _ _ _ _ _) hS.1) tw_6_101 tw_6_99 tw_6_100 tw_1_0 yd_L_discard ⟨(Nat.le_of_ble_eq_true rfl), (Nat.le_of_ble_eq_true rfl)⟩ ⟨show _ + 1 ≤ 601024 by omega, show _ + 6 ≤ 7293034 by omega⟩ rfl hl.1 rfl (Nat.le_of_ble_eq_true rfl) dL_law_1918 (fun H locs hP hS => ?_)
  refine lv_istore (lv' := [(5, .int v2), (0, .ref b), (1, .ref (adh 0)), (2, .ref (adx 0)), (3, .ref (adu 0)), (4, .int x4)]) hx hb dL_law_1921 hl (by decide) rfl (fun ls hl => ?_)
  refine lv_aload_n hx hb dL_law_1923 rfl (lv_at hl 3 rfl) ?_
  refine lv_aload_n hx hb dL_law_1924 rfl (lv_at hl 1 rfl) ?_
  refine lv_iload hx hb dL_law_1925 (lv_at hl 5 rfl) ?_
  refine lv_iconst (v := (1 : Int32)) hx hb dL_law_1927 (by decide) ?_
  refine lv_iadd hx hb dL_law_1928 ?_
  obtain ⟨h6, hD⟩ := gd_el hD
  refine va_sld hx hb hX hbl hbA hS h6 dL_law_1929 ?_
  obtain ⟨v7, m8, z9, hD⟩ := b2_el hD
  refine lrV (Wf := fun z => Wf h m3 f c0 c1 z m4) (mm := x) (As := [.int (xs (x4 + (1 : Int32)).toNatClampNeg)]) (rest := []) Fx0 (c_X10_discard l (Wf := fun z0_ => Wf h m3 f c0 c1 z0_ m4) (hLx h m3 f c0 c1 m4) (fun a0_ b0_ => hAd h h m3 m3 f f c0 c0 c1 c1 a0_ b0_ m4 m4) x (xs (x4 + (1 : Int32)).toNatClampNeg) z9) hP (hD1 _ (hAd _ _ _ _ _ _ _ _ _ _ _ _ _ _)) hS (hA1 _ _ (hAd _ _ _ _ _ _ _ _ _ _ _ _ _ _) hS.1) (hLx h m3 f c0 c1 m4) (Nat.le_of_ble_eq_true rfl) (xs0 _ _) rfl tw_8_179 tw_8_176 tw_8_177 tw_8_178 tw_1_13 yd_X10_discard ⟨(Nat.le_of_ble_eq_true rfl), (Nat.le_of_ble_eq_true rfl)⟩ ⟨show _ ≤ 601024 by omega, show _ ≤ 7293034 by omega⟩ rfl hl.1 rfl (Nat.le_of_ble_eq_true rfl) dL_law_1930 (fun H locs hP hS => ?_)
  refine lv_istore (lv' := [(6, .int v7), (5, .int v2), (0, .ref b), (1, .ref (adh 0)), (2, .ref (adx 0)), (3, .ref (adu 0)), (4, .int x4)]) hx hb dL_law_1933 hl (by decide) rfl (fun ls hl => ?_)
  refine lv_aload_n hx hb dL_law_1935 rfl (lv_at hl 4 rfl) ?_
  obtain ⟨v10, z11, hD⟩ := b1_el hD
  refine lrV (Wf := fun z => Wf h m3 f c0 c1 z m4) (mm := m8) (As := []) (rest := []) Fx0 (c_X10_thrown l (Wf := fun z0_ => Wf h m3 f c0 c1 z0_ m4) (hLx h m3 f c0 c1 m4) (fun a0_ b0_ => hAd h h m3 m3 f f c0 c0 c1 c1 a0_ b0_ m4 m4) m8 z11) hP (hD1 _ (hAd _ _ _ _ _ _ _ _ _ _ _ _ _ _)) hS (hA1 _ _ (hAd _ _ _ _ _ _ _ _ _ _ _ _ _ _) hS.1) (hLx h m3 f c0 c1 m4) (Nat.le_of_ble_eq_true rfl) (xs0 _ _) rfl tw_7_30 tw_7_27 tw_7_28 tw_7_29 tw_1_13 yd_X10_thrown ⟨(Nat.le_of_ble_eq_true rfl), (Nat.le_of_ble_eq_true rfl)⟩ ⟨show _ ≤ 601024 by omega, show _ ≤ 7293034 by omega⟩ rfl hl.1 rfl (Nat.le_of_ble_eq_true rfl) dL_law_1936 (fun H locs hP hS => ?_)
  refine lv_iload hx hb dL_law_1939 (lv_at hl 1 rfl) ?_
  refine lv_icmp_eq (tgt := 1946) hx hb dL_law_1941 (by decide) (fun c => ?_) (fun c => ?_)
  · have hD := ifp hD c
    refine lv_iload hx hb dL_law_1946 (lv_at hl 1 rfl) ?_
    refine lv_if_ne (tgt := 1963) hx hb dL_law_1948 (by decide) (fun c => ?_) (fun c => ?_)
    · have hD := ifn hD c
      refine lv_goto (tgt := 2964) hx hb dL_law_1963 (by decide) ?_
      obtain ⟨v12, ev12, hD⟩ := bnd_el hD
      refine lv_iinc (v := v12) (lv' := [(4, .int v12), (6, .int v7), (5, .int v2), (0, .ref b), (1, .ref (adh 0)), (2, .ref (adx 0)), (3, .ref (adu 0))]) hx hb dL_law_2964 hl (k := 6) rfl (by rw [ev12]; rfl) (by decide) rfl (fun ls hl => ?_)
      refine lv_goto (tgt := 23) hx hb dL_law_2967 (by decide) ?_
      exact hk v12 h m3 f c0 c1 m8 m4 _ _ _ _ _ hD (show _ + n ≤ 601024 by omega) (show _ + 6 * n ≤ 7293034 by omega) hP hS (lv_sub hl [3, 4, 5, 6, 0] rfl)
    · have hD := ifp hD c
      refine lv_aload_n hx hb dL_law_1951 rfl (lv_at hl 5 rfl) ?_
      refine lv_iconst (v := (0 : Int32)) hx hb dL_law_1952 (by decide) ?_
      refine rlald (Wf := fun z => Wf h m3 f c0 c1 m8 z) (mm := m4) hx hb hK hP (hLu h m3 f c0 c1 m8) 0 (Nat.le_of_ble_eq_true rfl) (us0 _ _) (by decide) (j := 0) (by decide) dL_law_1953 ?_
      refine lv_iload hx hb dL_law_1954 (lv_at hl 0 rfl) ?_
      refine lv_i2l (v := v7.toInt64) hx hb dL_law_1956 rfl ?_
      refine rlc_eq (tgt := 1963) hx hb dL_law_1957 dL_law_1958 (by decide) (fun c => ?_) (fun c => ?_)
      · have hD := ifp hD c
        refine lv_goto (tgt := 2964) hx hb dL_law_1963 (by decide) ?_
        obtain ⟨v13, ev13, hD⟩ := bnd_el hD
        refine lv_iinc (v := v13) (lv' := [(4, .int v13), (6, .int v7), (5, .int v2), (0, .ref b), (1, .ref (adh 0)), (2, .ref (adx 0)), (3, .ref (adu 0))]) hx hb dL_law_2964 hl (k := 6) rfl (by rw [ev13]; rfl) (by decide) rfl (fun ls hl => ?_)
        refine lv_goto (tgt := 23) hx hb dL_law_2967 (by decide) ?_
        exact hk v13 h m3 f c0 c1 m8 m4 _ _ _ _ _ hD (show _ + n ≤ 601024 by omega) (show _ + 6 * n ≤ 7293034 by omega) hP hS (lv_sub hl [3, 4, 5, 6, 0] rfl)
      · have hD := ifn hD c
        refine lv_iconst (v := (0 : Int32)) hx hb dL_law_1961 (by decide) ?_
        exact nn_el hD
  · have hD := ifn hD c
    refine lv_iconst (v := (0 : Int32)) hx hb dL_law_1944 (by decide) ?_
    exact nn_el hD
noncomputable def D_L_law_1966 (L : Nat) (xs : Nat → Int32) (k : LKont) (x4 : Int32) (h : MM) (m : MM) (f : MM) (c0 : MM) (c1 : MM) (x : MM) (u : MM) : Option Unit := if (x4 + (1 : Int32)) < 0 ∨ L ≤ (x4 + (1 : Int32)).toNatClampNeg then none else (b3 (D_L_clean (xs (x4 + (1 : Int32)).toNatClampNeg) h m u) (fun v2 m3 m4 => if (x4 + (1 : Int32)) < 0 ∨ L ≤ (x4 + (1 : Int32)).toNatClampNeg then none else (b2 (D_X10_clean (xs (x4 + (1 : Int32)).toNatClampNeg) x) (fun v7 m8 => b1 (D_X10_thrown m8) (fun v10 => if v10 = v2 then (if v2 = 0 then (if (gl m4 0 0) = v7.toInt64 then (bnd (x4 + (3 : Int32)) (fun v13 => k v13 h m3 f c0 c1 m8 m4)) else (none)) else (bnd (x4 + (3 : Int32)) (fun v12 => k v12 h m3 f c0 c1 m8 m4))) else (none))))))
set_option maxHeartbeats 4000000 in
set_option maxRecDepth 100000 in
theorem c_L_law_1966 (l : Launch) (hst : l.stackTraces = false) {p : Program} {e : Env} {s : State} {m0 : MethodId} {below : List Frame} {meth : Method} {c : Code} {b L : Nat} {xs : Nat → Int32} {D : va_G} {cs : Nat → ClassId} {A : Nat → Prop} {Q : State → Prop} {adh ad adf ad0 ad1 adx adu ma : Nat → Nat} {Wf : MM → MM → MM → MM → MM → MM → MM → va_W} (hLh : ∀ m f c0 c1 x u : MM, Ln 8 adh (hsh cs adh ma) (fun z => Wf z m f c0 c1 x u)) (hL : ∀ h f c0 c1 x u : MM, Ln 51 ad (msh cs ad) (fun z => Wf h z f c0 c1 x u)) (hLf : ∀ h m c0 c1 x u : MM, Ln 51 adf (msh cs adf) (fun z => Wf h m z c0 c1 x u)) (hL0 : ∀ h m f c1 x u : MM, Ln 51 ad0 (msh cs ad0) (fun z => Wf h m f z c1 x u)) (hL1 : ∀ h m f c0 x u : MM, Ln 51 ad1 (msh cs ad1) (fun z => Wf h m f c0 z x u)) (hLx : ∀ h m f c0 c1 u : MM, Ln 9 adx (xsh cs adx) (fun z => Wf h m f c0 c1 z u)) (hLu : ∀ h m f c0 c1 x : MM, Ln 1 adu (ush cs) (fun z => Wf h m f c0 c1 x z)) (hAd : ∀ a0_ b0_ a1_ b1_ a2_ b2_ a3_ b3_ a4_ b4_ a5_ b5_ a6_ b6_ : MM, (Wf a0_ a1_ a2_ a3_ a4_ a5_ a6_).map (fun q => q.1) = (Wf b0_ b1_ b2_ b3_ b4_ b5_ b6_).map (fun q => q.1)) (hm1 : ma 1 = ad 24) (hm2 : ma 2 = adf 24) (hm3 : ma 3 = ad0 24) (hm4 : ma 4 = ad1 24) (hLX : LX p s m0 c b L xs D cs A (Wf zMM zMM zMM zMM zMM zMM zMM)) (n : Nat) (k : LKont) (hk : LK p l e s m0 below meth c b D A Q adh adx adu Wf n k) (x4 : Int32) (h : MM) (m : MM) (f : MM) (c0 : MM) (c1 : MM) (x : MM) (u : MM) (cells slots : Nat) (H : Heap) (locs : List Loc) (ls : Array Slot) (hD : D_L_law_1966 L xs k x4 h m f c0 c1 x u = some ()) (hcl : cells + (n + 1) ≤ 601024) (hsl : slots + 6 * (n + 1) ≤ 7293034) (hP : va_P D vwCl (Wf h m f c0 c1 x u) H) (hS : va_S A s.heap H locs) (hl : lv_has ls 8 [(0, .ref b), (1, .ref (adh 0)), (2, .ref (adx 0)), (3, .ref (adu 0)), (4, .int x4)]) : W p l e room_1 s m0 #[Value.ref b] below meth c H locs cells slots Q (F0 m0 1966 ls []) := by
  obtain ⟨hx, hb, hml, hown, hK, hT⟩ := hLX.rest
  obtain ⟨Fx0, hX, hbl, hbA, hD1, hA1⟩ := hLX
  unfold D_L_law_1966 at hD
  refine lv_aload_n hx hb dL_law_1966 rfl (lv_at hl 1 rfl) ?_
  refine lv_aload_n hx hb dL_law_1967 rfl (lv_at hl 0 rfl) ?_
  refine lv_iload hx hb dL_law_1968 (lv_at hl 4 rfl) ?_
  refine lv_iconst (v := (1 : Int32)) hx hb dL_law_1970 (by decide) ?_
  refine lv_iadd hx hb dL_law_1971 ?_
  obtain ⟨h1, hD⟩ := gd_el hD
  refine va_sld hx hb hX hbl hbA hS h1 dL_law_1972 ?_
  refine lv_aload_n hx hb dL_law_1973 rfl (lv_at hl 3 rfl) ?_
  obtain ⟨v2, m3, m4, z5, hD⟩ := b3_el hD
  refine lrL (As := [.ref (adh 0), .int (xs (x4 + (1 : Int32)).toNatClampNeg), .ref (adu 0)]) (rest := []) Fx0 (c_L_clean l hst (Wf := fun z0_ z1_ z2_ => Wf z0_ z1_ f c0 c1 x z2_) (fun z1_ z2_ => hLh z1_ f c0 c1 x z2_) (fun z0_ z2_ => hL z0_ f c0 c1 x z2_) (fun z0_ z1_ => hLu z0_ z1_ f c0 c1 x) (fun a0_ b0_ a1_ b1_ a2_ b2_ => hAd a0_ b0_ a1_ b1_ f f c0 c0 c1 c1 x x a2_ b2_) hm1 h m u (xs (x4 + (1 : Int32)).toNatClampNeg) z5) hP (hD1 _ (hAd _ _ _ _ _ _ _ _ _ _ _ _ _ _)) hS (hA1 _ _ (hAd _ _ _ _ _ _ _ _ _ _ _ _ _ _) hS.1) tw_6_108 tw_6_106 tw_6_107 tw_1_0 yd_L_clean ⟨(Nat.le_of_ble_eq_true rfl), (Nat.le_of_ble_eq_true rfl)⟩ ⟨show _ + 1 ≤ 601024 by omega, show _ + 6 ≤ 7293034 by omega⟩ rfl hl.1 rfl (Nat.le_of_ble_eq_true rfl) dL_law_1974 (fun H locs hP hS => ?_)
  refine lv_istore (lv' := [(5, .int v2), (0, .ref b), (1, .ref (adh 0)), (2, .ref (adx 0)), (3, .ref (adu 0)), (4, .int x4)]) hx hb dL_law_1977 hl (by decide) rfl (fun ls hl => ?_)
  refine lv_aload_n hx hb dL_law_1979 rfl (lv_at hl 3 rfl) ?_
  refine lv_aload_n hx hb dL_law_1980 rfl (lv_at hl 1 rfl) ?_
  refine lv_iload hx hb dL_law_1981 (lv_at hl 5 rfl) ?_
  refine lv_iconst (v := (1 : Int32)) hx hb dL_law_1983 (by decide) ?_
  refine lv_iadd hx hb dL_law_1984 ?_
  obtain ⟨h6, hD⟩ := gd_el hD
  refine va_sld hx hb hX hbl hbA hS h6 dL_law_1985 ?_
  obtain ⟨v7, m8, z9, hD⟩ := b2_el hD
  refine lrV (Wf := fun z => Wf h m3 f c0 c1 z m4) (mm := x) (As := [.int (xs (x4 + (1 : Int32)).toNatClampNeg)]) (rest := []) Fx0 (c_X10_clean l (Wf := fun z0_ => Wf h m3 f c0 c1 z0_ m4) (hLx h m3 f c0 c1 m4) (fun a0_ b0_ => hAd h h m3 m3 f f c0 c0 c1 c1 a0_ b0_ m4 m4) x (xs (x4 + (1 : Int32)).toNatClampNeg) z9) hP (hD1 _ (hAd _ _ _ _ _ _ _ _ _ _ _ _ _ _)) hS (hA1 _ _ (hAd _ _ _ _ _ _ _ _ _ _ _ _ _ _) hS.1) (hLx h m3 f c0 c1 m4) (Nat.le_of_ble_eq_true rfl) (xs0 _ _) rfl tw_8_187 tw_8_184 tw_8_185 tw_8_186 tw_1_13 yd_X10_clean ⟨(Nat.le_of_ble_eq_true rfl), (Nat.le_of_ble_eq_true rfl)⟩ ⟨show _ ≤ 601024 by omega, show _ ≤ 7293034 by omega⟩ rfl hl.1 rfl (Nat.le_of_ble_eq_true rfl) dL_law_1986 (fun H locs hP hS => ?_)
  refine lv_istore (lv' := [(6, .int v7), (5, .int v2), (0, .ref b), (1, .ref (adh 0)), (2, .ref (adx 0)), (3, .ref (adu 0)), (4, .int x4)]) hx hb dL_law_1989 hl (by decide) rfl (fun ls hl => ?_)
  refine lv_aload_n hx hb dL_law_1991 rfl (lv_at hl 4 rfl) ?_
  obtain ⟨v10, z11, hD⟩ := b1_el hD
  refine lrV (Wf := fun z => Wf h m3 f c0 c1 z m4) (mm := m8) (As := []) (rest := []) Fx0 (c_X10_thrown l (Wf := fun z0_ => Wf h m3 f c0 c1 z0_ m4) (hLx h m3 f c0 c1 m4) (fun a0_ b0_ => hAd h h m3 m3 f f c0 c0 c1 c1 a0_ b0_ m4 m4) m8 z11) hP (hD1 _ (hAd _ _ _ _ _ _ _ _ _ _ _ _ _ _)) hS (hA1 _ _ (hAd _ _ _ _ _ _ _ _ _ _ _ _ _ _) hS.1) (hLx h m3 f c0 c1 m4) (Nat.le_of_ble_eq_true rfl) (xs0 _ _) rfl tw_7_30 tw_7_27 tw_7_28 tw_7_29 tw_1_13 yd_X10_thrown ⟨(Nat.le_of_ble_eq_true rfl), (Nat.le_of_ble_eq_true rfl)⟩ ⟨show _ ≤ 601024 by omega, show _ ≤ 7293034 by omega⟩ rfl hl.1 rfl (Nat.le_of_ble_eq_true rfl) dL_law_1992 (fun H locs hP hS => ?_)
  refine lv_iload hx hb dL_law_1995 (lv_at hl 1 rfl) ?_
  refine lv_icmp_eq (tgt := 2002) hx hb dL_law_1997 (by decide) (fun c => ?_) (fun c => ?_)
  · have hD := ifp hD c
    refine lv_iload hx hb dL_law_2002 (lv_at hl 1 rfl) ?_
    refine lv_if_ne (tgt := 2019) hx hb dL_law_2004 (by decide) (fun c => ?_) (fun c => ?_)
    · have hD := ifn hD c
      refine lv_goto (tgt := 2964) hx hb dL_law_2019 (by decide) ?_
      obtain ⟨v12, ev12, hD⟩ := bnd_el hD
      refine lv_iinc (v := v12) (lv' := [(4, .int v12), (6, .int v7), (5, .int v2), (0, .ref b), (1, .ref (adh 0)), (2, .ref (adx 0)), (3, .ref (adu 0))]) hx hb dL_law_2964 hl (k := 6) rfl (by rw [ev12]; rfl) (by decide) rfl (fun ls hl => ?_)
      refine lv_goto (tgt := 23) hx hb dL_law_2967 (by decide) ?_
      exact hk v12 h m3 f c0 c1 m8 m4 _ _ _ _ _ hD (show _ + n ≤ 601024 by omega) (show _ + 6 * n ≤ 7293034 by omega) hP hS (lv_sub hl [3, 4, 5, 6, 0] rfl)
    · have hD := ifp hD c
      refine lv_aload_n hx hb dL_law_2007 rfl (lv_at hl 5 rfl) ?_
      refine lv_iconst (v := (0 : Int32)) hx hb dL_law_2008 (by decide) ?_
      refine rlald (Wf := fun z => Wf h m3 f c0 c1 m8 z) (mm := m4) hx hb hK hP (hLu h m3 f c0 c1 m8) 0 (Nat.le_of_ble_eq_true rfl) (us0 _ _) (by decide) (j := 0) (by decide) dL_law_2009 ?_
      refine lv_iload hx hb dL_law_2010 (lv_at hl 0 rfl) ?_
      refine lv_i2l (v := v7.toInt64) hx hb dL_law_2012 rfl ?_
      refine rlc_eq (tgt := 2019) hx hb dL_law_2013 dL_law_2014 (by decide) (fun c => ?_) (fun c => ?_)
      · have hD := ifp hD c
        refine lv_goto (tgt := 2964) hx hb dL_law_2019 (by decide) ?_
        obtain ⟨v13, ev13, hD⟩ := bnd_el hD
        refine lv_iinc (v := v13) (lv' := [(4, .int v13), (6, .int v7), (5, .int v2), (0, .ref b), (1, .ref (adh 0)), (2, .ref (adx 0)), (3, .ref (adu 0))]) hx hb dL_law_2964 hl (k := 6) rfl (by rw [ev13]; rfl) (by decide) rfl (fun ls hl => ?_)
        refine lv_goto (tgt := 23) hx hb dL_law_2967 (by decide) ?_
        exact hk v13 h m3 f c0 c1 m8 m4 _ _ _ _ _ hD (show _ + n ≤ 601024 by omega) (show _ + 6 * n ≤ 7293034 by omega) hP hS (lv_sub hl [3, 4, 5, 6, 0] rfl)
      · have hD := ifn hD c
        refine lv_iconst (v := (0 : Int32)) hx hb dL_law_2017 (by decide) ?_
        exact nn_el hD
  · have hD := ifn hD c
    refine lv_iconst (v := (0 : Int32)) hx hb dL_law_2000 (by decide) ?_
    exact nn_el hD
noncomputable def D_L_law_2022 (L : Nat) (xs : Nat → Int32) (k : LKont) (x4 : Int32) (h : MM) (m : MM) (f : MM) (c0 : MM) (c1 : MM) (x : MM) (u : MM) : Option Unit := b2 (D_X9_nextAction h m) (fun v1 m2 => b2 (D_X10_nextAction x) (fun v4 m5 => if v1 = v4 then (bnd (x4 + (3 : Int32)) (fun v7 => k v7 m2 m f c0 c1 m5 u)) else (none)))
set_option maxHeartbeats 4000000 in
set_option maxRecDepth 100000 in
theorem c_L_law_2022 (l : Launch) (hst : l.stackTraces = false) {p : Program} {e : Env} {s : State} {m0 : MethodId} {below : List Frame} {meth : Method} {c : Code} {b L : Nat} {xs : Nat → Int32} {D : va_G} {cs : Nat → ClassId} {A : Nat → Prop} {Q : State → Prop} {adh ad adf ad0 ad1 adx adu ma : Nat → Nat} {Wf : MM → MM → MM → MM → MM → MM → MM → va_W} (hLh : ∀ m f c0 c1 x u : MM, Ln 8 adh (hsh cs adh ma) (fun z => Wf z m f c0 c1 x u)) (hL : ∀ h f c0 c1 x u : MM, Ln 51 ad (msh cs ad) (fun z => Wf h z f c0 c1 x u)) (hLf : ∀ h m c0 c1 x u : MM, Ln 51 adf (msh cs adf) (fun z => Wf h m z c0 c1 x u)) (hL0 : ∀ h m f c1 x u : MM, Ln 51 ad0 (msh cs ad0) (fun z => Wf h m f z c1 x u)) (hL1 : ∀ h m f c0 x u : MM, Ln 51 ad1 (msh cs ad1) (fun z => Wf h m f c0 z x u)) (hLx : ∀ h m f c0 c1 u : MM, Ln 9 adx (xsh cs adx) (fun z => Wf h m f c0 c1 z u)) (hLu : ∀ h m f c0 c1 x : MM, Ln 1 adu (ush cs) (fun z => Wf h m f c0 c1 x z)) (hAd : ∀ a0_ b0_ a1_ b1_ a2_ b2_ a3_ b3_ a4_ b4_ a5_ b5_ a6_ b6_ : MM, (Wf a0_ a1_ a2_ a3_ a4_ a5_ a6_).map (fun q => q.1) = (Wf b0_ b1_ b2_ b3_ b4_ b5_ b6_).map (fun q => q.1)) (hm1 : ma 1 = ad 24) (hm2 : ma 2 = adf 24) (hm3 : ma 3 = ad0 24) (hm4 : ma 4 = ad1 24) (hLX : LX p s m0 c b L xs D cs A (Wf zMM zMM zMM zMM zMM zMM zMM)) (n : Nat) (k : LKont) (hk : LK p l e s m0 below meth c b D A Q adh adx adu Wf n k) (x4 : Int32) (h : MM) (m : MM) (f : MM) (c0 : MM) (c1 : MM) (x : MM) (u : MM) (cells slots : Nat) (H : Heap) (locs : List Loc) (ls : Array Slot) (hD : D_L_law_2022 L xs k x4 h m f c0 c1 x u = some ()) (hcl : cells + (n + 1) ≤ 601024) (hsl : slots + 6 * (n + 1) ≤ 7293034) (hP : va_P D vwCl (Wf h m f c0 c1 x u) H) (hS : va_S A s.heap H locs) (hl : lv_has ls 8 [(0, .ref b), (1, .ref (adh 0)), (2, .ref (adx 0)), (3, .ref (adu 0)), (4, .int x4)]) : W p l e room_1 s m0 #[Value.ref b] below meth c H locs cells slots Q (F0 m0 2022 ls []) := by
  obtain ⟨hx, hb, hml, hown, hK, hT⟩ := hLX.rest
  obtain ⟨Fx0, hX, hbl, hbA, hD1, hA1⟩ := hLX
  unfold D_L_law_2022 at hD
  refine lv_aload_n hx hb dL_law_2022 rfl (lv_at hl 1 rfl) ?_
  obtain ⟨v1, m2, z3, hD⟩ := b2_el hD
  refine lrV (Wf := fun z => Wf z m f c0 c1 x u) (mm := h) (As := []) (rest := []) Fx0 (c_X9_nextAction l (Wf := fun z0_ z1_ => Wf z0_ z1_ f c0 c1 x u) (fun z1_ => hLh z1_ f c0 c1 x u) (fun z0_ => hL z0_ f c0 c1 x u) (fun a0_ b0_ a1_ b1_ => hAd a0_ b0_ a1_ b1_ f f c0 c0 c1 c1 x x u u) hm1 h m z3) hP (hD1 _ (hAd _ _ _ _ _ _ _ _ _ _ _ _ _ _)) hS (hA1 _ _ (hAd _ _ _ _ _ _ _ _ _ _ _ _ _ _) hS.1) (hLh m f c0 c1 x u) (Nat.le_of_ble_eq_true rfl) (hs0 _ _) rfl tw_4_39 tw_4_36 tw_4_37 tw_4_38 tw_1_1 yd_X9_nextAction ⟨(Nat.le_of_ble_eq_true rfl), (Nat.le_of_ble_eq_true rfl)⟩ ⟨show _ ≤ 601024 by omega, show _ ≤ 7293034 by omega⟩ rfl hl.1 rfl (Nat.le_of_ble_eq_true rfl) dL_law_2023 (fun H locs hP hS => ?_)
  refine lv_aload_n hx hb dL_law_2026 rfl (lv_at hl 2 rfl) ?_
  obtain ⟨v4, m5, z6, hD⟩ := b2_el hD
  refine lrV (Wf := fun z => Wf m2 m f c0 c1 z u) (mm := x) (As := []) (rest := [.int v1]) Fx0 (c_X10_nextAction l (Wf := fun z0_ => Wf m2 m f c0 c1 z0_ u) (hLx m2 m f c0 c1 u) (fun a0_ b0_ => hAd m2 m2 m m f f c0 c0 c1 c1 a0_ b0_ u u) x z6) hP (hD1 _ (hAd _ _ _ _ _ _ _ _ _ _ _ _ _ _)) hS (hA1 _ _ (hAd _ _ _ _ _ _ _ _ _ _ _ _ _ _) hS.1) (hLx m2 m f c0 c1 u) (Nat.le_of_ble_eq_true rfl) (xs0 _ _) rfl tw_8_195 tw_8_192 tw_8_193 tw_8_194 tw_1_13 yd_X10_nextAction ⟨(Nat.le_of_ble_eq_true rfl), (Nat.le_of_ble_eq_true rfl)⟩ ⟨show _ ≤ 601024 by omega, show _ ≤ 7293034 by omega⟩ rfl hl.1 rfl (Nat.le_of_ble_eq_true rfl) dL_law_2027 (fun H locs hP hS => ?_)
  refine lv_icmp_eq (tgt := 2964) hx hb dL_law_2030 (by decide) (fun c => ?_) (fun c => ?_)
  · have hD := ifp hD c
    obtain ⟨v7, ev7, hD⟩ := bnd_el hD
    refine lv_iinc (v := v7) (lv' := [(4, .int v7), (0, .ref b), (1, .ref (adh 0)), (2, .ref (adx 0)), (3, .ref (adu 0))]) hx hb dL_law_2964 hl (k := 4) rfl (by rw [ev7]; rfl) (by decide) rfl (fun ls hl => ?_)
    refine lv_goto (tgt := 23) hx hb dL_law_2967 (by decide) ?_
    exact hk v7 m2 m f c0 c1 m5 u _ _ _ _ _ hD (show _ + n ≤ 601024 by omega) (show _ + 6 * n ≤ 7293034 by omega) hP hS (lv_sub hl [1, 2, 3, 4, 0] rfl)
  · have hD := ifn hD c
    refine lv_iconst (v := (0 : Int32)) hx hb dL_law_2033 (by decide) ?_
    exact nn_el hD
noncomputable def D_L_law_2035 (L : Nat) (xs : Nat → Int32) (k : LKont) (x4 : Int32) (h : MM) (m : MM) (f : MM) (c0 : MM) (c1 : MM) (x : MM) (u : MM) : Option Unit := b3 (D_X9_step h m) (fun v1 m2 m3 => b2 (D_X10_step x) (fun v5 m6 => if v1 = v5 then (bnd (x4 + (3 : Int32)) (fun v8 => k v8 m2 m3 f c0 c1 m6 u)) else (none)))
set_option maxHeartbeats 4000000 in
set_option maxRecDepth 100000 in
theorem c_L_law_2035 (l : Launch) (hst : l.stackTraces = false) {p : Program} {e : Env} {s : State} {m0 : MethodId} {below : List Frame} {meth : Method} {c : Code} {b L : Nat} {xs : Nat → Int32} {D : va_G} {cs : Nat → ClassId} {A : Nat → Prop} {Q : State → Prop} {adh ad adf ad0 ad1 adx adu ma : Nat → Nat} {Wf : MM → MM → MM → MM → MM → MM → MM → va_W} (hLh : ∀ m f c0 c1 x u : MM, Ln 8 adh (hsh cs adh ma) (fun z => Wf z m f c0 c1 x u)) (hL : ∀ h f c0 c1 x u : MM, Ln 51 ad (msh cs ad) (fun z => Wf h z f c0 c1 x u)) (hLf : ∀ h m c0 c1 x u : MM, Ln 51 adf (msh cs adf) (fun z => Wf h m z c0 c1 x u)) (hL0 : ∀ h m f c1 x u : MM, Ln 51 ad0 (msh cs ad0) (fun z => Wf h m f z c1 x u)) (hL1 : ∀ h m f c0 x u : MM, Ln 51 ad1 (msh cs ad1) (fun z => Wf h m f c0 z x u)) (hLx : ∀ h m f c0 c1 u : MM, Ln 9 adx (xsh cs adx) (fun z => Wf h m f c0 c1 z u)) (hLu : ∀ h m f c0 c1 x : MM, Ln 1 adu (ush cs) (fun z => Wf h m f c0 c1 x z)) (hAd : ∀ a0_ b0_ a1_ b1_ a2_ b2_ a3_ b3_ a4_ b4_ a5_ b5_ a6_ b6_ : MM, (Wf a0_ a1_ a2_ a3_ a4_ a5_ a6_).map (fun q => q.1) = (Wf b0_ b1_ b2_ b3_ b4_ b5_ b6_).map (fun q => q.1)) (hm1 : ma 1 = ad 24) (hm2 : ma 2 = adf 24) (hm3 : ma 3 = ad0 24) (hm4 : ma 4 = ad1 24) (hLX : LX p s m0 c b L xs D cs A (Wf zMM zMM zMM zMM zMM zMM zMM)) (n : Nat) (k : LKont) (hk : LK p l e s m0 below meth c b D A Q adh adx adu Wf n k) (x4 : Int32) (h : MM) (m : MM) (f : MM) (c0 : MM) (c1 : MM) (x : MM) (u : MM) (cells slots : Nat) (H : Heap) (locs : List Loc) (ls : Array Slot) (hD : D_L_law_2035 L xs k x4 h m f c0 c1 x u = some ()) (hcl : cells + (n + 1) ≤ 601024) (hsl : slots + 6 * (n + 1) ≤ 7293034) (hP : va_P D vwCl (Wf h m f c0 c1 x u) H) (hS : va_S A s.heap H locs) (hl : lv_has ls 8 [(0, .ref b), (1, .ref (adh 0)), (2, .ref (adx 0)), (3, .ref (adu 0)), (4, .int x4)]) : W p l e room_1 s m0 #[Value.ref b] below meth c H locs cells slots Q (F0 m0 2035 ls []) := by
  obtain ⟨hx, hb, hml, hown, hK, hT⟩ := hLX.rest
  obtain ⟨Fx0, hX, hbl, hbA, hD1, hA1⟩ := hLX
  unfold D_L_law_2035 at hD
  refine lv_aload_n hx hb dL_law_2035 rfl (lv_at hl 1 rfl) ?_
  obtain ⟨v1, m2, m3, z4, hD⟩ := b3_el hD
  refine lrV (Wf := fun z => Wf z m f c0 c1 x u) (mm := h) (As := []) (rest := []) Fx0 (c_X9_step l (Wf := fun z0_ z1_ => Wf z0_ z1_ f c0 c1 x u) (fun z1_ => hLh z1_ f c0 c1 x u) (fun z0_ => hL z0_ f c0 c1 x u) (fun a0_ b0_ a1_ b1_ => hAd a0_ b0_ a1_ b1_ f f c0 c0 c1 c1 x x u u) hm1 h m z4) hP (hD1 _ (hAd _ _ _ _ _ _ _ _ _ _ _ _ _ _)) hS (hA1 _ _ (hAd _ _ _ _ _ _ _ _ _ _ _ _ _ _) hS.1) (hLh m f c0 c1 x u) (Nat.le_of_ble_eq_true rfl) (hs0 _ _) rfl tw_4_102 tw_4_99 tw_4_100 tw_4_101 tw_1_1 yd_X9_step ⟨(Nat.le_of_ble_eq_true rfl), (Nat.le_of_ble_eq_true rfl)⟩ ⟨show _ ≤ 601024 by omega, show _ ≤ 7293034 by omega⟩ rfl hl.1 rfl (Nat.le_of_ble_eq_true rfl) dL_law_2036 (fun H locs hP hS => ?_)
  refine lv_aload_n hx hb dL_law_2039 rfl (lv_at hl 2 rfl) ?_
  obtain ⟨v5, m6, z7, hD⟩ := b2_el hD
  refine lrV (Wf := fun z => Wf m2 m3 f c0 c1 z u) (mm := x) (As := []) (rest := [.int v1]) Fx0 (c_X10_step l (Wf := fun z0_ => Wf m2 m3 f c0 c1 z0_ u) (hLx m2 m3 f c0 c1 u) (fun a0_ b0_ => hAd m2 m2 m3 m3 f f c0 c0 c1 c1 a0_ b0_ u u) x z7) hP (hD1 _ (hAd _ _ _ _ _ _ _ _ _ _ _ _ _ _)) hS (hA1 _ _ (hAd _ _ _ _ _ _ _ _ _ _ _ _ _ _) hS.1) (hLx m2 m3 f c0 c1 u) (Nat.le_of_ble_eq_true rfl) (xs0 _ _) rfl tw_8_230 tw_8_227 tw_8_228 tw_8_229 tw_1_13 yd_X10_step ⟨(Nat.le_of_ble_eq_true rfl), (Nat.le_of_ble_eq_true rfl)⟩ ⟨show _ ≤ 601024 by omega, show _ ≤ 7293034 by omega⟩ rfl hl.1 rfl (Nat.le_of_ble_eq_true rfl) dL_law_2040 (fun H locs hP hS => ?_)
  refine lv_icmp_eq (tgt := 2964) hx hb dL_law_2043 (by decide) (fun c => ?_) (fun c => ?_)
  · have hD := ifp hD c
    obtain ⟨v8, ev8, hD⟩ := bnd_el hD
    refine lv_iinc (v := v8) (lv' := [(4, .int v8), (0, .ref b), (1, .ref (adh 0)), (2, .ref (adx 0)), (3, .ref (adu 0))]) hx hb dL_law_2964 hl (k := 4) rfl (by rw [ev8]; rfl) (by decide) rfl (fun ls hl => ?_)
    refine lv_goto (tgt := 23) hx hb dL_law_2967 (by decide) ?_
    exact hk v8 m2 m3 f c0 c1 m6 u _ _ _ _ _ hD (show _ + n ≤ 601024 by omega) (show _ + 6 * n ≤ 7293034 by omega) hP hS (lv_sub hl [1, 2, 3, 4, 0] rfl)
  · have hD := ifn hD c
    refine lv_iconst (v := (0 : Int32)) hx hb dL_law_2046 (by decide) ?_
    exact nn_el hD
noncomputable def D_L_law_2048 (L : Nat) (xs : Nat → Int32) (k : LKont) (x4 : Int32) (h : MM) (m : MM) (f : MM) (c0 : MM) (c1 : MM) (x : MM) (u : MM) : Option Unit := if (x4 + (1 : Int32)) < 0 ∨ L ≤ (x4 + (1 : Int32)).toNatClampNeg then none else (b4 (D_L_run (xs (x4 + (1 : Int32)).toNatClampNeg) h m u) (fun v2 m3 m4 m5 => if (x4 + (1 : Int32)) < 0 ∨ L ≤ (x4 + (1 : Int32)).toNatClampNeg then none else (b2 (D_X10_run (xs (x4 + (1 : Int32)).toNatClampNeg) x) (fun v8 m9 => b1 (D_X10_thrown m9) (fun v11 => if v11 = v2 then (if v2 = 0 then (if (gl m5 0 0) = v8.toInt64 then (bnd (x4 + (3 : Int32)) (fun v14 => k v14 m3 m4 f c0 c1 m9 m5)) else (none)) else (bnd (x4 + (3 : Int32)) (fun v13 => k v13 m3 m4 f c0 c1 m9 m5))) else (none))))))
set_option maxHeartbeats 4000000 in
set_option maxRecDepth 100000 in
theorem c_L_law_2048 (l : Launch) (hst : l.stackTraces = false) {p : Program} {e : Env} {s : State} {m0 : MethodId} {below : List Frame} {meth : Method} {c : Code} {b L : Nat} {xs : Nat → Int32} {D : va_G} {cs : Nat → ClassId} {A : Nat → Prop} {Q : State → Prop} {adh ad adf ad0 ad1 adx adu ma : Nat → Nat} {Wf : MM → MM → MM → MM → MM → MM → MM → va_W} (hLh : ∀ m f c0 c1 x u : MM, Ln 8 adh (hsh cs adh ma) (fun z => Wf z m f c0 c1 x u)) (hL : ∀ h f c0 c1 x u : MM, Ln 51 ad (msh cs ad) (fun z => Wf h z f c0 c1 x u)) (hLf : ∀ h m c0 c1 x u : MM, Ln 51 adf (msh cs adf) (fun z => Wf h m z c0 c1 x u)) (hL0 : ∀ h m f c1 x u : MM, Ln 51 ad0 (msh cs ad0) (fun z => Wf h m f z c1 x u)) (hL1 : ∀ h m f c0 x u : MM, Ln 51 ad1 (msh cs ad1) (fun z => Wf h m f c0 z x u)) (hLx : ∀ h m f c0 c1 u : MM, Ln 9 adx (xsh cs adx) (fun z => Wf h m f c0 c1 z u)) (hLu : ∀ h m f c0 c1 x : MM, Ln 1 adu (ush cs) (fun z => Wf h m f c0 c1 x z)) (hAd : ∀ a0_ b0_ a1_ b1_ a2_ b2_ a3_ b3_ a4_ b4_ a5_ b5_ a6_ b6_ : MM, (Wf a0_ a1_ a2_ a3_ a4_ a5_ a6_).map (fun q => q.1) = (Wf b0_ b1_ b2_ b3_ b4_ b5_ b6_).map (fun q => q.1)) (hm1 : ma 1 = ad 24) (hm2 : ma 2 = adf 24) (hm3 : ma 3 = ad0 24) (hm4 : ma 4 = ad1 24) (hLX : LX p s m0 c b L xs D cs A (Wf zMM zMM zMM zMM zMM zMM zMM)) (n : Nat) (k : LKont) (hk : LK p l e s m0 below meth c b D A Q adh adx adu Wf n k) (x4 : Int32) (h : MM) (m : MM) (f : MM) (c0 : MM) (c1 : MM) (x : MM) (u : MM) (cells slots : Nat) (H : Heap) (locs : List Loc) (ls : Array Slot) (hD : D_L_law_2048 L xs k x4 h m f c0 c1 x u = some ()) (hcl : cells + (n + 1) ≤ 601024) (hsl : slots + 6 * (n + 1) ≤ 7293034) (hP : va_P D vwCl (Wf h m f c0 c1 x u) H) (hS : va_S A s.heap H locs) (hl : lv_has ls 8 [(0, .ref b), (1, .ref (adh 0)), (2, .ref (adx 0)), (3, .ref (adu 0)), (4, .int x4)]) : W p l e room_1 s m0 #[Value.ref b] below meth c H locs cells slots Q (F0 m0 2048 ls []) := by
  obtain ⟨hx, hb, hml, hown, hK, hT⟩ := hLX.rest
  obtain ⟨Fx0, hX, hbl, hbA, hD1, hA1⟩ := hLX
  unfold D_L_law_2048 at hD
  refine lv_aload_n hx hb dL_law_2048 rfl (lv_at hl 1 rfl) ?_
  refine lv_aload_n hx hb dL_law_2049 rfl (lv_at hl 0 rfl) ?_
  refine lv_iload hx hb dL_law_2050 (lv_at hl 4 rfl) ?_
  refine lv_iconst (v := (1 : Int32)) hx hb dL_law_2052 (by decide) ?_
  refine lv_iadd hx hb dL_law_2053 ?_
  obtain ⟨h1, hD⟩ := gd_el hD
  refine va_sld hx hb hX hbl hbA hS h1 dL_law_2054 ?_
  refine lv_aload_n hx hb dL_law_2055 rfl (lv_at hl 3 rfl) ?_
  obtain ⟨v2, m3, m4, m5, z6, hD⟩ := b4_el hD
  refine lrL (As := [.ref (adh 0), .int (xs (x4 + (1 : Int32)).toNatClampNeg), .ref (adu 0)]) (rest := []) Fx0 (c_L_run l hst (Wf := fun z0_ z1_ z2_ => Wf z0_ z1_ f c0 c1 x z2_) (fun z1_ z2_ => hLh z1_ f c0 c1 x z2_) (fun z0_ z2_ => hL z0_ f c0 c1 x z2_) (fun z0_ z1_ => hLu z0_ z1_ f c0 c1 x) (fun a0_ b0_ a1_ b1_ a2_ b2_ => hAd a0_ b0_ a1_ b1_ f f c0 c0 c1 c1 x x a2_ b2_) hm1 h m u (xs (x4 + (1 : Int32)).toNatClampNeg) z6) hP (hD1 _ (hAd _ _ _ _ _ _ _ _ _ _ _ _ _ _)) hS (hA1 _ _ (hAd _ _ _ _ _ _ _ _ _ _ _ _ _ _) hS.1) tw_6_115 tw_6_113 tw_6_114 tw_1_0 yd_L_run ⟨(Nat.le_of_ble_eq_true rfl), (Nat.le_of_ble_eq_true rfl)⟩ ⟨show _ + 1 ≤ 601024 by omega, show _ + 6 ≤ 7293034 by omega⟩ rfl hl.1 rfl (Nat.le_of_ble_eq_true rfl) dL_law_2056 (fun H locs hP hS => ?_)
  refine lv_istore (lv' := [(5, .int v2), (0, .ref b), (1, .ref (adh 0)), (2, .ref (adx 0)), (3, .ref (adu 0)), (4, .int x4)]) hx hb dL_law_2059 hl (by decide) rfl (fun ls hl => ?_)
  refine lv_aload_n hx hb dL_law_2061 rfl (lv_at hl 3 rfl) ?_
  refine lv_aload_n hx hb dL_law_2062 rfl (lv_at hl 1 rfl) ?_
  refine lv_iload hx hb dL_law_2063 (lv_at hl 5 rfl) ?_
  refine lv_iconst (v := (1 : Int32)) hx hb dL_law_2065 (by decide) ?_
  refine lv_iadd hx hb dL_law_2066 ?_
  obtain ⟨h7, hD⟩ := gd_el hD
  refine va_sld hx hb hX hbl hbA hS h7 dL_law_2067 ?_
  obtain ⟨v8, m9, z10, hD⟩ := b2_el hD
  refine lrV (Wf := fun z => Wf m3 m4 f c0 c1 z m5) (mm := x) (As := [.int (xs (x4 + (1 : Int32)).toNatClampNeg)]) (rest := []) Fx0 (c_X10_run l (Wf := fun z0_ => Wf m3 m4 f c0 c1 z0_ m5) (hLx m3 m4 f c0 c1 m5) (fun a0_ b0_ => hAd m3 m3 m4 m4 f f c0 c0 c1 c1 a0_ b0_ m5 m5) x (xs (x4 + (1 : Int32)).toNatClampNeg) z10) hP (hD1 _ (hAd _ _ _ _ _ _ _ _ _ _ _ _ _ _)) hS (hA1 _ _ (hAd _ _ _ _ _ _ _ _ _ _ _ _ _ _) hS.1) (hLx m3 m4 f c0 c1 m5) (Nat.le_of_ble_eq_true rfl) (xs0 _ _) rfl tw_8_238 tw_8_235 tw_8_236 tw_8_237 tw_1_13 yd_X10_run ⟨(Nat.le_of_ble_eq_true rfl), (Nat.le_of_ble_eq_true rfl)⟩ ⟨show _ ≤ 601024 by omega, show _ ≤ 7293034 by omega⟩ rfl hl.1 rfl (Nat.le_of_ble_eq_true rfl) dL_law_2068 (fun H locs hP hS => ?_)
  refine lv_istore (lv' := [(6, .int v8), (5, .int v2), (0, .ref b), (1, .ref (adh 0)), (2, .ref (adx 0)), (3, .ref (adu 0)), (4, .int x4)]) hx hb dL_law_2071 hl (by decide) rfl (fun ls hl => ?_)
  refine lv_aload_n hx hb dL_law_2073 rfl (lv_at hl 4 rfl) ?_
  obtain ⟨v11, z12, hD⟩ := b1_el hD
  refine lrV (Wf := fun z => Wf m3 m4 f c0 c1 z m5) (mm := m9) (As := []) (rest := []) Fx0 (c_X10_thrown l (Wf := fun z0_ => Wf m3 m4 f c0 c1 z0_ m5) (hLx m3 m4 f c0 c1 m5) (fun a0_ b0_ => hAd m3 m3 m4 m4 f f c0 c0 c1 c1 a0_ b0_ m5 m5) m9 z12) hP (hD1 _ (hAd _ _ _ _ _ _ _ _ _ _ _ _ _ _)) hS (hA1 _ _ (hAd _ _ _ _ _ _ _ _ _ _ _ _ _ _) hS.1) (hLx m3 m4 f c0 c1 m5) (Nat.le_of_ble_eq_true rfl) (xs0 _ _) rfl tw_7_30 tw_7_27 tw_7_28 tw_7_29 tw_1_13 yd_X10_thrown ⟨(Nat.le_of_ble_eq_true rfl), (Nat.le_of_ble_eq_true rfl)⟩ ⟨show _ ≤ 601024 by omega, show _ ≤ 7293034 by omega⟩ rfl hl.1 rfl (Nat.le_of_ble_eq_true rfl) dL_law_2074 (fun H locs hP hS => ?_)
  refine lv_iload hx hb dL_law_2077 (lv_at hl 1 rfl) ?_
  refine lv_icmp_eq (tgt := 2084) hx hb dL_law_2079 (by decide) (fun c => ?_) (fun c => ?_)
  · have hD := ifp hD c
    refine lv_iload hx hb dL_law_2084 (lv_at hl 1 rfl) ?_
    refine lv_if_ne (tgt := 2101) hx hb dL_law_2086 (by decide) (fun c => ?_) (fun c => ?_)
    · have hD := ifn hD c
      refine lv_goto (tgt := 2964) hx hb dL_law_2101 (by decide) ?_
      obtain ⟨v13, ev13, hD⟩ := bnd_el hD
      refine lv_iinc (v := v13) (lv' := [(4, .int v13), (6, .int v8), (5, .int v2), (0, .ref b), (1, .ref (adh 0)), (2, .ref (adx 0)), (3, .ref (adu 0))]) hx hb dL_law_2964 hl (k := 6) rfl (by rw [ev13]; rfl) (by decide) rfl (fun ls hl => ?_)
      refine lv_goto (tgt := 23) hx hb dL_law_2967 (by decide) ?_
      exact hk v13 m3 m4 f c0 c1 m9 m5 _ _ _ _ _ hD (show _ + n ≤ 601024 by omega) (show _ + 6 * n ≤ 7293034 by omega) hP hS (lv_sub hl [3, 4, 5, 6, 0] rfl)
    · have hD := ifp hD c
      refine lv_aload_n hx hb dL_law_2089 rfl (lv_at hl 5 rfl) ?_
      refine lv_iconst (v := (0 : Int32)) hx hb dL_law_2090 (by decide) ?_
      refine rlald (Wf := fun z => Wf m3 m4 f c0 c1 m9 z) (mm := m5) hx hb hK hP (hLu m3 m4 f c0 c1 m9) 0 (Nat.le_of_ble_eq_true rfl) (us0 _ _) (by decide) (j := 0) (by decide) dL_law_2091 ?_
      refine lv_iload hx hb dL_law_2092 (lv_at hl 0 rfl) ?_
      refine lv_i2l (v := v8.toInt64) hx hb dL_law_2094 rfl ?_
      refine rlc_eq (tgt := 2101) hx hb dL_law_2095 dL_law_2096 (by decide) (fun c => ?_) (fun c => ?_)
      · have hD := ifp hD c
        refine lv_goto (tgt := 2964) hx hb dL_law_2101 (by decide) ?_
        obtain ⟨v14, ev14, hD⟩ := bnd_el hD
        refine lv_iinc (v := v14) (lv' := [(4, .int v14), (6, .int v8), (5, .int v2), (0, .ref b), (1, .ref (adh 0)), (2, .ref (adx 0)), (3, .ref (adu 0))]) hx hb dL_law_2964 hl (k := 6) rfl (by rw [ev14]; rfl) (by decide) rfl (fun ls hl => ?_)
        refine lv_goto (tgt := 23) hx hb dL_law_2967 (by decide) ?_
        exact hk v14 m3 m4 f c0 c1 m9 m5 _ _ _ _ _ hD (show _ + n ≤ 601024 by omega) (show _ + 6 * n ≤ 7293034 by omega) hP hS (lv_sub hl [3, 4, 5, 6, 0] rfl)
      · have hD := ifn hD c
        refine lv_iconst (v := (0 : Int32)) hx hb dL_law_2099 (by decide) ?_
        exact nn_el hD
  · have hD := ifn hD c
    refine lv_iconst (v := (0 : Int32)) hx hb dL_law_2082 (by decide) ?_
    exact nn_el hD
noncomputable def D_L_law_2104 (L : Nat) (xs : Nat → Int32) (k : LKont) (x4 : Int32) (h : MM) (m : MM) (f : MM) (c0 : MM) (c1 : MM) (x : MM) (u : MM) : Option Unit := b1 (D_X9_isHalted h m) (fun v1 => b2 (D_X10_isHalted x) (fun v3 m4 => if v1 = v3 then (bnd (x4 + (3 : Int32)) (fun v6 => k v6 h m f c0 c1 m4 u)) else (none)))
set_option maxHeartbeats 4000000 in
set_option maxRecDepth 100000 in
theorem c_L_law_2104 (l : Launch) (hst : l.stackTraces = false) {p : Program} {e : Env} {s : State} {m0 : MethodId} {below : List Frame} {meth : Method} {c : Code} {b L : Nat} {xs : Nat → Int32} {D : va_G} {cs : Nat → ClassId} {A : Nat → Prop} {Q : State → Prop} {adh ad adf ad0 ad1 adx adu ma : Nat → Nat} {Wf : MM → MM → MM → MM → MM → MM → MM → va_W} (hLh : ∀ m f c0 c1 x u : MM, Ln 8 adh (hsh cs adh ma) (fun z => Wf z m f c0 c1 x u)) (hL : ∀ h f c0 c1 x u : MM, Ln 51 ad (msh cs ad) (fun z => Wf h z f c0 c1 x u)) (hLf : ∀ h m c0 c1 x u : MM, Ln 51 adf (msh cs adf) (fun z => Wf h m z c0 c1 x u)) (hL0 : ∀ h m f c1 x u : MM, Ln 51 ad0 (msh cs ad0) (fun z => Wf h m f z c1 x u)) (hL1 : ∀ h m f c0 x u : MM, Ln 51 ad1 (msh cs ad1) (fun z => Wf h m f c0 z x u)) (hLx : ∀ h m f c0 c1 u : MM, Ln 9 adx (xsh cs adx) (fun z => Wf h m f c0 c1 z u)) (hLu : ∀ h m f c0 c1 x : MM, Ln 1 adu (ush cs) (fun z => Wf h m f c0 c1 x z)) (hAd : ∀ a0_ b0_ a1_ b1_ a2_ b2_ a3_ b3_ a4_ b4_ a5_ b5_ a6_ b6_ : MM, (Wf a0_ a1_ a2_ a3_ a4_ a5_ a6_).map (fun q => q.1) = (Wf b0_ b1_ b2_ b3_ b4_ b5_ b6_).map (fun q => q.1)) (hm1 : ma 1 = ad 24) (hm2 : ma 2 = adf 24) (hm3 : ma 3 = ad0 24) (hm4 : ma 4 = ad1 24) (hLX : LX p s m0 c b L xs D cs A (Wf zMM zMM zMM zMM zMM zMM zMM)) (n : Nat) (k : LKont) (hk : LK p l e s m0 below meth c b D A Q adh adx adu Wf n k) (x4 : Int32) (h : MM) (m : MM) (f : MM) (c0 : MM) (c1 : MM) (x : MM) (u : MM) (cells slots : Nat) (H : Heap) (locs : List Loc) (ls : Array Slot) (hD : D_L_law_2104 L xs k x4 h m f c0 c1 x u = some ()) (hcl : cells + (n + 1) ≤ 601024) (hsl : slots + 6 * (n + 1) ≤ 7293034) (hP : va_P D vwCl (Wf h m f c0 c1 x u) H) (hS : va_S A s.heap H locs) (hl : lv_has ls 8 [(0, .ref b), (1, .ref (adh 0)), (2, .ref (adx 0)), (3, .ref (adu 0)), (4, .int x4)]) : W p l e room_1 s m0 #[Value.ref b] below meth c H locs cells slots Q (F0 m0 2104 ls []) := by
  obtain ⟨hx, hb, hml, hown, hK, hT⟩ := hLX.rest
  obtain ⟨Fx0, hX, hbl, hbA, hD1, hA1⟩ := hLX
  unfold D_L_law_2104 at hD
  refine lv_aload_n hx hb dL_law_2104 rfl (lv_at hl 1 rfl) ?_
  obtain ⟨v1, z2, hD⟩ := b1_el hD
  refine lrV (Wf := fun z => Wf z m f c0 c1 x u) (mm := h) (As := []) (rest := []) Fx0 (c_X9_isHalted l (Wf := fun z0_ z1_ => Wf z0_ z1_ f c0 c1 x u) (fun z1_ => hLh z1_ f c0 c1 x u) (fun z0_ => hL z0_ f c0 c1 x u) (fun a0_ b0_ a1_ b1_ => hAd a0_ b0_ a1_ b1_ f f c0 c0 c1 c1 x x u u) hm1 h m z2) hP (hD1 _ (hAd _ _ _ _ _ _ _ _ _ _ _ _ _ _)) hS (hA1 _ _ (hAd _ _ _ _ _ _ _ _ _ _ _ _ _ _) hS.1) (hLh m f c0 c1 x u) (Nat.le_of_ble_eq_true rfl) (hs0 _ _) rfl tw_4_167 tw_4_164 tw_4_165 tw_4_166 tw_1_1 yd_X9_isHalted ⟨(Nat.le_of_ble_eq_true rfl), (Nat.le_of_ble_eq_true rfl)⟩ ⟨show _ ≤ 601024 by omega, show _ ≤ 7293034 by omega⟩ rfl hl.1 rfl (Nat.le_of_ble_eq_true rfl) dL_law_2105 (fun H locs hP hS => ?_)
  refine lv_aload_n hx hb dL_law_2108 rfl (lv_at hl 2 rfl) ?_
  obtain ⟨v3, m4, z5, hD⟩ := b2_el hD
  refine lrV (Wf := fun z => Wf h m f c0 c1 z u) (mm := x) (As := []) (rest := [.int v1]) Fx0 (c_X10_isHalted l (Wf := fun z0_ => Wf h m f c0 c1 z0_ u) (hLx h m f c0 c1 u) (fun a0_ b0_ => hAd h h m m f f c0 c0 c1 c1 a0_ b0_ u u) x z5) hP (hD1 _ (hAd _ _ _ _ _ _ _ _ _ _ _ _ _ _)) hS (hA1 _ _ (hAd _ _ _ _ _ _ _ _ _ _ _ _ _ _) hS.1) (hLx h m f c0 c1 u) (Nat.le_of_ble_eq_true rfl) (xs0 _ _) rfl tw_9_6 tw_9_3 tw_9_4 tw_9_5 tw_1_13 yd_X10_isHalted ⟨(Nat.le_of_ble_eq_true rfl), (Nat.le_of_ble_eq_true rfl)⟩ ⟨show _ ≤ 601024 by omega, show _ ≤ 7293034 by omega⟩ rfl hl.1 rfl (Nat.le_of_ble_eq_true rfl) dL_law_2109 (fun H locs hP hS => ?_)
  refine lv_icmp_eq (tgt := 2964) hx hb dL_law_2112 (by decide) (fun c => ?_) (fun c => ?_)
  · have hD := ifp hD c
    obtain ⟨v6, ev6, hD⟩ := bnd_el hD
    refine lv_iinc (v := v6) (lv' := [(4, .int v6), (0, .ref b), (1, .ref (adh 0)), (2, .ref (adx 0)), (3, .ref (adu 0))]) hx hb dL_law_2964 hl (k := 4) rfl (by rw [ev6]; rfl) (by decide) rfl (fun ls hl => ?_)
    refine lv_goto (tgt := 23) hx hb dL_law_2967 (by decide) ?_
    exact hk v6 h m f c0 c1 m4 u _ _ _ _ _ hD (show _ + n ≤ 601024 by omega) (show _ + 6 * n ≤ 7293034 by omega) hP hS (lv_sub hl [1, 2, 3, 4, 0] rfl)
  · have hD := ifn hD c
    refine lv_iconst (v := (0 : Int32)) hx hb dL_law_2115 (by decide) ?_
    exact nn_el hD
noncomputable def D_L_law_2117 (L : Nat) (xs : Nat → Int32) (k : LKont) (x4 : Int32) (h : MM) (m : MM) (f : MM) (c0 : MM) (c1 : MM) (x : MM) (u : MM) : Option Unit := b2 (D_X9_resume h m) (fun v1 m2 => b2 (D_X10_resume x) (fun v4 m5 => if v1 = v4 then (bnd (x4 + (3 : Int32)) (fun v7 => k v7 h m2 f c0 c1 m5 u)) else (none)))
set_option maxHeartbeats 4000000 in
set_option maxRecDepth 100000 in
theorem c_L_law_2117 (l : Launch) (hst : l.stackTraces = false) {p : Program} {e : Env} {s : State} {m0 : MethodId} {below : List Frame} {meth : Method} {c : Code} {b L : Nat} {xs : Nat → Int32} {D : va_G} {cs : Nat → ClassId} {A : Nat → Prop} {Q : State → Prop} {adh ad adf ad0 ad1 adx adu ma : Nat → Nat} {Wf : MM → MM → MM → MM → MM → MM → MM → va_W} (hLh : ∀ m f c0 c1 x u : MM, Ln 8 adh (hsh cs adh ma) (fun z => Wf z m f c0 c1 x u)) (hL : ∀ h f c0 c1 x u : MM, Ln 51 ad (msh cs ad) (fun z => Wf h z f c0 c1 x u)) (hLf : ∀ h m c0 c1 x u : MM, Ln 51 adf (msh cs adf) (fun z => Wf h m z c0 c1 x u)) (hL0 : ∀ h m f c1 x u : MM, Ln 51 ad0 (msh cs ad0) (fun z => Wf h m f z c1 x u)) (hL1 : ∀ h m f c0 x u : MM, Ln 51 ad1 (msh cs ad1) (fun z => Wf h m f c0 z x u)) (hLx : ∀ h m f c0 c1 u : MM, Ln 9 adx (xsh cs adx) (fun z => Wf h m f c0 c1 z u)) (hLu : ∀ h m f c0 c1 x : MM, Ln 1 adu (ush cs) (fun z => Wf h m f c0 c1 x z)) (hAd : ∀ a0_ b0_ a1_ b1_ a2_ b2_ a3_ b3_ a4_ b4_ a5_ b5_ a6_ b6_ : MM, (Wf a0_ a1_ a2_ a3_ a4_ a5_ a6_).map (fun q => q.1) = (Wf b0_ b1_ b2_ b3_ b4_ b5_ b6_).map (fun q => q.1)) (hm1 : ma 1 = ad 24) (hm2 : ma 2 = adf 24) (hm3 : ma 3 = ad0 24) (hm4 : ma 4 = ad1 24) (hLX : LX p s m0 c b L xs D cs A (Wf zMM zMM zMM zMM zMM zMM zMM)) (n : Nat) (k : LKont) (hk : LK p l e s m0 below meth c b D A Q adh adx adu Wf n k) (x4 : Int32) (h : MM) (m : MM) (f : MM) (c0 : MM) (c1 : MM) (x : MM) (u : MM) (cells slots : Nat) (H : Heap) (locs : List Loc) (ls : Array Slot) (hD : D_L_law_2117 L xs k x4 h m f c0 c1 x u = some ()) (hcl : cells + (n + 1) ≤ 601024) (hsl : slots + 6 * (n + 1) ≤ 7293034) (hP : va_P D vwCl (Wf h m f c0 c1 x u) H) (hS : va_S A s.heap H locs) (hl : lv_has ls 8 [(0, .ref b), (1, .ref (adh 0)), (2, .ref (adx 0)), (3, .ref (adu 0)), (4, .int x4)]) : W p l e room_1 s m0 #[Value.ref b] below meth c H locs cells slots Q (F0 m0 2117 ls []) := by
  obtain ⟨hx, hb, hml, hown, hK, hT⟩ := hLX.rest
  obtain ⟨Fx0, hX, hbl, hbA, hD1, hA1⟩ := hLX
  unfold D_L_law_2117 at hD
  refine lv_aload_n hx hb dL_law_2117 rfl (lv_at hl 1 rfl) ?_
  obtain ⟨v1, m2, z3, hD⟩ := b2_el hD
  refine lrV (Wf := fun z => Wf z m f c0 c1 x u) (mm := h) (As := []) (rest := []) Fx0 (c_X9_resume l (Wf := fun z0_ z1_ => Wf z0_ z1_ f c0 c1 x u) (fun z1_ => hLh z1_ f c0 c1 x u) (fun z0_ => hL z0_ f c0 c1 x u) (fun a0_ b0_ a1_ b1_ => hAd a0_ b0_ a1_ b1_ f f c0 c0 c1 c1 x x u u) hm1 h m z3) hP (hD1 _ (hAd _ _ _ _ _ _ _ _ _ _ _ _ _ _)) hS (hA1 _ _ (hAd _ _ _ _ _ _ _ _ _ _ _ _ _ _) hS.1) (hLh m f c0 c1 x u) (Nat.le_of_ble_eq_true rfl) (hs0 _ _) rfl tw_4_171 tw_4_168 tw_4_169 tw_4_170 tw_1_1 yd_X9_resume ⟨(Nat.le_of_ble_eq_true rfl), (Nat.le_of_ble_eq_true rfl)⟩ ⟨show _ ≤ 601024 by omega, show _ ≤ 7293034 by omega⟩ rfl hl.1 rfl (Nat.le_of_ble_eq_true rfl) dL_law_2118 (fun H locs hP hS => ?_)
  refine lv_aload_n hx hb dL_law_2121 rfl (lv_at hl 2 rfl) ?_
  obtain ⟨v4, m5, z6, hD⟩ := b2_el hD
  refine lrV (Wf := fun z => Wf h m2 f c0 c1 z u) (mm := x) (As := []) (rest := [.int v1]) Fx0 (c_X10_resume l (Wf := fun z0_ => Wf h m2 f c0 c1 z0_ u) (hLx h m2 f c0 c1 u) (fun a0_ b0_ => hAd h h m2 m2 f f c0 c0 c1 c1 a0_ b0_ u u) x z6) hP (hD1 _ (hAd _ _ _ _ _ _ _ _ _ _ _ _ _ _)) hS (hA1 _ _ (hAd _ _ _ _ _ _ _ _ _ _ _ _ _ _) hS.1) (hLx h m2 f c0 c1 u) (Nat.le_of_ble_eq_true rfl) (xs0 _ _) rfl tw_9_10 tw_9_7 tw_9_8 tw_9_9 tw_1_13 yd_X10_resume ⟨(Nat.le_of_ble_eq_true rfl), (Nat.le_of_ble_eq_true rfl)⟩ ⟨show _ ≤ 601024 by omega, show _ ≤ 7293034 by omega⟩ rfl hl.1 rfl (Nat.le_of_ble_eq_true rfl) dL_law_2122 (fun H locs hP hS => ?_)
  refine lv_icmp_eq (tgt := 2964) hx hb dL_law_2125 (by decide) (fun c => ?_) (fun c => ?_)
  · have hD := ifp hD c
    obtain ⟨v7, ev7, hD⟩ := bnd_el hD
    refine lv_iinc (v := v7) (lv' := [(4, .int v7), (0, .ref b), (1, .ref (adh 0)), (2, .ref (adx 0)), (3, .ref (adu 0))]) hx hb dL_law_2964 hl (k := 4) rfl (by rw [ev7]; rfl) (by decide) rfl (fun ls hl => ?_)
    refine lv_goto (tgt := 23) hx hb dL_law_2967 (by decide) ?_
    exact hk v7 h m2 f c0 c1 m5 u _ _ _ _ _ hD (show _ + n ≤ 601024 by omega) (show _ + 6 * n ≤ 7293034 by omega) hP hS (lv_sub hl [1, 2, 3, 4, 0] rfl)
  · have hD := ifn hD c
    refine lv_iconst (v := (0 : Int32)) hx hb dL_law_2128 (by decide) ?_
    exact nn_el hD
noncomputable def D_L_law_2130 (L : Nat) (xs : Nat → Int32) (k : LKont) (x4 : Int32) (h : MM) (m : MM) (f : MM) (c0 : MM) (c1 : MM) (x : MM) (u : MM) : Option Unit := if (x4 + (1 : Int32)) < 0 ∨ L ≤ (x4 + (1 : Int32)).toNatClampNeg then none else (if (x4 + (2 : Int32)) < 0 ∨ L ≤ (x4 + (2 : Int32)).toNatClampNeg then none else (b2 (D_L_ledger (xs (x4 + (1 : Int32)).toNatClampNeg) (xs (x4 + (2 : Int32)).toNatClampNeg) h m u) (fun v3 m4 => if (x4 + (1 : Int32)) < 0 ∨ L ≤ (x4 + (1 : Int32)).toNatClampNeg then none else (if (x4 + (2 : Int32)) < 0 ∨ L ≤ (x4 + (2 : Int32)).toNatClampNeg then none else (b2 (D_X10_ledger (xs (x4 + (1 : Int32)).toNatClampNeg) (xs (x4 + (2 : Int32)).toNatClampNeg) x) (fun v8 m9 => b1 (D_X10_thrown m9) (fun v11 => if v11 = v3 then (if v3 = 0 then (if (gl m4 0 0) = v8.toInt64 then (bnd (x4 + (3 : Int32)) (fun v14 => k v14 h m f c0 c1 m9 m4)) else (none)) else (bnd (x4 + (3 : Int32)) (fun v13 => k v13 h m f c0 c1 m9 m4))) else (none))))))))
set_option maxHeartbeats 4000000 in
set_option maxRecDepth 100000 in
theorem c_L_law_2130 (l : Launch) (hst : l.stackTraces = false) {p : Program} {e : Env} {s : State} {m0 : MethodId} {below : List Frame} {meth : Method} {c : Code} {b L : Nat} {xs : Nat → Int32} {D : va_G} {cs : Nat → ClassId} {A : Nat → Prop} {Q : State → Prop} {adh ad adf ad0 ad1 adx adu ma : Nat → Nat} {Wf : MM → MM → MM → MM → MM → MM → MM → va_W} (hLh : ∀ m f c0 c1 x u : MM, Ln 8 adh (hsh cs adh ma) (fun z => Wf z m f c0 c1 x u)) (hL : ∀ h f c0 c1 x u : MM, Ln 51 ad (msh cs ad) (fun z => Wf h z f c0 c1 x u)) (hLf : ∀ h m c0 c1 x u : MM, Ln 51 adf (msh cs adf) (fun z => Wf h m z c0 c1 x u)) (hL0 : ∀ h m f c1 x u : MM, Ln 51 ad0 (msh cs ad0) (fun z => Wf h m f z c1 x u)) (hL1 : ∀ h m f c0 x u : MM, Ln 51 ad1 (msh cs ad1) (fun z => Wf h m f c0 z x u)) (hLx : ∀ h m f c0 c1 u : MM, Ln 9 adx (xsh cs adx) (fun z => Wf h m f c0 c1 z u)) (hLu : ∀ h m f c0 c1 x : MM, Ln 1 adu (ush cs) (fun z => Wf h m f c0 c1 x z)) (hAd : ∀ a0_ b0_ a1_ b1_ a2_ b2_ a3_ b3_ a4_ b4_ a5_ b5_ a6_ b6_ : MM, (Wf a0_ a1_ a2_ a3_ a4_ a5_ a6_).map (fun q => q.1) = (Wf b0_ b1_ b2_ b3_ b4_ b5_ b6_).map (fun q => q.1)) (hm1 : ma 1 = ad 24) (hm2 : ma 2 = adf 24) (hm3 : ma 3 = ad0 24) (hm4 : ma 4 = ad1 24) (hLX : LX p s m0 c b L xs D cs A (Wf zMM zMM zMM zMM zMM zMM zMM)) (n : Nat) (k : LKont) (hk : LK p l e s m0 below meth c b D A Q adh adx adu Wf n k) (x4 : Int32) (h : MM) (m : MM) (f : MM) (c0 : MM) (c1 : MM) (x : MM) (u : MM) (cells slots : Nat) (H : Heap) (locs : List Loc) (ls : Array Slot) (hD : D_L_law_2130 L xs k x4 h m f c0 c1 x u = some ()) (hcl : cells + (n + 1) ≤ 601024) (hsl : slots + 6 * (n + 1) ≤ 7293034) (hP : va_P D vwCl (Wf h m f c0 c1 x u) H) (hS : va_S A s.heap H locs) (hl : lv_has ls 8 [(0, .ref b), (1, .ref (adh 0)), (2, .ref (adx 0)), (3, .ref (adu 0)), (4, .int x4)]) : W p l e room_1 s m0 #[Value.ref b] below meth c H locs cells slots Q (F0 m0 2130 ls []) := by
  obtain ⟨hx, hb, hml, hown, hK, hT⟩ := hLX.rest
  obtain ⟨Fx0, hX, hbl, hbA, hD1, hA1⟩ := hLX
  unfold D_L_law_2130 at hD
  refine lv_aload_n hx hb dL_law_2130 rfl (lv_at hl 1 rfl) ?_
  refine lv_aload_n hx hb dL_law_2131 rfl (lv_at hl 0 rfl) ?_
  refine lv_iload hx hb dL_law_2132 (lv_at hl 4 rfl) ?_
  refine lv_iconst (v := (1 : Int32)) hx hb dL_law_2134 (by decide) ?_
  refine lv_iadd hx hb dL_law_2135 ?_
  obtain ⟨h1, hD⟩ := gd_el hD
  refine va_sld hx hb hX hbl hbA hS h1 dL_law_2136 ?_
  refine lv_aload_n hx hb dL_law_2137 rfl (lv_at hl 0 rfl) ?_
  refine lv_iload hx hb dL_law_2138 (lv_at hl 4 rfl) ?_
  refine lv_iconst (v := (2 : Int32)) hx hb dL_law_2140 (by decide) ?_
  refine lv_iadd hx hb dL_law_2141 ?_
  obtain ⟨h2, hD⟩ := gd_el hD
  refine va_sld hx hb hX hbl hbA hS h2 dL_law_2142 ?_
  refine lv_aload_n hx hb dL_law_2143 rfl (lv_at hl 3 rfl) ?_
  obtain ⟨v3, m4, z5, hD⟩ := b2_el hD
  refine lrL (As := [.ref (adh 0), .int (xs (x4 + (1 : Int32)).toNatClampNeg), .int (xs (x4 + (2 : Int32)).toNatClampNeg), .ref (adu 0)]) (rest := []) Fx0 (c_L_ledger l hst (Wf := fun z0_ z1_ z2_ => Wf z0_ z1_ f c0 c1 x z2_) (fun z1_ z2_ => hLh z1_ f c0 c1 x z2_) (fun z0_ z2_ => hL z0_ f c0 c1 x z2_) (fun z0_ z1_ => hLu z0_ z1_ f c0 c1 x) (fun a0_ b0_ a1_ b1_ a2_ b2_ => hAd a0_ b0_ a1_ b1_ f f c0 c0 c1 c1 x x a2_ b2_) hm1 h m u (xs (x4 + (1 : Int32)).toNatClampNeg) (xs (x4 + (2 : Int32)).toNatClampNeg) z5) hP (hD1 _ (hAd _ _ _ _ _ _ _ _ _ _ _ _ _ _)) hS (hA1 _ _ (hAd _ _ _ _ _ _ _ _ _ _ _ _ _ _) hS.1) tw_6_122 tw_6_120 tw_6_121 tw_1_0 yd_L_ledger ⟨(Nat.le_of_ble_eq_true rfl), (Nat.le_of_ble_eq_true rfl)⟩ ⟨show _ + 1 ≤ 601024 by omega, show _ + 6 ≤ 7293034 by omega⟩ rfl hl.1 rfl (Nat.le_of_ble_eq_true rfl) dL_law_2144 (fun H locs hP hS => ?_)
  refine lv_istore (lv' := [(5, .int v3), (0, .ref b), (1, .ref (adh 0)), (2, .ref (adx 0)), (3, .ref (adu 0)), (4, .int x4)]) hx hb dL_law_2147 hl (by decide) rfl (fun ls hl => ?_)
  refine lv_aload_n hx hb dL_law_2149 rfl (lv_at hl 3 rfl) ?_
  refine lv_aload_n hx hb dL_law_2150 rfl (lv_at hl 1 rfl) ?_
  refine lv_iload hx hb dL_law_2151 (lv_at hl 5 rfl) ?_
  refine lv_iconst (v := (1 : Int32)) hx hb dL_law_2153 (by decide) ?_
  refine lv_iadd hx hb dL_law_2154 ?_
  obtain ⟨h6, hD⟩ := gd_el hD
  refine va_sld hx hb hX hbl hbA hS h6 dL_law_2155 ?_
  refine lv_aload_n hx hb dL_law_2156 rfl (lv_at hl 1 rfl) ?_
  refine lv_iload hx hb dL_law_2157 (lv_at hl 5 rfl) ?_
  refine lv_iconst (v := (2 : Int32)) hx hb dL_law_2159 (by decide) ?_
  refine lv_iadd hx hb dL_law_2160 ?_
  obtain ⟨h7, hD⟩ := gd_el hD
  refine va_sld hx hb hX hbl hbA hS h7 dL_law_2161 ?_
  obtain ⟨v8, m9, z10, hD⟩ := b2_el hD
  refine lrV (Wf := fun z => Wf h m f c0 c1 z m4) (mm := x) (As := [.int (xs (x4 + (1 : Int32)).toNatClampNeg), .int (xs (x4 + (2 : Int32)).toNatClampNeg)]) (rest := []) Fx0 (c_X10_ledger l (Wf := fun z0_ => Wf h m f c0 c1 z0_ m4) (hLx h m f c0 c1 m4) (fun a0_ b0_ => hAd h h m m f f c0 c0 c1 c1 a0_ b0_ m4 m4) x (xs (x4 + (1 : Int32)).toNatClampNeg) (xs (x4 + (2 : Int32)).toNatClampNeg) z10) hP (hD1 _ (hAd _ _ _ _ _ _ _ _ _ _ _ _ _ _)) hS (hA1 _ _ (hAd _ _ _ _ _ _ _ _ _ _ _ _ _ _) hS.1) (hLx h m f c0 c1 m4) (Nat.le_of_ble_eq_true rfl) (xs0 _ _) rfl tw_9_14 tw_9_11 tw_9_12 tw_9_13 tw_1_13 yd_X10_ledger ⟨(Nat.le_of_ble_eq_true rfl), (Nat.le_of_ble_eq_true rfl)⟩ ⟨show _ ≤ 601024 by omega, show _ ≤ 7293034 by omega⟩ rfl hl.1 rfl (Nat.le_of_ble_eq_true rfl) dL_law_2162 (fun H locs hP hS => ?_)
  refine lv_istore (lv' := [(6, .int v8), (5, .int v3), (0, .ref b), (1, .ref (adh 0)), (2, .ref (adx 0)), (3, .ref (adu 0)), (4, .int x4)]) hx hb dL_law_2165 hl (by decide) rfl (fun ls hl => ?_)
  refine lv_aload_n hx hb dL_law_2167 rfl (lv_at hl 4 rfl) ?_
  obtain ⟨v11, z12, hD⟩ := b1_el hD
  refine lrV (Wf := fun z => Wf h m f c0 c1 z m4) (mm := m9) (As := []) (rest := []) Fx0 (c_X10_thrown l (Wf := fun z0_ => Wf h m f c0 c1 z0_ m4) (hLx h m f c0 c1 m4) (fun a0_ b0_ => hAd h h m m f f c0 c0 c1 c1 a0_ b0_ m4 m4) m9 z12) hP (hD1 _ (hAd _ _ _ _ _ _ _ _ _ _ _ _ _ _)) hS (hA1 _ _ (hAd _ _ _ _ _ _ _ _ _ _ _ _ _ _) hS.1) (hLx h m f c0 c1 m4) (Nat.le_of_ble_eq_true rfl) (xs0 _ _) rfl tw_7_30 tw_7_27 tw_7_28 tw_7_29 tw_1_13 yd_X10_thrown ⟨(Nat.le_of_ble_eq_true rfl), (Nat.le_of_ble_eq_true rfl)⟩ ⟨show _ ≤ 601024 by omega, show _ ≤ 7293034 by omega⟩ rfl hl.1 rfl (Nat.le_of_ble_eq_true rfl) dL_law_2168 (fun H locs hP hS => ?_)
  refine lv_iload hx hb dL_law_2171 (lv_at hl 1 rfl) ?_
  refine lv_icmp_eq (tgt := 2178) hx hb dL_law_2173 (by decide) (fun c => ?_) (fun c => ?_)
  · have hD := ifp hD c
    refine lv_iload hx hb dL_law_2178 (lv_at hl 1 rfl) ?_
    refine lv_if_ne (tgt := 2195) hx hb dL_law_2180 (by decide) (fun c => ?_) (fun c => ?_)
    · have hD := ifn hD c
      refine lv_goto (tgt := 2964) hx hb dL_law_2195 (by decide) ?_
      obtain ⟨v13, ev13, hD⟩ := bnd_el hD
      refine lv_iinc (v := v13) (lv' := [(4, .int v13), (6, .int v8), (5, .int v3), (0, .ref b), (1, .ref (adh 0)), (2, .ref (adx 0)), (3, .ref (adu 0))]) hx hb dL_law_2964 hl (k := 6) rfl (by rw [ev13]; rfl) (by decide) rfl (fun ls hl => ?_)
      refine lv_goto (tgt := 23) hx hb dL_law_2967 (by decide) ?_
      exact hk v13 h m f c0 c1 m9 m4 _ _ _ _ _ hD (show _ + n ≤ 601024 by omega) (show _ + 6 * n ≤ 7293034 by omega) hP hS (lv_sub hl [3, 4, 5, 6, 0] rfl)
    · have hD := ifp hD c
      refine lv_aload_n hx hb dL_law_2183 rfl (lv_at hl 5 rfl) ?_
      refine lv_iconst (v := (0 : Int32)) hx hb dL_law_2184 (by decide) ?_
      refine rlald (Wf := fun z => Wf h m f c0 c1 m9 z) (mm := m4) hx hb hK hP (hLu h m f c0 c1 m9) 0 (Nat.le_of_ble_eq_true rfl) (us0 _ _) (by decide) (j := 0) (by decide) dL_law_2185 ?_
      refine lv_iload hx hb dL_law_2186 (lv_at hl 0 rfl) ?_
      refine lv_i2l (v := v8.toInt64) hx hb dL_law_2188 rfl ?_
      refine rlc_eq (tgt := 2195) hx hb dL_law_2189 dL_law_2190 (by decide) (fun c => ?_) (fun c => ?_)
      · have hD := ifp hD c
        refine lv_goto (tgt := 2964) hx hb dL_law_2195 (by decide) ?_
        obtain ⟨v14, ev14, hD⟩ := bnd_el hD
        refine lv_iinc (v := v14) (lv' := [(4, .int v14), (6, .int v8), (5, .int v3), (0, .ref b), (1, .ref (adh 0)), (2, .ref (adx 0)), (3, .ref (adu 0))]) hx hb dL_law_2964 hl (k := 6) rfl (by rw [ev14]; rfl) (by decide) rfl (fun ls hl => ?_)
        refine lv_goto (tgt := 23) hx hb dL_law_2967 (by decide) ?_
        exact hk v14 h m f c0 c1 m9 m4 _ _ _ _ _ hD (show _ + n ≤ 601024 by omega) (show _ + 6 * n ≤ 7293034 by omega) hP hS (lv_sub hl [3, 4, 5, 6, 0] rfl)
      · have hD := ifn hD c
        refine lv_iconst (v := (0 : Int32)) hx hb dL_law_2193 (by decide) ?_
        exact nn_el hD
  · have hD := ifn hD c
    refine lv_iconst (v := (0 : Int32)) hx hb dL_law_2176 (by decide) ?_
    exact nn_el hD
noncomputable def D_L_law_2198 (L : Nat) (xs : Nat → Int32) (k : LKont) (x4 : Int32) (h : MM) (m : MM) (f : MM) (c0 : MM) (c1 : MM) (x : MM) (u : MM) : Option Unit := b1 (D_X9_isBalanced h m) (fun v1 => b2 (D_X10_isBalanced x) (fun v3 m4 => if v1 = v3 then (bnd (x4 + (3 : Int32)) (fun v6 => k v6 h m f c0 c1 m4 u)) else (none)))
set_option maxHeartbeats 4000000 in
set_option maxRecDepth 100000 in
theorem c_L_law_2198 (l : Launch) (hst : l.stackTraces = false) {p : Program} {e : Env} {s : State} {m0 : MethodId} {below : List Frame} {meth : Method} {c : Code} {b L : Nat} {xs : Nat → Int32} {D : va_G} {cs : Nat → ClassId} {A : Nat → Prop} {Q : State → Prop} {adh ad adf ad0 ad1 adx adu ma : Nat → Nat} {Wf : MM → MM → MM → MM → MM → MM → MM → va_W} (hLh : ∀ m f c0 c1 x u : MM, Ln 8 adh (hsh cs adh ma) (fun z => Wf z m f c0 c1 x u)) (hL : ∀ h f c0 c1 x u : MM, Ln 51 ad (msh cs ad) (fun z => Wf h z f c0 c1 x u)) (hLf : ∀ h m c0 c1 x u : MM, Ln 51 adf (msh cs adf) (fun z => Wf h m z c0 c1 x u)) (hL0 : ∀ h m f c1 x u : MM, Ln 51 ad0 (msh cs ad0) (fun z => Wf h m f z c1 x u)) (hL1 : ∀ h m f c0 x u : MM, Ln 51 ad1 (msh cs ad1) (fun z => Wf h m f c0 z x u)) (hLx : ∀ h m f c0 c1 u : MM, Ln 9 adx (xsh cs adx) (fun z => Wf h m f c0 c1 z u)) (hLu : ∀ h m f c0 c1 x : MM, Ln 1 adu (ush cs) (fun z => Wf h m f c0 c1 x z)) (hAd : ∀ a0_ b0_ a1_ b1_ a2_ b2_ a3_ b3_ a4_ b4_ a5_ b5_ a6_ b6_ : MM, (Wf a0_ a1_ a2_ a3_ a4_ a5_ a6_).map (fun q => q.1) = (Wf b0_ b1_ b2_ b3_ b4_ b5_ b6_).map (fun q => q.1)) (hm1 : ma 1 = ad 24) (hm2 : ma 2 = adf 24) (hm3 : ma 3 = ad0 24) (hm4 : ma 4 = ad1 24) (hLX : LX p s m0 c b L xs D cs A (Wf zMM zMM zMM zMM zMM zMM zMM)) (n : Nat) (k : LKont) (hk : LK p l e s m0 below meth c b D A Q adh adx adu Wf n k) (x4 : Int32) (h : MM) (m : MM) (f : MM) (c0 : MM) (c1 : MM) (x : MM) (u : MM) (cells slots : Nat) (H : Heap) (locs : List Loc) (ls : Array Slot) (hD : D_L_law_2198 L xs k x4 h m f c0 c1 x u = some ()) (hcl : cells + (n + 1) ≤ 601024) (hsl : slots + 6 * (n + 1) ≤ 7293034) (hP : va_P D vwCl (Wf h m f c0 c1 x u) H) (hS : va_S A s.heap H locs) (hl : lv_has ls 8 [(0, .ref b), (1, .ref (adh 0)), (2, .ref (adx 0)), (3, .ref (adu 0)), (4, .int x4)]) : W p l e room_1 s m0 #[Value.ref b] below meth c H locs cells slots Q (F0 m0 2198 ls []) := by
  obtain ⟨hx, hb, hml, hown, hK, hT⟩ := hLX.rest
  obtain ⟨Fx0, hX, hbl, hbA, hD1, hA1⟩ := hLX
  unfold D_L_law_2198 at hD
  refine lv_aload_n hx hb dL_law_2198 rfl (lv_at hl 1 rfl) ?_
  obtain ⟨v1, z2, hD⟩ := b1_el hD
  refine lrV (Wf := fun z => Wf z m f c0 c1 x u) (mm := h) (As := []) (rest := []) Fx0 (c_X9_isBalanced l (Wf := fun z0_ z1_ => Wf z0_ z1_ f c0 c1 x u) (fun z1_ => hLh z1_ f c0 c1 x u) (fun z0_ => hL z0_ f c0 c1 x u) (fun a0_ b0_ a1_ b1_ => hAd a0_ b0_ a1_ b1_ f f c0 c0 c1 c1 x x u u) hm1 h m z2) hP (hD1 _ (hAd _ _ _ _ _ _ _ _ _ _ _ _ _ _)) hS (hA1 _ _ (hAd _ _ _ _ _ _ _ _ _ _ _ _ _ _) hS.1) (hLh m f c0 c1 x u) (Nat.le_of_ble_eq_true rfl) (hs0 _ _) rfl tw_4_175 tw_4_172 tw_4_173 tw_4_174 tw_1_1 yd_X9_isBalanced ⟨(Nat.le_of_ble_eq_true rfl), (Nat.le_of_ble_eq_true rfl)⟩ ⟨show _ ≤ 601024 by omega, show _ ≤ 7293034 by omega⟩ rfl hl.1 rfl (Nat.le_of_ble_eq_true rfl) dL_law_2199 (fun H locs hP hS => ?_)
  refine lv_aload_n hx hb dL_law_2202 rfl (lv_at hl 2 rfl) ?_
  obtain ⟨v3, m4, z5, hD⟩ := b2_el hD
  refine lrV (Wf := fun z => Wf h m f c0 c1 z u) (mm := x) (As := []) (rest := [.int v1]) Fx0 (c_X10_isBalanced l (Wf := fun z0_ => Wf h m f c0 c1 z0_ u) (hLx h m f c0 c1 u) (fun a0_ b0_ => hAd h h m m f f c0 c0 c1 c1 a0_ b0_ u u) x z5) hP (hD1 _ (hAd _ _ _ _ _ _ _ _ _ _ _ _ _ _)) hS (hA1 _ _ (hAd _ _ _ _ _ _ _ _ _ _ _ _ _ _) hS.1) (hLx h m f c0 c1 u) (Nat.le_of_ble_eq_true rfl) (xs0 _ _) rfl tw_9_31 tw_9_28 tw_9_29 tw_9_30 tw_1_13 yd_X10_isBalanced ⟨(Nat.le_of_ble_eq_true rfl), (Nat.le_of_ble_eq_true rfl)⟩ ⟨show _ ≤ 601024 by omega, show _ ≤ 7293034 by omega⟩ rfl hl.1 rfl (Nat.le_of_ble_eq_true rfl) dL_law_2203 (fun H locs hP hS => ?_)
  refine lv_icmp_eq (tgt := 2964) hx hb dL_law_2206 (by decide) (fun c => ?_) (fun c => ?_)
  · have hD := ifp hD c
    obtain ⟨v6, ev6, hD⟩ := bnd_el hD
    refine lv_iinc (v := v6) (lv' := [(4, .int v6), (0, .ref b), (1, .ref (adh 0)), (2, .ref (adx 0)), (3, .ref (adu 0))]) hx hb dL_law_2964 hl (k := 4) rfl (by rw [ev6]; rfl) (by decide) rfl (fun ls hl => ?_)
    refine lv_goto (tgt := 23) hx hb dL_law_2967 (by decide) ?_
    exact hk v6 h m f c0 c1 m4 u _ _ _ _ _ hD (show _ + n ≤ 601024 by omega) (show _ + 6 * n ≤ 7293034 by omega) hP hS (lv_sub hl [1, 2, 3, 4, 0] rfl)
  · have hD := ifn hD c
    refine lv_iconst (v := (0 : Int32)) hx hb dL_law_2209 (by decide) ?_
    exact nn_el hD
noncomputable def D_L_law_2211 (L : Nat) (xs : Nat → Int32) (k : LKont) (x4 : Int32) (h : MM) (m : MM) (f : MM) (c0 : MM) (c1 : MM) (x : MM) (u : MM) : Option Unit := b1 (D_X9_now h m) (fun v1 => b2 (D_X10_now x) (fun v3 m4 => if v1 = v3 then (bnd (x4 + (3 : Int32)) (fun v6 => k v6 h m f c0 c1 m4 u)) else (none)))
set_option maxHeartbeats 4000000 in
set_option maxRecDepth 100000 in
theorem c_L_law_2211 (l : Launch) (hst : l.stackTraces = false) {p : Program} {e : Env} {s : State} {m0 : MethodId} {below : List Frame} {meth : Method} {c : Code} {b L : Nat} {xs : Nat → Int32} {D : va_G} {cs : Nat → ClassId} {A : Nat → Prop} {Q : State → Prop} {adh ad adf ad0 ad1 adx adu ma : Nat → Nat} {Wf : MM → MM → MM → MM → MM → MM → MM → va_W} (hLh : ∀ m f c0 c1 x u : MM, Ln 8 adh (hsh cs adh ma) (fun z => Wf z m f c0 c1 x u)) (hL : ∀ h f c0 c1 x u : MM, Ln 51 ad (msh cs ad) (fun z => Wf h z f c0 c1 x u)) (hLf : ∀ h m c0 c1 x u : MM, Ln 51 adf (msh cs adf) (fun z => Wf h m z c0 c1 x u)) (hL0 : ∀ h m f c1 x u : MM, Ln 51 ad0 (msh cs ad0) (fun z => Wf h m f z c1 x u)) (hL1 : ∀ h m f c0 x u : MM, Ln 51 ad1 (msh cs ad1) (fun z => Wf h m f c0 z x u)) (hLx : ∀ h m f c0 c1 u : MM, Ln 9 adx (xsh cs adx) (fun z => Wf h m f c0 c1 z u)) (hLu : ∀ h m f c0 c1 x : MM, Ln 1 adu (ush cs) (fun z => Wf h m f c0 c1 x z)) (hAd : ∀ a0_ b0_ a1_ b1_ a2_ b2_ a3_ b3_ a4_ b4_ a5_ b5_ a6_ b6_ : MM, (Wf a0_ a1_ a2_ a3_ a4_ a5_ a6_).map (fun q => q.1) = (Wf b0_ b1_ b2_ b3_ b4_ b5_ b6_).map (fun q => q.1)) (hm1 : ma 1 = ad 24) (hm2 : ma 2 = adf 24) (hm3 : ma 3 = ad0 24) (hm4 : ma 4 = ad1 24) (hLX : LX p s m0 c b L xs D cs A (Wf zMM zMM zMM zMM zMM zMM zMM)) (n : Nat) (k : LKont) (hk : LK p l e s m0 below meth c b D A Q adh adx adu Wf n k) (x4 : Int32) (h : MM) (m : MM) (f : MM) (c0 : MM) (c1 : MM) (x : MM) (u : MM) (cells slots : Nat) (H : Heap) (locs : List Loc) (ls : Array Slot) (hD : D_L_law_2211 L xs k x4 h m f c0 c1 x u = some ()) (hcl : cells + (n + 1) ≤ 601024) (hsl : slots + 6 * (n + 1) ≤ 7293034) (hP : va_P D vwCl (Wf h m f c0 c1 x u) H) (hS : va_S A s.heap H locs) (hl : lv_has ls 8 [(0, .ref b), (1, .ref (adh 0)), (2, .ref (adx 0)), (3, .ref (adu 0)), (4, .int x4)]) : W p l e room_1 s m0 #[Value.ref b] below meth c H locs cells slots Q (F0 m0 2211 ls []) := by
  obtain ⟨hx, hb, hml, hown, hK, hT⟩ := hLX.rest
  obtain ⟨Fx0, hX, hbl, hbA, hD1, hA1⟩ := hLX
  unfold D_L_law_2211 at hD
  refine lv_aload_n hx hb dL_law_2211 rfl (lv_at hl 1 rfl) ?_
  obtain ⟨v1, z2, hD⟩ := b1_el hD
  refine lrV (Wf := fun z => Wf z m f c0 c1 x u) (mm := h) (As := []) (rest := []) Fx0 (c_X9_now l (Wf := fun z0_ z1_ => Wf z0_ z1_ f c0 c1 x u) (fun z1_ => hLh z1_ f c0 c1 x u) (fun z0_ => hL z0_ f c0 c1 x u) (fun a0_ b0_ a1_ b1_ => hAd a0_ b0_ a1_ b1_ f f c0 c0 c1 c1 x x u u) hm1 h m z2) hP (hD1 _ (hAd _ _ _ _ _ _ _ _ _ _ _ _ _ _)) hS (hA1 _ _ (hAd _ _ _ _ _ _ _ _ _ _ _ _ _ _) hS.1) (hLh m f c0 c1 x u) (Nat.le_of_ble_eq_true rfl) (hs0 _ _) rfl tw_4_192 tw_4_189 tw_4_190 tw_4_191 tw_1_1 yd_X9_now ⟨(Nat.le_of_ble_eq_true rfl), (Nat.le_of_ble_eq_true rfl)⟩ ⟨show _ ≤ 601024 by omega, show _ ≤ 7293034 by omega⟩ rfl hl.1 rfl (Nat.le_of_ble_eq_true rfl) dL_law_2212 (fun H locs hP hS => ?_)
  refine lv_aload_n hx hb dL_law_2215 rfl (lv_at hl 2 rfl) ?_
  obtain ⟨v3, m4, z5, hD⟩ := b2_el hD
  refine lrV (Wf := fun z => Wf h m f c0 c1 z u) (mm := x) (As := []) (rest := [.int v1]) Fx0 (c_X10_now l (Wf := fun z0_ => Wf h m f c0 c1 z0_ u) (hLx h m f c0 c1 u) (fun a0_ b0_ => hAd h h m m f f c0 c0 c1 c1 a0_ b0_ u u) x z5) hP (hD1 _ (hAd _ _ _ _ _ _ _ _ _ _ _ _ _ _)) hS (hA1 _ _ (hAd _ _ _ _ _ _ _ _ _ _ _ _ _ _) hS.1) (hLx h m f c0 c1 u) (Nat.le_of_ble_eq_true rfl) (xs0 _ _) rfl tw_9_35 tw_9_32 tw_9_33 tw_9_34 tw_1_13 yd_X10_now ⟨(Nat.le_of_ble_eq_true rfl), (Nat.le_of_ble_eq_true rfl)⟩ ⟨show _ ≤ 601024 by omega, show _ ≤ 7293034 by omega⟩ rfl hl.1 rfl (Nat.le_of_ble_eq_true rfl) dL_law_2216 (fun H locs hP hS => ?_)
  refine lv_icmp_eq (tgt := 2964) hx hb dL_law_2219 (by decide) (fun c => ?_) (fun c => ?_)
  · have hD := ifp hD c
    obtain ⟨v6, ev6, hD⟩ := bnd_el hD
    refine lv_iinc (v := v6) (lv' := [(4, .int v6), (0, .ref b), (1, .ref (adh 0)), (2, .ref (adx 0)), (3, .ref (adu 0))]) hx hb dL_law_2964 hl (k := 4) rfl (by rw [ev6]; rfl) (by decide) rfl (fun ls hl => ?_)
    refine lv_goto (tgt := 23) hx hb dL_law_2967 (by decide) ?_
    exact hk v6 h m f c0 c1 m4 u _ _ _ _ _ hD (show _ + n ≤ 601024 by omega) (show _ + 6 * n ≤ 7293034 by omega) hP hS (lv_sub hl [1, 2, 3, 4, 0] rfl)
  · have hD := ifn hD c
    refine lv_iconst (v := (0 : Int32)) hx hb dL_law_2222 (by decide) ?_
    exact nn_el hD
noncomputable def D_L_law_2224 (L : Nat) (xs : Nat → Int32) (k : LKont) (x4 : Int32) (h : MM) (m : MM) (f : MM) (c0 : MM) (c1 : MM) (x : MM) (u : MM) : Option Unit := if (x4 + (1 : Int32)) < 0 ∨ L ≤ (x4 + (1 : Int32)).toNatClampNeg then none else (b2 (D_L_head (xs (x4 + (1 : Int32)).toNatClampNeg) h m u) (fun v2 m3 => if (x4 + (1 : Int32)) < 0 ∨ L ≤ (x4 + (1 : Int32)).toNatClampNeg then none else (b2 (D_X10_head (xs (x4 + (1 : Int32)).toNatClampNeg) x) (fun v6 m7 => b1 (D_X10_thrown m7) (fun v9 => if v9 = v2 then (if v2 = 0 then (if (gl m3 0 0) = v6.toInt64 then (bnd (x4 + (3 : Int32)) (fun v12 => k v12 h m f c0 c1 m7 m3)) else (none)) else (bnd (x4 + (3 : Int32)) (fun v11 => k v11 h m f c0 c1 m7 m3))) else (none))))))
set_option maxHeartbeats 4000000 in
set_option maxRecDepth 100000 in
theorem c_L_law_2224 (l : Launch) (hst : l.stackTraces = false) {p : Program} {e : Env} {s : State} {m0 : MethodId} {below : List Frame} {meth : Method} {c : Code} {b L : Nat} {xs : Nat → Int32} {D : va_G} {cs : Nat → ClassId} {A : Nat → Prop} {Q : State → Prop} {adh ad adf ad0 ad1 adx adu ma : Nat → Nat} {Wf : MM → MM → MM → MM → MM → MM → MM → va_W} (hLh : ∀ m f c0 c1 x u : MM, Ln 8 adh (hsh cs adh ma) (fun z => Wf z m f c0 c1 x u)) (hL : ∀ h f c0 c1 x u : MM, Ln 51 ad (msh cs ad) (fun z => Wf h z f c0 c1 x u)) (hLf : ∀ h m c0 c1 x u : MM, Ln 51 adf (msh cs adf) (fun z => Wf h m z c0 c1 x u)) (hL0 : ∀ h m f c1 x u : MM, Ln 51 ad0 (msh cs ad0) (fun z => Wf h m f z c1 x u)) (hL1 : ∀ h m f c0 x u : MM, Ln 51 ad1 (msh cs ad1) (fun z => Wf h m f c0 z x u)) (hLx : ∀ h m f c0 c1 u : MM, Ln 9 adx (xsh cs adx) (fun z => Wf h m f c0 c1 z u)) (hLu : ∀ h m f c0 c1 x : MM, Ln 1 adu (ush cs) (fun z => Wf h m f c0 c1 x z)) (hAd : ∀ a0_ b0_ a1_ b1_ a2_ b2_ a3_ b3_ a4_ b4_ a5_ b5_ a6_ b6_ : MM, (Wf a0_ a1_ a2_ a3_ a4_ a5_ a6_).map (fun q => q.1) = (Wf b0_ b1_ b2_ b3_ b4_ b5_ b6_).map (fun q => q.1)) (hm1 : ma 1 = ad 24) (hm2 : ma 2 = adf 24) (hm3 : ma 3 = ad0 24) (hm4 : ma 4 = ad1 24) (hLX : LX p s m0 c b L xs D cs A (Wf zMM zMM zMM zMM zMM zMM zMM)) (n : Nat) (k : LKont) (hk : LK p l e s m0 below meth c b D A Q adh adx adu Wf n k) (x4 : Int32) (h : MM) (m : MM) (f : MM) (c0 : MM) (c1 : MM) (x : MM) (u : MM) (cells slots : Nat) (H : Heap) (locs : List Loc) (ls : Array Slot) (hD : D_L_law_2224 L xs k x4 h m f c0 c1 x u = some ()) (hcl : cells + (n + 1) ≤ 601024) (hsl : slots + 6 * (n + 1) ≤ 7293034) (hP : va_P D vwCl (Wf h m f c0 c1 x u) H) (hS : va_S A s.heap H locs) (hl : lv_has ls 8 [(0, .ref b), (1, .ref (adh 0)), (2, .ref (adx 0)), (3, .ref (adu 0)), (4, .int x4)]) : W p l e room_1 s m0 #[Value.ref b] below meth c H locs cells slots Q (F0 m0 2224 ls []) := by
  obtain ⟨hx, hb, hml, hown, hK, hT⟩ := hLX.rest
  obtain ⟨Fx0, hX, hbl, hbA, hD1, hA1⟩ := hLX
  unfold D_L_law_2224 at hD
  refine lv_aload_n hx hb dL_law_2224 rfl (lv_at hl 1 rfl) ?_
  refine lv_aload_n hx hb dL_law_2225 rfl (lv_at hl 0 rfl) ?_
  refine lv_iload hx hb dL_law_2226 (lv_at hl 4 rfl) ?_
  refine lv_iconst (v := (1 : Int32)) hx hb dL_law_2228 (by decide) ?_
  refine lv_iadd hx hb dL_law_2229 ?_
  obtain ⟨h1, hD⟩ := gd_el hD
  refine va_sld hx hb hX hbl hbA hS h1 dL_law_2230 ?_
  refine lv_aload_n hx hb dL_law_2231 rfl (lv_at hl 3 rfl) ?_
  obtain ⟨v2, m3, z4, hD⟩ := b2_el hD
  refine lrL (As := [.ref (adh 0), .int (xs (x4 + (1 : Int32)).toNatClampNeg), .ref (adu 0)]) (rest := []) Fx0 (c_L_head l hst (Wf := fun z0_ z1_ z2_ => Wf z0_ z1_ f c0 c1 x z2_) (fun z1_ z2_ => hLh z1_ f c0 c1 x z2_) (fun z0_ z2_ => hL z0_ f c0 c1 x z2_) (fun z0_ z1_ => hLu z0_ z1_ f c0 c1 x) (fun a0_ b0_ a1_ b1_ a2_ b2_ => hAd a0_ b0_ a1_ b1_ f f c0 c0 c1 c1 x x a2_ b2_) hm1 h m u (xs (x4 + (1 : Int32)).toNatClampNeg) z4) hP (hD1 _ (hAd _ _ _ _ _ _ _ _ _ _ _ _ _ _)) hS (hA1 _ _ (hAd _ _ _ _ _ _ _ _ _ _ _ _ _ _) hS.1) tw_6_129 tw_6_127 tw_6_128 tw_1_0 yd_L_head ⟨(Nat.le_of_ble_eq_true rfl), (Nat.le_of_ble_eq_true rfl)⟩ ⟨show _ + 1 ≤ 601024 by omega, show _ + 6 ≤ 7293034 by omega⟩ rfl hl.1 rfl (Nat.le_of_ble_eq_true rfl) dL_law_2232 (fun H locs hP hS => ?_)
  refine lv_istore (lv' := [(5, .int v2), (0, .ref b), (1, .ref (adh 0)), (2, .ref (adx 0)), (3, .ref (adu 0)), (4, .int x4)]) hx hb dL_law_2235 hl (by decide) rfl (fun ls hl => ?_)
  refine lv_aload_n hx hb dL_law_2237 rfl (lv_at hl 3 rfl) ?_
  refine lv_aload_n hx hb dL_law_2238 rfl (lv_at hl 1 rfl) ?_
  refine lv_iload hx hb dL_law_2239 (lv_at hl 5 rfl) ?_
  refine lv_iconst (v := (1 : Int32)) hx hb dL_law_2241 (by decide) ?_
  refine lv_iadd hx hb dL_law_2242 ?_
  obtain ⟨h5, hD⟩ := gd_el hD
  refine va_sld hx hb hX hbl hbA hS h5 dL_law_2243 ?_
  obtain ⟨v6, m7, z8, hD⟩ := b2_el hD
  refine lrV (Wf := fun z => Wf h m f c0 c1 z m3) (mm := x) (As := [.int (xs (x4 + (1 : Int32)).toNatClampNeg)]) (rest := []) Fx0 (c_X10_head l (Wf := fun z0_ => Wf h m f c0 c1 z0_ m3) (hLx h m f c0 c1 m3) (fun a0_ b0_ => hAd h h m m f f c0 c0 c1 c1 a0_ b0_ m3 m3) x (xs (x4 + (1 : Int32)).toNatClampNeg) z8) hP (hD1 _ (hAd _ _ _ _ _ _ _ _ _ _ _ _ _ _)) hS (hA1 _ _ (hAd _ _ _ _ _ _ _ _ _ _ _ _ _ _) hS.1) (hLx h m f c0 c1 m3) (Nat.le_of_ble_eq_true rfl) (xs0 _ _) rfl tw_9_39 tw_9_36 tw_9_37 tw_9_38 tw_1_13 yd_X10_head ⟨(Nat.le_of_ble_eq_true rfl), (Nat.le_of_ble_eq_true rfl)⟩ ⟨show _ ≤ 601024 by omega, show _ ≤ 7293034 by omega⟩ rfl hl.1 rfl (Nat.le_of_ble_eq_true rfl) dL_law_2244 (fun H locs hP hS => ?_)
  refine lv_istore (lv' := [(6, .int v6), (5, .int v2), (0, .ref b), (1, .ref (adh 0)), (2, .ref (adx 0)), (3, .ref (adu 0)), (4, .int x4)]) hx hb dL_law_2247 hl (by decide) rfl (fun ls hl => ?_)
  refine lv_aload_n hx hb dL_law_2249 rfl (lv_at hl 4 rfl) ?_
  obtain ⟨v9, z10, hD⟩ := b1_el hD
  refine lrV (Wf := fun z => Wf h m f c0 c1 z m3) (mm := m7) (As := []) (rest := []) Fx0 (c_X10_thrown l (Wf := fun z0_ => Wf h m f c0 c1 z0_ m3) (hLx h m f c0 c1 m3) (fun a0_ b0_ => hAd h h m m f f c0 c0 c1 c1 a0_ b0_ m3 m3) m7 z10) hP (hD1 _ (hAd _ _ _ _ _ _ _ _ _ _ _ _ _ _)) hS (hA1 _ _ (hAd _ _ _ _ _ _ _ _ _ _ _ _ _ _) hS.1) (hLx h m f c0 c1 m3) (Nat.le_of_ble_eq_true rfl) (xs0 _ _) rfl tw_7_30 tw_7_27 tw_7_28 tw_7_29 tw_1_13 yd_X10_thrown ⟨(Nat.le_of_ble_eq_true rfl), (Nat.le_of_ble_eq_true rfl)⟩ ⟨show _ ≤ 601024 by omega, show _ ≤ 7293034 by omega⟩ rfl hl.1 rfl (Nat.le_of_ble_eq_true rfl) dL_law_2250 (fun H locs hP hS => ?_)
  refine lv_iload hx hb dL_law_2253 (lv_at hl 1 rfl) ?_
  refine lv_icmp_eq (tgt := 2260) hx hb dL_law_2255 (by decide) (fun c => ?_) (fun c => ?_)
  · have hD := ifp hD c
    refine lv_iload hx hb dL_law_2260 (lv_at hl 1 rfl) ?_
    refine lv_if_ne (tgt := 2277) hx hb dL_law_2262 (by decide) (fun c => ?_) (fun c => ?_)
    · have hD := ifn hD c
      refine lv_goto (tgt := 2964) hx hb dL_law_2277 (by decide) ?_
      obtain ⟨v11, ev11, hD⟩ := bnd_el hD
      refine lv_iinc (v := v11) (lv' := [(4, .int v11), (6, .int v6), (5, .int v2), (0, .ref b), (1, .ref (adh 0)), (2, .ref (adx 0)), (3, .ref (adu 0))]) hx hb dL_law_2964 hl (k := 6) rfl (by rw [ev11]; rfl) (by decide) rfl (fun ls hl => ?_)
      refine lv_goto (tgt := 23) hx hb dL_law_2967 (by decide) ?_
      exact hk v11 h m f c0 c1 m7 m3 _ _ _ _ _ hD (show _ + n ≤ 601024 by omega) (show _ + 6 * n ≤ 7293034 by omega) hP hS (lv_sub hl [3, 4, 5, 6, 0] rfl)
    · have hD := ifp hD c
      refine lv_aload_n hx hb dL_law_2265 rfl (lv_at hl 5 rfl) ?_
      refine lv_iconst (v := (0 : Int32)) hx hb dL_law_2266 (by decide) ?_
      refine rlald (Wf := fun z => Wf h m f c0 c1 m7 z) (mm := m3) hx hb hK hP (hLu h m f c0 c1 m7) 0 (Nat.le_of_ble_eq_true rfl) (us0 _ _) (by decide) (j := 0) (by decide) dL_law_2267 ?_
      refine lv_iload hx hb dL_law_2268 (lv_at hl 0 rfl) ?_
      refine lv_i2l (v := v6.toInt64) hx hb dL_law_2270 rfl ?_
      refine rlc_eq (tgt := 2277) hx hb dL_law_2271 dL_law_2272 (by decide) (fun c => ?_) (fun c => ?_)
      · have hD := ifp hD c
        refine lv_goto (tgt := 2964) hx hb dL_law_2277 (by decide) ?_
        obtain ⟨v12, ev12, hD⟩ := bnd_el hD
        refine lv_iinc (v := v12) (lv' := [(4, .int v12), (6, .int v6), (5, .int v2), (0, .ref b), (1, .ref (adh 0)), (2, .ref (adx 0)), (3, .ref (adu 0))]) hx hb dL_law_2964 hl (k := 6) rfl (by rw [ev12]; rfl) (by decide) rfl (fun ls hl => ?_)
        refine lv_goto (tgt := 23) hx hb dL_law_2967 (by decide) ?_
        exact hk v12 h m f c0 c1 m7 m3 _ _ _ _ _ hD (show _ + n ≤ 601024 by omega) (show _ + 6 * n ≤ 7293034 by omega) hP hS (lv_sub hl [3, 4, 5, 6, 0] rfl)
      · have hD := ifn hD c
        refine lv_iconst (v := (0 : Int32)) hx hb dL_law_2275 (by decide) ?_
        exact nn_el hD
  · have hD := ifn hD c
    refine lv_iconst (v := (0 : Int32)) hx hb dL_law_2258 (by decide) ?_
    exact nn_el hD
noncomputable def D_L_law_2280 (L : Nat) (xs : Nat → Int32) (k : LKont) (x4 : Int32) (h : MM) (m : MM) (f : MM) (c0 : MM) (c1 : MM) (x : MM) (u : MM) : Option Unit := if (x4 + (1 : Int32)) < 0 ∨ L ≤ (x4 + (1 : Int32)).toNatClampNeg then none else (b2 (D_L_done (xs (x4 + (1 : Int32)).toNatClampNeg) h m u) (fun v2 m3 => if (x4 + (1 : Int32)) < 0 ∨ L ≤ (x4 + (1 : Int32)).toNatClampNeg then none else (b2 (D_X10_done (xs (x4 + (1 : Int32)).toNatClampNeg) x) (fun v6 m7 => b1 (D_X10_thrown m7) (fun v9 => if v9 = v2 then (if v2 = 0 then (if (gl m3 0 0) = v6.toInt64 then (bnd (x4 + (3 : Int32)) (fun v12 => k v12 h m f c0 c1 m7 m3)) else (none)) else (bnd (x4 + (3 : Int32)) (fun v11 => k v11 h m f c0 c1 m7 m3))) else (none))))))
set_option maxHeartbeats 4000000 in
set_option maxRecDepth 100000 in
theorem c_L_law_2280 (l : Launch) (hst : l.stackTraces = false) {p : Program} {e : Env} {s : State} {m0 : MethodId} {below : List Frame} {meth : Method} {c : Code} {b L : Nat} {xs : Nat → Int32} {D : va_G} {cs : Nat → ClassId} {A : Nat → Prop} {Q : State → Prop} {adh ad adf ad0 ad1 adx adu ma : Nat → Nat} {Wf : MM → MM → MM → MM → MM → MM → MM → va_W} (hLh : ∀ m f c0 c1 x u : MM, Ln 8 adh (hsh cs adh ma) (fun z => Wf z m f c0 c1 x u)) (hL : ∀ h f c0 c1 x u : MM, Ln 51 ad (msh cs ad) (fun z => Wf h z f c0 c1 x u)) (hLf : ∀ h m c0 c1 x u : MM, Ln 51 adf (msh cs adf) (fun z => Wf h m z c0 c1 x u)) (hL0 : ∀ h m f c1 x u : MM, Ln 51 ad0 (msh cs ad0) (fun z => Wf h m f z c1 x u)) (hL1 : ∀ h m f c0 x u : MM, Ln 51 ad1 (msh cs ad1) (fun z => Wf h m f c0 z x u)) (hLx : ∀ h m f c0 c1 u : MM, Ln 9 adx (xsh cs adx) (fun z => Wf h m f c0 c1 z u)) (hLu : ∀ h m f c0 c1 x : MM, Ln 1 adu (ush cs) (fun z => Wf h m f c0 c1 x z)) (hAd : ∀ a0_ b0_ a1_ b1_ a2_ b2_ a3_ b3_ a4_ b4_ a5_ b5_ a6_ b6_ : MM, (Wf a0_ a1_ a2_ a3_ a4_ a5_ a6_).map (fun q => q.1) = (Wf b0_ b1_ b2_ b3_ b4_ b5_ b6_).map (fun q => q.1)) (hm1 : ma 1 = ad 24) (hm2 : ma 2 = adf 24) (hm3 : ma 3 = ad0 24) (hm4 : ma 4 = ad1 24) (hLX : LX p s m0 c b L xs D cs A (Wf zMM zMM zMM zMM zMM zMM zMM)) (n : Nat) (k : LKont) (hk : LK p l e s m0 below meth c b D A Q adh adx adu Wf n k) (x4 : Int32) (h : MM) (m : MM) (f : MM) (c0 : MM) (c1 : MM) (x : MM) (u : MM) (cells slots : Nat) (H : Heap) (locs : List Loc) (ls : Array Slot) (hD : D_L_law_2280 L xs k x4 h m f c0 c1 x u = some ()) (hcl : cells + (n + 1) ≤ 601024) (hsl : slots + 6 * (n + 1) ≤ 7293034) (hP : va_P D vwCl (Wf h m f c0 c1 x u) H) (hS : va_S A s.heap H locs) (hl : lv_has ls 8 [(0, .ref b), (1, .ref (adh 0)), (2, .ref (adx 0)), (3, .ref (adu 0)), (4, .int x4)]) : W p l e room_1 s m0 #[Value.ref b] below meth c H locs cells slots Q (F0 m0 2280 ls []) := by
  obtain ⟨hx, hb, hml, hown, hK, hT⟩ := hLX.rest
  obtain ⟨Fx0, hX, hbl, hbA, hD1, hA1⟩ := hLX
  unfold D_L_law_2280 at hD
  refine lv_aload_n hx hb dL_law_2280 rfl (lv_at hl 1 rfl) ?_
  refine lv_aload_n hx hb dL_law_2281 rfl (lv_at hl 0 rfl) ?_
  refine lv_iload hx hb dL_law_2282 (lv_at hl 4 rfl) ?_
  refine lv_iconst (v := (1 : Int32)) hx hb dL_law_2284 (by decide) ?_
  refine lv_iadd hx hb dL_law_2285 ?_
  obtain ⟨h1, hD⟩ := gd_el hD
  refine va_sld hx hb hX hbl hbA hS h1 dL_law_2286 ?_
  refine lv_aload_n hx hb dL_law_2287 rfl (lv_at hl 3 rfl) ?_
  obtain ⟨v2, m3, z4, hD⟩ := b2_el hD
  refine lrL (As := [.ref (adh 0), .int (xs (x4 + (1 : Int32)).toNatClampNeg), .ref (adu 0)]) (rest := []) Fx0 (c_L_done l hst (Wf := fun z0_ z1_ z2_ => Wf z0_ z1_ f c0 c1 x z2_) (fun z1_ z2_ => hLh z1_ f c0 c1 x z2_) (fun z0_ z2_ => hL z0_ f c0 c1 x z2_) (fun z0_ z1_ => hLu z0_ z1_ f c0 c1 x) (fun a0_ b0_ a1_ b1_ a2_ b2_ => hAd a0_ b0_ a1_ b1_ f f c0 c0 c1 c1 x x a2_ b2_) hm1 h m u (xs (x4 + (1 : Int32)).toNatClampNeg) z4) hP (hD1 _ (hAd _ _ _ _ _ _ _ _ _ _ _ _ _ _)) hS (hA1 _ _ (hAd _ _ _ _ _ _ _ _ _ _ _ _ _ _) hS.1) tw_6_136 tw_6_134 tw_6_135 tw_1_0 yd_L_done ⟨(Nat.le_of_ble_eq_true rfl), (Nat.le_of_ble_eq_true rfl)⟩ ⟨show _ + 1 ≤ 601024 by omega, show _ + 6 ≤ 7293034 by omega⟩ rfl hl.1 rfl (Nat.le_of_ble_eq_true rfl) dL_law_2288 (fun H locs hP hS => ?_)
  refine lv_istore (lv' := [(5, .int v2), (0, .ref b), (1, .ref (adh 0)), (2, .ref (adx 0)), (3, .ref (adu 0)), (4, .int x4)]) hx hb dL_law_2291 hl (by decide) rfl (fun ls hl => ?_)
  refine lv_aload_n hx hb dL_law_2293 rfl (lv_at hl 3 rfl) ?_
  refine lv_aload_n hx hb dL_law_2294 rfl (lv_at hl 1 rfl) ?_
  refine lv_iload hx hb dL_law_2295 (lv_at hl 5 rfl) ?_
  refine lv_iconst (v := (1 : Int32)) hx hb dL_law_2297 (by decide) ?_
  refine lv_iadd hx hb dL_law_2298 ?_
  obtain ⟨h5, hD⟩ := gd_el hD
  refine va_sld hx hb hX hbl hbA hS h5 dL_law_2299 ?_
  obtain ⟨v6, m7, z8, hD⟩ := b2_el hD
  refine lrV (Wf := fun z => Wf h m f c0 c1 z m3) (mm := x) (As := [.int (xs (x4 + (1 : Int32)).toNatClampNeg)]) (rest := []) Fx0 (c_X10_done l (Wf := fun z0_ => Wf h m f c0 c1 z0_ m3) (hLx h m f c0 c1 m3) (fun a0_ b0_ => hAd h h m m f f c0 c0 c1 c1 a0_ b0_ m3 m3) x (xs (x4 + (1 : Int32)).toNatClampNeg) z8) hP (hD1 _ (hAd _ _ _ _ _ _ _ _ _ _ _ _ _ _)) hS (hA1 _ _ (hAd _ _ _ _ _ _ _ _ _ _ _ _ _ _) hS.1) (hLx h m f c0 c1 m3) (Nat.le_of_ble_eq_true rfl) (xs0 _ _) rfl tw_9_43 tw_9_40 tw_9_41 tw_9_42 tw_1_13 yd_X10_done ⟨(Nat.le_of_ble_eq_true rfl), (Nat.le_of_ble_eq_true rfl)⟩ ⟨show _ ≤ 601024 by omega, show _ ≤ 7293034 by omega⟩ rfl hl.1 rfl (Nat.le_of_ble_eq_true rfl) dL_law_2300 (fun H locs hP hS => ?_)
  refine lv_istore (lv' := [(6, .int v6), (5, .int v2), (0, .ref b), (1, .ref (adh 0)), (2, .ref (adx 0)), (3, .ref (adu 0)), (4, .int x4)]) hx hb dL_law_2303 hl (by decide) rfl (fun ls hl => ?_)
  refine lv_aload_n hx hb dL_law_2305 rfl (lv_at hl 4 rfl) ?_
  obtain ⟨v9, z10, hD⟩ := b1_el hD
  refine lrV (Wf := fun z => Wf h m f c0 c1 z m3) (mm := m7) (As := []) (rest := []) Fx0 (c_X10_thrown l (Wf := fun z0_ => Wf h m f c0 c1 z0_ m3) (hLx h m f c0 c1 m3) (fun a0_ b0_ => hAd h h m m f f c0 c0 c1 c1 a0_ b0_ m3 m3) m7 z10) hP (hD1 _ (hAd _ _ _ _ _ _ _ _ _ _ _ _ _ _)) hS (hA1 _ _ (hAd _ _ _ _ _ _ _ _ _ _ _ _ _ _) hS.1) (hLx h m f c0 c1 m3) (Nat.le_of_ble_eq_true rfl) (xs0 _ _) rfl tw_7_30 tw_7_27 tw_7_28 tw_7_29 tw_1_13 yd_X10_thrown ⟨(Nat.le_of_ble_eq_true rfl), (Nat.le_of_ble_eq_true rfl)⟩ ⟨show _ ≤ 601024 by omega, show _ ≤ 7293034 by omega⟩ rfl hl.1 rfl (Nat.le_of_ble_eq_true rfl) dL_law_2306 (fun H locs hP hS => ?_)
  refine lv_iload hx hb dL_law_2309 (lv_at hl 1 rfl) ?_
  refine lv_icmp_eq (tgt := 2316) hx hb dL_law_2311 (by decide) (fun c => ?_) (fun c => ?_)
  · have hD := ifp hD c
    refine lv_iload hx hb dL_law_2316 (lv_at hl 1 rfl) ?_
    refine lv_if_ne (tgt := 2333) hx hb dL_law_2318 (by decide) (fun c => ?_) (fun c => ?_)
    · have hD := ifn hD c
      refine lv_goto (tgt := 2964) hx hb dL_law_2333 (by decide) ?_
      obtain ⟨v11, ev11, hD⟩ := bnd_el hD
      refine lv_iinc (v := v11) (lv' := [(4, .int v11), (6, .int v6), (5, .int v2), (0, .ref b), (1, .ref (adh 0)), (2, .ref (adx 0)), (3, .ref (adu 0))]) hx hb dL_law_2964 hl (k := 6) rfl (by rw [ev11]; rfl) (by decide) rfl (fun ls hl => ?_)
      refine lv_goto (tgt := 23) hx hb dL_law_2967 (by decide) ?_
      exact hk v11 h m f c0 c1 m7 m3 _ _ _ _ _ hD (show _ + n ≤ 601024 by omega) (show _ + 6 * n ≤ 7293034 by omega) hP hS (lv_sub hl [3, 4, 5, 6, 0] rfl)
    · have hD := ifp hD c
      refine lv_aload_n hx hb dL_law_2321 rfl (lv_at hl 5 rfl) ?_
      refine lv_iconst (v := (0 : Int32)) hx hb dL_law_2322 (by decide) ?_
      refine rlald (Wf := fun z => Wf h m f c0 c1 m7 z) (mm := m3) hx hb hK hP (hLu h m f c0 c1 m7) 0 (Nat.le_of_ble_eq_true rfl) (us0 _ _) (by decide) (j := 0) (by decide) dL_law_2323 ?_
      refine lv_iload hx hb dL_law_2324 (lv_at hl 0 rfl) ?_
      refine lv_i2l (v := v6.toInt64) hx hb dL_law_2326 rfl ?_
      refine rlc_eq (tgt := 2333) hx hb dL_law_2327 dL_law_2328 (by decide) (fun c => ?_) (fun c => ?_)
      · have hD := ifp hD c
        refine lv_goto (tgt := 2964) hx hb dL_law_2333 (by decide) ?_
        obtain ⟨v12, ev12, hD⟩ := bnd_el hD
        refine lv_iinc (v := v12) (lv' := [(4, .int v12), (6, .int v6), (5, .int v2), (0, .ref b), (1, .ref (adh 0)), (2, .ref (adx 0)), (3, .ref (adu 0))]) hx hb dL_law_2964 hl (k := 6) rfl (by rw [ev12]; rfl) (by decide) rfl (fun ls hl => ?_)
        refine lv_goto (tgt := 23) hx hb dL_law_2967 (by decide) ?_
        exact hk v12 h m f c0 c1 m7 m3 _ _ _ _ _ hD (show _ + n ≤ 601024 by omega) (show _ + 6 * n ≤ 7293034 by omega) hP hS (lv_sub hl [3, 4, 5, 6, 0] rfl)
      · have hD := ifn hD c
        refine lv_iconst (v := (0 : Int32)) hx hb dL_law_2331 (by decide) ?_
        exact nn_el hD
  · have hD := ifn hD c
    refine lv_iconst (v := (0 : Int32)) hx hb dL_law_2314 (by decide) ?_
    exact nn_el hD
noncomputable def D_L_law_2336 (L : Nat) (xs : Nat → Int32) (k : LKont) (x4 : Int32) (h : MM) (m : MM) (f : MM) (c0 : MM) (c1 : MM) (x : MM) (u : MM) : Option Unit := if (x4 + (1 : Int32)) < 0 ∨ L ≤ (x4 + (1 : Int32)).toNatClampNeg then none else (b2 (D_L_timeOf (xs (x4 + (1 : Int32)).toNatClampNeg) h m u) (fun v2 m3 => if (x4 + (1 : Int32)) < 0 ∨ L ≤ (x4 + (1 : Int32)).toNatClampNeg then none else (b2 (D_X10_timeOf (xs (x4 + (1 : Int32)).toNatClampNeg) x) (fun v6 m7 => b1 (D_X10_thrown m7) (fun v9 => if v9 = v2 then (if v2 = 0 then (if (gl m3 0 0) = v6.toInt64 then (bnd (x4 + (3 : Int32)) (fun v12 => k v12 h m f c0 c1 m7 m3)) else (none)) else (bnd (x4 + (3 : Int32)) (fun v11 => k v11 h m f c0 c1 m7 m3))) else (none))))))
set_option maxHeartbeats 4000000 in
set_option maxRecDepth 100000 in
theorem c_L_law_2336 (l : Launch) (hst : l.stackTraces = false) {p : Program} {e : Env} {s : State} {m0 : MethodId} {below : List Frame} {meth : Method} {c : Code} {b L : Nat} {xs : Nat → Int32} {D : va_G} {cs : Nat → ClassId} {A : Nat → Prop} {Q : State → Prop} {adh ad adf ad0 ad1 adx adu ma : Nat → Nat} {Wf : MM → MM → MM → MM → MM → MM → MM → va_W} (hLh : ∀ m f c0 c1 x u : MM, Ln 8 adh (hsh cs adh ma) (fun z => Wf z m f c0 c1 x u)) (hL : ∀ h f c0 c1 x u : MM, Ln 51 ad (msh cs ad) (fun z => Wf h z f c0 c1 x u)) (hLf : ∀ h m c0 c1 x u : MM, Ln 51 adf (msh cs adf) (fun z => Wf h m z c0 c1 x u)) (hL0 : ∀ h m f c1 x u : MM, Ln 51 ad0 (msh cs ad0) (fun z => Wf h m f z c1 x u)) (hL1 : ∀ h m f c0 x u : MM, Ln 51 ad1 (msh cs ad1) (fun z => Wf h m f c0 z x u)) (hLx : ∀ h m f c0 c1 u : MM, Ln 9 adx (xsh cs adx) (fun z => Wf h m f c0 c1 z u)) (hLu : ∀ h m f c0 c1 x : MM, Ln 1 adu (ush cs) (fun z => Wf h m f c0 c1 x z)) (hAd : ∀ a0_ b0_ a1_ b1_ a2_ b2_ a3_ b3_ a4_ b4_ a5_ b5_ a6_ b6_ : MM, (Wf a0_ a1_ a2_ a3_ a4_ a5_ a6_).map (fun q => q.1) = (Wf b0_ b1_ b2_ b3_ b4_ b5_ b6_).map (fun q => q.1)) (hm1 : ma 1 = ad 24) (hm2 : ma 2 = adf 24) (hm3 : ma 3 = ad0 24) (hm4 : ma 4 = ad1 24) (hLX : LX p s m0 c b L xs D cs A (Wf zMM zMM zMM zMM zMM zMM zMM)) (n : Nat) (k : LKont) (hk : LK p l e s m0 below meth c b D A Q adh adx adu Wf n k) (x4 : Int32) (h : MM) (m : MM) (f : MM) (c0 : MM) (c1 : MM) (x : MM) (u : MM) (cells slots : Nat) (H : Heap) (locs : List Loc) (ls : Array Slot) (hD : D_L_law_2336 L xs k x4 h m f c0 c1 x u = some ()) (hcl : cells + (n + 1) ≤ 601024) (hsl : slots + 6 * (n + 1) ≤ 7293034) (hP : va_P D vwCl (Wf h m f c0 c1 x u) H) (hS : va_S A s.heap H locs) (hl : lv_has ls 8 [(0, .ref b), (1, .ref (adh 0)), (2, .ref (adx 0)), (3, .ref (adu 0)), (4, .int x4)]) : W p l e room_1 s m0 #[Value.ref b] below meth c H locs cells slots Q (F0 m0 2336 ls []) := by
  obtain ⟨hx, hb, hml, hown, hK, hT⟩ := hLX.rest
  obtain ⟨Fx0, hX, hbl, hbA, hD1, hA1⟩ := hLX
  unfold D_L_law_2336 at hD
  refine lv_aload_n hx hb dL_law_2336 rfl (lv_at hl 1 rfl) ?_
  refine lv_aload_n hx hb dL_law_2337 rfl (lv_at hl 0 rfl) ?_
  refine lv_iload hx hb dL_law_2338 (lv_at hl 4 rfl) ?_
  refine lv_iconst (v := (1 : Int32)) hx hb dL_law_2340 (by decide) ?_
  refine lv_iadd hx hb dL_law_2341 ?_
  obtain ⟨h1, hD⟩ := gd_el hD
  refine va_sld hx hb hX hbl hbA hS h1 dL_law_2342 ?_
  refine lv_aload_n hx hb dL_law_2343 rfl (lv_at hl 3 rfl) ?_
  obtain ⟨v2, m3, z4, hD⟩ := b2_el hD
  refine lrL (As := [.ref (adh 0), .int (xs (x4 + (1 : Int32)).toNatClampNeg), .ref (adu 0)]) (rest := []) Fx0 (c_L_timeOf l hst (Wf := fun z0_ z1_ z2_ => Wf z0_ z1_ f c0 c1 x z2_) (fun z1_ z2_ => hLh z1_ f c0 c1 x z2_) (fun z0_ z2_ => hL z0_ f c0 c1 x z2_) (fun z0_ z1_ => hLu z0_ z1_ f c0 c1 x) (fun a0_ b0_ a1_ b1_ a2_ b2_ => hAd a0_ b0_ a1_ b1_ f f c0 c0 c1 c1 x x a2_ b2_) hm1 h m u (xs (x4 + (1 : Int32)).toNatClampNeg) z4) hP (hD1 _ (hAd _ _ _ _ _ _ _ _ _ _ _ _ _ _)) hS (hA1 _ _ (hAd _ _ _ _ _ _ _ _ _ _ _ _ _ _) hS.1) tw_6_143 tw_6_141 tw_6_142 tw_1_0 yd_L_timeOf ⟨(Nat.le_of_ble_eq_true rfl), (Nat.le_of_ble_eq_true rfl)⟩ ⟨show _ + 1 ≤ 601024 by omega, show _ + 6 ≤ 7293034 by omega⟩ rfl hl.1 rfl (Nat.le_of_ble_eq_true rfl) dL_law_2344 (fun H locs hP hS => ?_)
  refine lv_istore (lv' := [(5, .int v2), (0, .ref b), (1, .ref (adh 0)), (2, .ref (adx 0)), (3, .ref (adu 0)), (4, .int x4)]) hx hb dL_law_2347 hl (by decide) rfl (fun ls hl => ?_)
  refine lv_aload_n hx hb dL_law_2349 rfl (lv_at hl 3 rfl) ?_
  refine lv_aload_n hx hb dL_law_2350 rfl (lv_at hl 1 rfl) ?_
  refine lv_iload hx hb dL_law_2351 (lv_at hl 5 rfl) ?_
  refine lv_iconst (v := (1 : Int32)) hx hb dL_law_2353 (by decide) ?_
  refine lv_iadd hx hb dL_law_2354 ?_
  obtain ⟨h5, hD⟩ := gd_el hD
  refine va_sld hx hb hX hbl hbA hS h5 dL_law_2355 ?_
  obtain ⟨v6, m7, z8, hD⟩ := b2_el hD
  refine lrV (Wf := fun z => Wf h m f c0 c1 z m3) (mm := x) (As := [.int (xs (x4 + (1 : Int32)).toNatClampNeg)]) (rest := []) Fx0 (c_X10_timeOf l (Wf := fun z0_ => Wf h m f c0 c1 z0_ m3) (hLx h m f c0 c1 m3) (fun a0_ b0_ => hAd h h m m f f c0 c0 c1 c1 a0_ b0_ m3 m3) x (xs (x4 + (1 : Int32)).toNatClampNeg) z8) hP (hD1 _ (hAd _ _ _ _ _ _ _ _ _ _ _ _ _ _)) hS (hA1 _ _ (hAd _ _ _ _ _ _ _ _ _ _ _ _ _ _) hS.1) (hLx h m f c0 c1 m3) (Nat.le_of_ble_eq_true rfl) (xs0 _ _) rfl tw_9_51 tw_9_48 tw_9_49 tw_9_50 tw_1_13 yd_X10_timeOf ⟨(Nat.le_of_ble_eq_true rfl), (Nat.le_of_ble_eq_true rfl)⟩ ⟨show _ ≤ 601024 by omega, show _ ≤ 7293034 by omega⟩ rfl hl.1 rfl (Nat.le_of_ble_eq_true rfl) dL_law_2356 (fun H locs hP hS => ?_)
  refine lv_istore (lv' := [(6, .int v6), (5, .int v2), (0, .ref b), (1, .ref (adh 0)), (2, .ref (adx 0)), (3, .ref (adu 0)), (4, .int x4)]) hx hb dL_law_2359 hl (by decide) rfl (fun ls hl => ?_)
  refine lv_aload_n hx hb dL_law_2361 rfl (lv_at hl 4 rfl) ?_
  obtain ⟨v9, z10, hD⟩ := b1_el hD
  refine lrV (Wf := fun z => Wf h m f c0 c1 z m3) (mm := m7) (As := []) (rest := []) Fx0 (c_X10_thrown l (Wf := fun z0_ => Wf h m f c0 c1 z0_ m3) (hLx h m f c0 c1 m3) (fun a0_ b0_ => hAd h h m m f f c0 c0 c1 c1 a0_ b0_ m3 m3) m7 z10) hP (hD1 _ (hAd _ _ _ _ _ _ _ _ _ _ _ _ _ _)) hS (hA1 _ _ (hAd _ _ _ _ _ _ _ _ _ _ _ _ _ _) hS.1) (hLx h m f c0 c1 m3) (Nat.le_of_ble_eq_true rfl) (xs0 _ _) rfl tw_7_30 tw_7_27 tw_7_28 tw_7_29 tw_1_13 yd_X10_thrown ⟨(Nat.le_of_ble_eq_true rfl), (Nat.le_of_ble_eq_true rfl)⟩ ⟨show _ ≤ 601024 by omega, show _ ≤ 7293034 by omega⟩ rfl hl.1 rfl (Nat.le_of_ble_eq_true rfl) dL_law_2362 (fun H locs hP hS => ?_)
  refine lv_iload hx hb dL_law_2365 (lv_at hl 1 rfl) ?_
  refine lv_icmp_eq (tgt := 2372) hx hb dL_law_2367 (by decide) (fun c => ?_) (fun c => ?_)
  · have hD := ifp hD c
    refine lv_iload hx hb dL_law_2372 (lv_at hl 1 rfl) ?_
    refine lv_if_ne (tgt := 2389) hx hb dL_law_2374 (by decide) (fun c => ?_) (fun c => ?_)
    · have hD := ifn hD c
      refine lv_goto (tgt := 2964) hx hb dL_law_2389 (by decide) ?_
      obtain ⟨v11, ev11, hD⟩ := bnd_el hD
      refine lv_iinc (v := v11) (lv' := [(4, .int v11), (6, .int v6), (5, .int v2), (0, .ref b), (1, .ref (adh 0)), (2, .ref (adx 0)), (3, .ref (adu 0))]) hx hb dL_law_2964 hl (k := 6) rfl (by rw [ev11]; rfl) (by decide) rfl (fun ls hl => ?_)
      refine lv_goto (tgt := 23) hx hb dL_law_2967 (by decide) ?_
      exact hk v11 h m f c0 c1 m7 m3 _ _ _ _ _ hD (show _ + n ≤ 601024 by omega) (show _ + 6 * n ≤ 7293034 by omega) hP hS (lv_sub hl [3, 4, 5, 6, 0] rfl)
    · have hD := ifp hD c
      refine lv_aload_n hx hb dL_law_2377 rfl (lv_at hl 5 rfl) ?_
      refine lv_iconst (v := (0 : Int32)) hx hb dL_law_2378 (by decide) ?_
      refine rlald (Wf := fun z => Wf h m f c0 c1 m7 z) (mm := m3) hx hb hK hP (hLu h m f c0 c1 m7) 0 (Nat.le_of_ble_eq_true rfl) (us0 _ _) (by decide) (j := 0) (by decide) dL_law_2379 ?_
      refine lv_iload hx hb dL_law_2380 (lv_at hl 0 rfl) ?_
      refine lv_i2l (v := v6.toInt64) hx hb dL_law_2382 rfl ?_
      refine rlc_eq (tgt := 2389) hx hb dL_law_2383 dL_law_2384 (by decide) (fun c => ?_) (fun c => ?_)
      · have hD := ifp hD c
        refine lv_goto (tgt := 2964) hx hb dL_law_2389 (by decide) ?_
        obtain ⟨v12, ev12, hD⟩ := bnd_el hD
        refine lv_iinc (v := v12) (lv' := [(4, .int v12), (6, .int v6), (5, .int v2), (0, .ref b), (1, .ref (adh 0)), (2, .ref (adx 0)), (3, .ref (adu 0))]) hx hb dL_law_2964 hl (k := 6) rfl (by rw [ev12]; rfl) (by decide) rfl (fun ls hl => ?_)
        refine lv_goto (tgt := 23) hx hb dL_law_2967 (by decide) ?_
        exact hk v12 h m f c0 c1 m7 m3 _ _ _ _ _ hD (show _ + n ≤ 601024 by omega) (show _ + 6 * n ≤ 7293034 by omega) hP hS (lv_sub hl [3, 4, 5, 6, 0] rfl)
      · have hD := ifn hD c
        refine lv_iconst (v := (0 : Int32)) hx hb dL_law_2387 (by decide) ?_
        exact nn_el hD
  · have hD := ifn hD c
    refine lv_iconst (v := (0 : Int32)) hx hb dL_law_2370 (by decide) ?_
    exact nn_el hD
noncomputable def D_L_law_2392 (L : Nat) (xs : Nat → Int32) (k : LKont) (x4 : Int32) (h : MM) (m : MM) (f : MM) (c0 : MM) (c1 : MM) (x : MM) (u : MM) : Option Unit := if (x4 + (1 : Int32)) < 0 ∨ L ≤ (x4 + (1 : Int32)).toNatClampNeg then none else (b2 (D_L_shareOf (xs (x4 + (1 : Int32)).toNatClampNeg) h m u) (fun v2 m3 => if (x4 + (1 : Int32)) < 0 ∨ L ≤ (x4 + (1 : Int32)).toNatClampNeg then none else (b2 (D_X10_shareOf (xs (x4 + (1 : Int32)).toNatClampNeg) x) (fun v6 m7 => b1 (D_X10_thrown m7) (fun v9 => if v9 = v2 then (if v2 = 0 then (if (gl m3 0 0) = v6.toInt64 then (bnd (x4 + (3 : Int32)) (fun v12 => k v12 h m f c0 c1 m7 m3)) else (none)) else (bnd (x4 + (3 : Int32)) (fun v11 => k v11 h m f c0 c1 m7 m3))) else (none))))))
set_option maxHeartbeats 4000000 in
set_option maxRecDepth 100000 in
theorem c_L_law_2392 (l : Launch) (hst : l.stackTraces = false) {p : Program} {e : Env} {s : State} {m0 : MethodId} {below : List Frame} {meth : Method} {c : Code} {b L : Nat} {xs : Nat → Int32} {D : va_G} {cs : Nat → ClassId} {A : Nat → Prop} {Q : State → Prop} {adh ad adf ad0 ad1 adx adu ma : Nat → Nat} {Wf : MM → MM → MM → MM → MM → MM → MM → va_W} (hLh : ∀ m f c0 c1 x u : MM, Ln 8 adh (hsh cs adh ma) (fun z => Wf z m f c0 c1 x u)) (hL : ∀ h f c0 c1 x u : MM, Ln 51 ad (msh cs ad) (fun z => Wf h z f c0 c1 x u)) (hLf : ∀ h m c0 c1 x u : MM, Ln 51 adf (msh cs adf) (fun z => Wf h m z c0 c1 x u)) (hL0 : ∀ h m f c1 x u : MM, Ln 51 ad0 (msh cs ad0) (fun z => Wf h m f z c1 x u)) (hL1 : ∀ h m f c0 x u : MM, Ln 51 ad1 (msh cs ad1) (fun z => Wf h m f c0 z x u)) (hLx : ∀ h m f c0 c1 u : MM, Ln 9 adx (xsh cs adx) (fun z => Wf h m f c0 c1 z u)) (hLu : ∀ h m f c0 c1 x : MM, Ln 1 adu (ush cs) (fun z => Wf h m f c0 c1 x z)) (hAd : ∀ a0_ b0_ a1_ b1_ a2_ b2_ a3_ b3_ a4_ b4_ a5_ b5_ a6_ b6_ : MM, (Wf a0_ a1_ a2_ a3_ a4_ a5_ a6_).map (fun q => q.1) = (Wf b0_ b1_ b2_ b3_ b4_ b5_ b6_).map (fun q => q.1)) (hm1 : ma 1 = ad 24) (hm2 : ma 2 = adf 24) (hm3 : ma 3 = ad0 24) (hm4 : ma 4 = ad1 24) (hLX : LX p s m0 c b L xs D cs A (Wf zMM zMM zMM zMM zMM zMM zMM)) (n : Nat) (k : LKont) (hk : LK p l e s m0 below meth c b D A Q adh adx adu Wf n k) (x4 : Int32) (h : MM) (m : MM) (f : MM) (c0 : MM) (c1 : MM) (x : MM) (u : MM) (cells slots : Nat) (H : Heap) (locs : List Loc) (ls : Array Slot) (hD : D_L_law_2392 L xs k x4 h m f c0 c1 x u = some ()) (hcl : cells + (n + 1) ≤ 601024) (hsl : slots + 6 * (n + 1) ≤ 7293034) (hP : va_P D vwCl (Wf h m f c0 c1 x u) H) (hS : va_S A s.heap H locs) (hl : lv_has ls 8 [(0, .ref b), (1, .ref (adh 0)), (2, .ref (adx 0)), (3, .ref (adu 0)), (4, .int x4)]) : W p l e room_1 s m0 #[Value.ref b] below meth c H locs cells slots Q (F0 m0 2392 ls []) := by
  obtain ⟨hx, hb, hml, hown, hK, hT⟩ := hLX.rest
  obtain ⟨Fx0, hX, hbl, hbA, hD1, hA1⟩ := hLX
  unfold D_L_law_2392 at hD
  refine lv_aload_n hx hb dL_law_2392 rfl (lv_at hl 1 rfl) ?_
  refine lv_aload_n hx hb dL_law_2393 rfl (lv_at hl 0 rfl) ?_
  refine lv_iload hx hb dL_law_2394 (lv_at hl 4 rfl) ?_
  refine lv_iconst (v := (1 : Int32)) hx hb dL_law_2396 (by decide) ?_
  refine lv_iadd hx hb dL_law_2397 ?_
  obtain ⟨h1, hD⟩ := gd_el hD
  refine va_sld hx hb hX hbl hbA hS h1 dL_law_2398 ?_
  refine lv_aload_n hx hb dL_law_2399 rfl (lv_at hl 3 rfl) ?_
  obtain ⟨v2, m3, z4, hD⟩ := b2_el hD
  refine lrL (As := [.ref (adh 0), .int (xs (x4 + (1 : Int32)).toNatClampNeg), .ref (adu 0)]) (rest := []) Fx0 (c_L_shareOf l hst (Wf := fun z0_ z1_ z2_ => Wf z0_ z1_ f c0 c1 x z2_) (fun z1_ z2_ => hLh z1_ f c0 c1 x z2_) (fun z0_ z2_ => hL z0_ f c0 c1 x z2_) (fun z0_ z1_ => hLu z0_ z1_ f c0 c1 x) (fun a0_ b0_ a1_ b1_ a2_ b2_ => hAd a0_ b0_ a1_ b1_ f f c0 c0 c1 c1 x x a2_ b2_) hm1 h m u (xs (x4 + (1 : Int32)).toNatClampNeg) z4) hP (hD1 _ (hAd _ _ _ _ _ _ _ _ _ _ _ _ _ _)) hS (hA1 _ _ (hAd _ _ _ _ _ _ _ _ _ _ _ _ _ _) hS.1) tw_6_150 tw_6_148 tw_6_149 tw_1_0 yd_L_shareOf ⟨(Nat.le_of_ble_eq_true rfl), (Nat.le_of_ble_eq_true rfl)⟩ ⟨show _ + 1 ≤ 601024 by omega, show _ + 6 ≤ 7293034 by omega⟩ rfl hl.1 rfl (Nat.le_of_ble_eq_true rfl) dL_law_2400 (fun H locs hP hS => ?_)
  refine lv_istore (lv' := [(5, .int v2), (0, .ref b), (1, .ref (adh 0)), (2, .ref (adx 0)), (3, .ref (adu 0)), (4, .int x4)]) hx hb dL_law_2403 hl (by decide) rfl (fun ls hl => ?_)
  refine lv_aload_n hx hb dL_law_2405 rfl (lv_at hl 3 rfl) ?_
  refine lv_aload_n hx hb dL_law_2406 rfl (lv_at hl 1 rfl) ?_
  refine lv_iload hx hb dL_law_2407 (lv_at hl 5 rfl) ?_
  refine lv_iconst (v := (1 : Int32)) hx hb dL_law_2409 (by decide) ?_
  refine lv_iadd hx hb dL_law_2410 ?_
  obtain ⟨h5, hD⟩ := gd_el hD
  refine va_sld hx hb hX hbl hbA hS h5 dL_law_2411 ?_
  obtain ⟨v6, m7, z8, hD⟩ := b2_el hD
  refine lrV (Wf := fun z => Wf h m f c0 c1 z m3) (mm := x) (As := [.int (xs (x4 + (1 : Int32)).toNatClampNeg)]) (rest := []) Fx0 (c_X10_shareOf l (Wf := fun z0_ => Wf h m f c0 c1 z0_ m3) (hLx h m f c0 c1 m3) (fun a0_ b0_ => hAd h h m m f f c0 c0 c1 c1 a0_ b0_ m3 m3) x (xs (x4 + (1 : Int32)).toNatClampNeg) z8) hP (hD1 _ (hAd _ _ _ _ _ _ _ _ _ _ _ _ _ _)) hS (hA1 _ _ (hAd _ _ _ _ _ _ _ _ _ _ _ _ _ _) hS.1) (hLx h m f c0 c1 m3) (Nat.le_of_ble_eq_true rfl) (xs0 _ _) rfl tw_9_55 tw_9_52 tw_9_53 tw_9_54 tw_1_13 yd_X10_shareOf ⟨(Nat.le_of_ble_eq_true rfl), (Nat.le_of_ble_eq_true rfl)⟩ ⟨show _ ≤ 601024 by omega, show _ ≤ 7293034 by omega⟩ rfl hl.1 rfl (Nat.le_of_ble_eq_true rfl) dL_law_2412 (fun H locs hP hS => ?_)
  refine lv_istore (lv' := [(6, .int v6), (5, .int v2), (0, .ref b), (1, .ref (adh 0)), (2, .ref (adx 0)), (3, .ref (adu 0)), (4, .int x4)]) hx hb dL_law_2415 hl (by decide) rfl (fun ls hl => ?_)
  refine lv_aload_n hx hb dL_law_2417 rfl (lv_at hl 4 rfl) ?_
  obtain ⟨v9, z10, hD⟩ := b1_el hD
  refine lrV (Wf := fun z => Wf h m f c0 c1 z m3) (mm := m7) (As := []) (rest := []) Fx0 (c_X10_thrown l (Wf := fun z0_ => Wf h m f c0 c1 z0_ m3) (hLx h m f c0 c1 m3) (fun a0_ b0_ => hAd h h m m f f c0 c0 c1 c1 a0_ b0_ m3 m3) m7 z10) hP (hD1 _ (hAd _ _ _ _ _ _ _ _ _ _ _ _ _ _)) hS (hA1 _ _ (hAd _ _ _ _ _ _ _ _ _ _ _ _ _ _) hS.1) (hLx h m f c0 c1 m3) (Nat.le_of_ble_eq_true rfl) (xs0 _ _) rfl tw_7_30 tw_7_27 tw_7_28 tw_7_29 tw_1_13 yd_X10_thrown ⟨(Nat.le_of_ble_eq_true rfl), (Nat.le_of_ble_eq_true rfl)⟩ ⟨show _ ≤ 601024 by omega, show _ ≤ 7293034 by omega⟩ rfl hl.1 rfl (Nat.le_of_ble_eq_true rfl) dL_law_2418 (fun H locs hP hS => ?_)
  refine lv_iload hx hb dL_law_2421 (lv_at hl 1 rfl) ?_
  refine lv_icmp_eq (tgt := 2428) hx hb dL_law_2423 (by decide) (fun c => ?_) (fun c => ?_)
  · have hD := ifp hD c
    refine lv_iload hx hb dL_law_2428 (lv_at hl 1 rfl) ?_
    refine lv_if_ne (tgt := 2445) hx hb dL_law_2430 (by decide) (fun c => ?_) (fun c => ?_)
    · have hD := ifn hD c
      refine lv_goto (tgt := 2964) hx hb dL_law_2445 (by decide) ?_
      obtain ⟨v11, ev11, hD⟩ := bnd_el hD
      refine lv_iinc (v := v11) (lv' := [(4, .int v11), (6, .int v6), (5, .int v2), (0, .ref b), (1, .ref (adh 0)), (2, .ref (adx 0)), (3, .ref (adu 0))]) hx hb dL_law_2964 hl (k := 6) rfl (by rw [ev11]; rfl) (by decide) rfl (fun ls hl => ?_)
      refine lv_goto (tgt := 23) hx hb dL_law_2967 (by decide) ?_
      exact hk v11 h m f c0 c1 m7 m3 _ _ _ _ _ hD (show _ + n ≤ 601024 by omega) (show _ + 6 * n ≤ 7293034 by omega) hP hS (lv_sub hl [3, 4, 5, 6, 0] rfl)
    · have hD := ifp hD c
      refine lv_aload_n hx hb dL_law_2433 rfl (lv_at hl 5 rfl) ?_
      refine lv_iconst (v := (0 : Int32)) hx hb dL_law_2434 (by decide) ?_
      refine rlald (Wf := fun z => Wf h m f c0 c1 m7 z) (mm := m3) hx hb hK hP (hLu h m f c0 c1 m7) 0 (Nat.le_of_ble_eq_true rfl) (us0 _ _) (by decide) (j := 0) (by decide) dL_law_2435 ?_
      refine lv_iload hx hb dL_law_2436 (lv_at hl 0 rfl) ?_
      refine lv_i2l (v := v6.toInt64) hx hb dL_law_2438 rfl ?_
      refine rlc_eq (tgt := 2445) hx hb dL_law_2439 dL_law_2440 (by decide) (fun c => ?_) (fun c => ?_)
      · have hD := ifp hD c
        refine lv_goto (tgt := 2964) hx hb dL_law_2445 (by decide) ?_
        obtain ⟨v12, ev12, hD⟩ := bnd_el hD
        refine lv_iinc (v := v12) (lv' := [(4, .int v12), (6, .int v6), (5, .int v2), (0, .ref b), (1, .ref (adh 0)), (2, .ref (adx 0)), (3, .ref (adu 0))]) hx hb dL_law_2964 hl (k := 6) rfl (by rw [ev12]; rfl) (by decide) rfl (fun ls hl => ?_)
        refine lv_goto (tgt := 23) hx hb dL_law_2967 (by decide) ?_
        exact hk v12 h m f c0 c1 m7 m3 _ _ _ _ _ hD (show _ + n ≤ 601024 by omega) (show _ + 6 * n ≤ 7293034 by omega) hP hS (lv_sub hl [3, 4, 5, 6, 0] rfl)
      · have hD := ifn hD c
        refine lv_iconst (v := (0 : Int32)) hx hb dL_law_2443 (by decide) ?_
        exact nn_el hD
  · have hD := ifn hD c
    refine lv_iconst (v := (0 : Int32)) hx hb dL_law_2426 (by decide) ?_
    exact nn_el hD
noncomputable def D_L_law_2448 (L : Nat) (xs : Nat → Int32) (k : LKont) (x4 : Int32) (h : MM) (m : MM) (f : MM) (c0 : MM) (c1 : MM) (x : MM) (u : MM) : Option Unit := b1 (D_X9_lookRate h m) (fun v1 => b2 (D_X10_lookRate x) (fun v3 m4 => if v1 = v3 then (bnd (x4 + (3 : Int32)) (fun v6 => k v6 h m f c0 c1 m4 u)) else (none)))
set_option maxHeartbeats 4000000 in
set_option maxRecDepth 100000 in
theorem c_L_law_2448 (l : Launch) (hst : l.stackTraces = false) {p : Program} {e : Env} {s : State} {m0 : MethodId} {below : List Frame} {meth : Method} {c : Code} {b L : Nat} {xs : Nat → Int32} {D : va_G} {cs : Nat → ClassId} {A : Nat → Prop} {Q : State → Prop} {adh ad adf ad0 ad1 adx adu ma : Nat → Nat} {Wf : MM → MM → MM → MM → MM → MM → MM → va_W} (hLh : ∀ m f c0 c1 x u : MM, Ln 8 adh (hsh cs adh ma) (fun z => Wf z m f c0 c1 x u)) (hL : ∀ h f c0 c1 x u : MM, Ln 51 ad (msh cs ad) (fun z => Wf h z f c0 c1 x u)) (hLf : ∀ h m c0 c1 x u : MM, Ln 51 adf (msh cs adf) (fun z => Wf h m z c0 c1 x u)) (hL0 : ∀ h m f c1 x u : MM, Ln 51 ad0 (msh cs ad0) (fun z => Wf h m f z c1 x u)) (hL1 : ∀ h m f c0 x u : MM, Ln 51 ad1 (msh cs ad1) (fun z => Wf h m f c0 z x u)) (hLx : ∀ h m f c0 c1 u : MM, Ln 9 adx (xsh cs adx) (fun z => Wf h m f c0 c1 z u)) (hLu : ∀ h m f c0 c1 x : MM, Ln 1 adu (ush cs) (fun z => Wf h m f c0 c1 x z)) (hAd : ∀ a0_ b0_ a1_ b1_ a2_ b2_ a3_ b3_ a4_ b4_ a5_ b5_ a6_ b6_ : MM, (Wf a0_ a1_ a2_ a3_ a4_ a5_ a6_).map (fun q => q.1) = (Wf b0_ b1_ b2_ b3_ b4_ b5_ b6_).map (fun q => q.1)) (hm1 : ma 1 = ad 24) (hm2 : ma 2 = adf 24) (hm3 : ma 3 = ad0 24) (hm4 : ma 4 = ad1 24) (hLX : LX p s m0 c b L xs D cs A (Wf zMM zMM zMM zMM zMM zMM zMM)) (n : Nat) (k : LKont) (hk : LK p l e s m0 below meth c b D A Q adh adx adu Wf n k) (x4 : Int32) (h : MM) (m : MM) (f : MM) (c0 : MM) (c1 : MM) (x : MM) (u : MM) (cells slots : Nat) (H : Heap) (locs : List Loc) (ls : Array Slot) (hD : D_L_law_2448 L xs k x4 h m f c0 c1 x u = some ()) (hcl : cells + (n + 1) ≤ 601024) (hsl : slots + 6 * (n + 1) ≤ 7293034) (hP : va_P D vwCl (Wf h m f c0 c1 x u) H) (hS : va_S A s.heap H locs) (hl : lv_has ls 8 [(0, .ref b), (1, .ref (adh 0)), (2, .ref (adx 0)), (3, .ref (adu 0)), (4, .int x4)]) : W p l e room_1 s m0 #[Value.ref b] below meth c H locs cells slots Q (F0 m0 2448 ls []) := by
  obtain ⟨hx, hb, hml, hown, hK, hT⟩ := hLX.rest
  obtain ⟨Fx0, hX, hbl, hbA, hD1, hA1⟩ := hLX
  unfold D_L_law_2448 at hD
  refine lv_aload_n hx hb dL_law_2448 rfl (lv_at hl 1 rfl) ?_
  obtain ⟨v1, z2, hD⟩ := b1_el hD
  refine lrV (Wf := fun z => Wf z m f c0 c1 x u) (mm := h) (As := []) (rest := []) Fx0 (c_X9_lookRate l (Wf := fun z0_ z1_ => Wf z0_ z1_ f c0 c1 x u) (fun z1_ => hLh z1_ f c0 c1 x u) (fun z0_ => hL z0_ f c0 c1 x u) (fun a0_ b0_ a1_ b1_ => hAd a0_ b0_ a1_ b1_ f f c0 c0 c1 c1 x x u u) hm1 h m z2) hP (hD1 _ (hAd _ _ _ _ _ _ _ _ _ _ _ _ _ _)) hS (hA1 _ _ (hAd _ _ _ _ _ _ _ _ _ _ _ _ _ _) hS.1) (hLh m f c0 c1 x u) (Nat.le_of_ble_eq_true rfl) (hs0 _ _) rfl tw_4_196 tw_4_193 tw_4_194 tw_4_195 tw_1_1 yd_X9_lookRate ⟨(Nat.le_of_ble_eq_true rfl), (Nat.le_of_ble_eq_true rfl)⟩ ⟨show _ ≤ 601024 by omega, show _ ≤ 7293034 by omega⟩ rfl hl.1 rfl (Nat.le_of_ble_eq_true rfl) dL_law_2449 (fun H locs hP hS => ?_)
  refine lv_aload_n hx hb dL_law_2452 rfl (lv_at hl 2 rfl) ?_
  obtain ⟨v3, m4, z5, hD⟩ := b2_el hD
  refine lrV (Wf := fun z => Wf h m f c0 c1 z u) (mm := x) (As := []) (rest := [.int v1]) Fx0 (c_X10_lookRate l (Wf := fun z0_ => Wf h m f c0 c1 z0_ u) (hLx h m f c0 c1 u) (fun a0_ b0_ => hAd h h m m f f c0 c0 c1 c1 a0_ b0_ u u) x z5) hP (hD1 _ (hAd _ _ _ _ _ _ _ _ _ _ _ _ _ _)) hS (hA1 _ _ (hAd _ _ _ _ _ _ _ _ _ _ _ _ _ _) hS.1) (hLx h m f c0 c1 u) (Nat.le_of_ble_eq_true rfl) (xs0 _ _) rfl tw_9_60 tw_9_57 tw_9_58 tw_9_59 tw_1_13 yd_X10_lookRate ⟨(Nat.le_of_ble_eq_true rfl), (Nat.le_of_ble_eq_true rfl)⟩ ⟨show _ ≤ 601024 by omega, show _ ≤ 7293034 by omega⟩ rfl hl.1 rfl (Nat.le_of_ble_eq_true rfl) dL_law_2453 (fun H locs hP hS => ?_)
  refine lv_icmp_eq (tgt := 2964) hx hb dL_law_2456 (by decide) (fun c => ?_) (fun c => ?_)
  · have hD := ifp hD c
    obtain ⟨v6, ev6, hD⟩ := bnd_el hD
    refine lv_iinc (v := v6) (lv' := [(4, .int v6), (0, .ref b), (1, .ref (adh 0)), (2, .ref (adx 0)), (3, .ref (adu 0))]) hx hb dL_law_2964 hl (k := 4) rfl (by rw [ev6]; rfl) (by decide) rfl (fun ls hl => ?_)
    refine lv_goto (tgt := 23) hx hb dL_law_2967 (by decide) ?_
    exact hk v6 h m f c0 c1 m4 u _ _ _ _ _ hD (show _ + n ≤ 601024 by omega) (show _ + 6 * n ≤ 7293034 by omega) hP hS (lv_sub hl [1, 2, 3, 4, 0] rfl)
  · have hD := ifn hD c
    refine lv_iconst (v := (0 : Int32)) hx hb dL_law_2459 (by decide) ?_
    exact nn_el hD
noncomputable def D_L_law_2461 (L : Nat) (xs : Nat → Int32) (k : LKont) (x4 : Int32) (h : MM) (m : MM) (f : MM) (c0 : MM) (c1 : MM) (x : MM) (u : MM) : Option Unit := b1 (D_X9_logSize h m) (fun v1 => b2 (D_X10_logSize x) (fun v3 m4 => if v1 = v3 then (bnd (x4 + (3 : Int32)) (fun v6 => k v6 h m f c0 c1 m4 u)) else (none)))
set_option maxHeartbeats 4000000 in
set_option maxRecDepth 100000 in
theorem c_L_law_2461 (l : Launch) (hst : l.stackTraces = false) {p : Program} {e : Env} {s : State} {m0 : MethodId} {below : List Frame} {meth : Method} {c : Code} {b L : Nat} {xs : Nat → Int32} {D : va_G} {cs : Nat → ClassId} {A : Nat → Prop} {Q : State → Prop} {adh ad adf ad0 ad1 adx adu ma : Nat → Nat} {Wf : MM → MM → MM → MM → MM → MM → MM → va_W} (hLh : ∀ m f c0 c1 x u : MM, Ln 8 adh (hsh cs adh ma) (fun z => Wf z m f c0 c1 x u)) (hL : ∀ h f c0 c1 x u : MM, Ln 51 ad (msh cs ad) (fun z => Wf h z f c0 c1 x u)) (hLf : ∀ h m c0 c1 x u : MM, Ln 51 adf (msh cs adf) (fun z => Wf h m z c0 c1 x u)) (hL0 : ∀ h m f c1 x u : MM, Ln 51 ad0 (msh cs ad0) (fun z => Wf h m f z c1 x u)) (hL1 : ∀ h m f c0 x u : MM, Ln 51 ad1 (msh cs ad1) (fun z => Wf h m f c0 z x u)) (hLx : ∀ h m f c0 c1 u : MM, Ln 9 adx (xsh cs adx) (fun z => Wf h m f c0 c1 z u)) (hLu : ∀ h m f c0 c1 x : MM, Ln 1 adu (ush cs) (fun z => Wf h m f c0 c1 x z)) (hAd : ∀ a0_ b0_ a1_ b1_ a2_ b2_ a3_ b3_ a4_ b4_ a5_ b5_ a6_ b6_ : MM, (Wf a0_ a1_ a2_ a3_ a4_ a5_ a6_).map (fun q => q.1) = (Wf b0_ b1_ b2_ b3_ b4_ b5_ b6_).map (fun q => q.1)) (hm1 : ma 1 = ad 24) (hm2 : ma 2 = adf 24) (hm3 : ma 3 = ad0 24) (hm4 : ma 4 = ad1 24) (hLX : LX p s m0 c b L xs D cs A (Wf zMM zMM zMM zMM zMM zMM zMM)) (n : Nat) (k : LKont) (hk : LK p l e s m0 below meth c b D A Q adh adx adu Wf n k) (x4 : Int32) (h : MM) (m : MM) (f : MM) (c0 : MM) (c1 : MM) (x : MM) (u : MM) (cells slots : Nat) (H : Heap) (locs : List Loc) (ls : Array Slot) (hD : D_L_law_2461 L xs k x4 h m f c0 c1 x u = some ()) (hcl : cells + (n + 1) ≤ 601024) (hsl : slots + 6 * (n + 1) ≤ 7293034) (hP : va_P D vwCl (Wf h m f c0 c1 x u) H) (hS : va_S A s.heap H locs) (hl : lv_has ls 8 [(0, .ref b), (1, .ref (adh 0)), (2, .ref (adx 0)), (3, .ref (adu 0)), (4, .int x4)]) : W p l e room_1 s m0 #[Value.ref b] below meth c H locs cells slots Q (F0 m0 2461 ls []) := by
  obtain ⟨hx, hb, hml, hown, hK, hT⟩ := hLX.rest
  obtain ⟨Fx0, hX, hbl, hbA, hD1, hA1⟩ := hLX
  unfold D_L_law_2461 at hD
  refine lv_aload_n hx hb dL_law_2461 rfl (lv_at hl 1 rfl) ?_
  obtain ⟨v1, z2, hD⟩ := b1_el hD
  refine lrV (Wf := fun z => Wf z m f c0 c1 x u) (mm := h) (As := []) (rest := []) Fx0 (c_X9_logSize l (Wf := fun z0_ z1_ => Wf z0_ z1_ f c0 c1 x u) (fun z1_ => hLh z1_ f c0 c1 x u) (fun z0_ => hL z0_ f c0 c1 x u) (fun a0_ b0_ a1_ b1_ => hAd a0_ b0_ a1_ b1_ f f c0 c0 c1 c1 x x u u) hm1 h m z2) hP (hD1 _ (hAd _ _ _ _ _ _ _ _ _ _ _ _ _ _)) hS (hA1 _ _ (hAd _ _ _ _ _ _ _ _ _ _ _ _ _ _) hS.1) (hLh m f c0 c1 x u) (Nat.le_of_ble_eq_true rfl) (hs0 _ _) rfl tw_4_204 tw_4_201 tw_4_202 tw_4_203 tw_1_1 yd_X9_logSize ⟨(Nat.le_of_ble_eq_true rfl), (Nat.le_of_ble_eq_true rfl)⟩ ⟨show _ ≤ 601024 by omega, show _ ≤ 7293034 by omega⟩ rfl hl.1 rfl (Nat.le_of_ble_eq_true rfl) dL_law_2462 (fun H locs hP hS => ?_)
  refine lv_aload_n hx hb dL_law_2465 rfl (lv_at hl 2 rfl) ?_
  obtain ⟨v3, m4, z5, hD⟩ := b2_el hD
  refine lrV (Wf := fun z => Wf h m f c0 c1 z u) (mm := x) (As := []) (rest := [.int v1]) Fx0 (c_X10_logSize l (Wf := fun z0_ => Wf h m f c0 c1 z0_ u) (hLx h m f c0 c1 u) (fun a0_ b0_ => hAd h h m m f f c0 c0 c1 c1 a0_ b0_ u u) x z5) hP (hD1 _ (hAd _ _ _ _ _ _ _ _ _ _ _ _ _ _)) hS (hA1 _ _ (hAd _ _ _ _ _ _ _ _ _ _ _ _ _ _) hS.1) (hLx h m f c0 c1 u) (Nat.le_of_ble_eq_true rfl) (xs0 _ _) rfl tw_9_64 tw_9_61 tw_9_62 tw_9_63 tw_1_13 yd_X10_logSize ⟨(Nat.le_of_ble_eq_true rfl), (Nat.le_of_ble_eq_true rfl)⟩ ⟨show _ ≤ 601024 by omega, show _ ≤ 7293034 by omega⟩ rfl hl.1 rfl (Nat.le_of_ble_eq_true rfl) dL_law_2466 (fun H locs hP hS => ?_)
  refine lv_icmp_eq (tgt := 2964) hx hb dL_law_2469 (by decide) (fun c => ?_) (fun c => ?_)
  · have hD := ifp hD c
    obtain ⟨v6, ev6, hD⟩ := bnd_el hD
    refine lv_iinc (v := v6) (lv' := [(4, .int v6), (0, .ref b), (1, .ref (adh 0)), (2, .ref (adx 0)), (3, .ref (adu 0))]) hx hb dL_law_2964 hl (k := 4) rfl (by rw [ev6]; rfl) (by decide) rfl (fun ls hl => ?_)
    refine lv_goto (tgt := 23) hx hb dL_law_2967 (by decide) ?_
    exact hk v6 h m f c0 c1 m4 u _ _ _ _ _ hD (show _ + n ≤ 601024 by omega) (show _ + 6 * n ≤ 7293034 by omega) hP hS (lv_sub hl [1, 2, 3, 4, 0] rfl)
  · have hD := ifn hD c
    refine lv_iconst (v := (0 : Int32)) hx hb dL_law_2472 (by decide) ?_
    exact nn_el hD
noncomputable def D_L_law_2474 (L : Nat) (xs : Nat → Int32) (k : LKont) (x4 : Int32) (h : MM) (m : MM) (f : MM) (c0 : MM) (c1 : MM) (x : MM) (u : MM) : Option Unit := if (x4 + (1 : Int32)) < 0 ∨ L ≤ (x4 + (1 : Int32)).toNatClampNeg then none else (if (x4 + (2 : Int32)) < 0 ∨ L ≤ (x4 + (2 : Int32)).toNatClampNeg then none else (b2 (D_L_logEntry (xs (x4 + (1 : Int32)).toNatClampNeg) (xs (x4 + (2 : Int32)).toNatClampNeg) h m u) (fun v3 m4 => if (x4 + (1 : Int32)) < 0 ∨ L ≤ (x4 + (1 : Int32)).toNatClampNeg then none else (if (x4 + (2 : Int32)) < 0 ∨ L ≤ (x4 + (2 : Int32)).toNatClampNeg then none else (b2 (D_X10_logEntry (xs (x4 + (1 : Int32)).toNatClampNeg) (xs (x4 + (2 : Int32)).toNatClampNeg) x) (fun v8 m9 => b1 (D_X10_thrown m9) (fun v11 => if v11 = v3 then (if v3 = 0 then (if (gl m4 0 0) = v8.toInt64 then (bnd (x4 + (3 : Int32)) (fun v14 => k v14 h m f c0 c1 m9 m4)) else (none)) else (bnd (x4 + (3 : Int32)) (fun v13 => k v13 h m f c0 c1 m9 m4))) else (none))))))))
set_option maxHeartbeats 4000000 in
set_option maxRecDepth 100000 in
theorem c_L_law_2474 (l : Launch) (hst : l.stackTraces = false) {p : Program} {e : Env} {s : State} {m0 : MethodId} {below : List Frame} {meth : Method} {c : Code} {b L : Nat} {xs : Nat → Int32} {D : va_G} {cs : Nat → ClassId} {A : Nat → Prop} {Q : State → Prop} {adh ad adf ad0 ad1 adx adu ma : Nat → Nat} {Wf : MM → MM → MM → MM → MM → MM → MM → va_W} (hLh : ∀ m f c0 c1 x u : MM, Ln 8 adh (hsh cs adh ma) (fun z => Wf z m f c0 c1 x u)) (hL : ∀ h f c0 c1 x u : MM, Ln 51 ad (msh cs ad) (fun z => Wf h z f c0 c1 x u)) (hLf : ∀ h m c0 c1 x u : MM, Ln 51 adf (msh cs adf) (fun z => Wf h m z c0 c1 x u)) (hL0 : ∀ h m f c1 x u : MM, Ln 51 ad0 (msh cs ad0) (fun z => Wf h m f z c1 x u)) (hL1 : ∀ h m f c0 x u : MM, Ln 51 ad1 (msh cs ad1) (fun z => Wf h m f c0 z x u)) (hLx : ∀ h m f c0 c1 u : MM, Ln 9 adx (xsh cs adx) (fun z => Wf h m f c0 c1 z u)) (hLu : ∀ h m f c0 c1 x : MM, Ln 1 adu (ush cs) (fun z => Wf h m f c0 c1 x z)) (hAd : ∀ a0_ b0_ a1_ b1_ a2_ b2_ a3_ b3_ a4_ b4_ a5_ b5_ a6_ b6_ : MM, (Wf a0_ a1_ a2_ a3_ a4_ a5_ a6_).map (fun q => q.1) = (Wf b0_ b1_ b2_ b3_ b4_ b5_ b6_).map (fun q => q.1)) (hm1 : ma 1 = ad 24) (hm2 : ma 2 = adf 24) (hm3 : ma 3 = ad0 24) (hm4 : ma 4 = ad1 24) (hLX : LX p s m0 c b L xs D cs A (Wf zMM zMM zMM zMM zMM zMM zMM)) (n : Nat) (k : LKont) (hk : LK p l e s m0 below meth c b D A Q adh adx adu Wf n k) (x4 : Int32) (h : MM) (m : MM) (f : MM) (c0 : MM) (c1 : MM) (x : MM) (u : MM) (cells slots : Nat) (H : Heap) (locs : List Loc) (ls : Array Slot) (hD : D_L_law_2474 L xs k x4 h m f c0 c1 x u = some ()) (hcl : cells + (n + 1) ≤ 601024) (hsl : slots + 6 * (n + 1) ≤ 7293034) (hP : va_P D vwCl (Wf h m f c0 c1 x u) H) (hS : va_S A s.heap H locs) (hl : lv_has ls 8 [(0, .ref b), (1, .ref (adh 0)), (2, .ref (adx 0)), (3, .ref (adu 0)), (4, .int x4)]) : W p l e room_1 s m0 #[Value.ref b] below meth c H locs cells slots Q (F0 m0 2474 ls []) := by
  obtain ⟨hx, hb, hml, hown, hK, hT⟩ := hLX.rest
  obtain ⟨Fx0, hX, hbl, hbA, hD1, hA1⟩ := hLX
  unfold D_L_law_2474 at hD
  refine lv_aload_n hx hb dL_law_2474 rfl (lv_at hl 1 rfl) ?_
  refine lv_aload_n hx hb dL_law_2475 rfl (lv_at hl 0 rfl) ?_
  refine lv_iload hx hb dL_law_2476 (lv_at hl 4 rfl) ?_
  refine lv_iconst (v := (1 : Int32)) hx hb dL_law_2478 (by decide) ?_
  refine lv_iadd hx hb dL_law_2479 ?_
  obtain ⟨h1, hD⟩ := gd_el hD
  refine va_sld hx hb hX hbl hbA hS h1 dL_law_2480 ?_
  refine lv_aload_n hx hb dL_law_2481 rfl (lv_at hl 0 rfl) ?_
  refine lv_iload hx hb dL_law_2482 (lv_at hl 4 rfl) ?_
  refine lv_iconst (v := (2 : Int32)) hx hb dL_law_2484 (by decide) ?_
  refine lv_iadd hx hb dL_law_2485 ?_
  obtain ⟨h2, hD⟩ := gd_el hD
  refine va_sld hx hb hX hbl hbA hS h2 dL_law_2486 ?_
  refine lv_aload_n hx hb dL_law_2487 rfl (lv_at hl 3 rfl) ?_
  obtain ⟨v3, m4, z5, hD⟩ := b2_el hD
  refine lrL (As := [.ref (adh 0), .int (xs (x4 + (1 : Int32)).toNatClampNeg), .int (xs (x4 + (2 : Int32)).toNatClampNeg), .ref (adu 0)]) (rest := []) Fx0 (c_L_logEntry l hst (Wf := fun z0_ z1_ z2_ => Wf z0_ z1_ f c0 c1 x z2_) (fun z1_ z2_ => hLh z1_ f c0 c1 x z2_) (fun z0_ z2_ => hL z0_ f c0 c1 x z2_) (fun z0_ z1_ => hLu z0_ z1_ f c0 c1 x) (fun a0_ b0_ a1_ b1_ a2_ b2_ => hAd a0_ b0_ a1_ b1_ f f c0 c0 c1 c1 x x a2_ b2_) hm1 h m u (xs (x4 + (1 : Int32)).toNatClampNeg) (xs (x4 + (2 : Int32)).toNatClampNeg) z5) hP (hD1 _ (hAd _ _ _ _ _ _ _ _ _ _ _ _ _ _)) hS (hA1 _ _ (hAd _ _ _ _ _ _ _ _ _ _ _ _ _ _) hS.1) tw_6_157 tw_6_155 tw_6_156 tw_1_0 yd_L_logEntry ⟨(Nat.le_of_ble_eq_true rfl), (Nat.le_of_ble_eq_true rfl)⟩ ⟨show _ + 1 ≤ 601024 by omega, show _ + 6 ≤ 7293034 by omega⟩ rfl hl.1 rfl (Nat.le_of_ble_eq_true rfl) dL_law_2488 (fun H locs hP hS => ?_)
  refine lv_istore (lv' := [(5, .int v3), (0, .ref b), (1, .ref (adh 0)), (2, .ref (adx 0)), (3, .ref (adu 0)), (4, .int x4)]) hx hb dL_law_2491 hl (by decide) rfl (fun ls hl => ?_)
  refine lv_aload_n hx hb dL_law_2493 rfl (lv_at hl 3 rfl) ?_
  refine lv_aload_n hx hb dL_law_2494 rfl (lv_at hl 1 rfl) ?_
  refine lv_iload hx hb dL_law_2495 (lv_at hl 5 rfl) ?_
  refine lv_iconst (v := (1 : Int32)) hx hb dL_law_2497 (by decide) ?_
  refine lv_iadd hx hb dL_law_2498 ?_
  obtain ⟨h6, hD⟩ := gd_el hD
  refine va_sld hx hb hX hbl hbA hS h6 dL_law_2499 ?_
  refine lv_aload_n hx hb dL_law_2500 rfl (lv_at hl 1 rfl) ?_
  refine lv_iload hx hb dL_law_2501 (lv_at hl 5 rfl) ?_
  refine lv_iconst (v := (2 : Int32)) hx hb dL_law_2503 (by decide) ?_
  refine lv_iadd hx hb dL_law_2504 ?_
  obtain ⟨h7, hD⟩ := gd_el hD
  refine va_sld hx hb hX hbl hbA hS h7 dL_law_2505 ?_
  obtain ⟨v8, m9, z10, hD⟩ := b2_el hD
  refine lrV (Wf := fun z => Wf h m f c0 c1 z m4) (mm := x) (As := [.int (xs (x4 + (1 : Int32)).toNatClampNeg), .int (xs (x4 + (2 : Int32)).toNatClampNeg)]) (rest := []) Fx0 (c_X10_logEntry l (Wf := fun z0_ => Wf h m f c0 c1 z0_ m4) (hLx h m f c0 c1 m4) (fun a0_ b0_ => hAd h h m m f f c0 c0 c1 c1 a0_ b0_ m4 m4) x (xs (x4 + (1 : Int32)).toNatClampNeg) (xs (x4 + (2 : Int32)).toNatClampNeg) z10) hP (hD1 _ (hAd _ _ _ _ _ _ _ _ _ _ _ _ _ _)) hS (hA1 _ _ (hAd _ _ _ _ _ _ _ _ _ _ _ _ _ _) hS.1) (hLx h m f c0 c1 m4) (Nat.le_of_ble_eq_true rfl) (xs0 _ _) rfl tw_9_68 tw_9_65 tw_9_66 tw_9_67 tw_1_13 yd_X10_logEntry ⟨(Nat.le_of_ble_eq_true rfl), (Nat.le_of_ble_eq_true rfl)⟩ ⟨show _ ≤ 601024 by omega, show _ ≤ 7293034 by omega⟩ rfl hl.1 rfl (Nat.le_of_ble_eq_true rfl) dL_law_2506 (fun H locs hP hS => ?_)
  refine lv_istore (lv' := [(6, .int v8), (5, .int v3), (0, .ref b), (1, .ref (adh 0)), (2, .ref (adx 0)), (3, .ref (adu 0)), (4, .int x4)]) hx hb dL_law_2509 hl (by decide) rfl (fun ls hl => ?_)
  refine lv_aload_n hx hb dL_law_2511 rfl (lv_at hl 4 rfl) ?_
  obtain ⟨v11, z12, hD⟩ := b1_el hD
  refine lrV (Wf := fun z => Wf h m f c0 c1 z m4) (mm := m9) (As := []) (rest := []) Fx0 (c_X10_thrown l (Wf := fun z0_ => Wf h m f c0 c1 z0_ m4) (hLx h m f c0 c1 m4) (fun a0_ b0_ => hAd h h m m f f c0 c0 c1 c1 a0_ b0_ m4 m4) m9 z12) hP (hD1 _ (hAd _ _ _ _ _ _ _ _ _ _ _ _ _ _)) hS (hA1 _ _ (hAd _ _ _ _ _ _ _ _ _ _ _ _ _ _) hS.1) (hLx h m f c0 c1 m4) (Nat.le_of_ble_eq_true rfl) (xs0 _ _) rfl tw_7_30 tw_7_27 tw_7_28 tw_7_29 tw_1_13 yd_X10_thrown ⟨(Nat.le_of_ble_eq_true rfl), (Nat.le_of_ble_eq_true rfl)⟩ ⟨show _ ≤ 601024 by omega, show _ ≤ 7293034 by omega⟩ rfl hl.1 rfl (Nat.le_of_ble_eq_true rfl) dL_law_2512 (fun H locs hP hS => ?_)
  refine lv_iload hx hb dL_law_2515 (lv_at hl 1 rfl) ?_
  refine lv_icmp_eq (tgt := 2522) hx hb dL_law_2517 (by decide) (fun c => ?_) (fun c => ?_)
  · have hD := ifp hD c
    refine lv_iload hx hb dL_law_2522 (lv_at hl 1 rfl) ?_
    refine lv_if_ne (tgt := 2539) hx hb dL_law_2524 (by decide) (fun c => ?_) (fun c => ?_)
    · have hD := ifn hD c
      refine lv_goto (tgt := 2964) hx hb dL_law_2539 (by decide) ?_
      obtain ⟨v13, ev13, hD⟩ := bnd_el hD
      refine lv_iinc (v := v13) (lv' := [(4, .int v13), (6, .int v8), (5, .int v3), (0, .ref b), (1, .ref (adh 0)), (2, .ref (adx 0)), (3, .ref (adu 0))]) hx hb dL_law_2964 hl (k := 6) rfl (by rw [ev13]; rfl) (by decide) rfl (fun ls hl => ?_)
      refine lv_goto (tgt := 23) hx hb dL_law_2967 (by decide) ?_
      exact hk v13 h m f c0 c1 m9 m4 _ _ _ _ _ hD (show _ + n ≤ 601024 by omega) (show _ + 6 * n ≤ 7293034 by omega) hP hS (lv_sub hl [3, 4, 5, 6, 0] rfl)
    · have hD := ifp hD c
      refine lv_aload_n hx hb dL_law_2527 rfl (lv_at hl 5 rfl) ?_
      refine lv_iconst (v := (0 : Int32)) hx hb dL_law_2528 (by decide) ?_
      refine rlald (Wf := fun z => Wf h m f c0 c1 m9 z) (mm := m4) hx hb hK hP (hLu h m f c0 c1 m9) 0 (Nat.le_of_ble_eq_true rfl) (us0 _ _) (by decide) (j := 0) (by decide) dL_law_2529 ?_
      refine lv_iload hx hb dL_law_2530 (lv_at hl 0 rfl) ?_
      refine lv_i2l (v := v8.toInt64) hx hb dL_law_2532 rfl ?_
      refine rlc_eq (tgt := 2539) hx hb dL_law_2533 dL_law_2534 (by decide) (fun c => ?_) (fun c => ?_)
      · have hD := ifp hD c
        refine lv_goto (tgt := 2964) hx hb dL_law_2539 (by decide) ?_
        obtain ⟨v14, ev14, hD⟩ := bnd_el hD
        refine lv_iinc (v := v14) (lv' := [(4, .int v14), (6, .int v8), (5, .int v3), (0, .ref b), (1, .ref (adh 0)), (2, .ref (adx 0)), (3, .ref (adu 0))]) hx hb dL_law_2964 hl (k := 6) rfl (by rw [ev14]; rfl) (by decide) rfl (fun ls hl => ?_)
        refine lv_goto (tgt := 23) hx hb dL_law_2967 (by decide) ?_
        exact hk v14 h m f c0 c1 m9 m4 _ _ _ _ _ hD (show _ + n ≤ 601024 by omega) (show _ + 6 * n ≤ 7293034 by omega) hP hS (lv_sub hl [3, 4, 5, 6, 0] rfl)
      · have hD := ifn hD c
        refine lv_iconst (v := (0 : Int32)) hx hb dL_law_2537 (by decide) ?_
        exact nn_el hD
  · have hD := ifn hD c
    refine lv_iconst (v := (0 : Int32)) hx hb dL_law_2520 (by decide) ?_
    exact nn_el hD
noncomputable def D_L_law_2542 (L : Nat) (xs : Nat → Int32) (k : LKont) (x4 : Int32) (h : MM) (m : MM) (f : MM) (c0 : MM) (c1 : MM) (x : MM) (u : MM) : Option Unit := b3 (D_X9_actionsToEnd h m f) (fun v1 m2 m3 => b2 (D_X10_actionsToEnd x) (fun v5 m6 => if v1 = v5 then (bnd (x4 + (3 : Int32)) (fun v8 => k v8 m2 m m3 c0 c1 m6 u)) else (none)))
set_option maxHeartbeats 4000000 in
set_option maxRecDepth 100000 in
theorem c_L_law_2542 (l : Launch) (hst : l.stackTraces = false) {p : Program} {e : Env} {s : State} {m0 : MethodId} {below : List Frame} {meth : Method} {c : Code} {b L : Nat} {xs : Nat → Int32} {D : va_G} {cs : Nat → ClassId} {A : Nat → Prop} {Q : State → Prop} {adh ad adf ad0 ad1 adx adu ma : Nat → Nat} {Wf : MM → MM → MM → MM → MM → MM → MM → va_W} (hLh : ∀ m f c0 c1 x u : MM, Ln 8 adh (hsh cs adh ma) (fun z => Wf z m f c0 c1 x u)) (hL : ∀ h f c0 c1 x u : MM, Ln 51 ad (msh cs ad) (fun z => Wf h z f c0 c1 x u)) (hLf : ∀ h m c0 c1 x u : MM, Ln 51 adf (msh cs adf) (fun z => Wf h m z c0 c1 x u)) (hL0 : ∀ h m f c1 x u : MM, Ln 51 ad0 (msh cs ad0) (fun z => Wf h m f z c1 x u)) (hL1 : ∀ h m f c0 x u : MM, Ln 51 ad1 (msh cs ad1) (fun z => Wf h m f c0 z x u)) (hLx : ∀ h m f c0 c1 u : MM, Ln 9 adx (xsh cs adx) (fun z => Wf h m f c0 c1 z u)) (hLu : ∀ h m f c0 c1 x : MM, Ln 1 adu (ush cs) (fun z => Wf h m f c0 c1 x z)) (hAd : ∀ a0_ b0_ a1_ b1_ a2_ b2_ a3_ b3_ a4_ b4_ a5_ b5_ a6_ b6_ : MM, (Wf a0_ a1_ a2_ a3_ a4_ a5_ a6_).map (fun q => q.1) = (Wf b0_ b1_ b2_ b3_ b4_ b5_ b6_).map (fun q => q.1)) (hm1 : ma 1 = ad 24) (hm2 : ma 2 = adf 24) (hm3 : ma 3 = ad0 24) (hm4 : ma 4 = ad1 24) (hLX : LX p s m0 c b L xs D cs A (Wf zMM zMM zMM zMM zMM zMM zMM)) (n : Nat) (k : LKont) (hk : LK p l e s m0 below meth c b D A Q adh adx adu Wf n k) (x4 : Int32) (h : MM) (m : MM) (f : MM) (c0 : MM) (c1 : MM) (x : MM) (u : MM) (cells slots : Nat) (H : Heap) (locs : List Loc) (ls : Array Slot) (hD : D_L_law_2542 L xs k x4 h m f c0 c1 x u = some ()) (hcl : cells + (n + 1) ≤ 601024) (hsl : slots + 6 * (n + 1) ≤ 7293034) (hP : va_P D vwCl (Wf h m f c0 c1 x u) H) (hS : va_S A s.heap H locs) (hl : lv_has ls 8 [(0, .ref b), (1, .ref (adh 0)), (2, .ref (adx 0)), (3, .ref (adu 0)), (4, .int x4)]) : W p l e room_1 s m0 #[Value.ref b] below meth c H locs cells slots Q (F0 m0 2542 ls []) := by
  obtain ⟨hx, hb, hml, hown, hK, hT⟩ := hLX.rest
  obtain ⟨Fx0, hX, hbl, hbA, hD1, hA1⟩ := hLX
  unfold D_L_law_2542 at hD
  refine lv_aload_n hx hb dL_law_2542 rfl (lv_at hl 1 rfl) ?_
  obtain ⟨v1, m2, m3, z4, hD⟩ := b3_el hD
  refine lrV (Wf := fun z => Wf z m f c0 c1 x u) (mm := h) (As := []) (rest := []) Fx0 (c_X9_actionsToEnd l (Wf := fun z0_ z1_ z2_ => Wf z0_ z1_ z2_ c0 c1 x u) (fun z1_ z2_ => hLh z1_ z2_ c0 c1 x u) (fun z0_ z2_ => hL z0_ z2_ c0 c1 x u) (fun z0_ z1_ => hLf z0_ z1_ c0 c1 x u) (fun a0_ b0_ a1_ b1_ a2_ b2_ => hAd a0_ b0_ a1_ b1_ a2_ b2_ c0 c0 c1 c1 x x u u) hm1 hm2 h m f z4) hP (hD1 _ (hAd _ _ _ _ _ _ _ _ _ _ _ _ _ _)) hS (hA1 _ _ (hAd _ _ _ _ _ _ _ _ _ _ _ _ _ _) hS.1) (hLh m f c0 c1 x u) (Nat.le_of_ble_eq_true rfl) (hs0 _ _) rfl tw_4_208 tw_4_205 tw_4_206 tw_4_207 tw_1_1 yd_X9_actionsToEnd ⟨(Nat.le_of_ble_eq_true rfl), (Nat.le_of_ble_eq_true rfl)⟩ ⟨show _ ≤ 601024 by omega, show _ ≤ 7293034 by omega⟩ rfl hl.1 rfl (Nat.le_of_ble_eq_true rfl) dL_law_2543 (fun H locs hP hS => ?_)
  refine lv_aload_n hx hb dL_law_2546 rfl (lv_at hl 2 rfl) ?_
  obtain ⟨v5, m6, z7, hD⟩ := b2_el hD
  refine lrV (Wf := fun z => Wf m2 m m3 c0 c1 z u) (mm := x) (As := []) (rest := [.int v1]) Fx0 (c_X10_actionsToEnd l (Wf := fun z0_ => Wf m2 m m3 c0 c1 z0_ u) (hLx m2 m m3 c0 c1 u) (fun a0_ b0_ => hAd m2 m2 m m m3 m3 c0 c0 c1 c1 a0_ b0_ u u) x z7) hP (hD1 _ (hAd _ _ _ _ _ _ _ _ _ _ _ _ _ _)) hS (hA1 _ _ (hAd _ _ _ _ _ _ _ _ _ _ _ _ _ _) hS.1) (hLx m2 m m3 c0 c1 u) (Nat.le_of_ble_eq_true rfl) (xs0 _ _) rfl tw_9_73 tw_9_70 tw_9_71 tw_9_72 tw_1_13 yd_X10_actionsToEnd ⟨(Nat.le_of_ble_eq_true rfl), (Nat.le_of_ble_eq_true rfl)⟩ ⟨show _ ≤ 601024 by omega, show _ ≤ 7293034 by omega⟩ rfl hl.1 rfl (Nat.le_of_ble_eq_true rfl) dL_law_2547 (fun H locs hP hS => ?_)
  refine lv_icmp_eq (tgt := 2964) hx hb dL_law_2550 (by decide) (fun c => ?_) (fun c => ?_)
  · have hD := ifp hD c
    obtain ⟨v8, ev8, hD⟩ := bnd_el hD
    refine lv_iinc (v := v8) (lv' := [(4, .int v8), (0, .ref b), (1, .ref (adh 0)), (2, .ref (adx 0)), (3, .ref (adu 0))]) hx hb dL_law_2964 hl (k := 4) rfl (by rw [ev8]; rfl) (by decide) rfl (fun ls hl => ?_)
    refine lv_goto (tgt := 23) hx hb dL_law_2967 (by decide) ?_
    exact hk v8 m2 m m3 c0 c1 m6 u _ _ _ _ _ hD (show _ + n ≤ 601024 by omega) (show _ + 6 * n ≤ 7293034 by omega) hP hS (lv_sub hl [1, 2, 3, 4, 0] rfl)
  · have hD := ifn hD c
    refine lv_iconst (v := (0 : Int32)) hx hb dL_law_2553 (by decide) ?_
    exact nn_el hD
noncomputable def D_L_law_2555 (L : Nat) (xs : Nat → Int32) (k : LKont) (x4 : Int32) (h : MM) (m : MM) (f : MM) (c0 : MM) (c1 : MM) (x : MM) (u : MM) : Option Unit := b3 (D_X9_timeAtEnd h m f) (fun v1 m2 m3 => b2 (D_X10_timeAtEnd x) (fun v5 m6 => if v1 = v5 then (bnd (x4 + (3 : Int32)) (fun v8 => k v8 m2 m m3 c0 c1 m6 u)) else (none)))
set_option maxHeartbeats 4000000 in
set_option maxRecDepth 100000 in
theorem c_L_law_2555 (l : Launch) (hst : l.stackTraces = false) {p : Program} {e : Env} {s : State} {m0 : MethodId} {below : List Frame} {meth : Method} {c : Code} {b L : Nat} {xs : Nat → Int32} {D : va_G} {cs : Nat → ClassId} {A : Nat → Prop} {Q : State → Prop} {adh ad adf ad0 ad1 adx adu ma : Nat → Nat} {Wf : MM → MM → MM → MM → MM → MM → MM → va_W} (hLh : ∀ m f c0 c1 x u : MM, Ln 8 adh (hsh cs adh ma) (fun z => Wf z m f c0 c1 x u)) (hL : ∀ h f c0 c1 x u : MM, Ln 51 ad (msh cs ad) (fun z => Wf h z f c0 c1 x u)) (hLf : ∀ h m c0 c1 x u : MM, Ln 51 adf (msh cs adf) (fun z => Wf h m z c0 c1 x u)) (hL0 : ∀ h m f c1 x u : MM, Ln 51 ad0 (msh cs ad0) (fun z => Wf h m f z c1 x u)) (hL1 : ∀ h m f c0 x u : MM, Ln 51 ad1 (msh cs ad1) (fun z => Wf h m f c0 z x u)) (hLx : ∀ h m f c0 c1 u : MM, Ln 9 adx (xsh cs adx) (fun z => Wf h m f c0 c1 z u)) (hLu : ∀ h m f c0 c1 x : MM, Ln 1 adu (ush cs) (fun z => Wf h m f c0 c1 x z)) (hAd : ∀ a0_ b0_ a1_ b1_ a2_ b2_ a3_ b3_ a4_ b4_ a5_ b5_ a6_ b6_ : MM, (Wf a0_ a1_ a2_ a3_ a4_ a5_ a6_).map (fun q => q.1) = (Wf b0_ b1_ b2_ b3_ b4_ b5_ b6_).map (fun q => q.1)) (hm1 : ma 1 = ad 24) (hm2 : ma 2 = adf 24) (hm3 : ma 3 = ad0 24) (hm4 : ma 4 = ad1 24) (hLX : LX p s m0 c b L xs D cs A (Wf zMM zMM zMM zMM zMM zMM zMM)) (n : Nat) (k : LKont) (hk : LK p l e s m0 below meth c b D A Q adh adx adu Wf n k) (x4 : Int32) (h : MM) (m : MM) (f : MM) (c0 : MM) (c1 : MM) (x : MM) (u : MM) (cells slots : Nat) (H : Heap) (locs : List Loc) (ls : Array Slot) (hD : D_L_law_2555 L xs k x4 h m f c0 c1 x u = some ()) (hcl : cells + (n + 1) ≤ 601024) (hsl : slots + 6 * (n + 1) ≤ 7293034) (hP : va_P D vwCl (Wf h m f c0 c1 x u) H) (hS : va_S A s.heap H locs) (hl : lv_has ls 8 [(0, .ref b), (1, .ref (adh 0)), (2, .ref (adx 0)), (3, .ref (adu 0)), (4, .int x4)]) : W p l e room_1 s m0 #[Value.ref b] below meth c H locs cells slots Q (F0 m0 2555 ls []) := by
  obtain ⟨hx, hb, hml, hown, hK, hT⟩ := hLX.rest
  obtain ⟨Fx0, hX, hbl, hbA, hD1, hA1⟩ := hLX
  unfold D_L_law_2555 at hD
  refine lv_aload_n hx hb dL_law_2555 rfl (lv_at hl 1 rfl) ?_
  obtain ⟨v1, m2, m3, z4, hD⟩ := b3_el hD
  refine lrV (Wf := fun z => Wf z m f c0 c1 x u) (mm := h) (As := []) (rest := []) Fx0 (c_X9_timeAtEnd l (Wf := fun z0_ z1_ z2_ => Wf z0_ z1_ z2_ c0 c1 x u) (fun z1_ z2_ => hLh z1_ z2_ c0 c1 x u) (fun z0_ z2_ => hL z0_ z2_ c0 c1 x u) (fun z0_ z1_ => hLf z0_ z1_ c0 c1 x u) (fun a0_ b0_ a1_ b1_ a2_ b2_ => hAd a0_ b0_ a1_ b1_ a2_ b2_ c0 c0 c1 c1 x x u u) hm1 hm2 h m f z4) hP (hD1 _ (hAd _ _ _ _ _ _ _ _ _ _ _ _ _ _)) hS (hA1 _ _ (hAd _ _ _ _ _ _ _ _ _ _ _ _ _ _) hS.1) (hLh m f c0 c1 x u) (Nat.le_of_ble_eq_true rfl) (hs0 _ _) rfl tw_4_223 tw_4_220 tw_4_221 tw_4_222 tw_1_1 yd_X9_timeAtEnd ⟨(Nat.le_of_ble_eq_true rfl), (Nat.le_of_ble_eq_true rfl)⟩ ⟨show _ ≤ 601024 by omega, show _ ≤ 7293034 by omega⟩ rfl hl.1 rfl (Nat.le_of_ble_eq_true rfl) dL_law_2556 (fun H locs hP hS => ?_)
  refine lv_aload_n hx hb dL_law_2559 rfl (lv_at hl 2 rfl) ?_
  obtain ⟨v5, m6, z7, hD⟩ := b2_el hD
  refine lrV (Wf := fun z => Wf m2 m m3 c0 c1 z u) (mm := x) (As := []) (rest := [.int v1]) Fx0 (c_X10_timeAtEnd l (Wf := fun z0_ => Wf m2 m m3 c0 c1 z0_ u) (hLx m2 m m3 c0 c1 u) (fun a0_ b0_ => hAd m2 m2 m m m3 m3 c0 c0 c1 c1 a0_ b0_ u u) x z7) hP (hD1 _ (hAd _ _ _ _ _ _ _ _ _ _ _ _ _ _)) hS (hA1 _ _ (hAd _ _ _ _ _ _ _ _ _ _ _ _ _ _) hS.1) (hLx m2 m m3 c0 c1 u) (Nat.le_of_ble_eq_true rfl) (xs0 _ _) rfl tw_9_85 tw_9_82 tw_9_83 tw_9_84 tw_1_13 yd_X10_timeAtEnd ⟨(Nat.le_of_ble_eq_true rfl), (Nat.le_of_ble_eq_true rfl)⟩ ⟨show _ ≤ 601024 by omega, show _ ≤ 7293034 by omega⟩ rfl hl.1 rfl (Nat.le_of_ble_eq_true rfl) dL_law_2560 (fun H locs hP hS => ?_)
  refine lv_icmp_eq (tgt := 2964) hx hb dL_law_2563 (by decide) (fun c => ?_) (fun c => ?_)
  · have hD := ifp hD c
    obtain ⟨v8, ev8, hD⟩ := bnd_el hD
    refine lv_iinc (v := v8) (lv' := [(4, .int v8), (0, .ref b), (1, .ref (adh 0)), (2, .ref (adx 0)), (3, .ref (adu 0))]) hx hb dL_law_2964 hl (k := 4) rfl (by rw [ev8]; rfl) (by decide) rfl (fun ls hl => ?_)
    refine lv_goto (tgt := 23) hx hb dL_law_2967 (by decide) ?_
    exact hk v8 m2 m m3 c0 c1 m6 u _ _ _ _ _ hD (show _ + n ≤ 601024 by omega) (show _ + 6 * n ≤ 7293034 by omega) hP hS (lv_sub hl [1, 2, 3, 4, 0] rfl)
  · have hD := ifn hD c
    refine lv_iconst (v := (0 : Int32)) hx hb dL_law_2566 (by decide) ?_
    exact nn_el hD
noncomputable def D_L_law_2568 (L : Nat) (xs : Nat → Int32) (k : LKont) (x4 : Int32) (h : MM) (m : MM) (f : MM) (c0 : MM) (c1 : MM) (x : MM) (u : MM) : Option Unit := b3 (D_X9_filledAtEnd h m f) (fun v1 m2 m3 => b2 (D_X10_filledAtEnd x) (fun v5 m6 => if v1 = v5 then (bnd (x4 + (3 : Int32)) (fun v8 => k v8 m2 m m3 c0 c1 m6 u)) else (none)))
set_option maxHeartbeats 4000000 in
set_option maxRecDepth 100000 in
theorem c_L_law_2568 (l : Launch) (hst : l.stackTraces = false) {p : Program} {e : Env} {s : State} {m0 : MethodId} {below : List Frame} {meth : Method} {c : Code} {b L : Nat} {xs : Nat → Int32} {D : va_G} {cs : Nat → ClassId} {A : Nat → Prop} {Q : State → Prop} {adh ad adf ad0 ad1 adx adu ma : Nat → Nat} {Wf : MM → MM → MM → MM → MM → MM → MM → va_W} (hLh : ∀ m f c0 c1 x u : MM, Ln 8 adh (hsh cs adh ma) (fun z => Wf z m f c0 c1 x u)) (hL : ∀ h f c0 c1 x u : MM, Ln 51 ad (msh cs ad) (fun z => Wf h z f c0 c1 x u)) (hLf : ∀ h m c0 c1 x u : MM, Ln 51 adf (msh cs adf) (fun z => Wf h m z c0 c1 x u)) (hL0 : ∀ h m f c1 x u : MM, Ln 51 ad0 (msh cs ad0) (fun z => Wf h m f z c1 x u)) (hL1 : ∀ h m f c0 x u : MM, Ln 51 ad1 (msh cs ad1) (fun z => Wf h m f c0 z x u)) (hLx : ∀ h m f c0 c1 u : MM, Ln 9 adx (xsh cs adx) (fun z => Wf h m f c0 c1 z u)) (hLu : ∀ h m f c0 c1 x : MM, Ln 1 adu (ush cs) (fun z => Wf h m f c0 c1 x z)) (hAd : ∀ a0_ b0_ a1_ b1_ a2_ b2_ a3_ b3_ a4_ b4_ a5_ b5_ a6_ b6_ : MM, (Wf a0_ a1_ a2_ a3_ a4_ a5_ a6_).map (fun q => q.1) = (Wf b0_ b1_ b2_ b3_ b4_ b5_ b6_).map (fun q => q.1)) (hm1 : ma 1 = ad 24) (hm2 : ma 2 = adf 24) (hm3 : ma 3 = ad0 24) (hm4 : ma 4 = ad1 24) (hLX : LX p s m0 c b L xs D cs A (Wf zMM zMM zMM zMM zMM zMM zMM)) (n : Nat) (k : LKont) (hk : LK p l e s m0 below meth c b D A Q adh adx adu Wf n k) (x4 : Int32) (h : MM) (m : MM) (f : MM) (c0 : MM) (c1 : MM) (x : MM) (u : MM) (cells slots : Nat) (H : Heap) (locs : List Loc) (ls : Array Slot) (hD : D_L_law_2568 L xs k x4 h m f c0 c1 x u = some ()) (hcl : cells + (n + 1) ≤ 601024) (hsl : slots + 6 * (n + 1) ≤ 7293034) (hP : va_P D vwCl (Wf h m f c0 c1 x u) H) (hS : va_S A s.heap H locs) (hl : lv_has ls 8 [(0, .ref b), (1, .ref (adh 0)), (2, .ref (adx 0)), (3, .ref (adu 0)), (4, .int x4)]) : W p l e room_1 s m0 #[Value.ref b] below meth c H locs cells slots Q (F0 m0 2568 ls []) := by
  obtain ⟨hx, hb, hml, hown, hK, hT⟩ := hLX.rest
  obtain ⟨Fx0, hX, hbl, hbA, hD1, hA1⟩ := hLX
  unfold D_L_law_2568 at hD
  refine lv_aload_n hx hb dL_law_2568 rfl (lv_at hl 1 rfl) ?_
  obtain ⟨v1, m2, m3, z4, hD⟩ := b3_el hD
  refine lrV (Wf := fun z => Wf z m f c0 c1 x u) (mm := h) (As := []) (rest := []) Fx0 (c_X9_filledAtEnd l (Wf := fun z0_ z1_ z2_ => Wf z0_ z1_ z2_ c0 c1 x u) (fun z1_ z2_ => hLh z1_ z2_ c0 c1 x u) (fun z0_ z2_ => hL z0_ z2_ c0 c1 x u) (fun z0_ z1_ => hLf z0_ z1_ c0 c1 x u) (fun a0_ b0_ a1_ b1_ a2_ b2_ => hAd a0_ b0_ a1_ b1_ a2_ b2_ c0 c0 c1 c1 x x u u) hm1 hm2 h m f z4) hP (hD1 _ (hAd _ _ _ _ _ _ _ _ _ _ _ _ _ _)) hS (hA1 _ _ (hAd _ _ _ _ _ _ _ _ _ _ _ _ _ _) hS.1) (hLh m f c0 c1 x u) (Nat.le_of_ble_eq_true rfl) (hs0 _ _) rfl tw_4_227 tw_4_224 tw_4_225 tw_4_226 tw_1_1 yd_X9_filledAtEnd ⟨(Nat.le_of_ble_eq_true rfl), (Nat.le_of_ble_eq_true rfl)⟩ ⟨show _ ≤ 601024 by omega, show _ ≤ 7293034 by omega⟩ rfl hl.1 rfl (Nat.le_of_ble_eq_true rfl) dL_law_2569 (fun H locs hP hS => ?_)
  refine lv_aload_n hx hb dL_law_2572 rfl (lv_at hl 2 rfl) ?_
  obtain ⟨v5, m6, z7, hD⟩ := b2_el hD
  refine lrV (Wf := fun z => Wf m2 m m3 c0 c1 z u) (mm := x) (As := []) (rest := [.int v1]) Fx0 (c_X10_filledAtEnd l (Wf := fun z0_ => Wf m2 m m3 c0 c1 z0_ u) (hLx m2 m m3 c0 c1 u) (fun a0_ b0_ => hAd m2 m2 m m m3 m3 c0 c0 c1 c1 a0_ b0_ u u) x z7) hP (hD1 _ (hAd _ _ _ _ _ _ _ _ _ _ _ _ _ _)) hS (hA1 _ _ (hAd _ _ _ _ _ _ _ _ _ _ _ _ _ _) hS.1) (hLx m2 m m3 c0 c1 u) (Nat.le_of_ble_eq_true rfl) (xs0 _ _) rfl tw_9_97 tw_9_94 tw_9_95 tw_9_96 tw_1_13 yd_X10_filledAtEnd ⟨(Nat.le_of_ble_eq_true rfl), (Nat.le_of_ble_eq_true rfl)⟩ ⟨show _ ≤ 601024 by omega, show _ ≤ 7293034 by omega⟩ rfl hl.1 rfl (Nat.le_of_ble_eq_true rfl) dL_law_2573 (fun H locs hP hS => ?_)
  refine lv_icmp_eq (tgt := 2964) hx hb dL_law_2576 (by decide) (fun c => ?_) (fun c => ?_)
  · have hD := ifp hD c
    obtain ⟨v8, ev8, hD⟩ := bnd_el hD
    refine lv_iinc (v := v8) (lv' := [(4, .int v8), (0, .ref b), (1, .ref (adh 0)), (2, .ref (adx 0)), (3, .ref (adu 0))]) hx hb dL_law_2964 hl (k := 4) rfl (by rw [ev8]; rfl) (by decide) rfl (fun ls hl => ?_)
    refine lv_goto (tgt := 23) hx hb dL_law_2967 (by decide) ?_
    exact hk v8 m2 m m3 c0 c1 m6 u _ _ _ _ _ hD (show _ + n ≤ 601024 by omega) (show _ + 6 * n ≤ 7293034 by omega) hP hS (lv_sub hl [1, 2, 3, 4, 0] rfl)
  · have hD := ifn hD c
    refine lv_iconst (v := (0 : Int32)) hx hb dL_law_2579 (by decide) ?_
    exact nn_el hD
noncomputable def D_L_law_2581 (L : Nat) (xs : Nat → Int32) (k : LKont) (x4 : Int32) (h : MM) (m : MM) (f : MM) (c0 : MM) (c1 : MM) (x : MM) (u : MM) : Option Unit := if (x4 + (1 : Int32)) < 0 ∨ L ≤ (x4 + (1 : Int32)).toNatClampNeg then none else (b2 (D_L_shortage (xs (x4 + (1 : Int32)).toNatClampNeg) h m u) (fun v2 m3 => if (x4 + (1 : Int32)) < 0 ∨ L ≤ (x4 + (1 : Int32)).toNatClampNeg then none else (b2 (D_X10_shortage (xs (x4 + (1 : Int32)).toNatClampNeg) x) (fun v6 m7 => b1 (D_X10_thrown m7) (fun v9 => if v9 = v2 then (if v2 = 0 then (if (gl m3 0 0) = v6.toInt64 then (bnd (x4 + (3 : Int32)) (fun v12 => k v12 h m f c0 c1 m7 m3)) else (none)) else (bnd (x4 + (3 : Int32)) (fun v11 => k v11 h m f c0 c1 m7 m3))) else (none))))))
set_option maxHeartbeats 4000000 in
set_option maxRecDepth 100000 in
theorem c_L_law_2581 (l : Launch) (hst : l.stackTraces = false) {p : Program} {e : Env} {s : State} {m0 : MethodId} {below : List Frame} {meth : Method} {c : Code} {b L : Nat} {xs : Nat → Int32} {D : va_G} {cs : Nat → ClassId} {A : Nat → Prop} {Q : State → Prop} {adh ad adf ad0 ad1 adx adu ma : Nat → Nat} {Wf : MM → MM → MM → MM → MM → MM → MM → va_W} (hLh : ∀ m f c0 c1 x u : MM, Ln 8 adh (hsh cs adh ma) (fun z => Wf z m f c0 c1 x u)) (hL : ∀ h f c0 c1 x u : MM, Ln 51 ad (msh cs ad) (fun z => Wf h z f c0 c1 x u)) (hLf : ∀ h m c0 c1 x u : MM, Ln 51 adf (msh cs adf) (fun z => Wf h m z c0 c1 x u)) (hL0 : ∀ h m f c1 x u : MM, Ln 51 ad0 (msh cs ad0) (fun z => Wf h m f z c1 x u)) (hL1 : ∀ h m f c0 x u : MM, Ln 51 ad1 (msh cs ad1) (fun z => Wf h m f c0 z x u)) (hLx : ∀ h m f c0 c1 u : MM, Ln 9 adx (xsh cs adx) (fun z => Wf h m f c0 c1 z u)) (hLu : ∀ h m f c0 c1 x : MM, Ln 1 adu (ush cs) (fun z => Wf h m f c0 c1 x z)) (hAd : ∀ a0_ b0_ a1_ b1_ a2_ b2_ a3_ b3_ a4_ b4_ a5_ b5_ a6_ b6_ : MM, (Wf a0_ a1_ a2_ a3_ a4_ a5_ a6_).map (fun q => q.1) = (Wf b0_ b1_ b2_ b3_ b4_ b5_ b6_).map (fun q => q.1)) (hm1 : ma 1 = ad 24) (hm2 : ma 2 = adf 24) (hm3 : ma 3 = ad0 24) (hm4 : ma 4 = ad1 24) (hLX : LX p s m0 c b L xs D cs A (Wf zMM zMM zMM zMM zMM zMM zMM)) (n : Nat) (k : LKont) (hk : LK p l e s m0 below meth c b D A Q adh adx adu Wf n k) (x4 : Int32) (h : MM) (m : MM) (f : MM) (c0 : MM) (c1 : MM) (x : MM) (u : MM) (cells slots : Nat) (H : Heap) (locs : List Loc) (ls : Array Slot) (hD : D_L_law_2581 L xs k x4 h m f c0 c1 x u = some ()) (hcl : cells + (n + 1) ≤ 601024) (hsl : slots + 6 * (n + 1) ≤ 7293034) (hP : va_P D vwCl (Wf h m f c0 c1 x u) H) (hS : va_S A s.heap H locs) (hl : lv_has ls 8 [(0, .ref b), (1, .ref (adh 0)), (2, .ref (adx 0)), (3, .ref (adu 0)), (4, .int x4)]) : W p l e room_1 s m0 #[Value.ref b] below meth c H locs cells slots Q (F0 m0 2581 ls []) := by
  obtain ⟨hx, hb, hml, hown, hK, hT⟩ := hLX.rest
  obtain ⟨Fx0, hX, hbl, hbA, hD1, hA1⟩ := hLX
  unfold D_L_law_2581 at hD
  refine lv_aload_n hx hb dL_law_2581 rfl (lv_at hl 1 rfl) ?_
  refine lv_aload_n hx hb dL_law_2582 rfl (lv_at hl 0 rfl) ?_
  refine lv_iload hx hb dL_law_2583 (lv_at hl 4 rfl) ?_
  refine lv_iconst (v := (1 : Int32)) hx hb dL_law_2585 (by decide) ?_
  refine lv_iadd hx hb dL_law_2586 ?_
  obtain ⟨h1, hD⟩ := gd_el hD
  refine va_sld hx hb hX hbl hbA hS h1 dL_law_2587 ?_
  refine lv_aload_n hx hb dL_law_2588 rfl (lv_at hl 3 rfl) ?_
  obtain ⟨v2, m3, z4, hD⟩ := b2_el hD
  refine lrL (As := [.ref (adh 0), .int (xs (x4 + (1 : Int32)).toNatClampNeg), .ref (adu 0)]) (rest := []) Fx0 (c_L_shortage l hst (Wf := fun z0_ z1_ z2_ => Wf z0_ z1_ f c0 c1 x z2_) (fun z1_ z2_ => hLh z1_ f c0 c1 x z2_) (fun z0_ z2_ => hL z0_ f c0 c1 x z2_) (fun z0_ z1_ => hLu z0_ z1_ f c0 c1 x) (fun a0_ b0_ a1_ b1_ a2_ b2_ => hAd a0_ b0_ a1_ b1_ f f c0 c0 c1 c1 x x a2_ b2_) hm1 h m u (xs (x4 + (1 : Int32)).toNatClampNeg) z4) hP (hD1 _ (hAd _ _ _ _ _ _ _ _ _ _ _ _ _ _)) hS (hA1 _ _ (hAd _ _ _ _ _ _ _ _ _ _ _ _ _ _) hS.1) tw_6_168 tw_6_166 tw_6_167 tw_1_0 yd_L_shortage ⟨(Nat.le_of_ble_eq_true rfl), (Nat.le_of_ble_eq_true rfl)⟩ ⟨show _ + 1 ≤ 601024 by omega, show _ + 6 ≤ 7293034 by omega⟩ rfl hl.1 rfl (Nat.le_of_ble_eq_true rfl) dL_law_2589 (fun H locs hP hS => ?_)
  refine lv_istore (lv' := [(5, .int v2), (0, .ref b), (1, .ref (adh 0)), (2, .ref (adx 0)), (3, .ref (adu 0)), (4, .int x4)]) hx hb dL_law_2592 hl (by decide) rfl (fun ls hl => ?_)
  refine lv_aload_n hx hb dL_law_2594 rfl (lv_at hl 3 rfl) ?_
  refine lv_aload_n hx hb dL_law_2595 rfl (lv_at hl 1 rfl) ?_
  refine lv_iload hx hb dL_law_2596 (lv_at hl 5 rfl) ?_
  refine lv_iconst (v := (1 : Int32)) hx hb dL_law_2598 (by decide) ?_
  refine lv_iadd hx hb dL_law_2599 ?_
  obtain ⟨h5, hD⟩ := gd_el hD
  refine va_sld hx hb hX hbl hbA hS h5 dL_law_2600 ?_
  obtain ⟨v6, m7, z8, hD⟩ := b2_el hD
  refine lrV (Wf := fun z => Wf h m f c0 c1 z m3) (mm := x) (As := [.int (xs (x4 + (1 : Int32)).toNatClampNeg)]) (rest := []) Fx0 (c_X10_shortage l (Wf := fun z0_ => Wf h m f c0 c1 z0_ m3) (hLx h m f c0 c1 m3) (fun a0_ b0_ => hAd h h m m f f c0 c0 c1 c1 a0_ b0_ m3 m3) x (xs (x4 + (1 : Int32)).toNatClampNeg) z8) hP (hD1 _ (hAd _ _ _ _ _ _ _ _ _ _ _ _ _ _)) hS (hA1 _ _ (hAd _ _ _ _ _ _ _ _ _ _ _ _ _ _) hS.1) (hLx h m f c0 c1 m3) (Nat.le_of_ble_eq_true rfl) (xs0 _ _) rfl tw_9_101 tw_9_98 tw_9_99 tw_9_100 tw_1_13 yd_X10_shortage ⟨(Nat.le_of_ble_eq_true rfl), (Nat.le_of_ble_eq_true rfl)⟩ ⟨show _ ≤ 601024 by omega, show _ ≤ 7293034 by omega⟩ rfl hl.1 rfl (Nat.le_of_ble_eq_true rfl) dL_law_2601 (fun H locs hP hS => ?_)
  refine lv_istore (lv' := [(6, .int v6), (5, .int v2), (0, .ref b), (1, .ref (adh 0)), (2, .ref (adx 0)), (3, .ref (adu 0)), (4, .int x4)]) hx hb dL_law_2604 hl (by decide) rfl (fun ls hl => ?_)
  refine lv_aload_n hx hb dL_law_2606 rfl (lv_at hl 4 rfl) ?_
  obtain ⟨v9, z10, hD⟩ := b1_el hD
  refine lrV (Wf := fun z => Wf h m f c0 c1 z m3) (mm := m7) (As := []) (rest := []) Fx0 (c_X10_thrown l (Wf := fun z0_ => Wf h m f c0 c1 z0_ m3) (hLx h m f c0 c1 m3) (fun a0_ b0_ => hAd h h m m f f c0 c0 c1 c1 a0_ b0_ m3 m3) m7 z10) hP (hD1 _ (hAd _ _ _ _ _ _ _ _ _ _ _ _ _ _)) hS (hA1 _ _ (hAd _ _ _ _ _ _ _ _ _ _ _ _ _ _) hS.1) (hLx h m f c0 c1 m3) (Nat.le_of_ble_eq_true rfl) (xs0 _ _) rfl tw_7_30 tw_7_27 tw_7_28 tw_7_29 tw_1_13 yd_X10_thrown ⟨(Nat.le_of_ble_eq_true rfl), (Nat.le_of_ble_eq_true rfl)⟩ ⟨show _ ≤ 601024 by omega, show _ ≤ 7293034 by omega⟩ rfl hl.1 rfl (Nat.le_of_ble_eq_true rfl) dL_law_2607 (fun H locs hP hS => ?_)
  refine lv_iload hx hb dL_law_2610 (lv_at hl 1 rfl) ?_
  refine lv_icmp_eq (tgt := 2617) hx hb dL_law_2612 (by decide) (fun c => ?_) (fun c => ?_)
  · have hD := ifp hD c
    refine lv_iload hx hb dL_law_2617 (lv_at hl 1 rfl) ?_
    refine lv_if_ne (tgt := 2634) hx hb dL_law_2619 (by decide) (fun c => ?_) (fun c => ?_)
    · have hD := ifn hD c
      refine lv_goto (tgt := 2964) hx hb dL_law_2634 (by decide) ?_
      obtain ⟨v11, ev11, hD⟩ := bnd_el hD
      refine lv_iinc (v := v11) (lv' := [(4, .int v11), (6, .int v6), (5, .int v2), (0, .ref b), (1, .ref (adh 0)), (2, .ref (adx 0)), (3, .ref (adu 0))]) hx hb dL_law_2964 hl (k := 6) rfl (by rw [ev11]; rfl) (by decide) rfl (fun ls hl => ?_)
      refine lv_goto (tgt := 23) hx hb dL_law_2967 (by decide) ?_
      exact hk v11 h m f c0 c1 m7 m3 _ _ _ _ _ hD (show _ + n ≤ 601024 by omega) (show _ + 6 * n ≤ 7293034 by omega) hP hS (lv_sub hl [3, 4, 5, 6, 0] rfl)
    · have hD := ifp hD c
      refine lv_aload_n hx hb dL_law_2622 rfl (lv_at hl 5 rfl) ?_
      refine lv_iconst (v := (0 : Int32)) hx hb dL_law_2623 (by decide) ?_
      refine rlald (Wf := fun z => Wf h m f c0 c1 m7 z) (mm := m3) hx hb hK hP (hLu h m f c0 c1 m7) 0 (Nat.le_of_ble_eq_true rfl) (us0 _ _) (by decide) (j := 0) (by decide) dL_law_2624 ?_
      refine lv_iload hx hb dL_law_2625 (lv_at hl 0 rfl) ?_
      refine lv_i2l (v := v6.toInt64) hx hb dL_law_2627 rfl ?_
      refine rlc_eq (tgt := 2634) hx hb dL_law_2628 dL_law_2629 (by decide) (fun c => ?_) (fun c => ?_)
      · have hD := ifp hD c
        refine lv_goto (tgt := 2964) hx hb dL_law_2634 (by decide) ?_
        obtain ⟨v12, ev12, hD⟩ := bnd_el hD
        refine lv_iinc (v := v12) (lv' := [(4, .int v12), (6, .int v6), (5, .int v2), (0, .ref b), (1, .ref (adh 0)), (2, .ref (adx 0)), (3, .ref (adu 0))]) hx hb dL_law_2964 hl (k := 6) rfl (by rw [ev12]; rfl) (by decide) rfl (fun ls hl => ?_)
        refine lv_goto (tgt := 23) hx hb dL_law_2967 (by decide) ?_
        exact hk v12 h m f c0 c1 m7 m3 _ _ _ _ _ hD (show _ + n ≤ 601024 by omega) (show _ + 6 * n ≤ 7293034 by omega) hP hS (lv_sub hl [3, 4, 5, 6, 0] rfl)
      · have hD := ifn hD c
        refine lv_iconst (v := (0 : Int32)) hx hb dL_law_2632 (by decide) ?_
        exact nn_el hD
  · have hD := ifn hD c
    refine lv_iconst (v := (0 : Int32)) hx hb dL_law_2615 (by decide) ?_
    exact nn_el hD
noncomputable def D_L_law_2637 (L : Nat) (xs : Nat → Int32) (k : LKont) (x4 : Int32) (h : MM) (m : MM) (f : MM) (c0 : MM) (c1 : MM) (x : MM) (u : MM) : Option Unit := if (x4 + (1 : Int32)) < 0 ∨ L ≤ (x4 + (1 : Int32)).toNatClampNeg then none else (if (x4 + (2 : Int32)) < 0 ∨ L ≤ (x4 + (2 : Int32)).toNatClampNeg then none else (b2 (D_L_shortageFor (xs (x4 + (1 : Int32)).toNatClampNeg) (xs (x4 + (2 : Int32)).toNatClampNeg) h m u) (fun v3 m4 => if (x4 + (1 : Int32)) < 0 ∨ L ≤ (x4 + (1 : Int32)).toNatClampNeg then none else (if (x4 + (2 : Int32)) < 0 ∨ L ≤ (x4 + (2 : Int32)).toNatClampNeg then none else (b2 (D_X10_shortageFor (xs (x4 + (1 : Int32)).toNatClampNeg) (xs (x4 + (2 : Int32)).toNatClampNeg) x) (fun v8 m9 => b1 (D_X10_thrown m9) (fun v11 => if v11 = v3 then (if v3 = 0 then (if (gl m4 0 0) = v8.toInt64 then (bnd (x4 + (3 : Int32)) (fun v14 => k v14 h m f c0 c1 m9 m4)) else (none)) else (bnd (x4 + (3 : Int32)) (fun v13 => k v13 h m f c0 c1 m9 m4))) else (none))))))))
set_option maxHeartbeats 4000000 in
set_option maxRecDepth 100000 in
theorem c_L_law_2637 (l : Launch) (hst : l.stackTraces = false) {p : Program} {e : Env} {s : State} {m0 : MethodId} {below : List Frame} {meth : Method} {c : Code} {b L : Nat} {xs : Nat → Int32} {D : va_G} {cs : Nat → ClassId} {A : Nat → Prop} {Q : State → Prop} {adh ad adf ad0 ad1 adx adu ma : Nat → Nat} {Wf : MM → MM → MM → MM → MM → MM → MM → va_W} (hLh : ∀ m f c0 c1 x u : MM, Ln 8 adh (hsh cs adh ma) (fun z => Wf z m f c0 c1 x u)) (hL : ∀ h f c0 c1 x u : MM, Ln 51 ad (msh cs ad) (fun z => Wf h z f c0 c1 x u)) (hLf : ∀ h m c0 c1 x u : MM, Ln 51 adf (msh cs adf) (fun z => Wf h m z c0 c1 x u)) (hL0 : ∀ h m f c1 x u : MM, Ln 51 ad0 (msh cs ad0) (fun z => Wf h m f z c1 x u)) (hL1 : ∀ h m f c0 x u : MM, Ln 51 ad1 (msh cs ad1) (fun z => Wf h m f c0 z x u)) (hLx : ∀ h m f c0 c1 u : MM, Ln 9 adx (xsh cs adx) (fun z => Wf h m f c0 c1 z u)) (hLu : ∀ h m f c0 c1 x : MM, Ln 1 adu (ush cs) (fun z => Wf h m f c0 c1 x z)) (hAd : ∀ a0_ b0_ a1_ b1_ a2_ b2_ a3_ b3_ a4_ b4_ a5_ b5_ a6_ b6_ : MM, (Wf a0_ a1_ a2_ a3_ a4_ a5_ a6_).map (fun q => q.1) = (Wf b0_ b1_ b2_ b3_ b4_ b5_ b6_).map (fun q => q.1)) (hm1 : ma 1 = ad 24) (hm2 : ma 2 = adf 24) (hm3 : ma 3 = ad0 24) (hm4 : ma 4 = ad1 24) (hLX : LX p s m0 c b L xs D cs A (Wf zMM zMM zMM zMM zMM zMM zMM)) (n : Nat) (k : LKont) (hk : LK p l e s m0 below meth c b D A Q adh adx adu Wf n k) (x4 : Int32) (h : MM) (m : MM) (f : MM) (c0 : MM) (c1 : MM) (x : MM) (u : MM) (cells slots : Nat) (H : Heap) (locs : List Loc) (ls : Array Slot) (hD : D_L_law_2637 L xs k x4 h m f c0 c1 x u = some ()) (hcl : cells + (n + 1) ≤ 601024) (hsl : slots + 6 * (n + 1) ≤ 7293034) (hP : va_P D vwCl (Wf h m f c0 c1 x u) H) (hS : va_S A s.heap H locs) (hl : lv_has ls 8 [(0, .ref b), (1, .ref (adh 0)), (2, .ref (adx 0)), (3, .ref (adu 0)), (4, .int x4)]) : W p l e room_1 s m0 #[Value.ref b] below meth c H locs cells slots Q (F0 m0 2637 ls []) := by
  obtain ⟨hx, hb, hml, hown, hK, hT⟩ := hLX.rest
  obtain ⟨Fx0, hX, hbl, hbA, hD1, hA1⟩ := hLX
  unfold D_L_law_2637 at hD
  refine lv_aload_n hx hb dL_law_2637 rfl (lv_at hl 1 rfl) ?_
  refine lv_aload_n hx hb dL_law_2638 rfl (lv_at hl 0 rfl) ?_
  refine lv_iload hx hb dL_law_2639 (lv_at hl 4 rfl) ?_
  refine lv_iconst (v := (1 : Int32)) hx hb dL_law_2641 (by decide) ?_
  refine lv_iadd hx hb dL_law_2642 ?_
  obtain ⟨h1, hD⟩ := gd_el hD
  refine va_sld hx hb hX hbl hbA hS h1 dL_law_2643 ?_
  refine lv_aload_n hx hb dL_law_2644 rfl (lv_at hl 0 rfl) ?_
  refine lv_iload hx hb dL_law_2645 (lv_at hl 4 rfl) ?_
  refine lv_iconst (v := (2 : Int32)) hx hb dL_law_2647 (by decide) ?_
  refine lv_iadd hx hb dL_law_2648 ?_
  obtain ⟨h2, hD⟩ := gd_el hD
  refine va_sld hx hb hX hbl hbA hS h2 dL_law_2649 ?_
  refine lv_aload_n hx hb dL_law_2650 rfl (lv_at hl 3 rfl) ?_
  obtain ⟨v3, m4, z5, hD⟩ := b2_el hD
  refine lrL (As := [.ref (adh 0), .int (xs (x4 + (1 : Int32)).toNatClampNeg), .int (xs (x4 + (2 : Int32)).toNatClampNeg), .ref (adu 0)]) (rest := []) Fx0 (c_L_shortageFor l hst (Wf := fun z0_ z1_ z2_ => Wf z0_ z1_ f c0 c1 x z2_) (fun z1_ z2_ => hLh z1_ f c0 c1 x z2_) (fun z0_ z2_ => hL z0_ f c0 c1 x z2_) (fun z0_ z1_ => hLu z0_ z1_ f c0 c1 x) (fun a0_ b0_ a1_ b1_ a2_ b2_ => hAd a0_ b0_ a1_ b1_ f f c0 c0 c1 c1 x x a2_ b2_) hm1 h m u (xs (x4 + (1 : Int32)).toNatClampNeg) (xs (x4 + (2 : Int32)).toNatClampNeg) z5) hP (hD1 _ (hAd _ _ _ _ _ _ _ _ _ _ _ _ _ _)) hS (hA1 _ _ (hAd _ _ _ _ _ _ _ _ _ _ _ _ _ _) hS.1) tw_6_176 tw_6_174 tw_6_175 tw_1_0 yd_L_shortageFor ⟨(Nat.le_of_ble_eq_true rfl), (Nat.le_of_ble_eq_true rfl)⟩ ⟨show _ + 1 ≤ 601024 by omega, show _ + 6 ≤ 7293034 by omega⟩ rfl hl.1 rfl (Nat.le_of_ble_eq_true rfl) dL_law_2651 (fun H locs hP hS => ?_)
  refine lv_istore (lv' := [(5, .int v3), (0, .ref b), (1, .ref (adh 0)), (2, .ref (adx 0)), (3, .ref (adu 0)), (4, .int x4)]) hx hb dL_law_2654 hl (by decide) rfl (fun ls hl => ?_)
  refine lv_aload_n hx hb dL_law_2656 rfl (lv_at hl 3 rfl) ?_
  refine lv_aload_n hx hb dL_law_2657 rfl (lv_at hl 1 rfl) ?_
  refine lv_iload hx hb dL_law_2658 (lv_at hl 5 rfl) ?_
  refine lv_iconst (v := (1 : Int32)) hx hb dL_law_2660 (by decide) ?_
  refine lv_iadd hx hb dL_law_2661 ?_
  obtain ⟨h6, hD⟩ := gd_el hD
  refine va_sld hx hb hX hbl hbA hS h6 dL_law_2662 ?_
  refine lv_aload_n hx hb dL_law_2663 rfl (lv_at hl 1 rfl) ?_
  refine lv_iload hx hb dL_law_2664 (lv_at hl 5 rfl) ?_
  refine lv_iconst (v := (2 : Int32)) hx hb dL_law_2666 (by decide) ?_
  refine lv_iadd hx hb dL_law_2667 ?_
  obtain ⟨h7, hD⟩ := gd_el hD
  refine va_sld hx hb hX hbl hbA hS h7 dL_law_2668 ?_
  obtain ⟨v8, m9, z10, hD⟩ := b2_el hD
  refine lrV (Wf := fun z => Wf h m f c0 c1 z m4) (mm := x) (As := [.int (xs (x4 + (1 : Int32)).toNatClampNeg), .int (xs (x4 + (2 : Int32)).toNatClampNeg)]) (rest := []) Fx0 (c_X10_shortageFor l (Wf := fun z0_ => Wf h m f c0 c1 z0_ m4) (hLx h m f c0 c1 m4) (fun a0_ b0_ => hAd h h m m f f c0 c0 c1 c1 a0_ b0_ m4 m4) x (xs (x4 + (1 : Int32)).toNatClampNeg) (xs (x4 + (2 : Int32)).toNatClampNeg) z10) hP (hD1 _ (hAd _ _ _ _ _ _ _ _ _ _ _ _ _ _)) hS (hA1 _ _ (hAd _ _ _ _ _ _ _ _ _ _ _ _ _ _) hS.1) (hLx h m f c0 c1 m4) (Nat.le_of_ble_eq_true rfl) (xs0 _ _) rfl tw_9_112 tw_9_109 tw_9_110 tw_9_111 tw_1_13 yd_X10_shortageFor ⟨(Nat.le_of_ble_eq_true rfl), (Nat.le_of_ble_eq_true rfl)⟩ ⟨show _ ≤ 601024 by omega, show _ ≤ 7293034 by omega⟩ rfl hl.1 rfl (Nat.le_of_ble_eq_true rfl) dL_law_2669 (fun H locs hP hS => ?_)
  refine lv_istore (lv' := [(6, .int v8), (5, .int v3), (0, .ref b), (1, .ref (adh 0)), (2, .ref (adx 0)), (3, .ref (adu 0)), (4, .int x4)]) hx hb dL_law_2672 hl (by decide) rfl (fun ls hl => ?_)
  refine lv_aload_n hx hb dL_law_2674 rfl (lv_at hl 4 rfl) ?_
  obtain ⟨v11, z12, hD⟩ := b1_el hD
  refine lrV (Wf := fun z => Wf h m f c0 c1 z m4) (mm := m9) (As := []) (rest := []) Fx0 (c_X10_thrown l (Wf := fun z0_ => Wf h m f c0 c1 z0_ m4) (hLx h m f c0 c1 m4) (fun a0_ b0_ => hAd h h m m f f c0 c0 c1 c1 a0_ b0_ m4 m4) m9 z12) hP (hD1 _ (hAd _ _ _ _ _ _ _ _ _ _ _ _ _ _)) hS (hA1 _ _ (hAd _ _ _ _ _ _ _ _ _ _ _ _ _ _) hS.1) (hLx h m f c0 c1 m4) (Nat.le_of_ble_eq_true rfl) (xs0 _ _) rfl tw_7_30 tw_7_27 tw_7_28 tw_7_29 tw_1_13 yd_X10_thrown ⟨(Nat.le_of_ble_eq_true rfl), (Nat.le_of_ble_eq_true rfl)⟩ ⟨show _ ≤ 601024 by omega, show _ ≤ 7293034 by omega⟩ rfl hl.1 rfl (Nat.le_of_ble_eq_true rfl) dL_law_2675 (fun H locs hP hS => ?_)
  refine lv_iload hx hb dL_law_2678 (lv_at hl 1 rfl) ?_
  refine lv_icmp_eq (tgt := 2685) hx hb dL_law_2680 (by decide) (fun c => ?_) (fun c => ?_)
  · have hD := ifp hD c
    refine lv_iload hx hb dL_law_2685 (lv_at hl 1 rfl) ?_
    refine lv_if_ne (tgt := 2702) hx hb dL_law_2687 (by decide) (fun c => ?_) (fun c => ?_)
    · have hD := ifn hD c
      refine lv_goto (tgt := 2964) hx hb dL_law_2702 (by decide) ?_
      obtain ⟨v13, ev13, hD⟩ := bnd_el hD
      refine lv_iinc (v := v13) (lv' := [(4, .int v13), (6, .int v8), (5, .int v3), (0, .ref b), (1, .ref (adh 0)), (2, .ref (adx 0)), (3, .ref (adu 0))]) hx hb dL_law_2964 hl (k := 6) rfl (by rw [ev13]; rfl) (by decide) rfl (fun ls hl => ?_)
      refine lv_goto (tgt := 23) hx hb dL_law_2967 (by decide) ?_
      exact hk v13 h m f c0 c1 m9 m4 _ _ _ _ _ hD (show _ + n ≤ 601024 by omega) (show _ + 6 * n ≤ 7293034 by omega) hP hS (lv_sub hl [3, 4, 5, 6, 0] rfl)
    · have hD := ifp hD c
      refine lv_aload_n hx hb dL_law_2690 rfl (lv_at hl 5 rfl) ?_
      refine lv_iconst (v := (0 : Int32)) hx hb dL_law_2691 (by decide) ?_
      refine rlald (Wf := fun z => Wf h m f c0 c1 m9 z) (mm := m4) hx hb hK hP (hLu h m f c0 c1 m9) 0 (Nat.le_of_ble_eq_true rfl) (us0 _ _) (by decide) (j := 0) (by decide) dL_law_2692 ?_
      refine lv_iload hx hb dL_law_2693 (lv_at hl 0 rfl) ?_
      refine lv_i2l (v := v8.toInt64) hx hb dL_law_2695 rfl ?_
      refine rlc_eq (tgt := 2702) hx hb dL_law_2696 dL_law_2697 (by decide) (fun c => ?_) (fun c => ?_)
      · have hD := ifp hD c
        refine lv_goto (tgt := 2964) hx hb dL_law_2702 (by decide) ?_
        obtain ⟨v14, ev14, hD⟩ := bnd_el hD
        refine lv_iinc (v := v14) (lv' := [(4, .int v14), (6, .int v8), (5, .int v3), (0, .ref b), (1, .ref (adh 0)), (2, .ref (adx 0)), (3, .ref (adu 0))]) hx hb dL_law_2964 hl (k := 6) rfl (by rw [ev14]; rfl) (by decide) rfl (fun ls hl => ?_)
        refine lv_goto (tgt := 23) hx hb dL_law_2967 (by decide) ?_
        exact hk v14 h m f c0 c1 m9 m4 _ _ _ _ _ hD (show _ + n ≤ 601024 by omega) (show _ + 6 * n ≤ 7293034 by omega) hP hS (lv_sub hl [3, 4, 5, 6, 0] rfl)
      · have hD := ifn hD c
        refine lv_iconst (v := (0 : Int32)) hx hb dL_law_2700 (by decide) ?_
        exact nn_el hD
  · have hD := ifn hD c
    refine lv_iconst (v := (0 : Int32)) hx hb dL_law_2683 (by decide) ?_
    exact nn_el hD
noncomputable def D_L_law_2705 (L : Nat) (xs : Nat → Int32) (k : LKont) (x4 : Int32) (h : MM) (m : MM) (f : MM) (c0 : MM) (c1 : MM) (x : MM) (u : MM) : Option Unit := b1 (D_X9_boardsPossible h m) (fun v1 => b2 (D_X10_boardsPossible x) (fun v3 m4 => if v1 = v3 then (bnd (x4 + (3 : Int32)) (fun v6 => k v6 h m f c0 c1 m4 u)) else (none)))
set_option maxHeartbeats 4000000 in
set_option maxRecDepth 100000 in
theorem c_L_law_2705 (l : Launch) (hst : l.stackTraces = false) {p : Program} {e : Env} {s : State} {m0 : MethodId} {below : List Frame} {meth : Method} {c : Code} {b L : Nat} {xs : Nat → Int32} {D : va_G} {cs : Nat → ClassId} {A : Nat → Prop} {Q : State → Prop} {adh ad adf ad0 ad1 adx adu ma : Nat → Nat} {Wf : MM → MM → MM → MM → MM → MM → MM → va_W} (hLh : ∀ m f c0 c1 x u : MM, Ln 8 adh (hsh cs adh ma) (fun z => Wf z m f c0 c1 x u)) (hL : ∀ h f c0 c1 x u : MM, Ln 51 ad (msh cs ad) (fun z => Wf h z f c0 c1 x u)) (hLf : ∀ h m c0 c1 x u : MM, Ln 51 adf (msh cs adf) (fun z => Wf h m z c0 c1 x u)) (hL0 : ∀ h m f c1 x u : MM, Ln 51 ad0 (msh cs ad0) (fun z => Wf h m f z c1 x u)) (hL1 : ∀ h m f c0 x u : MM, Ln 51 ad1 (msh cs ad1) (fun z => Wf h m f c0 z x u)) (hLx : ∀ h m f c0 c1 u : MM, Ln 9 adx (xsh cs adx) (fun z => Wf h m f c0 c1 z u)) (hLu : ∀ h m f c0 c1 x : MM, Ln 1 adu (ush cs) (fun z => Wf h m f c0 c1 x z)) (hAd : ∀ a0_ b0_ a1_ b1_ a2_ b2_ a3_ b3_ a4_ b4_ a5_ b5_ a6_ b6_ : MM, (Wf a0_ a1_ a2_ a3_ a4_ a5_ a6_).map (fun q => q.1) = (Wf b0_ b1_ b2_ b3_ b4_ b5_ b6_).map (fun q => q.1)) (hm1 : ma 1 = ad 24) (hm2 : ma 2 = adf 24) (hm3 : ma 3 = ad0 24) (hm4 : ma 4 = ad1 24) (hLX : LX p s m0 c b L xs D cs A (Wf zMM zMM zMM zMM zMM zMM zMM)) (n : Nat) (k : LKont) (hk : LK p l e s m0 below meth c b D A Q adh adx adu Wf n k) (x4 : Int32) (h : MM) (m : MM) (f : MM) (c0 : MM) (c1 : MM) (x : MM) (u : MM) (cells slots : Nat) (H : Heap) (locs : List Loc) (ls : Array Slot) (hD : D_L_law_2705 L xs k x4 h m f c0 c1 x u = some ()) (hcl : cells + (n + 1) ≤ 601024) (hsl : slots + 6 * (n + 1) ≤ 7293034) (hP : va_P D vwCl (Wf h m f c0 c1 x u) H) (hS : va_S A s.heap H locs) (hl : lv_has ls 8 [(0, .ref b), (1, .ref (adh 0)), (2, .ref (adx 0)), (3, .ref (adu 0)), (4, .int x4)]) : W p l e room_1 s m0 #[Value.ref b] below meth c H locs cells slots Q (F0 m0 2705 ls []) := by
  obtain ⟨hx, hb, hml, hown, hK, hT⟩ := hLX.rest
  obtain ⟨Fx0, hX, hbl, hbA, hD1, hA1⟩ := hLX
  unfold D_L_law_2705 at hD
  refine lv_aload_n hx hb dL_law_2705 rfl (lv_at hl 1 rfl) ?_
  obtain ⟨v1, z2, hD⟩ := b1_el hD
  refine lrV (Wf := fun z => Wf z m f c0 c1 x u) (mm := h) (As := []) (rest := []) Fx0 (c_X9_boardsPossible l (Wf := fun z0_ z1_ => Wf z0_ z1_ f c0 c1 x u) (fun z1_ => hLh z1_ f c0 c1 x u) (fun z0_ => hL z0_ f c0 c1 x u) (fun a0_ b0_ a1_ b1_ => hAd a0_ b0_ a1_ b1_ f f c0 c0 c1 c1 x x u u) hm1 h m z2) hP (hD1 _ (hAd _ _ _ _ _ _ _ _ _ _ _ _ _ _)) hS (hA1 _ _ (hAd _ _ _ _ _ _ _ _ _ _ _ _ _ _) hS.1) (hLh m f c0 c1 x u) (Nat.le_of_ble_eq_true rfl) (hs0 _ _) rfl tw_4_232 tw_4_229 tw_4_230 tw_4_231 tw_1_1 yd_X9_boardsPossible ⟨(Nat.le_of_ble_eq_true rfl), (Nat.le_of_ble_eq_true rfl)⟩ ⟨show _ ≤ 601024 by omega, show _ ≤ 7293034 by omega⟩ rfl hl.1 rfl (Nat.le_of_ble_eq_true rfl) dL_law_2706 (fun H locs hP hS => ?_)
  refine lv_aload_n hx hb dL_law_2709 rfl (lv_at hl 2 rfl) ?_
  obtain ⟨v3, m4, z5, hD⟩ := b2_el hD
  refine lrV (Wf := fun z => Wf h m f c0 c1 z u) (mm := x) (As := []) (rest := [.int v1]) Fx0 (c_X10_boardsPossible l (Wf := fun z0_ => Wf h m f c0 c1 z0_ u) (hLx h m f c0 c1 u) (fun a0_ b0_ => hAd h h m m f f c0 c0 c1 c1 a0_ b0_ u u) x z5) hP (hD1 _ (hAd _ _ _ _ _ _ _ _ _ _ _ _ _ _)) hS (hA1 _ _ (hAd _ _ _ _ _ _ _ _ _ _ _ _ _ _) hS.1) (hLx h m f c0 c1 u) (Nat.le_of_ble_eq_true rfl) (xs0 _ _) rfl tw_9_116 tw_9_113 tw_9_114 tw_9_115 tw_1_13 yd_X10_boardsPossible ⟨(Nat.le_of_ble_eq_true rfl), (Nat.le_of_ble_eq_true rfl)⟩ ⟨show _ ≤ 601024 by omega, show _ ≤ 7293034 by omega⟩ rfl hl.1 rfl (Nat.le_of_ble_eq_true rfl) dL_law_2710 (fun H locs hP hS => ?_)
  refine lv_icmp_eq (tgt := 2964) hx hb dL_law_2713 (by decide) (fun c => ?_) (fun c => ?_)
  · have hD := ifp hD c
    obtain ⟨v6, ev6, hD⟩ := bnd_el hD
    refine lv_iinc (v := v6) (lv' := [(4, .int v6), (0, .ref b), (1, .ref (adh 0)), (2, .ref (adx 0)), (3, .ref (adu 0))]) hx hb dL_law_2964 hl (k := 4) rfl (by rw [ev6]; rfl) (by decide) rfl (fun ls hl => ?_)
    refine lv_goto (tgt := 23) hx hb dL_law_2967 (by decide) ?_
    exact hk v6 h m f c0 c1 m4 u _ _ _ _ _ hD (show _ + n ≤ 601024 by omega) (show _ + 6 * n ≤ 7293034 by omega) hP hS (lv_sub hl [1, 2, 3, 4, 0] rfl)
  · have hD := ifn hD c
    refine lv_iconst (v := (0 : Int32)) hx hb dL_law_2716 (by decide) ?_
    exact nn_el hD
noncomputable def D_L_law_2718 (L : Nat) (xs : Nat → Int32) (k : LKont) (x4 : Int32) (h : MM) (m : MM) (f : MM) (c0 : MM) (c1 : MM) (x : MM) (u : MM) : Option Unit := if (x4 + (1 : Int32)) < 0 ∨ L ≤ (x4 + (1 : Int32)).toNatClampNeg then none else (b4 (D_L_runsOut (xs (x4 + (1 : Int32)).toNatClampNeg) h m f u) (fun v2 m3 m4 m5 => if (x4 + (1 : Int32)) < 0 ∨ L ≤ (x4 + (1 : Int32)).toNatClampNeg then none else (b2 (D_X10_runsOut (xs (x4 + (1 : Int32)).toNatClampNeg) x) (fun v8 m9 => b1 (D_X10_thrown m9) (fun v11 => if v11 = v2 then (if v2 = 0 then (if (gl m5 0 0) = v8.toInt64 then (bnd (x4 + (3 : Int32)) (fun v14 => k v14 m3 m m4 c0 c1 m9 m5)) else (none)) else (bnd (x4 + (3 : Int32)) (fun v13 => k v13 m3 m m4 c0 c1 m9 m5))) else (none))))))
set_option maxHeartbeats 4000000 in
set_option maxRecDepth 100000 in
theorem c_L_law_2718 (l : Launch) (hst : l.stackTraces = false) {p : Program} {e : Env} {s : State} {m0 : MethodId} {below : List Frame} {meth : Method} {c : Code} {b L : Nat} {xs : Nat → Int32} {D : va_G} {cs : Nat → ClassId} {A : Nat → Prop} {Q : State → Prop} {adh ad adf ad0 ad1 adx adu ma : Nat → Nat} {Wf : MM → MM → MM → MM → MM → MM → MM → va_W} (hLh : ∀ m f c0 c1 x u : MM, Ln 8 adh (hsh cs adh ma) (fun z => Wf z m f c0 c1 x u)) (hL : ∀ h f c0 c1 x u : MM, Ln 51 ad (msh cs ad) (fun z => Wf h z f c0 c1 x u)) (hLf : ∀ h m c0 c1 x u : MM, Ln 51 adf (msh cs adf) (fun z => Wf h m z c0 c1 x u)) (hL0 : ∀ h m f c1 x u : MM, Ln 51 ad0 (msh cs ad0) (fun z => Wf h m f z c1 x u)) (hL1 : ∀ h m f c0 x u : MM, Ln 51 ad1 (msh cs ad1) (fun z => Wf h m f c0 z x u)) (hLx : ∀ h m f c0 c1 u : MM, Ln 9 adx (xsh cs adx) (fun z => Wf h m f c0 c1 z u)) (hLu : ∀ h m f c0 c1 x : MM, Ln 1 adu (ush cs) (fun z => Wf h m f c0 c1 x z)) (hAd : ∀ a0_ b0_ a1_ b1_ a2_ b2_ a3_ b3_ a4_ b4_ a5_ b5_ a6_ b6_ : MM, (Wf a0_ a1_ a2_ a3_ a4_ a5_ a6_).map (fun q => q.1) = (Wf b0_ b1_ b2_ b3_ b4_ b5_ b6_).map (fun q => q.1)) (hm1 : ma 1 = ad 24) (hm2 : ma 2 = adf 24) (hm3 : ma 3 = ad0 24) (hm4 : ma 4 = ad1 24) (hLX : LX p s m0 c b L xs D cs A (Wf zMM zMM zMM zMM zMM zMM zMM)) (n : Nat) (k : LKont) (hk : LK p l e s m0 below meth c b D A Q adh adx adu Wf n k) (x4 : Int32) (h : MM) (m : MM) (f : MM) (c0 : MM) (c1 : MM) (x : MM) (u : MM) (cells slots : Nat) (H : Heap) (locs : List Loc) (ls : Array Slot) (hD : D_L_law_2718 L xs k x4 h m f c0 c1 x u = some ()) (hcl : cells + (n + 1) ≤ 601024) (hsl : slots + 6 * (n + 1) ≤ 7293034) (hP : va_P D vwCl (Wf h m f c0 c1 x u) H) (hS : va_S A s.heap H locs) (hl : lv_has ls 8 [(0, .ref b), (1, .ref (adh 0)), (2, .ref (adx 0)), (3, .ref (adu 0)), (4, .int x4)]) : W p l e room_1 s m0 #[Value.ref b] below meth c H locs cells slots Q (F0 m0 2718 ls []) := by
  obtain ⟨hx, hb, hml, hown, hK, hT⟩ := hLX.rest
  obtain ⟨Fx0, hX, hbl, hbA, hD1, hA1⟩ := hLX
  unfold D_L_law_2718 at hD
  refine lv_aload_n hx hb dL_law_2718 rfl (lv_at hl 1 rfl) ?_
  refine lv_aload_n hx hb dL_law_2719 rfl (lv_at hl 0 rfl) ?_
  refine lv_iload hx hb dL_law_2720 (lv_at hl 4 rfl) ?_
  refine lv_iconst (v := (1 : Int32)) hx hb dL_law_2722 (by decide) ?_
  refine lv_iadd hx hb dL_law_2723 ?_
  obtain ⟨h1, hD⟩ := gd_el hD
  refine va_sld hx hb hX hbl hbA hS h1 dL_law_2724 ?_
  refine lv_aload_n hx hb dL_law_2725 rfl (lv_at hl 3 rfl) ?_
  obtain ⟨v2, m3, m4, m5, z6, hD⟩ := b4_el hD
  refine lrL (As := [.ref (adh 0), .int (xs (x4 + (1 : Int32)).toNatClampNeg), .ref (adu 0)]) (rest := []) Fx0 (c_L_runsOut l hst (Wf := fun z0_ z1_ z2_ z3_ => Wf z0_ z1_ z2_ c0 c1 x z3_) (fun z1_ z2_ z3_ => hLh z1_ z2_ c0 c1 x z3_) (fun z0_ z2_ z3_ => hL z0_ z2_ c0 c1 x z3_) (fun z0_ z1_ z3_ => hLf z0_ z1_ c0 c1 x z3_) (fun z0_ z1_ z2_ => hLu z0_ z1_ z2_ c0 c1 x) (fun a0_ b0_ a1_ b1_ a2_ b2_ a3_ b3_ => hAd a0_ b0_ a1_ b1_ a2_ b2_ c0 c0 c1 c1 x x a3_ b3_) hm1 hm2 h m f u (xs (x4 + (1 : Int32)).toNatClampNeg) z6) hP (hD1 _ (hAd _ _ _ _ _ _ _ _ _ _ _ _ _ _)) hS (hA1 _ _ (hAd _ _ _ _ _ _ _ _ _ _ _ _ _ _) hS.1) tw_6_183 tw_6_181 tw_6_182 tw_1_0 yd_L_runsOut ⟨(Nat.le_of_ble_eq_true rfl), (Nat.le_of_ble_eq_true rfl)⟩ ⟨show _ + 1 ≤ 601024 by omega, show _ + 6 ≤ 7293034 by omega⟩ rfl hl.1 rfl (Nat.le_of_ble_eq_true rfl) dL_law_2726 (fun H locs hP hS => ?_)
  refine lv_istore (lv' := [(5, .int v2), (0, .ref b), (1, .ref (adh 0)), (2, .ref (adx 0)), (3, .ref (adu 0)), (4, .int x4)]) hx hb dL_law_2729 hl (by decide) rfl (fun ls hl => ?_)
  refine lv_aload_n hx hb dL_law_2731 rfl (lv_at hl 3 rfl) ?_
  refine lv_aload_n hx hb dL_law_2732 rfl (lv_at hl 1 rfl) ?_
  refine lv_iload hx hb dL_law_2733 (lv_at hl 5 rfl) ?_
  refine lv_iconst (v := (1 : Int32)) hx hb dL_law_2735 (by decide) ?_
  refine lv_iadd hx hb dL_law_2736 ?_
  obtain ⟨h7, hD⟩ := gd_el hD
  refine va_sld hx hb hX hbl hbA hS h7 dL_law_2737 ?_
  obtain ⟨v8, m9, z10, hD⟩ := b2_el hD
  refine lrV (Wf := fun z => Wf m3 m m4 c0 c1 z m5) (mm := x) (As := [.int (xs (x4 + (1 : Int32)).toNatClampNeg)]) (rest := []) Fx0 (c_X10_runsOut l (Wf := fun z0_ => Wf m3 m m4 c0 c1 z0_ m5) (hLx m3 m m4 c0 c1 m5) (fun a0_ b0_ => hAd m3 m3 m m m4 m4 c0 c0 c1 c1 a0_ b0_ m5 m5) x (xs (x4 + (1 : Int32)).toNatClampNeg) z10) hP (hD1 _ (hAd _ _ _ _ _ _ _ _ _ _ _ _ _ _)) hS (hA1 _ _ (hAd _ _ _ _ _ _ _ _ _ _ _ _ _ _) hS.1) (hLx m3 m m4 c0 c1 m5) (Nat.le_of_ble_eq_true rfl) (xs0 _ _) rfl tw_9_124 tw_9_121 tw_9_122 tw_9_123 tw_1_13 yd_X10_runsOut ⟨(Nat.le_of_ble_eq_true rfl), (Nat.le_of_ble_eq_true rfl)⟩ ⟨show _ ≤ 601024 by omega, show _ ≤ 7293034 by omega⟩ rfl hl.1 rfl (Nat.le_of_ble_eq_true rfl) dL_law_2738 (fun H locs hP hS => ?_)
  refine lv_istore (lv' := [(6, .int v8), (5, .int v2), (0, .ref b), (1, .ref (adh 0)), (2, .ref (adx 0)), (3, .ref (adu 0)), (4, .int x4)]) hx hb dL_law_2741 hl (by decide) rfl (fun ls hl => ?_)
  refine lv_aload_n hx hb dL_law_2743 rfl (lv_at hl 4 rfl) ?_
  obtain ⟨v11, z12, hD⟩ := b1_el hD
  refine lrV (Wf := fun z => Wf m3 m m4 c0 c1 z m5) (mm := m9) (As := []) (rest := []) Fx0 (c_X10_thrown l (Wf := fun z0_ => Wf m3 m m4 c0 c1 z0_ m5) (hLx m3 m m4 c0 c1 m5) (fun a0_ b0_ => hAd m3 m3 m m m4 m4 c0 c0 c1 c1 a0_ b0_ m5 m5) m9 z12) hP (hD1 _ (hAd _ _ _ _ _ _ _ _ _ _ _ _ _ _)) hS (hA1 _ _ (hAd _ _ _ _ _ _ _ _ _ _ _ _ _ _) hS.1) (hLx m3 m m4 c0 c1 m5) (Nat.le_of_ble_eq_true rfl) (xs0 _ _) rfl tw_7_30 tw_7_27 tw_7_28 tw_7_29 tw_1_13 yd_X10_thrown ⟨(Nat.le_of_ble_eq_true rfl), (Nat.le_of_ble_eq_true rfl)⟩ ⟨show _ ≤ 601024 by omega, show _ ≤ 7293034 by omega⟩ rfl hl.1 rfl (Nat.le_of_ble_eq_true rfl) dL_law_2744 (fun H locs hP hS => ?_)
  refine lv_iload hx hb dL_law_2747 (lv_at hl 1 rfl) ?_
  refine lv_icmp_eq (tgt := 2754) hx hb dL_law_2749 (by decide) (fun c => ?_) (fun c => ?_)
  · have hD := ifp hD c
    refine lv_iload hx hb dL_law_2754 (lv_at hl 1 rfl) ?_
    refine lv_if_ne (tgt := 2771) hx hb dL_law_2756 (by decide) (fun c => ?_) (fun c => ?_)
    · have hD := ifn hD c
      refine lv_goto (tgt := 2964) hx hb dL_law_2771 (by decide) ?_
      obtain ⟨v13, ev13, hD⟩ := bnd_el hD
      refine lv_iinc (v := v13) (lv' := [(4, .int v13), (6, .int v8), (5, .int v2), (0, .ref b), (1, .ref (adh 0)), (2, .ref (adx 0)), (3, .ref (adu 0))]) hx hb dL_law_2964 hl (k := 6) rfl (by rw [ev13]; rfl) (by decide) rfl (fun ls hl => ?_)
      refine lv_goto (tgt := 23) hx hb dL_law_2967 (by decide) ?_
      exact hk v13 m3 m m4 c0 c1 m9 m5 _ _ _ _ _ hD (show _ + n ≤ 601024 by omega) (show _ + 6 * n ≤ 7293034 by omega) hP hS (lv_sub hl [3, 4, 5, 6, 0] rfl)
    · have hD := ifp hD c
      refine lv_aload_n hx hb dL_law_2759 rfl (lv_at hl 5 rfl) ?_
      refine lv_iconst (v := (0 : Int32)) hx hb dL_law_2760 (by decide) ?_
      refine rlald (Wf := fun z => Wf m3 m m4 c0 c1 m9 z) (mm := m5) hx hb hK hP (hLu m3 m m4 c0 c1 m9) 0 (Nat.le_of_ble_eq_true rfl) (us0 _ _) (by decide) (j := 0) (by decide) dL_law_2761 ?_
      refine lv_iload hx hb dL_law_2762 (lv_at hl 0 rfl) ?_
      refine lv_i2l (v := v8.toInt64) hx hb dL_law_2764 rfl ?_
      refine rlc_eq (tgt := 2771) hx hb dL_law_2765 dL_law_2766 (by decide) (fun c => ?_) (fun c => ?_)
      · have hD := ifp hD c
        refine lv_goto (tgt := 2964) hx hb dL_law_2771 (by decide) ?_
        obtain ⟨v14, ev14, hD⟩ := bnd_el hD
        refine lv_iinc (v := v14) (lv' := [(4, .int v14), (6, .int v8), (5, .int v2), (0, .ref b), (1, .ref (adh 0)), (2, .ref (adx 0)), (3, .ref (adu 0))]) hx hb dL_law_2964 hl (k := 6) rfl (by rw [ev14]; rfl) (by decide) rfl (fun ls hl => ?_)
        refine lv_goto (tgt := 23) hx hb dL_law_2967 (by decide) ?_
        exact hk v14 m3 m m4 c0 c1 m9 m5 _ _ _ _ _ hD (show _ + n ≤ 601024 by omega) (show _ + 6 * n ≤ 7293034 by omega) hP hS (lv_sub hl [3, 4, 5, 6, 0] rfl)
      · have hD := ifn hD c
        refine lv_iconst (v := (0 : Int32)) hx hb dL_law_2769 (by decide) ?_
        exact nn_el hD
  · have hD := ifn hD c
    refine lv_iconst (v := (0 : Int32)) hx hb dL_law_2752 (by decide) ?_
    exact nn_el hD
noncomputable def D_L_law_2774 (L : Nat) (xs : Nat → Int32) (k : LKont) (x4 : Int32) (h : MM) (m : MM) (f : MM) (c0 : MM) (c1 : MM) (x : MM) (u : MM) : Option Unit := b3 (D_X9_splicesAhead h m f) (fun v1 m2 m3 => b2 (D_X10_splicesAhead x) (fun v5 m6 => if v1 = v5 then (bnd (x4 + (3 : Int32)) (fun v8 => k v8 m2 m m3 c0 c1 m6 u)) else (none)))
set_option maxHeartbeats 4000000 in
set_option maxRecDepth 100000 in
theorem c_L_law_2774 (l : Launch) (hst : l.stackTraces = false) {p : Program} {e : Env} {s : State} {m0 : MethodId} {below : List Frame} {meth : Method} {c : Code} {b L : Nat} {xs : Nat → Int32} {D : va_G} {cs : Nat → ClassId} {A : Nat → Prop} {Q : State → Prop} {adh ad adf ad0 ad1 adx adu ma : Nat → Nat} {Wf : MM → MM → MM → MM → MM → MM → MM → va_W} (hLh : ∀ m f c0 c1 x u : MM, Ln 8 adh (hsh cs adh ma) (fun z => Wf z m f c0 c1 x u)) (hL : ∀ h f c0 c1 x u : MM, Ln 51 ad (msh cs ad) (fun z => Wf h z f c0 c1 x u)) (hLf : ∀ h m c0 c1 x u : MM, Ln 51 adf (msh cs adf) (fun z => Wf h m z c0 c1 x u)) (hL0 : ∀ h m f c1 x u : MM, Ln 51 ad0 (msh cs ad0) (fun z => Wf h m f z c1 x u)) (hL1 : ∀ h m f c0 x u : MM, Ln 51 ad1 (msh cs ad1) (fun z => Wf h m f c0 z x u)) (hLx : ∀ h m f c0 c1 u : MM, Ln 9 adx (xsh cs adx) (fun z => Wf h m f c0 c1 z u)) (hLu : ∀ h m f c0 c1 x : MM, Ln 1 adu (ush cs) (fun z => Wf h m f c0 c1 x z)) (hAd : ∀ a0_ b0_ a1_ b1_ a2_ b2_ a3_ b3_ a4_ b4_ a5_ b5_ a6_ b6_ : MM, (Wf a0_ a1_ a2_ a3_ a4_ a5_ a6_).map (fun q => q.1) = (Wf b0_ b1_ b2_ b3_ b4_ b5_ b6_).map (fun q => q.1)) (hm1 : ma 1 = ad 24) (hm2 : ma 2 = adf 24) (hm3 : ma 3 = ad0 24) (hm4 : ma 4 = ad1 24) (hLX : LX p s m0 c b L xs D cs A (Wf zMM zMM zMM zMM zMM zMM zMM)) (n : Nat) (k : LKont) (hk : LK p l e s m0 below meth c b D A Q adh adx adu Wf n k) (x4 : Int32) (h : MM) (m : MM) (f : MM) (c0 : MM) (c1 : MM) (x : MM) (u : MM) (cells slots : Nat) (H : Heap) (locs : List Loc) (ls : Array Slot) (hD : D_L_law_2774 L xs k x4 h m f c0 c1 x u = some ()) (hcl : cells + (n + 1) ≤ 601024) (hsl : slots + 6 * (n + 1) ≤ 7293034) (hP : va_P D vwCl (Wf h m f c0 c1 x u) H) (hS : va_S A s.heap H locs) (hl : lv_has ls 8 [(0, .ref b), (1, .ref (adh 0)), (2, .ref (adx 0)), (3, .ref (adu 0)), (4, .int x4)]) : W p l e room_1 s m0 #[Value.ref b] below meth c H locs cells slots Q (F0 m0 2774 ls []) := by
  obtain ⟨hx, hb, hml, hown, hK, hT⟩ := hLX.rest
  obtain ⟨Fx0, hX, hbl, hbA, hD1, hA1⟩ := hLX
  unfold D_L_law_2774 at hD
  refine lv_aload_n hx hb dL_law_2774 rfl (lv_at hl 1 rfl) ?_
  obtain ⟨v1, m2, m3, z4, hD⟩ := b3_el hD
  refine lrV (Wf := fun z => Wf z m f c0 c1 x u) (mm := h) (As := []) (rest := []) Fx0 (c_X9_splicesAhead l (Wf := fun z0_ z1_ z2_ => Wf z0_ z1_ z2_ c0 c1 x u) (fun z1_ z2_ => hLh z1_ z2_ c0 c1 x u) (fun z0_ z2_ => hL z0_ z2_ c0 c1 x u) (fun z0_ z1_ => hLf z0_ z1_ c0 c1 x u) (fun a0_ b0_ a1_ b1_ a2_ b2_ => hAd a0_ b0_ a1_ b1_ a2_ b2_ c0 c0 c1 c1 x x u u) hm1 hm2 h m f z4) hP (hD1 _ (hAd _ _ _ _ _ _ _ _ _ _ _ _ _ _)) hS (hA1 _ _ (hAd _ _ _ _ _ _ _ _ _ _ _ _ _ _) hS.1) (hLh m f c0 c1 x u) (Nat.le_of_ble_eq_true rfl) (hs0 _ _) rfl tw_5_14 tw_5_11 tw_5_12 tw_5_13 tw_1_1 yd_X9_splicesAhead ⟨(Nat.le_of_ble_eq_true rfl), (Nat.le_of_ble_eq_true rfl)⟩ ⟨show _ ≤ 601024 by omega, show _ ≤ 7293034 by omega⟩ rfl hl.1 rfl (Nat.le_of_ble_eq_true rfl) dL_law_2775 (fun H locs hP hS => ?_)
  refine lv_aload_n hx hb dL_law_2778 rfl (lv_at hl 2 rfl) ?_
  obtain ⟨v5, m6, z7, hD⟩ := b2_el hD
  refine lrV (Wf := fun z => Wf m2 m m3 c0 c1 z u) (mm := x) (As := []) (rest := [.int v1]) Fx0 (c_X10_splicesAhead l (Wf := fun z0_ => Wf m2 m m3 c0 c1 z0_ u) (hLx m2 m m3 c0 c1 u) (fun a0_ b0_ => hAd m2 m2 m m m3 m3 c0 c0 c1 c1 a0_ b0_ u u) x z7) hP (hD1 _ (hAd _ _ _ _ _ _ _ _ _ _ _ _ _ _)) hS (hA1 _ _ (hAd _ _ _ _ _ _ _ _ _ _ _ _ _ _) hS.1) (hLx m2 m m3 c0 c1 u) (Nat.le_of_ble_eq_true rfl) (xs0 _ _) rfl tw_9_132 tw_9_129 tw_9_130 tw_9_131 tw_1_13 yd_X10_splicesAhead ⟨(Nat.le_of_ble_eq_true rfl), (Nat.le_of_ble_eq_true rfl)⟩ ⟨show _ ≤ 601024 by omega, show _ ≤ 7293034 by omega⟩ rfl hl.1 rfl (Nat.le_of_ble_eq_true rfl) dL_law_2779 (fun H locs hP hS => ?_)
  refine lv_icmp_eq (tgt := 2964) hx hb dL_law_2782 (by decide) (fun c => ?_) (fun c => ?_)
  · have hD := ifp hD c
    obtain ⟨v8, ev8, hD⟩ := bnd_el hD
    refine lv_iinc (v := v8) (lv' := [(4, .int v8), (0, .ref b), (1, .ref (adh 0)), (2, .ref (adx 0)), (3, .ref (adu 0))]) hx hb dL_law_2964 hl (k := 4) rfl (by rw [ev8]; rfl) (by decide) rfl (fun ls hl => ?_)
    refine lv_goto (tgt := 23) hx hb dL_law_2967 (by decide) ?_
    exact hk v8 m2 m m3 c0 c1 m6 u _ _ _ _ _ hD (show _ + n ≤ 601024 by omega) (show _ + 6 * n ≤ 7293034 by omega) hP hS (lv_sub hl [1, 2, 3, 4, 0] rfl)
  · have hD := ifn hD c
    refine lv_iconst (v := (0 : Int32)) hx hb dL_law_2785 (by decide) ?_
    exact nn_el hD
noncomputable def D_L_law_2787 (L : Nat) (xs : Nat → Int32) (k : LKont) (x4 : Int32) (h : MM) (m : MM) (f : MM) (c0 : MM) (c1 : MM) (x : MM) (u : MM) : Option Unit := b3 (D_X9_bestRetries h m f) (fun v1 m2 m3 => b2 (D_X10_bestRetries x) (fun v5 m6 => if v1 = v5 then (bnd (x4 + (3 : Int32)) (fun v8 => k v8 m2 m m3 c0 c1 m6 u)) else (none)))
set_option maxHeartbeats 4000000 in
set_option maxRecDepth 100000 in
theorem c_L_law_2787 (l : Launch) (hst : l.stackTraces = false) {p : Program} {e : Env} {s : State} {m0 : MethodId} {below : List Frame} {meth : Method} {c : Code} {b L : Nat} {xs : Nat → Int32} {D : va_G} {cs : Nat → ClassId} {A : Nat → Prop} {Q : State → Prop} {adh ad adf ad0 ad1 adx adu ma : Nat → Nat} {Wf : MM → MM → MM → MM → MM → MM → MM → va_W} (hLh : ∀ m f c0 c1 x u : MM, Ln 8 adh (hsh cs adh ma) (fun z => Wf z m f c0 c1 x u)) (hL : ∀ h f c0 c1 x u : MM, Ln 51 ad (msh cs ad) (fun z => Wf h z f c0 c1 x u)) (hLf : ∀ h m c0 c1 x u : MM, Ln 51 adf (msh cs adf) (fun z => Wf h m z c0 c1 x u)) (hL0 : ∀ h m f c1 x u : MM, Ln 51 ad0 (msh cs ad0) (fun z => Wf h m f z c1 x u)) (hL1 : ∀ h m f c0 x u : MM, Ln 51 ad1 (msh cs ad1) (fun z => Wf h m f c0 z x u)) (hLx : ∀ h m f c0 c1 u : MM, Ln 9 adx (xsh cs adx) (fun z => Wf h m f c0 c1 z u)) (hLu : ∀ h m f c0 c1 x : MM, Ln 1 adu (ush cs) (fun z => Wf h m f c0 c1 x z)) (hAd : ∀ a0_ b0_ a1_ b1_ a2_ b2_ a3_ b3_ a4_ b4_ a5_ b5_ a6_ b6_ : MM, (Wf a0_ a1_ a2_ a3_ a4_ a5_ a6_).map (fun q => q.1) = (Wf b0_ b1_ b2_ b3_ b4_ b5_ b6_).map (fun q => q.1)) (hm1 : ma 1 = ad 24) (hm2 : ma 2 = adf 24) (hm3 : ma 3 = ad0 24) (hm4 : ma 4 = ad1 24) (hLX : LX p s m0 c b L xs D cs A (Wf zMM zMM zMM zMM zMM zMM zMM)) (n : Nat) (k : LKont) (hk : LK p l e s m0 below meth c b D A Q adh adx adu Wf n k) (x4 : Int32) (h : MM) (m : MM) (f : MM) (c0 : MM) (c1 : MM) (x : MM) (u : MM) (cells slots : Nat) (H : Heap) (locs : List Loc) (ls : Array Slot) (hD : D_L_law_2787 L xs k x4 h m f c0 c1 x u = some ()) (hcl : cells + (n + 1) ≤ 601024) (hsl : slots + 6 * (n + 1) ≤ 7293034) (hP : va_P D vwCl (Wf h m f c0 c1 x u) H) (hS : va_S A s.heap H locs) (hl : lv_has ls 8 [(0, .ref b), (1, .ref (adh 0)), (2, .ref (adx 0)), (3, .ref (adu 0)), (4, .int x4)]) : W p l e room_1 s m0 #[Value.ref b] below meth c H locs cells slots Q (F0 m0 2787 ls []) := by
  obtain ⟨hx, hb, hml, hown, hK, hT⟩ := hLX.rest
  obtain ⟨Fx0, hX, hbl, hbA, hD1, hA1⟩ := hLX
  unfold D_L_law_2787 at hD
  refine lv_aload_n hx hb dL_law_2787 rfl (lv_at hl 1 rfl) ?_
  obtain ⟨v1, m2, m3, z4, hD⟩ := b3_el hD
  refine lrV (Wf := fun z => Wf z m f c0 c1 x u) (mm := h) (As := []) (rest := []) Fx0 (c_X9_bestRetries l (Wf := fun z0_ z1_ z2_ => Wf z0_ z1_ z2_ c0 c1 x u) (fun z1_ z2_ => hLh z1_ z2_ c0 c1 x u) (fun z0_ z2_ => hL z0_ z2_ c0 c1 x u) (fun z0_ z1_ => hLf z0_ z1_ c0 c1 x u) (fun a0_ b0_ a1_ b1_ a2_ b2_ => hAd a0_ b0_ a1_ b1_ a2_ b2_ c0 c0 c1 c1 x x u u) hm1 hm2 h m f z4) hP (hD1 _ (hAd _ _ _ _ _ _ _ _ _ _ _ _ _ _)) hS (hA1 _ _ (hAd _ _ _ _ _ _ _ _ _ _ _ _ _ _) hS.1) (hLh m f c0 c1 x u) (Nat.le_of_ble_eq_true rfl) (hs0 _ _) rfl tw_5_18 tw_5_15 tw_5_16 tw_5_17 tw_1_1 yd_X9_bestRetries ⟨(Nat.le_of_ble_eq_true rfl), (Nat.le_of_ble_eq_true rfl)⟩ ⟨show _ ≤ 601024 by omega, show _ ≤ 7293034 by omega⟩ rfl hl.1 rfl (Nat.le_of_ble_eq_true rfl) dL_law_2788 (fun H locs hP hS => ?_)
  refine lv_aload_n hx hb dL_law_2791 rfl (lv_at hl 2 rfl) ?_
  obtain ⟨v5, m6, z7, hD⟩ := b2_el hD
  refine lrV (Wf := fun z => Wf m2 m m3 c0 c1 z u) (mm := x) (As := []) (rest := [.int v1]) Fx0 (c_X10_bestRetries l (Wf := fun z0_ => Wf m2 m m3 c0 c1 z0_ u) (hLx m2 m m3 c0 c1 u) (fun a0_ b0_ => hAd m2 m2 m m m3 m3 c0 c0 c1 c1 a0_ b0_ u u) x z7) hP (hD1 _ (hAd _ _ _ _ _ _ _ _ _ _ _ _ _ _)) hS (hA1 _ _ (hAd _ _ _ _ _ _ _ _ _ _ _ _ _ _) hS.1) (hLx m2 m m3 c0 c1 u) (Nat.le_of_ble_eq_true rfl) (xs0 _ _) rfl tw_9_148 tw_9_145 tw_9_146 tw_9_147 tw_1_13 yd_X10_bestRetries ⟨(Nat.le_of_ble_eq_true rfl), (Nat.le_of_ble_eq_true rfl)⟩ ⟨show _ ≤ 601024 by omega, show _ ≤ 7293034 by omega⟩ rfl hl.1 rfl (Nat.le_of_ble_eq_true rfl) dL_law_2792 (fun H locs hP hS => ?_)
  refine lv_icmp_eq (tgt := 2964) hx hb dL_law_2795 (by decide) (fun c => ?_) (fun c => ?_)
  · have hD := ifp hD c
    obtain ⟨v8, ev8, hD⟩ := bnd_el hD
    refine lv_iinc (v := v8) (lv' := [(4, .int v8), (0, .ref b), (1, .ref (adh 0)), (2, .ref (adx 0)), (3, .ref (adu 0))]) hx hb dL_law_2964 hl (k := 4) rfl (by rw [ev8]; rfl) (by decide) rfl (fun ls hl => ?_)
    refine lv_goto (tgt := 23) hx hb dL_law_2967 (by decide) ?_
    exact hk v8 m2 m m3 c0 c1 m6 u _ _ _ _ _ hD (show _ + n ≤ 601024 by omega) (show _ + 6 * n ≤ 7293034 by omega) hP hS (lv_sub hl [1, 2, 3, 4, 0] rfl)
  · have hD := ifn hD c
    refine lv_iconst (v := (0 : Int32)) hx hb dL_law_2798 (by decide) ?_
    exact nn_el hD
noncomputable def D_L_law_2800 (L : Nat) (xs : Nat → Int32) (k : LKont) (x4 : Int32) (h : MM) (m : MM) (f : MM) (c0 : MM) (c1 : MM) (x : MM) (u : MM) : Option Unit := b3 (D_X9_dearestSpot h m f) (fun v1 m2 m3 => b2 (D_X10_dearestSpot x) (fun v5 m6 => if v1 = v5 then (bnd (x4 + (3 : Int32)) (fun v8 => k v8 m2 m m3 c0 c1 m6 u)) else (none)))
set_option maxHeartbeats 4000000 in
set_option maxRecDepth 100000 in
theorem c_L_law_2800 (l : Launch) (hst : l.stackTraces = false) {p : Program} {e : Env} {s : State} {m0 : MethodId} {below : List Frame} {meth : Method} {c : Code} {b L : Nat} {xs : Nat → Int32} {D : va_G} {cs : Nat → ClassId} {A : Nat → Prop} {Q : State → Prop} {adh ad adf ad0 ad1 adx adu ma : Nat → Nat} {Wf : MM → MM → MM → MM → MM → MM → MM → va_W} (hLh : ∀ m f c0 c1 x u : MM, Ln 8 adh (hsh cs adh ma) (fun z => Wf z m f c0 c1 x u)) (hL : ∀ h f c0 c1 x u : MM, Ln 51 ad (msh cs ad) (fun z => Wf h z f c0 c1 x u)) (hLf : ∀ h m c0 c1 x u : MM, Ln 51 adf (msh cs adf) (fun z => Wf h m z c0 c1 x u)) (hL0 : ∀ h m f c1 x u : MM, Ln 51 ad0 (msh cs ad0) (fun z => Wf h m f z c1 x u)) (hL1 : ∀ h m f c0 x u : MM, Ln 51 ad1 (msh cs ad1) (fun z => Wf h m f c0 z x u)) (hLx : ∀ h m f c0 c1 u : MM, Ln 9 adx (xsh cs adx) (fun z => Wf h m f c0 c1 z u)) (hLu : ∀ h m f c0 c1 x : MM, Ln 1 adu (ush cs) (fun z => Wf h m f c0 c1 x z)) (hAd : ∀ a0_ b0_ a1_ b1_ a2_ b2_ a3_ b3_ a4_ b4_ a5_ b5_ a6_ b6_ : MM, (Wf a0_ a1_ a2_ a3_ a4_ a5_ a6_).map (fun q => q.1) = (Wf b0_ b1_ b2_ b3_ b4_ b5_ b6_).map (fun q => q.1)) (hm1 : ma 1 = ad 24) (hm2 : ma 2 = adf 24) (hm3 : ma 3 = ad0 24) (hm4 : ma 4 = ad1 24) (hLX : LX p s m0 c b L xs D cs A (Wf zMM zMM zMM zMM zMM zMM zMM)) (n : Nat) (k : LKont) (hk : LK p l e s m0 below meth c b D A Q adh adx adu Wf n k) (x4 : Int32) (h : MM) (m : MM) (f : MM) (c0 : MM) (c1 : MM) (x : MM) (u : MM) (cells slots : Nat) (H : Heap) (locs : List Loc) (ls : Array Slot) (hD : D_L_law_2800 L xs k x4 h m f c0 c1 x u = some ()) (hcl : cells + (n + 1) ≤ 601024) (hsl : slots + 6 * (n + 1) ≤ 7293034) (hP : va_P D vwCl (Wf h m f c0 c1 x u) H) (hS : va_S A s.heap H locs) (hl : lv_has ls 8 [(0, .ref b), (1, .ref (adh 0)), (2, .ref (adx 0)), (3, .ref (adu 0)), (4, .int x4)]) : W p l e room_1 s m0 #[Value.ref b] below meth c H locs cells slots Q (F0 m0 2800 ls []) := by
  obtain ⟨hx, hb, hml, hown, hK, hT⟩ := hLX.rest
  obtain ⟨Fx0, hX, hbl, hbA, hD1, hA1⟩ := hLX
  unfold D_L_law_2800 at hD
  refine lv_aload_n hx hb dL_law_2800 rfl (lv_at hl 1 rfl) ?_
  obtain ⟨v1, m2, m3, z4, hD⟩ := b3_el hD
  refine lrV (Wf := fun z => Wf z m f c0 c1 x u) (mm := h) (As := []) (rest := []) Fx0 (c_X9_dearestSpot l (Wf := fun z0_ z1_ z2_ => Wf z0_ z1_ z2_ c0 c1 x u) (fun z1_ z2_ => hLh z1_ z2_ c0 c1 x u) (fun z0_ z2_ => hL z0_ z2_ c0 c1 x u) (fun z0_ z1_ => hLf z0_ z1_ c0 c1 x u) (fun a0_ b0_ a1_ b1_ a2_ b2_ => hAd a0_ b0_ a1_ b1_ a2_ b2_ c0 c0 c1 c1 x x u u) hm1 hm2 h m f z4) hP (hD1 _ (hAd _ _ _ _ _ _ _ _ _ _ _ _ _ _)) hS (hA1 _ _ (hAd _ _ _ _ _ _ _ _ _ _ _ _ _ _) hS.1) (hLh m f c0 c1 x u) (Nat.le_of_ble_eq_true rfl) (hs0 _ _) rfl tw_5_24 tw_5_21 tw_5_22 tw_5_23 tw_1_1 yd_X9_dearestSpot ⟨(Nat.le_of_ble_eq_true rfl), (Nat.le_of_ble_eq_true rfl)⟩ ⟨show _ ≤ 601024 by omega, show _ ≤ 7293034 by omega⟩ rfl hl.1 rfl (Nat.le_of_ble_eq_true rfl) dL_law_2801 (fun H locs hP hS => ?_)
  refine lv_aload_n hx hb dL_law_2804 rfl (lv_at hl 2 rfl) ?_
  obtain ⟨v5, m6, z7, hD⟩ := b2_el hD
  refine lrV (Wf := fun z => Wf m2 m m3 c0 c1 z u) (mm := x) (As := []) (rest := [.int v1]) Fx0 (c_X10_dearestSpot l (Wf := fun z0_ => Wf m2 m m3 c0 c1 z0_ u) (hLx m2 m m3 c0 c1 u) (fun a0_ b0_ => hAd m2 m2 m m m3 m3 c0 c0 c1 c1 a0_ b0_ u u) x z7) hP (hD1 _ (hAd _ _ _ _ _ _ _ _ _ _ _ _ _ _)) hS (hA1 _ _ (hAd _ _ _ _ _ _ _ _ _ _ _ _ _ _) hS.1) (hLx m2 m m3 c0 c1 u) (Nat.le_of_ble_eq_true rfl) (xs0 _ _) rfl tw_9_152 tw_9_149 tw_9_150 tw_9_151 tw_1_13 yd_X10_dearestSpot ⟨(Nat.le_of_ble_eq_true rfl), (Nat.le_of_ble_eq_true rfl)⟩ ⟨show _ ≤ 601024 by omega, show _ ≤ 7293034 by omega⟩ rfl hl.1 rfl (Nat.le_of_ble_eq_true rfl) dL_law_2805 (fun H locs hP hS => ?_)
  refine lv_icmp_eq (tgt := 2964) hx hb dL_law_2808 (by decide) (fun c => ?_) (fun c => ?_)
  · have hD := ifp hD c
    obtain ⟨v8, ev8, hD⟩ := bnd_el hD
    refine lv_iinc (v := v8) (lv' := [(4, .int v8), (0, .ref b), (1, .ref (adh 0)), (2, .ref (adx 0)), (3, .ref (adu 0))]) hx hb dL_law_2964 hl (k := 4) rfl (by rw [ev8]; rfl) (by decide) rfl (fun ls hl => ?_)
    refine lv_goto (tgt := 23) hx hb dL_law_2967 (by decide) ?_
    exact hk v8 m2 m m3 c0 c1 m6 u _ _ _ _ _ hD (show _ + n ≤ 601024 by omega) (show _ + 6 * n ≤ 7293034 by omega) hP hS (lv_sub hl [1, 2, 3, 4, 0] rfl)
  · have hD := ifn hD c
    refine lv_iconst (v := (0 : Int32)) hx hb dL_law_2811 (by decide) ?_
    exact nn_el hD
noncomputable def D_L_law_2813 (L : Nat) (xs : Nat → Int32) (k : LKont) (x4 : Int32) (h : MM) (m : MM) (f : MM) (c0 : MM) (c1 : MM) (x : MM) (u : MM) : Option Unit := b3 (D_X9_bestSwap h m f) (fun v1 m2 m3 => b2 (D_X10_bestSwap x) (fun v5 m6 => if v1 = v5 then (bnd (x4 + (3 : Int32)) (fun v8 => k v8 m2 m m3 c0 c1 m6 u)) else (none)))
set_option maxHeartbeats 4000000 in
set_option maxRecDepth 100000 in
theorem c_L_law_2813 (l : Launch) (hst : l.stackTraces = false) {p : Program} {e : Env} {s : State} {m0 : MethodId} {below : List Frame} {meth : Method} {c : Code} {b L : Nat} {xs : Nat → Int32} {D : va_G} {cs : Nat → ClassId} {A : Nat → Prop} {Q : State → Prop} {adh ad adf ad0 ad1 adx adu ma : Nat → Nat} {Wf : MM → MM → MM → MM → MM → MM → MM → va_W} (hLh : ∀ m f c0 c1 x u : MM, Ln 8 adh (hsh cs adh ma) (fun z => Wf z m f c0 c1 x u)) (hL : ∀ h f c0 c1 x u : MM, Ln 51 ad (msh cs ad) (fun z => Wf h z f c0 c1 x u)) (hLf : ∀ h m c0 c1 x u : MM, Ln 51 adf (msh cs adf) (fun z => Wf h m z c0 c1 x u)) (hL0 : ∀ h m f c1 x u : MM, Ln 51 ad0 (msh cs ad0) (fun z => Wf h m f z c1 x u)) (hL1 : ∀ h m f c0 x u : MM, Ln 51 ad1 (msh cs ad1) (fun z => Wf h m f c0 z x u)) (hLx : ∀ h m f c0 c1 u : MM, Ln 9 adx (xsh cs adx) (fun z => Wf h m f c0 c1 z u)) (hLu : ∀ h m f c0 c1 x : MM, Ln 1 adu (ush cs) (fun z => Wf h m f c0 c1 x z)) (hAd : ∀ a0_ b0_ a1_ b1_ a2_ b2_ a3_ b3_ a4_ b4_ a5_ b5_ a6_ b6_ : MM, (Wf a0_ a1_ a2_ a3_ a4_ a5_ a6_).map (fun q => q.1) = (Wf b0_ b1_ b2_ b3_ b4_ b5_ b6_).map (fun q => q.1)) (hm1 : ma 1 = ad 24) (hm2 : ma 2 = adf 24) (hm3 : ma 3 = ad0 24) (hm4 : ma 4 = ad1 24) (hLX : LX p s m0 c b L xs D cs A (Wf zMM zMM zMM zMM zMM zMM zMM)) (n : Nat) (k : LKont) (hk : LK p l e s m0 below meth c b D A Q adh adx adu Wf n k) (x4 : Int32) (h : MM) (m : MM) (f : MM) (c0 : MM) (c1 : MM) (x : MM) (u : MM) (cells slots : Nat) (H : Heap) (locs : List Loc) (ls : Array Slot) (hD : D_L_law_2813 L xs k x4 h m f c0 c1 x u = some ()) (hcl : cells + (n + 1) ≤ 601024) (hsl : slots + 6 * (n + 1) ≤ 7293034) (hP : va_P D vwCl (Wf h m f c0 c1 x u) H) (hS : va_S A s.heap H locs) (hl : lv_has ls 8 [(0, .ref b), (1, .ref (adh 0)), (2, .ref (adx 0)), (3, .ref (adu 0)), (4, .int x4)]) : W p l e room_1 s m0 #[Value.ref b] below meth c H locs cells slots Q (F0 m0 2813 ls []) := by
  obtain ⟨hx, hb, hml, hown, hK, hT⟩ := hLX.rest
  obtain ⟨Fx0, hX, hbl, hbA, hD1, hA1⟩ := hLX
  unfold D_L_law_2813 at hD
  refine lv_aload_n hx hb dL_law_2813 rfl (lv_at hl 1 rfl) ?_
  obtain ⟨v1, m2, m3, z4, hD⟩ := b3_el hD
  refine lrV (Wf := fun z => Wf z m f c0 c1 x u) (mm := h) (As := []) (rest := []) Fx0 (c_X9_bestSwap l (Wf := fun z0_ z1_ z2_ => Wf z0_ z1_ z2_ c0 c1 x u) (fun z1_ z2_ => hLh z1_ z2_ c0 c1 x u) (fun z0_ z2_ => hL z0_ z2_ c0 c1 x u) (fun z0_ z1_ => hLf z0_ z1_ c0 c1 x u) (fun a0_ b0_ a1_ b1_ a2_ b2_ => hAd a0_ b0_ a1_ b1_ a2_ b2_ c0 c0 c1 c1 x x u u) hm1 hm2 h m f z4) hP (hD1 _ (hAd _ _ _ _ _ _ _ _ _ _ _ _ _ _)) hS (hA1 _ _ (hAd _ _ _ _ _ _ _ _ _ _ _ _ _ _) hS.1) (hLh m f c0 c1 x u) (Nat.le_of_ble_eq_true rfl) (hs0 _ _) rfl tw_5_33 tw_5_30 tw_5_31 tw_5_32 tw_1_1 yd_X9_bestSwap ⟨(Nat.le_of_ble_eq_true rfl), (Nat.le_of_ble_eq_true rfl)⟩ ⟨show _ ≤ 601024 by omega, show _ ≤ 7293034 by omega⟩ rfl hl.1 rfl (Nat.le_of_ble_eq_true rfl) dL_law_2814 (fun H locs hP hS => ?_)
  refine lv_aload_n hx hb dL_law_2817 rfl (lv_at hl 2 rfl) ?_
  obtain ⟨v5, m6, z7, hD⟩ := b2_el hD
  refine lrV (Wf := fun z => Wf m2 m m3 c0 c1 z u) (mm := x) (As := []) (rest := [.int v1]) Fx0 (c_X10_bestSwap l (Wf := fun z0_ => Wf m2 m m3 c0 c1 z0_ u) (hLx m2 m m3 c0 c1 u) (fun a0_ b0_ => hAd m2 m2 m m m3 m3 c0 c0 c1 c1 a0_ b0_ u u) x z7) hP (hD1 _ (hAd _ _ _ _ _ _ _ _ _ _ _ _ _ _)) hS (hA1 _ _ (hAd _ _ _ _ _ _ _ _ _ _ _ _ _ _) hS.1) (hLx m2 m m3 c0 c1 u) (Nat.le_of_ble_eq_true rfl) (xs0 _ _) rfl tw_9_156 tw_9_153 tw_9_154 tw_9_155 tw_1_13 yd_X10_bestSwap ⟨(Nat.le_of_ble_eq_true rfl), (Nat.le_of_ble_eq_true rfl)⟩ ⟨show _ ≤ 601024 by omega, show _ ≤ 7293034 by omega⟩ rfl hl.1 rfl (Nat.le_of_ble_eq_true rfl) dL_law_2818 (fun H locs hP hS => ?_)
  refine lv_icmp_eq (tgt := 2964) hx hb dL_law_2821 (by decide) (fun c => ?_) (fun c => ?_)
  · have hD := ifp hD c
    obtain ⟨v8, ev8, hD⟩ := bnd_el hD
    refine lv_iinc (v := v8) (lv' := [(4, .int v8), (0, .ref b), (1, .ref (adh 0)), (2, .ref (adx 0)), (3, .ref (adu 0))]) hx hb dL_law_2964 hl (k := 4) rfl (by rw [ev8]; rfl) (by decide) rfl (fun ls hl => ?_)
    refine lv_goto (tgt := 23) hx hb dL_law_2967 (by decide) ?_
    exact hk v8 m2 m m3 c0 c1 m6 u _ _ _ _ _ hD (show _ + n ≤ 601024 by omega) (show _ + 6 * n ≤ 7293034 by omega) hP hS (lv_sub hl [1, 2, 3, 4, 0] rfl)
  · have hD := ifn hD c
    refine lv_iconst (v := (0 : Int32)) hx hb dL_law_2824 (by decide) ?_
    exact nn_el hD
noncomputable def D_L_law_2826 (L : Nat) (xs : Nat → Int32) (k : LKont) (x4 : Int32) (h : MM) (m : MM) (f : MM) (c0 : MM) (c1 : MM) (x : MM) (u : MM) : Option Unit := b3 (D_X9_changesAhead h m f) (fun v1 m2 m3 => b2 (D_X10_changesAhead x) (fun v5 m6 => if v1 = v5 then (bnd (x4 + (3 : Int32)) (fun v8 => k v8 m2 m m3 c0 c1 m6 u)) else (none)))
set_option maxHeartbeats 4000000 in
set_option maxRecDepth 100000 in
theorem c_L_law_2826 (l : Launch) (hst : l.stackTraces = false) {p : Program} {e : Env} {s : State} {m0 : MethodId} {below : List Frame} {meth : Method} {c : Code} {b L : Nat} {xs : Nat → Int32} {D : va_G} {cs : Nat → ClassId} {A : Nat → Prop} {Q : State → Prop} {adh ad adf ad0 ad1 adx adu ma : Nat → Nat} {Wf : MM → MM → MM → MM → MM → MM → MM → va_W} (hLh : ∀ m f c0 c1 x u : MM, Ln 8 adh (hsh cs adh ma) (fun z => Wf z m f c0 c1 x u)) (hL : ∀ h f c0 c1 x u : MM, Ln 51 ad (msh cs ad) (fun z => Wf h z f c0 c1 x u)) (hLf : ∀ h m c0 c1 x u : MM, Ln 51 adf (msh cs adf) (fun z => Wf h m z c0 c1 x u)) (hL0 : ∀ h m f c1 x u : MM, Ln 51 ad0 (msh cs ad0) (fun z => Wf h m f z c1 x u)) (hL1 : ∀ h m f c0 x u : MM, Ln 51 ad1 (msh cs ad1) (fun z => Wf h m f c0 z x u)) (hLx : ∀ h m f c0 c1 u : MM, Ln 9 adx (xsh cs adx) (fun z => Wf h m f c0 c1 z u)) (hLu : ∀ h m f c0 c1 x : MM, Ln 1 adu (ush cs) (fun z => Wf h m f c0 c1 x z)) (hAd : ∀ a0_ b0_ a1_ b1_ a2_ b2_ a3_ b3_ a4_ b4_ a5_ b5_ a6_ b6_ : MM, (Wf a0_ a1_ a2_ a3_ a4_ a5_ a6_).map (fun q => q.1) = (Wf b0_ b1_ b2_ b3_ b4_ b5_ b6_).map (fun q => q.1)) (hm1 : ma 1 = ad 24) (hm2 : ma 2 = adf 24) (hm3 : ma 3 = ad0 24) (hm4 : ma 4 = ad1 24) (hLX : LX p s m0 c b L xs D cs A (Wf zMM zMM zMM zMM zMM zMM zMM)) (n : Nat) (k : LKont) (hk : LK p l e s m0 below meth c b D A Q adh adx adu Wf n k) (x4 : Int32) (h : MM) (m : MM) (f : MM) (c0 : MM) (c1 : MM) (x : MM) (u : MM) (cells slots : Nat) (H : Heap) (locs : List Loc) (ls : Array Slot) (hD : D_L_law_2826 L xs k x4 h m f c0 c1 x u = some ()) (hcl : cells + (n + 1) ≤ 601024) (hsl : slots + 6 * (n + 1) ≤ 7293034) (hP : va_P D vwCl (Wf h m f c0 c1 x u) H) (hS : va_S A s.heap H locs) (hl : lv_has ls 8 [(0, .ref b), (1, .ref (adh 0)), (2, .ref (adx 0)), (3, .ref (adu 0)), (4, .int x4)]) : W p l e room_1 s m0 #[Value.ref b] below meth c H locs cells slots Q (F0 m0 2826 ls []) := by
  obtain ⟨hx, hb, hml, hown, hK, hT⟩ := hLX.rest
  obtain ⟨Fx0, hX, hbl, hbA, hD1, hA1⟩ := hLX
  unfold D_L_law_2826 at hD
  refine lv_aload_n hx hb dL_law_2826 rfl (lv_at hl 1 rfl) ?_
  obtain ⟨v1, m2, m3, z4, hD⟩ := b3_el hD
  refine lrV (Wf := fun z => Wf z m f c0 c1 x u) (mm := h) (As := []) (rest := []) Fx0 (c_X9_changesAhead l (Wf := fun z0_ z1_ z2_ => Wf z0_ z1_ z2_ c0 c1 x u) (fun z1_ z2_ => hLh z1_ z2_ c0 c1 x u) (fun z0_ z2_ => hL z0_ z2_ c0 c1 x u) (fun z0_ z1_ => hLf z0_ z1_ c0 c1 x u) (fun a0_ b0_ a1_ b1_ a2_ b2_ => hAd a0_ b0_ a1_ b1_ a2_ b2_ c0 c0 c1 c1 x x u u) hm1 hm2 h m f z4) hP (hD1 _ (hAd _ _ _ _ _ _ _ _ _ _ _ _ _ _)) hS (hA1 _ _ (hAd _ _ _ _ _ _ _ _ _ _ _ _ _ _) hS.1) (hLh m f c0 c1 x u) (Nat.le_of_ble_eq_true rfl) (hs0 _ _) rfl tw_5_37 tw_5_34 tw_5_35 tw_5_36 tw_1_1 yd_X9_changesAhead ⟨(Nat.le_of_ble_eq_true rfl), (Nat.le_of_ble_eq_true rfl)⟩ ⟨show _ ≤ 601024 by omega, show _ ≤ 7293034 by omega⟩ rfl hl.1 rfl (Nat.le_of_ble_eq_true rfl) dL_law_2827 (fun H locs hP hS => ?_)
  refine lv_aload_n hx hb dL_law_2830 rfl (lv_at hl 2 rfl) ?_
  obtain ⟨v5, m6, z7, hD⟩ := b2_el hD
  refine lrV (Wf := fun z => Wf m2 m m3 c0 c1 z u) (mm := x) (As := []) (rest := [.int v1]) Fx0 (c_X10_changesAhead l (Wf := fun z0_ => Wf m2 m m3 c0 c1 z0_ u) (hLx m2 m m3 c0 c1 u) (fun a0_ b0_ => hAd m2 m2 m m m3 m3 c0 c0 c1 c1 a0_ b0_ u u) x z7) hP (hD1 _ (hAd _ _ _ _ _ _ _ _ _ _ _ _ _ _)) hS (hA1 _ _ (hAd _ _ _ _ _ _ _ _ _ _ _ _ _ _) hS.1) (hLx m2 m m3 c0 c1 u) (Nat.le_of_ble_eq_true rfl) (xs0 _ _) rfl tw_9_140 tw_9_137 tw_9_138 tw_9_139 tw_1_13 yd_X10_changesAhead ⟨(Nat.le_of_ble_eq_true rfl), (Nat.le_of_ble_eq_true rfl)⟩ ⟨show _ ≤ 601024 by omega, show _ ≤ 7293034 by omega⟩ rfl hl.1 rfl (Nat.le_of_ble_eq_true rfl) dL_law_2831 (fun H locs hP hS => ?_)
  refine lv_icmp_eq (tgt := 2964) hx hb dL_law_2834 (by decide) (fun c => ?_) (fun c => ?_)
  · have hD := ifp hD c
    obtain ⟨v8, ev8, hD⟩ := bnd_el hD
    refine lv_iinc (v := v8) (lv' := [(4, .int v8), (0, .ref b), (1, .ref (adh 0)), (2, .ref (adx 0)), (3, .ref (adu 0))]) hx hb dL_law_2964 hl (k := 4) rfl (by rw [ev8]; rfl) (by decide) rfl (fun ls hl => ?_)
    refine lv_goto (tgt := 23) hx hb dL_law_2967 (by decide) ?_
    exact hk v8 m2 m m3 c0 c1 m6 u _ _ _ _ _ hD (show _ + n ≤ 601024 by omega) (show _ + 6 * n ≤ 7293034 by omega) hP hS (lv_sub hl [1, 2, 3, 4, 0] rfl)
  · have hD := ifn hD c
    refine lv_iconst (v := (0 : Int32)) hx hb dL_law_2837 (by decide) ?_
    exact nn_el hD
noncomputable def D_L_law_2839 (L : Nat) (xs : Nat → Int32) (k : LKont) (x4 : Int32) (h : MM) (m : MM) (f : MM) (c0 : MM) (c1 : MM) (x : MM) (u : MM) : Option Unit := b3 (D_X9_cleansAhead h m f) (fun v1 m2 m3 => b2 (D_X10_cleansAhead x) (fun v5 m6 => if v1 = v5 then (bnd (x4 + (3 : Int32)) (fun v8 => k v8 m2 m m3 c0 c1 m6 u)) else (none)))
set_option maxHeartbeats 4000000 in
set_option maxRecDepth 100000 in
theorem c_L_law_2839 (l : Launch) (hst : l.stackTraces = false) {p : Program} {e : Env} {s : State} {m0 : MethodId} {below : List Frame} {meth : Method} {c : Code} {b L : Nat} {xs : Nat → Int32} {D : va_G} {cs : Nat → ClassId} {A : Nat → Prop} {Q : State → Prop} {adh ad adf ad0 ad1 adx adu ma : Nat → Nat} {Wf : MM → MM → MM → MM → MM → MM → MM → va_W} (hLh : ∀ m f c0 c1 x u : MM, Ln 8 adh (hsh cs adh ma) (fun z => Wf z m f c0 c1 x u)) (hL : ∀ h f c0 c1 x u : MM, Ln 51 ad (msh cs ad) (fun z => Wf h z f c0 c1 x u)) (hLf : ∀ h m c0 c1 x u : MM, Ln 51 adf (msh cs adf) (fun z => Wf h m z c0 c1 x u)) (hL0 : ∀ h m f c1 x u : MM, Ln 51 ad0 (msh cs ad0) (fun z => Wf h m f z c1 x u)) (hL1 : ∀ h m f c0 x u : MM, Ln 51 ad1 (msh cs ad1) (fun z => Wf h m f c0 z x u)) (hLx : ∀ h m f c0 c1 u : MM, Ln 9 adx (xsh cs adx) (fun z => Wf h m f c0 c1 z u)) (hLu : ∀ h m f c0 c1 x : MM, Ln 1 adu (ush cs) (fun z => Wf h m f c0 c1 x z)) (hAd : ∀ a0_ b0_ a1_ b1_ a2_ b2_ a3_ b3_ a4_ b4_ a5_ b5_ a6_ b6_ : MM, (Wf a0_ a1_ a2_ a3_ a4_ a5_ a6_).map (fun q => q.1) = (Wf b0_ b1_ b2_ b3_ b4_ b5_ b6_).map (fun q => q.1)) (hm1 : ma 1 = ad 24) (hm2 : ma 2 = adf 24) (hm3 : ma 3 = ad0 24) (hm4 : ma 4 = ad1 24) (hLX : LX p s m0 c b L xs D cs A (Wf zMM zMM zMM zMM zMM zMM zMM)) (n : Nat) (k : LKont) (hk : LK p l e s m0 below meth c b D A Q adh adx adu Wf n k) (x4 : Int32) (h : MM) (m : MM) (f : MM) (c0 : MM) (c1 : MM) (x : MM) (u : MM) (cells slots : Nat) (H : Heap) (locs : List Loc) (ls : Array Slot) (hD : D_L_law_2839 L xs k x4 h m f c0 c1 x u = some ()) (hcl : cells + (n + 1) ≤ 601024) (hsl : slots + 6 * (n + 1) ≤ 7293034) (hP : va_P D vwCl (Wf h m f c0 c1 x u) H) (hS : va_S A s.heap H locs) (hl : lv_has ls 8 [(0, .ref b), (1, .ref (adh 0)), (2, .ref (adx 0)), (3, .ref (adu 0)), (4, .int x4)]) : W p l e room_1 s m0 #[Value.ref b] below meth c H locs cells slots Q (F0 m0 2839 ls []) := by
  obtain ⟨hx, hb, hml, hown, hK, hT⟩ := hLX.rest
  obtain ⟨Fx0, hX, hbl, hbA, hD1, hA1⟩ := hLX
  unfold D_L_law_2839 at hD
  refine lv_aload_n hx hb dL_law_2839 rfl (lv_at hl 1 rfl) ?_
  obtain ⟨v1, m2, m3, z4, hD⟩ := b3_el hD
  refine lrV (Wf := fun z => Wf z m f c0 c1 x u) (mm := h) (As := []) (rest := []) Fx0 (c_X9_cleansAhead l (Wf := fun z0_ z1_ z2_ => Wf z0_ z1_ z2_ c0 c1 x u) (fun z1_ z2_ => hLh z1_ z2_ c0 c1 x u) (fun z0_ z2_ => hL z0_ z2_ c0 c1 x u) (fun z0_ z1_ => hLf z0_ z1_ c0 c1 x u) (fun a0_ b0_ a1_ b1_ a2_ b2_ => hAd a0_ b0_ a1_ b1_ a2_ b2_ c0 c0 c1 c1 x x u u) hm1 hm2 h m f z4) hP (hD1 _ (hAd _ _ _ _ _ _ _ _ _ _ _ _ _ _)) hS (hA1 _ _ (hAd _ _ _ _ _ _ _ _ _ _ _ _ _ _) hS.1) (hLh m f c0 c1 x u) (Nat.le_of_ble_eq_true rfl) (hs0 _ _) rfl tw_5_41 tw_5_38 tw_5_39 tw_5_40 tw_1_1 yd_X9_cleansAhead ⟨(Nat.le_of_ble_eq_true rfl), (Nat.le_of_ble_eq_true rfl)⟩ ⟨show _ ≤ 601024 by omega, show _ ≤ 7293034 by omega⟩ rfl hl.1 rfl (Nat.le_of_ble_eq_true rfl) dL_law_2840 (fun H locs hP hS => ?_)
  refine lv_aload_n hx hb dL_law_2843 rfl (lv_at hl 2 rfl) ?_
  obtain ⟨v5, m6, z7, hD⟩ := b2_el hD
  refine lrV (Wf := fun z => Wf m2 m m3 c0 c1 z u) (mm := x) (As := []) (rest := [.int v1]) Fx0 (c_X10_cleansAhead l (Wf := fun z0_ => Wf m2 m m3 c0 c1 z0_ u) (hLx m2 m m3 c0 c1 u) (fun a0_ b0_ => hAd m2 m2 m m m3 m3 c0 c0 c1 c1 a0_ b0_ u u) x z7) hP (hD1 _ (hAd _ _ _ _ _ _ _ _ _ _ _ _ _ _)) hS (hA1 _ _ (hAd _ _ _ _ _ _ _ _ _ _ _ _ _ _) hS.1) (hLx m2 m m3 c0 c1 u) (Nat.le_of_ble_eq_true rfl) (xs0 _ _) rfl tw_9_144 tw_9_141 tw_9_142 tw_9_143 tw_1_13 yd_X10_cleansAhead ⟨(Nat.le_of_ble_eq_true rfl), (Nat.le_of_ble_eq_true rfl)⟩ ⟨show _ ≤ 601024 by omega, show _ ≤ 7293034 by omega⟩ rfl hl.1 rfl (Nat.le_of_ble_eq_true rfl) dL_law_2844 (fun H locs hP hS => ?_)
  refine lv_icmp_eq (tgt := 2964) hx hb dL_law_2847 (by decide) (fun c => ?_) (fun c => ?_)
  · have hD := ifp hD c
    obtain ⟨v8, ev8, hD⟩ := bnd_el hD
    refine lv_iinc (v := v8) (lv' := [(4, .int v8), (0, .ref b), (1, .ref (adh 0)), (2, .ref (adx 0)), (3, .ref (adu 0))]) hx hb dL_law_2964 hl (k := 4) rfl (by rw [ev8]; rfl) (by decide) rfl (fun ls hl => ?_)
    refine lv_goto (tgt := 23) hx hb dL_law_2967 (by decide) ?_
    exact hk v8 m2 m m3 c0 c1 m6 u _ _ _ _ _ hD (show _ + n ≤ 601024 by omega) (show _ + 6 * n ≤ 7293034 by omega) hP hS (lv_sub hl [1, 2, 3, 4, 0] rfl)
  · have hD := ifn hD c
    refine lv_iconst (v := (0 : Int32)) hx hb dL_law_2850 (by decide) ?_
    exact nn_el hD
noncomputable def D_L_law_2852 (L : Nat) (xs : Nat → Int32) (k : LKont) (x4 : Int32) (h : MM) (m : MM) (f : MM) (c0 : MM) (c1 : MM) (x : MM) (u : MM) : Option Unit := if (x4 + (1 : Int32)) < 0 ∨ L ≤ (x4 + (1 : Int32)).toNatClampNeg then none else (b5 (D_L_saveSnapshot (xs (x4 + (1 : Int32)).toNatClampNeg) h m c0 c1 u) (fun v2 m3 m4 m5 m6 => if (x4 + (1 : Int32)) < 0 ∨ L ≤ (x4 + (1 : Int32)).toNatClampNeg then none else (b2 (D_X10_saveSnapshot (xs (x4 + (1 : Int32)).toNatClampNeg) x) (fun v9 m10 => b1 (D_X10_thrown m10) (fun v12 => if v12 = v2 then (if v2 = 0 then (if (gl m6 0 0) = v9.toInt64 then (bnd (x4 + (3 : Int32)) (fun v15 => k v15 m3 m f m4 m5 m10 m6)) else (none)) else (bnd (x4 + (3 : Int32)) (fun v14 => k v14 m3 m f m4 m5 m10 m6))) else (none))))))
set_option maxHeartbeats 4000000 in
set_option maxRecDepth 100000 in
theorem c_L_law_2852 (l : Launch) (hst : l.stackTraces = false) {p : Program} {e : Env} {s : State} {m0 : MethodId} {below : List Frame} {meth : Method} {c : Code} {b L : Nat} {xs : Nat → Int32} {D : va_G} {cs : Nat → ClassId} {A : Nat → Prop} {Q : State → Prop} {adh ad adf ad0 ad1 adx adu ma : Nat → Nat} {Wf : MM → MM → MM → MM → MM → MM → MM → va_W} (hLh : ∀ m f c0 c1 x u : MM, Ln 8 adh (hsh cs adh ma) (fun z => Wf z m f c0 c1 x u)) (hL : ∀ h f c0 c1 x u : MM, Ln 51 ad (msh cs ad) (fun z => Wf h z f c0 c1 x u)) (hLf : ∀ h m c0 c1 x u : MM, Ln 51 adf (msh cs adf) (fun z => Wf h m z c0 c1 x u)) (hL0 : ∀ h m f c1 x u : MM, Ln 51 ad0 (msh cs ad0) (fun z => Wf h m f z c1 x u)) (hL1 : ∀ h m f c0 x u : MM, Ln 51 ad1 (msh cs ad1) (fun z => Wf h m f c0 z x u)) (hLx : ∀ h m f c0 c1 u : MM, Ln 9 adx (xsh cs adx) (fun z => Wf h m f c0 c1 z u)) (hLu : ∀ h m f c0 c1 x : MM, Ln 1 adu (ush cs) (fun z => Wf h m f c0 c1 x z)) (hAd : ∀ a0_ b0_ a1_ b1_ a2_ b2_ a3_ b3_ a4_ b4_ a5_ b5_ a6_ b6_ : MM, (Wf a0_ a1_ a2_ a3_ a4_ a5_ a6_).map (fun q => q.1) = (Wf b0_ b1_ b2_ b3_ b4_ b5_ b6_).map (fun q => q.1)) (hm1 : ma 1 = ad 24) (hm2 : ma 2 = adf 24) (hm3 : ma 3 = ad0 24) (hm4 : ma 4 = ad1 24) (hLX : LX p s m0 c b L xs D cs A (Wf zMM zMM zMM zMM zMM zMM zMM)) (n : Nat) (k : LKont) (hk : LK p l e s m0 below meth c b D A Q adh adx adu Wf n k) (x4 : Int32) (h : MM) (m : MM) (f : MM) (c0 : MM) (c1 : MM) (x : MM) (u : MM) (cells slots : Nat) (H : Heap) (locs : List Loc) (ls : Array Slot) (hD : D_L_law_2852 L xs k x4 h m f c0 c1 x u = some ()) (hcl : cells + (n + 1) ≤ 601024) (hsl : slots + 6 * (n + 1) ≤ 7293034) (hP : va_P D vwCl (Wf h m f c0 c1 x u) H) (hS : va_S A s.heap H locs) (hl : lv_has ls 8 [(0, .ref b), (1, .ref (adh 0)), (2, .ref (adx 0)), (3, .ref (adu 0)), (4, .int x4)]) : W p l e room_1 s m0 #[Value.ref b] below meth c H locs cells slots Q (F0 m0 2852 ls []) := by
  obtain ⟨hx, hb, hml, hown, hK, hT⟩ := hLX.rest
  obtain ⟨Fx0, hX, hbl, hbA, hD1, hA1⟩ := hLX
  unfold D_L_law_2852 at hD
  refine lv_aload_n hx hb dL_law_2852 rfl (lv_at hl 1 rfl) ?_
  refine lv_aload_n hx hb dL_law_2853 rfl (lv_at hl 0 rfl) ?_
  refine lv_iload hx hb dL_law_2854 (lv_at hl 4 rfl) ?_
  refine lv_iconst (v := (1 : Int32)) hx hb dL_law_2856 (by decide) ?_
  refine lv_iadd hx hb dL_law_2857 ?_
  obtain ⟨h1, hD⟩ := gd_el hD
  refine va_sld hx hb hX hbl hbA hS h1 dL_law_2858 ?_
  refine lv_aload_n hx hb dL_law_2859 rfl (lv_at hl 3 rfl) ?_
  obtain ⟨v2, m3, m4, m5, m6, z7, hD⟩ := b5_el hD
  refine lrL (As := [.ref (adh 0), .int (xs (x4 + (1 : Int32)).toNatClampNeg), .ref (adu 0)]) (rest := []) Fx0 (c_L_saveSnapshot l hst (Wf := fun z0_ z1_ z2_ z3_ z4_ => Wf z0_ z1_ f z2_ z3_ x z4_) (fun z1_ z2_ z3_ z4_ => hLh z1_ f z2_ z3_ x z4_) (fun z0_ z2_ z3_ z4_ => hL z0_ f z2_ z3_ x z4_) (fun z0_ z1_ z3_ z4_ => hL0 z0_ z1_ f z3_ x z4_) (fun z0_ z1_ z2_ z4_ => hL1 z0_ z1_ f z2_ x z4_) (fun z0_ z1_ z2_ z3_ => hLu z0_ z1_ f z2_ z3_ x) (fun a0_ b0_ a1_ b1_ a2_ b2_ a3_ b3_ a4_ b4_ => hAd a0_ b0_ a1_ b1_ f f a2_ b2_ a3_ b3_ x x a4_ b4_) hm1 hm3 hm4 h m c0 c1 u (xs (x4 + (1 : Int32)).toNatClampNeg) z7) hP (hD1 _ (hAd _ _ _ _ _ _ _ _ _ _ _ _ _ _)) hS (hA1 _ _ (hAd _ _ _ _ _ _ _ _ _ _ _ _ _ _) hS.1) tw_6_194 tw_6_192 tw_6_193 tw_1_0 yd_L_saveSnapshot ⟨(Nat.le_of_ble_eq_true rfl), (Nat.le_of_ble_eq_true rfl)⟩ ⟨show _ + 1 ≤ 601024 by omega, show _ + 6 ≤ 7293034 by omega⟩ rfl hl.1 rfl (Nat.le_of_ble_eq_true rfl) dL_law_2860 (fun H locs hP hS => ?_)
  refine lv_istore (lv' := [(5, .int v2), (0, .ref b), (1, .ref (adh 0)), (2, .ref (adx 0)), (3, .ref (adu 0)), (4, .int x4)]) hx hb dL_law_2863 hl (by decide) rfl (fun ls hl => ?_)
  refine lv_aload_n hx hb dL_law_2865 rfl (lv_at hl 3 rfl) ?_
  refine lv_aload_n hx hb dL_law_2866 rfl (lv_at hl 1 rfl) ?_
  refine lv_iload hx hb dL_law_2867 (lv_at hl 5 rfl) ?_
  refine lv_iconst (v := (1 : Int32)) hx hb dL_law_2869 (by decide) ?_
  refine lv_iadd hx hb dL_law_2870 ?_
  obtain ⟨h8, hD⟩ := gd_el hD
  refine va_sld hx hb hX hbl hbA hS h8 dL_law_2871 ?_
  obtain ⟨v9, m10, z11, hD⟩ := b2_el hD
  refine lrV (Wf := fun z => Wf m3 m f m4 m5 z m6) (mm := x) (As := [.int (xs (x4 + (1 : Int32)).toNatClampNeg)]) (rest := []) Fx0 (c_X10_saveSnapshot l (Wf := fun z0_ => Wf m3 m f m4 m5 z0_ m6) (hLx m3 m f m4 m5 m6) (fun a0_ b0_ => hAd m3 m3 m m f f m4 m4 m5 m5 a0_ b0_ m6 m6) x (xs (x4 + (1 : Int32)).toNatClampNeg) z11) hP (hD1 _ (hAd _ _ _ _ _ _ _ _ _ _ _ _ _ _)) hS (hA1 _ _ (hAd _ _ _ _ _ _ _ _ _ _ _ _ _ _) hS.1) (hLx m3 m f m4 m5 m6) (Nat.le_of_ble_eq_true rfl) (xs0 _ _) rfl tw_9_164 tw_9_161 tw_9_162 tw_9_163 tw_1_13 yd_X10_saveSnapshot ⟨(Nat.le_of_ble_eq_true rfl), (Nat.le_of_ble_eq_true rfl)⟩ ⟨show _ ≤ 601024 by omega, show _ ≤ 7293034 by omega⟩ rfl hl.1 rfl (Nat.le_of_ble_eq_true rfl) dL_law_2872 (fun H locs hP hS => ?_)
  refine lv_istore (lv' := [(6, .int v9), (5, .int v2), (0, .ref b), (1, .ref (adh 0)), (2, .ref (adx 0)), (3, .ref (adu 0)), (4, .int x4)]) hx hb dL_law_2875 hl (by decide) rfl (fun ls hl => ?_)
  refine lv_aload_n hx hb dL_law_2877 rfl (lv_at hl 4 rfl) ?_
  obtain ⟨v12, z13, hD⟩ := b1_el hD
  refine lrV (Wf := fun z => Wf m3 m f m4 m5 z m6) (mm := m10) (As := []) (rest := []) Fx0 (c_X10_thrown l (Wf := fun z0_ => Wf m3 m f m4 m5 z0_ m6) (hLx m3 m f m4 m5 m6) (fun a0_ b0_ => hAd m3 m3 m m f f m4 m4 m5 m5 a0_ b0_ m6 m6) m10 z13) hP (hD1 _ (hAd _ _ _ _ _ _ _ _ _ _ _ _ _ _)) hS (hA1 _ _ (hAd _ _ _ _ _ _ _ _ _ _ _ _ _ _) hS.1) (hLx m3 m f m4 m5 m6) (Nat.le_of_ble_eq_true rfl) (xs0 _ _) rfl tw_7_30 tw_7_27 tw_7_28 tw_7_29 tw_1_13 yd_X10_thrown ⟨(Nat.le_of_ble_eq_true rfl), (Nat.le_of_ble_eq_true rfl)⟩ ⟨show _ ≤ 601024 by omega, show _ ≤ 7293034 by omega⟩ rfl hl.1 rfl (Nat.le_of_ble_eq_true rfl) dL_law_2878 (fun H locs hP hS => ?_)
  refine lv_iload hx hb dL_law_2881 (lv_at hl 1 rfl) ?_
  refine lv_icmp_eq (tgt := 2888) hx hb dL_law_2883 (by decide) (fun c => ?_) (fun c => ?_)
  · have hD := ifp hD c
    refine lv_iload hx hb dL_law_2888 (lv_at hl 1 rfl) ?_
    refine lv_if_ne (tgt := 2905) hx hb dL_law_2890 (by decide) (fun c => ?_) (fun c => ?_)
    · have hD := ifn hD c
      refine lv_goto (tgt := 2964) hx hb dL_law_2905 (by decide) ?_
      obtain ⟨v14, ev14, hD⟩ := bnd_el hD
      refine lv_iinc (v := v14) (lv' := [(4, .int v14), (6, .int v9), (5, .int v2), (0, .ref b), (1, .ref (adh 0)), (2, .ref (adx 0)), (3, .ref (adu 0))]) hx hb dL_law_2964 hl (k := 6) rfl (by rw [ev14]; rfl) (by decide) rfl (fun ls hl => ?_)
      refine lv_goto (tgt := 23) hx hb dL_law_2967 (by decide) ?_
      exact hk v14 m3 m f m4 m5 m10 m6 _ _ _ _ _ hD (show _ + n ≤ 601024 by omega) (show _ + 6 * n ≤ 7293034 by omega) hP hS (lv_sub hl [3, 4, 5, 6, 0] rfl)
    · have hD := ifp hD c
      refine lv_aload_n hx hb dL_law_2893 rfl (lv_at hl 5 rfl) ?_
      refine lv_iconst (v := (0 : Int32)) hx hb dL_law_2894 (by decide) ?_
      refine rlald (Wf := fun z => Wf m3 m f m4 m5 m10 z) (mm := m6) hx hb hK hP (hLu m3 m f m4 m5 m10) 0 (Nat.le_of_ble_eq_true rfl) (us0 _ _) (by decide) (j := 0) (by decide) dL_law_2895 ?_
      refine lv_iload hx hb dL_law_2896 (lv_at hl 0 rfl) ?_
      refine lv_i2l (v := v9.toInt64) hx hb dL_law_2898 rfl ?_
      refine rlc_eq (tgt := 2905) hx hb dL_law_2899 dL_law_2900 (by decide) (fun c => ?_) (fun c => ?_)
      · have hD := ifp hD c
        refine lv_goto (tgt := 2964) hx hb dL_law_2905 (by decide) ?_
        obtain ⟨v15, ev15, hD⟩ := bnd_el hD
        refine lv_iinc (v := v15) (lv' := [(4, .int v15), (6, .int v9), (5, .int v2), (0, .ref b), (1, .ref (adh 0)), (2, .ref (adx 0)), (3, .ref (adu 0))]) hx hb dL_law_2964 hl (k := 6) rfl (by rw [ev15]; rfl) (by decide) rfl (fun ls hl => ?_)
        refine lv_goto (tgt := 23) hx hb dL_law_2967 (by decide) ?_
        exact hk v15 m3 m f m4 m5 m10 m6 _ _ _ _ _ hD (show _ + n ≤ 601024 by omega) (show _ + 6 * n ≤ 7293034 by omega) hP hS (lv_sub hl [3, 4, 5, 6, 0] rfl)
      · have hD := ifn hD c
        refine lv_iconst (v := (0 : Int32)) hx hb dL_law_2903 (by decide) ?_
        exact nn_el hD
  · have hD := ifn hD c
    refine lv_iconst (v := (0 : Int32)) hx hb dL_law_2886 (by decide) ?_
    exact nn_el hD
noncomputable def D_L_law_2908 (L : Nat) (xs : Nat → Int32) (k : LKont) (x4 : Int32) (h : MM) (m : MM) (f : MM) (c0 : MM) (c1 : MM) (x : MM) (u : MM) : Option Unit := if (x4 + (1 : Int32)) < 0 ∨ L ≤ (x4 + (1 : Int32)).toNatClampNeg then none else (b3 (D_L_restoreSnapshot (xs (x4 + (1 : Int32)).toNatClampNeg) h m c0 c1 u) (fun v2 m3 m4 => if (x4 + (1 : Int32)) < 0 ∨ L ≤ (x4 + (1 : Int32)).toNatClampNeg then none else (b2 (D_X10_restoreSnapshot (xs (x4 + (1 : Int32)).toNatClampNeg) x) (fun v7 m8 => b1 (D_X10_thrown m8) (fun v10 => if v10 = v2 then (if v2 = 0 then (if (gl m4 0 0) = v7.toInt64 then (bnd (x4 + (3 : Int32)) (fun v13 => k v13 h m3 f c0 c1 m8 m4)) else (none)) else (bnd (x4 + (3 : Int32)) (fun v12 => k v12 h m3 f c0 c1 m8 m4))) else (none))))))
set_option maxHeartbeats 4000000 in
set_option maxRecDepth 100000 in
theorem c_L_law_2908 (l : Launch) (hst : l.stackTraces = false) {p : Program} {e : Env} {s : State} {m0 : MethodId} {below : List Frame} {meth : Method} {c : Code} {b L : Nat} {xs : Nat → Int32} {D : va_G} {cs : Nat → ClassId} {A : Nat → Prop} {Q : State → Prop} {adh ad adf ad0 ad1 adx adu ma : Nat → Nat} {Wf : MM → MM → MM → MM → MM → MM → MM → va_W} (hLh : ∀ m f c0 c1 x u : MM, Ln 8 adh (hsh cs adh ma) (fun z => Wf z m f c0 c1 x u)) (hL : ∀ h f c0 c1 x u : MM, Ln 51 ad (msh cs ad) (fun z => Wf h z f c0 c1 x u)) (hLf : ∀ h m c0 c1 x u : MM, Ln 51 adf (msh cs adf) (fun z => Wf h m z c0 c1 x u)) (hL0 : ∀ h m f c1 x u : MM, Ln 51 ad0 (msh cs ad0) (fun z => Wf h m f z c1 x u)) (hL1 : ∀ h m f c0 x u : MM, Ln 51 ad1 (msh cs ad1) (fun z => Wf h m f c0 z x u)) (hLx : ∀ h m f c0 c1 u : MM, Ln 9 adx (xsh cs adx) (fun z => Wf h m f c0 c1 z u)) (hLu : ∀ h m f c0 c1 x : MM, Ln 1 adu (ush cs) (fun z => Wf h m f c0 c1 x z)) (hAd : ∀ a0_ b0_ a1_ b1_ a2_ b2_ a3_ b3_ a4_ b4_ a5_ b5_ a6_ b6_ : MM, (Wf a0_ a1_ a2_ a3_ a4_ a5_ a6_).map (fun q => q.1) = (Wf b0_ b1_ b2_ b3_ b4_ b5_ b6_).map (fun q => q.1)) (hm1 : ma 1 = ad 24) (hm2 : ma 2 = adf 24) (hm3 : ma 3 = ad0 24) (hm4 : ma 4 = ad1 24) (hLX : LX p s m0 c b L xs D cs A (Wf zMM zMM zMM zMM zMM zMM zMM)) (n : Nat) (k : LKont) (hk : LK p l e s m0 below meth c b D A Q adh adx adu Wf n k) (x4 : Int32) (h : MM) (m : MM) (f : MM) (c0 : MM) (c1 : MM) (x : MM) (u : MM) (cells slots : Nat) (H : Heap) (locs : List Loc) (ls : Array Slot) (hD : D_L_law_2908 L xs k x4 h m f c0 c1 x u = some ()) (hcl : cells + (n + 1) ≤ 601024) (hsl : slots + 6 * (n + 1) ≤ 7293034) (hP : va_P D vwCl (Wf h m f c0 c1 x u) H) (hS : va_S A s.heap H locs) (hl : lv_has ls 8 [(0, .ref b), (1, .ref (adh 0)), (2, .ref (adx 0)), (3, .ref (adu 0)), (4, .int x4)]) : W p l e room_1 s m0 #[Value.ref b] below meth c H locs cells slots Q (F0 m0 2908 ls []) := by
  obtain ⟨hx, hb, hml, hown, hK, hT⟩ := hLX.rest
  obtain ⟨Fx0, hX, hbl, hbA, hD1, hA1⟩ := hLX
  unfold D_L_law_2908 at hD
  refine lv_aload_n hx hb dL_law_2908 rfl (lv_at hl 1 rfl) ?_
  refine lv_aload_n hx hb dL_law_2909 rfl (lv_at hl 0 rfl) ?_
  refine lv_iload hx hb dL_law_2910 (lv_at hl 4 rfl) ?_
  refine lv_iconst (v := (1 : Int32)) hx hb dL_law_2912 (by decide) ?_
  refine lv_iadd hx hb dL_law_2913 ?_
  obtain ⟨h1, hD⟩ := gd_el hD
  refine va_sld hx hb hX hbl hbA hS h1 dL_law_2914 ?_
  refine lv_aload_n hx hb dL_law_2915 rfl (lv_at hl 3 rfl) ?_
  obtain ⟨v2, m3, m4, z5, hD⟩ := b3_el hD
  refine lrL (As := [.ref (adh 0), .int (xs (x4 + (1 : Int32)).toNatClampNeg), .ref (adu 0)]) (rest := []) Fx0 (c_L_restoreSnapshot l hst (Wf := fun z0_ z1_ z2_ z3_ z4_ => Wf z0_ z1_ f z2_ z3_ x z4_) (fun z1_ z2_ z3_ z4_ => hLh z1_ f z2_ z3_ x z4_) (fun z0_ z2_ z3_ z4_ => hL z0_ f z2_ z3_ x z4_) (fun z0_ z1_ z3_ z4_ => hL0 z0_ z1_ f z3_ x z4_) (fun z0_ z1_ z2_ z4_ => hL1 z0_ z1_ f z2_ x z4_) (fun z0_ z1_ z2_ z3_ => hLu z0_ z1_ f z2_ z3_ x) (fun a0_ b0_ a1_ b1_ a2_ b2_ a3_ b3_ a4_ b4_ => hAd a0_ b0_ a1_ b1_ f f a2_ b2_ a3_ b3_ x x a4_ b4_) hm1 hm3 hm4 h m c0 c1 u (xs (x4 + (1 : Int32)).toNatClampNeg) z5) hP (hD1 _ (hAd _ _ _ _ _ _ _ _ _ _ _ _ _ _)) hS (hA1 _ _ (hAd _ _ _ _ _ _ _ _ _ _ _ _ _ _) hS.1) tw_6_201 tw_6_199 tw_6_200 tw_1_0 yd_L_restoreSnapshot ⟨(Nat.le_of_ble_eq_true rfl), (Nat.le_of_ble_eq_true rfl)⟩ ⟨show _ + 1 ≤ 601024 by omega, show _ + 6 ≤ 7293034 by omega⟩ rfl hl.1 rfl (Nat.le_of_ble_eq_true rfl) dL_law_2916 (fun H locs hP hS => ?_)
  refine lv_istore (lv' := [(5, .int v2), (0, .ref b), (1, .ref (adh 0)), (2, .ref (adx 0)), (3, .ref (adu 0)), (4, .int x4)]) hx hb dL_law_2919 hl (by decide) rfl (fun ls hl => ?_)
  refine lv_aload_n hx hb dL_law_2921 rfl (lv_at hl 3 rfl) ?_
  refine lv_aload_n hx hb dL_law_2922 rfl (lv_at hl 1 rfl) ?_
  refine lv_iload hx hb dL_law_2923 (lv_at hl 5 rfl) ?_
  refine lv_iconst (v := (1 : Int32)) hx hb dL_law_2925 (by decide) ?_
  refine lv_iadd hx hb dL_law_2926 ?_
  obtain ⟨h6, hD⟩ := gd_el hD
  refine va_sld hx hb hX hbl hbA hS h6 dL_law_2927 ?_
  obtain ⟨v7, m8, z9, hD⟩ := b2_el hD
  refine lrV (Wf := fun z => Wf h m3 f c0 c1 z m4) (mm := x) (As := [.int (xs (x4 + (1 : Int32)).toNatClampNeg)]) (rest := []) Fx0 (c_X10_restoreSnapshot l (Wf := fun z0_ => Wf h m3 f c0 c1 z0_ m4) (hLx h m3 f c0 c1 m4) (fun a0_ b0_ => hAd h h m3 m3 f f c0 c0 c1 c1 a0_ b0_ m4 m4) x (xs (x4 + (1 : Int32)).toNatClampNeg) z9) hP (hD1 _ (hAd _ _ _ _ _ _ _ _ _ _ _ _ _ _)) hS (hA1 _ _ (hAd _ _ _ _ _ _ _ _ _ _ _ _ _ _) hS.1) (hLx h m3 f c0 c1 m4) (Nat.le_of_ble_eq_true rfl) (xs0 _ _) rfl tw_9_172 tw_9_169 tw_9_170 tw_9_171 tw_1_13 yd_X10_restoreSnapshot ⟨(Nat.le_of_ble_eq_true rfl), (Nat.le_of_ble_eq_true rfl)⟩ ⟨show _ ≤ 601024 by omega, show _ ≤ 7293034 by omega⟩ rfl hl.1 rfl (Nat.le_of_ble_eq_true rfl) dL_law_2928 (fun H locs hP hS => ?_)
  refine lv_istore (lv' := [(6, .int v7), (5, .int v2), (0, .ref b), (1, .ref (adh 0)), (2, .ref (adx 0)), (3, .ref (adu 0)), (4, .int x4)]) hx hb dL_law_2931 hl (by decide) rfl (fun ls hl => ?_)
  refine lv_aload_n hx hb dL_law_2933 rfl (lv_at hl 4 rfl) ?_
  obtain ⟨v10, z11, hD⟩ := b1_el hD
  refine lrV (Wf := fun z => Wf h m3 f c0 c1 z m4) (mm := m8) (As := []) (rest := []) Fx0 (c_X10_thrown l (Wf := fun z0_ => Wf h m3 f c0 c1 z0_ m4) (hLx h m3 f c0 c1 m4) (fun a0_ b0_ => hAd h h m3 m3 f f c0 c0 c1 c1 a0_ b0_ m4 m4) m8 z11) hP (hD1 _ (hAd _ _ _ _ _ _ _ _ _ _ _ _ _ _)) hS (hA1 _ _ (hAd _ _ _ _ _ _ _ _ _ _ _ _ _ _) hS.1) (hLx h m3 f c0 c1 m4) (Nat.le_of_ble_eq_true rfl) (xs0 _ _) rfl tw_7_30 tw_7_27 tw_7_28 tw_7_29 tw_1_13 yd_X10_thrown ⟨(Nat.le_of_ble_eq_true rfl), (Nat.le_of_ble_eq_true rfl)⟩ ⟨show _ ≤ 601024 by omega, show _ ≤ 7293034 by omega⟩ rfl hl.1 rfl (Nat.le_of_ble_eq_true rfl) dL_law_2934 (fun H locs hP hS => ?_)
  refine lv_iload hx hb dL_law_2937 (lv_at hl 1 rfl) ?_
  refine lv_icmp_eq (tgt := 2944) hx hb dL_law_2939 (by decide) (fun c => ?_) (fun c => ?_)
  · have hD := ifp hD c
    refine lv_iload hx hb dL_law_2944 (lv_at hl 1 rfl) ?_
    refine lv_if_ne (tgt := 2961) hx hb dL_law_2946 (by decide) (fun c => ?_) (fun c => ?_)
    · have hD := ifn hD c
      refine lv_goto (tgt := 2964) hx hb dL_law_2961 (by decide) ?_
      obtain ⟨v12, ev12, hD⟩ := bnd_el hD
      refine lv_iinc (v := v12) (lv' := [(4, .int v12), (6, .int v7), (5, .int v2), (0, .ref b), (1, .ref (adh 0)), (2, .ref (adx 0)), (3, .ref (adu 0))]) hx hb dL_law_2964 hl (k := 6) rfl (by rw [ev12]; rfl) (by decide) rfl (fun ls hl => ?_)
      refine lv_goto (tgt := 23) hx hb dL_law_2967 (by decide) ?_
      exact hk v12 h m3 f c0 c1 m8 m4 _ _ _ _ _ hD (show _ + n ≤ 601024 by omega) (show _ + 6 * n ≤ 7293034 by omega) hP hS (lv_sub hl [3, 4, 5, 6, 0] rfl)
    · have hD := ifp hD c
      refine lv_aload_n hx hb dL_law_2949 rfl (lv_at hl 5 rfl) ?_
      refine lv_iconst (v := (0 : Int32)) hx hb dL_law_2950 (by decide) ?_
      refine rlald (Wf := fun z => Wf h m3 f c0 c1 m8 z) (mm := m4) hx hb hK hP (hLu h m3 f c0 c1 m8) 0 (Nat.le_of_ble_eq_true rfl) (us0 _ _) (by decide) (j := 0) (by decide) dL_law_2951 ?_
      refine lv_iload hx hb dL_law_2952 (lv_at hl 0 rfl) ?_
      refine lv_i2l (v := v7.toInt64) hx hb dL_law_2954 rfl ?_
      refine rlc_eq (tgt := 2961) hx hb dL_law_2955 dL_law_2956 (by decide) (fun c => ?_) (fun c => ?_)
      · have hD := ifp hD c
        refine lv_goto (tgt := 2964) hx hb dL_law_2961 (by decide) ?_
        obtain ⟨v13, ev13, hD⟩ := bnd_el hD
        refine lv_iinc (v := v13) (lv' := [(4, .int v13), (6, .int v7), (5, .int v2), (0, .ref b), (1, .ref (adh 0)), (2, .ref (adx 0)), (3, .ref (adu 0))]) hx hb dL_law_2964 hl (k := 6) rfl (by rw [ev13]; rfl) (by decide) rfl (fun ls hl => ?_)
        refine lv_goto (tgt := 23) hx hb dL_law_2967 (by decide) ?_
        exact hk v13 h m3 f c0 c1 m8 m4 _ _ _ _ _ hD (show _ + n ≤ 601024 by omega) (show _ + 6 * n ≤ 7293034 by omega) hP hS (lv_sub hl [3, 4, 5, 6, 0] rfl)
      · have hD := ifn hD c
        refine lv_iconst (v := (0 : Int32)) hx hb dL_law_2959 (by decide) ?_
        exact nn_el hD
  · have hD := ifn hD c
    refine lv_iconst (v := (0 : Int32)) hx hb dL_law_2942 (by decide) ?_
    exact nn_el hD
noncomputable def D_L_sw (L : Nat) (xs : Nat → Int32) (k : LKont) (v x4 : Int32) (h : MM) (m : MM) (f : MM) (c0 : MM) (c1 : MM) (x : MM) (u : MM) : Option Unit := if (61 : Int32) < v then (bnd (x4 + (3 : Int32)) (fun v1 => k v1 h m f c0 c1 x u)) else (if v < 0 then (bnd (x4 + (3 : Int32)) (fun v1 => k v1 h m f c0 c1 x u)) else (if v ≤ (30 : Int32) then (if v ≤ (15 : Int32) then (if v ≤ (7 : Int32) then (if v ≤ (3 : Int32) then (if v ≤ (1 : Int32) then (if v ≤ (0 : Int32) then (D_L_law_300 L xs k x4 h m f c0 c1 x u) else (D_L_law_357 L xs k x4 h m f c0 c1 x u)) else (if v ≤ (2 : Int32) then (D_L_law_370 L xs k x4 h m f c0 c1 x u) else (D_L_law_383 L xs k x4 h m f c0 c1 x u))) else (if v ≤ (5 : Int32) then (if v ≤ (4 : Int32) then (D_L_law_439 L xs k x4 h m f c0 c1 x u) else (D_L_law_495 L xs k x4 h m f c0 c1 x u)) else (if v ≤ (6 : Int32) then (D_L_law_563 L xs k x4 h m f c0 c1 x u) else (D_L_law_631 L xs k x4 h m f c0 c1 x u)))) else (if v ≤ (11 : Int32) then (if v ≤ (9 : Int32) then (if v ≤ (8 : Int32) then (D_L_law_687 L xs k x4 h m f c0 c1 x u) else (D_L_law_743 L xs k x4 h m f c0 c1 x u)) else (if v ≤ (10 : Int32) then (D_L_law_811 L xs k x4 h m f c0 c1 x u) else (D_L_law_879 L xs k x4 h m f c0 c1 x u))) else (if v ≤ (13 : Int32) then (if v ≤ (12 : Int32) then (D_L_law_935 L xs k x4 h m f c0 c1 x u) else (D_L_law_1003 L xs k x4 h m f c0 c1 x u)) else (if v ≤ (14 : Int32) then (D_L_law_1071 L xs k x4 h m f c0 c1 x u) else (D_L_law_1127 L xs k x4 h m f c0 c1 x u))))) else (if v ≤ (23 : Int32) then (if v ≤ (19 : Int32) then (if v ≤ (17 : Int32) then (if v ≤ (16 : Int32) then (D_L_law_1195 L xs k x4 h m f c0 c1 x u) else (D_L_law_1286 L xs k x4 h m f c0 c1 x u)) else (if v ≤ (18 : Int32) then (D_L_law_1342 L xs k x4 h m f c0 c1 x u) else (D_L_law_1410 L xs k x4 h m f c0 c1 x u))) else (if v ≤ (21 : Int32) then (if v ≤ (20 : Int32) then (D_L_law_1485 L xs k x4 h m f c0 c1 x u) else (D_L_law_1540 L xs k x4 h m f c0 c1 x u)) else (if v ≤ (22 : Int32) then (D_L_law_1596 L xs k x4 h m f c0 c1 x u) else (D_L_law_1610 L xs k x4 h m f c0 c1 x u)))) else (if v ≤ (27 : Int32) then (if v ≤ (25 : Int32) then (if v ≤ (24 : Int32) then (D_L_law_1624 L xs k x4 h m f c0 c1 x u) else (D_L_law_1637 L xs k x4 h m f c0 c1 x u)) else (if v ≤ (26 : Int32) then (D_L_law_1650 L xs k x4 h m f c0 c1 x u) else (D_L_law_1718 L xs k x4 h m f c0 c1 x u))) else (if v ≤ (29 : Int32) then (if v ≤ (28 : Int32) then (D_L_law_1786 L xs k x4 h m f c0 c1 x u) else (D_L_law_1842 L xs k x4 h m f c0 c1 x u)) else (D_L_law_1910 L xs k x4 h m f c0 c1 x u))))) else (if v ≤ (46 : Int32) then (if v ≤ (38 : Int32) then (if v ≤ (34 : Int32) then (if v ≤ (32 : Int32) then (if v ≤ (31 : Int32) then (D_L_law_1966 L xs k x4 h m f c0 c1 x u) else (D_L_law_2022 L xs k x4 h m f c0 c1 x u)) else (if v ≤ (33 : Int32) then (D_L_law_2035 L xs k x4 h m f c0 c1 x u) else (D_L_law_2048 L xs k x4 h m f c0 c1 x u))) else (if v ≤ (36 : Int32) then (if v ≤ (35 : Int32) then (D_L_law_2104 L xs k x4 h m f c0 c1 x u) else (D_L_law_2117 L xs k x4 h m f c0 c1 x u)) else (if v ≤ (37 : Int32) then (D_L_law_2130 L xs k x4 h m f c0 c1 x u) else (D_L_law_2198 L xs k x4 h m f c0 c1 x u)))) else (if v ≤ (42 : Int32) then (if v ≤ (40 : Int32) then (if v ≤ (39 : Int32) then (D_L_law_2211 L xs k x4 h m f c0 c1 x u) else (D_L_law_2224 L xs k x4 h m f c0 c1 x u)) else (if v ≤ (41 : Int32) then (D_L_law_2280 L xs k x4 h m f c0 c1 x u) else (D_L_law_2336 L xs k x4 h m f c0 c1 x u))) else (if v ≤ (44 : Int32) then (if v ≤ (43 : Int32) then (D_L_law_2392 L xs k x4 h m f c0 c1 x u) else (D_L_law_2448 L xs k x4 h m f c0 c1 x u)) else (if v ≤ (45 : Int32) then (D_L_law_2461 L xs k x4 h m f c0 c1 x u) else (D_L_law_2474 L xs k x4 h m f c0 c1 x u))))) else (if v ≤ (54 : Int32) then (if v ≤ (50 : Int32) then (if v ≤ (48 : Int32) then (if v ≤ (47 : Int32) then (D_L_law_2542 L xs k x4 h m f c0 c1 x u) else (D_L_law_2555 L xs k x4 h m f c0 c1 x u)) else (if v ≤ (49 : Int32) then (D_L_law_2568 L xs k x4 h m f c0 c1 x u) else (D_L_law_2581 L xs k x4 h m f c0 c1 x u))) else (if v ≤ (52 : Int32) then (if v ≤ (51 : Int32) then (D_L_law_2637 L xs k x4 h m f c0 c1 x u) else (D_L_law_2705 L xs k x4 h m f c0 c1 x u)) else (if v ≤ (53 : Int32) then (D_L_law_2718 L xs k x4 h m f c0 c1 x u) else (D_L_law_2774 L xs k x4 h m f c0 c1 x u)))) else (if v ≤ (58 : Int32) then (if v ≤ (56 : Int32) then (if v ≤ (55 : Int32) then (D_L_law_2787 L xs k x4 h m f c0 c1 x u) else (D_L_law_2800 L xs k x4 h m f c0 c1 x u)) else (if v ≤ (57 : Int32) then (D_L_law_2813 L xs k x4 h m f c0 c1 x u) else (D_L_law_2826 L xs k x4 h m f c0 c1 x u))) else (if v ≤ (60 : Int32) then (if v ≤ (59 : Int32) then (D_L_law_2839 L xs k x4 h m f c0 c1 x u) else (D_L_law_2852 L xs k x4 h m f c0 c1 x u)) else (D_L_law_2908 L xs k x4 h m f c0 c1 x u)))))))
noncomputable def D_L_law (L : Nat) (xs : Nat → Int32) : Nat → LKont
  | 0 => fun _ _ _ _ _ _ _ _ => none
  | n + 1 => fun x4 h m f c0 c1 x u => if Int32.ofNat L - (3 : Int32) < x4 then some () else (if x4 < 0 ∨ L ≤ x4.toNatClampNeg then none else (bnd ((xs x4.toNatClampNeg) &&& (63 : Int32)) (fun v => D_L_sw L xs (D_L_law L xs n) v x4 h m f c0 c1 x u)))
theorem sw_mid {v : Int32} {lo hi : Int} (h1 : lo ≤ v.toInt) (h2 : v.toInt ≤ hi) (he : lo = hi) : v.toInt = lo := by omega
theorem i32_gt {v a : Int32} {z : Int} (h : ¬ v ≤ a) (hz : z = a.toInt + 1 := by rfl) : z ≤ v.toInt := by
  rw [Int32.le_iff_toInt_le] at h
  omega
set_option maxHeartbeats 8000000 in
set_option maxRecDepth 100000 in
theorem c_L_sw (l : Launch) (hst : l.stackTraces = false) {p : Program} {e : Env} {s : State} {m0 : MethodId} {below : List Frame} {meth : Method} {c : Code} {b L : Nat} {xs : Nat → Int32} {D : va_G} {cs : Nat → ClassId} {A : Nat → Prop} {Q : State → Prop} {adh ad adf ad0 ad1 adx adu ma : Nat → Nat} {Wf : MM → MM → MM → MM → MM → MM → MM → va_W} (hLh : ∀ m f c0 c1 x u : MM, Ln 8 adh (hsh cs adh ma) (fun z => Wf z m f c0 c1 x u)) (hL : ∀ h f c0 c1 x u : MM, Ln 51 ad (msh cs ad) (fun z => Wf h z f c0 c1 x u)) (hLf : ∀ h m c0 c1 x u : MM, Ln 51 adf (msh cs adf) (fun z => Wf h m z c0 c1 x u)) (hL0 : ∀ h m f c1 x u : MM, Ln 51 ad0 (msh cs ad0) (fun z => Wf h m f z c1 x u)) (hL1 : ∀ h m f c0 x u : MM, Ln 51 ad1 (msh cs ad1) (fun z => Wf h m f c0 z x u)) (hLx : ∀ h m f c0 c1 u : MM, Ln 9 adx (xsh cs adx) (fun z => Wf h m f c0 c1 z u)) (hLu : ∀ h m f c0 c1 x : MM, Ln 1 adu (ush cs) (fun z => Wf h m f c0 c1 x z)) (hAd : ∀ a0_ b0_ a1_ b1_ a2_ b2_ a3_ b3_ a4_ b4_ a5_ b5_ a6_ b6_ : MM, (Wf a0_ a1_ a2_ a3_ a4_ a5_ a6_).map (fun q => q.1) = (Wf b0_ b1_ b2_ b3_ b4_ b5_ b6_).map (fun q => q.1)) (hm1 : ma 1 = ad 24) (hm2 : ma 2 = adf 24) (hm3 : ma 3 = ad0 24) (hm4 : ma 4 = ad1 24) (hLX : LX p s m0 c b L xs D cs A (Wf zMM zMM zMM zMM zMM zMM zMM)) (n : Nat) (k : LKont) (hk : LK p l e s m0 below meth c b D A Q adh adx adu Wf n k) (v x4 : Int32) (h : MM) (m : MM) (f : MM) (c0 : MM) (c1 : MM) (x : MM) (u : MM) (cells slots : Nat) (H : Heap) (locs : List Loc) (ls : Array Slot) (hD : D_L_sw L xs k v x4 h m f c0 c1 x u = some ()) (hcl : cells + (n + 1) ≤ 601024) (hsl : slots + 6 * (n + 1) ≤ 7293034) (hP : va_P D vwCl (Wf h m f c0 c1 x u) H) (hS : va_S A s.heap H locs) (hl : lv_has ls 8 [(0, .ref b), (1, .ref (adh 0)), (2, .ref (adx 0)), (3, .ref (adu 0)), (4, .int x4)]) : W p l e room_1 s m0 #[Value.ref b] below meth c H locs cells slots Q (F0 m0 39 ls [.int v]) := by
  obtain ⟨hx, hb, hml, hown, hK, hT⟩ := hLX.rest
  unfold D_L_sw at hD
  by_cases cv1 : (61 : Int32) < v
  · have hD := ifp hD cv1
    have cv2 : (61 : Int) < v.toInt := Int32.lt_iff_toInt_lt.mp cv1
    refine lv_tableOut (tgt := 2964) hx hb dL_law_39 (Or.inr cv2) (by decide) ?_
    obtain ⟨v1, ev1, hD⟩ := bnd_el hD
    refine lv_iinc (v := v1) (lv' := [(4, .int v1), (0, .ref b), (1, .ref (adh 0)), (2, .ref (adx 0)), (3, .ref (adu 0))]) hx hb dL_law_2964 hl (k := 4) rfl (by rw [ev1]; rfl) (by decide) rfl (fun ls hl => ?_)
    refine lv_goto (tgt := 23) hx hb dL_law_2967 (by decide) ?_
    exact hk v1 h m f c0 c1 x u _ _ _ _ _ hD (show _ + n ≤ 601024 by omega) (show _ + 6 * n ≤ 7293034 by omega) hP hS (lv_sub hl [1, 2, 3, 4, 0] rfl)
  have hD := ifn hD cv1
  by_cases cv3 : v < 0
  · have hD := ifp hD cv3
    have cv4 : v.toInt < (0 : Int) := Int32.lt_iff_toInt_lt.mp cv3
    refine lv_tableOut (tgt := 2964) hx hb dL_law_39 (Or.inl cv4) (by decide) ?_
    obtain ⟨v1, ev1, hD⟩ := bnd_el hD
    refine lv_iinc (v := v1) (lv' := [(4, .int v1), (0, .ref b), (1, .ref (adh 0)), (2, .ref (adx 0)), (3, .ref (adu 0))]) hx hb dL_law_2964 hl (k := 4) rfl (by rw [ev1]; rfl) (by decide) rfl (fun ls hl => ?_)
    refine lv_goto (tgt := 23) hx hb dL_law_2967 (by decide) ?_
    exact hk v1 h m f c0 c1 x u _ _ _ _ _ hD (show _ + n ≤ 601024 by omega) (show _ + 6 * n ≤ 7293034 by omega) hP hS (lv_sub hl [1, 2, 3, 4, 0] rfl)
  have hD := ifn hD cv3
  have u_0 : (0 : Int) ≤ v.toInt := Int32.le_iff_toInt_le.mp (i32_nlt cv3)
  have w_61 : v.toInt ≤ (61 : Int) := Int32.le_iff_toInt_le.mp (i32_nlt cv1)
  by_cases b_0_61 : v ≤ (30 : Int32)
  · have hD := ifp hD b_0_61
    have w_30 : v.toInt ≤ (30 : Int) := Int32.le_iff_toInt_le.mp b_0_61
    by_cases b_0_30 : v ≤ (15 : Int32)
    · have hD := ifp hD b_0_30
      have w_15 : v.toInt ≤ (15 : Int) := Int32.le_iff_toInt_le.mp b_0_30
      by_cases b_0_15 : v ≤ (7 : Int32)
      · have hD := ifp hD b_0_15
        have w_7 : v.toInt ≤ (7 : Int) := Int32.le_iff_toInt_le.mp b_0_15
        by_cases b_0_7 : v ≤ (3 : Int32)
        · have hD := ifp hD b_0_7
          have w_3 : v.toInt ≤ (3 : Int) := Int32.le_iff_toInt_le.mp b_0_7
          by_cases b_0_3 : v ≤ (1 : Int32)
          · have hD := ifp hD b_0_3
            have w_1 : v.toInt ≤ (1 : Int) := Int32.le_iff_toInt_le.mp b_0_3
            by_cases b_0_1 : v ≤ (0 : Int32)
            · have hD := ifp hD b_0_1
              have w_0 : v.toInt ≤ (0 : Int) := Int32.le_iff_toInt_le.mp b_0_1
              have e0 : v.toInt = (0 : Int) := by omega
              refine lv_tableIn (off := 261) (tgt := 300) hx hb dL_law_39 (by rw [e0]; decide) (by rw [e0]; decide) (by rw [e0]; rfl) (by decide) ?_
              exact c_L_law_300 l hst hLh hL hLf hL0 hL1 hLx hLu hAd hm1 hm2 hm3 hm4 hLX n k hk x4 h m f c0 c1 x u cells slots H locs ls hD hcl hsl hP hS hl
            · have hD := ifn hD b_0_1
              have u_1 : (1 : Int) ≤ v.toInt := i32_gt b_0_1
              have e0 : v.toInt = (1 : Int) := by omega
              refine lv_tableIn (off := 318) (tgt := 357) hx hb dL_law_39 (by rw [e0]; decide) (by rw [e0]; decide) (by rw [e0]; rfl) (by decide) ?_
              exact c_L_law_357 l hst hLh hL hLf hL0 hL1 hLx hLu hAd hm1 hm2 hm3 hm4 hLX n k hk x4 h m f c0 c1 x u cells slots H locs ls hD hcl hsl hP hS hl
          · have hD := ifn hD b_0_3
            have u_2 : (2 : Int) ≤ v.toInt := i32_gt b_0_3
            by_cases b_2_3 : v ≤ (2 : Int32)
            · have hD := ifp hD b_2_3
              have w_2 : v.toInt ≤ (2 : Int) := Int32.le_iff_toInt_le.mp b_2_3
              have e0 : v.toInt = (2 : Int) := by omega
              refine lv_tableIn (off := 331) (tgt := 370) hx hb dL_law_39 (by rw [e0]; decide) (by rw [e0]; decide) (by rw [e0]; rfl) (by decide) ?_
              exact c_L_law_370 l hst hLh hL hLf hL0 hL1 hLx hLu hAd hm1 hm2 hm3 hm4 hLX n k hk x4 h m f c0 c1 x u cells slots H locs ls hD hcl hsl hP hS hl
            · have hD := ifn hD b_2_3
              have u_3 : (3 : Int) ≤ v.toInt := i32_gt b_2_3
              have e0 : v.toInt = (3 : Int) := by omega
              refine lv_tableIn (off := 344) (tgt := 383) hx hb dL_law_39 (by rw [e0]; decide) (by rw [e0]; decide) (by rw [e0]; rfl) (by decide) ?_
              exact c_L_law_383 l hst hLh hL hLf hL0 hL1 hLx hLu hAd hm1 hm2 hm3 hm4 hLX n k hk x4 h m f c0 c1 x u cells slots H locs ls hD hcl hsl hP hS hl
        · have hD := ifn hD b_0_7
          have u_4 : (4 : Int) ≤ v.toInt := i32_gt b_0_7
          by_cases b_4_7 : v ≤ (5 : Int32)
          · have hD := ifp hD b_4_7
            have w_5 : v.toInt ≤ (5 : Int) := Int32.le_iff_toInt_le.mp b_4_7
            by_cases b_4_5 : v ≤ (4 : Int32)
            · have hD := ifp hD b_4_5
              have w_4 : v.toInt ≤ (4 : Int) := Int32.le_iff_toInt_le.mp b_4_5
              have e0 : v.toInt = (4 : Int) := by omega
              refine lv_tableIn (off := 400) (tgt := 439) hx hb dL_law_39 (by rw [e0]; decide) (by rw [e0]; decide) (by rw [e0]; rfl) (by decide) ?_
              exact c_L_law_439 l hst hLh hL hLf hL0 hL1 hLx hLu hAd hm1 hm2 hm3 hm4 hLX n k hk x4 h m f c0 c1 x u cells slots H locs ls hD hcl hsl hP hS hl
            · have hD := ifn hD b_4_5
              have u_5 : (5 : Int) ≤ v.toInt := i32_gt b_4_5
              have e0 : v.toInt = (5 : Int) := by omega
              refine lv_tableIn (off := 456) (tgt := 495) hx hb dL_law_39 (by rw [e0]; decide) (by rw [e0]; decide) (by rw [e0]; rfl) (by decide) ?_
              exact c_L_law_495 l hst hLh hL hLf hL0 hL1 hLx hLu hAd hm1 hm2 hm3 hm4 hLX n k hk x4 h m f c0 c1 x u cells slots H locs ls hD hcl hsl hP hS hl
          · have hD := ifn hD b_4_7
            have u_6 : (6 : Int) ≤ v.toInt := i32_gt b_4_7
            by_cases b_6_7 : v ≤ (6 : Int32)
            · have hD := ifp hD b_6_7
              have w_6 : v.toInt ≤ (6 : Int) := Int32.le_iff_toInt_le.mp b_6_7
              have e0 : v.toInt = (6 : Int) := by omega
              refine lv_tableIn (off := 524) (tgt := 563) hx hb dL_law_39 (by rw [e0]; decide) (by rw [e0]; decide) (by rw [e0]; rfl) (by decide) ?_
              exact c_L_law_563 l hst hLh hL hLf hL0 hL1 hLx hLu hAd hm1 hm2 hm3 hm4 hLX n k hk x4 h m f c0 c1 x u cells slots H locs ls hD hcl hsl hP hS hl
            · have hD := ifn hD b_6_7
              have u_7 : (7 : Int) ≤ v.toInt := i32_gt b_6_7
              have e0 : v.toInt = (7 : Int) := by omega
              refine lv_tableIn (off := 592) (tgt := 631) hx hb dL_law_39 (by rw [e0]; decide) (by rw [e0]; decide) (by rw [e0]; rfl) (by decide) ?_
              exact c_L_law_631 l hst hLh hL hLf hL0 hL1 hLx hLu hAd hm1 hm2 hm3 hm4 hLX n k hk x4 h m f c0 c1 x u cells slots H locs ls hD hcl hsl hP hS hl
      · have hD := ifn hD b_0_15
        have u_8 : (8 : Int) ≤ v.toInt := i32_gt b_0_15
        by_cases b_8_15 : v ≤ (11 : Int32)
        · have hD := ifp hD b_8_15
          have w_11 : v.toInt ≤ (11 : Int) := Int32.le_iff_toInt_le.mp b_8_15
          by_cases b_8_11 : v ≤ (9 : Int32)
          · have hD := ifp hD b_8_11
            have w_9 : v.toInt ≤ (9 : Int) := Int32.le_iff_toInt_le.mp b_8_11
            by_cases b_8_9 : v ≤ (8 : Int32)
            · have hD := ifp hD b_8_9
              have w_8 : v.toInt ≤ (8 : Int) := Int32.le_iff_toInt_le.mp b_8_9
              have e0 : v.toInt = (8 : Int) := by omega
              refine lv_tableIn (off := 648) (tgt := 687) hx hb dL_law_39 (by rw [e0]; decide) (by rw [e0]; decide) (by rw [e0]; rfl) (by decide) ?_
              exact c_L_law_687 l hst hLh hL hLf hL0 hL1 hLx hLu hAd hm1 hm2 hm3 hm4 hLX n k hk x4 h m f c0 c1 x u cells slots H locs ls hD hcl hsl hP hS hl
            · have hD := ifn hD b_8_9
              have u_9 : (9 : Int) ≤ v.toInt := i32_gt b_8_9
              have e0 : v.toInt = (9 : Int) := by omega
              refine lv_tableIn (off := 704) (tgt := 743) hx hb dL_law_39 (by rw [e0]; decide) (by rw [e0]; decide) (by rw [e0]; rfl) (by decide) ?_
              exact c_L_law_743 l hst hLh hL hLf hL0 hL1 hLx hLu hAd hm1 hm2 hm3 hm4 hLX n k hk x4 h m f c0 c1 x u cells slots H locs ls hD hcl hsl hP hS hl
          · have hD := ifn hD b_8_11
            have u_10 : (10 : Int) ≤ v.toInt := i32_gt b_8_11
            by_cases b_10_11 : v ≤ (10 : Int32)
            · have hD := ifp hD b_10_11
              have w_10 : v.toInt ≤ (10 : Int) := Int32.le_iff_toInt_le.mp b_10_11
              have e0 : v.toInt = (10 : Int) := by omega
              refine lv_tableIn (off := 772) (tgt := 811) hx hb dL_law_39 (by rw [e0]; decide) (by rw [e0]; decide) (by rw [e0]; rfl) (by decide) ?_
              exact c_L_law_811 l hst hLh hL hLf hL0 hL1 hLx hLu hAd hm1 hm2 hm3 hm4 hLX n k hk x4 h m f c0 c1 x u cells slots H locs ls hD hcl hsl hP hS hl
            · have hD := ifn hD b_10_11
              have u_11 : (11 : Int) ≤ v.toInt := i32_gt b_10_11
              have e0 : v.toInt = (11 : Int) := by omega
              refine lv_tableIn (off := 840) (tgt := 879) hx hb dL_law_39 (by rw [e0]; decide) (by rw [e0]; decide) (by rw [e0]; rfl) (by decide) ?_
              exact c_L_law_879 l hst hLh hL hLf hL0 hL1 hLx hLu hAd hm1 hm2 hm3 hm4 hLX n k hk x4 h m f c0 c1 x u cells slots H locs ls hD hcl hsl hP hS hl
        · have hD := ifn hD b_8_15
          have u_12 : (12 : Int) ≤ v.toInt := i32_gt b_8_15
          by_cases b_12_15 : v ≤ (13 : Int32)
          · have hD := ifp hD b_12_15
            have w_13 : v.toInt ≤ (13 : Int) := Int32.le_iff_toInt_le.mp b_12_15
            by_cases b_12_13 : v ≤ (12 : Int32)
            · have hD := ifp hD b_12_13
              have w_12 : v.toInt ≤ (12 : Int) := Int32.le_iff_toInt_le.mp b_12_13
              have e0 : v.toInt = (12 : Int) := by omega
              refine lv_tableIn (off := 896) (tgt := 935) hx hb dL_law_39 (by rw [e0]; decide) (by rw [e0]; decide) (by rw [e0]; rfl) (by decide) ?_
              exact c_L_law_935 l hst hLh hL hLf hL0 hL1 hLx hLu hAd hm1 hm2 hm3 hm4 hLX n k hk x4 h m f c0 c1 x u cells slots H locs ls hD hcl hsl hP hS hl
            · have hD := ifn hD b_12_13
              have u_13 : (13 : Int) ≤ v.toInt := i32_gt b_12_13
              have e0 : v.toInt = (13 : Int) := by omega
              refine lv_tableIn (off := 964) (tgt := 1003) hx hb dL_law_39 (by rw [e0]; decide) (by rw [e0]; decide) (by rw [e0]; rfl) (by decide) ?_
              exact c_L_law_1003 l hst hLh hL hLf hL0 hL1 hLx hLu hAd hm1 hm2 hm3 hm4 hLX n k hk x4 h m f c0 c1 x u cells slots H locs ls hD hcl hsl hP hS hl
          · have hD := ifn hD b_12_15
            have u_14 : (14 : Int) ≤ v.toInt := i32_gt b_12_15
            by_cases b_14_15 : v ≤ (14 : Int32)
            · have hD := ifp hD b_14_15
              have w_14 : v.toInt ≤ (14 : Int) := Int32.le_iff_toInt_le.mp b_14_15
              have e0 : v.toInt = (14 : Int) := by omega
              refine lv_tableIn (off := 1032) (tgt := 1071) hx hb dL_law_39 (by rw [e0]; decide) (by rw [e0]; decide) (by rw [e0]; rfl) (by decide) ?_
              exact c_L_law_1071 l hst hLh hL hLf hL0 hL1 hLx hLu hAd hm1 hm2 hm3 hm4 hLX n k hk x4 h m f c0 c1 x u cells slots H locs ls hD hcl hsl hP hS hl
            · have hD := ifn hD b_14_15
              have u_15 : (15 : Int) ≤ v.toInt := i32_gt b_14_15
              have e0 : v.toInt = (15 : Int) := by omega
              refine lv_tableIn (off := 1088) (tgt := 1127) hx hb dL_law_39 (by rw [e0]; decide) (by rw [e0]; decide) (by rw [e0]; rfl) (by decide) ?_
              exact c_L_law_1127 l hst hLh hL hLf hL0 hL1 hLx hLu hAd hm1 hm2 hm3 hm4 hLX n k hk x4 h m f c0 c1 x u cells slots H locs ls hD hcl hsl hP hS hl
    · have hD := ifn hD b_0_30
      have u_16 : (16 : Int) ≤ v.toInt := i32_gt b_0_30
      by_cases b_16_30 : v ≤ (23 : Int32)
      · have hD := ifp hD b_16_30
        have w_23 : v.toInt ≤ (23 : Int) := Int32.le_iff_toInt_le.mp b_16_30
        by_cases b_16_23 : v ≤ (19 : Int32)
        · have hD := ifp hD b_16_23
          have w_19 : v.toInt ≤ (19 : Int) := Int32.le_iff_toInt_le.mp b_16_23
          by_cases b_16_19 : v ≤ (17 : Int32)
          · have hD := ifp hD b_16_19
            have w_17 : v.toInt ≤ (17 : Int) := Int32.le_iff_toInt_le.mp b_16_19
            by_cases b_16_17 : v ≤ (16 : Int32)
            · have hD := ifp hD b_16_17
              have w_16 : v.toInt ≤ (16 : Int) := Int32.le_iff_toInt_le.mp b_16_17
              have e0 : v.toInt = (16 : Int) := by omega
              refine lv_tableIn (off := 1156) (tgt := 1195) hx hb dL_law_39 (by rw [e0]; decide) (by rw [e0]; decide) (by rw [e0]; rfl) (by decide) ?_
              exact c_L_law_1195 l hst hLh hL hLf hL0 hL1 hLx hLu hAd hm1 hm2 hm3 hm4 hLX n k hk x4 h m f c0 c1 x u cells slots H locs ls hD hcl hsl hP hS hl
            · have hD := ifn hD b_16_17
              have u_17 : (17 : Int) ≤ v.toInt := i32_gt b_16_17
              have e0 : v.toInt = (17 : Int) := by omega
              refine lv_tableIn (off := 1247) (tgt := 1286) hx hb dL_law_39 (by rw [e0]; decide) (by rw [e0]; decide) (by rw [e0]; rfl) (by decide) ?_
              exact c_L_law_1286 l hst hLh hL hLf hL0 hL1 hLx hLu hAd hm1 hm2 hm3 hm4 hLX n k hk x4 h m f c0 c1 x u cells slots H locs ls hD hcl hsl hP hS hl
          · have hD := ifn hD b_16_19
            have u_18 : (18 : Int) ≤ v.toInt := i32_gt b_16_19
            by_cases b_18_19 : v ≤ (18 : Int32)
            · have hD := ifp hD b_18_19
              have w_18 : v.toInt ≤ (18 : Int) := Int32.le_iff_toInt_le.mp b_18_19
              have e0 : v.toInt = (18 : Int) := by omega
              refine lv_tableIn (off := 1303) (tgt := 1342) hx hb dL_law_39 (by rw [e0]; decide) (by rw [e0]; decide) (by rw [e0]; rfl) (by decide) ?_
              exact c_L_law_1342 l hst hLh hL hLf hL0 hL1 hLx hLu hAd hm1 hm2 hm3 hm4 hLX n k hk x4 h m f c0 c1 x u cells slots H locs ls hD hcl hsl hP hS hl
            · have hD := ifn hD b_18_19
              have u_19 : (19 : Int) ≤ v.toInt := i32_gt b_18_19
              have e0 : v.toInt = (19 : Int) := by omega
              refine lv_tableIn (off := 1371) (tgt := 1410) hx hb dL_law_39 (by rw [e0]; decide) (by rw [e0]; decide) (by rw [e0]; rfl) (by decide) ?_
              exact c_L_law_1410 l hst hLh hL hLf hL0 hL1 hLx hLu hAd hm1 hm2 hm3 hm4 hLX n k hk x4 h m f c0 c1 x u cells slots H locs ls hD hcl hsl hP hS hl
        · have hD := ifn hD b_16_23
          have u_20 : (20 : Int) ≤ v.toInt := i32_gt b_16_23
          by_cases b_20_23 : v ≤ (21 : Int32)
          · have hD := ifp hD b_20_23
            have w_21 : v.toInt ≤ (21 : Int) := Int32.le_iff_toInt_le.mp b_20_23
            by_cases b_20_21 : v ≤ (20 : Int32)
            · have hD := ifp hD b_20_21
              have w_20 : v.toInt ≤ (20 : Int) := Int32.le_iff_toInt_le.mp b_20_21
              have e0 : v.toInt = (20 : Int) := by omega
              refine lv_tableIn (off := 1446) (tgt := 1485) hx hb dL_law_39 (by rw [e0]; decide) (by rw [e0]; decide) (by rw [e0]; rfl) (by decide) ?_
              exact c_L_law_1485 l hst hLh hL hLf hL0 hL1 hLx hLu hAd hm1 hm2 hm3 hm4 hLX n k hk x4 h m f c0 c1 x u cells slots H locs ls hD hcl hsl hP hS hl
            · have hD := ifn hD b_20_21
              have u_21 : (21 : Int) ≤ v.toInt := i32_gt b_20_21
              have e0 : v.toInt = (21 : Int) := by omega
              refine lv_tableIn (off := 1501) (tgt := 1540) hx hb dL_law_39 (by rw [e0]; decide) (by rw [e0]; decide) (by rw [e0]; rfl) (by decide) ?_
              exact c_L_law_1540 l hst hLh hL hLf hL0 hL1 hLx hLu hAd hm1 hm2 hm3 hm4 hLX n k hk x4 h m f c0 c1 x u cells slots H locs ls hD hcl hsl hP hS hl
          · have hD := ifn hD b_20_23
            have u_22 : (22 : Int) ≤ v.toInt := i32_gt b_20_23
            by_cases b_22_23 : v ≤ (22 : Int32)
            · have hD := ifp hD b_22_23
              have w_22 : v.toInt ≤ (22 : Int) := Int32.le_iff_toInt_le.mp b_22_23
              have e0 : v.toInt = (22 : Int) := by omega
              refine lv_tableIn (off := 1557) (tgt := 1596) hx hb dL_law_39 (by rw [e0]; decide) (by rw [e0]; decide) (by rw [e0]; rfl) (by decide) ?_
              exact c_L_law_1596 l hst hLh hL hLf hL0 hL1 hLx hLu hAd hm1 hm2 hm3 hm4 hLX n k hk x4 h m f c0 c1 x u cells slots H locs ls hD hcl hsl hP hS hl
            · have hD := ifn hD b_22_23
              have u_23 : (23 : Int) ≤ v.toInt := i32_gt b_22_23
              have e0 : v.toInt = (23 : Int) := by omega
              refine lv_tableIn (off := 1571) (tgt := 1610) hx hb dL_law_39 (by rw [e0]; decide) (by rw [e0]; decide) (by rw [e0]; rfl) (by decide) ?_
              exact c_L_law_1610 l hst hLh hL hLf hL0 hL1 hLx hLu hAd hm1 hm2 hm3 hm4 hLX n k hk x4 h m f c0 c1 x u cells slots H locs ls hD hcl hsl hP hS hl
      · have hD := ifn hD b_16_30
        have u_24 : (24 : Int) ≤ v.toInt := i32_gt b_16_30
        by_cases b_24_30 : v ≤ (27 : Int32)
        · have hD := ifp hD b_24_30
          have w_27 : v.toInt ≤ (27 : Int) := Int32.le_iff_toInt_le.mp b_24_30
          by_cases b_24_27 : v ≤ (25 : Int32)
          · have hD := ifp hD b_24_27
            have w_25 : v.toInt ≤ (25 : Int) := Int32.le_iff_toInt_le.mp b_24_27
            by_cases b_24_25 : v ≤ (24 : Int32)
            · have hD := ifp hD b_24_25
              have w_24 : v.toInt ≤ (24 : Int) := Int32.le_iff_toInt_le.mp b_24_25
              have e0 : v.toInt = (24 : Int) := by omega
              refine lv_tableIn (off := 1585) (tgt := 1624) hx hb dL_law_39 (by rw [e0]; decide) (by rw [e0]; decide) (by rw [e0]; rfl) (by decide) ?_
              exact c_L_law_1624 l hst hLh hL hLf hL0 hL1 hLx hLu hAd hm1 hm2 hm3 hm4 hLX n k hk x4 h m f c0 c1 x u cells slots H locs ls hD hcl hsl hP hS hl
            · have hD := ifn hD b_24_25
              have u_25 : (25 : Int) ≤ v.toInt := i32_gt b_24_25
              have e0 : v.toInt = (25 : Int) := by omega
              refine lv_tableIn (off := 1598) (tgt := 1637) hx hb dL_law_39 (by rw [e0]; decide) (by rw [e0]; decide) (by rw [e0]; rfl) (by decide) ?_
              exact c_L_law_1637 l hst hLh hL hLf hL0 hL1 hLx hLu hAd hm1 hm2 hm3 hm4 hLX n k hk x4 h m f c0 c1 x u cells slots H locs ls hD hcl hsl hP hS hl
          · have hD := ifn hD b_24_27
            have u_26 : (26 : Int) ≤ v.toInt := i32_gt b_24_27
            by_cases b_26_27 : v ≤ (26 : Int32)
            · have hD := ifp hD b_26_27
              have w_26 : v.toInt ≤ (26 : Int) := Int32.le_iff_toInt_le.mp b_26_27
              have e0 : v.toInt = (26 : Int) := by omega
              refine lv_tableIn (off := 1611) (tgt := 1650) hx hb dL_law_39 (by rw [e0]; decide) (by rw [e0]; decide) (by rw [e0]; rfl) (by decide) ?_
              exact c_L_law_1650 l hst hLh hL hLf hL0 hL1 hLx hLu hAd hm1 hm2 hm3 hm4 hLX n k hk x4 h m f c0 c1 x u cells slots H locs ls hD hcl hsl hP hS hl
            · have hD := ifn hD b_26_27
              have u_27 : (27 : Int) ≤ v.toInt := i32_gt b_26_27
              have e0 : v.toInt = (27 : Int) := by omega
              refine lv_tableIn (off := 1679) (tgt := 1718) hx hb dL_law_39 (by rw [e0]; decide) (by rw [e0]; decide) (by rw [e0]; rfl) (by decide) ?_
              exact c_L_law_1718 l hst hLh hL hLf hL0 hL1 hLx hLu hAd hm1 hm2 hm3 hm4 hLX n k hk x4 h m f c0 c1 x u cells slots H locs ls hD hcl hsl hP hS hl
        · have hD := ifn hD b_24_30
          have u_28 : (28 : Int) ≤ v.toInt := i32_gt b_24_30
          by_cases b_28_30 : v ≤ (29 : Int32)
          · have hD := ifp hD b_28_30
            have w_29 : v.toInt ≤ (29 : Int) := Int32.le_iff_toInt_le.mp b_28_30
            by_cases b_28_29 : v ≤ (28 : Int32)
            · have hD := ifp hD b_28_29
              have w_28 : v.toInt ≤ (28 : Int) := Int32.le_iff_toInt_le.mp b_28_29
              have e0 : v.toInt = (28 : Int) := by omega
              refine lv_tableIn (off := 1747) (tgt := 1786) hx hb dL_law_39 (by rw [e0]; decide) (by rw [e0]; decide) (by rw [e0]; rfl) (by decide) ?_
              exact c_L_law_1786 l hst hLh hL hLf hL0 hL1 hLx hLu hAd hm1 hm2 hm3 hm4 hLX n k hk x4 h m f c0 c1 x u cells slots H locs ls hD hcl hsl hP hS hl
            · have hD := ifn hD b_28_29
              have u_29 : (29 : Int) ≤ v.toInt := i32_gt b_28_29
              have e0 : v.toInt = (29 : Int) := by omega
              refine lv_tableIn (off := 1803) (tgt := 1842) hx hb dL_law_39 (by rw [e0]; decide) (by rw [e0]; decide) (by rw [e0]; rfl) (by decide) ?_
              exact c_L_law_1842 l hst hLh hL hLf hL0 hL1 hLx hLu hAd hm1 hm2 hm3 hm4 hLX n k hk x4 h m f c0 c1 x u cells slots H locs ls hD hcl hsl hP hS hl
          · have hD := ifn hD b_28_30
            have u_30 : (30 : Int) ≤ v.toInt := i32_gt b_28_30
            have e0 : v.toInt = (30 : Int) := by omega
            refine lv_tableIn (off := 1871) (tgt := 1910) hx hb dL_law_39 (by rw [e0]; decide) (by rw [e0]; decide) (by rw [e0]; rfl) (by decide) ?_
            exact c_L_law_1910 l hst hLh hL hLf hL0 hL1 hLx hLu hAd hm1 hm2 hm3 hm4 hLX n k hk x4 h m f c0 c1 x u cells slots H locs ls hD hcl hsl hP hS hl
  · have hD := ifn hD b_0_61
    have u_31 : (31 : Int) ≤ v.toInt := i32_gt b_0_61
    by_cases b_31_61 : v ≤ (46 : Int32)
    · have hD := ifp hD b_31_61
      have w_46 : v.toInt ≤ (46 : Int) := Int32.le_iff_toInt_le.mp b_31_61
      by_cases b_31_46 : v ≤ (38 : Int32)
      · have hD := ifp hD b_31_46
        have w_38 : v.toInt ≤ (38 : Int) := Int32.le_iff_toInt_le.mp b_31_46
        by_cases b_31_38 : v ≤ (34 : Int32)
        · have hD := ifp hD b_31_38
          have w_34 : v.toInt ≤ (34 : Int) := Int32.le_iff_toInt_le.mp b_31_38
          by_cases b_31_34 : v ≤ (32 : Int32)
          · have hD := ifp hD b_31_34
            have w_32 : v.toInt ≤ (32 : Int) := Int32.le_iff_toInt_le.mp b_31_34
            by_cases b_31_32 : v ≤ (31 : Int32)
            · have hD := ifp hD b_31_32
              have w_31 : v.toInt ≤ (31 : Int) := Int32.le_iff_toInt_le.mp b_31_32
              have e0 : v.toInt = (31 : Int) := by omega
              refine lv_tableIn (off := 1927) (tgt := 1966) hx hb dL_law_39 (by rw [e0]; decide) (by rw [e0]; decide) (by rw [e0]; rfl) (by decide) ?_
              exact c_L_law_1966 l hst hLh hL hLf hL0 hL1 hLx hLu hAd hm1 hm2 hm3 hm4 hLX n k hk x4 h m f c0 c1 x u cells slots H locs ls hD hcl hsl hP hS hl
            · have hD := ifn hD b_31_32
              have u_32 : (32 : Int) ≤ v.toInt := i32_gt b_31_32
              have e0 : v.toInt = (32 : Int) := by omega
              refine lv_tableIn (off := 1983) (tgt := 2022) hx hb dL_law_39 (by rw [e0]; decide) (by rw [e0]; decide) (by rw [e0]; rfl) (by decide) ?_
              exact c_L_law_2022 l hst hLh hL hLf hL0 hL1 hLx hLu hAd hm1 hm2 hm3 hm4 hLX n k hk x4 h m f c0 c1 x u cells slots H locs ls hD hcl hsl hP hS hl
          · have hD := ifn hD b_31_34
            have u_33 : (33 : Int) ≤ v.toInt := i32_gt b_31_34
            by_cases b_33_34 : v ≤ (33 : Int32)
            · have hD := ifp hD b_33_34
              have w_33 : v.toInt ≤ (33 : Int) := Int32.le_iff_toInt_le.mp b_33_34
              have e0 : v.toInt = (33 : Int) := by omega
              refine lv_tableIn (off := 1996) (tgt := 2035) hx hb dL_law_39 (by rw [e0]; decide) (by rw [e0]; decide) (by rw [e0]; rfl) (by decide) ?_
              exact c_L_law_2035 l hst hLh hL hLf hL0 hL1 hLx hLu hAd hm1 hm2 hm3 hm4 hLX n k hk x4 h m f c0 c1 x u cells slots H locs ls hD hcl hsl hP hS hl
            · have hD := ifn hD b_33_34
              have u_34 : (34 : Int) ≤ v.toInt := i32_gt b_33_34
              have e0 : v.toInt = (34 : Int) := by omega
              refine lv_tableIn (off := 2009) (tgt := 2048) hx hb dL_law_39 (by rw [e0]; decide) (by rw [e0]; decide) (by rw [e0]; rfl) (by decide) ?_
              exact c_L_law_2048 l hst hLh hL hLf hL0 hL1 hLx hLu hAd hm1 hm2 hm3 hm4 hLX n k hk x4 h m f c0 c1 x u cells slots H locs ls hD hcl hsl hP hS hl
        · have hD := ifn hD b_31_38
          have u_35 : (35 : Int) ≤ v.toInt := i32_gt b_31_38
          by_cases b_35_38 : v ≤ (36 : Int32)
          · have hD := ifp hD b_35_38
            have w_36 : v.toInt ≤ (36 : Int) := Int32.le_iff_toInt_le.mp b_35_38
            by_cases b_35_36 : v ≤ (35 : Int32)
            · have hD := ifp hD b_35_36
              have w_35 : v.toInt ≤ (35 : Int) := Int32.le_iff_toInt_le.mp b_35_36
              have e0 : v.toInt = (35 : Int) := by omega
              refine lv_tableIn (off := 2065) (tgt := 2104) hx hb dL_law_39 (by rw [e0]; decide) (by rw [e0]; decide) (by rw [e0]; rfl) (by decide) ?_
              exact c_L_law_2104 l hst hLh hL hLf hL0 hL1 hLx hLu hAd hm1 hm2 hm3 hm4 hLX n k hk x4 h m f c0 c1 x u cells slots H locs ls hD hcl hsl hP hS hl
            · have hD := ifn hD b_35_36
              have u_36 : (36 : Int) ≤ v.toInt := i32_gt b_35_36
              have e0 : v.toInt = (36 : Int) := by omega
              refine lv_tableIn (off := 2078) (tgt := 2117) hx hb dL_law_39 (by rw [e0]; decide) (by rw [e0]; decide) (by rw [e0]; rfl) (by decide) ?_
              exact c_L_law_2117 l hst hLh hL hLf hL0 hL1 hLx hLu hAd hm1 hm2 hm3 hm4 hLX n k hk x4 h m f c0 c1 x u cells slots H locs ls hD hcl hsl hP hS hl
          · have hD := ifn hD b_35_38
            have u_37 : (37 : Int) ≤ v.toInt := i32_gt b_35_38
            by_cases b_37_38 : v ≤ (37 : Int32)
            · have hD := ifp hD b_37_38
              have w_37 : v.toInt ≤ (37 : Int) := Int32.le_iff_toInt_le.mp b_37_38
              have e0 : v.toInt = (37 : Int) := by omega
              refine lv_tableIn (off := 2091) (tgt := 2130) hx hb dL_law_39 (by rw [e0]; decide) (by rw [e0]; decide) (by rw [e0]; rfl) (by decide) ?_
              exact c_L_law_2130 l hst hLh hL hLf hL0 hL1 hLx hLu hAd hm1 hm2 hm3 hm4 hLX n k hk x4 h m f c0 c1 x u cells slots H locs ls hD hcl hsl hP hS hl
            · have hD := ifn hD b_37_38
              have u_38 : (38 : Int) ≤ v.toInt := i32_gt b_37_38
              have e0 : v.toInt = (38 : Int) := by omega
              refine lv_tableIn (off := 2159) (tgt := 2198) hx hb dL_law_39 (by rw [e0]; decide) (by rw [e0]; decide) (by rw [e0]; rfl) (by decide) ?_
              exact c_L_law_2198 l hst hLh hL hLf hL0 hL1 hLx hLu hAd hm1 hm2 hm3 hm4 hLX n k hk x4 h m f c0 c1 x u cells slots H locs ls hD hcl hsl hP hS hl
      · have hD := ifn hD b_31_46
        have u_39 : (39 : Int) ≤ v.toInt := i32_gt b_31_46
        by_cases b_39_46 : v ≤ (42 : Int32)
        · have hD := ifp hD b_39_46
          have w_42 : v.toInt ≤ (42 : Int) := Int32.le_iff_toInt_le.mp b_39_46
          by_cases b_39_42 : v ≤ (40 : Int32)
          · have hD := ifp hD b_39_42
            have w_40 : v.toInt ≤ (40 : Int) := Int32.le_iff_toInt_le.mp b_39_42
            by_cases b_39_40 : v ≤ (39 : Int32)
            · have hD := ifp hD b_39_40
              have w_39 : v.toInt ≤ (39 : Int) := Int32.le_iff_toInt_le.mp b_39_40
              have e0 : v.toInt = (39 : Int) := by omega
              refine lv_tableIn (off := 2172) (tgt := 2211) hx hb dL_law_39 (by rw [e0]; decide) (by rw [e0]; decide) (by rw [e0]; rfl) (by decide) ?_
              exact c_L_law_2211 l hst hLh hL hLf hL0 hL1 hLx hLu hAd hm1 hm2 hm3 hm4 hLX n k hk x4 h m f c0 c1 x u cells slots H locs ls hD hcl hsl hP hS hl
            · have hD := ifn hD b_39_40
              have u_40 : (40 : Int) ≤ v.toInt := i32_gt b_39_40
              have e0 : v.toInt = (40 : Int) := by omega
              refine lv_tableIn (off := 2185) (tgt := 2224) hx hb dL_law_39 (by rw [e0]; decide) (by rw [e0]; decide) (by rw [e0]; rfl) (by decide) ?_
              exact c_L_law_2224 l hst hLh hL hLf hL0 hL1 hLx hLu hAd hm1 hm2 hm3 hm4 hLX n k hk x4 h m f c0 c1 x u cells slots H locs ls hD hcl hsl hP hS hl
          · have hD := ifn hD b_39_42
            have u_41 : (41 : Int) ≤ v.toInt := i32_gt b_39_42
            by_cases b_41_42 : v ≤ (41 : Int32)
            · have hD := ifp hD b_41_42
              have w_41 : v.toInt ≤ (41 : Int) := Int32.le_iff_toInt_le.mp b_41_42
              have e0 : v.toInt = (41 : Int) := by omega
              refine lv_tableIn (off := 2241) (tgt := 2280) hx hb dL_law_39 (by rw [e0]; decide) (by rw [e0]; decide) (by rw [e0]; rfl) (by decide) ?_
              exact c_L_law_2280 l hst hLh hL hLf hL0 hL1 hLx hLu hAd hm1 hm2 hm3 hm4 hLX n k hk x4 h m f c0 c1 x u cells slots H locs ls hD hcl hsl hP hS hl
            · have hD := ifn hD b_41_42
              have u_42 : (42 : Int) ≤ v.toInt := i32_gt b_41_42
              have e0 : v.toInt = (42 : Int) := by omega
              refine lv_tableIn (off := 2297) (tgt := 2336) hx hb dL_law_39 (by rw [e0]; decide) (by rw [e0]; decide) (by rw [e0]; rfl) (by decide) ?_
              exact c_L_law_2336 l hst hLh hL hLf hL0 hL1 hLx hLu hAd hm1 hm2 hm3 hm4 hLX n k hk x4 h m f c0 c1 x u cells slots H locs ls hD hcl hsl hP hS hl
        · have hD := ifn hD b_39_46
          have u_43 : (43 : Int) ≤ v.toInt := i32_gt b_39_46
          by_cases b_43_46 : v ≤ (44 : Int32)
          · have hD := ifp hD b_43_46
            have w_44 : v.toInt ≤ (44 : Int) := Int32.le_iff_toInt_le.mp b_43_46
            by_cases b_43_44 : v ≤ (43 : Int32)
            · have hD := ifp hD b_43_44
              have w_43 : v.toInt ≤ (43 : Int) := Int32.le_iff_toInt_le.mp b_43_44
              have e0 : v.toInt = (43 : Int) := by omega
              refine lv_tableIn (off := 2353) (tgt := 2392) hx hb dL_law_39 (by rw [e0]; decide) (by rw [e0]; decide) (by rw [e0]; rfl) (by decide) ?_
              exact c_L_law_2392 l hst hLh hL hLf hL0 hL1 hLx hLu hAd hm1 hm2 hm3 hm4 hLX n k hk x4 h m f c0 c1 x u cells slots H locs ls hD hcl hsl hP hS hl
            · have hD := ifn hD b_43_44
              have u_44 : (44 : Int) ≤ v.toInt := i32_gt b_43_44
              have e0 : v.toInt = (44 : Int) := by omega
              refine lv_tableIn (off := 2409) (tgt := 2448) hx hb dL_law_39 (by rw [e0]; decide) (by rw [e0]; decide) (by rw [e0]; rfl) (by decide) ?_
              exact c_L_law_2448 l hst hLh hL hLf hL0 hL1 hLx hLu hAd hm1 hm2 hm3 hm4 hLX n k hk x4 h m f c0 c1 x u cells slots H locs ls hD hcl hsl hP hS hl
          · have hD := ifn hD b_43_46
            have u_45 : (45 : Int) ≤ v.toInt := i32_gt b_43_46
            by_cases b_45_46 : v ≤ (45 : Int32)
            · have hD := ifp hD b_45_46
              have w_45 : v.toInt ≤ (45 : Int) := Int32.le_iff_toInt_le.mp b_45_46
              have e0 : v.toInt = (45 : Int) := by omega
              refine lv_tableIn (off := 2422) (tgt := 2461) hx hb dL_law_39 (by rw [e0]; decide) (by rw [e0]; decide) (by rw [e0]; rfl) (by decide) ?_
              exact c_L_law_2461 l hst hLh hL hLf hL0 hL1 hLx hLu hAd hm1 hm2 hm3 hm4 hLX n k hk x4 h m f c0 c1 x u cells slots H locs ls hD hcl hsl hP hS hl
            · have hD := ifn hD b_45_46
              have u_46 : (46 : Int) ≤ v.toInt := i32_gt b_45_46
              have e0 : v.toInt = (46 : Int) := by omega
              refine lv_tableIn (off := 2435) (tgt := 2474) hx hb dL_law_39 (by rw [e0]; decide) (by rw [e0]; decide) (by rw [e0]; rfl) (by decide) ?_
              exact c_L_law_2474 l hst hLh hL hLf hL0 hL1 hLx hLu hAd hm1 hm2 hm3 hm4 hLX n k hk x4 h m f c0 c1 x u cells slots H locs ls hD hcl hsl hP hS hl
    · have hD := ifn hD b_31_61
      have u_47 : (47 : Int) ≤ v.toInt := i32_gt b_31_61
      by_cases b_47_61 : v ≤ (54 : Int32)
      · have hD := ifp hD b_47_61
        have w_54 : v.toInt ≤ (54 : Int) := Int32.le_iff_toInt_le.mp b_47_61
        by_cases b_47_54 : v ≤ (50 : Int32)
        · have hD := ifp hD b_47_54
          have w_50 : v.toInt ≤ (50 : Int) := Int32.le_iff_toInt_le.mp b_47_54
          by_cases b_47_50 : v ≤ (48 : Int32)
          · have hD := ifp hD b_47_50
            have w_48 : v.toInt ≤ (48 : Int) := Int32.le_iff_toInt_le.mp b_47_50
            by_cases b_47_48 : v ≤ (47 : Int32)
            · have hD := ifp hD b_47_48
              have w_47 : v.toInt ≤ (47 : Int) := Int32.le_iff_toInt_le.mp b_47_48
              have e0 : v.toInt = (47 : Int) := by omega
              refine lv_tableIn (off := 2503) (tgt := 2542) hx hb dL_law_39 (by rw [e0]; decide) (by rw [e0]; decide) (by rw [e0]; rfl) (by decide) ?_
              exact c_L_law_2542 l hst hLh hL hLf hL0 hL1 hLx hLu hAd hm1 hm2 hm3 hm4 hLX n k hk x4 h m f c0 c1 x u cells slots H locs ls hD hcl hsl hP hS hl
            · have hD := ifn hD b_47_48
              have u_48 : (48 : Int) ≤ v.toInt := i32_gt b_47_48
              have e0 : v.toInt = (48 : Int) := by omega
              refine lv_tableIn (off := 2516) (tgt := 2555) hx hb dL_law_39 (by rw [e0]; decide) (by rw [e0]; decide) (by rw [e0]; rfl) (by decide) ?_
              exact c_L_law_2555 l hst hLh hL hLf hL0 hL1 hLx hLu hAd hm1 hm2 hm3 hm4 hLX n k hk x4 h m f c0 c1 x u cells slots H locs ls hD hcl hsl hP hS hl
          · have hD := ifn hD b_47_50
            have u_49 : (49 : Int) ≤ v.toInt := i32_gt b_47_50
            by_cases b_49_50 : v ≤ (49 : Int32)
            · have hD := ifp hD b_49_50
              have w_49 : v.toInt ≤ (49 : Int) := Int32.le_iff_toInt_le.mp b_49_50
              have e0 : v.toInt = (49 : Int) := by omega
              refine lv_tableIn (off := 2529) (tgt := 2568) hx hb dL_law_39 (by rw [e0]; decide) (by rw [e0]; decide) (by rw [e0]; rfl) (by decide) ?_
              exact c_L_law_2568 l hst hLh hL hLf hL0 hL1 hLx hLu hAd hm1 hm2 hm3 hm4 hLX n k hk x4 h m f c0 c1 x u cells slots H locs ls hD hcl hsl hP hS hl
            · have hD := ifn hD b_49_50
              have u_50 : (50 : Int) ≤ v.toInt := i32_gt b_49_50
              have e0 : v.toInt = (50 : Int) := by omega
              refine lv_tableIn (off := 2542) (tgt := 2581) hx hb dL_law_39 (by rw [e0]; decide) (by rw [e0]; decide) (by rw [e0]; rfl) (by decide) ?_
              exact c_L_law_2581 l hst hLh hL hLf hL0 hL1 hLx hLu hAd hm1 hm2 hm3 hm4 hLX n k hk x4 h m f c0 c1 x u cells slots H locs ls hD hcl hsl hP hS hl
        · have hD := ifn hD b_47_54
          have u_51 : (51 : Int) ≤ v.toInt := i32_gt b_47_54
          by_cases b_51_54 : v ≤ (52 : Int32)
          · have hD := ifp hD b_51_54
            have w_52 : v.toInt ≤ (52 : Int) := Int32.le_iff_toInt_le.mp b_51_54
            by_cases b_51_52 : v ≤ (51 : Int32)
            · have hD := ifp hD b_51_52
              have w_51 : v.toInt ≤ (51 : Int) := Int32.le_iff_toInt_le.mp b_51_52
              have e0 : v.toInt = (51 : Int) := by omega
              refine lv_tableIn (off := 2598) (tgt := 2637) hx hb dL_law_39 (by rw [e0]; decide) (by rw [e0]; decide) (by rw [e0]; rfl) (by decide) ?_
              exact c_L_law_2637 l hst hLh hL hLf hL0 hL1 hLx hLu hAd hm1 hm2 hm3 hm4 hLX n k hk x4 h m f c0 c1 x u cells slots H locs ls hD hcl hsl hP hS hl
            · have hD := ifn hD b_51_52
              have u_52 : (52 : Int) ≤ v.toInt := i32_gt b_51_52
              have e0 : v.toInt = (52 : Int) := by omega
              refine lv_tableIn (off := 2666) (tgt := 2705) hx hb dL_law_39 (by rw [e0]; decide) (by rw [e0]; decide) (by rw [e0]; rfl) (by decide) ?_
              exact c_L_law_2705 l hst hLh hL hLf hL0 hL1 hLx hLu hAd hm1 hm2 hm3 hm4 hLX n k hk x4 h m f c0 c1 x u cells slots H locs ls hD hcl hsl hP hS hl
          · have hD := ifn hD b_51_54
            have u_53 : (53 : Int) ≤ v.toInt := i32_gt b_51_54
            by_cases b_53_54 : v ≤ (53 : Int32)
            · have hD := ifp hD b_53_54
              have w_53 : v.toInt ≤ (53 : Int) := Int32.le_iff_toInt_le.mp b_53_54
              have e0 : v.toInt = (53 : Int) := by omega
              refine lv_tableIn (off := 2679) (tgt := 2718) hx hb dL_law_39 (by rw [e0]; decide) (by rw [e0]; decide) (by rw [e0]; rfl) (by decide) ?_
              exact c_L_law_2718 l hst hLh hL hLf hL0 hL1 hLx hLu hAd hm1 hm2 hm3 hm4 hLX n k hk x4 h m f c0 c1 x u cells slots H locs ls hD hcl hsl hP hS hl
            · have hD := ifn hD b_53_54
              have u_54 : (54 : Int) ≤ v.toInt := i32_gt b_53_54
              have e0 : v.toInt = (54 : Int) := by omega
              refine lv_tableIn (off := 2735) (tgt := 2774) hx hb dL_law_39 (by rw [e0]; decide) (by rw [e0]; decide) (by rw [e0]; rfl) (by decide) ?_
              exact c_L_law_2774 l hst hLh hL hLf hL0 hL1 hLx hLu hAd hm1 hm2 hm3 hm4 hLX n k hk x4 h m f c0 c1 x u cells slots H locs ls hD hcl hsl hP hS hl
      · have hD := ifn hD b_47_61
        have u_55 : (55 : Int) ≤ v.toInt := i32_gt b_47_61
        by_cases b_55_61 : v ≤ (58 : Int32)
        · have hD := ifp hD b_55_61
          have w_58 : v.toInt ≤ (58 : Int) := Int32.le_iff_toInt_le.mp b_55_61
          by_cases b_55_58 : v ≤ (56 : Int32)
          · have hD := ifp hD b_55_58
            have w_56 : v.toInt ≤ (56 : Int) := Int32.le_iff_toInt_le.mp b_55_58
            by_cases b_55_56 : v ≤ (55 : Int32)
            · have hD := ifp hD b_55_56
              have w_55 : v.toInt ≤ (55 : Int) := Int32.le_iff_toInt_le.mp b_55_56
              have e0 : v.toInt = (55 : Int) := by omega
              refine lv_tableIn (off := 2748) (tgt := 2787) hx hb dL_law_39 (by rw [e0]; decide) (by rw [e0]; decide) (by rw [e0]; rfl) (by decide) ?_
              exact c_L_law_2787 l hst hLh hL hLf hL0 hL1 hLx hLu hAd hm1 hm2 hm3 hm4 hLX n k hk x4 h m f c0 c1 x u cells slots H locs ls hD hcl hsl hP hS hl
            · have hD := ifn hD b_55_56
              have u_56 : (56 : Int) ≤ v.toInt := i32_gt b_55_56
              have e0 : v.toInt = (56 : Int) := by omega
              refine lv_tableIn (off := 2761) (tgt := 2800) hx hb dL_law_39 (by rw [e0]; decide) (by rw [e0]; decide) (by rw [e0]; rfl) (by decide) ?_
              exact c_L_law_2800 l hst hLh hL hLf hL0 hL1 hLx hLu hAd hm1 hm2 hm3 hm4 hLX n k hk x4 h m f c0 c1 x u cells slots H locs ls hD hcl hsl hP hS hl
          · have hD := ifn hD b_55_58
            have u_57 : (57 : Int) ≤ v.toInt := i32_gt b_55_58
            by_cases b_57_58 : v ≤ (57 : Int32)
            · have hD := ifp hD b_57_58
              have w_57 : v.toInt ≤ (57 : Int) := Int32.le_iff_toInt_le.mp b_57_58
              have e0 : v.toInt = (57 : Int) := by omega
              refine lv_tableIn (off := 2774) (tgt := 2813) hx hb dL_law_39 (by rw [e0]; decide) (by rw [e0]; decide) (by rw [e0]; rfl) (by decide) ?_
              exact c_L_law_2813 l hst hLh hL hLf hL0 hL1 hLx hLu hAd hm1 hm2 hm3 hm4 hLX n k hk x4 h m f c0 c1 x u cells slots H locs ls hD hcl hsl hP hS hl
            · have hD := ifn hD b_57_58
              have u_58 : (58 : Int) ≤ v.toInt := i32_gt b_57_58
              have e0 : v.toInt = (58 : Int) := by omega
              refine lv_tableIn (off := 2787) (tgt := 2826) hx hb dL_law_39 (by rw [e0]; decide) (by rw [e0]; decide) (by rw [e0]; rfl) (by decide) ?_
              exact c_L_law_2826 l hst hLh hL hLf hL0 hL1 hLx hLu hAd hm1 hm2 hm3 hm4 hLX n k hk x4 h m f c0 c1 x u cells slots H locs ls hD hcl hsl hP hS hl
        · have hD := ifn hD b_55_61
          have u_59 : (59 : Int) ≤ v.toInt := i32_gt b_55_61
          by_cases b_59_61 : v ≤ (60 : Int32)
          · have hD := ifp hD b_59_61
            have w_60 : v.toInt ≤ (60 : Int) := Int32.le_iff_toInt_le.mp b_59_61
            by_cases b_59_60 : v ≤ (59 : Int32)
            · have hD := ifp hD b_59_60
              have w_59 : v.toInt ≤ (59 : Int) := Int32.le_iff_toInt_le.mp b_59_60
              have e0 : v.toInt = (59 : Int) := by omega
              refine lv_tableIn (off := 2800) (tgt := 2839) hx hb dL_law_39 (by rw [e0]; decide) (by rw [e0]; decide) (by rw [e0]; rfl) (by decide) ?_
              exact c_L_law_2839 l hst hLh hL hLf hL0 hL1 hLx hLu hAd hm1 hm2 hm3 hm4 hLX n k hk x4 h m f c0 c1 x u cells slots H locs ls hD hcl hsl hP hS hl
            · have hD := ifn hD b_59_60
              have u_60 : (60 : Int) ≤ v.toInt := i32_gt b_59_60
              have e0 : v.toInt = (60 : Int) := by omega
              refine lv_tableIn (off := 2813) (tgt := 2852) hx hb dL_law_39 (by rw [e0]; decide) (by rw [e0]; decide) (by rw [e0]; rfl) (by decide) ?_
              exact c_L_law_2852 l hst hLh hL hLf hL0 hL1 hLx hLu hAd hm1 hm2 hm3 hm4 hLX n k hk x4 h m f c0 c1 x u cells slots H locs ls hD hcl hsl hP hS hl
          · have hD := ifn hD b_59_61
            have u_61 : (61 : Int) ≤ v.toInt := i32_gt b_59_61
            have e0 : v.toInt = (61 : Int) := by omega
            refine lv_tableIn (off := 2869) (tgt := 2908) hx hb dL_law_39 (by rw [e0]; decide) (by rw [e0]; decide) (by rw [e0]; rfl) (by decide) ?_
            exact c_L_law_2908 l hst hLh hL hLf hL0 hL1 hLx hLu hAd hm1 hm2 hm3 hm4 hLX n k hk x4 h m f c0 c1 x u cells slots H locs ls hD hcl hsl hP hS hl
set_option maxHeartbeats 4000000 in
theorem c_L_law (l : Launch) (hst : l.stackTraces = false) {p : Program} {e : Env} {s : State} {m0 : MethodId} {below : List Frame} {meth : Method} {c : Code} {b L : Nat} {xs : Nat → Int32} {D : va_G} {cs : Nat → ClassId} {A : Nat → Prop} {Q : State → Prop} {adh ad adf ad0 ad1 adx adu ma : Nat → Nat} {Wf : MM → MM → MM → MM → MM → MM → MM → va_W} (hLh : ∀ m f c0 c1 x u : MM, Ln 8 adh (hsh cs adh ma) (fun z => Wf z m f c0 c1 x u)) (hL : ∀ h f c0 c1 x u : MM, Ln 51 ad (msh cs ad) (fun z => Wf h z f c0 c1 x u)) (hLf : ∀ h m c0 c1 x u : MM, Ln 51 adf (msh cs adf) (fun z => Wf h m z c0 c1 x u)) (hL0 : ∀ h m f c1 x u : MM, Ln 51 ad0 (msh cs ad0) (fun z => Wf h m f z c1 x u)) (hL1 : ∀ h m f c0 x u : MM, Ln 51 ad1 (msh cs ad1) (fun z => Wf h m f c0 z x u)) (hLx : ∀ h m f c0 c1 u : MM, Ln 9 adx (xsh cs adx) (fun z => Wf h m f c0 c1 z u)) (hLu : ∀ h m f c0 c1 x : MM, Ln 1 adu (ush cs) (fun z => Wf h m f c0 c1 x z)) (hAd : ∀ a0_ b0_ a1_ b1_ a2_ b2_ a3_ b3_ a4_ b4_ a5_ b5_ a6_ b6_ : MM, (Wf a0_ a1_ a2_ a3_ a4_ a5_ a6_).map (fun q => q.1) = (Wf b0_ b1_ b2_ b3_ b4_ b5_ b6_).map (fun q => q.1)) (hm1 : ma 1 = ad 24) (hm2 : ma 2 = adf 24) (hm3 : ma 3 = ad0 24) (hm4 : ma 4 = ad1 24) (hLX : LX p s m0 c b L xs D cs A (Wf zMM zMM zMM zMM zMM zMM zMM)) (hend : ∀ (cells slots : Nat) (H : Heap) (locs : List Loc) (ls : Array Slot), cells ≤ 601024 → slots ≤ 7293034 → va_S A s.heap H locs → W p l e room_1 s m0 #[Value.ref b] below meth c H locs cells slots Q (F0 m0 2971 ls [.int 1])) : ∀ n : Nat, LK p l e s m0 below meth c b D A Q adh adx adu Wf n (D_L_law L xs n) := by
  intro n
  induction n with
  | zero =>
    intro x4 h m f c0 c1 x u cells slots H locs ls hD hcl hsl hP hS hl
    exact nn_el hD
  | succ n ih =>
    intro x4 h m f c0 c1 x u cells slots H locs ls hD hcl hsl hP hS hl
    obtain ⟨hx, hb, hml, hown, hK, hT⟩ := hLX.rest
    obtain ⟨Fx0, hX, hbl, hbA, hD1, hA1⟩ := id hLX
    have hD : (if Int32.ofNat L - (3 : Int32) < x4 then some () else (if x4 < 0 ∨ L ≤ x4.toNatClampNeg then none else (bnd ((xs x4.toNatClampNeg) &&& (63 : Int32)) (fun v => D_L_sw L xs (D_L_law L xs n) v x4 h m f c0 c1 x u)))) = some () := hD
    refine lv_iload hx hb dL_law_23 (lv_at hl 4 rfl) ?_
    refine lv_aload_n hx hb dL_law_25 rfl (lv_at hl 0 rfl) ?_
    refine va_slen hx hb hX hbl hbA hS dL_law_26 ?_
    refine lv_iconst (v := (3 : Int32)) hx hb dL_law_27 (by decide) ?_
    refine lv_isub hx hb dL_law_28 ?_
    refine lv_icmp_gt (tgt := 2970) hx hb dL_law_29 (by decide) (fun c => ?_) (fun c => ?_)
    · refine lv_iconst (v := (1 : Int32)) hx hb dL_law_2970 (by decide) ?_
      exact hend _ _ _ _ _ (by omega) (by omega) hS
    · have hD := ifn hD c
      obtain ⟨h1, hD⟩ := gd_el hD
      refine lv_aload_n hx hb dL_law_32 rfl (lv_at hl 0 rfl) ?_
      refine lv_iload hx hb dL_law_33 (lv_at hl 4 rfl) ?_
      refine va_sld hx hb hX hbl hbA hS h1 dL_law_35 ?_
      refine lv_bipush (v := (63 : Int32)) hx hb dL_law_36 (by decide) ?_
      refine lv_iand hx hb dL_law_38 ?_
      obtain ⟨v, ev, hD⟩ := bnd_el hD
      refine lv_nmi ev ?_
      exact c_L_sw l hst hLh hL hLf hL0 hL1 hLx hLu hAd hm1 hm2 hm3 hm4 hLX n _ ih v x4 h m f c0 c1 x u cells slots H locs ls hD hcl hsl hP hS hl
