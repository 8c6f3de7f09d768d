/-! from the entry to the loop -/
theorem Ln.of {n : Nat} {ad : Nat → Nat} {sh : Sh} {Wf : MM → va_W} (pre post : va_W) (h : ∀ z : MM, Wf z = pre ++ (blk n ad sh z ++ post)) : Ln n ad sh Wf := by
  have e : Wf = fun z => pre ++ (blk n ad sh z ++ post) := funext h
  rw [e]
  exact blk_ln pre post
theorem no_traces {l : Launch} (h : l.flags = flags0) : l.stackTraces = false := by
  unfold Launch.stackTraces
  rw [h]
  decide
set_option maxHeartbeats 8000000 in
set_option maxRecDepth 100000 in
/-- the law comes to its end with true, if its body's denotation says so -/
theorem law_ends {p : Program} {e : Env} {s : State} {m : MethodId} {below : List Frame} {meth : Method} {c : Code} (l : Launch) (hflags : l.flags = flags0) {b L : Nat} {xs : Nat → Int32} (C0 : lw_At p s m meth c b L xs) {mI xI xJ xK : MM} (hI : D_X6_clear zM = some mI) (hX2 : D_X10_begins 1 zM = some xI) (hJ : xJ = si xI 1 15 1) (hK2 : xK = si xJ 1 0 10) (hpure : D_L_law L xs 5000 0 zM mI mI mI mI xK zM = some ()) : W p l e room_1 s m #[Value.ref b] below meth c s.heap [] 0 0 (lw_Z below #[Value.ref b] s) (entryFrame m ([Value.ref b] : List Value).toArray 8) := by
  obtain ⟨hx, hb, hr, hml, hown, hts, hX0, hbl, hlocks, hgv⟩ := C0
  have hst := no_traces hflags
  have hn : ∀ w ∈ NR, w.before #[Value.ref b] s = true := flat_of_before _ hgv
  have hT : ∀ w ∈ TBL, w.before #[Value.ref b] s = true := fun w h => hts w (List.mem_filter.mp h).1
  obtain ⟨A, hAe⟩ : ∃ A : Nat → Prop, A = fun q => s.heap.size ≤ q := ⟨_, rfl⟩
  have hA : ∀ q : Nat, s.heap.size ≤ q → A q := fun q h => by rw [hAe]; exact h
  have hA0 : ∀ a : Nat, a < s.heap.size → ¬ A a := fun a h z => by rw [hAe] at z; omega
  have hbA : ¬ A b := hA0 b hbl
  obtain ⟨D, cs, hK, hSS, hKI⟩ := kn_all hn hts hA0
  have Fl0 : Fl p m c cL_law 8 s #[Value.ref b] RL D cs A := ⟨hx, hb, hml, hown, hT, hK, hSS⟩
  have hown : s.vm.findClass RL = some m.cls := hown
  have hS : va_S A s.heap s.heap [] := va_S.rf
  have hP : va_P D vwCl [] s.heap := va_P_nil
  have hD : va_D A [] := ⟨fun i j p q h => (by cases h), fun k q h => (by cases h)⟩
  rw [lg_entry_eq]
  have hl : lv_has _ 8 [(0, .ref b)] := lv_entry [.ref b] (n := 8) (Nat.le_of_ble_eq_true rfl)
  generalize (lg_sl ([.ref b]) ++ List.replicate (8 - (lg_sl ([.ref b])).length) Slot.unset).toArray = ls at hl ⊢
  refine va_new (ci := 9) (fs := [.null, .int 0, .int 0, .null, .null, .null, .null, .null, .null, .null]) (C := RX9) (T := TX9) (N := 10) hx hb hT hu9 tyX9 tyX9_ok hown (hT _ tw_1_25) (hT _ tw_1_26) (hT _ tw_1_1) hK.1 hP hD hS hA rfl dfX9 (Nat.le_of_ble_eq_true rfl) (Nat.le_of_ble_eq_true rfl) dL_law_0 (fun q0 H hP hD hS => ?_)
  refine lv_dup hx hb dL_law_3 rfl ?_
  have hP : va_P D vwCl ([(q0, .inr (9, [.null, .int 0, .int 0, .null, .null, .null, .null, .null, .null, .null]))] ++ []) H := hP
  have hD : va_D A ([(q0, .inr (9, [.null, .int 0, .int 0, .null, .null, .null, .null, .null, .null, .null]))] ++ []) := hD
  refine rcI0 (X := [(q0, .inr (9, [.null, .int 0, .int 0, .null, .null, .null, .null, .null, .null, .null]))]) (pl := []) (wc := [(q0, .inr (9, [.null, .int 0, .int 0, .null, .null, .null, .null, .null, .null, .null]))]) (wr := []) (As := []) (rest := [.ref q0]) Fl0 hKI (c_X9_init l hI q0) hP hD hS hA [0] [] rfl rfl rfl rfl (by decide) tw_1_29 tw_1_27 tw_1_28 tw_1_1 yi_X9_init rfl ⟨(Nat.le_of_ble_eq_true rfl), (Nat.le_of_ble_eq_true rfl)⟩ ⟨(Nat.le_of_ble_eq_true rfl), (Nat.le_of_ble_eq_true rfl)⟩ rfl hl.1 rfl (Nat.le_of_ble_eq_true rfl) dL_law_4 (fun H locs w1 hw hPn hDn hSn => ?_)
  obtain ⟨adh, ad, adf, ad0, ad1, ma, e0, hm1, hm2, hm3, hm4, rfl⟩ := hw
  rw [List.nil_append, List.append_nil] at hPn hDn
  refine lv_nmr e0.symm ?_
  refine lv_astore_n (lv' := [(1, .ref (adh 0)), (0, .ref b)]) hx hb dL_law_7 rfl hl (by decide) rfl (fun ls hl => ?_)
  have hP := hPn
  have hD := hDn
  have hS := hSn
  refine va_new (ci := 10) (fs := [.null, .null, .null, .null, .null, .null, .int 0, .null, .int 0, .int 0, .int 0, .int 0, .int 0, .int 0, .int 0, .null, .int 0]) (C := RX10) (T := TX10) (N := 17) hx hb hT hu10 tyX10 tyX10_ok hown (hT _ tw_6_206) (hT _ tw_6_207) (hT _ tw_1_13) hK.1 hP hD hS hA rfl dfX10 (Nat.le_of_ble_eq_true rfl) (Nat.le_of_ble_eq_true rfl) dL_law_8 (fun q8 H hP hD hS => ?_)
  refine lv_dup hx hb dL_law_11 rfl ?_
  have hP : va_P D vwCl ((([] : va_W) ++ (blk 8 adh (hsh cs adh ma) zM ++ (blk 51 ad1 (msh cs ad1) mI ++ (blk 51 ad0 (msh cs ad0) mI ++ (blk 51 adf (msh cs adf) mI ++ (blk 51 ad (msh cs ad) mI ++ [])))))) ++ [(q8, .inr (10, [.null, .null, .null, .null, .null, .null, .int 0, .null, .int 0, .int 0, .int 0, .int 0, .int 0, .int 0, .int 0, .null, .int 0]))]) H := hP
  have hD : va_D A ((([] : va_W) ++ (blk 8 adh (hsh cs adh ma) zM ++ (blk 51 ad1 (msh cs ad1) mI ++ (blk 51 ad0 (msh cs ad0) mI ++ (blk 51 adf (msh cs adf) mI ++ (blk 51 ad (msh cs ad) mI ++ [])))))) ++ [(q8, .inr (10, [.null, .null, .null, .null, .null, .null, .int 0, .null, .int 0, .int 0, .int 0, .int 0, .int 0, .int 0, .int 0, .null, .int 0]))]) := hD
  have hP := va_P.swap hP
  have hD := va_D.swap hD
  refine rcI0 (X := [(q8, .inr (10, [.null, .null, .null, .null, .null, .null, .int 0, .null, .int 0, .int 0, .int 0, .int 0, .int 0, .int 0, .int 0, .null, .int 0]))]) (pl := (blk 8 adh (hsh cs adh ma) zM ++ (blk 51 ad1 (msh cs ad1) mI ++ (blk 51 ad0 (msh cs ad0) mI ++ (blk 51 adf (msh cs adf) mI ++ (blk 51 ad (msh cs ad) mI ++ [])))))) (wc := [(q8, .inr (10, [.null, .null, .null, .null, .null, .null, .int 0, .null, .int 0, .int 0, .int 0, .int 0, .int 0, .int 0, .int 0, .null, .int 0]))]) (wr := []) (As := []) (rest := [.ref q8]) Fl0 hKI (c_X10_init l hX2 hJ hK2 q8) hP hD hS hA [0] [] rfl rfl rfl rfl (by decide) tw_6_210 tw_6_208 tw_6_209 tw_1_13 yi_X10_init rfl ⟨(Nat.le_of_ble_eq_true rfl), (Nat.le_of_ble_eq_true rfl)⟩ ⟨(Nat.le_of_ble_eq_true rfl), (Nat.le_of_ble_eq_true rfl)⟩ rfl hl.1 rfl (Nat.le_of_ble_eq_true rfl) dL_law_12 (fun H locs w1 hw hPn hDn hSn => ?_)
  obtain ⟨adx, e1, rfl⟩ := hw
  rw [List.nil_append] at hPn hDn
  refine lv_nmr e1.symm ?_
  refine lv_astore_n (lv' := [(2, .ref (adx 0)), (1, .ref (adh 0)), (0, .ref b)]) hx hb dL_law_15 rfl hl (by decide) rfl (fun ls hl => ?_)
  refine lv_iconst (v := (1 : Int32)) hx hb dL_law_16 (by decide) ?_
  refine rnL hx hb hT tw_1_141 hK hPn hDn hSn hA 1 (by decide) (by decide) (Nat.le_of_ble_eq_true rfl) (Nat.le_of_ble_eq_true rfl) (Nat.le_of_ble_eq_true rfl) dL_law_17 (fun q16 H hP hD => ?_)
  intro hS
  obtain ⟨adu, hadu⟩ : ∃ adu : Nat → Nat, adu = fun _ => q16 := ⟨_, rfl⟩
  have e2 : q16 = adu 0 := by subst hadu; rfl
  refine lv_nmr e2 ?_
  refine lv_astore_n (lv' := [(3, .ref (adu 0)), (2, .ref (adx 0)), (1, .ref (adh 0)), (0, .ref b)]) hx hb dL_law_19 rfl hl (by decide) rfl (fun ls hl => ?_)
  refine lv_iconst (v := (0 : Int32)) hx hb dL_law_20 (by decide) ?_
  refine lv_istore (lv' := [(4, .int (0 : Int32)), (3, .ref (adu 0)), (2, .ref (adx 0)), (1, .ref (adh 0)), (0, .ref b)]) hx hb dL_law_21 hl (by decide) rfl (fun ls hl => ?_)
  have hP : va_P D vwCl ((blk 9 adx (xsh cs adx) xK ++ (blk 8 adh (hsh cs adh ma) zM ++ (blk 51 ad1 (msh cs ad1) mI ++ (blk 51 ad0 (msh cs ad0) mI ++ (blk 51 adf (msh cs adf) mI ++ (blk 51 ad (msh cs ad) mI ++ [])))))) ++ blk 1 adu (ush cs) zM) H := by subst hadu; exact hP
  have hD : va_D A ((blk 9 adx (xsh cs adx) xK ++ (blk 8 adh (hsh cs adh ma) zM ++ (blk 51 ad1 (msh cs ad1) mI ++ (blk 51 ad0 (msh cs ad0) mI ++ (blk 51 adf (msh cs adf) mI ++ (blk 51 ad (msh cs ad) mI ++ [])))))) ++ blk 1 adu (ush cs) zM) := by subst hadu; exact hD
  obtain ⟨Wf, hWf⟩ : ∃ Wf : MM → MM → MM → MM → MM → MM → MM → va_W, Wf = fun h m f c0 c1 x u => (blk 9 adx (xsh cs adx) x ++ (blk 8 adh (hsh cs adh ma) h ++ (blk 51 ad1 (msh cs ad1) c1 ++ (blk 51 ad0 (msh cs ad0) c0 ++ (blk 51 adf (msh cs adf) f ++ (blk 51 ad (msh cs ad) m ++ [])))))) ++ blk 1 adu (ush cs) u := ⟨_, rfl⟩
  have hLh : ∀ m f c0 c1 x u : MM, Ln 8 adh (hsh cs adh ma) (fun z => Wf z m f c0 c1 x u) := fun m f c0 c1 x u => Ln.of (blk 9 adx (xsh cs adx) x) (blk 51 ad1 (msh cs ad1) c1 ++ (blk 51 ad0 (msh cs ad0) c0 ++ (blk 51 adf (msh cs adf) f ++ (blk 51 ad (msh cs ad) m ++ (blk 1 adu (ush cs) u))))) (fun z => by subst hWf; simp only [List.append_assoc, List.nil_append, List.append_nil])
  have hL : ∀ h f c0 c1 x u : MM, Ln 51 ad (msh cs ad) (fun z => Wf h z f c0 c1 x u) := fun h f c0 c1 x u => Ln.of (blk 9 adx (xsh cs adx) x ++ (blk 8 adh (hsh cs adh ma) h ++ (blk 51 ad1 (msh cs ad1) c1 ++ (blk 51 ad0 (msh cs ad0) c0 ++ (blk 51 adf (msh cs adf) f))))) (blk 1 adu (ush cs) u) (fun z => by subst hWf; simp only [List.append_assoc, List.nil_append, List.append_nil])
  have hLf : ∀ h m c0 c1 x u : MM, Ln 51 adf (msh cs adf) (fun z => Wf h m z c0 c1 x u) := fun h m c0 c1 x u => Ln.of (blk 9 adx (xsh cs adx) x ++ (blk 8 adh (hsh cs adh ma) h ++ (blk 51 ad1 (msh cs ad1) c1 ++ (blk 51 ad0 (msh cs ad0) c0)))) (blk 51 ad (msh cs ad) m ++ (blk 1 adu (ush cs) u)) (fun z => by subst hWf; simp only [List.append_assoc, List.nil_append, List.append_nil])
  have hL0 : ∀ h m f c1 x u : MM, Ln 51 ad0 (msh cs ad0) (fun z => Wf h m f z c1 x u) := fun h m f c1 x u => Ln.of (blk 9 adx (xsh cs adx) x ++ (blk 8 adh (hsh cs adh ma) h ++ (blk 51 ad1 (msh cs ad1) c1))) (blk 51 adf (msh cs adf) f ++ (blk 51 ad (msh cs ad) m ++ (blk 1 adu (ush cs) u))) (fun z => by subst hWf; simp only [List.append_assoc, List.nil_append, List.append_nil])
  have hL1 : ∀ h m f c0 x u : MM, Ln 51 ad1 (msh cs ad1) (fun z => Wf h m f c0 z x u) := fun h m f c0 x u => Ln.of (blk 9 adx (xsh cs adx) x ++ (blk 8 adh (hsh cs adh ma) h)) (blk 51 ad0 (msh cs ad0) c0 ++ (blk 51 adf (msh cs adf) f ++ (blk 51 ad (msh cs ad) m ++ (blk 1 adu (ush cs) u)))) (fun z => by subst hWf; simp only [List.append_assoc, List.nil_append, List.append_nil])
  have hLx : ∀ h m f c0 c1 u : MM, Ln 9 adx (xsh cs adx) (fun z => Wf h m f c0 c1 z u) := fun h m f c0 c1 u => Ln.of ([]) (blk 8 adh (hsh cs adh ma) h ++ (blk 51 ad1 (msh cs ad1) c1 ++ (blk 51 ad0 (msh cs ad0) c0 ++ (blk 51 adf (msh cs adf) f ++ (blk 51 ad (msh cs ad) m ++ (blk 1 adu (ush cs) u)))))) (fun z => by subst hWf; simp only [List.append_assoc, List.nil_append, List.append_nil])
  have hLu : ∀ h m f c0 c1 x : MM, Ln 1 adu (ush cs) (fun z => Wf h m f c0 c1 x z) := fun h m f c0 c1 x => Ln.of (blk 9 adx (xsh cs adx) x ++ (blk 8 adh (hsh cs adh ma) h ++ (blk 51 ad1 (msh cs ad1) c1 ++ (blk 51 ad0 (msh cs ad0) c0 ++ (blk 51 adf (msh cs adf) f ++ (blk 51 ad (msh cs ad) m)))))) ([]) (fun z => by subst hWf; simp only [List.append_assoc, List.nil_append, List.append_nil])
  have hAd : ∀ a0_ b0_ a1_ b1_ a2_ b2_ a3_ b3_ a4_ b4_ a5_ b5_ a6_ b6_ : MM, (Wf a0_ a1_ a2_ a3_ a4_ a5_ a6_).map (fun q => q.1) = (Wf b0_ b1_ b2_ b3_ b4_ b5_ b6_).map (fun q => q.1) := fun a0_ b0_ a1_ b1_ a2_ b2_ a3_ b3_ a4_ b4_ a5_ b5_ a6_ b6_ => by
    subst hWf
    simp only [List.map_append]
    rw [blk_map (n := 9) (ad := adx) (sh := (xsh cs adx)) (m := a5_) (m' := b5_), blk_map (n := 8) (ad := adh) (sh := (hsh cs adh ma)) (m := a0_) (m' := b0_), blk_map (n := 51) (ad := ad1) (sh := (msh cs ad1)) (m := a4_) (m' := b4_), blk_map (n := 51) (ad := ad0) (sh := (msh cs ad0)) (m := a3_) (m' := b3_), blk_map (n := 51) (ad := adf) (sh := (msh cs adf)) (m := a2_) (m' := b2_), blk_map (n := 51) (ad := ad) (sh := (msh cs ad)) (m := a1_) (m' := b1_), blk_map (n := 1) (ad := adu) (sh := (ush cs)) (m := a6_) (m' := b6_)]
  have hP : va_P D vwCl (Wf zM mI mI mI mI xK zM) H := by subst hWf; exact hP
  have hD : va_D A (Wf zM mI mI mI mI xK zM) := by subst hWf; exact hD
  have hLX : LX p s m c b L xs D cs A (Wf zMM zMM zMM zMM zMM zMM zMM) := ⟨Fl0, hX0, hbl, hbA, fun w1 h => va_D.map (h.trans (hAd _ _ _ _ _ _ _ _ _ _ _ _ _ _)) hD, fun w1 z h hz q hq => by
    rcases va_A.map (w := Wf zM mI mI mI mI xK zM) (h.trans (hAd _ _ _ _ _ _ _ _ _ _ _ _ _ _)) hq with ⟨k, y, h9⟩ | h9
    · exact hD.2 k _ h9
    · exact hA q (Nat.le_trans hz h9)⟩
  exact c_L_law l hst hLh hL hLf hL0 hL1 hLx hLu hAd hm1 hm2 hm3 hm4 hLX (fun cells slots H locs ls hc1 hs1 hS => va_forget (fun q hq => by have := hS.2.2 q hq; subst hAe; exact this) (W.widen hc1 hs1 (lw_ret hx hb hr hlocks dL_law_2971))) 5000 0 zM mI mI mI mI xK zM _ _ _ _ _ hpure (Nat.le_of_ble_eq_true rfl) (Nat.le_of_ble_eq_true rfl) hP hS (lv_sub hl [4, 3, 2, 1, 0] rfl)
