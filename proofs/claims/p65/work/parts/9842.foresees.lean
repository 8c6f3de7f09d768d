/-! what the law foresees -/
theorem es6 {α β γ δ ε ζ : Type} {a r : α} {b s : β} {c t : γ} {d u : δ} {e v : ε} {f w : ζ} (h : some (a, b, c, d, e, f) = some (r, s, t, u, v, w)) : a = r ∧ b = s ∧ c = t ∧ d = u ∧ e = v ∧ f = w := ⟨(es2 h).1, es5 (congrArg some (es2 h).2)⟩
noncomputable def D_L_foresees_293 (x1 : Int64) (x4 : Int32) (x5 : Int32) (x6 : Int32) (x7 : Int32) (x8 : Int32) (x9 : Int32) (x11 : Int32) (x12 : Int32) (x13 : Int32) (x14 : Int32) (x15 : Int32) (h : MM) (m : MM) (f : MM) (c0 : MM) (c1 : MM) : Option (Int32 × MM × MM × MM × MM × MM) := if x14 = x4 then (b2 (D_X9_nextAction h m) (fun v51 m52 => if 0 ≤ v51 then (some ((0 : Int32), m52, m, f, c0, c1)) else (b1 (D_X9_now m52 m) (fun v54 => if v54 = x5 then (b1 (D_X9_filledSet m52 m) (fun v56 => b1 (D_J13_bitCount_95d88 v56) (fun v58 => if v58 = x6 then (b1 (lr (D_X9_done (1 : Int32) m52 m)) (fun v60 => if (v60 - x12) = x8 then (b1 (lr (D_X9_done (6 : Int32) m52 m)) (fun v62 => if (v62 - x13) = x9 then (if x15 = x11 then (if 0 ≤ x7 then (b2 (lr (D_X9_restoreSnapshot (0 : Int32) m52 m c0 c1)) (fun v64 m65 => b1 (D_L_whole m52 m65) (fun v67 => if v67 = x1 then (some ((1 : Int32), m52, m65, f, c0, c1)) else (some ((0 : Int32), m52, m65, f, c0, c1))))) else (some ((0 : Int32), m52, m, f, c0, c1))) else (some ((0 : Int32), m52, m, f, c0, c1))) else (some ((0 : Int32), m52, m, f, c0, c1)))) else (some ((0 : Int32), m52, m, f, c0, c1)))) else (some ((0 : Int32), m52, m, f, c0, c1))))) else (some ((0 : Int32), m52, m, f, c0, c1)))))) else (some ((0 : Int32), h, m, f, c0, c1))
noncomputable def D_L_foresees_182 : Nat → Int64 → Int32 → Int32 → Int32 → Int32 → Int32 → Int32 → Int32 → Int32 → Int32 → Int32 → Int32 → MM → MM → MM → MM → MM → Option (Int32 × MM × MM × MM × MM × MM)
  | 0, _, _, _, _, _, _, _, _, _, _, _, _, _, _, _, _, _ => none
  | n + 1, x1, x4, x5, x6, x7, x8, x9, x11, x12, x13, x14, x15, h, m, f, c0, c1 => if x4 ≤ x14 then (D_L_foresees_293 x1 x4 x5 x6 x7 x8 x9 x11 x12 x13 x14 x15 h m f c0 c1) else (b2 (D_X9_nextAction h m) (fun v69 m70 => if v69 < 0 then (D_L_foresees_293 x1 x4 x5 x6 x7 x8 x9 x11 x12 x13 x14 x15 m70 m f c0 c1) else (b2 (D_X9_nextAction m70 m) (fun v72 m73 => b3 (D_X9_step m73 m) (fun v75 m76 m77 => bnd (x14 + (1 : Int32)) (fun v79 => b1 (D_X9_logSize m76 m77) (fun v80 => b1 (lr (D_X9_logEntry (v80 - (1 : Int32)) (0 : Int32) m76 m77)) (fun v82 => if v82 = v72 then (b1 (D_X9_logSize m76 m77) (fun v84 => b1 (lr (D_X9_logEntry (v84 - (1 : Int32)) (1 : Int32) m76 m77)) (fun v86 => if v86 = v75 then (b1 (D_X9_logSize m76 m77) (fun v88 => b1 (lr (D_X9_logEntry (v88 - (1 : Int32)) (2 : Int32) m76 m77)) (fun v90 => b1 (D_X9_now m76 m77) (fun v92 => if v90 = v92 then (if 0 ≤ x15 then (D_L_foresees_182 n x1 x4 x5 x6 x7 x8 x9 x11 x12 x13 v79 x15 m76 m77 f c0 c1) else (b1 (lr (D_X9_feederValue (0 : Int32) (2 : Int32) m76 m77)) (fun v94 => if v94 = 0 then (b1 (lr (D_X9_feederValue (0 : Int32) (4 : Int32) m76 m77)) (fun v96 => if v96 = 0 then (D_L_foresees_182 n x1 x4 x5 x6 x7 x8 x9 x11 x12 x13 v79 v79 m76 m77 f c0 c1) else (D_L_foresees_182 n x1 x4 x5 x6 x7 x8 x9 x11 x12 x13 v79 x15 m76 m77 f c0 c1))) else (D_L_foresees_182 n x1 x4 x5 x6 x7 x8 x9 x11 x12 x13 v79 x15 m76 m77 f c0 c1)))) else (some ((0 : Int32), m76, m77, f, c0, c1)))))) else (some ((0 : Int32), m76, m77, f, c0, c1))))) else (some ((0 : Int32), m76, m77, f, c0, c1))))))))))
noncomputable def D_L_foresees_121 (x1 : Int64) (x4 : Int32) (x5 : Int32) (x6 : Int32) (x7 : Int32) (x8 : Int32) (x9 : Int32) (x11 : Int32) (xt0 : Int32) (xt1 : Int32) (h : MM) (m : MM) (f : MM) (c0 : MM) (c1 : MM) : Option (Int32 × MM × MM × MM × MM × MM) := if xt1 = xt0 then (if 0 ≤ x4 then (b4 (lr (D_X9_saveSnapshot (0 : Int32) h m c0 c1)) (fun v40 m41 m42 m43 => b1 (lr (D_X9_done (1 : Int32) m41 m)) (fun v45 => b1 (lr (D_X9_done (6 : Int32) m41 m)) (fun v47 => b1 (lr (D_X9_feederValue (0 : Int32) (2 : Int32) m41 m)) (fun v49 => if v49 = 0 then (b1 (lr (D_X9_feederValue (0 : Int32) (4 : Int32) m41 m)) (fun v98 => if v98 = 0 then (D_L_foresees_182 FU x1 x4 x5 x6 x7 x8 x9 x11 v45 v47 (0 : Int32) (0 : Int32) m41 m f m42 m43) else (D_L_foresees_182 FU x1 x4 x5 x6 x7 x8 x9 x11 v45 v47 (0 : Int32) (-1 : Int32) m41 m f m42 m43))) else (D_L_foresees_182 FU x1 x4 x5 x6 x7 x8 x9 x11 v45 v47 (0 : Int32) (-1 : Int32) m41 m f m42 m43)))))) else (some ((1 : Int32), h, m, f, c0, c1))) else (some ((0 : Int32), h, m, f, c0, c1))
noncomputable def D_L_foresees_99 (x1 : Int64) (x3 : Int32) (x4 : Int32) (x5 : Int32) (x6 : Int32) (x7 : Int32) (x8 : Int32) (x9 : Int32) (x11 : Int32) (xt0 : Int32) (xt1 : Int32) (h : MM) (m : MM) (f : MM) (c0 : MM) (c1 : MM) : Option (Int32 × MM × MM × MM × MM × MM) := if xt1 = xt0 then (if 0 ≤ x3 then (if x4 = 0 then (D_L_foresees_121 x1 x4 x5 x6 x7 x8 x9 x11 (1 : Int32) (0 : Int32) h m f c0 c1) else (D_L_foresees_121 x1 x4 x5 x6 x7 x8 x9 x11 (0 : Int32) (0 : Int32) h m f c0 c1)) else (if x4 = 0 then (D_L_foresees_121 x1 x4 x5 x6 x7 x8 x9 x11 (1 : Int32) (1 : Int32) h m f c0 c1) else (D_L_foresees_121 x1 x4 x5 x6 x7 x8 x9 x11 (0 : Int32) (1 : Int32) h m f c0 c1))) else (some ((0 : Int32), h, m, f, c0, c1))
noncomputable def D_L_foresees (h : MM) (m : MM) (f : MM) (c0 : MM) (c1 : MM) : Option (Int32 × MM × MM × MM × MM × MM) := b1 (D_L_whole h m) (fun v1 => b2 (D_X9_nextAction h m) (fun v3 m4 => b3 (D_X9_actionsToEnd m4 m f) (fun v6 m7 m8 => b3 (D_X9_timeAtEnd m7 m m8) (fun v10 m11 m12 => b3 (D_X9_filledAtEnd m11 m m12) (fun v14 m15 m16 => b3 (D_X9_splicesAhead m15 m m16) (fun v18 m19 m20 => b3 (D_X9_changesAhead m19 m m20) (fun v22 m23 m24 => b3 (D_X9_cleansAhead m23 m m24) (fun v26 m27 m28 => b3 (D_X9_bestRetries m27 m m28) (fun v30 m31 m32 => b3 (lr (D_X9_runsOut (0 : Int32) m31 m m32)) (fun v34 m35 m36 => b1 (D_L_whole m35 m) (fun v38 => if v38 = v1 then (if v30 < 0 then (some ((0 : Int32), m35, m, m36, c0, c1)) else (if (5 : Int32) < v30 then (some ((0 : Int32), m35, m, m36, c0, c1)) else (if 0 ≤ v6 then (if 0 ≤ v10 then (D_L_foresees_99 v1 v3 v6 v10 v14 v18 v22 v26 v34 (0 : Int32) (0 : Int32) m35 m m36 c0 c1) else (D_L_foresees_99 v1 v3 v6 v10 v14 v18 v22 v26 v34 (1 : Int32) (0 : Int32) m35 m m36 c0 c1)) else (if 0 ≤ v10 then (D_L_foresees_99 v1 v3 v6 v10 v14 v18 v22 v26 v34 (0 : Int32) (1 : Int32) m35 m m36 c0 c1) else (D_L_foresees_99 v1 v3 v6 v10 v14 v18 v22 v26 v34 (1 : Int32) (1 : Int32) m35 m m36 c0 c1))))) else (some ((0 : Int32), m35, m, m36, c0, c1)))))))))))))
set_option maxHeartbeats 4000000 in
set_option maxRecDepth 100000 in
theorem c_L_foresees (l : Launch) {D : va_G} {cs : Nat → ClassId} {adh ad adf ad0 ad1 ma : Nat → Nat} {Wf : MM → MM → MM → MM → MM → va_W} (hLh : ∀ m f c0 c1 : MM, Ln 8 adh (hsh cs adh ma) (fun z => Wf z m f c0 c1)) (hL : ∀ h f c0 c1 : MM, Ln 51 ad (msh cs ad) (fun z => Wf h z f c0 c1)) (hLf : ∀ h m c0 c1 : MM, Ln 51 adf (msh cs adf) (fun z => Wf h m z c0 c1)) (hL0 : ∀ h m f c1 : MM, Ln 51 ad0 (msh cs ad0) (fun z => Wf h m f z c1)) (hL1 : ∀ h m f c0 : MM, Ln 51 ad1 (msh cs ad1) (fun z => Wf h m f c0 z)) (hAd : ∀ a0_ b0_ a1_ b1_ a2_ b2_ a3_ b3_ a4_ b4_ : MM, (Wf a0_ a1_ a2_ a3_ a4_).map (fun q => q.1) = (Wf b0_ b1_ b2_ b3_ b4_).map (fun q => q.1)) (hm1 : ma 1 = ad 24) (hm2 : ma 2 = adf 24) (hm3 : ma 3 = ad0 24) (hm4 : ma 4 = ad1 24) (h : MM) (m : MM) (f : MM) (c0 : MM) (c1 : MM) {rr : Int32} {h' : MM} {m' : MM} {f' : MM} {c0' : MM} {c1' : MM} (hD : D_L_foresees h m f c0 c1 = some (rr, h', m', f', c0', c1')) : Ct l yL_foresees cL_foresees 18 (some .boolean) 9 181 D cs [.ref (adh 0)] (Wf h m f c0 c1) (Wf h' m' f' c0' c1') (some (.int rr)) := by
  refine Ct.ofW (by decide) (Nat.le_of_ble_eq_true rfl) (hAd _ _ _ _ _ _ _ _ _ _) ?_
  intro p e s m0 below meth c A Q ls args hx hb hr hml hlocks hown hts hK hP hD1 hSS hS hA1 hl hret
  have hT : ∀ w ∈ TBL, w.before args s = true := fun w h => hts w (List.mem_cons_of_mem _ h)
  have Fx0 : Fx p l m0 c cL_foresees 18 s args yL_foresees cL_foresees 18 (some .boolean) D cs A := ⟨hx, hb, hml, hown, hts, hK, hSS⟩
  have hown : s.vm.findClass RL = some m0.cls := hown
  have hl : lv_has ls 18 [(0, .ref (adh 0))] := hl
  unfold D_L_foresees at hD
  have c_293 : ∀ (x1 : Int64) (x4 : Int32) (x5 : Int32) (x6 : Int32) (x7 : Int32) (x8 : Int32) (x9 : Int32) (x11 : Int32) (x12 : Int32) (x13 : Int32) (x14 : Int32) (x15 : Int32) (h : MM) (m : MM) (f : MM) (c0 : MM) (c1 : MM) (H : Heap) (locs : List Loc) (ls : Array Slot), D_L_foresees_293 x1 x4 x5 x6 x7 x8 x9 x11 x12 x13 x14 x15 h m f c0 c1 = some (rr, h', m', f', c0', c1') → va_P D vwCl (Wf h m f c0 c1) H → va_S A s.heap H locs → lv_has ls 18 [(0, .ref (adh 0)), (1, .long x1), (4, .int x4), (5, .int x5), (6, .int x6), (7, .int x7), (8, .int x8), (9, .int x9), (11, .int x11), (12, .int x12), (13, .int x13), (14, .int x14), (15, .int x15)] → W p l e ({ frames := 9, cells := 0, slots := 0, locals := 181 } : Room) s m0 args below meth c H locs 0 0 Q (F0 m0 293 ls []) := by
    intro x1 x4 x5 x6 x7 x8 x9 x11 x12 x13 x14 x15 h m f c0 c1 H locs ls hD hP hS hl
    unfold D_L_foresees_293 at hD
    refine lv_iload hx hb dL_foresees_293 (lv_at hl 11 rfl) ?_
    refine lv_iload hx hb dL_foresees_295 (lv_at hl 2 rfl) ?_
    refine lv_icmp_ne (tgt := 367) hx hb dL_foresees_297 (by decide) (fun c => ?_) (fun c => ?_)
    · have hD := ifn hD c
      refine lv_iconst (v := (0 : Int32)) hx hb dL_foresees_367 (by decide) ?_
      obtain ⟨rfl, rfl, rfl, rfl, rfl, rfl⟩ := es6 hD
      exact hret _ _ _ hP hS (fun Qc hq => W.zret hx hb hr rfl hq hS.2.2 dL_foresees_368 hlocks)
    · have hD := ifp hD c
      refine lv_aload_n hx hb dL_foresees_300 rfl (lv_at hl 0 rfl) ?_
      obtain ⟨v51, m52, z53, hD⟩ := b2_el hD
      refine rcV (Wf := fun z => Wf z m f c0 c1) (mm := h) (As := []) (rest := []) Fx0 (c_X9_nextAction l (Wf := fun z0_ z1_ => Wf z0_ z1_ f c0 c1) (fun z1_ => hLh z1_ f c0 c1) (fun z0_ => hL z0_ f c0 c1) (fun a0_ b0_ a1_ b1_ => hAd a0_ b0_ a1_ b1_ f f c0 c0 c1 c1) hm1 h m z53) hP (hD1 _ (hAd _ _ _ _ _ _ _ _ _ _)) hS (hA1 _ _ (hAd _ _ _ _ _ _ _ _ _ _) hS.1) (hLh m f c0 c1) (Nat.le_of_ble_eq_true rfl) (hs0 _ _) rfl tw_6_170 tw_6_167 tw_6_168 tw_6_169 tw_1_1 yd_X9_nextAction ⟨(Nat.le_of_ble_eq_true rfl), (Nat.le_of_ble_eq_true rfl)⟩ rfl hl.1 rfl (Nat.le_of_ble_eq_true rfl) dL_foresees_301 (fun H locs hP hS => ?_)
      refine lv_if_ge (tgt := 367) hx hb dL_foresees_304 (by decide) (fun c => ?_) (fun c => ?_)
      · have hD := ifp hD c
        refine lv_iconst (v := (0 : Int32)) hx hb dL_foresees_367 (by decide) ?_
        obtain ⟨rfl, rfl, rfl, rfl, rfl, rfl⟩ := es6 hD
        exact hret _ _ _ hP hS (fun Qc hq => W.zret hx hb hr rfl hq hS.2.2 dL_foresees_368 hlocks)
      · have hD := ifn hD c
        refine lv_aload_n hx hb dL_foresees_307 rfl (lv_at hl 0 rfl) ?_
        obtain ⟨v54, z55, hD⟩ := b1_el hD
        refine rcV (Wf := fun z => Wf z m f c0 c1) (mm := m52) (As := []) (rest := []) Fx0 (c_X9_now l (Wf := fun z0_ z1_ => Wf z0_ z1_ f c0 c1) (fun z1_ => hLh z1_ f c0 c1) (fun z0_ => hL z0_ f c0 c1) (fun a0_ b0_ a1_ b1_ => hAd a0_ b0_ a1_ b1_ f f c0 c0 c1 c1) hm1 m52 m z55) hP (hD1 _ (hAd _ _ _ _ _ _ _ _ _ _)) hS (hA1 _ _ (hAd _ _ _ _ _ _ _ _ _ _) hS.1) (hLh m f c0 c1) (Nat.le_of_ble_eq_true rfl) (hs0 _ _) rfl tw_3_56 tw_3_53 tw_3_54 tw_3_55 tw_1_1 yd_X9_now ⟨(Nat.le_of_ble_eq_true rfl), (Nat.le_of_ble_eq_true rfl)⟩ rfl hl.1 rfl (Nat.le_of_ble_eq_true rfl) dL_foresees_308 (fun H locs hP hS => ?_)
        refine lv_iload hx hb dL_foresees_311 (lv_at hl 3 rfl) ?_
        refine lv_icmp_ne (tgt := 367) hx hb dL_foresees_313 (by decide) (fun c => ?_) (fun c => ?_)
        · have hD := ifn hD c
          refine lv_iconst (v := (0 : Int32)) hx hb dL_foresees_367 (by decide) ?_
          obtain ⟨rfl, rfl, rfl, rfl, rfl, rfl⟩ := es6 hD
          exact hret _ _ _ hP hS (fun Qc hq => W.zret hx hb hr rfl hq hS.2.2 dL_foresees_368 hlocks)
        · have hD := ifp hD c
          refine lv_aload_n hx hb dL_foresees_316 rfl (lv_at hl 0 rfl) ?_
          obtain ⟨v56, z57, hD⟩ := b1_el hD
          refine rcV (Wf := fun z => Wf z m f c0 c1) (mm := m52) (As := []) (rest := []) Fx0 (c_X9_filledSet l (Wf := fun z0_ z1_ => Wf z0_ z1_ f c0 c1) (fun z1_ => hLh z1_ f c0 c1) (fun z0_ => hL z0_ f c0 c1) (fun a0_ b0_ a1_ b1_ => hAd a0_ b0_ a1_ b1_ f f c0 c0 c1 c1) hm1 m52 m z57) hP (hD1 _ (hAd _ _ _ _ _ _ _ _ _ _)) hS (hA1 _ _ (hAd _ _ _ _ _ _ _ _ _ _) hS.1) (hLh m f c0 c1) (Nat.le_of_ble_eq_true rfl) (hs0 _ _) rfl tw_6_131 tw_6_128 tw_6_129 tw_6_130 tw_1_1 yd_X9_filledSet ⟨(Nat.le_of_ble_eq_true rfl), (Nat.le_of_ble_eq_true rfl)⟩ rfl hl.1 rfl (Nat.le_of_ble_eq_true rfl) dL_foresees_317 (fun H locs hP hS => ?_)
          obtain ⟨v58, z59, hD⟩ := b1_el hD
          refine rcS (As := [.long v56]) (rest := []) Fx0 (c_J13_bitCount_95d88 l v56 z59) hP (hD1 _ (hAd _ _ _ _ _ _ _ _ _ _)) hS (hA1 _ _ (hAd _ _ _ _ _ _ _ _ _ _) hS.1) tw_6_13 tw_6_237 tw_6_12 tw_1_28 yd_J13_bitCount_95d88 ⟨(Nat.le_of_ble_eq_true rfl), (Nat.le_of_ble_eq_true rfl)⟩ rfl hl.1 rfl (Nat.le_of_ble_eq_true rfl) dL_foresees_320 (fun H locs hP hS => ?_)
          refine lv_iload hx hb dL_foresees_323 (lv_at hl 4 rfl) ?_
          refine lv_icmp_ne (tgt := 367) hx hb dL_foresees_325 (by decide) (fun c => ?_) (fun c => ?_)
          · have hD := ifn hD c
            refine lv_iconst (v := (0 : Int32)) hx hb dL_foresees_367 (by decide) ?_
            obtain ⟨rfl, rfl, rfl, rfl, rfl, rfl⟩ := es6 hD
            exact hret _ _ _ hP hS (fun Qc hq => W.zret hx hb hr rfl hq hS.2.2 dL_foresees_368 hlocks)
          · have hD := ifp hD c
            refine lv_aload_n hx hb dL_foresees_328 rfl (lv_at hl 0 rfl) ?_
            refine lv_iconst (v := (1 : Int32)) hx hb dL_foresees_329 (by decide) ?_
            obtain ⟨v60, z610, hD⟩ := b1_el hD
            have z61 := lr_el z610
            refine rcV (Wf := fun z => Wf z m f c0 c1) (mm := m52) (As := [.int (1 : Int32)]) (rest := []) Fx0 (c_X9_done l (Wf := fun z0_ z1_ => Wf z0_ z1_ f c0 c1) (fun z1_ => hLh z1_ f c0 c1) (fun z0_ => hL z0_ f c0 c1) (fun a0_ b0_ a1_ b1_ => hAd a0_ b0_ a1_ b1_ f f c0 c0 c1 c1) hm1 m52 m (1 : Int32) z61) hP (hD1 _ (hAd _ _ _ _ _ _ _ _ _ _)) hS (hA1 _ _ (hAd _ _ _ _ _ _ _ _ _ _) hS.1) (hLh m f c0 c1) (Nat.le_of_ble_eq_true rfl) (hs0 _ _) rfl tw_6_91 tw_6_88 tw_6_89 tw_6_90 tw_1_1 yd_X9_done ⟨(Nat.le_of_ble_eq_true rfl), (Nat.le_of_ble_eq_true rfl)⟩ rfl hl.1 rfl (Nat.le_of_ble_eq_true rfl) dL_foresees_330 (fun H locs hP hS => ?_)
            refine lv_iload hx hb dL_foresees_333 (lv_at hl 9 rfl) ?_
            refine lv_isub hx hb dL_foresees_335 ?_
            refine lv_iload hx hb dL_foresees_336 (lv_at hl 6 rfl) ?_
            refine lv_icmp_ne (tgt := 367) hx hb dL_foresees_338 (by decide) (fun c => ?_) (fun c => ?_)
            · have hD := ifn hD c
              refine lv_iconst (v := (0 : Int32)) hx hb dL_foresees_367 (by decide) ?_
              obtain ⟨rfl, rfl, rfl, rfl, rfl, rfl⟩ := es6 hD
              exact hret _ _ _ hP hS (fun Qc hq => W.zret hx hb hr rfl hq hS.2.2 dL_foresees_368 hlocks)
            · have hD := ifp hD c
              refine lv_aload_n hx hb dL_foresees_341 rfl (lv_at hl 0 rfl) ?_
              refine lv_bipush (v := (6 : Int32)) hx hb dL_foresees_342 (by decide) ?_
              obtain ⟨v62, z630, hD⟩ := b1_el hD
              have z63 := lr_el z630
              refine rcV (Wf := fun z => Wf z m f c0 c1) (mm := m52) (As := [.int (6 : Int32)]) (rest := []) Fx0 (c_X9_done l (Wf := fun z0_ z1_ => Wf z0_ z1_ f c0 c1) (fun z1_ => hLh z1_ f c0 c1) (fun z0_ => hL z0_ f c0 c1) (fun a0_ b0_ a1_ b1_ => hAd a0_ b0_ a1_ b1_ f f c0 c0 c1 c1) hm1 m52 m (6 : Int32) z63) hP (hD1 _ (hAd _ _ _ _ _ _ _ _ _ _)) hS (hA1 _ _ (hAd _ _ _ _ _ _ _ _ _ _) hS.1) (hLh m f c0 c1) (Nat.le_of_ble_eq_true rfl) (hs0 _ _) rfl tw_6_91 tw_6_88 tw_6_89 tw_6_90 tw_1_1 yd_X9_done ⟨(Nat.le_of_ble_eq_true rfl), (Nat.le_of_ble_eq_true rfl)⟩ rfl hl.1 rfl (Nat.le_of_ble_eq_true rfl) dL_foresees_344 (fun H locs hP hS => ?_)
              refine lv_iload hx hb dL_foresees_347 (lv_at hl 10 rfl) ?_
              refine lv_isub hx hb dL_foresees_349 ?_
              refine lv_iload hx hb dL_foresees_350 (lv_at hl 7 rfl) ?_
              refine lv_icmp_ne (tgt := 367) hx hb dL_foresees_352 (by decide) (fun c => ?_) (fun c => ?_)
              · have hD := ifn hD c
                refine lv_iconst (v := (0 : Int32)) hx hb dL_foresees_367 (by decide) ?_
                obtain ⟨rfl, rfl, rfl, rfl, rfl, rfl⟩ := es6 hD
                exact hret _ _ _ hP hS (fun Qc hq => W.zret hx hb hr rfl hq hS.2.2 dL_foresees_368 hlocks)
              · have hD := ifp hD c
                refine lv_iload hx hb dL_foresees_355 (lv_at hl 12 rfl) ?_
                refine lv_iload hx hb dL_foresees_357 (lv_at hl 8 rfl) ?_
                refine lv_icmp_ne (tgt := 367) hx hb dL_foresees_359 (by decide) (fun c => ?_) (fun c => ?_)
                · have hD := ifn hD c
                  refine lv_iconst (v := (0 : Int32)) hx hb dL_foresees_367 (by decide) ?_
                  obtain ⟨rfl, rfl, rfl, rfl, rfl, rfl⟩ := es6 hD
                  exact hret _ _ _ hP hS (fun Qc hq => W.zret hx hb hr rfl hq hS.2.2 dL_foresees_368 hlocks)
                · have hD := ifp hD c
                  refine lv_iload hx hb dL_foresees_362 (lv_at hl 5 rfl) ?_
                  refine lv_if_ge (tgt := 369) hx hb dL_foresees_364 (by decide) (fun c => ?_) (fun c => ?_)
                  · have hD := ifp hD c
                    refine lv_aload_n hx hb dL_foresees_369 rfl (lv_at hl 0 rfl) ?_
                    refine lv_iconst (v := (0 : Int32)) hx hb dL_foresees_370 (by decide) ?_
                    obtain ⟨v64, m65, z660, hD⟩ := b2_el hD
                    have z66 := lr_el z660
                    refine rcV (Wf := fun z => Wf z m f c0 c1) (mm := m52) (As := [.int (0 : Int32)]) (rest := []) Fx0 (c_X9_restoreSnapshot l (Wf := fun z0_ z1_ z2_ z3_ => Wf z0_ z1_ f z2_ z3_) (fun z1_ z2_ z3_ => hLh z1_ f z2_ z3_) (fun z0_ z2_ z3_ => hL z0_ f z2_ z3_) (fun z0_ z1_ z3_ => hL0 z0_ z1_ f z3_) (fun z0_ z1_ z2_ => hL1 z0_ z1_ f z2_) (fun a0_ b0_ a1_ b1_ a2_ b2_ a3_ b3_ => hAd a0_ b0_ a1_ b1_ f f a2_ b2_ a3_ b3_) hm1 hm3 hm4 m52 m c0 c1 (0 : Int32) z66) hP (hD1 _ (hAd _ _ _ _ _ _ _ _ _ _)) hS (hA1 _ _ (hAd _ _ _ _ _ _ _ _ _ _) hS.1) (hLh m f c0 c1) (Nat.le_of_ble_eq_true rfl) (hs0 _ _) rfl tw_7_1 tw_6_238 tw_6_239 tw_7_0 tw_1_1 yd_X9_restoreSnapshot ⟨(Nat.le_of_ble_eq_true rfl), (Nat.le_of_ble_eq_true rfl)⟩ rfl hl.1 rfl (Nat.le_of_ble_eq_true rfl) dL_foresees_371 (fun H locs hP hS => ?_)
                    refine lv_pop hx hb dL_foresees_374 rfl ?_
                    refine lv_aload_n hx hb dL_foresees_375 rfl (lv_at hl 0 rfl) ?_
                    obtain ⟨v67, z68, hD⟩ := b1_el hD
                    refine rcS (As := [.ref (adh 0)]) (rest := []) Fx0 (c_L_whole l (Wf := fun z0_ z1_ => Wf z0_ z1_ f c0 c1) (fun z1_ => hLh z1_ f c0 c1) (fun z0_ => hL z0_ f c0 c1) (fun a0_ b0_ a1_ b1_ => hAd a0_ b0_ a1_ b1_ f f c0 c0 c1 c1) hm1 m52 m65 z68) hP (hD1 _ (hAd _ _ _ _ _ _ _ _ _ _)) hS (hA1 _ _ (hAd _ _ _ _ _ _ _ _ _ _) hS.1) tw_6_146 tw_6_144 tw_6_145 tw_1_0 yd_L_whole ⟨(Nat.le_of_ble_eq_true rfl), (Nat.le_of_ble_eq_true rfl)⟩ rfl hl.1 rfl (Nat.le_of_ble_eq_true rfl) dL_foresees_376 (fun H locs hP hS => ?_)
                    refine lv_lload_n hx hb dL_foresees_379 rfl (lv_at hl 1 rfl) ?_
                    refine rlc_ne (tgt := 388) hx hb dL_foresees_380 dL_foresees_381 (by decide) (fun c => ?_) (fun c => ?_)
                    · have hD := ifn hD c
                      refine lv_iconst (v := (0 : Int32)) hx hb dL_foresees_388 (by decide) ?_
                      obtain ⟨rfl, rfl, rfl, rfl, rfl, rfl⟩ := es6 hD
                      exact hret _ _ _ hP hS (fun Qc hq => W.zret hx hb hr rfl hq hS.2.2 dL_foresees_389 hlocks)
                    · have hD := ifp hD c
                      refine lv_iconst (v := (1 : Int32)) hx hb dL_foresees_384 (by decide) ?_
                      refine lv_goto (tgt := 389) hx hb dL_foresees_385 (by decide) ?_
                      obtain ⟨rfl, rfl, rfl, rfl, rfl, rfl⟩ := es6 hD
                      exact hret _ _ _ hP hS (fun Qc hq => W.zret hx hb hr rfl hq hS.2.2 dL_foresees_389 hlocks)
                  · have hD := ifn hD c
                    refine lv_iconst (v := (0 : Int32)) hx hb dL_foresees_367 (by decide) ?_
                    obtain ⟨rfl, rfl, rfl, rfl, rfl, rfl⟩ := es6 hD
                    exact hret _ _ _ hP hS (fun Qc hq => W.zret hx hb hr rfl hq hS.2.2 dL_foresees_368 hlocks)
  have c_182 : ∀ (n : Nat), ∀ (x1 : Int64) (x4 : Int32) (x5 : Int32) (x6 : Int32) (x7 : Int32) (x8 : Int32) (x9 : Int32) (x11 : Int32) (x12 : Int32) (x13 : Int32) (x14 : Int32) (x15 : Int32) (h : MM) (m : MM) (f : MM) (c0 : MM) (c1 : MM) (H : Heap) (locs : List Loc) (ls : Array Slot), D_L_foresees_182 n x1 x4 x5 x6 x7 x8 x9 x11 x12 x13 x14 x15 h m f c0 c1 = some (rr, h', m', f', c0', c1') → va_P D vwCl (Wf h m f c0 c1) H → va_S A s.heap H locs → lv_has ls 18 [(0, .ref (adh 0)), (1, .long x1), (4, .int x4), (5, .int x5), (6, .int x6), (7, .int x7), (8, .int x8), (9, .int x9), (11, .int x11), (12, .int x12), (13, .int x13), (14, .int x14), (15, .int x15)] → W p l e ({ frames := 9, cells := 0, slots := 0, locals := 181 } : Room) s m0 args below meth c H locs 0 0 Q (F0 m0 182 ls []) := by
    intro n
    induction n with
    | zero =>
      intro x1 x4 x5 x6 x7 x8 x9 x11 x12 x13 x14 x15 h m f c0 c1 H locs ls hD hP hS hl
      exact nn_el hD
    | succ n ih =>
      intro x1 x4 x5 x6 x7 x8 x9 x11 x12 x13 x14 x15 h m f c0 c1 H locs ls hD hP hS hl
      rw [D_L_foresees_182] at hD
      refine lv_iload hx hb dL_foresees_182 (lv_at hl 11 rfl) ?_
      refine lv_iload hx hb dL_foresees_184 (lv_at hl 2 rfl) ?_
      refine lv_icmp_ge (tgt := 293) hx hb dL_foresees_186 (by decide) (fun c => ?_) (fun c => ?_)
      · have hD := ifp hD c
        exact c_293 _ _ _ _ _ _ _ _ _ _ _ _ _ _ _ _ _ _ _ _ hD hP hS (lv_sub hl [0, 1, 2, 3, 4, 5, 6, 7, 8, 9, 10, 11, 12] rfl)
      · have hD := ifn hD c
        refine lv_aload_n hx hb dL_foresees_189 rfl (lv_at hl 0 rfl) ?_
        obtain ⟨v69, m70, z71, hD⟩ := b2_el hD
        refine rcV (Wf := fun z => Wf z m f c0 c1) (mm := h) (As := []) (rest := []) Fx0 (c_X9_nextAction l (Wf := fun z0_ z1_ => Wf z0_ z1_ f c0 c1) (fun z1_ => hLh z1_ f c0 c1) (fun z0_ => hL z0_ f c0 c1) (fun a0_ b0_ a1_ b1_ => hAd a0_ b0_ a1_ b1_ f f c0 c0 c1 c1) hm1 h m z71) hP (hD1 _ (hAd _ _ _ _ _ _ _ _ _ _)) hS (hA1 _ _ (hAd _ _ _ _ _ _ _ _ _ _) hS.1) (hLh m f c0 c1) (Nat.le_of_ble_eq_true rfl) (hs0 _ _) rfl tw_6_170 tw_6_167 tw_6_168 tw_6_169 tw_1_1 yd_X9_nextAction ⟨(Nat.le_of_ble_eq_true rfl), (Nat.le_of_ble_eq_true rfl)⟩ rfl hl.1 rfl (Nat.le_of_ble_eq_true rfl) dL_foresees_190 (fun H locs hP hS => ?_)
        refine lv_if_lt (tgt := 293) hx hb dL_foresees_193 (by decide) (fun c => ?_) (fun c => ?_)
        · have hD := ifp hD c
          exact c_293 _ _ _ _ _ _ _ _ _ _ _ _ _ _ _ _ _ _ _ _ hD hP hS (lv_sub hl [0, 1, 2, 3, 4, 5, 6, 7, 8, 9, 10, 11, 12] rfl)
        · have hD := ifn hD c
          refine lv_aload_n hx hb dL_foresees_196 rfl (lv_at hl 0 rfl) ?_
          obtain ⟨v72, m73, z74, hD⟩ := b2_el hD
          refine rcV (Wf := fun z => Wf z m f c0 c1) (mm := m70) (As := []) (rest := []) Fx0 (c_X9_nextAction l (Wf := fun z0_ z1_ => Wf z0_ z1_ f c0 c1) (fun z1_ => hLh z1_ f c0 c1) (fun z0_ => hL z0_ f c0 c1) (fun a0_ b0_ a1_ b1_ => hAd a0_ b0_ a1_ b1_ f f c0 c0 c1 c1) hm1 m70 m z74) hP (hD1 _ (hAd _ _ _ _ _ _ _ _ _ _)) hS (hA1 _ _ (hAd _ _ _ _ _ _ _ _ _ _) hS.1) (hLh m f c0 c1) (Nat.le_of_ble_eq_true rfl) (hs0 _ _) rfl tw_6_170 tw_6_167 tw_6_168 tw_6_169 tw_1_1 yd_X9_nextAction ⟨(Nat.le_of_ble_eq_true rfl), (Nat.le_of_ble_eq_true rfl)⟩ rfl hl.1 rfl (Nat.le_of_ble_eq_true rfl) dL_foresees_197 (fun H locs hP hS => ?_)
          refine lv_istore (lv' := [(16, .int v72), (0, .ref (adh 0)), (1, .long x1), (4, .int x4), (5, .int x5), (6, .int x6), (7, .int x7), (8, .int x8), (9, .int x9), (11, .int x11), (12, .int x12), (13, .int x13), (14, .int x14), (15, .int x15)]) hx hb dL_foresees_200 hl (by decide) rfl (fun ls hl => ?_)
          refine lv_aload_n hx hb dL_foresees_202 rfl (lv_at hl 1 rfl) ?_
          obtain ⟨v75, m76, m77, z78, hD⟩ := b3_el hD
          refine rcV (Wf := fun z => Wf z m f c0 c1) (mm := m73) (As := []) (rest := []) Fx0 (c_X9_step l (Wf := fun z0_ z1_ => Wf z0_ z1_ f c0 c1) (fun z1_ => hLh z1_ f c0 c1) (fun z0_ => hL z0_ f c0 c1) (fun a0_ b0_ a1_ b1_ => hAd a0_ b0_ a1_ b1_ f f c0 c0 c1 c1) hm1 m73 m z78) hP (hD1 _ (hAd _ _ _ _ _ _ _ _ _ _)) hS (hA1 _ _ (hAd _ _ _ _ _ _ _ _ _ _) hS.1) (hLh m f c0 c1) (Nat.le_of_ble_eq_true rfl) (hs0 _ _) rfl tw_6_228 tw_6_225 tw_6_226 tw_6_227 tw_1_1 yd_X9_step ⟨(Nat.le_of_ble_eq_true rfl), (Nat.le_of_ble_eq_true rfl)⟩ rfl hl.1 rfl (Nat.le_of_ble_eq_true rfl) dL_foresees_203 (fun H locs hP hS => ?_)
          refine lv_istore (lv' := [(17, .int v75), (16, .int v72), (0, .ref (adh 0)), (1, .long x1), (4, .int x4), (5, .int x5), (6, .int x6), (7, .int x7), (8, .int x8), (9, .int x9), (11, .int x11), (12, .int x12), (13, .int x13), (14, .int x14), (15, .int x15)]) hx hb dL_foresees_206 hl (by decide) rfl (fun ls hl => ?_)
          obtain ⟨v79, ev79, hD⟩ := bnd_el hD
          refine lv_iinc (v := v79) (lv' := [(14, .int v79), (17, .int v75), (16, .int v72), (0, .ref (adh 0)), (1, .long x1), (4, .int x4), (5, .int x5), (6, .int x6), (7, .int x7), (8, .int x8), (9, .int x9), (11, .int x11), (12, .int x12), (13, .int x13), (15, .int x15)]) hx hb dL_foresees_208 hl (k := 13) rfl (by rw [ev79]; rfl) (by decide) rfl (fun ls hl => ?_)
          refine lv_aload_n hx hb dL_foresees_211 rfl (lv_at hl 3 rfl) ?_
          refine lv_aload_n hx hb dL_foresees_212 rfl (lv_at hl 3 rfl) ?_
          obtain ⟨v80, z81, hD⟩ := b1_el hD
          refine rcV (Wf := fun z => Wf z m77 f c0 c1) (mm := m76) (As := []) (rest := [.ref (adh 0)]) Fx0 (c_X9_logSize l (Wf := fun z0_ z1_ => Wf z0_ z1_ f c0 c1) (fun z1_ => hLh z1_ f c0 c1) (fun z0_ => hL z0_ f c0 c1) (fun a0_ b0_ a1_ b1_ => hAd a0_ b0_ a1_ b1_ f f c0 c0 c1 c1) hm1 m76 m77 z81) hP (hD1 _ (hAd _ _ _ _ _ _ _ _ _ _)) hS (hA1 _ _ (hAd _ _ _ _ _ _ _ _ _ _) hS.1) (hLh m77 f c0 c1) (Nat.le_of_ble_eq_true rfl) (hs0 _ _) rfl tw_6_111 tw_6_108 tw_6_109 tw_6_110 tw_1_1 yd_X9_logSize ⟨(Nat.le_of_ble_eq_true rfl), (Nat.le_of_ble_eq_true rfl)⟩ rfl hl.1 rfl (Nat.le_of_ble_eq_true rfl) dL_foresees_213 (fun H locs hP hS => ?_)
          refine lv_iconst (v := (1 : Int32)) hx hb dL_foresees_216 (by decide) ?_
          refine lv_isub hx hb dL_foresees_217 ?_
          refine lv_iconst (v := (0 : Int32)) hx hb dL_foresees_218 (by decide) ?_
          obtain ⟨v82, z830, hD⟩ := b1_el hD
          have z83 := lr_el z830
          refine rcV (Wf := fun z => Wf z m77 f c0 c1) (mm := m76) (As := [.int (v80 - (1 : Int32)), .int (0 : Int32)]) (rest := []) Fx0 (c_X9_logEntry l (Wf := fun z0_ z1_ => Wf z0_ z1_ f c0 c1) (fun z1_ => hLh z1_ f c0 c1) (fun z0_ => hL z0_ f c0 c1) (fun a0_ b0_ a1_ b1_ => hAd a0_ b0_ a1_ b1_ f f c0 c0 c1 c1) hm1 m76 m77 (v80 - (1 : Int32)) (0 : Int32) z83) hP (hD1 _ (hAd _ _ _ _ _ _ _ _ _ _)) hS (hA1 _ _ (hAd _ _ _ _ _ _ _ _ _ _) hS.1) (hLh m77 f c0 c1) (Nat.le_of_ble_eq_true rfl) (hs0 _ _) rfl tw_6_232 tw_6_229 tw_6_230 tw_6_231 tw_1_1 yd_X9_logEntry ⟨(Nat.le_of_ble_eq_true rfl), (Nat.le_of_ble_eq_true rfl)⟩ rfl hl.1 rfl (Nat.le_of_ble_eq_true rfl) dL_foresees_219 (fun H locs hP hS => ?_)
          refine lv_iload hx hb dL_foresees_222 (lv_at hl 2 rfl) ?_
          refine lv_icmp_ne (tgt := 261) hx hb dL_foresees_224 (by decide) (fun c => ?_) (fun c => ?_)
          · have hD := ifn hD c
            refine lv_iconst (v := (0 : Int32)) hx hb dL_foresees_261 (by decide) ?_
            obtain ⟨rfl, rfl, rfl, rfl, rfl, rfl⟩ := es6 hD
            exact hret _ _ _ hP hS (fun Qc hq => W.zret hx hb hr rfl hq hS.2.2 dL_foresees_262 hlocks)
          · have hD := ifp hD c
            refine lv_aload_n hx hb dL_foresees_227 rfl (lv_at hl 3 rfl) ?_
            refine lv_aload_n hx hb dL_foresees_228 rfl (lv_at hl 3 rfl) ?_
            obtain ⟨v84, z85, hD⟩ := b1_el hD
            refine rcV (Wf := fun z => Wf z m77 f c0 c1) (mm := m76) (As := []) (rest := [.ref (adh 0)]) Fx0 (c_X9_logSize l (Wf := fun z0_ z1_ => Wf z0_ z1_ f c0 c1) (fun z1_ => hLh z1_ f c0 c1) (fun z0_ => hL z0_ f c0 c1) (fun a0_ b0_ a1_ b1_ => hAd a0_ b0_ a1_ b1_ f f c0 c0 c1 c1) hm1 m76 m77 z85) hP (hD1 _ (hAd _ _ _ _ _ _ _ _ _ _)) hS (hA1 _ _ (hAd _ _ _ _ _ _ _ _ _ _) hS.1) (hLh m77 f c0 c1) (Nat.le_of_ble_eq_true rfl) (hs0 _ _) rfl tw_6_111 tw_6_108 tw_6_109 tw_6_110 tw_1_1 yd_X9_logSize ⟨(Nat.le_of_ble_eq_true rfl), (Nat.le_of_ble_eq_true rfl)⟩ rfl hl.1 rfl (Nat.le_of_ble_eq_true rfl) dL_foresees_229 (fun H locs hP hS => ?_)
            refine lv_iconst (v := (1 : Int32)) hx hb dL_foresees_232 (by decide) ?_
            refine lv_isub hx hb dL_foresees_233 ?_
            refine lv_iconst (v := (1 : Int32)) hx hb dL_foresees_234 (by decide) ?_
            obtain ⟨v86, z870, hD⟩ := b1_el hD
            have z87 := lr_el z870
            refine rcV (Wf := fun z => Wf z m77 f c0 c1) (mm := m76) (As := [.int (v84 - (1 : Int32)), .int (1 : Int32)]) (rest := []) Fx0 (c_X9_logEntry l (Wf := fun z0_ z1_ => Wf z0_ z1_ f c0 c1) (fun z1_ => hLh z1_ f c0 c1) (fun z0_ => hL z0_ f c0 c1) (fun a0_ b0_ a1_ b1_ => hAd a0_ b0_ a1_ b1_ f f c0 c0 c1 c1) hm1 m76 m77 (v84 - (1 : Int32)) (1 : Int32) z87) hP (hD1 _ (hAd _ _ _ _ _ _ _ _ _ _)) hS (hA1 _ _ (hAd _ _ _ _ _ _ _ _ _ _) hS.1) (hLh m77 f c0 c1) (Nat.le_of_ble_eq_true rfl) (hs0 _ _) rfl tw_6_232 tw_6_229 tw_6_230 tw_6_231 tw_1_1 yd_X9_logEntry ⟨(Nat.le_of_ble_eq_true rfl), (Nat.le_of_ble_eq_true rfl)⟩ rfl hl.1 rfl (Nat.le_of_ble_eq_true rfl) dL_foresees_235 (fun H locs hP hS => ?_)
            refine lv_iload hx hb dL_foresees_238 (lv_at hl 1 rfl) ?_
            refine lv_icmp_ne (tgt := 261) hx hb dL_foresees_240 (by decide) (fun c => ?_) (fun c => ?_)
            · have hD := ifn hD c
              refine lv_iconst (v := (0 : Int32)) hx hb dL_foresees_261 (by decide) ?_
              obtain ⟨rfl, rfl, rfl, rfl, rfl, rfl⟩ := es6 hD
              exact hret _ _ _ hP hS (fun Qc hq => W.zret hx hb hr rfl hq hS.2.2 dL_foresees_262 hlocks)
            · have hD := ifp hD c
              refine lv_aload_n hx hb dL_foresees_243 rfl (lv_at hl 3 rfl) ?_
              refine lv_aload_n hx hb dL_foresees_244 rfl (lv_at hl 3 rfl) ?_
              obtain ⟨v88, z89, hD⟩ := b1_el hD
              refine rcV (Wf := fun z => Wf z m77 f c0 c1) (mm := m76) (As := []) (rest := [.ref (adh 0)]) Fx0 (c_X9_logSize l (Wf := fun z0_ z1_ => Wf z0_ z1_ f c0 c1) (fun z1_ => hLh z1_ f c0 c1) (fun z0_ => hL z0_ f c0 c1) (fun a0_ b0_ a1_ b1_ => hAd a0_ b0_ a1_ b1_ f f c0 c0 c1 c1) hm1 m76 m77 z89) hP (hD1 _ (hAd _ _ _ _ _ _ _ _ _ _)) hS (hA1 _ _ (hAd _ _ _ _ _ _ _ _ _ _) hS.1) (hLh m77 f c0 c1) (Nat.le_of_ble_eq_true rfl) (hs0 _ _) rfl tw_6_111 tw_6_108 tw_6_109 tw_6_110 tw_1_1 yd_X9_logSize ⟨(Nat.le_of_ble_eq_true rfl), (Nat.le_of_ble_eq_true rfl)⟩ rfl hl.1 rfl (Nat.le_of_ble_eq_true rfl) dL_foresees_245 (fun H locs hP hS => ?_)
              refine lv_iconst (v := (1 : Int32)) hx hb dL_foresees_248 (by decide) ?_
              refine lv_isub hx hb dL_foresees_249 ?_
              refine lv_iconst (v := (2 : Int32)) hx hb dL_foresees_250 (by decide) ?_
              obtain ⟨v90, z910, hD⟩ := b1_el hD
              have z91 := lr_el z910
              refine rcV (Wf := fun z => Wf z m77 f c0 c1) (mm := m76) (As := [.int (v88 - (1 : Int32)), .int (2 : Int32)]) (rest := []) Fx0 (c_X9_logEntry l (Wf := fun z0_ z1_ => Wf z0_ z1_ f c0 c1) (fun z1_ => hLh z1_ f c0 c1) (fun z0_ => hL z0_ f c0 c1) (fun a0_ b0_ a1_ b1_ => hAd a0_ b0_ a1_ b1_ f f c0 c0 c1 c1) hm1 m76 m77 (v88 - (1 : Int32)) (2 : Int32) z91) hP (hD1 _ (hAd _ _ _ _ _ _ _ _ _ _)) hS (hA1 _ _ (hAd _ _ _ _ _ _ _ _ _ _) hS.1) (hLh m77 f c0 c1) (Nat.le_of_ble_eq_true rfl) (hs0 _ _) rfl tw_6_232 tw_6_229 tw_6_230 tw_6_231 tw_1_1 yd_X9_logEntry ⟨(Nat.le_of_ble_eq_true rfl), (Nat.le_of_ble_eq_true rfl)⟩ rfl hl.1 rfl (Nat.le_of_ble_eq_true rfl) dL_foresees_251 (fun H locs hP hS => ?_)
              refine lv_aload_n hx hb dL_foresees_254 rfl (lv_at hl 3 rfl) ?_
              obtain ⟨v92, z93, hD⟩ := b1_el hD
              refine rcV (Wf := fun z => Wf z m77 f c0 c1) (mm := m76) (As := []) (rest := [.int v90]) Fx0 (c_X9_now l (Wf := fun z0_ z1_ => Wf z0_ z1_ f c0 c1) (fun z1_ => hLh z1_ f c0 c1) (fun z0_ => hL z0_ f c0 c1) (fun a0_ b0_ a1_ b1_ => hAd a0_ b0_ a1_ b1_ f f c0 c0 c1 c1) hm1 m76 m77 z93) hP (hD1 _ (hAd _ _ _ _ _ _ _ _ _ _)) hS (hA1 _ _ (hAd _ _ _ _ _ _ _ _ _ _) hS.1) (hLh m77 f c0 c1) (Nat.le_of_ble_eq_true rfl) (hs0 _ _) rfl tw_3_56 tw_3_53 tw_3_54 tw_3_55 tw_1_1 yd_X9_now ⟨(Nat.le_of_ble_eq_true rfl), (Nat.le_of_ble_eq_true rfl)⟩ rfl hl.1 rfl (Nat.le_of_ble_eq_true rfl) dL_foresees_255 (fun H locs hP hS => ?_)
              refine lv_icmp_eq (tgt := 263) hx hb dL_foresees_258 (by decide) (fun c => ?_) (fun c => ?_)
              · have hD := ifp hD c
                refine lv_iload hx hb dL_foresees_263 (lv_at hl 14 rfl) ?_
                refine lv_if_ge (tgt := 290) hx hb dL_foresees_265 (by decide) (fun c => ?_) (fun c => ?_)
                · have hD := ifp hD c
                  refine lv_goto (tgt := 182) hx hb dL_foresees_290 (by decide) ?_
                  exact ih _ _ _ _ _ _ _ _ _ _ _ _ _ _ _ _ _ _ _ _ hD hP hS (lv_sub hl [3, 4, 5, 6, 7, 8, 9, 10, 11, 12, 13, 0, 14] rfl)
                · have hD := ifn hD c
                  refine lv_aload_n hx hb dL_foresees_268 rfl (lv_at hl 3 rfl) ?_
                  refine lv_iconst (v := (0 : Int32)) hx hb dL_foresees_269 (by decide) ?_
                  refine lv_iconst (v := (2 : Int32)) hx hb dL_foresees_270 (by decide) ?_
                  obtain ⟨v94, z950, hD⟩ := b1_el hD
                  have z95 := lr_el z950
                  refine rcV (Wf := fun z => Wf z m77 f c0 c1) (mm := m76) (As := [.int (0 : Int32), .int (2 : Int32)]) (rest := []) Fx0 (c_X9_feederValue l (Wf := fun z0_ z1_ => Wf z0_ z1_ f c0 c1) (fun z1_ => hLh z1_ f c0 c1) (fun z0_ => hL z0_ f c0 c1) (fun a0_ b0_ a1_ b1_ => hAd a0_ b0_ a1_ b1_ f f c0 c0 c1 c1) hm1 m76 m77 (0 : Int32) (2 : Int32) z95) hP (hD1 _ (hAd _ _ _ _ _ _ _ _ _ _)) hS (hA1 _ _ (hAd _ _ _ _ _ _ _ _ _ _) hS.1) (hLh m77 f c0 c1) (Nat.le_of_ble_eq_true rfl) (hs0 _ _) rfl tw_6_162 tw_6_159 tw_6_160 tw_6_161 tw_1_1 yd_X9_feederValue ⟨(Nat.le_of_ble_eq_true rfl), (Nat.le_of_ble_eq_true rfl)⟩ rfl hl.1 rfl (Nat.le_of_ble_eq_true rfl) dL_foresees_271 (fun H locs hP hS => ?_)
                  refine lv_if_ne (tgt := 290) hx hb dL_foresees_274 (by decide) (fun c => ?_) (fun c => ?_)
                  · have hD := ifn hD c
                    refine lv_goto (tgt := 182) hx hb dL_foresees_290 (by decide) ?_
                    exact ih _ _ _ _ _ _ _ _ _ _ _ _ _ _ _ _ _ _ _ _ hD hP hS (lv_sub hl [3, 4, 5, 6, 7, 8, 9, 10, 11, 12, 13, 0, 14] rfl)
                  · have hD := ifp hD c
                    refine lv_aload_n hx hb dL_foresees_277 rfl (lv_at hl 3 rfl) ?_
                    refine lv_iconst (v := (0 : Int32)) hx hb dL_foresees_278 (by decide) ?_
                    refine lv_iconst (v := (4 : Int32)) hx hb dL_foresees_279 (by decide) ?_
                    obtain ⟨v96, z970, hD⟩ := b1_el hD
                    have z97 := lr_el z970
                    refine rcV (Wf := fun z => Wf z m77 f c0 c1) (mm := m76) (As := [.int (0 : Int32), .int (4 : Int32)]) (rest := []) Fx0 (c_X9_feederValue l (Wf := fun z0_ z1_ => Wf z0_ z1_ f c0 c1) (fun z1_ => hLh z1_ f c0 c1) (fun z0_ => hL z0_ f c0 c1) (fun a0_ b0_ a1_ b1_ => hAd a0_ b0_ a1_ b1_ f f c0 c0 c1 c1) hm1 m76 m77 (0 : Int32) (4 : Int32) z97) hP (hD1 _ (hAd _ _ _ _ _ _ _ _ _ _)) hS (hA1 _ _ (hAd _ _ _ _ _ _ _ _ _ _) hS.1) (hLh m77 f c0 c1) (Nat.le_of_ble_eq_true rfl) (hs0 _ _) rfl tw_6_162 tw_6_159 tw_6_160 tw_6_161 tw_1_1 yd_X9_feederValue ⟨(Nat.le_of_ble_eq_true rfl), (Nat.le_of_ble_eq_true rfl)⟩ rfl hl.1 rfl (Nat.le_of_ble_eq_true rfl) dL_foresees_280 (fun H locs hP hS => ?_)
                    refine lv_if_ne (tgt := 290) hx hb dL_foresees_283 (by decide) (fun c => ?_) (fun c => ?_)
                    · have hD := ifn hD c
                      refine lv_goto (tgt := 182) hx hb dL_foresees_290 (by decide) ?_
                      exact ih _ _ _ _ _ _ _ _ _ _ _ _ _ _ _ _ _ _ _ _ hD hP hS (lv_sub hl [3, 4, 5, 6, 7, 8, 9, 10, 11, 12, 13, 0, 14] rfl)
                    · have hD := ifp hD c
                      refine lv_iload hx hb dL_foresees_286 (lv_at hl 0 rfl) ?_
                      refine lv_istore (lv' := [(15, .int v79), (14, .int v79), (17, .int v75), (16, .int v72), (0, .ref (adh 0)), (1, .long x1), (4, .int x4), (5, .int x5), (6, .int x6), (7, .int x7), (8, .int x8), (9, .int x9), (11, .int x11), (12, .int x12), (13, .int x13)]) hx hb dL_foresees_288 hl (by decide) rfl (fun ls hl => ?_)
                      refine lv_goto (tgt := 182) hx hb dL_foresees_290 (by decide) ?_
                      exact ih _ _ _ _ _ _ _ _ _ _ _ _ _ _ _ _ _ _ _ _ hD hP hS (lv_sub hl [4, 5, 6, 7, 8, 9, 10, 11, 12, 13, 14, 1, 0] rfl)
              · have hD := ifn hD c
                refine lv_iconst (v := (0 : Int32)) hx hb dL_foresees_261 (by decide) ?_
                obtain ⟨rfl, rfl, rfl, rfl, rfl, rfl⟩ := es6 hD
                exact hret _ _ _ hP hS (fun Qc hq => W.zret hx hb hr rfl hq hS.2.2 dL_foresees_262 hlocks)
  have c_121 : ∀ (x1 : Int64) (x4 : Int32) (x5 : Int32) (x6 : Int32) (x7 : Int32) (x8 : Int32) (x9 : Int32) (x11 : Int32) (xt0 : Int32) (xt1 : Int32) (h : MM) (m : MM) (f : MM) (c0 : MM) (c1 : MM) (H : Heap) (locs : List Loc) (ls : Array Slot), D_L_foresees_121 x1 x4 x5 x6 x7 x8 x9 x11 xt0 xt1 h m f c0 c1 = some (rr, h', m', f', c0', c1') → va_P D vwCl (Wf h m f c0 c1) H → va_S A s.heap H locs → lv_has ls 18 [(0, .ref (adh 0)), (1, .long x1), (4, .int x4), (5, .int x5), (6, .int x6), (7, .int x7), (8, .int x8), (9, .int x9), (11, .int x11)] → W p l e ({ frames := 9, cells := 0, slots := 0, locals := 181 } : Room) s m0 args below meth c H locs 0 0 Q (F0 m0 121 ls [.int xt0, .int xt1]) := by
    intro x1 x4 x5 x6 x7 x8 x9 x11 xt0 xt1 h m f c0 c1 H locs ls hD hP hS hl
    unfold D_L_foresees_121 at hD
    refine lv_icmp_eq (tgt := 126) hx hb dL_foresees_121 (by decide) (fun c => ?_) (fun c => ?_)
    · have hD := ifp hD c
      refine lv_iload hx hb dL_foresees_126 (lv_at hl 2 rfl) ?_
      refine lv_if_ge (tgt := 133) hx hb dL_foresees_128 (by decide) (fun c => ?_) (fun c => ?_)
      · have hD := ifp hD c
        refine lv_aload_n hx hb dL_foresees_133 rfl (lv_at hl 0 rfl) ?_
        refine lv_iconst (v := (0 : Int32)) hx hb dL_foresees_134 (by decide) ?_
        obtain ⟨v40, m41, m42, m43, z440, hD⟩ := b4_el hD
        have z44 := lr_el z440
        refine rcV (Wf := fun z => Wf z m f c0 c1) (mm := h) (As := [.int (0 : Int32)]) (rest := []) Fx0 (c_X9_saveSnapshot l (Wf := fun z0_ z1_ z2_ z3_ => Wf z0_ z1_ f z2_ z3_) (fun z1_ z2_ z3_ => hLh z1_ f z2_ z3_) (fun z0_ z2_ z3_ => hL z0_ f z2_ z3_) (fun z0_ z1_ z3_ => hL0 z0_ z1_ f z3_) (fun z0_ z1_ z2_ => hL1 z0_ z1_ f z2_) (fun a0_ b0_ a1_ b1_ a2_ b2_ a3_ b3_ => hAd a0_ b0_ a1_ b1_ f f a2_ b2_ a3_ b3_) hm1 hm3 hm4 h m c0 c1 (0 : Int32) z44) hP (hD1 _ (hAd _ _ _ _ _ _ _ _ _ _)) hS (hA1 _ _ (hAd _ _ _ _ _ _ _ _ _ _) hS.1) (hLh m f c0 c1) (Nat.le_of_ble_eq_true rfl) (hs0 _ _) rfl tw_6_224 tw_6_221 tw_6_222 tw_6_223 tw_1_1 yd_X9_saveSnapshot ⟨(Nat.le_of_ble_eq_true rfl), (Nat.le_of_ble_eq_true rfl)⟩ rfl hl.1 rfl (Nat.le_of_ble_eq_true rfl) dL_foresees_135 (fun H locs hP hS => ?_)
        refine lv_pop hx hb dL_foresees_138 rfl ?_
        refine lv_aload_n hx hb dL_foresees_139 rfl (lv_at hl 0 rfl) ?_
        refine lv_iconst (v := (1 : Int32)) hx hb dL_foresees_140 (by decide) ?_
        obtain ⟨v45, z460, hD⟩ := b1_el hD
        have z46 := lr_el z460
        refine rcV (Wf := fun z => Wf z m f m42 m43) (mm := m41) (As := [.int (1 : Int32)]) (rest := []) Fx0 (c_X9_done l (Wf := fun z0_ z1_ => Wf z0_ z1_ f m42 m43) (fun z1_ => hLh z1_ f m42 m43) (fun z0_ => hL z0_ f m42 m43) (fun a0_ b0_ a1_ b1_ => hAd a0_ b0_ a1_ b1_ f f m42 m42 m43 m43) hm1 m41 m (1 : Int32) z46) hP (hD1 _ (hAd _ _ _ _ _ _ _ _ _ _)) hS (hA1 _ _ (hAd _ _ _ _ _ _ _ _ _ _) hS.1) (hLh m f m42 m43) (Nat.le_of_ble_eq_true rfl) (hs0 _ _) rfl tw_6_91 tw_6_88 tw_6_89 tw_6_90 tw_1_1 yd_X9_done ⟨(Nat.le_of_ble_eq_true rfl), (Nat.le_of_ble_eq_true rfl)⟩ rfl hl.1 rfl (Nat.le_of_ble_eq_true rfl) dL_foresees_141 (fun H locs hP hS => ?_)
        refine lv_istore (lv' := [(12, .int v45), (0, .ref (adh 0)), (1, .long x1), (4, .int x4), (5, .int x5), (6, .int x6), (7, .int x7), (8, .int x8), (9, .int x9), (11, .int x11)]) hx hb dL_foresees_144 hl (by decide) rfl (fun ls hl => ?_)
        refine lv_aload_n hx hb dL_foresees_146 rfl (lv_at hl 1 rfl) ?_
        refine lv_bipush (v := (6 : Int32)) hx hb dL_foresees_147 (by decide) ?_
        obtain ⟨v47, z480, hD⟩ := b1_el hD
        have z48 := lr_el z480
        refine rcV (Wf := fun z => Wf z m f m42 m43) (mm := m41) (As := [.int (6 : Int32)]) (rest := []) Fx0 (c_X9_done l (Wf := fun z0_ z1_ => Wf z0_ z1_ f m42 m43) (fun z1_ => hLh z1_ f m42 m43) (fun z0_ => hL z0_ f m42 m43) (fun a0_ b0_ a1_ b1_ => hAd a0_ b0_ a1_ b1_ f f m42 m42 m43 m43) hm1 m41 m (6 : Int32) z48) hP (hD1 _ (hAd _ _ _ _ _ _ _ _ _ _)) hS (hA1 _ _ (hAd _ _ _ _ _ _ _ _ _ _) hS.1) (hLh m f m42 m43) (Nat.le_of_ble_eq_true rfl) (hs0 _ _) rfl tw_6_91 tw_6_88 tw_6_89 tw_6_90 tw_1_1 yd_X9_done ⟨(Nat.le_of_ble_eq_true rfl), (Nat.le_of_ble_eq_true rfl)⟩ rfl hl.1 rfl (Nat.le_of_ble_eq_true rfl) dL_foresees_149 (fun H locs hP hS => ?_)
        refine lv_istore (lv' := [(13, .int v47), (12, .int v45), (0, .ref (adh 0)), (1, .long x1), (4, .int x4), (5, .int x5), (6, .int x6), (7, .int x7), (8, .int x8), (9, .int x9), (11, .int x11)]) hx hb dL_foresees_152 hl (by decide) rfl (fun ls hl => ?_)
        refine lv_iconst (v := (0 : Int32)) hx hb dL_foresees_154 (by decide) ?_
        refine lv_istore (lv' := [(14, .int (0 : Int32)), (13, .int v47), (12, .int v45), (0, .ref (adh 0)), (1, .long x1), (4, .int x4), (5, .int x5), (6, .int x6), (7, .int x7), (8, .int x8), (9, .int x9), (11, .int x11)]) hx hb dL_foresees_155 hl (by decide) rfl (fun ls hl => ?_)
        refine lv_aload_n hx hb dL_foresees_157 rfl (lv_at hl 3 rfl) ?_
        refine lv_iconst (v := (0 : Int32)) hx hb dL_foresees_158 (by decide) ?_
        refine lv_iconst (v := (2 : Int32)) hx hb dL_foresees_159 (by decide) ?_
        obtain ⟨v49, z500, hD⟩ := b1_el hD
        have z50 := lr_el z500
        refine rcV (Wf := fun z => Wf z m f m42 m43) (mm := m41) (As := [.int (0 : Int32), .int (2 : Int32)]) (rest := []) Fx0 (c_X9_feederValue l (Wf := fun z0_ z1_ => Wf z0_ z1_ f m42 m43) (fun z1_ => hLh z1_ f m42 m43) (fun z0_ => hL z0_ f m42 m43) (fun a0_ b0_ a1_ b1_ => hAd a0_ b0_ a1_ b1_ f f m42 m42 m43 m43) hm1 m41 m (0 : Int32) (2 : Int32) z50) hP (hD1 _ (hAd _ _ _ _ _ _ _ _ _ _)) hS (hA1 _ _ (hAd _ _ _ _ _ _ _ _ _ _) hS.1) (hLh m f m42 m43) (Nat.le_of_ble_eq_true rfl) (hs0 _ _) rfl tw_6_162 tw_6_159 tw_6_160 tw_6_161 tw_1_1 yd_X9_feederValue ⟨(Nat.le_of_ble_eq_true rfl), (Nat.le_of_ble_eq_true rfl)⟩ rfl hl.1 rfl (Nat.le_of_ble_eq_true rfl) dL_foresees_160 (fun H locs hP hS => ?_)
        refine lv_if_ne (tgt := 179) hx hb dL_foresees_163 (by decide) (fun c => ?_) (fun c => ?_)
        · have hD := ifn hD c
          refine lv_iconst (v := (-1 : Int32)) hx hb dL_foresees_179 (by decide) ?_
          refine lv_istore (lv' := [(15, .int (-1 : Int32)), (14, .int (0 : Int32)), (13, .int v47), (12, .int v45), (0, .ref (adh 0)), (1, .long x1), (4, .int x4), (5, .int x5), (6, .int x6), (7, .int x7), (8, .int x8), (9, .int x9), (11, .int x11)]) hx hb dL_foresees_180 hl (by decide) rfl (fun ls hl => ?_)
          exact c_182 FU _ _ _ _ _ _ _ _ _ _ _ _ _ _ _ _ _ _ _ _ hD hP hS (lv_sub hl [4, 5, 6, 7, 8, 9, 10, 11, 12, 3, 2, 1, 0] rfl)
        · have hD := ifp hD c
          refine lv_aload_n hx hb dL_foresees_166 rfl (lv_at hl 3 rfl) ?_
          refine lv_iconst (v := (0 : Int32)) hx hb dL_foresees_167 (by decide) ?_
          refine lv_iconst (v := (4 : Int32)) hx hb dL_foresees_168 (by decide) ?_
          obtain ⟨v98, z990, hD⟩ := b1_el hD
          have z99 := lr_el z990
          refine rcV (Wf := fun z => Wf z m f m42 m43) (mm := m41) (As := [.int (0 : Int32), .int (4 : Int32)]) (rest := []) Fx0 (c_X9_feederValue l (Wf := fun z0_ z1_ => Wf z0_ z1_ f m42 m43) (fun z1_ => hLh z1_ f m42 m43) (fun z0_ => hL z0_ f m42 m43) (fun a0_ b0_ a1_ b1_ => hAd a0_ b0_ a1_ b1_ f f m42 m42 m43 m43) hm1 m41 m (0 : Int32) (4 : Int32) z99) hP (hD1 _ (hAd _ _ _ _ _ _ _ _ _ _)) hS (hA1 _ _ (hAd _ _ _ _ _ _ _ _ _ _) hS.1) (hLh m f m42 m43) (Nat.le_of_ble_eq_true rfl) (hs0 _ _) rfl tw_6_162 tw_6_159 tw_6_160 tw_6_161 tw_1_1 yd_X9_feederValue ⟨(Nat.le_of_ble_eq_true rfl), (Nat.le_of_ble_eq_true rfl)⟩ rfl hl.1 rfl (Nat.le_of_ble_eq_true rfl) dL_foresees_169 (fun H locs hP hS => ?_)
          refine lv_if_ne (tgt := 179) hx hb dL_foresees_172 (by decide) (fun c => ?_) (fun c => ?_)
          · have hD := ifn hD c
            refine lv_iconst (v := (-1 : Int32)) hx hb dL_foresees_179 (by decide) ?_
            refine lv_istore (lv' := [(15, .int (-1 : Int32)), (14, .int (0 : Int32)), (13, .int v47), (12, .int v45), (0, .ref (adh 0)), (1, .long x1), (4, .int x4), (5, .int x5), (6, .int x6), (7, .int x7), (8, .int x8), (9, .int x9), (11, .int x11)]) hx hb dL_foresees_180 hl (by decide) rfl (fun ls hl => ?_)
            exact c_182 FU _ _ _ _ _ _ _ _ _ _ _ _ _ _ _ _ _ _ _ _ hD hP hS (lv_sub hl [4, 5, 6, 7, 8, 9, 10, 11, 12, 3, 2, 1, 0] rfl)
          · have hD := ifp hD c
            refine lv_iconst (v := (0 : Int32)) hx hb dL_foresees_175 (by decide) ?_
            refine lv_goto (tgt := 180) hx hb dL_foresees_176 (by decide) ?_
            refine lv_istore (lv' := [(15, .int (0 : Int32)), (14, .int (0 : Int32)), (13, .int v47), (12, .int v45), (0, .ref (adh 0)), (1, .long x1), (4, .int x4), (5, .int x5), (6, .int x6), (7, .int x7), (8, .int x8), (9, .int x9), (11, .int x11)]) hx hb dL_foresees_180 hl (by decide) rfl (fun ls hl => ?_)
            exact c_182 FU _ _ _ _ _ _ _ _ _ _ _ _ _ _ _ _ _ _ _ _ hD hP hS (lv_sub hl [4, 5, 6, 7, 8, 9, 10, 11, 12, 3, 2, 1, 0] rfl)
      · have hD := ifn hD c
        refine lv_iconst (v := (1 : Int32)) hx hb dL_foresees_131 (by decide) ?_
        obtain ⟨rfl, rfl, rfl, rfl, rfl, rfl⟩ := es6 hD
        exact hret _ _ _ hP hS (fun Qc hq => W.zret hx hb hr rfl hq hS.2.2 dL_foresees_132 hlocks)
    · have hD := ifn hD c
      refine lv_iconst (v := (0 : Int32)) hx hb dL_foresees_124 (by decide) ?_
      obtain ⟨rfl, rfl, rfl, rfl, rfl, rfl⟩ := es6 hD
      exact hret _ _ _ hP hS (fun Qc hq => W.zret hx hb hr rfl hq hS.2.2 dL_foresees_125 hlocks)
  have c_99 : ∀ (x1 : Int64) (x3 : Int32) (x4 : Int32) (x5 : Int32) (x6 : Int32) (x7 : Int32) (x8 : Int32) (x9 : Int32) (x11 : Int32) (xt0 : Int32) (xt1 : Int32) (h : MM) (m : MM) (f : MM) (c0 : MM) (c1 : MM) (H : Heap) (locs : List Loc) (ls : Array Slot), D_L_foresees_99 x1 x3 x4 x5 x6 x7 x8 x9 x11 xt0 xt1 h m f c0 c1 = some (rr, h', m', f', c0', c1') → va_P D vwCl (Wf h m f c0 c1) H → va_S A s.heap H locs → lv_has ls 18 [(0, .ref (adh 0)), (1, .long x1), (3, .int x3), (4, .int x4), (5, .int x5), (6, .int x6), (7, .int x7), (8, .int x8), (9, .int x9), (11, .int x11)] → W p l e ({ frames := 9, cells := 0, slots := 0, locals := 181 } : Room) s m0 args below meth c H locs 0 0 Q (F0 m0 99 ls [.int xt0, .int xt1]) := by
    intro x1 x3 x4 x5 x6 x7 x8 x9 x11 xt0 xt1 h m f c0 c1 H locs ls hD hP hS hl
    unfold D_L_foresees_99 at hD
    refine lv_icmp_ne (tgt := 124) hx hb dL_foresees_99 (by decide) (fun c => ?_) (fun c => ?_)
    · have hD := ifn hD c
      refine lv_iconst (v := (0 : Int32)) hx hb dL_foresees_124 (by decide) ?_
      obtain ⟨rfl, rfl, rfl, rfl, rfl, rfl⟩ := es6 hD
      exact hret _ _ _ hP hS (fun Qc hq => W.zret hx hb hr rfl hq hS.2.2 dL_foresees_125 hlocks)
    · have hD := ifp hD c
      refine lv_iload_n hx hb dL_foresees_102 rfl (lv_at hl 2 rfl) ?_
      refine lv_if_ge (tgt := 110) hx hb dL_foresees_103 (by decide) (fun c => ?_) (fun c => ?_)
      · have hD := ifp hD c
        refine lv_iconst (v := (0 : Int32)) hx hb dL_foresees_110 (by decide) ?_
        refine lv_iload hx hb dL_foresees_111 (lv_at hl 3 rfl) ?_
        refine lv_if_ne (tgt := 120) hx hb dL_foresees_113 (by decide) (fun c => ?_) (fun c => ?_)
        · have hD := ifn hD c
          refine lv_iconst (v := (0 : Int32)) hx hb dL_foresees_120 (by decide) ?_
          exact c_121 _ _ _ _ _ _ _ _ _ _ _ _ _ _ _ _ _ _ hD hP hS (lv_sub hl [0, 1, 3, 4, 5, 6, 7, 8, 9] rfl)
        · have hD := ifp hD c
          refine lv_iconst (v := (1 : Int32)) hx hb dL_foresees_116 (by decide) ?_
          refine lv_goto (tgt := 121) hx hb dL_foresees_117 (by decide) ?_
          exact c_121 _ _ _ _ _ _ _ _ _ _ _ _ _ _ _ _ _ _ hD hP hS (lv_sub hl [0, 1, 3, 4, 5, 6, 7, 8, 9] rfl)
      · have hD := ifn hD c
        refine lv_iconst (v := (1 : Int32)) hx hb dL_foresees_106 (by decide) ?_
        refine lv_goto (tgt := 111) hx hb dL_foresees_107 (by decide) ?_
        refine lv_iload hx hb dL_foresees_111 (lv_at hl 3 rfl) ?_
        refine lv_if_ne (tgt := 120) hx hb dL_foresees_113 (by decide) (fun c => ?_) (fun c => ?_)
        · have hD := ifn hD c
          refine lv_iconst (v := (0 : Int32)) hx hb dL_foresees_120 (by decide) ?_
          exact c_121 _ _ _ _ _ _ _ _ _ _ _ _ _ _ _ _ _ _ hD hP hS (lv_sub hl [0, 1, 3, 4, 5, 6, 7, 8, 9] rfl)
        · have hD := ifp hD c
          refine lv_iconst (v := (1 : Int32)) hx hb dL_foresees_116 (by decide) ?_
          refine lv_goto (tgt := 121) hx hb dL_foresees_117 (by decide) ?_
          exact c_121 _ _ _ _ _ _ _ _ _ _ _ _ _ _ _ _ _ _ hD hP hS (lv_sub hl [0, 1, 3, 4, 5, 6, 7, 8, 9] rfl)
  refine lv_aload_n hx hb dL_foresees_0 rfl (lv_at hl 0 rfl) ?_
  obtain ⟨v1, z2, hD⟩ := b1_el hD
  refine rcS (As := [.ref (adh 0)]) (rest := []) Fx0 (c_L_whole l (Wf := fun z0_ z1_ => Wf z0_ z1_ f c0 c1) (fun z1_ => hLh z1_ f c0 c1) (fun z0_ => hL z0_ f c0 c1) (fun a0_ b0_ a1_ b1_ => hAd a0_ b0_ a1_ b1_ f f c0 c0 c1 c1) hm1 h m z2) hP (hD1 _ (hAd _ _ _ _ _ _ _ _ _ _)) hS (hA1 _ _ (hAd _ _ _ _ _ _ _ _ _ _) hS.1) tw_6_146 tw_6_144 tw_6_145 tw_1_0 yd_L_whole ⟨(Nat.le_of_ble_eq_true rfl), (Nat.le_of_ble_eq_true rfl)⟩ rfl hl.1 rfl (Nat.le_of_ble_eq_true rfl) dL_foresees_1 (fun H locs hP hS => ?_)
  refine lv_lstore_n (lv' := [(1, .long v1), (0, .ref (adh 0))]) hx hb dL_foresees_4 rfl hl (by decide) rfl (fun ls hl => ?_)
  refine lv_aload_n hx hb dL_foresees_5 rfl (lv_at hl 1 rfl) ?_
  obtain ⟨v3, m4, z5, hD⟩ := b2_el hD
  refine rcV (Wf := fun z => Wf z m f c0 c1) (mm := h) (As := []) (rest := []) Fx0 (c_X9_nextAction l (Wf := fun z0_ z1_ => Wf z0_ z1_ f c0 c1) (fun z1_ => hLh z1_ f c0 c1) (fun z0_ => hL z0_ f c0 c1) (fun a0_ b0_ a1_ b1_ => hAd a0_ b0_ a1_ b1_ f f c0 c0 c1 c1) hm1 h m z5) hP (hD1 _ (hAd _ _ _ _ _ _ _ _ _ _)) hS (hA1 _ _ (hAd _ _ _ _ _ _ _ _ _ _) hS.1) (hLh m f c0 c1) (Nat.le_of_ble_eq_true rfl) (hs0 _ _) rfl tw_6_170 tw_6_167 tw_6_168 tw_6_169 tw_1_1 yd_X9_nextAction ⟨(Nat.le_of_ble_eq_true rfl), (Nat.le_of_ble_eq_true rfl)⟩ rfl hl.1 rfl (Nat.le_of_ble_eq_true rfl) dL_foresees_6 (fun H locs hP hS => ?_)
  refine lv_istore_n (lv' := [(3, .int v3), (1, .long v1), (0, .ref (adh 0))]) hx hb dL_foresees_9 rfl hl (by decide) rfl (fun ls hl => ?_)
  refine lv_aload_n hx hb dL_foresees_10 rfl (lv_at hl 2 rfl) ?_
  obtain ⟨v6, m7, m8, z9, hD⟩ := b3_el hD
  refine rcV (Wf := fun z => Wf z m f c0 c1) (mm := m4) (As := []) (rest := []) Fx0 (c_X9_actionsToEnd l (Wf := fun z0_ z1_ z2_ => Wf z0_ z1_ z2_ c0 c1) (fun z1_ z2_ => hLh z1_ z2_ c0 c1) (fun z0_ z2_ => hL z0_ z2_ c0 c1) (fun z0_ z1_ => hLf z0_ z1_ c0 c1) (fun a0_ b0_ a1_ b1_ a2_ b2_ => hAd a0_ b0_ a1_ b1_ a2_ b2_ c0 c0 c1 c1) hm1 hm2 m4 m f z9) hP (hD1 _ (hAd _ _ _ _ _ _ _ _ _ _)) hS (hA1 _ _ (hAd _ _ _ _ _ _ _ _ _ _) hS.1) (hLh m f c0 c1) (Nat.le_of_ble_eq_true rfl) (hs0 _ _) rfl tw_6_176 tw_6_173 tw_6_174 tw_6_175 tw_1_1 yd_X9_actionsToEnd ⟨(Nat.le_of_ble_eq_true rfl), (Nat.le_of_ble_eq_true rfl)⟩ rfl hl.1 rfl (Nat.le_of_ble_eq_true rfl) dL_foresees_11 (fun H locs hP hS => ?_)
  refine lv_istore (lv' := [(4, .int v6), (3, .int v3), (1, .long v1), (0, .ref (adh 0))]) hx hb dL_foresees_14 hl (by decide) rfl (fun ls hl => ?_)
  refine lv_aload_n hx hb dL_foresees_16 rfl (lv_at hl 3 rfl) ?_
  obtain ⟨v10, m11, m12, z13, hD⟩ := b3_el hD
  refine rcV (Wf := fun z => Wf z m m8 c0 c1) (mm := m7) (As := []) (rest := []) Fx0 (c_X9_timeAtEnd l (Wf := fun z0_ z1_ z2_ => Wf z0_ z1_ z2_ c0 c1) (fun z1_ z2_ => hLh z1_ z2_ c0 c1) (fun z0_ z2_ => hL z0_ z2_ c0 c1) (fun z0_ z1_ => hLf z0_ z1_ c0 c1) (fun a0_ b0_ a1_ b1_ a2_ b2_ => hAd a0_ b0_ a1_ b1_ a2_ b2_ c0 c0 c1 c1) hm1 hm2 m7 m m8 z13) hP (hD1 _ (hAd _ _ _ _ _ _ _ _ _ _)) hS (hA1 _ _ (hAd _ _ _ _ _ _ _ _ _ _) hS.1) (hLh m m8 c0 c1) (Nat.le_of_ble_eq_true rfl) (hs0 _ _) rfl tw_6_191 tw_6_188 tw_6_189 tw_6_190 tw_1_1 yd_X9_timeAtEnd ⟨(Nat.le_of_ble_eq_true rfl), (Nat.le_of_ble_eq_true rfl)⟩ rfl hl.1 rfl (Nat.le_of_ble_eq_true rfl) dL_foresees_17 (fun H locs hP hS => ?_)
  refine lv_istore (lv' := [(5, .int v10), (4, .int v6), (3, .int v3), (1, .long v1), (0, .ref (adh 0))]) hx hb dL_foresees_20 hl (by decide) rfl (fun ls hl => ?_)
  refine lv_aload_n hx hb dL_foresees_22 rfl (lv_at hl 4 rfl) ?_
  obtain ⟨v14, m15, m16, z17, hD⟩ := b3_el hD
  refine rcV (Wf := fun z => Wf z m m12 c0 c1) (mm := m11) (As := []) (rest := []) Fx0 (c_X9_filledAtEnd l (Wf := fun z0_ z1_ z2_ => Wf z0_ z1_ z2_ c0 c1) (fun z1_ z2_ => hLh z1_ z2_ c0 c1) (fun z0_ z2_ => hL z0_ z2_ c0 c1) (fun z0_ z1_ => hLf z0_ z1_ c0 c1) (fun a0_ b0_ a1_ b1_ a2_ b2_ => hAd a0_ b0_ a1_ b1_ a2_ b2_ c0 c0 c1 c1) hm1 hm2 m11 m m12 z17) hP (hD1 _ (hAd _ _ _ _ _ _ _ _ _ _)) hS (hA1 _ _ (hAd _ _ _ _ _ _ _ _ _ _) hS.1) (hLh m m12 c0 c1) (Nat.le_of_ble_eq_true rfl) (hs0 _ _) rfl tw_6_195 tw_6_192 tw_6_193 tw_6_194 tw_1_1 yd_X9_filledAtEnd ⟨(Nat.le_of_ble_eq_true rfl), (Nat.le_of_ble_eq_true rfl)⟩ rfl hl.1 rfl (Nat.le_of_ble_eq_true rfl) dL_foresees_23 (fun H locs hP hS => ?_)
  refine lv_istore (lv' := [(6, .int v14), (5, .int v10), (4, .int v6), (3, .int v3), (1, .long v1), (0, .ref (adh 0))]) hx hb dL_foresees_26 hl (by decide) rfl (fun ls hl => ?_)
  refine lv_aload_n hx hb dL_foresees_28 rfl (lv_at hl 5 rfl) ?_
  obtain ⟨v18, m19, m20, z21, hD⟩ := b3_el hD
  refine rcV (Wf := fun z => Wf z m m16 c0 c1) (mm := m15) (As := []) (rest := []) Fx0 (c_X9_splicesAhead l (Wf := fun z0_ z1_ z2_ => Wf z0_ z1_ z2_ c0 c1) (fun z1_ z2_ => hLh z1_ z2_ c0 c1) (fun z0_ z2_ => hL z0_ z2_ c0 c1) (fun z0_ z1_ => hLf z0_ z1_ c0 c1) (fun a0_ b0_ a1_ b1_ a2_ b2_ => hAd a0_ b0_ a1_ b1_ a2_ b2_ c0 c0 c1 c1) hm1 hm2 m15 m m16 z21) hP (hD1 _ (hAd _ _ _ _ _ _ _ _ _ _)) hS (hA1 _ _ (hAd _ _ _ _ _ _ _ _ _ _) hS.1) (hLh m m16 c0 c1) (Nat.le_of_ble_eq_true rfl) (hs0 _ _) rfl tw_6_200 tw_6_197 tw_6_198 tw_6_199 tw_1_1 yd_X9_splicesAhead ⟨(Nat.le_of_ble_eq_true rfl), (Nat.le_of_ble_eq_true rfl)⟩ rfl hl.1 rfl (Nat.le_of_ble_eq_true rfl) dL_foresees_29 (fun H locs hP hS => ?_)
  refine lv_istore (lv' := [(7, .int v18), (6, .int v14), (5, .int v10), (4, .int v6), (3, .int v3), (1, .long v1), (0, .ref (adh 0))]) hx hb dL_foresees_32 hl (by decide) rfl (fun ls hl => ?_)
  refine lv_aload_n hx hb dL_foresees_34 rfl (lv_at hl 6 rfl) ?_
  obtain ⟨v22, m23, m24, z25, hD⟩ := b3_el hD
  refine rcV (Wf := fun z => Wf z m m20 c0 c1) (mm := m19) (As := []) (rest := []) Fx0 (c_X9_changesAhead l (Wf := fun z0_ z1_ z2_ => Wf z0_ z1_ z2_ c0 c1) (fun z1_ z2_ => hLh z1_ z2_ c0 c1) (fun z0_ z2_ => hL z0_ z2_ c0 c1) (fun z0_ z1_ => hLf z0_ z1_ c0 c1) (fun a0_ b0_ a1_ b1_ a2_ b2_ => hAd a0_ b0_ a1_ b1_ a2_ b2_ c0 c0 c1 c1) hm1 hm2 m19 m m20 z25) hP (hD1 _ (hAd _ _ _ _ _ _ _ _ _ _)) hS (hA1 _ _ (hAd _ _ _ _ _ _ _ _ _ _) hS.1) (hLh m m20 c0 c1) (Nat.le_of_ble_eq_true rfl) (hs0 _ _) rfl tw_6_204 tw_6_201 tw_6_202 tw_6_203 tw_1_1 yd_X9_changesAhead ⟨(Nat.le_of_ble_eq_true rfl), (Nat.le_of_ble_eq_true rfl)⟩ rfl hl.1 rfl (Nat.le_of_ble_eq_true rfl) dL_foresees_35 (fun H locs hP hS => ?_)
  refine lv_istore (lv' := [(8, .int v22), (7, .int v18), (6, .int v14), (5, .int v10), (4, .int v6), (3, .int v3), (1, .long v1), (0, .ref (adh 0))]) hx hb dL_foresees_38 hl (by decide) rfl (fun ls hl => ?_)
  refine lv_aload_n hx hb dL_foresees_40 rfl (lv_at hl 7 rfl) ?_
  obtain ⟨v26, m27, m28, z29, hD⟩ := b3_el hD
  refine rcV (Wf := fun z => Wf z m m24 c0 c1) (mm := m23) (As := []) (rest := []) Fx0 (c_X9_cleansAhead l (Wf := fun z0_ z1_ z2_ => Wf z0_ z1_ z2_ c0 c1) (fun z1_ z2_ => hLh z1_ z2_ c0 c1) (fun z0_ z2_ => hL z0_ z2_ c0 c1) (fun z0_ z1_ => hLf z0_ z1_ c0 c1) (fun a0_ b0_ a1_ b1_ a2_ b2_ => hAd a0_ b0_ a1_ b1_ a2_ b2_ c0 c0 c1 c1) hm1 hm2 m23 m m24 z29) hP (hD1 _ (hAd _ _ _ _ _ _ _ _ _ _)) hS (hA1 _ _ (hAd _ _ _ _ _ _ _ _ _ _) hS.1) (hLh m m24 c0 c1) (Nat.le_of_ble_eq_true rfl) (hs0 _ _) rfl tw_6_208 tw_6_205 tw_6_206 tw_6_207 tw_1_1 yd_X9_cleansAhead ⟨(Nat.le_of_ble_eq_true rfl), (Nat.le_of_ble_eq_true rfl)⟩ rfl hl.1 rfl (Nat.le_of_ble_eq_true rfl) dL_foresees_41 (fun H locs hP hS => ?_)
  refine lv_istore (lv' := [(9, .int v26), (8, .int v22), (7, .int v18), (6, .int v14), (5, .int v10), (4, .int v6), (3, .int v3), (1, .long v1), (0, .ref (adh 0))]) hx hb dL_foresees_44 hl (by decide) rfl (fun ls hl => ?_)
  refine lv_aload_n hx hb dL_foresees_46 rfl (lv_at hl 8 rfl) ?_
  obtain ⟨v30, m31, m32, z33, hD⟩ := b3_el hD
  refine rcV (Wf := fun z => Wf z m m28 c0 c1) (mm := m27) (As := []) (rest := []) Fx0 (c_X9_bestRetries l (Wf := fun z0_ z1_ z2_ => Wf z0_ z1_ z2_ c0 c1) (fun z1_ z2_ => hLh z1_ z2_ c0 c1) (fun z0_ z2_ => hL z0_ z2_ c0 c1) (fun z0_ z1_ => hLf z0_ z1_ c0 c1) (fun a0_ b0_ a1_ b1_ a2_ b2_ => hAd a0_ b0_ a1_ b1_ a2_ b2_ c0 c0 c1 c1) hm1 hm2 m27 m m28 z33) hP (hD1 _ (hAd _ _ _ _ _ _ _ _ _ _)) hS (hA1 _ _ (hAd _ _ _ _ _ _ _ _ _ _) hS.1) (hLh m m28 c0 c1) (Nat.le_of_ble_eq_true rfl) (hs0 _ _) rfl tw_6_212 tw_6_209 tw_6_210 tw_6_211 tw_1_1 yd_X9_bestRetries ⟨(Nat.le_of_ble_eq_true rfl), (Nat.le_of_ble_eq_true rfl)⟩ rfl hl.1 rfl (Nat.le_of_ble_eq_true rfl) dL_foresees_47 (fun H locs hP hS => ?_)
  refine lv_istore (lv' := [(10, .int v30), (9, .int v26), (8, .int v22), (7, .int v18), (6, .int v14), (5, .int v10), (4, .int v6), (3, .int v3), (1, .long v1), (0, .ref (adh 0))]) hx hb dL_foresees_50 hl (by decide) rfl (fun ls hl => ?_)
  refine lv_aload_n hx hb dL_foresees_52 rfl (lv_at hl 9 rfl) ?_
  refine lv_iconst (v := (0 : Int32)) hx hb dL_foresees_53 (by decide) ?_
  obtain ⟨v34, m35, m36, z370, hD⟩ := b3_el hD
  have z37 := lr_el z370
  refine rcV (Wf := fun z => Wf z m m32 c0 c1) (mm := m31) (As := [.int (0 : Int32)]) (rest := []) Fx0 (c_X9_runsOut l (Wf := fun z0_ z1_ z2_ => Wf z0_ z1_ z2_ c0 c1) (fun z1_ z2_ => hLh z1_ z2_ c0 c1) (fun z0_ z2_ => hL z0_ z2_ c0 c1) (fun z0_ z1_ => hLf z0_ z1_ c0 c1) (fun a0_ b0_ a1_ b1_ a2_ b2_ => hAd a0_ b0_ a1_ b1_ a2_ b2_ c0 c0 c1 c1) hm1 hm2 m31 m m32 (0 : Int32) z37) hP (hD1 _ (hAd _ _ _ _ _ _ _ _ _ _)) hS (hA1 _ _ (hAd _ _ _ _ _ _ _ _ _ _) hS.1) (hLh m m32 c0 c1) (Nat.le_of_ble_eq_true rfl) (hs0 _ _) rfl tw_6_216 tw_6_213 tw_6_214 tw_6_215 tw_1_1 yd_X9_runsOut ⟨(Nat.le_of_ble_eq_true rfl), (Nat.le_of_ble_eq_true rfl)⟩ rfl hl.1 rfl (Nat.le_of_ble_eq_true rfl) dL_foresees_54 (fun H locs hP hS => ?_)
  refine lv_istore (lv' := [(11, .int v34), (10, .int v30), (9, .int v26), (8, .int v22), (7, .int v18), (6, .int v14), (5, .int v10), (4, .int v6), (3, .int v3), (1, .long v1), (0, .ref (adh 0))]) hx hb dL_foresees_57 hl (by decide) rfl (fun ls hl => ?_)
  refine lv_aload_n hx hb dL_foresees_59 rfl (lv_at hl 10 rfl) ?_
  obtain ⟨v38, z39, hD⟩ := b1_el hD
  refine rcS (As := [.ref (adh 0)]) (rest := []) Fx0 (c_L_whole l (Wf := fun z0_ z1_ => Wf z0_ z1_ m36 c0 c1) (fun z1_ => hLh z1_ m36 c0 c1) (fun z0_ => hL z0_ m36 c0 c1) (fun a0_ b0_ a1_ b1_ => hAd a0_ b0_ a1_ b1_ m36 m36 c0 c0 c1 c1) hm1 m35 m z39) hP (hD1 _ (hAd _ _ _ _ _ _ _ _ _ _)) hS (hA1 _ _ (hAd _ _ _ _ _ _ _ _ _ _) hS.1) tw_6_146 tw_6_144 tw_6_145 tw_1_0 yd_L_whole ⟨(Nat.le_of_ble_eq_true rfl), (Nat.le_of_ble_eq_true rfl)⟩ rfl hl.1 rfl (Nat.le_of_ble_eq_true rfl) dL_foresees_60 (fun H locs hP hS => ?_)
  refine lv_lload_n hx hb dL_foresees_63 rfl (lv_at hl 9 rfl) ?_
  refine rlc_ne (tgt := 124) hx hb dL_foresees_64 dL_foresees_65 (by decide) (fun c => ?_) (fun c => ?_)
  · have hD := ifn hD c
    refine lv_iconst (v := (0 : Int32)) hx hb dL_foresees_124 (by decide) ?_
    obtain ⟨rfl, rfl, rfl, rfl, rfl, rfl⟩ := es6 hD
    exact hret _ _ _ hP hS (fun Qc hq => W.zret hx hb hr rfl hq hS.2.2 dL_foresees_125 hlocks)
  · have hD := ifp hD c
    refine lv_iload hx hb dL_foresees_68 (lv_at hl 1 rfl) ?_
    refine lv_if_lt (tgt := 124) hx hb dL_foresees_70 (by decide) (fun c => ?_) (fun c => ?_)
    · have hD := ifp hD c
      refine lv_iconst (v := (0 : Int32)) hx hb dL_foresees_124 (by decide) ?_
      obtain ⟨rfl, rfl, rfl, rfl, rfl, rfl⟩ := es6 hD
      exact hret _ _ _ hP hS (fun Qc hq => W.zret hx hb hr rfl hq hS.2.2 dL_foresees_125 hlocks)
    · have hD := ifn hD c
      refine lv_iload hx hb dL_foresees_73 (lv_at hl 1 rfl) ?_
      refine lv_iconst (v := (5 : Int32)) hx hb dL_foresees_75 (by decide) ?_
      refine lv_icmp_gt (tgt := 124) hx hb dL_foresees_76 (by decide) (fun c => ?_) (fun c => ?_)
      · have hD := ifp hD c
        refine lv_iconst (v := (0 : Int32)) hx hb dL_foresees_124 (by decide) ?_
        obtain ⟨rfl, rfl, rfl, rfl, rfl, rfl⟩ := es6 hD
        exact hret _ _ _ hP hS (fun Qc hq => W.zret hx hb hr rfl hq hS.2.2 dL_foresees_125 hlocks)
      · have hD := ifn hD c
        refine lv_iload hx hb dL_foresees_79 (lv_at hl 7 rfl) ?_
        refine lv_if_ge (tgt := 88) hx hb dL_foresees_81 (by decide) (fun c => ?_) (fun c => ?_)
        · have hD := ifp hD c
          refine lv_iconst (v := (0 : Int32)) hx hb dL_foresees_88 (by decide) ?_
          refine lv_iload hx hb dL_foresees_89 (lv_at hl 6 rfl) ?_
          refine lv_if_ge (tgt := 98) hx hb dL_foresees_91 (by decide) (fun c => ?_) (fun c => ?_)
          · have hD := ifp hD c
            refine lv_iconst (v := (0 : Int32)) hx hb dL_foresees_98 (by decide) ?_
            exact c_99 _ _ _ _ _ _ _ _ _ _ _ _ _ _ _ _ _ _ _ hD hP hS (lv_sub hl [10, 9, 8, 7, 6, 5, 4, 3, 2, 0] rfl)
          · have hD := ifn hD c
            refine lv_iconst (v := (1 : Int32)) hx hb dL_foresees_94 (by decide) ?_
            refine lv_goto (tgt := 99) hx hb dL_foresees_95 (by decide) ?_
            exact c_99 _ _ _ _ _ _ _ _ _ _ _ _ _ _ _ _ _ _ _ hD hP hS (lv_sub hl [10, 9, 8, 7, 6, 5, 4, 3, 2, 0] rfl)
        · have hD := ifn hD c
          refine lv_iconst (v := (1 : Int32)) hx hb dL_foresees_84 (by decide) ?_
          refine lv_goto (tgt := 89) hx hb dL_foresees_85 (by decide) ?_
          refine lv_iload hx hb dL_foresees_89 (lv_at hl 6 rfl) ?_
          refine lv_if_ge (tgt := 98) hx hb dL_foresees_91 (by decide) (fun c => ?_) (fun c => ?_)
          · have hD := ifp hD c
            refine lv_iconst (v := (0 : Int32)) hx hb dL_foresees_98 (by decide) ?_
            exact c_99 _ _ _ _ _ _ _ _ _ _ _ _ _ _ _ _ _ _ _ hD hP hS (lv_sub hl [10, 9, 8, 7, 6, 5, 4, 3, 2, 0] rfl)
          · have hD := ifn hD c
            refine lv_iconst (v := (1 : Int32)) hx hb dL_foresees_94 (by decide) ?_
            refine lv_goto (tgt := 99) hx hb dL_foresees_95 (by decide) ?_
            exact c_99 _ _ _ _ _ _ _ _ _ _ _ _ _ _ _ _ _ _ _ hD hP hS (lv_sub hl [10, 9, 8, 7, 6, 5, 4, 3, 2, 0] rfl)
