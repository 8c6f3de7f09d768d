/-! the builder's methods with a text -/
theorem TF_rcv {t w : Nat} {g : Nat → Int32} {A : Nat → Prop} {s : State} {H : Heap} {locs : List Loc} (h : TF t w g A s s.heap) (hS : va_S A s.heap H locs) : ∃ cell : Cell, H[t]? = some cell ∧ cell.vm.isStatics = false ∧ s.vm.findClass "java/lang/String" = some cell.cls := by
  obtain ⟨cell, h1, h2, h3, -⟩ := h.1.kept hS.2.1
  exact ⟨cell, h1, h2, h3⟩
theorem cpy_lo {f g : Nat → Int32} {n w j : Nat} (h : j < n) : va_cpy f g 0 n w j = g j := if_neg (by omega)
theorem cpy_hi {f g : Nat → Int32} {n w j : Nat} (h : j < w) : va_cpy f g 0 n w (n + j) = f j := by
  unfold va_cpy
  rw [if_pos (by omega), Nat.zero_add, Nat.add_sub_cancel_left]
set_option maxHeartbeats 8000000 in
set_option maxRecDepth 100000 in
theorem k_J0_coder_7d493 (l : Launch) {D : va_G} {cs : Nat → ClassId} (t w : Nat) (g : Nat → Int32) : CtG l yJ0_coder_7d493 cJ0_coder_7d493 1 (some .byte) 0 0 0 0 D cs (TF t w g) [.ref t] [] (fun rv w1 => rv = some (.int 0) ∧ w1 = []) := by
  refine CtG.ofW (by decide) (Nat.le_of_ble_eq_true rfl) ?_
  intro p e s m0 below meth c A Q ls args Fl0 hr hlocks hP hD hXs hS hA hl hmn hret
  obtain ⟨hx, hb, hml, hown, hT, hK, hSS⟩ := id Fl0
  have hown : s.vm.findClass RJ0 = some m0.cls := hown
  have hl : lv_has ls 1 [(0, .ref t)] := hl
  obtain ⟨hO, hC, tb, hV, hB⟩ := id hXs
  refine rgz hx hb hSS hS hown (hT _ tw_3_68) dJ0_coder_7d493_0 ?_
  refine lv_if_eq (tgt := 13) hx hb dJ0_coder_7d493_3 (by decide) (fun c => absurd c (by decide)) (fun _ => ?_)
  refine lv_aload_n hx hb dJ0_coder_7d493_6 rfl (lv_at hl 0 rfl) ?_
  refine vk_getf hx hb hC hS hown (hT _ tw_5_1) (fun _ h9 => h9) dJ0_coder_7d493_7 ?_
  refine lv_goto (tgt := 14) hx hb dJ0_coder_7d493_10 (by decide) ?_
  exact hret _ _ _ _ _ _ _ ⟨rfl, rfl⟩ hP hD hS (Nat.le_of_ble_eq_true rfl) (Nat.le_of_ble_eq_true rfl) (fun Qc hq => W.zret hx hb hr rfl hq hS.2.2 dJ0_coder_7d493_14 hlocks)

set_option maxHeartbeats 8000000 in
set_option maxRecDepth 100000 in
theorem k_J0_length_8abf5 (l : Launch) {D : va_G} {cs : Nat → ClassId} (t w : Nat) (g : Nat → Int32) : CtG l yJ0_length_8abf5 cJ0_length_8abf5 1 (some .int) 1 60 0 0 D cs (TF t w g) [.ref t] [] (fun rv w1 => rv = some (.int (I w)) ∧ w1 = []) := by
  refine CtG.ofW (by decide) (Nat.le_of_ble_eq_true rfl) ?_
  intro p e s m0 below meth c A Q ls args Fl0 hr hlocks hP hD hXs hS hA hl hmn hret
  obtain ⟨hx, hb, hml, hown, hT, hK, hSS⟩ := id Fl0
  have hown : s.vm.findClass RJ0 = some m0.cls := hown
  have hl : lv_has ls 1 [(0, .ref t)] := hl
  obtain ⟨hO, hC, tb, hV, hB⟩ := id hXs
  refine lv_aload_n hx hb dJ0_length_8abf5_0 rfl (lv_at hl 0 rfl) ?_
  refine vk_getf hx hb hV hS hown (hT _ tw_5_0) (fun _ h9 => h9) dJ0_length_8abf5_1 ?_
  refine va_tlen (v := I w) hx hb hB hS rfl dJ0_length_8abf5_4 ?_
  refine lv_aload_n hx hb dJ0_length_8abf5_5 rfl (lv_at hl 0 rfl) ?_
  have hP : va_P D vwCl ([] ++ []) _ := hP
  have hD : va_D A ([] ++ []) := hD
  refine ggV (As := []) (rest := [.int (I w)]) (wc := []) (wr := []) Fl0 (k_J0_coder_7d493 l (D := D) (cs := cs) t w g) TF_fz (Fz.go TF_fz hXs hD hS hA) hP hD hS hA (TF_rcv hXs hS) tw_3_67 tw_3_64 tw_3_65 tw_3_66 tw_1_15 yd_J0_coder_7d493 ⟨(Nat.le_of_ble_eq_true rfl), (Nat.le_of_ble_eq_true rfl)⟩ ⟨(Nat.le_of_ble_eq_true rfl), (Nat.le_of_ble_eq_true rfl)⟩ rfl hl.1 rfl (Nat.le_of_ble_eq_true rfl) dJ0_length_8abf5_6 (fun H locs rv w1 hw hP hD hS => ?_)
  obtain ⟨rfl, rfl⟩ := hw
  have hP : va_P D vwCl [] _ := hP
  have hD : va_D A [] := hD
  refine lv_ishr hx hb dJ0_length_8abf5_9 ?_
  refine lv_nmi (y := I w) (sb_shr0 _).symm ?_
  exact hret _ _ _ _ _ _ _ ⟨rfl, rfl⟩ hP hD hS (Nat.le_of_ble_eq_true rfl) (Nat.le_of_ble_eq_true rfl) (fun Qc hq => W.iret hx hb hr hq hS.2.2 dJ0_length_8abf5_10 hlocks)

set_option maxHeartbeats 8000000 in
set_option maxRecDepth 100000 in
theorem k_J0_isLatin1_aae02 (l : Launch) {D : va_G} {cs : Nat → ClassId} (t w : Nat) (g : Nat → Int32) : CtG l yJ0_isLatin1_aae02 cJ0_isLatin1_aae02 1 (some .boolean) 0 0 0 0 D cs (TF t w g) [.ref t] [] (fun rv w1 => rv = some (.int 1) ∧ w1 = []) := by
  refine CtG.ofW (by decide) (Nat.le_of_ble_eq_true rfl) ?_
  intro p e s m0 below meth c A Q ls args Fl0 hr hlocks hP hD hXs hS hA hl hmn hret
  obtain ⟨hx, hb, hml, hown, hT, hK, hSS⟩ := id Fl0
  have hown : s.vm.findClass RJ0 = some m0.cls := hown
  have hl : lv_has ls 1 [(0, .ref t)] := hl
  obtain ⟨hO, hC, tb, hV, hB⟩ := id hXs
  refine rgz hx hb hSS hS hown (hT _ tw_3_68) dJ0_isLatin1_aae02_0 ?_
  refine lv_if_eq (tgt := 17) hx hb dJ0_isLatin1_aae02_3 (by decide) (fun c => absurd c (by decide)) (fun _ => ?_)
  refine lv_aload_n hx hb dJ0_isLatin1_aae02_6 rfl (lv_at hl 0 rfl) ?_
  refine vk_getf hx hb hC hS hown (hT _ tw_5_1) (fun _ h9 => h9) dJ0_isLatin1_aae02_7 ?_
  refine lv_if_ne (tgt := 17) hx hb dJ0_isLatin1_aae02_10 (by decide) (fun c => absurd c (by decide)) (fun _ => ?_)
  refine lv_iconst (v := (1 : Int32)) hx hb dJ0_isLatin1_aae02_13 (by decide) ?_
  refine lv_goto (tgt := 18) hx hb dJ0_isLatin1_aae02_14 (by decide) ?_
  exact hret _ _ _ _ _ _ _ ⟨rfl, rfl⟩ hP hD hS (Nat.le_of_ble_eq_true rfl) (Nat.le_of_ble_eq_true rfl) (fun Qc hq => W.zret hx hb hr rfl hq hS.2.2 dJ0_isLatin1_aae02_18 hlocks)

set_option maxHeartbeats 8000000 in
set_option maxRecDepth 100000 in
theorem k_J0_getBytes_840e7 (l : Launch) {D : va_G} {cs : Nat → ClassId} (t w : Nat) (g : Nat → Int32) (a n m : Nat) (f : Nat → Int32) (hnw : n + w ≤ m) (hm : m ≤ 2002) (hg : sb_Fit g) : CtG l yJ0_getBytes_840e7 cJ0_getBytes_840e7 4 none 1 90 0 0 D cs (TF t w g) [.ref t, .ref a, .int (I n), .int (0 : Int32)] [(a, .inl (cs 0, m, .inl f))] (fun rv w1 => rv = none ∧ w1 = [(a, .inl (cs 0, m, .inl (va_cpy g f 0 n w)))]) := by
  refine CtG.ofW (by decide) (Nat.le_of_ble_eq_true rfl) ?_
  intro p e s m0 below meth c A Q ls args Fl0 hr hlocks hP hD hXs hS hA hl hmn hret
  obtain ⟨hx, hb, hml, hown, hT, hK, hSS⟩ := id Fl0
  have hown : s.vm.findClass RJ0 = some m0.cls := hown
  have hl : lv_has ls 4 [(0, .ref t), (1, .ref a), (2, .int (I n)), (3, .int (0 : Int32))] := hl
  obtain ⟨hO, hC, tb, hV, hB⟩ := id hXs
  refine lv_aload_n hx hb dJ0_getBytes_840e7_0 rfl (lv_at hl 0 rfl) ?_
  have hP : va_P D vwCl ([] ++ [(a, .inl (cs 0, m, .inl f))]) _ := hP
  have hD : va_D A ([] ++ [(a, .inl (cs 0, m, .inl f))]) := hD
  refine ggV (As := []) (rest := []) (wc := []) (wr := [(a, .inl (cs 0, m, .inl f))]) Fl0 (k_J0_coder_7d493 l (D := D) (cs := cs) t w g) TF_fz (Fz.go TF_fz hXs hD hS hA) hP hD hS hA (TF_rcv hXs hS) tw_3_67 tw_3_64 tw_3_65 tw_3_66 tw_1_15 yd_J0_coder_7d493 ⟨(Nat.le_of_ble_eq_true rfl), (Nat.le_of_ble_eq_true rfl)⟩ ⟨(Nat.le_of_ble_eq_true rfl), (Nat.le_of_ble_eq_true rfl)⟩ rfl hl.1 rfl (Nat.le_of_ble_eq_true rfl) dJ0_getBytes_840e7_1 (fun H locs rv w1 hw hP hD hS => ?_)
  obtain ⟨rfl, rfl⟩ := hw
  have hP : va_P D vwCl [(a, .inl (cs 0, m, .inl f))] _ := hP
  have hD : va_D A [(a, .inl (cs 0, m, .inl f))] := hD
  refine lv_iload_n hx hb dJ0_getBytes_840e7_4 rfl (lv_at hl 3 rfl) ?_
  refine lv_icmp_ne (tgt := 28) hx hb dJ0_getBytes_840e7_5 (by decide) (fun c => absurd c (by decide)) (fun _ => ?_)
  refine lv_aload_n hx hb dJ0_getBytes_840e7_8 rfl (lv_at hl 0 rfl) ?_
  refine vk_getf hx hb hV hS hown (hT _ tw_5_0) (fun _ h9 => h9) dJ0_getBytes_840e7_9 ?_
  refine lv_iconst (v := (0 : Int32)) hx hb dJ0_getBytes_840e7_12 (by decide) ?_
  refine lv_aload_n hx hb dJ0_getBytes_840e7_13 rfl (lv_at hl 1 rfl) ?_
  refine lv_iload_n hx hb dJ0_getBytes_840e7_14 rfl (lv_at hl 2 rfl) ?_
  refine lv_iload_n hx hb dJ0_getBytes_840e7_15 rfl (lv_at hl 3 rfl) ?_
  refine lv_ishl hx hb dJ0_getBytes_840e7_16 ?_
  refine lv_nmi (y := I n) (sb_shl0 _).symm ?_
  refine lv_aload_n hx hb dJ0_getBytes_840e7_17 rfl (lv_at hl 0 rfl) ?_
  refine vk_getf hx hb hV hS hown (hT _ tw_5_0) (fun _ h9 => h9) dJ0_getBytes_840e7_18 ?_
  refine va_tlen (v := I w) hx hb hB hS rfl dJ0_getBytes_840e7_21 ?_
  refine vk_copyt hx hb (hml.trans hl.1.symm) hown (hT _ tw_4_156) (hT _ tw_2_47) (hT _ tw_2_46) (hT _ tw_1_8) hK.1 hP hD hS hB 0 0 rfl rfl (by decide) (I_nneg (by omega)) (I_nneg (by omega)) (by rw [I_tnc (by omega)]; show 0 + w ≤ w; omega) (by rw [I_tnc (by omega), I_tnc (by omega)]; omega) (fun i9 _ => hg _) (Nat.le_of_ble_eq_true rfl) (Nat.le_of_ble_eq_true rfl) dJ0_getBytes_840e7_22 (fun H locs hP hD hS => ?_)
  rw [I_tnc (by omega), I_tnc (by omega)] at hP hD
  have hP : va_P D vwCl [(a, .inl (cs 0, m, .inl (va_cpy g f 0 n w)))] _ := hP
  have hD : va_D A [(a, .inl (cs 0, m, .inl (va_cpy g f 0 n w)))] := hD
  refine lv_goto (tgt := 43) hx hb dJ0_getBytes_840e7_25 (by decide) ?_
  exact hret _ _ _ _ _ _ _ ⟨rfl, rfl⟩ hP hD hS (Nat.le_of_ble_eq_true rfl) (Nat.le_of_ble_eq_true rfl) (fun Qc hq => W.vret hx hb hr hq hS.2.2 dJ0_getBytes_840e7_43 hlocks)

set_option maxHeartbeats 8000000 in
set_option maxRecDepth 100000 in
theorem k_J5_inflateIfNeededFor_a7421 (l : Launch) {D : va_G} {cs : Nat → ClassId} (t w : Nat) (g : Nat → Int32) (b a n m : Nat) (f : Nat → Int32) : CtG l yJ5_inflateIfNeededFor_a7421 cJ5_inflateIfNeededFor_a7421 2 none 1 60 0 0 D cs (TF t w g) [.ref b, .ref t] [(b, .inr (11, [.ref a, .int 0, .int 0, .int (I n)])), (a, .inl (cs 0, m, .inl f))] (fun rv w1 => rv = none ∧ w1 = [(b, .inr (11, [.ref a, .int 0, .int 0, .int (I n)])), (a, .inl (cs 0, m, .inl f))]) := by
  refine CtG.ofW (by decide) (Nat.le_of_ble_eq_true rfl) ?_
  intro p e s m0 below meth c A Q ls args Fl0 hr hlocks hP hD hXs hS hA hl hmn hret
  obtain ⟨hx, hb, hml, hown, hT, hK, hSS⟩ := id Fl0
  have hown : s.vm.findClass RJ5 = some m0.cls := hown
  have hl : lv_has ls 2 [(0, .ref b), (1, .ref t)] := hl
  obtain ⟨hO, hC, tb, hV, hB⟩ := id hXs
  refine rgz hx hb hSS hS hown (hT _ tw_4_39) dJ5_inflateIfNeededFor_a7421_0 ?_
  refine lv_if_eq (tgt := 21) hx hb dJ5_inflateIfNeededFor_a7421_3 (by decide) (fun c => absurd c (by decide)) (fun _ => ?_)
  refine lv_aload_n hx hb dJ5_inflateIfNeededFor_a7421_6 rfl (lv_at hl 0 rfl) ?_
  refine va_get (C := RJ4) (T := TJ4) (N := 4) hx hb hT huJ4 hown hK.1 hP 0 rfl rfl 1 (by decide) (hT _ tw_4_48) (fun _ h9 => h9) (v := .int 0) rfl dJ5_inflateIfNeededFor_a7421_7 ?_
  refine lv_aload_n hx hb dJ5_inflateIfNeededFor_a7421_10 rfl (lv_at hl 1 rfl) ?_
  have hP : va_P D vwCl ([] ++ [(b, .inr (11, [.ref a, .int 0, .int 0, .int (I n)])), (a, .inl (cs 0, m, .inl f))]) _ := hP
  have hD : va_D A ([] ++ [(b, .inr (11, [.ref a, .int 0, .int 0, .int (I n)])), (a, .inl (cs 0, m, .inl f))]) := hD
  refine ggV (As := []) (rest := [.int 0]) (wc := []) (wr := [(b, .inr (11, [.ref a, .int 0, .int 0, .int (I n)])), (a, .inl (cs 0, m, .inl f))]) Fl0 (k_J0_coder_7d493 l (D := D) (cs := cs) t w g) TF_fz (Fz.go TF_fz hXs hD hS hA) hP hD hS hA (TF_rcv hXs hS) tw_3_67 tw_4_132 tw_3_65 tw_3_66 tw_1_15 yd_J0_coder_7d493 ⟨(Nat.le_of_ble_eq_true rfl), (Nat.le_of_ble_eq_true rfl)⟩ ⟨(Nat.le_of_ble_eq_true rfl), (Nat.le_of_ble_eq_true rfl)⟩ rfl hl.1 rfl (Nat.le_of_ble_eq_true rfl) dJ5_inflateIfNeededFor_a7421_11 (fun H locs rv w1 hw hP hD hS => ?_)
  obtain ⟨rfl, rfl⟩ := hw
  have hP : va_P D vwCl [(b, .inr (11, [.ref a, .int 0, .int 0, .int (I n)])), (a, .inl (cs 0, m, .inl f))] _ := hP
  have hD : va_D A [(b, .inr (11, [.ref a, .int 0, .int 0, .int (I n)])), (a, .inl (cs 0, m, .inl f))] := hD
  refine lv_icmp_eq (tgt := 21) hx hb dJ5_inflateIfNeededFor_a7421_14 (by decide) (fun _ => ?_) (fun c => absurd c (by decide))
  exact hret _ _ _ _ _ _ _ ⟨rfl, rfl⟩ hP hD hS (Nat.le_of_ble_eq_true rfl) (Nat.le_of_ble_eq_true rfl) (fun Qc hq => W.vret hx hb hr hq hS.2.2 dJ5_inflateIfNeededFor_a7421_21 hlocks)

set_option maxHeartbeats 8000000 in
set_option maxRecDepth 100000 in
theorem k_J5_putStringAt_47b60 (l : Launch) {D : va_G} {cs : Nat → ClassId} (t w : Nat) (g : Nat → Int32) (b a n m : Nat) (f : Nat → Int32) (hnw : n + w ≤ m) (hm : m ≤ 2002) (hg : sb_Fit g) : CtG l yJ5_putStringAt_47b60 cJ5_putStringAt_47b60 3 none 2 130 0 0 D cs (TF t w g) [.ref b, .int (I n), .ref t] [(b, .inr (11, [.ref a, .int 0, .int 0, .int (I n)])), (a, .inl (cs 0, m, .inl f))] (fun rv w1 => rv = none ∧ w1 = [(b, .inr (11, [.ref a, .int 0, .int 0, .int (I n)])), (a, .inl (cs 0, m, .inl (va_cpy g f 0 n w)))]) := by
  refine CtG.ofW (by decide) (Nat.le_of_ble_eq_true rfl) ?_
  intro p e s m0 below meth c A Q ls args Fl0 hr hlocks hP hD hXs hS hA hl hmn hret
  obtain ⟨hx, hb, hml, hown, hT, hK, hSS⟩ := id Fl0
  have hown : s.vm.findClass RJ5 = some m0.cls := hown
  have hl : lv_has ls 3 [(0, .ref b), (1, .int (I n)), (2, .ref t)] := hl
  obtain ⟨hO, hC, tb, hV, hB⟩ := id hXs
  refine lv_aload_n hx hb dJ5_putStringAt_47b60_0 rfl (lv_at hl 0 rfl) ?_
  refine lv_aload_n hx hb dJ5_putStringAt_47b60_1 rfl (lv_at hl 2 rfl) ?_
  have hP : va_P D vwCl ([(b, .inr (11, [.ref a, .int 0, .int 0, .int (I n)])), (a, .inl (cs 0, m, .inl f))] ++ []) _ := hP
  have hD : va_D A ([(b, .inr (11, [.ref a, .int 0, .int 0, .int (I n)])), (a, .inl (cs 0, m, .inl f))] ++ []) := hD
  refine ggU (C := RJ4) (As := [.ref t]) (rest := []) (wc := [(b, .inr (11, [.ref a, .int 0, .int 0, .int (I n)])), (a, .inl (cs 0, m, .inl f))]) (wr := []) Fl0 (k_J5_inflateIfNeededFor_a7421 l t w g b a n m f) TF_fz (Fz.go TF_fz hXs hD hS hA) hP hD hS hA (va_recv hK.1 hP rfl (q0 := 0) rfl) tw_4_131 tw_4_128 tw_7_7 tw_4_130 (hT _ tsp_inflateIfNeededFor) tw_1_13 yd_J5_inflateIfNeededFor_a7421 ⟨(Nat.le_of_ble_eq_true rfl), (Nat.le_of_ble_eq_true rfl)⟩ ⟨(Nat.le_of_ble_eq_true rfl), (Nat.le_of_ble_eq_true rfl)⟩ rfl hl.1 rfl (Nat.le_of_ble_eq_true rfl) dJ5_putStringAt_47b60_2 (fun H locs rv w1 hw hP hD hS => ?_)
  obtain ⟨rfl, rfl⟩ := hw
  have hP : va_P D vwCl [(b, .inr (11, [.ref a, .int 0, .int 0, .int (I n)])), (a, .inl (cs 0, m, .inl f))] _ := hP
  have hD : va_D A [(b, .inr (11, [.ref a, .int 0, .int 0, .int (I n)])), (a, .inl (cs 0, m, .inl f))] := hD
  refine lv_aload_n hx hb dJ5_putStringAt_47b60_5 rfl (lv_at hl 2 rfl) ?_
  refine lv_aload_n hx hb dJ5_putStringAt_47b60_6 rfl (lv_at hl 0 rfl) ?_
  refine va_get (C := RJ4) (T := TJ4) (N := 4) hx hb hT huJ4 hown hK.1 hP 0 rfl rfl 0 (by decide) (hT _ tw_4_47) (fun _ h9 => h9) (v := .ref a) rfl dJ5_putStringAt_47b60_7 ?_
  refine lv_iload_n hx hb dJ5_putStringAt_47b60_10 rfl (lv_at hl 1 rfl) ?_
  refine lv_aload_n hx hb dJ5_putStringAt_47b60_11 rfl (lv_at hl 0 rfl) ?_
  refine va_get (C := RJ4) (T := TJ4) (N := 4) hx hb hT huJ4 hown hK.1 hP 0 rfl rfl 1 (by decide) (hT _ tw_4_48) (fun _ h9 => h9) (v := .int 0) rfl dJ5_putStringAt_47b60_12 ?_
  have hP := hP.sub [1, 0] (ws' := [(a, .inl (cs 0, m, .inl f))] ++ [(b, .inr (11, [.ref a, .int 0, .int 0, .int (I n)]))]) rfl
  have hD := hD.sub [1, 0] (ws' := [(a, .inl (cs 0, m, .inl f))] ++ [(b, .inr (11, [.ref a, .int 0, .int 0, .int (I n)]))]) (by decide) rfl
  refine ggV (As := [.ref a, .int (I n), .int 0]) (rest := []) (wc := [(a, .inl (cs 0, m, .inl f))]) (wr := [(b, .inr (11, [.ref a, .int 0, .int 0, .int (I n)]))]) Fl0 (k_J0_getBytes_840e7 l (D := D) (cs := cs) t w g a n m f hnw hm hg) TF_fz (Fz.go TF_fz hXs hD hS hA) hP hD hS hA (TF_rcv hXs hS) tw_4_155 tw_4_152 tw_4_153 tw_4_154 tw_1_15 yd_J0_getBytes_840e7 ⟨(Nat.le_of_ble_eq_true rfl), (Nat.le_of_ble_eq_true rfl)⟩ ⟨(Nat.le_of_ble_eq_true rfl), (Nat.le_of_ble_eq_true rfl)⟩ rfl hl.1 rfl (Nat.le_of_ble_eq_true rfl) dJ5_putStringAt_47b60_15 (fun H locs rv w1 hw hP hD hS => ?_)
  obtain ⟨rfl, rfl⟩ := hw
  have hP := hP.sub [1, 0] (ws' := [(b, .inr (11, [.ref a, .int 0, .int 0, .int (I n)])), (a, .inl (cs 0, m, .inl (va_cpy g f 0 n w)))]) rfl
  have hD := hD.sub [1, 0] (ws' := [(b, .inr (11, [.ref a, .int 0, .int 0, .int (I n)])), (a, .inl (cs 0, m, .inl (va_cpy g f 0 n w)))]) (by decide) rfl
  exact hret _ _ _ _ _ _ _ ⟨rfl, rfl⟩ hP hD hS (Nat.le_of_ble_eq_true rfl) (Nat.le_of_ble_eq_true rfl) (fun Qc hq => W.vret hx hb hr hq hS.2.2 dJ5_putStringAt_47b60_18 hlocks)

set_option maxHeartbeats 8000000 in
set_option maxRecDepth 100000 in
theorem k_J5_append_cf1ce (l : Launch) {D : va_G} {cs : Nat → ClassId} (t w : Nat) (g : Nat → Int32) (b a n m : Nat) (f : Nat → Int32) (hnm : n ≤ m) (hm : m ≤ 2002) (hf : sb_Fit f) (hg : sb_Fit g) (hq : n + w ≤ 1000) : CtG l yJ5_append_cf1ce cJ5_append_cf1ce 3 (some (.object "java/lang/AbstractStringBuilder")) 4 190 1 2002 D cs (TF t w g) [.ref b, .ref t] [(b, .inr (11, [.ref a, .int 0, .int 0, .int (I n)])), (a, .inl (cs 0, m, .inl f))] (fun rv w1 => rv = some (.ref b) ∧ ∃ (a' m' : Nat) (f' : Nat → Int32), w1 = [(b, .inr (11, [.ref a', .int 0, .int 0, .int (I (n + w))])), (a', .inl (cs 0, m', .inl f'))] ∧ n + w ≤ m' ∧ m' ≤ 2002 ∧ sb_Fit f' ∧ (∀ j : Nat, j < n → f' j = f j) ∧ ∀ j : Nat, j < w → f' (n + j) = g j) := by
  refine CtG.ofW (by decide) (Nat.le_of_ble_eq_true rfl) ?_
  intro p e s m0 below meth c A Q ls args Fl0 hr hlocks hP hD hXs hS hA hl hmn hret
  obtain ⟨hx, hb, hml, hown, hT, hK, hSS⟩ := id Fl0
  have hown : s.vm.findClass RJ5 = some m0.cls := hown
  have hl : lv_has ls 3 [(0, .ref b), (1, .ref t)] := hl
  obtain ⟨hO, hC, tb, hV, hB⟩ := id hXs
  refine lv_aload_n hx hb dJ5_append_cf1ce_0 rfl (lv_at hl 1 rfl) ?_
  refine lv_ifnonnull (tgt := 9) hx hb dJ5_append_cf1ce_1 (by decide) ?_
  refine lv_aload_n hx hb dJ5_append_cf1ce_9 rfl (lv_at hl 1 rfl) ?_
  have hP : va_P D vwCl ([] ++ [(b, .inr (11, [.ref a, .int 0, .int 0, .int (I n)])), (a, .inl (cs 0, m, .inl f))]) _ := hP
  have hD : va_D A ([] ++ [(b, .inr (11, [.ref a, .int 0, .int 0, .int (I n)])), (a, .inl (cs 0, m, .inl f))]) := hD
  refine ggV (As := []) (rest := []) (wc := []) (wr := [(b, .inr (11, [.ref a, .int 0, .int 0, .int (I n)])), (a, .inl (cs 0, m, .inl f))]) Fl0 (k_J0_length_8abf5 l (D := D) (cs := cs) t w g) TF_fz (Fz.go TF_fz hXs hD hS hA) hP hD hS hA (TF_rcv hXs hS) tw_3_63 tw_4_123 tw_3_61 tw_3_62 tw_1_15 yd_J0_length_8abf5 ⟨(Nat.le_of_ble_eq_true rfl), (Nat.le_of_ble_eq_true rfl)⟩ ⟨(Nat.le_of_ble_eq_true rfl), (Nat.le_of_ble_eq_true rfl)⟩ rfl hl.1 rfl (Nat.le_of_ble_eq_true rfl) dJ5_append_cf1ce_10 (fun H locs rv w1 hw hP hD hS => ?_)
  obtain ⟨rfl, rfl⟩ := hw
  have hP : va_P D vwCl [(b, .inr (11, [.ref a, .int 0, .int 0, .int (I n)])), (a, .inl (cs 0, m, .inl f))] _ := hP
  have hD : va_D A [(b, .inr (11, [.ref a, .int 0, .int 0, .int (I n)])), (a, .inl (cs 0, m, .inl f))] := hD
  refine lv_istore_n (lv' := [(2, .int (I w)), (0, .ref b), (1, .ref t)]) hx hb dJ5_append_cf1ce_13 rfl hl (by decide) rfl (fun ls hl => ?_)
  refine lv_aload_n hx hb dJ5_append_cf1ce_14 rfl (lv_at hl 1 rfl) ?_
  refine lv_aload_n hx hb dJ5_append_cf1ce_15 rfl (lv_at hl 1 rfl) ?_
  refine va_get (C := RJ4) (T := TJ4) (N := 4) hx hb hT huJ4 hown hK.1 hP 0 rfl rfl 3 (by decide) (hT _ tw_4_50) (fun _ h9 => h9) (v := .int (I n)) rfl dJ5_append_cf1ce_16 ?_
  refine lv_iload_n hx hb dJ5_append_cf1ce_19 rfl (lv_at hl 0 rfl) ?_
  refine lv_iadd hx hb dJ5_append_cf1ce_20 ?_
  refine lv_nmi (y := I (n + w)) (I_add _ _).symm ?_
  have hP : va_P D vwCl ([(b, .inr (11, [.ref a, .int 0, .int 0, .int (I n)])), (a, .inl (cs 0, m, .inl f))] ++ []) _ := hP
  have hD : va_D A ([(b, .inr (11, [.ref a, .int 0, .int 0, .int (I n)])), (a, .inl (cs 0, m, .inl f))] ++ []) := hD
  refine ggU (C := RJ4) (As := [.int (I (n + w))]) (rest := []) (wc := [(b, .inr (11, [.ref a, .int 0, .int 0, .int (I n)])), (a, .inl (cs 0, m, .inl f))]) (wr := []) Fl0 (k_J5_ensureCapacityInternal_d00df l b a n m f (n + w) hnm hm hf hq) X0_fz trivial hP hD hS hA (va_recv hK.1 hP rfl (q0 := 0) rfl) tw_4_75 tw_4_72 tw_7_4 tw_4_74 (hT _ tsp_ensureCapacityInternal) tw_1_13 yd_J5_ensureCapacityInternal_d00df ⟨(Nat.le_of_ble_eq_true rfl), (Nat.le_of_ble_eq_true rfl)⟩ ⟨(Nat.le_of_ble_eq_true rfl), (Nat.le_of_ble_eq_true rfl)⟩ rfl hl.1 rfl (Nat.le_of_ble_eq_true rfl) dJ5_append_cf1ce_21 (fun H locs rv w1 hw hP hD hS => ?_)
  obtain ⟨rfl, a', m', f', rfl, g1, g2, g3, g4, g5⟩ := hw
  have hP : va_P D vwCl [(b, .inr (11, [.ref a', .int 0, .int 0, .int (I n)])), (a', .inl (cs 0, m', .inl f'))] _ := hP
  have hD : va_D A [(b, .inr (11, [.ref a', .int 0, .int 0, .int (I n)])), (a', .inl (cs 0, m', .inl f'))] := hD
  refine lv_aload_n hx hb dJ5_append_cf1ce_24 rfl (lv_at hl 1 rfl) ?_
  refine lv_aload_n hx hb dJ5_append_cf1ce_25 rfl (lv_at hl 1 rfl) ?_
  refine va_get (C := RJ4) (T := TJ4) (N := 4) hx hb hT huJ4 hown hK.1 hP 0 rfl rfl 3 (by decide) (hT _ tw_4_50) (fun _ h9 => h9) (v := .int (I n)) rfl dJ5_append_cf1ce_26 ?_
  refine lv_aload_n hx hb dJ5_append_cf1ce_29 rfl (lv_at hl 2 rfl) ?_
  have hP : va_P D vwCl ([(b, .inr (11, [.ref a', .int 0, .int 0, .int (I n)])), (a', .inl (cs 0, m', .inl f'))] ++ []) _ := hP
  have hD : va_D A ([(b, .inr (11, [.ref a', .int 0, .int 0, .int (I n)])), (a', .inl (cs 0, m', .inl f'))] ++ []) := hD
  refine ggU (C := RJ4) (As := [.int (I n), .ref t]) (rest := []) (wc := [(b, .inr (11, [.ref a', .int 0, .int 0, .int (I n)])), (a', .inl (cs 0, m', .inl f'))]) (wr := []) Fl0 (k_J5_putStringAt_47b60 l t w g b a' n m' f' g1 g3 hg) TF_fz (Fz.go TF_fz hXs hD hS hA) hP hD hS hA (va_recv hK.1 hP rfl (q0 := 0) rfl) tw_4_127 tw_4_124 tw_7_6 tw_4_126 (hT _ tsp_putStringAt) tw_1_13 yd_J5_putStringAt_47b60 ⟨(Nat.le_of_ble_eq_true rfl), (Nat.le_of_ble_eq_true rfl)⟩ ⟨(Nat.le_of_ble_eq_true rfl), by show 0 + 2002 + 0 ≤ 2002; omega⟩ rfl hl.1 rfl (Nat.le_of_ble_eq_true rfl) dJ5_append_cf1ce_30 (fun H locs rv w1 hw hP hD hS => ?_)
  obtain ⟨rfl, rfl⟩ := hw
  have hP : va_P D vwCl [(b, .inr (11, [.ref a', .int 0, .int 0, .int (I n)])), (a', .inl (cs 0, m', .inl (va_cpy g f' 0 n w)))] _ := hP
  have hD : va_D A [(b, .inr (11, [.ref a', .int 0, .int 0, .int (I n)])), (a', .inl (cs 0, m', .inl (va_cpy g f' 0 n w)))] := hD
  refine lv_aload_n hx hb dJ5_append_cf1ce_33 rfl (lv_at hl 1 rfl) ?_
  refine lv_dup hx hb dJ5_append_cf1ce_34 rfl ?_
  refine va_get (C := RJ4) (T := TJ4) (N := 4) hx hb hT huJ4 hown hK.1 hP 0 rfl rfl 3 (by decide) (hT _ tw_4_50) (fun _ h9 => h9) (v := .int (I n)) rfl dJ5_append_cf1ce_35 ?_
  refine lv_iload_n hx hb dJ5_append_cf1ce_38 rfl (lv_at hl 0 rfl) ?_
  refine lv_iadd hx hb dJ5_append_cf1ce_39 ?_
  refine lv_nmi (y := I (n + w)) (I_add _ _).symm ?_
  refine va_put (ci := 11) (v := .int (I (n + w))) (ty := tyJ4 3) (C := RJ4) (T := TJ4) (N := 4) hx hb hT huJ4 tyJ4 tyJ4_ok nmJ4 hown hK.1 hP hD hS 0 rfl rfl 3 (by decide) (hT _ tw_4_50) (fun _ h9 => h9) rfl (tyJ4_ok 3 (by decide)) rfl rfl (Nat.le_of_ble_eq_true rfl) dJ5_append_cf1ce_40 (fun H locs hP hD hS => ?_)
  have hP : va_P D vwCl [(b, .inr (11, [.ref a', .int 0, .int 0, .int (I (n + w))])), (a', .inl (cs 0, m', .inl (va_cpy g f' 0 n w)))] _ := hP
  have hD : va_D A [(b, .inr (11, [.ref a', .int 0, .int 0, .int (I (n + w))])), (a', .inl (cs 0, m', .inl (va_cpy g f' 0 n w)))] := hD
  refine lv_aload_n hx hb dJ5_append_cf1ce_43 rfl (lv_at hl 1 rfl) ?_
  exact hret _ _ _ _ _ _ _ ⟨rfl, a', m', va_cpy g f' 0 n w, rfl, g1, g3, sb_fitC hg g4, fun j hj => by rw [cpy_lo hj]; exact g5 j (by omega), fun j hj => cpy_hi hj⟩ hP hD hS (Nat.le_of_ble_eq_true rfl) (by show 0 + 2002 + 0 ≤ 2002; omega) (fun Qc hq => W.aret hx hb hr (Or.inl ⟨_, rfl⟩) (Or.inr ⟨_, rfl⟩) hq hS.2.2 dJ5_append_cf1ce_44 hlocks)

set_option maxHeartbeats 8000000 in
set_option maxRecDepth 100000 in
theorem k_J4_append_15ec4 (l : Launch) {D : va_G} {cs : Nat → ClassId} (t w : Nat) (g : Nat → Int32) (b a n m : Nat) (f : Nat → Int32) (hnm : n ≤ m) (hm : m ≤ 2002) (hf : sb_Fit f) (hg : sb_Fit g) (hq : n + w ≤ 1000) : CtG l yJ4_append_15ec4 cJ4_append_15ec4 2 (some (.object "java/lang/StringBuilder")) 5 220 1 2002 D cs (TF t w g) [.ref b, .ref t] [(b, .inr (11, [.ref a, .int 0, .int 0, .int (I n)])), (a, .inl (cs 0, m, .inl f))] (fun rv w1 => rv = some (.ref b) ∧ ∃ (a' m' : Nat) (f' : Nat → Int32), w1 = [(b, .inr (11, [.ref a', .int 0, .int 0, .int (I (n + w))])), (a', .inl (cs 0, m', .inl f'))] ∧ n + w ≤ m' ∧ m' ≤ 2002 ∧ sb_Fit f' ∧ (∀ j : Nat, j < n → f' j = f j) ∧ ∀ j : Nat, j < w → f' (n + j) = g j) := by
  refine CtG.ofW (by decide) (Nat.le_of_ble_eq_true rfl) ?_
  intro p e s m0 below meth c A Q ls args Fl0 hr hlocks hP hD hXs hS hA hl hmn hret
  obtain ⟨hx, hb, hml, hown, hT, hK, hSS⟩ := id Fl0
  have hown : s.vm.findClass RJ4 = some m0.cls := hown
  have hl : lv_has ls 2 [(0, .ref b), (1, .ref t)] := hl
  refine lv_aload_n hx hb dJ4_append_15ec4_0 rfl (lv_at hl 0 rfl) ?_
  refine lv_aload_n hx hb dJ4_append_15ec4_1 rfl (lv_at hl 1 rfl) ?_
  have hP : va_P D vwCl ([(b, .inr (11, [.ref a, .int 0, .int 0, .int (I n)])), (a, .inl (cs 0, m, .inl f))] ++ []) _ := hP
  have hD : va_D A ([(b, .inr (11, [.ref a, .int 0, .int 0, .int (I n)])), (a, .inl (cs 0, m, .inl f))] ++ []) := hD
  refine ggU2 (C := RJ4) (As := [.ref t]) (rest := []) (wc := [(b, .inr (11, [.ref a, .int 0, .int 0, .int (I n)])), (a, .inl (cs 0, m, .inl f))]) (wr := []) Fl0 (hK.1.1 11 _ rfl).2 (k_J5_append_cf1ce l t w g b a n m f hnm hm hf hg hq) TF_fz (Fz.go TF_fz hXs hD hS hA) hP hD hS hA (va_recv hK.1 hP rfl (q0 := 0) rfl) tw_4_67 tw_4_65 tw_7_2 tw_4_59 tw_4_66 tw_1_13 (by decide) yd_J5_append_cf1ce.2.2 ⟨(Nat.le_of_ble_eq_true rfl), (Nat.le_of_ble_eq_true rfl)⟩ ⟨(Nat.le_of_ble_eq_true rfl), (Nat.le_of_ble_eq_true rfl)⟩ rfl hl.1 rfl (Nat.le_of_ble_eq_true rfl) dJ4_append_15ec4_2 (fun H locs rv w1 hw hP hD hS => ?_)
  obtain ⟨rfl, a', m', f', rfl, g1, g3, g4, g5, g6⟩ := hw
  have hP : va_P D vwCl [(b, .inr (11, [.ref a', .int 0, .int 0, .int (I (n + w))])), (a', .inl (cs 0, m', .inl f'))] _ := hP
  have hD : va_D A [(b, .inr (11, [.ref a', .int 0, .int 0, .int (I (n + w))])), (a', .inl (cs 0, m', .inl f'))] := hD
  refine lv_pop hx hb dJ4_append_15ec4_5 rfl ?_
  refine lv_aload_n hx hb dJ4_append_15ec4_6 rfl (lv_at hl 0 rfl) ?_
  exact hret _ _ _ _ _ _ _ ⟨rfl, a', m', f', rfl, g1, g3, g4, g5, g6⟩ hP hD hS (Nat.le_of_ble_eq_true rfl) (Nat.le_of_ble_eq_true rfl) (fun Qc hq => W.aret hx hb hr (Or.inl ⟨_, rfl⟩) (Or.inr ⟨_, rfl⟩) hq hS.2.2 dJ4_append_15ec4_7 hlocks)
