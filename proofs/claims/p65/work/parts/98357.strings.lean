/-! the builder's methods with a number; builders are made, texts out of builders -/
theorem vA_w {A : Nat → Prop} {s : State} {H : Heap} {locs : List Loc} {w : va_W} (hD : va_D A w) (hS : va_S A s.heap H locs) (hA : ∀ q : Nat, s.heap.size ≤ q → A q) : ∀ q : Nat, va_A w H.size q → A q := fun q h => by
  rcases h with ⟨k, z, h⟩ | h
  · exact hD.2 k _ h
  · exact hA q (Nat.le_trans hS.1 h)
theorem LnB {cs : Nat → ClassId} (e : Nat × va_E) (a m : Nat) : Ln 1 (fun _ => a) (fun _ r _ => .inl (cs 0, m, .inl r)) (fun z : MM => [e, (a, .inl (cs 0, m, .inl (z.1 0)))]) := by
  refine ⟨fun _ => 1, fun z q hq => ?_⟩
  have : q = 0 := by omega
  subst this
  refine ⟨rfl, fun r t => ?_⟩
  show [e, (a, .inl (cs 0, m, .inl r))] = [e, (a, .inl (cs 0, m, .inl (va_up z.1 0 r 0)))]
  unfold va_up
  rw [if_pos rfl]
theorem dig_fit {v n : Nat} {f' : Nat → Int32} {mm' : MM} (hf : sb_Fit f') (h2 : ∀ i : Nat, i < sb_dg v → gi mm' 0 (n + i) = I (sb_dec v i)) (h3 : ∀ a j : Nat, ¬ (a = 0 ∧ n ≤ j ∧ j < n + sb_dg v) → gi mm' a j = gi ((fun _ => f', fun _ _ => 0) : MM) a j) : sb_Fit (mm'.1 0) := fun j => by
  show fits .byte (.int (gi mm' 0 j)) = true
  by_cases c : n ≤ j ∧ j < n + sb_dg v
  · have e := h2 (j - n) (by omega)
    rw [show n + (j - n) = j by omega] at e
    rw [e]
    refine fit_d _ ?_
    unfold sb_dec
    omega
  · rw [h3 0 j (by omega)]
    exact hf j
theorem I_min2 {a b : Nat} (ha : a < 2147483648) (hb : b < 2147483648) (h : a ≤ b) : I a = if I a < I b then I a else I b := by
  by_cases c : a = b
  · subst c
    rw [if_neg (fun z => by have := (I_lt ha ha).mp z; omega)]
  · rw [if_pos ((I_lt ha hb).mpr (by omega))]
theorem lwc_clone : Cond.castable "[B" "java/lang/Cloneable" ∈ lw_tbl := List.mem_append_right _ (tb4 (List.mem_of_getElem? (i := 99) rfl))
theorem arr_val {cA : ClassId} {n : Nat} {f : Nat → Int32} {i : Nat} {v : Value} (h : (vp_cell cA (n, .inl f)).slots[i]? = some v) : ∃ j : Nat, v = .int (f j) := by
  have h : (arrV cA n (fun j => .int (f j))).slots[i]? = some v := h
  have hi := (Array.getElem?_eq_some_iff.mp h).1
  have e : (arrV cA n (fun j => .int (f j))).slots[i]? = some (.int (f i)) := by
    unfold arrV at hi ⊢
    rw [Array.getElem?_ofFn]
    rw [Array.size_ofFn] at hi
    rw [dif_pos hi]
  rw [e] at h
  exact ⟨i, (Option.some.inj h).symm⟩
set_option maxHeartbeats 8000000 in
set_option maxRecDepth 100000 in
theorem k_J5_append_c97b9 (l : Launch) {D : va_G} {cs : Nat → ClassId} (v : Nat) (b a n m : Nat) (f : Nat → Int32) (hnm : n ≤ m) (hm : m ≤ 2002) (hf : sb_Fit f) (hv : v < 100000) (hq : n + sb_dg v ≤ 1000) : CtG l yJ5_append_c97b9 cJ5_append_c97b9 4 (some (.object "java/lang/AbstractStringBuilder")) 4 190 1 2002 D cs X0 [.ref b, .int (I v)] [(b, .inr (11, [.ref a, .int 0, .int 0, .int (I n)])), (a, .inl (cs 0, m, .inl f))] (fun rv w1 => rv = some (.ref b) ∧ ∃ (a' m' : Nat) (f' : Nat → Int32), w1 = [(b, .inr (11, [.ref a', .int 0, .int 0, .int (I (n + sb_dg v))])), (a', .inl (cs 0, m', .inl f'))] ∧ n + sb_dg v ≤ m' ∧ m' ≤ 2002 ∧ sb_Fit f' ∧ (∀ j : Nat, j < n → f' j = f j) ∧ ∀ j : Nat, j < sb_dg v → f' (n + j) = I (sb_dec v j)) := by
  refine CtG.ofW (by decide) (Nat.le_of_ble_eq_true rfl) ?_
  intro p e s m0 below meth c A Q ls args Fl0 hr hlocks hP hD hXs hS hA hl hmn hret
  obtain ⟨hx, hb, hml, hown, hT, hK, hSS⟩ := id Fl0
  have hown : s.vm.findClass RJ5 = some m0.cls := hown
  have hl : lv_has ls 4 [(0, .ref b), (1, .int (I v))] := hl
  refine lv_aload_n hx hb dJ5_append_c97b9_0 rfl (lv_at hl 0 rfl) ?_
  refine va_get (C := RJ4) (T := TJ4) (N := 4) hx hb hT huJ4 hown hK.1 hP 0 rfl rfl 3 (by decide) (hT _ tw_4_50) (fun _ h9 => h9) (v := .int (I n)) rfl dJ5_append_c97b9_1 ?_
  refine lv_istore_n (lv' := [(2, .int (I n)), (0, .ref b), (1, .int (I v))]) hx hb dJ5_append_c97b9_4 rfl hl (by decide) rfl (fun ls hl => ?_)
  refine lv_iload_n hx hb dJ5_append_c97b9_5 rfl (lv_at hl 0 rfl) ?_
  refine lv_iload_n hx hb dJ5_append_c97b9_6 rfl (lv_at hl 2 rfl) ?_
  refine lrS (As := [.int (I v)]) (rest := [.int (I n)]) Fl0 (w := [(b, .inr (11, [.ref a, .int 0, .int 0, .int (I n)])), (a, .inl (cs 0, m, .inl f))]) (w' := [(b, .inr (11, [.ref a, .int 0, .int 0, .int (I n)])), (a, .inl (cs 0, m, .inl f))]) (c_J6_stringSize_0f7a4 l (I v) (ss_eq hv)) hP hD hS (vA_w hD hS hA) tw_4_174 tw_4_172 tw_4_173 tw_1_22 yd_J6_stringSize_0f7a4 ⟨(Nat.le_of_ble_eq_true rfl), (Nat.le_of_ble_eq_true rfl)⟩ ⟨(Nat.le_of_ble_eq_true rfl), (Nat.le_of_ble_eq_true rfl)⟩ rfl hl.1 rfl (Nat.le_of_ble_eq_true rfl) dJ5_append_c97b9_7 (fun H locs hP hS => ?_)
  refine lv_iadd hx hb dJ5_append_c97b9_10 ?_
  refine lv_nmi (y := I (n + sb_dg v)) (I_add _ _).symm ?_
  refine lv_istore_n (lv' := [(3, .int (I (n + sb_dg v))), (2, .int (I n)), (0, .ref b), (1, .int (I v))]) hx hb dJ5_append_c97b9_11 rfl hl (by decide) rfl (fun ls hl => ?_)
  refine lv_aload_n hx hb dJ5_append_c97b9_12 rfl (lv_at hl 2 rfl) ?_
  refine lv_iload_n hx hb dJ5_append_c97b9_13 rfl (lv_at hl 0 rfl) ?_
  have hP : va_P D vwCl ([(b, .inr (11, [.ref a, .int 0, .int 0, .int (I n)])), (a, .inl (cs 0, m, .inl f))] ++ []) _ := hP
  have hD : va_D A ([(b, .inr (11, [.ref a, .int 0, .int 0, .int (I n)])), (a, .inl (cs 0, m, .inl f))] ++ []) := hD
  refine ggU (C := RJ4) (As := [.int (I (n + sb_dg v))]) (rest := []) (wc := [(b, .inr (11, [.ref a, .int 0, .int 0, .int (I n)])), (a, .inl (cs 0, m, .inl f))]) (wr := []) Fl0 (k_J5_ensureCapacityInternal_d00df l b a n m f (n + sb_dg v) hnm hm hf hq) X0_fz trivial hP hD hS hA (va_recv hK.1 hP rfl (q0 := 0) rfl) tw_4_75 tw_4_72 tw_7_4 tw_4_74 (hT _ tsp_ensureCapacityInternal) tw_1_13 yd_J5_ensureCapacityInternal_d00df ⟨(Nat.le_of_ble_eq_true rfl), (Nat.le_of_ble_eq_true rfl)⟩ ⟨(Nat.le_of_ble_eq_true rfl), (Nat.le_of_ble_eq_true rfl)⟩ rfl hl.1 rfl (Nat.le_of_ble_eq_true rfl) dJ5_append_c97b9_14 (fun H locs rv w1 hw hP hD hS => ?_)
  obtain ⟨rfl, a', m', f', rfl, g1, g2, g3, g4, g5⟩ := hw
  have hP : va_P D vwCl [(b, .inr (11, [.ref a', .int 0, .int 0, .int (I n)])), (a', .inl (cs 0, m', .inl f'))] _ := hP
  have hD : va_D A [(b, .inr (11, [.ref a', .int 0, .int 0, .int (I n)])), (a', .inl (cs 0, m', .inl f'))] := hD
  refine lv_aload_n hx hb dJ5_append_c97b9_17 rfl (lv_at hl 2 rfl) ?_
  have hP : va_P D vwCl ([(b, .inr (11, [.ref a', .int 0, .int 0, .int (I n)])), (a', .inl (cs 0, m', .inl f'))] ++ []) _ := hP
  have hD : va_D A ([(b, .inr (11, [.ref a', .int 0, .int 0, .int (I n)])), (a', .inl (cs 0, m', .inl f'))] ++ []) := hD
  refine ggU (C := RJ4) (As := []) (rest := []) (wc := [(b, .inr (11, [.ref a', .int 0, .int 0, .int (I n)])), (a', .inl (cs 0, m', .inl f'))]) (wr := []) Fl0 (k_J5_isLatin1_aae02 l b a' n m' f') X0_fz trivial hP hD hS hA (va_recv hK.1 hP rfl (q0 := 0) rfl) tw_4_107 tw_4_103 tw_4_105 tw_4_104 (hT _ tw_4_106) tw_1_13 yd_J5_isLatin1_aae02 ⟨(Nat.le_of_ble_eq_true rfl), (Nat.le_of_ble_eq_true rfl)⟩ ⟨(Nat.le_of_ble_eq_true rfl), (Nat.le_of_ble_eq_true rfl)⟩ rfl hl.1 rfl (Nat.le_of_ble_eq_true rfl) dJ5_append_c97b9_18 (fun H locs rv w1 hw hP hD hS => ?_)
  obtain ⟨rfl, rfl⟩ := hw
  have hP : va_P D vwCl [(b, .inr (11, [.ref a', .int 0, .int 0, .int (I n)])), (a', .inl (cs 0, m', .inl f'))] _ := hP
  have hD : va_D A [(b, .inr (11, [.ref a', .int 0, .int 0, .int (I n)])), (a', .inl (cs 0, m', .inl f'))] := hD
  refine lv_if_eq (tgt := 37) hx hb dJ5_append_c97b9_21 (by decide) (fun c => absurd c (by decide)) (fun _ => ?_)
  refine lv_iload_n hx hb dJ5_append_c97b9_24 rfl (lv_at hl 3 rfl) ?_
  refine lv_iload_n hx hb dJ5_append_c97b9_25 rfl (lv_at hl 0 rfl) ?_
  refine lv_aload_n hx hb dJ5_append_c97b9_26 rfl (lv_at hl 2 rfl) ?_
  refine va_get (C := RJ4) (T := TJ4) (N := 4) hx hb hT huJ4 hown hK.1 hP 0 rfl rfl 0 (by decide) (hT _ tw_4_47) (fun _ h9 => h9) (v := .ref a') rfl dJ5_append_c97b9_27 ?_
  obtain ⟨mm', hg1, hg2, hg3⟩ := gc_eq (q := 0) (N := m') (n := n) (by omega) hv g1 ((fun _ => f', fun _ _ => 0) : MM)
  refine lrS (As := [.int (I v), .int (I (n + sb_dg v)), .ref a']) (rest := []) Fl0 (w := [(b, .inr (11, [.ref a', .int 0, .int 0, .int (I n)])), (a', .inl (cs 0, m', .inl f'))]) (w' := [(b, .inr (11, [.ref a', .int 0, .int 0, .int (I n)])), (a', .inl (cs 0, m', .inl (mm'.1 0)))]) (c_J6_getChars_ba4f3 l (na := 1) (ad := fun _ => a') (sh := fun _ r _ => .inl (cs 0, m', .inl r)) (Wf := fun z => [(b, .inr (11, [.ref a', .int 0, .int 0, .int (I n)])), (a', .inl (cs 0, m', .inl (z.1 0)))]) (LnB _ _ _) (fun _ _ => rfl) ((fun _ => f', fun _ _ => 0) : MM) (I v) (I (n + sb_dg v)) 0 m' (by decide) (fun _ _ => rfl) hg1) hP hD hS (vA_w hD hS hA) tw_4_177 tw_4_175 tw_4_176 tw_1_22 yd_J6_getChars_ba4f3 ⟨(Nat.le_of_ble_eq_true rfl), (Nat.le_of_ble_eq_true rfl)⟩ ⟨(Nat.le_of_ble_eq_true rfl), (Nat.le_of_ble_eq_true rfl)⟩ rfl hl.1 rfl (Nat.le_of_ble_eq_true rfl) dJ5_append_c97b9_30 (fun H locs hP hS => ?_)
  have hD : va_D A [(b, .inr (11, [.ref a', .int 0, .int 0, .int (I n)])), (a', .inl (cs 0, m', .inl (mm'.1 0)))] := va_D.map (by rfl) hD
  refine lv_pop hx hb dJ5_append_c97b9_33 rfl ?_
  refine lv_goto (tgt := 48) hx hb dJ5_append_c97b9_34 (by decide) ?_
  refine lv_aload_n hx hb dJ5_append_c97b9_48 rfl (lv_at hl 2 rfl) ?_
  refine lv_iload_n hx hb dJ5_append_c97b9_49 rfl (lv_at hl 0 rfl) ?_
  refine va_put (ci := 11) (v := .int (I (n + sb_dg v))) (ty := tyJ4 3) (C := RJ4) (T := TJ4) (N := 4) hx hb hT huJ4 tyJ4 tyJ4_ok nmJ4 hown hK.1 hP hD hS 0 rfl rfl 3 (by decide) (hT _ tw_4_50) (fun _ h9 => h9) rfl (tyJ4_ok 3 (by decide)) rfl rfl (Nat.le_of_ble_eq_true rfl) dJ5_append_c97b9_50 (fun H locs hP hD hS => ?_)
  have hP : va_P D vwCl [(b, .inr (11, [.ref a', .int 0, .int 0, .int (I (n + sb_dg v))])), (a', .inl (cs 0, m', .inl (mm'.1 0)))] _ := hP
  have hD : va_D A [(b, .inr (11, [.ref a', .int 0, .int 0, .int (I (n + sb_dg v))])), (a', .inl (cs 0, m', .inl (mm'.1 0)))] := hD
  refine lv_aload_n hx hb dJ5_append_c97b9_53 rfl (lv_at hl 2 rfl) ?_
  exact hret _ _ _ _ _ _ _ ⟨rfl, a', m', mm'.1 0, rfl, g1, g3, dig_fit g4 hg2 hg3, fun j hj => (hg3 0 j (by omega)).trans (g5 j (by omega)), hg2⟩ hP hD hS (Nat.le_of_ble_eq_true rfl) (Nat.le_of_ble_eq_true rfl) (fun Qc hq => W.aret hx hb hr (Or.inl ⟨_, rfl⟩) (Or.inr ⟨_, rfl⟩) hq hS.2.2 dJ5_append_c97b9_54 hlocks)

set_option maxHeartbeats 8000000 in
set_option maxRecDepth 100000 in
theorem k_J4_append_bf812 (l : Launch) {D : va_G} {cs : Nat → ClassId} (v : Nat) (b a n m : Nat) (f : Nat → Int32) (hnm : n ≤ m) (hm : m ≤ 2002) (hf : sb_Fit f) (hv : v < 100000) (hq : n + sb_dg v ≤ 1000) : CtG l yJ4_append_bf812 cJ4_append_bf812 2 (some (.object "java/lang/StringBuilder")) 5 220 1 2002 D cs X0 [.ref b, .int (I v)] [(b, .inr (11, [.ref a, .int 0, .int 0, .int (I n)])), (a, .inl (cs 0, m, .inl f))] (fun rv w1 => rv = some (.ref b) ∧ ∃ (a' m' : Nat) (f' : Nat → Int32), w1 = [(b, .inr (11, [.ref a', .int 0, .int 0, .int (I (n + sb_dg v))])), (a', .inl (cs 0, m', .inl f'))] ∧ n + sb_dg v ≤ m' ∧ m' ≤ 2002 ∧ sb_Fit f' ∧ (∀ j : Nat, j < n → f' j = f j) ∧ ∀ j : Nat, j < sb_dg v → f' (n + j) = I (sb_dec v j)) := by
  refine CtG.ofW (by decide) (Nat.le_of_ble_eq_true rfl) ?_
  intro p e s m0 below meth c A Q ls args Fl0 hr hlocks hP hD hXs hS hA hl hmn hret
  obtain ⟨hx, hb, hml, hown, hT, hK, hSS⟩ := id Fl0
  have hown : s.vm.findClass RJ4 = some m0.cls := hown
  have hl : lv_has ls 2 [(0, .ref b), (1, .int (I v))] := hl
  refine lv_aload_n hx hb dJ4_append_bf812_0 rfl (lv_at hl 0 rfl) ?_
  refine lv_iload_n hx hb dJ4_append_bf812_1 rfl (lv_at hl 1 rfl) ?_
  have hP : va_P D vwCl ([(b, .inr (11, [.ref a, .int 0, .int 0, .int (I n)])), (a, .inl (cs 0, m, .inl f))] ++ []) _ := hP
  have hD : va_D A ([(b, .inr (11, [.ref a, .int 0, .int 0, .int (I n)])), (a, .inl (cs 0, m, .inl f))] ++ []) := hD
  refine ggU2 (C := RJ4) (As := [.int (I v)]) (rest := []) (wc := [(b, .inr (11, [.ref a, .int 0, .int 0, .int (I n)])), (a, .inl (cs 0, m, .inl f))]) (wr := []) Fl0 (hK.1.1 11 _ rfl).2 (k_J5_append_c97b9 l v b a n m f hnm hm hf hv hq) X0_fz trivial hP hD hS hA (va_recv hK.1 hP rfl (q0 := 0) rfl) tw_4_171 tw_4_169 tw_7_9 tw_4_59 tw_4_170 tw_1_13 (by decide) yd_J5_append_c97b9.2.2 ⟨(Nat.le_of_ble_eq_true rfl), (Nat.le_of_ble_eq_true rfl)⟩ ⟨(Nat.le_of_ble_eq_true rfl), (Nat.le_of_ble_eq_true rfl)⟩ rfl hl.1 rfl (Nat.le_of_ble_eq_true rfl) dJ4_append_bf812_2 (fun H locs rv w1 hw hP hD hS => ?_)
  obtain ⟨rfl, a', m', f', rfl, g1, g3, g4, g5, g6⟩ := hw
  have hP : va_P D vwCl [(b, .inr (11, [.ref a', .int 0, .int 0, .int (I (n + sb_dg v))])), (a', .inl (cs 0, m', .inl f'))] _ := hP
  have hD : va_D A [(b, .inr (11, [.ref a', .int 0, .int 0, .int (I (n + sb_dg v))])), (a', .inl (cs 0, m', .inl f'))] := hD
  refine lv_pop hx hb dJ4_append_bf812_5 rfl ?_
  refine lv_aload_n hx hb dJ4_append_bf812_6 rfl (lv_at hl 0 rfl) ?_
  exact hret _ _ _ _ _ _ _ ⟨rfl, a', m', f', rfl, g1, g3, g4, g5, g6⟩ hP hD hS (Nat.le_of_ble_eq_true rfl) (Nat.le_of_ble_eq_true rfl) (fun Qc hq => W.aret hx hb hr (Or.inl ⟨_, rfl⟩) (Or.inr ⟨_, rfl⟩) hq hS.2.2 dJ4_append_bf812_7 hlocks)

set_option maxHeartbeats 8000000 in
set_option maxRecDepth 100000 in
theorem k_J5_init_d00df (l : Launch) {D : va_G} {cs : Nat → ClassId} (b : Nat) : CtG l yJ5_init_d00df cJ5_init_d00df 2 none 1 60 1 16 D cs X0 [.ref b, .int (16 : Int32)] [(b, .inr (11, [.null, .int 0, .int 0, .int 0]))] (fun rv w1 => rv = none ∧ ∃ q : Nat, w1 = [(b, .inr (11, [.ref q, .int 0, .int 0, .int 0])), (q, .inl (cs 0, 16, .inl (fun _ => 0)))]) := by
  refine CtG.ofW (by decide) (Nat.le_of_ble_eq_true rfl) ?_
  intro p e s m0 below meth c A Q ls args Fl0 hr hlocks hP hD hXs hS hA hl hmn hret
  obtain ⟨hx, hb, hml, hown, hT, hK, hSS⟩ := id Fl0
  have hown : s.vm.findClass RJ5 = some m0.cls := hown
  have hl : lv_has ls 2 [(0, .ref b), (1, .int (16 : Int32))] := hl
  refine lv_aload_n hx hb dJ5_init_d00df_0 rfl (lv_at hl 0 rfl) ?_
  refine W.objInit hx hb hown (hT _ tw_4_38) (hT _ tw_1_35) (hT _ tw_1_36) rfl (by rw [hml]; exact hl.1) rfl dJ5_init_d00df_1 (Nat.le_of_ble_eq_true rfl) (Nat.le_of_ble_eq_true rfl) ?_
  refine W.eq (g2 := F0 m0 4 ls []) rfl ?_
  refine rgz hx hb hSS hS hown (hT _ tw_4_39) dJ5_init_d00df_4 ?_
  refine lv_if_eq (tgt := 25) hx hb dJ5_init_d00df_7 (by decide) (fun c => absurd c (by decide)) (fun _ => ?_)
  refine lv_aload_n hx hb dJ5_init_d00df_10 rfl (lv_at hl 0 rfl) ?_
  refine lv_iload_n hx hb dJ5_init_d00df_11 rfl (lv_at hl 1 rfl) ?_
  refine rnB hx hb hT tw_1_85 hK hP hD hS hA 16 (by decide) (by decide) (Nat.le_of_ble_eq_true rfl) (Nat.le_of_ble_eq_true rfl) (Nat.le_of_ble_eq_true rfl) dJ5_init_d00df_12 (fun q12 H hP hD => ?_)
  intro hS
  have hP : va_P D vwCl [(b, .inr (11, [.null, .int 0, .int 0, .int 0])), (q12, .inl (cs 0, 16, .inl (fun _ => 0)))] _ := hP
  have hD : va_D A [(b, .inr (11, [.null, .int 0, .int 0, .int 0])), (q12, .inl (cs 0, 16, .inl (fun _ => 0)))] := hD
  refine va_put (ci := 11) (v := .ref q12) (ty := tyJ4 0) (C := RJ4) (T := TJ4) (N := 4) hx hb hT huJ4 tyJ4 tyJ4_ok nmJ4 hown hK.1 hP hD hS 0 rfl rfl 0 (by decide) (hT _ tw_4_47) (fun _ h9 => h9) rfl (tyJ4_ok 0 (by decide)) rfl rfl (Nat.le_of_ble_eq_true rfl) dJ5_init_d00df_14 (fun H locs hP hD hS => ?_)
  have hP : va_P D vwCl [(b, .inr (11, [.ref q12, .int 0, .int 0, .int 0])), (q12, .inl (cs 0, 16, .inl (fun _ => 0)))] _ := hP
  have hD : va_D A [(b, .inr (11, [.ref q12, .int 0, .int 0, .int 0])), (q12, .inl (cs 0, 16, .inl (fun _ => 0)))] := hD
  refine lv_aload_n hx hb dJ5_init_d00df_17 rfl (lv_at hl 0 rfl) ?_
  refine lv_iconst (v := (0 : Int32)) hx hb dJ5_init_d00df_18 (by decide) ?_
  refine va_put (ci := 11) (v := .int (0 : Int32)) (ty := tyJ4 1) (C := RJ4) (T := TJ4) (N := 4) hx hb hT huJ4 tyJ4 tyJ4_ok nmJ4 hown hK.1 hP hD hS 0 rfl rfl 1 (by decide) (hT _ tw_4_48) (fun _ h9 => h9) rfl (tyJ4_ok 1 (by decide)) rfl rfl (Nat.le_of_ble_eq_true rfl) dJ5_init_d00df_19 (fun H locs hP hD hS => ?_)
  have hP : va_P D vwCl [(b, .inr (11, [.ref q12, .int (0 : Int32), .int 0, .int 0])), (q12, .inl (cs 0, 16, .inl (fun _ => 0)))] _ := hP
  have hD : va_D A [(b, .inr (11, [.ref q12, .int (0 : Int32), .int 0, .int 0])), (q12, .inl (cs 0, 16, .inl (fun _ => 0)))] := hD
  refine lv_goto (tgt := 38) hx hb dJ5_init_d00df_22 (by decide) ?_
  exact hret _ _ _ _ _ _ _ ⟨rfl, _, rfl⟩ hP hD hS (Nat.le_of_ble_eq_true rfl) (Nat.le_of_ble_eq_true rfl) (fun Qc hq => W.vret hx hb hr hq hS.2.2 dJ5_init_d00df_38 hlocks)

set_option maxHeartbeats 8000000 in
set_option maxRecDepth 100000 in
theorem k_J4_init_da8c8 (l : Launch) {D : va_G} {cs : Nat → ClassId} (b : Nat) : CtG l yJ4_init_da8c8 cJ4_init_da8c8 1 none 2 90 1 16 D cs X0 [.ref b] [(b, .inr (11, [.null, .int 0, .int 0, .int 0]))] (fun rv w1 => rv = none ∧ ∃ q : Nat, w1 = [(b, .inr (11, [.ref q, .int 0, .int 0, .int 0])), (q, .inl (cs 0, 16, .inl (fun _ => 0)))]) := by
  refine CtG.ofW (by decide) (Nat.le_of_ble_eq_true rfl) ?_
  intro p e s m0 below meth c A Q ls args Fl0 hr hlocks hP hD hXs hS hA hl hmn hret
  obtain ⟨hx, hb, hml, hown, hT, hK, hSS⟩ := id Fl0
  have hown : s.vm.findClass RJ4 = some m0.cls := hown
  have hl : lv_has ls 1 [(0, .ref b)] := hl
  refine lv_aload_n hx hb dJ4_init_da8c8_0 rfl (lv_at hl 0 rfl) ?_
  refine lv_bipush (v := (16 : Int32)) hx hb dJ4_init_da8c8_1 (by decide) ?_
  have hP : va_P D vwCl ([(b, .inr (11, [.null, .int 0, .int 0, .int 0]))] ++ []) _ := hP
  have hD : va_D A ([(b, .inr (11, [.null, .int 0, .int 0, .int 0]))] ++ []) := hD
  refine ggI (As := [.int (16 : Int32)]) (rest := []) (wc := [(b, .inr (11, [.null, .int 0, .int 0, .int 0]))]) (wr := []) Fl0 (k_J5_init_d00df l (D := D) (cs := cs) b) X0_fz trivial hP hD hS hA tw_4_37 tw_4_35 tw_4_36 tw_1_13 yd_J5_init_d00df (by decide) ⟨(Nat.le_of_ble_eq_true rfl), (Nat.le_of_ble_eq_true rfl)⟩ ⟨(Nat.le_of_ble_eq_true rfl), (Nat.le_of_ble_eq_true rfl)⟩ rfl hl.1 rfl (Nat.le_of_ble_eq_true rfl) dJ4_init_da8c8_3 (fun H locs rv w1 hw hP hD hS => ?_)
  obtain ⟨rfl, q, rfl⟩ := hw
  have hP : va_P D vwCl [(b, .inr (11, [.ref q, .int 0, .int 0, .int 0])), (q, .inl (cs 0, 16, .inl (fun _ => 0)))] _ := hP
  have hD : va_D A [(b, .inr (11, [.ref q, .int 0, .int 0, .int 0])), (q, .inl (cs 0, 16, .inl (fun _ => 0)))] := hD
  exact hret _ _ _ _ _ _ _ ⟨rfl, _, rfl⟩ hP hD hS (Nat.le_of_ble_eq_true rfl) (Nat.le_of_ble_eq_true rfl) (fun Qc hq => W.vret hx hb hr hq hS.2.2 dJ4_init_da8c8_6 hlocks)

set_option maxHeartbeats 8000000 in
set_option maxRecDepth 100000 in
theorem k_J7_checkLength_df160 (l : Launch) {D : va_G} {cs : Nat → ClassId} (n : Nat) (hn : n < 100000) : CtG l yJ7_checkLength_df160 cJ7_checkLength_df160 2 none 0 0 0 0 D cs X0 [.int (0 : Int32), .int (I n)] [] (fun rv w1 => rv = none ∧ w1 = []) := by
  refine CtG.ofW (by decide) (Nat.le_of_ble_eq_true rfl) ?_
  intro p e s m0 below meth c A Q ls args Fl0 hr hlocks hP hD hXs hS hA hl hmn hret
  obtain ⟨hx, hb, hml, hown, hT, hK, hSS⟩ := id Fl0
  have hown : s.vm.findClass RJ7 = some m0.cls := hown
  have hl : lv_has ls 2 [(0, .int (0 : Int32)), (1, .int (I n))] := hl
  refine lv_iload_n hx hb dJ7_checkLength_df160_0 rfl (lv_at hl 1 rfl) ?_
  refine lv_iload_n hx hb dJ7_checkLength_df160_1 rfl (lv_at hl 0 rfl) ?_
  refine lv_icmp_ge (tgt := 37) hx hb dJ7_checkLength_df160_2 (by decide) (fun _ => ?_) (fun c => absurd c (fun z9 => z9 (leT (a := 0) (Nat.zero_le _) (by omega))))
  exact hret _ _ _ _ _ _ _ ⟨rfl, rfl⟩ hP hD hS (Nat.le_of_ble_eq_true rfl) (Nat.le_of_ble_eq_true rfl) (fun Qc hq => W.vret hx hb hr hq hS.2.2 dJ7_checkLength_df160_37 hlocks)

set_option maxHeartbeats 8000000 in
set_option maxRecDepth 100000 in
theorem k_J7_copyOfRangeByte_39247 (l : Launch) {D : va_G} {cs : Nat → ClassId} (a m n : Nat) (f : Nat → Int32) (hnm : n ≤ m) (hm : m ≤ 2002) (hf : sb_Fit f) : CtG l yJ7_copyOfRangeByte_39247 cJ7_copyOfRangeByte_39247 5 (some (.array .byte)) 1 80 1 2002 D cs X0 [.ref a, .int (0 : Int32), .int (I n)] [(a, .inl (cs 0, m, .inl f))] (fun rv w1 => ∃ q : Nat, rv = some (.ref q) ∧ w1 = [(a, .inl (cs 0, m, .inl f)), (q, .inl (cs 0, n, .inl (va_cpy f (fun _ => 0) 0 0 n)))]) := by
  refine CtG.ofW (by decide) (Nat.le_of_ble_eq_true rfl) ?_
  intro p e s m0 below meth c A Q ls args Fl0 hr hlocks hP hD hXs hS hA hl hmn hret
  obtain ⟨hx, hb, hml, hown, hT, hK, hSS⟩ := id Fl0
  have hown : s.vm.findClass RJ7 = some m0.cls := hown
  have hl : lv_has ls 5 [(0, .ref a), (1, .int (0 : Int32)), (2, .int (I n))] := hl
  refine lv_iload_n hx hb dJ7_copyOfRangeByte_39247_0 rfl (lv_at hl 1 rfl) ?_
  refine lv_iload_n hx hb dJ7_copyOfRangeByte_39247_1 rfl (lv_at hl 2 rfl) ?_
  have hP : va_P D vwCl ([] ++ [(a, .inl (cs 0, m, .inl f))]) _ := hP
  have hD : va_D A ([] ++ [(a, .inl (cs 0, m, .inl f))]) := hD
  refine ggS (As := [.int (0 : Int32), .int (I n)]) (rest := []) (wc := []) (wr := [(a, .inl (cs 0, m, .inl f))]) Fl0 (k_J7_checkLength_df160 l (D := D) (cs := cs) n (by omega)) X0_fz trivial hP hD hS hA tw_4_229 tw_4_227 tw_4_228 tw_1_9 yd_J7_checkLength_df160 ⟨(Nat.le_of_ble_eq_true rfl), (Nat.le_of_ble_eq_true rfl)⟩ ⟨(Nat.le_of_ble_eq_true rfl), (Nat.le_of_ble_eq_true rfl)⟩ rfl hl.1 rfl (Nat.le_of_ble_eq_true rfl) dJ7_copyOfRangeByte_39247_2 (fun H locs rv w1 hw hP hD hS => ?_)
  obtain ⟨rfl, rfl⟩ := hw
  have hP : va_P D vwCl [(a, .inl (cs 0, m, .inl f))] _ := hP
  have hD : va_D A [(a, .inl (cs 0, m, .inl f))] := hD
  refine lv_iload_n hx hb dJ7_copyOfRangeByte_39247_5 rfl (lv_at hl 2 rfl) ?_
  refine lv_iload_n hx hb dJ7_copyOfRangeByte_39247_6 rfl (lv_at hl 1 rfl) ?_
  refine lv_isub hx hb dJ7_copyOfRangeByte_39247_7 ?_
  refine lv_nmi (y := I n) (Int32.sub_zero _).symm ?_
  refine lv_istore_n (lv' := [(3, .int (I n)), (0, .ref a), (1, .int (0 : Int32)), (2, .int (I n))]) hx hb dJ7_copyOfRangeByte_39247_8 rfl hl (by decide) rfl (fun ls hl => ?_)
  refine lv_iload_n hx hb dJ7_copyOfRangeByte_39247_9 rfl (lv_at hl 0 rfl) ?_
  refine rnB hx hb hT tw_1_85 hK hP hD hS hA n (I_nneg (by omega)) (I_tnc (by omega)) (by omega) (Nat.le_of_ble_eq_true rfl) (by show 0 + 0 + n ≤ 2002; omega) dJ7_copyOfRangeByte_39247_10 (fun q10 H hP hD => ?_)
  intro hS
  have hP : va_P D vwCl [(a, .inl (cs 0, m, .inl f)), (q10, .inl (cs 0, n, .inl (fun _ => 0)))] _ := hP
  have hD : va_D A [(a, .inl (cs 0, m, .inl f)), (q10, .inl (cs 0, n, .inl (fun _ => 0)))] := hD
  refine lv_astore (lv' := [(4, .ref q10), (3, .int (I n)), (0, .ref a), (1, .int (0 : Int32)), (2, .int (I n))]) hx hb dJ7_copyOfRangeByte_39247_12 hl (by decide) rfl (fun ls hl => ?_)
  refine lv_aload_n hx hb dJ7_copyOfRangeByte_39247_14 rfl (lv_at hl 2 rfl) ?_
  refine lv_iload_n hx hb dJ7_copyOfRangeByte_39247_15 rfl (lv_at hl 3 rfl) ?_
  refine lv_aload hx hb dJ7_copyOfRangeByte_39247_16 (lv_at hl 0 rfl) ?_
  refine lv_iconst (v := (0 : Int32)) hx hb dJ7_copyOfRangeByte_39247_18 (by decide) ?_
  refine lv_aload_n hx hb dJ7_copyOfRangeByte_39247_19 rfl (lv_at hl 2 rfl) ?_
  refine va_alen (v := I m) hx hb hK.1 hP 0 0 rfl rfl rfl dJ7_copyOfRangeByte_39247_20 ?_
  refine lv_iload_n hx hb dJ7_copyOfRangeByte_39247_21 rfl (lv_at hl 3 rfl) ?_
  refine lv_isub hx hb dJ7_copyOfRangeByte_39247_22 ?_
  refine lv_nmi (y := I m) (Int32.sub_zero _).symm ?_
  refine lv_iload_n hx hb dJ7_copyOfRangeByte_39247_23 rfl (lv_at hl 1 rfl) ?_
  refine va_mmin hx hb (hml.trans hl.1.symm) hown (hT _ tw_4_101) (hT _ tw_3_121) (hT _ tw_1_18) (hT _ tw_3_122) (Nat.le_of_ble_eq_true rfl) (Nat.le_of_ble_eq_true rfl) (Nat.le_of_ble_eq_true rfl) (by show 0 + 0 + n ≤ 2002; omega) dJ7_copyOfRangeByte_39247_24 ?_
  refine lv_nmi (y := I n) (I_min2 (by omega) (by omega) hnm) ?_
  refine va_copyi hx hb (hml.trans hl.1.symm) hown (hT _ tw_4_102) (hT _ tw_2_47) (hT _ tw_2_46) (hT _ tw_1_8) hK.1 hP hD hS 0 1 0 0 rfl rfl rfl rfl rfl (by decide) (by decide) (I_nneg (by omega)) (by rw [I_tnc (by omega)]; show 0 + n ≤ _; omega) (by rw [I_tnc (by omega)]; show 0 + n ≤ _; omega) (fun i9 _ => hf _) (Nat.le_of_ble_eq_true rfl) (Nat.le_of_ble_eq_true rfl) dJ7_copyOfRangeByte_39247_27 (fun H locs hP hD hS => ?_)
  rw [I_tnc (by omega)] at hP hD
  have hP : va_P D vwCl [(a, .inl (cs 0, m, .inl f)), (q10, .inl (cs 0, n, .inl (va_cpy f (fun _ => 0) 0 0 n)))] _ := hP
  have hD : va_D A [(a, .inl (cs 0, m, .inl f)), (q10, .inl (cs 0, n, .inl (va_cpy f (fun _ => 0) 0 0 n)))] := hD
  refine lv_aload hx hb dJ7_copyOfRangeByte_39247_30 (lv_at hl 0 rfl) ?_
  exact hret _ _ _ _ _ _ _ ⟨_, rfl, rfl⟩ hP hD hS (Nat.le_of_ble_eq_true rfl) (by show 0 + 0 + n ≤ 2002; omega) (fun Qc hq => W.aret hx hb hr (Or.inr ⟨_, rfl⟩) (Or.inr ⟨_, rfl⟩) hq hS.2.2 dJ7_copyOfRangeByte_39247_32 hlocks)

set_option maxHeartbeats 8000000 in
set_option maxRecDepth 100000 in
theorem k_J7_copyOfRange_39247 (l : Launch) {D : va_G} {cs : Nat → ClassId} (a m n : Nat) (f : Nat → Int32) (hnm : n ≤ m) (hm : m ≤ 2002) (hf : sb_Fit f) : CtG l yJ7_copyOfRange_39247 cJ7_copyOfRange_39247 3 (some (.array .byte)) 2 110 1 2002 D cs X0 [.ref a, .int (0 : Int32), .int (I n)] [(a, .inl (cs 0, m, .inl f))] (fun rv w1 => ∃ (q : Nat) (f' : Nat → Int32), rv = some (.ref q) ∧ w1 = [(a, .inl (cs 0, m, .inl f)), (q, .inl (cs 0, n, .inl f'))] ∧ ∀ j : Nat, j < n → f' j = f j) := by
  refine CtG.ofW (by decide) (Nat.le_of_ble_eq_true rfl) ?_
  intro p e s m0 below meth c A Q ls args Fl0 hr hlocks hP hD hXs hS hA hl hmn hret
  obtain ⟨hx, hb, hml, hown, hT, hK, hSS⟩ := id Fl0
  have hown : s.vm.findClass RJ7 = some m0.cls := hown
  have hl : lv_has ls 3 [(0, .ref a), (1, .int (0 : Int32)), (2, .int (I n))] := hl
  refine lv_iload_n hx hb dJ7_copyOfRange_39247_0 rfl (lv_at hl 1 rfl) ?_
  refine lv_if_ne (tgt := 10) hx hb dJ7_copyOfRange_39247_1 (by decide) (fun c => absurd c (by decide)) (fun _ => ?_)
  refine lv_iload_n hx hb dJ7_copyOfRange_39247_4 rfl (lv_at hl 2 rfl) ?_
  refine lv_aload_n hx hb dJ7_copyOfRange_39247_5 rfl (lv_at hl 0 rfl) ?_
  refine va_alen (v := I m) hx hb hK.1 hP 0 0 rfl rfl rfl dJ7_copyOfRange_39247_6 ?_
  refine lv_icmp_eq (tgt := 17) hx hb dJ7_copyOfRange_39247_7 (by decide) (fun c9 => ?_) (fun c9 => ?_)
  · have hnm2 : n = m := (I_inj (by omega) (by omega)).mp c9
    subst hnm2
    refine lv_aload_n hx hb dJ7_copyOfRange_39247_17 rfl (lv_at hl 0 rfl) ?_
    refine va_clone hx hb (hml.trans hl.1.symm) hown (hT _ tw_4_94) (hT _ tw_4_95) (hT _ tw_4_96) (hT _ tw_4_97) (hT _ tw_4_98) (hK.2.1 _ lwc_clone rfl) hK.1 hP hD hS hA 0 0 rfl rfl (va_nm_byte (hK.1.2 0 _ rfl).2) (fun i9 v9 h9 => by obtain ⟨j9, rfl⟩ := arr_val h9; exact hf j9) (Nat.le_of_ble_eq_true rfl) (Nat.le_of_ble_eq_true rfl) (Nat.le_of_ble_eq_true rfl) (by show 0 + n ≤ 2002; omega) dJ7_copyOfRange_39247_18 (fun q H hK9 hP hD hS => ?_)
    have hP : va_P D vwCl [(a, .inl (cs 0, n, .inl f)), (q, .inl (cs 0, n, .inl f))] _ := hP
    have hD : va_D A [(a, .inl (cs 0, n, .inl f)), (q, .inl (cs 0, n, .inl f))] := hD
    refine va_castA hx hb hown (hT _ tw_4_100) hP 1 rfl (va_nm_byte (hK.1.2 0 _ rfl).2) dJ7_copyOfRange_39247_21 ?_
    exact hret _ _ _ _ _ _ _ ⟨q, f, rfl, rfl, fun _ _ => rfl⟩ hP hD hS (Nat.le_of_ble_eq_true rfl) (by show 0 + n ≤ 2002; omega) (fun Qc hq => W.aret hx hb hr (Or.inr ⟨_, rfl⟩) (Or.inr ⟨_, rfl⟩) hq hS.2.2 dJ7_copyOfRange_39247_24 hlocks)
  · refine lv_aload_n hx hb dJ7_copyOfRange_39247_10 rfl (lv_at hl 0 rfl) ?_
    refine lv_iload_n hx hb dJ7_copyOfRange_39247_11 rfl (lv_at hl 1 rfl) ?_
    refine lv_iload_n hx hb dJ7_copyOfRange_39247_12 rfl (lv_at hl 2 rfl) ?_
    have hP : va_P D vwCl ([(a, .inl (cs 0, m, .inl f))] ++ []) _ := hP
    have hD : va_D A ([(a, .inl (cs 0, m, .inl f))] ++ []) := hD
    refine ggS (As := [.ref a, .int (0 : Int32), .int (I n)]) (rest := []) (wc := [(a, .inl (cs 0, m, .inl f))]) (wr := []) Fl0 (k_J7_copyOfRangeByte_39247 l (D := D) (cs := cs) a m n f hnm hm hf) X0_fz trivial hP hD hS hA tw_4_226 tw_4_224 tw_4_225 tw_1_9 yd_J7_copyOfRangeByte_39247 ⟨(Nat.le_of_ble_eq_true rfl), (Nat.le_of_ble_eq_true rfl)⟩ ⟨(Nat.le_of_ble_eq_true rfl), (Nat.le_of_ble_eq_true rfl)⟩ rfl hl.1 rfl (Nat.le_of_ble_eq_true rfl) dJ7_copyOfRange_39247_13 (fun H locs rv w1 hw hP hD hS => ?_)
    obtain ⟨q, rfl, rfl⟩ := hw
    have hP : va_P D vwCl [(a, .inl (cs 0, m, .inl f)), (q, .inl (cs 0, n, .inl (va_cpy f (fun _ => 0) 0 0 n)))] _ := hP
    have hD : va_D A [(a, .inl (cs 0, m, .inl f)), (q, .inl (cs 0, n, .inl (va_cpy f (fun _ => 0) 0 0 n)))] := hD
    exact hret _ _ _ _ _ _ _ ⟨q, _, rfl, rfl, fun j hj => sb_cpy0 hj⟩ hP hD hS (Nat.le_of_ble_eq_true rfl) (Nat.le_of_ble_eq_true rfl) (fun Qc hq => W.aret hx hb hr (Or.inr ⟨_, rfl⟩) (Or.inr ⟨_, rfl⟩) hq hS.2.2 dJ7_copyOfRange_39247_16 hlocks)

set_option maxHeartbeats 8000000 in
set_option maxRecDepth 100000 in
theorem k_J0_init_db425 (l : Launch) {D : va_G} {cs : Nat → ClassId} (t : Nat) (b a n m : Nat) (f : Nat → Int32) (hnm : n ≤ m) (hm : m ≤ 2002) (hf : sb_Fit f) : CtG l yJ0_init_db425 cJ0_init_db425 5 none 3 150 1 2002 D cs X0 [.ref t, .ref b, .null] [(t, .inr (10, [.null, .int 0, .int 0, .int 0])), (b, .inr (11, [.ref a, .int 0, .int 0, .int (I n)])), (a, .inl (cs 0, m, .inl f))] (fun rv w1 => rv = none ∧ ∃ (q : Nat) (f' : Nat → Int32), w1 = [(t, .inr (10, [.ref q, .int 0, .int 0, .int 0])), (q, .inl (cs 0, n, .inl f')), (b, .inr (11, [.ref a, .int 0, .int 0, .int (I n)])), (a, .inl (cs 0, m, .inl f))] ∧ ∀ j : Nat, j < n → f' j = f j) := by
  refine CtG.ofW (by decide) (Nat.le_of_ble_eq_true rfl) ?_
  intro p e s m0 below meth c A Q ls args Fl0 hr hlocks hP hD hXs hS hA hl hmn hret
  obtain ⟨hx, hb, hml, hown, hT, hK, hSS⟩ := id Fl0
  have hown : s.vm.findClass RJ0 = some m0.cls := hown
  have hl : lv_has ls 5 [(0, .ref t), (1, .ref b), (2, .null)] := hl
  refine lv_aload_n hx hb dJ0_init_db425_0 rfl (lv_at hl 0 rfl) ?_
  refine W.objInit hx hb hown (hT _ tw_4_206) (hT _ tw_1_35) (hT _ tw_1_36) rfl (by rw [hml]; exact hl.1) rfl dJ0_init_db425_1 (Nat.le_of_ble_eq_true rfl) (Nat.le_of_ble_eq_true rfl) ?_
  refine W.eq (g2 := F0 m0 4 ls []) rfl ?_
  refine lv_aload_n hx hb dJ0_init_db425_4 rfl (lv_at hl 1 rfl) ?_
  have hP := hP.sub [1, 2, 0] (ws' := [(b, .inr (11, [.ref a, .int 0, .int 0, .int (I n)])), (a, .inl (cs 0, m, .inl f))] ++ [(t, .inr (10, [.null, .int 0, .int 0, .int 0]))]) rfl
  have hD := hD.sub [1, 2, 0] (ws' := [(b, .inr (11, [.ref a, .int 0, .int 0, .int (I n)])), (a, .inl (cs 0, m, .inl f))] ++ [(t, .inr (10, [.null, .int 0, .int 0, .int 0]))]) (by decide) rfl
  refine ggU (C := RJ4) (As := []) (rest := []) (wc := [(b, .inr (11, [.ref a, .int 0, .int 0, .int (I n)])), (a, .inl (cs 0, m, .inl f))]) (wr := [(t, .inr (10, [.null, .int 0, .int 0, .int 0]))]) Fl0 (k_J5_getValue_6d5f1 l b a n m f) X0_fz trivial hP hD hS hA (va_recv hK.1 hP rfl (q0 := 0) rfl) tw_4_211 tw_4_207 tw_4_209 tw_4_208 (hT _ tw_4_210) tw_1_13 yd_J5_getValue_6d5f1 ⟨(Nat.le_of_ble_eq_true rfl), (Nat.le_of_ble_eq_true rfl)⟩ ⟨(Nat.le_of_ble_eq_true rfl), (Nat.le_of_ble_eq_true rfl)⟩ rfl hl.1 rfl (Nat.le_of_ble_eq_true rfl) dJ0_init_db425_5 (fun H locs rv w1 hw hP hD hS => ?_)
  obtain ⟨rfl, rfl⟩ := hw
  have hP := hP.sub [2, 0, 1] (ws' := [(t, .inr (10, [.null, .int 0, .int 0, .int 0])), (b, .inr (11, [.ref a, .int 0, .int 0, .int (I n)])), (a, .inl (cs 0, m, .inl f))]) rfl
  have hD := hD.sub [2, 0, 1] (ws' := [(t, .inr (10, [.null, .int 0, .int 0, .int 0])), (b, .inr (11, [.ref a, .int 0, .int 0, .int (I n)])), (a, .inl (cs 0, m, .inl f))]) (by decide) rfl
  refine lv_astore_n (lv' := [(3, .ref a), (0, .ref t), (1, .ref b), (2, .null)]) hx hb dJ0_init_db425_8 rfl hl (by decide) rfl (fun ls hl => ?_)
  refine lv_aload_n hx hb dJ0_init_db425_9 rfl (lv_at hl 2 rfl) ?_
  have hP := hP.sub [1, 2, 0] (ws' := [(b, .inr (11, [.ref a, .int 0, .int 0, .int (I n)])), (a, .inl (cs 0, m, .inl f))] ++ [(t, .inr (10, [.null, .int 0, .int 0, .int 0]))]) rfl
  have hD := hD.sub [1, 2, 0] (ws' := [(b, .inr (11, [.ref a, .int 0, .int 0, .int (I n)])), (a, .inl (cs 0, m, .inl f))] ++ [(t, .inr (10, [.null, .int 0, .int 0, .int 0]))]) (by decide) rfl
  refine ggO (C := RJ4) (As := []) (rest := []) (wc := [(b, .inr (11, [.ref a, .int 0, .int 0, .int (I n)])), (a, .inl (cs 0, m, .inl f))]) (wr := [(t, .inr (10, [.null, .int 0, .int 0, .int 0]))]) Fl0 (k_J4_length_8abf5 l b a n m f) X0_fz trivial hP hD hS hA (va_recv hK.1 hP rfl (q0 := 0) rfl) tw_4_217 tw_4_212 tw_4_214 tw_4_213 tw_4_219 (hT _ tw_4_215) tw_4_216 tw_1_14 yd_J5_length_8abf5 ⟨(Nat.le_of_ble_eq_true rfl), (Nat.le_of_ble_eq_true rfl)⟩ ⟨(Nat.le_of_ble_eq_true rfl), (Nat.le_of_ble_eq_true rfl)⟩ rfl hl.1 rfl (Nat.le_of_ble_eq_true rfl) dJ0_init_db425_10 (fun H locs rv w1 hw hP hD hS => ?_)
  obtain ⟨rfl, rfl⟩ := hw
  have hP := hP.sub [2, 0, 1] (ws' := [(t, .inr (10, [.null, .int 0, .int 0, .int 0])), (b, .inr (11, [.ref a, .int 0, .int 0, .int (I n)])), (a, .inl (cs 0, m, .inl f))]) rfl
  have hD := hD.sub [2, 0, 1] (ws' := [(t, .inr (10, [.null, .int 0, .int 0, .int 0])), (b, .inr (11, [.ref a, .int 0, .int 0, .int (I n)])), (a, .inl (cs 0, m, .inl f))]) (by decide) rfl
  refine lv_istore (lv' := [(4, .int (I n)), (3, .ref a), (0, .ref t), (1, .ref b), (2, .null)]) hx hb dJ0_init_db425_13 hl (by decide) rfl (fun ls hl => ?_)
  refine lv_aload_n hx hb dJ0_init_db425_15 rfl (lv_at hl 3 rfl) ?_
  have hP := hP.sub [1, 2, 0] (ws' := [(b, .inr (11, [.ref a, .int 0, .int 0, .int (I n)])), (a, .inl (cs 0, m, .inl f))] ++ [(t, .inr (10, [.null, .int 0, .int 0, .int 0]))]) rfl
  have hD := hD.sub [1, 2, 0] (ws' := [(b, .inr (11, [.ref a, .int 0, .int 0, .int (I n)])), (a, .inl (cs 0, m, .inl f))] ++ [(t, .inr (10, [.null, .int 0, .int 0, .int 0]))]) (by decide) rfl
  refine ggU (C := RJ4) (As := []) (rest := []) (wc := [(b, .inr (11, [.ref a, .int 0, .int 0, .int (I n)])), (a, .inl (cs 0, m, .inl f))]) (wr := [(t, .inr (10, [.null, .int 0, .int 0, .int 0]))]) Fl0 (k_J5_isLatin1_aae02 l b a n m f) X0_fz trivial hP hD hS hA (va_recv hK.1 hP rfl (q0 := 0) rfl) tw_4_107 tw_4_220 tw_4_105 tw_4_104 (hT _ tw_4_106) tw_1_13 yd_J5_isLatin1_aae02 ⟨(Nat.le_of_ble_eq_true rfl), (Nat.le_of_ble_eq_true rfl)⟩ ⟨(Nat.le_of_ble_eq_true rfl), (Nat.le_of_ble_eq_true rfl)⟩ rfl hl.1 rfl (Nat.le_of_ble_eq_true rfl) dJ0_init_db425_16 (fun H locs rv w1 hw hP hD hS => ?_)
  obtain ⟨rfl, rfl⟩ := hw
  have hP := hP.sub [2, 0, 1] (ws' := [(t, .inr (10, [.null, .int 0, .int 0, .int 0])), (b, .inr (11, [.ref a, .int 0, .int 0, .int (I n)])), (a, .inl (cs 0, m, .inl f))]) rfl
  have hD := hD.sub [2, 0, 1] (ws' := [(t, .inr (10, [.null, .int 0, .int 0, .int 0])), (b, .inr (11, [.ref a, .int 0, .int 0, .int (I n)])), (a, .inl (cs 0, m, .inl f))]) (by decide) rfl
  refine lv_if_eq (tgt := 41) hx hb dJ0_init_db425_19 (by decide) (fun c => absurd c (by decide)) (fun _ => ?_)
  refine lv_aload_n hx hb dJ0_init_db425_22 rfl (lv_at hl 2 rfl) ?_
  refine lv_iconst (v := (0 : Int32)) hx hb dJ0_init_db425_23 (by decide) ?_
  refine va_putF (ci := 10) (v := .int (0 : Int32)) (ty := tyJ0 1) (C := RJ0) (T := TJ0) (N := 4) hx hb hT huJ0 tyJ0 tyJ0_ok nmJ0 hown hK.1 hP hD hS 0 rfl rfl 1 (by decide) (hT _ tw_5_1) (fun _ h9 => h9) rfl hmn rfl (tyJ0_ok 1 (by decide)) rfl rfl (Nat.le_of_ble_eq_true rfl) dJ0_init_db425_24 (fun H locs hP hD hS => ?_)
  have hP : va_P D vwCl [(t, .inr (10, [.null, .int (0 : Int32), .int 0, .int 0])), (b, .inr (11, [.ref a, .int 0, .int 0, .int (I n)])), (a, .inl (cs 0, m, .inl f))] _ := hP
  have hD : va_D A [(t, .inr (10, [.null, .int (0 : Int32), .int 0, .int 0])), (b, .inr (11, [.ref a, .int 0, .int 0, .int (I n)])), (a, .inl (cs 0, m, .inl f))] := hD
  refine lv_aload_n hx hb dJ0_init_db425_27 rfl (lv_at hl 2 rfl) ?_
  refine lv_aload_n hx hb dJ0_init_db425_28 rfl (lv_at hl 1 rfl) ?_
  refine lv_iconst (v := (0 : Int32)) hx hb dJ0_init_db425_29 (by decide) ?_
  refine lv_iload hx hb dJ0_init_db425_30 (lv_at hl 0 rfl) ?_
  have hP := hP.sub [2, 0, 1] (ws' := [(a, .inl (cs 0, m, .inl f))] ++ [(t, .inr (10, [.null, .int (0 : Int32), .int 0, .int 0])), (b, .inr (11, [.ref a, .int 0, .int 0, .int (I n)]))]) rfl
  have hD := hD.sub [2, 0, 1] (ws' := [(a, .inl (cs 0, m, .inl f))] ++ [(t, .inr (10, [.null, .int (0 : Int32), .int 0, .int 0])), (b, .inr (11, [.ref a, .int 0, .int 0, .int (I n)]))]) (by decide) rfl
  refine ggS (As := [.ref a, .int (0 : Int32), .int (I n)]) (rest := [.ref t]) (wc := [(a, .inl (cs 0, m, .inl f))]) (wr := [(t, .inr (10, [.null, .int (0 : Int32), .int 0, .int 0])), (b, .inr (11, [.ref a, .int 0, .int 0, .int (I n)]))]) Fl0 (k_J7_copyOfRange_39247 l (D := D) (cs := cs) a m n f hnm hm hf) X0_fz trivial hP hD hS hA tw_4_223 tw_4_221 tw_4_222 tw_1_9 yd_J7_copyOfRange_39247 ⟨(Nat.le_of_ble_eq_true rfl), (Nat.le_of_ble_eq_true rfl)⟩ ⟨(Nat.le_of_ble_eq_true rfl), (Nat.le_of_ble_eq_true rfl)⟩ rfl hl.1 rfl (Nat.le_of_ble_eq_true rfl) dJ0_init_db425_32 (fun H locs rv w1 hw hP hD hS => ?_)
  obtain ⟨q, f', rfl, rfl, h9⟩ := hw
  have hP : va_P D vwCl [(a, .inl (cs 0, m, .inl f)), (q, .inl (cs 0, n, .inl f')), (t, .inr (10, [.null, .int 0, .int 0, .int 0])), (b, .inr (11, [.ref a, .int 0, .int 0, .int (I n)]))] _ := hP
  have hD : va_D A [(a, .inl (cs 0, m, .inl f)), (q, .inl (cs 0, n, .inl f')), (t, .inr (10, [.null, .int 0, .int 0, .int 0])), (b, .inr (11, [.ref a, .int 0, .int 0, .int (I n)]))] := hD
  refine va_putF (ci := 10) (v := .ref q) (ty := tyJ0 0) (C := RJ0) (T := TJ0) (N := 4) hx hb hT huJ0 tyJ0 tyJ0_ok nmJ0 hown hK.1 hP hD hS 2 rfl rfl 0 (by decide) (hT _ tw_5_0) (fun _ h9 => h9) rfl hmn rfl (tyJ0_ok 0 (by decide)) rfl rfl (Nat.le_of_ble_eq_true rfl) dJ0_init_db425_35 (fun H locs hP hD hS => ?_)
  have hP : va_P D vwCl [(a, .inl (cs 0, m, .inl f)), (q, .inl (cs 0, n, .inl f')), (t, .inr (10, [.ref q, .int 0, .int 0, .int 0])), (b, .inr (11, [.ref a, .int 0, .int 0, .int (I n)]))] _ := hP
  have hD : va_D A [(a, .inl (cs 0, m, .inl f)), (q, .inl (cs 0, n, .inl f')), (t, .inr (10, [.ref q, .int 0, .int 0, .int 0])), (b, .inr (11, [.ref a, .int 0, .int 0, .int (I n)]))] := hD
  have hP := hP.sub [2, 1, 3, 0] (ws' := [(t, .inr (10, [.ref q, .int 0, .int 0, .int 0])), (q, .inl (cs 0, n, .inl f')), (b, .inr (11, [.ref a, .int 0, .int 0, .int (I n)])), (a, .inl (cs 0, m, .inl f))]) rfl
  have hD := hD.sub [2, 1, 3, 0] (ws' := [(t, .inr (10, [.ref q, .int 0, .int 0, .int 0])), (q, .inl (cs 0, n, .inl f')), (b, .inr (11, [.ref a, .int 0, .int 0, .int (I n)])), (a, .inl (cs 0, m, .inl f))]) (by decide) rfl
  refine lv_goto (tgt := 97) hx hb dJ0_init_db425_38 (by decide) ?_
  exact hret _ _ _ _ _ _ _ ⟨rfl, q, f', rfl, h9⟩ hP hD hS (Nat.le_of_ble_eq_true rfl) (Nat.le_of_ble_eq_true rfl) (fun Qc hq => W.vret hx hb hr hq hS.2.2 dJ0_init_db425_97 hlocks)

set_option maxHeartbeats 8000000 in
set_option maxRecDepth 100000 in
theorem k_J0_init_81219 (l : Launch) {D : va_G} {cs : Nat → ClassId} (t : Nat) (b a n m : Nat) (f : Nat → Int32) (hnm : n ≤ m) (hm : m ≤ 2002) (hf : sb_Fit f) : CtG l yJ0_init_81219 cJ0_init_81219 2 none 4 180 1 2002 D cs X0 [.ref t, .ref b] [(t, .inr (10, [.null, .int 0, .int 0, .int 0])), (b, .inr (11, [.ref a, .int 0, .int 0, .int (I n)])), (a, .inl (cs 0, m, .inl f))] (fun rv w1 => rv = none ∧ ∃ (q : Nat) (f' : Nat → Int32), w1 = [(t, .inr (10, [.ref q, .int 0, .int 0, .int 0])), (q, .inl (cs 0, n, .inl f')), (b, .inr (11, [.ref a, .int 0, .int 0, .int (I n)])), (a, .inl (cs 0, m, .inl f))] ∧ ∀ j : Nat, j < n → f' j = f j) := by
  refine CtG.ofW (by decide) (Nat.le_of_ble_eq_true rfl) ?_
  intro p e s m0 below meth c A Q ls args Fl0 hr hlocks hP hD hXs hS hA hl hmn hret
  obtain ⟨hx, hb, hml, hown, hT, hK, hSS⟩ := id Fl0
  have hown : s.vm.findClass RJ0 = some m0.cls := hown
  have hl : lv_has ls 2 [(0, .ref t), (1, .ref b)] := hl
  refine lv_aload_n hx hb dJ0_init_81219_0 rfl (lv_at hl 0 rfl) ?_
  refine lv_aload_n hx hb dJ0_init_81219_1 rfl (lv_at hl 1 rfl) ?_
  refine lv_null hx hb dJ0_init_81219_2 ?_
  have hP : va_P D vwCl ([(t, .inr (10, [.null, .int 0, .int 0, .int 0])), (b, .inr (11, [.ref a, .int 0, .int 0, .int (I n)])), (a, .inl (cs 0, m, .inl f))] ++ []) _ := hP
  have hD : va_D A ([(t, .inr (10, [.null, .int 0, .int 0, .int 0])), (b, .inr (11, [.ref a, .int 0, .int 0, .int (I n)])), (a, .inl (cs 0, m, .inl f))] ++ []) := hD
  refine ggI (As := [.ref b, .null]) (rest := []) (wc := [(t, .inr (10, [.null, .int 0, .int 0, .int 0])), (b, .inr (11, [.ref a, .int 0, .int 0, .int (I n)])), (a, .inl (cs 0, m, .inl f))]) (wr := []) Fl0 (k_J0_init_db425 l t b a n m f hnm hm hf) X0_fz trivial hP hD hS hA tw_4_205 tw_4_203 tw_4_204 tw_1_15 yd_J0_init_db425 (by decide) ⟨(Nat.le_of_ble_eq_true rfl), (Nat.le_of_ble_eq_true rfl)⟩ ⟨(Nat.le_of_ble_eq_true rfl), (Nat.le_of_ble_eq_true rfl)⟩ rfl hl.1 rfl (Nat.le_of_ble_eq_true rfl) dJ0_init_81219_3 (fun H locs rv w1 hw hP hD hS => ?_)
  obtain ⟨rfl, q, f', rfl, h9⟩ := hw
  have hP : va_P D vwCl [(t, .inr (10, [.ref q, .int 0, .int 0, .int 0])), (q, .inl (cs 0, n, .inl f')), (b, .inr (11, [.ref a, .int 0, .int 0, .int (I n)])), (a, .inl (cs 0, m, .inl f))] _ := hP
  have hD : va_D A [(t, .inr (10, [.ref q, .int 0, .int 0, .int 0])), (q, .inl (cs 0, n, .inl f')), (b, .inr (11, [.ref a, .int 0, .int 0, .int (I n)])), (a, .inl (cs 0, m, .inl f))] := hD
  exact hret _ _ _ _ _ _ _ ⟨rfl, q, f', rfl, h9⟩ hP hD hS (Nat.le_of_ble_eq_true rfl) (Nat.le_of_ble_eq_true rfl) (fun Qc hq => W.vret hx hb hr hq hS.2.2 dJ0_init_81219_6 hlocks)

set_option maxHeartbeats 8000000 in
set_option maxRecDepth 100000 in
theorem k_J4_toString_0e30d (l : Launch) {D : va_G} {cs : Nat → ClassId} (b a n m : Nat) (f : Nat → Int32) (hnm : n ≤ m) (hm : m ≤ 2002) (hf : sb_Fit f) : CtG l yJ4_toString_0e30d cJ4_toString_0e30d 1 (some (.object "java/lang/String")) 5 210 2 2006 D cs X0 [.ref b] [(b, .inr (11, [.ref a, .int 0, .int 0, .int (I n)])), (a, .inl (cs 0, m, .inl f))] (fun rv w1 => ∃ (t q : Nat) (f' : Nat → Int32), rv = some (.ref t) ∧ w1 = [(t, .inr (10, [.ref q, .int 0, .int 0, .int 0])), (q, .inl (cs 0, n, .inl f')), (b, .inr (11, [.ref a, .int 0, .int 0, .int (I n)])), (a, .inl (cs 0, m, .inl f))] ∧ ∀ j : Nat, j < n → f' j = f j) := by
  refine CtG.ofW (by decide) (Nat.le_of_ble_eq_true rfl) ?_
  intro p e s m0 below meth c A Q ls args Fl0 hr hlocks hP hD hXs hS hA hl hmn hret
  obtain ⟨hx, hb, hml, hown, hT, hK, hSS⟩ := id Fl0
  have hown : s.vm.findClass RJ4 = some m0.cls := hown
  have hl : lv_has ls 1 [(0, .ref b)] := hl
  refine va_new (ci := 10) (fs := [.null, .int 0, .int 0, .int 0]) (C := RJ0) (T := TJ0) (N := 4) hx hb hT huJ0 tyJ0 tyJ0_ok hown (hT _ tw_4_198) (hT _ tw_4_199) (hT _ tw_1_15) hK.1 hP hD hS hA rfl dfJ0 (Nat.le_of_ble_eq_true rfl) (Nat.le_of_ble_eq_true rfl) dJ4_toString_0e30d_0 (fun t H hP hD hS => ?_)
  have hP : va_P D vwCl [(b, .inr (11, [.ref a, .int 0, .int 0, .int (I n)])), (a, .inl (cs 0, m, .inl f)), (t, .inr (10, [.null, .int 0, .int 0, .int 0]))] _ := hP
  have hD : va_D A [(b, .inr (11, [.ref a, .int 0, .int 0, .int (I n)])), (a, .inl (cs 0, m, .inl f)), (t, .inr (10, [.null, .int 0, .int 0, .int 0]))] := hD
  refine lv_dup hx hb dJ4_toString_0e30d_3 rfl ?_
  refine lv_aload_n hx hb dJ4_toString_0e30d_4 rfl (lv_at hl 0 rfl) ?_
  have hP := hP.sub [2, 0, 1] (ws' := [(t, .inr (10, [.null, .int 0, .int 0, .int 0])), (b, .inr (11, [.ref a, .int 0, .int 0, .int (I n)])), (a, .inl (cs 0, m, .inl f))] ++ []) rfl
  have hD := hD.sub [2, 0, 1] (ws' := [(t, .inr (10, [.null, .int 0, .int 0, .int 0])), (b, .inr (11, [.ref a, .int 0, .int 0, .int (I n)])), (a, .inl (cs 0, m, .inl f))] ++ []) (by decide) rfl
  refine ggI (As := [.ref b]) (rest := [.ref t]) (wc := [(t, .inr (10, [.null, .int 0, .int 0, .int 0])), (b, .inr (11, [.ref a, .int 0, .int 0, .int (I n)])), (a, .inl (cs 0, m, .inl f))]) (wr := []) Fl0 (k_J0_init_81219 l t b a n m f hnm hm hf) X0_fz trivial hP hD hS hA tw_4_202 tw_4_200 tw_4_201 tw_1_15 yd_J0_init_81219 (by decide) ⟨(Nat.le_of_ble_eq_true rfl), (Nat.le_of_ble_eq_true rfl)⟩ ⟨(Nat.le_of_ble_eq_true rfl), (Nat.le_of_ble_eq_true rfl)⟩ rfl hl.1 rfl (Nat.le_of_ble_eq_true rfl) dJ4_toString_0e30d_5 (fun H locs rv w1 hw hP hD hS => ?_)
  obtain ⟨rfl, q, f', rfl, h9⟩ := hw
  have hP : va_P D vwCl [(t, .inr (10, [.ref q, .int 0, .int 0, .int 0])), (q, .inl (cs 0, n, .inl f')), (b, .inr (11, [.ref a, .int 0, .int 0, .int (I n)])), (a, .inl (cs 0, m, .inl f))] _ := hP
  have hD : va_D A [(t, .inr (10, [.ref q, .int 0, .int 0, .int 0])), (q, .inl (cs 0, n, .inl f')), (b, .inr (11, [.ref a, .int 0, .int 0, .int (I n)])), (a, .inl (cs 0, m, .inl f))] := hD
  exact hret _ _ _ _ _ _ _ ⟨t, q, f', rfl, rfl, h9⟩ hP hD hS (Nat.le_of_ble_eq_true rfl) (Nat.le_of_ble_eq_true rfl) (fun Qc hq => W.aret hx hb hr (Or.inl ⟨_, rfl⟩) (Or.inr ⟨_, rfl⟩) hq hS.2.2 dJ4_toString_0e30d_8 hlocks)
