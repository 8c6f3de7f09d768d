/-! the law's body: from the entry to the end -/
theorem Ln.of {n : Nat} {ad : Nat → Nat} {sh : Sh} {Wf : MM → va_W} (pre post : va_W) (h : ∀ z : MM, Wf z = pre ++ (blk n ad sh z ++ post)) : Ln n ad sh Wf := by
  have e : Wf = fun z => pre ++ (blk n ad sh z ++ post) := funext h
  rw [e]
  exact blk_ln pre post
def N0 : Nat → Nat := fun t => if t = 0 then 2 else if t = 1 then 1 else 0
theorem upN (k : Nat) : upk 9 (upk (9 * k) N0) = upk (9 * (k + 1)) N0 := by
  rw [upk_upk]
  congr 1
theorem upN_lo (k : Nat) : (upk (9 * k) N0) 0 = 2 ∧ (upk (9 * k) N0) 1 = 1 ∧ (∀ t : Nat, t < 6 → (upk (9 * k) N0) t < 1000) ∧ (upk (9 * k) N0) 6 = 21600 * k := by
  refine ⟨upk_lo (by omega), upk_lo (by omega), fun t ht => ?_, ?_⟩
  · rw [upk_lo ht]
    unfold N0
    split
    · omega
    · split <;> omega
  · rw [upk_6]
    show 0 + 2400 * (9 * k) = 21600 * k
    omega
theorem up0 : upk (9 * 0) N0 = N0 := funext fun t => by
  unfold upk
  split
  · rename_i h
    subst h
    rfl
  · rfl
/-- the time does not go back -/
theorem now_up {S : Nat} {N : Nat → Nat} {m : MM} {w w' : Nat → Int32} (h : Sta S N m w) (hN : N 6 < 1000000) (hx : ∃ δ : Int32, Rn 599500 δ ∧ w' 23 = w 23 + δ) : ¬ w' 23 < w 23 := by
  obtain ⟨U, ⟨u1, u2⟩, -⟩ := h.2.1.2.2.2.2.2.2
  obtain ⟨δ, ⟨d, d1, d2⟩, e⟩ := hx
  rw [e, u1, d2, I_add]
  intro z
  have := (I_lt (by omega) (by omega)).mp z
  omega
set_option maxHeartbeats 8000000 in
set_option maxRecDepth 100000 in
/-- YOUR PART: from the entry, for every script of at most 260 ints, the law comes to its end with true -/
theorem whole_start {p : Program} {e : Env} {s : State} {m : MethodId} {below : List Frame} {meth : Method} {c : Code} (l : Launch) (hflags : l.flags = flags0) {b L : Nat} {xs : Nat → Int32} (hL : L ≤ 260) (C0 : lw_At p s m meth c b L xs) : W p l e room_1 s m #[Value.ref b] below meth c s.heap [] 0 0 (lw_Z below #[Value.ref b] s) (entryFrame m ([Value.ref b] : List Value).toArray 4) := by
  obtain ⟨hx, hb, hr, hml, hown, hts, hX0, hbl, hlocks, hgv⟩ := C0
  have hn : ∀ w ∈ NR, w.before #[Value.ref b] s = true := flat_of_before _ hgv
  have hT : ∀ w ∈ TBL, w.before #[Value.ref b] s = true := tbl_ok hts
  obtain ⟨A, hAe⟩ : ∃ A : Nat → Prop, A = fun q => s.heap.size ≤ q := ⟨_, rfl⟩
  have hA : ∀ q : Nat, s.heap.size ≤ q → A q := fun q h => by rw [hAe]; exact h
  have hA0 : ∀ a : Nat, a < s.heap.size → ¬ A a := fun a h z => by rw [hAe] at z; omega
  have hbA : ¬ A b := hA0 b hbl
  obtain ⟨D, cs, hK, hSS, hKI, eB, eL⟩ := kn_all hn hts hA0 hX0 hbA
  have hLD : sL D ≤ 260 := by rw [eL]; exact hL
  subst eB
  have Fl0 : Fl p m c cL_law 4 s #[.ref (sB D)] RL D cs A := ⟨hx, hb, hml, hown, hT, hK, hSS⟩
  have hown : s.vm.findClass RL = some m.cls := hown
  have hS : va_S A s.heap s.heap [] := va_S.rf
  have hP : va_P D vwCl [] s.heap := va_P_nil
  have hD : va_D A [] := ⟨fun i j p q h => (by cases h), fun k q h => (by cases h)⟩
  rw [lg_entry_eq]
  have hl : lv_has _ 4 [(0, .ref (sB D))] := lv_entry [.ref (sB D)] (n := 4) (Nat.le_of_ble_eq_true rfl)
  generalize (lg_sl ([.ref (sB D)]) ++ List.replicate (4 - (lg_sl ([.ref (sB D)])).length) Slot.unset).toArray = ls at hl ⊢
  obtain ⟨mI, hI, hC⟩ := clear_s zM
  refine va_new (ci := 9) (fs := [.null, .int 0, .int 0, .null, .null, .null, .null, .null, .null, .null]) (C := RX9) (T := TX9) (N := 10) hx hb hT hu9 tyX9 tyX9_ok hown (hT _ tw_1_29) (hT _ tw_1_30) (hT _ tw_1_1) hK.1 hP hD hS hA rfl dfX9 (Nat.le_of_ble_eq_true rfl) (Nat.le_of_ble_eq_true rfl) dL_law_0 (fun q0 H hP hD hS => ?_)
  refine lv_dup hx hb dL_law_3 rfl ?_
  have hP : va_P D vwCl ([(q0, .inr (9, [.null, .int 0, .int 0, .null, .null, .null, .null, .null, .null, .null]))] ++ []) H := hP
  have hD : va_D A ([(q0, .inr (9, [.null, .int 0, .int 0, .null, .null, .null, .null, .null, .null, .null]))] ++ []) := hD
  refine rcI0 (X := [(q0, .inr (9, [.null, .int 0, .int 0, .null, .null, .null, .null, .null, .null, .null]))]) (pl := []) (wc := [(q0, .inr (9, [.null, .int 0, .int 0, .null, .null, .null, .null, .null, .null, .null]))]) (wr := []) (As := []) (rest := [.ref q0]) Fl0 hKI (c_X9_init l hI q0) hP hD hS hA [0] [] rfl rfl rfl rfl (by decide) tw_1_33 tw_1_31 tw_1_32 tw_1_1 yd_X9_init rfl ⟨(Nat.le_of_ble_eq_true rfl), (Nat.le_of_ble_eq_true rfl)⟩ ⟨(Nat.le_of_ble_eq_true rfl), (Nat.le_of_ble_eq_true rfl)⟩ rfl hl.1 rfl (Nat.le_of_ble_eq_true rfl) dL_law_4 (fun H locs w1 hw hPn hDn hSn => ?_)
  obtain ⟨adh, ad, adf, ad0, ad1, ma, e0, hm1, hm2, hm3, hm4, rfl⟩ := hw
  rw [List.nil_append, List.append_nil] at hPn hDn
  refine lv_nmr e0.symm ?_
  refine lv_astore_n (lv' := [(1, .ref (adh 0)), (0, .ref (sB D))]) hx hb dL_law_7 rfl hl (by decide) rfl (fun ls hl => ?_)
  obtain ⟨Wf, hWf⟩ : ∃ Wf : MM → MM → MM → MM → MM → va_W, Wf = fun h m f c0 c1 => (blk 8 adh (hsh cs adh ma) h ++ (blk 51 ad1 (msh cs ad1) c1 ++ (blk 51 ad0 (msh cs ad0) c0 ++ (blk 51 adf (msh cs adf) f ++ (blk 51 ad (msh cs ad) m ++ []))))) := ⟨_, rfl⟩
  have hLh : ∀ m f c0 c1 : MM, Ln 8 adh (hsh cs adh ma) (fun z => Wf z m f c0 c1) := fun m f c0 c1 => Ln.of [] (blk 51 ad1 (msh cs ad1) c1 ++ (blk 51 ad0 (msh cs ad0) c0 ++ (blk 51 adf (msh cs adf) f ++ (blk 51 ad (msh cs ad) m)))) (fun z => by subst hWf; simp only [List.append_assoc, List.nil_append, List.append_nil])
  have hLm : ∀ h f c0 c1 : MM, Ln 51 ad (msh cs ad) (fun z => Wf h z f c0 c1) := fun h f c0 c1 => Ln.of (blk 8 adh (hsh cs adh ma) h ++ (blk 51 ad1 (msh cs ad1) c1 ++ (blk 51 ad0 (msh cs ad0) c0 ++ (blk 51 adf (msh cs adf) f)))) [] (fun z => by subst hWf; simp only [List.append_assoc, List.nil_append, List.append_nil])
  have hLf : ∀ h m c0 c1 : MM, Ln 51 adf (msh cs adf) (fun z => Wf h m z c0 c1) := fun h m c0 c1 => Ln.of (blk 8 adh (hsh cs adh ma) h ++ (blk 51 ad1 (msh cs ad1) c1 ++ (blk 51 ad0 (msh cs ad0) c0))) (blk 51 ad (msh cs ad) m) (fun z => by subst hWf; simp only [List.append_assoc, List.nil_append, List.append_nil])
  have hL0 : ∀ h m f c1 : MM, Ln 51 ad0 (msh cs ad0) (fun z => Wf h m f z c1) := fun h m f c1 => Ln.of (blk 8 adh (hsh cs adh ma) h ++ (blk 51 ad1 (msh cs ad1) c1)) (blk 51 adf (msh cs adf) f ++ (blk 51 ad (msh cs ad) m)) (fun z => by subst hWf; simp only [List.append_assoc, List.nil_append, List.append_nil])
  have hL1 : ∀ h m f c0 : MM, Ln 51 ad1 (msh cs ad1) (fun z => Wf h m f c0 z) := fun h m f c0 => Ln.of (blk 8 adh (hsh cs adh ma) h) (blk 51 ad0 (msh cs ad0) c0 ++ (blk 51 adf (msh cs adf) f ++ (blk 51 ad (msh cs ad) m))) (fun z => by subst hWf; simp only [List.append_assoc, List.nil_append, List.append_nil])
  have hAd : ∀ a0_ b0_ a1_ b1_ a2_ b2_ a3_ b3_ a4_ b4_ : MM, (Wf a0_ a1_ a2_ a3_ a4_).map (fun q => q.1) = (Wf b0_ b1_ b2_ b3_ b4_).map (fun q => q.1) := fun a0_ b0_ a1_ b1_ a2_ b2_ a3_ b3_ a4_ b4_ => by
    subst hWf
    simp only [List.map_append]
    rw [blk_map (n := 8) (ad := adh) (sh := (hsh cs adh ma)) (m := a0_) (m' := b0_), blk_map (n := 51) (ad := ad1) (sh := (msh cs ad1)) (m := a4_) (m' := b4_), blk_map (n := 51) (ad := ad0) (sh := (msh cs ad0)) (m := a3_) (m' := b3_), blk_map (n := 51) (ad := adf) (sh := (msh cs adf)) (m := a2_) (m' := b2_), blk_map (n := 51) (ad := ad) (sh := (msh cs ad)) (m := a1_) (m' := b1_)]
  have hP : va_P D vwCl (Wf zM mI mI mI mI) H := by subst hWf; exact hPn
  have hD : va_D A (Wf zM mI mI mI mI) := by subst hWf; exact hDn
  have hS := hSn
  have hDz : ∀ h m f c0 c1 : MM, va_D A (Wf h m f c0 c1) := fun h m f c0 c1 => hD.map (hAd h zM m mI f mI c0 mI c1 mI)
  refine lv_aload_n hx hb dL_law_8 rfl (lv_at hl 0 rfl) ?_
  refine lv_aload_n hx hb dL_law_9 rfl (lv_at hl 1 rfl) ?_
  refine ggS (As := [.ref (sB D)]) (rest := [.ref (adh 0)]) (wc := []) (wr := Wf zM mI mI mI mI) Fl0 (c_L_text l (D := D) (cs := cs) hLD) X0_fz trivial hP hD hS hA tw_4_29 tw_4_27 tw_4_28 tw_1_0 yd_L_text ⟨(Nat.le_of_ble_eq_true rfl), (Nat.le_of_ble_eq_true rfl)⟩ ⟨(Nat.le_of_ble_eq_true rfl), (Nat.le_of_ble_eq_true rfl)⟩ rfl hl.1 rfl (Nat.le_of_ble_eq_true rfl) dL_law_10 (fun H locs rv w1 hw hP hD hS => ?_)
  obtain ⟨t, rfl, hW⟩ := hw
  obtain ⟨q, n, g, rfl, hg, hn370⟩ := hW
  obtain ⟨T, w, S, t2, t4, t5⟩ := txt_loaded hLD hg hn370 (mI := mI) (fm := mI) hC
  have hP := P_comm hP
  have hD := D_comm hD
  have hX : TF t n g (va_A (Wf zM mI mI mI mI) H.size) s H := TF_made hT hK (P_r hP) 0 1 rfl rfl (vA_out hP hD (k := 0) rfl).2 (vA_out hP hD (k := 1) rfl).2
  refine ggS (As := [.ref (adh 0), .ref t]) (rest := []) (wc := Wf zM mI mI mI mI) Fl0 (c_L_load l (Wf := fun h m f => Wf h m f mI mI) (fun m f => hLh m f mI mI) (fun h f => hLm h f mI mI) (fun h m => hLf h m mI mI) (fun a0_ b0_ a1_ b1_ a2_ b2_ => hAd a0_ b0_ a1_ b1_ a2_ b2_ mI mI mI mI) hm1 hm2 zM mI mI (g := g) (by omega) t2 rfl t5) TF_fz hX hP hD hS hA tw_3_59 tw_3_57 tw_3_58 tw_1_0 yd_L_load ⟨(Nat.le_of_ble_eq_true rfl), (Nat.le_of_ble_eq_true rfl)⟩ ⟨(Nat.le_of_ble_eq_true rfl), (Nat.le_of_ble_eq_true rfl)⟩ rfl hl.1 rfl (Nat.le_of_ble_eq_true rfl) dL_law_13 (fun H locs rv w1 hw hP hD hS => ?_)
  obtain ⟨rr, h1, m1, f1, rfl, rfl, rfl, hSta⟩ := hw
  have hP := P_l hP
  refine lv_bipush (v := (6 : Int32)) hx hb dL_law_16 (by decide) ?_
  refine lv_icmp_eq (tgt := 23) hx hb dL_law_18 (by decide) (fun _ => ?_) (fun c9 => absurd rfl c9)
  refine lv_iconst (v := I 0) hx hb dL_law_23 (by decide) ?_
  refine lv_istore_n (lv' := [(2, .int (I 0)), (1, .ref (adh 0)), (0, .ref (sB D))]) hx hb dL_law_24 rfl hl (by decide) rfl (fun ls hl => ?_)
  have c_25 : ∀ (d k : Nat) (x3 : List (Nat × Value)) (h m2 : MM) (w : Nat → Int32) (H : Heap) (locs : List Loc) (ls : Array Slot), k + d = 22 → Sta S (upk (9 * k) N0) m2 w → va_P D vwCl (Wf h m2 f1 mI mI) H → va_S A s.heap H locs → lv_has ls 4 [(2, .int (I k)), (1, .ref (adh 0)), (0, .ref (sB D))] → W p l e room_1 s m #[.ref (sB D)] below meth c H locs (348 : Nat) (204100 : Nat) (lw_Z below #[Value.ref (sB D)] s) (F0 m 25 ls []) := by
    intro d
    induction d with
    | zero =>
      intro k x3 h m2 w H locs ls hkd hSt hP hS hl
      have hk : k = 22 := by omega
      subst hk
      obtain ⟨n0, n1, nlo, n6⟩ := upN_lo 22
      refine lv_iload_n hx hb dL_law_25 rfl (lv_at hl 0 rfl) ?_
      refine lv_bipush (v := I 22) hx hb dL_law_26 (by decide) ?_
      refine lv_icmp_ge (tgt := 70) hx hb dL_law_28 (by decide) (fun _ => ?_) (fun c9 => absurd (Int32.le_refl _) c9)
      refine lv_aload_n hx hb dL_law_70 rfl (lv_at hl 1 rfl) ?_
      obtain ⟨x1, x2, u', hA1, hB1⟩ := addsUp_v hSt (by omega) n0 n1 (by rw [n6]; omega) h
      have hPa : va_P D vwCl (Wf h m2 f1 mI mI ++ []) H := by rw [List.append_nil]; exact hP
      have hDa : va_D A (Wf h m2 f1 mI mI ++ []) := by rw [List.append_nil]; exact hDz h m2 f1 mI mI
      refine ggS (As := [.ref (adh 0)]) (rest := []) (wc := Wf h m2 f1 mI mI) (wr := []) Fl0 (c_L_addsUp l (Wf := fun z0 z1 => Wf z0 z1 f1 mI mI) (fun z => hLh z f1 mI mI) (fun z => hLm z f1 mI mI) (fun a0_ b0_ a1_ b1_ => hAd a0_ b0_ a1_ b1_ f1 f1 mI mI mI mI) hm1 h m2 hA1 hB1) X0_fz trivial hPa hDa hS hA tw_6_83 tw_6_81 tw_6_82 tw_1_0 yd_L_addsUp ⟨(Nat.le_of_ble_eq_true rfl), (Nat.le_of_ble_eq_true rfl)⟩ ⟨(Nat.le_of_ble_eq_true rfl), (Nat.le_of_ble_eq_true rfl)⟩ rfl hl.1 rfl (Nat.le_of_ble_eq_true rfl) dL_law_71 (fun H locs rv w1 hw hP hD hS => ?_)
      obtain ⟨rfl, tt, rfl⟩ := hw
      have hP := P_l (P_l hP)
      refine lv_if_eq (tgt := 95) hx hb dL_law_74 (by decide) (fun c9 => absurd c9 (by decide)) (fun _ => ?_)
      refine lv_aload_n hx hb dL_law_77 rfl (lv_at hl 1 rfl) ?_
      refine lrS (As := [.ref (adh 0)]) (rest := []) Fl0 (c_L_areSpots l (Wf := fun z0 z1 => Wf z0 z1 f1 mI mI) (fun z => hLh z f1 mI mI) (fun z => hLm z f1 mI mI) (fun a0_ b0_ a1_ b1_ => hAd a0_ b0_ a1_ b1_ f1 f1 mI mI mI mI) hm1 h m2 (areSpots_v hSt (by omega) (by rw [n6]; omega) h)) hP (hDz _ _ _ _ _) hS (vA_w (hDz _ _ _ _ _) hS hA) tw_6_119 tw_6_117 tw_6_118 tw_1_0 yd_L_areSpots ⟨(Nat.le_of_ble_eq_true rfl), (Nat.le_of_ble_eq_true rfl)⟩ ⟨(Nat.le_of_ble_eq_true rfl), (Nat.le_of_ble_eq_true rfl)⟩ rfl hl.1 rfl (Nat.le_of_ble_eq_true rfl) dL_law_78 (fun H locs hP hS => ?_)
      refine lv_if_eq (tgt := 95) hx hb dL_law_81 (by decide) (fun c9 => absurd c9 (by decide)) (fun _ => ?_)
      refine lv_aload_n hx hb dL_law_84 rfl (lv_at hl 1 rfl) ?_
      obtain ⟨h3, m3, f3, d0, d1, hfo⟩ := foresees_v hSt (by omega) nlo (by rw [n6]; omega) h f1 mI mI
      refine lrS (As := [.ref (adh 0)]) (rest := []) Fl0 (c_L_foresees l (Wf := Wf) hLh hLm hLf hL0 hL1 hAd hm1 hm2 hm3 hm4 h m2 f1 mI mI hfo) hP (hDz _ _ _ _ _) hS (vA_w (hDz _ _ _ _ _) hS hA) tw_6_143 tw_6_141 tw_6_142 tw_1_0 yd_L_foresees ⟨(Nat.le_of_ble_eq_true rfl), (Nat.le_of_ble_eq_true rfl)⟩ ⟨(Nat.le_of_ble_eq_true rfl), (Nat.le_of_ble_eq_true rfl)⟩ rfl hl.1 rfl (Nat.le_of_ble_eq_true rfl) dL_law_85 (fun H locs hP hS => ?_)
      refine lv_if_eq (tgt := 95) hx hb dL_law_88 (by decide) (fun c9 => absurd c9 (by decide)) (fun _ => ?_)
      refine lv_iconst (v := (1 : Int32)) hx hb dL_law_91 (by decide) ?_
      refine lv_goto (tgt := 96) hx hb dL_law_92 (by decide) ?_
      exact va_forget (fun q hq => by have := hS.2.2 q hq; subst hAe; exact this) (W.widen (Nat.le_of_ble_eq_true rfl) (Nat.le_of_ble_eq_true rfl) (lw_ret hx hb hr hlocks dL_law_96))
    | succ d ih =>
      intro k x3 h m2 w H locs ls hkd hSt hP hS hl
      obtain ⟨n0, n1, nlo, n6⟩ := upN_lo k
      have hD := hDz h m2 f1 mI mI
      refine lv_iload_n hx hb dL_law_25 rfl (lv_at hl 0 rfl) ?_
      refine lv_bipush (v := I 22) hx hb dL_law_26 (by decide) ?_
      refine lv_icmp_ge (tgt := 70) hx hb dL_law_28 (by decide) (fun c9 => absurd c9 (leF (by omega) (by decide))) (fun _ => ?_)
      refine lv_aload_n hx hb dL_law_31 rfl (lv_at hl 1 rfl) ?_
      refine lrV (Wf := fun z => Wf z m2 f1 mI mI) (mm := h) (As := []) (rest := []) Fl0 (c_X9_now l (Wf := fun z0 z1 => Wf z0 z1 f1 mI mI) (fun z => hLh z f1 mI mI) (fun z => hLm z f1 mI mI) (fun a0_ b0_ a1_ b1_ => hAd a0_ b0_ a1_ b1_ f1 f1 mI mI mI mI) hm1 h m2 (a_now hSt.1 h)) hP hD hS (vA_w hD hS hA) (hLh m2 f1 mI mI) (Nat.le_of_ble_eq_true rfl) (hs0 _ _) rfl tw_3_56 tw_3_53 tw_3_54 tw_3_55 tw_1_1 yd_X9_now ⟨(Nat.le_of_ble_eq_true rfl), (Nat.le_of_ble_eq_true rfl)⟩ ⟨(Nat.le_of_ble_eq_true rfl), (Nat.le_of_ble_eq_true rfl)⟩ rfl hl.1 rfl (Nat.le_of_ble_eq_true rfl) dL_law_32 (fun H locs hP hS => ?_)
      refine lv_istore_n (lv' := [(3, .int (w 23)), (2, .int (I k)), (1, .ref (adh 0)), (0, .ref (sB D))]) hx hb dL_law_35 rfl hl (by decide) rfl (fun ls hl => ?_)
      refine lv_aload_n hx hb dL_law_36 rfl (lv_at hl 2 rfl) ?_
      refine lv_aload_n hx hb dL_law_37 rfl (lv_at hl 3 rfl) ?_
      refine lv_bipush (v := I 30) hx hb dL_law_38 (by decide) ?_
      refine lv_iconst (v := I 3) hx hb dL_law_40 (by decide) ?_
      refine lv_iload_n hx hb dL_law_41 rfl (lv_at hl 1 rfl) ?_
      refine lv_imul hx hb dL_law_42 ?_
      refine lv_nmi (y := I (3 * k)) (I_mul 3 k).symm ?_
      refine adN hx hb dL_law_43 ?_
      obtain ⟨h3, m3, g1, g2, w3, g3, g4⟩ := lstep hSt (by omega) (by omega) nlo hLD h (a := 30 + 3 * k) (by omega)
      rw [upN] at g3
      refine lrS (As := [.ref (adh 0), .ref (sB D), .int (I (30 + 3 * k))]) (rest := []) Fl0 (c_L_step l (Wf := fun z0 z1 => Wf z0 z1 f1 mI mI) (fun z => hLh z f1 mI mI) (fun z => hLm z f1 mI mI) (fun a0_ b0_ a1_ b1_ => hAd a0_ b0_ a1_ b1_ f1 f1 mI mI mI mI) hm1 h m2 (I (30 + 3 * k)) g1) hP hD hS (vA_w hD hS hA) tw_5_19 tw_5_17 tw_5_18 tw_1_0 yd_L_step ⟨(Nat.le_of_ble_eq_true rfl), (Nat.le_of_ble_eq_true rfl)⟩ ⟨(Nat.le_of_ble_eq_true rfl), (Nat.le_of_ble_eq_true rfl)⟩ rfl hl.1 rfl (Nat.le_of_ble_eq_true rfl) dL_law_44 (fun H locs hP hS => ?_)
      have hD := hDz h3 m3 f1 mI mI
      refine lv_aload_n hx hb dL_law_47 rfl (lv_at hl 2 rfl) ?_
      refine lrV (Wf := fun z => Wf z m3 f1 mI mI) (mm := h3) (As := []) (rest := []) Fl0 (c_X9_now l (Wf := fun z0 z1 => Wf z0 z1 f1 mI mI) (fun z => hLh z f1 mI mI) (fun z => hLm z f1 mI mI) (fun a0_ b0_ a1_ b1_ => hAd a0_ b0_ a1_ b1_ f1 f1 mI mI mI mI) hm1 h3 m3 (a_now g3.1 h3)) hP hD hS (vA_w hD hS hA) (hLh m3 f1 mI mI) (Nat.le_of_ble_eq_true rfl) (hs0 _ _) rfl tw_3_56 tw_3_53 tw_3_54 tw_3_55 tw_1_1 yd_X9_now ⟨(Nat.le_of_ble_eq_true rfl), (Nat.le_of_ble_eq_true rfl)⟩ ⟨(Nat.le_of_ble_eq_true rfl), (Nat.le_of_ble_eq_true rfl)⟩ rfl hl.1 rfl (Nat.le_of_ble_eq_true rfl) dL_law_48 (fun H locs hP hS => ?_)
      refine lv_iload_n hx hb dL_law_51 rfl (lv_at hl 0 rfl) ?_
      refine lv_icmp_lt (tgt := 62) hx hb dL_law_52 (by decide) (fun c9 => absurd c9 (now_up hSt (by rw [n6]; omega) g4)) (fun _ => ?_)
      refine lv_aload_n hx hb dL_law_55 rfl (lv_at hl 2 rfl) ?_
      refine lrV (Wf := fun z => Wf z m3 f1 mI mI) (mm := h3) (As := []) (rest := []) Fl0 (c_X9_isBalanced l (Wf := fun z0 z1 => Wf z0 z1 f1 mI mI) (fun z => hLh z f1 mI mI) (fun z => hLm z f1 mI mI) (fun a0_ b0_ a1_ b1_ => hAd a0_ b0_ a1_ b1_ f1 f1 mI mI mI mI) hm1 h3 m3 (a_bal g3.1 g3.2.1 h3)) hP hD hS (vA_w hD hS hA) (hLh m3 f1 mI mI) (Nat.le_of_ble_eq_true rfl) (hs0 _ _) rfl tw_3_36 tw_3_33 tw_3_34 tw_3_35 tw_1_1 yd_X9_isBalanced ⟨(Nat.le_of_ble_eq_true rfl), (Nat.le_of_ble_eq_true rfl)⟩ ⟨(Nat.le_of_ble_eq_true rfl), (Nat.le_of_ble_eq_true rfl)⟩ rfl hl.1 rfl (Nat.le_of_ble_eq_true rfl) dL_law_56 (fun H locs hP hS => ?_)
      refine lv_if_ne (tgt := 64) hx hb dL_law_59 (by decide) (fun _ => ?_) (fun c9 => absurd c9 (by decide))
      refine lv_iinc (v := I (k + 1)) (lv' := [(2, .int (I (k + 1))), (3, .int (w 23)), (1, .ref (adh 0)), (0, .ref (sB D))]) hx hb dL_law_64 hl (k := 1) rfl (I_add k 1) (by decide) rfl (fun ls hl => ?_)
      refine lv_goto (tgt := 25) hx hb dL_law_67 (by decide) ?_
      exact ih (k + 1) [] h3 m3 w3 _ _ _ (by omega) g3 hP hS (lv_sub hl [0, 2, 3] rfl)
  have h0 := hSta N0 rfl rfl
  rw [← up0] at h0
  exact W.widen (Nat.le_of_ble_eq_true rfl) (Nat.le_of_ble_eq_true rfl) (c_25 22 0 [] h1 m1 w _ _ _ (by omega) h0 hP hS hl)
