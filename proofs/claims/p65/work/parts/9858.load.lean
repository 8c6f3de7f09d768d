/-! the law's load -/
def FB (q w : Nat) (g : Nat → Int32) : (Nat → Prop) → State → Heap → Prop := fun A U H => va_T .byte q w (fun j => .int (g j)) A U H
theorem FB_fz {q w : Nat} {g : Nat → Int32} : Fz (FB q w g) := ⟨fun A u U H hvm h => va_T.moved hvm h, fun A U H H1 h hq => h.kept hq, fun A B U H h hAB => h.narrow hAB⟩
theorem ck_s {i w : Nat} (hi : i < w) (hw : w < 2147483648) : D_J0_checkIndex_df160 (I i) (I w) = some () := by
  unfold D_J0_checkIndex_df160 D_J3_checkIndex_8e157
  rw [if_neg (I_nneg (by omega)), if_pos ((I_lt (by omega) hw).mpr hi)]
  rfl
theorem ch_l : ∀ c : Nat, c < 128 → (((I c &&& (255 : Int32)).toUInt32 % 65536).toInt32) = I c ∧ vp_nar .char (I c) = I c := by decide +kernel
set_option maxHeartbeats 4000000 in
set_option maxRecDepth 100000 in
theorem k_J1_charAt_3b067 (l : Launch) {D : va_G} {cs : Nat → ClassId} (q w : Nat) (g : Nat → Int32) {i k : Nat} (hi : i < w) (hw : w < 2147483648) (hg : g i = I k) (hk : k < 128) : CtG l yJ1_charAt_3b067 cJ1_charAt_3b067 2 (some .char) 2 43 0 0 D cs (FB q w g) [.ref q, .int (I i)] [] (fun rv w1 => rv = some (.int (I k)) ∧ w1 = []) := by
  refine CtG.ofW (by decide) (Nat.le_of_ble_eq_true rfl) ?_
  intro p e s m0 below meth c A Q ls args Fl0 hr hlocks hP hD hXs hS hA hl hmn hret
  obtain ⟨hx, hb, hml, hown, hT, hK, hSS⟩ := id Fl0
  have hown : s.vm.findClass RJ1 = some m0.cls := hown
  have hl : lv_has ls 2 [(0, .ref q), (1, .int (I i))] := hl
  refine lv_iload_n hx hb dJ1_charAt_3b067_0 rfl (lv_at hl 1 rfl) ?_
  refine lv_aload_n hx hb dJ1_charAt_3b067_1 rfl (lv_at hl 0 rfl) ?_
  refine va_tlen (v := I w) hx hb hXs hS rfl dJ1_charAt_3b067_2 ?_
  refine lrS (As := [.int (I i), .int (I w)]) (rest := []) Fl0 (c_J0_checkIndex_df160 l (D := D) (cs := cs) (w := []) (I i) (I w) (ck_s hi hw)) hP hD hS (vA_w hD hS hA) tw_3_83 tw_3_81 tw_3_82 tw_1_15 yd_J0_checkIndex_df160 ⟨(Nat.le_of_ble_eq_true rfl), (Nat.le_of_ble_eq_true rfl)⟩ ⟨Nat.le_refl _, Nat.le_refl _⟩ rfl hl.1 rfl (Nat.le_of_ble_eq_true rfl) dJ1_charAt_3b067_3 (fun H locs hP hS => ?_)
  refine lv_aload_n hx hb dJ1_charAt_3b067_6 rfl (lv_at hl 0 rfl) ?_
  refine lv_iload_n hx hb dJ1_charAt_3b067_7 rfl (lv_at hl 1 rfl) ?_
  refine rtbT hx hb hXs hS (j := i) (by rw [I_tnc (by omega)]; exact fun z => z.elim (I_nneg (by omega)) (fun y => by omega)) (I_tnc (by omega)) dJ1_charAt_3b067_8 ?_
  rw [hg]
  refine lv_sipush (v := (255 : Int32)) hx hb dJ1_charAt_3b067_9 (by decide) ?_
  refine lv_iand hx hb dJ1_charAt_3b067_12 ?_
  refine lv_i2c (v := I k) hx hb dJ1_charAt_3b067_13 (ch_l k hk).1 ?_
  exact hret _ _ _ _ _ _ _ ⟨rfl, rfl⟩ hP hD hS (Nat.le_refl _) (Nat.le_refl _) (fun Qc hq => W.zret hx hb hr (nch (ch_l k hk).2) hq hS.2.2 dJ1_charAt_3b067_14 hlocks)
set_option maxHeartbeats 4000000 in
set_option maxRecDepth 100000 in
theorem k_J0_charAt_5068e (l : Launch) {D : va_G} {cs : Nat → ClassId} (t w : Nat) (g : Nat → Int32) {i k : Nat} (hi : i < w) (hw : w < 2147483648) (hg : g i = I k) (hk : k < 128) : CtG l yJ0_charAt_5068e cJ0_charAt_5068e 2 (some .char) 3 64 0 0 D cs (TF t w g) [.ref t, .int (I i)] [] (fun rv w1 => rv = some (.int (I k)) ∧ w1 = []) := by
  refine CtG.ofW (by decide) (Nat.le_of_ble_eq_true rfl) ?_
  intro p e s m0 below meth c A Q ls args Fl0 hr hlocks hP hD hXs hS hA hl hmn hret
  obtain ⟨hx, hb, hml, hown, hT, hK, hSS⟩ := id Fl0
  have hown : s.vm.findClass RJ0 = some m0.cls := hown
  have hl : lv_has ls 2 [(0, .ref t), (1, .int (I i))] := hl
  obtain ⟨hO, hC, tb, hV, hB⟩ := id hXs
  refine lv_aload_n hx hb dJ0_charAt_5068e_0 rfl (lv_at hl 0 rfl) ?_
  refine ggV (As := []) (rest := []) (wc := []) (wr := []) Fl0 (k_J0_isLatin1_aae02 l (D := D) (cs := cs) t w g) TF_fz (Fz.go TF_fz hXs (wc := []) (wr := []) hD hS hA) hP hD hS hA (TF_rcv hXs hS) tw_3_77 tw_3_74 tw_3_75 tw_3_76 tw_1_15 yd_J0_isLatin1_aae02 ⟨(Nat.le_of_ble_eq_true rfl), (Nat.le_of_ble_eq_true rfl)⟩ ⟨Nat.le_refl _, Nat.le_refl _⟩ rfl hl.1 rfl (Nat.le_of_ble_eq_true rfl) dJ0_charAt_5068e_1 (fun H locs rv w1 hw hP hD hS => ?_)
  obtain ⟨rfl, rfl⟩ := hw
  refine lv_if_eq (tgt := 16) hx hb dJ0_charAt_5068e_4 (by decide) (fun c => absurd c (by decide)) (fun _ => ?_)
  refine lv_aload_n hx hb dJ0_charAt_5068e_7 rfl (lv_at hl 0 rfl) ?_
  refine vk_getf hx hb hV hS hown (hT _ tw_5_0) (fun _ h9 => h9) dJ0_charAt_5068e_8 ?_
  refine lv_iload_n hx hb dJ0_charAt_5068e_11 rfl (lv_at hl 1 rfl) ?_
  refine ggS (As := [.ref tb, .int (I i)]) (rest := []) (wc := []) (wr := []) Fl0 (k_J1_charAt_3b067 l (D := D) (cs := cs) tb w g hi hw hg hk) FB_fz (Fz.go FB_fz hB (wc := []) (wr := []) hD hS hA) hP hD hS hA tw_3_80 tw_3_78 tw_3_79 tw_1_20 yd_J1_charAt_3b067 ⟨(Nat.le_of_ble_eq_true rfl), (Nat.le_of_ble_eq_true rfl)⟩ ⟨Nat.le_refl _, Nat.le_refl _⟩ rfl hl.1 rfl (Nat.le_of_ble_eq_true rfl) dJ0_charAt_5068e_12 (fun H locs rv w1 hw hP hD hS => ?_)
  obtain ⟨rfl, rfl⟩ := hw
  exact hret _ _ _ _ _ _ _ ⟨rfl, rfl⟩ hP hD hS (Nat.le_refl _) (Nat.le_refl _) (fun Qc hq => W.zret hx hb hr (nch (ch_l k hk).2) hq hS.2.2 dJ0_charAt_5068e_15 hlocks)
/-- what is appended so far: a letters, and c in the word x -/
def Ld (T : Nat → Nat) (L k : Nat) (x : Int64) (h : MM) : Prop := ∃ a c : Nat, a + c = k ∧ c < 8 ∧ (k < L → a % 8 = 0) ∧ (k = L → c = 0) ∧ nN x = WN T a c ∧ gi h 0 1 = I a ∧ ∀ i : Nat, i < a → gi h 5 i = b8 (T i)
set_option maxHeartbeats 4000000 in
set_option maxRecDepth 100000 in
theorem c_L_load (l : Launch) {D : va_G} {cs : Nat → ClassId} {adh ad adf ma : Nat → Nat} {Wf : MM → MM → MM → va_W} (hLh : ∀ m f : MM, Ln 8 adh (hsh cs adh ma) (fun z => Wf z m f)) (hL : ∀ h f : MM, Ln 51 ad (msh cs ad) (fun z => Wf h z f)) (hLf : ∀ h m : MM, Ln 51 adf (msh cs adf) (fun z => Wf h m z)) (hAd : ∀ a0_ b0_ a1_ b1_ a2_ b2_ : MM, (Wf a0_ a1_ a2_).map (fun q => q.1) = (Wf b0_ b1_ b2_).map (fun q => q.1)) (hm1 : ma 1 = ad 24) (hm2 : ma 2 = adf 24) (h m f : MM) {t L : Nat} {g : Nat → Int32} {T : Nat → Nat} (hL9 : L ≤ 900) (hg : ∀ j : Nat, j < L → g j = I (T j) ∧ 1 ≤ T j ∧ T j ≤ 127) (e1 : gi h 0 1 = I 0) {Pst : Int32 → MM → MM → MM → Prop}
    (hload : ∀ h1 : MM, gi h1 0 1 = I L → (∀ i : Nat, i < L → gi h1 5 i = b8 (T i)) → ∃ (rr : Int32) (h' m' f' : MM), D_X9_load h1 m f = some (rr, h', m', f') ∧ Pst rr h' m' f') : CtG l yL_load cL_load 5 (some .int) 8 171 0 0 D cs (TF t L g) [.ref (adh 0), .ref t] (Wf h m f) (fun rv w1 => ∃ (rr : Int32) (h' m' f' : MM), rv = some (.int rr) ∧ w1 = Wf h' m' f' ∧ Pst rr h' m' f') := by
  refine CtG.ofW (by decide) (Nat.le_of_ble_eq_true rfl) ?_
  intro p e s m0 below meth c A Q ls args Fl0 hr hlocks hP hD hXs hS hA hl hmn hret
  obtain ⟨hx, hb, hml, hown, hT, hK, hSS⟩ := id Fl0
  have hl : lv_has ls 5 [(0, .ref (adh 0)), (1, .ref t)] := hl
  have hDz : ∀ h : MM, va_D A (Wf h m f) := fun z => hD.map (hAd z h m m f f)
  have c_5 : ∀ (d k : Nat) (x : Int64) (h : MM) (H : Heap) (locs : List Loc) (ls : Array Slot), k + d = L → Ld T L k x h → va_P D vwCl (Wf h m f) H → va_S A s.heap H locs → lv_has ls 5 [(4, .int (I k)), (2, .long x), (0, .ref (adh 0)), (1, .ref t)] → W p l e ({ frames := 8, cells := 0, slots := 0, locals := 171 } : Room) s m0 args below meth c H locs 0 0 Q (F0 m0 5 ls []) := by
    intro d
    induction d with
    | zero =>
      intro k x h H locs ls hkd hI hP hS hl
      have hD := hDz h
      have e : k = L := by omega
      obtain ⟨a, cc, i1, i2, i3, i4, i5, i6, i7⟩ := hI
      have c0 := i4 e
      have ea : a = L := by omega
      obtain ⟨rr, h', m', f', hl1, hl2⟩ := hload h (by rw [i6, ea]) (fun i hi => i7 i (by omega))
      refine lv_iload hx hb dL_load_5 (lv_at hl 0 rfl) ?_
      refine lv_aload_n hx hb dL_load_7 rfl (lv_at hl 3 rfl) ?_
      refine ggV (As := []) (rest := [.int (I k)]) (wc := []) (wr := Wf h m f) Fl0 (k_J0_length_8abf5 l (D := D) (cs := cs) t L g) TF_fz (Fz.go TF_fz hXs (wc := []) (wr := Wf h m f) hD hS hA) hP hD hS hA (TF_rcv hXs hS) tw_3_63 tw_3_60 tw_3_61 tw_3_62 tw_1_15 yd_J0_length_8abf5 ⟨(Nat.le_of_ble_eq_true rfl), (Nat.le_of_ble_eq_true rfl)⟩ ⟨Nat.le_refl _, Nat.le_refl _⟩ rfl hl.1 rfl (Nat.le_of_ble_eq_true rfl) dL_load_8 (fun H locs rv w1 hw hP hD hS => ?_)
      obtain ⟨rfl, rfl⟩ := hw
      refine lv_icmp_ge (tgt := 65) hx hb dL_load_11 (by decide) (fun _ => ?_) (fun c9 => absurd (by rw [e]; exact Int32.le_refl _) c9)
      refine lv_aload_n hx hb dL_load_65 rfl (lv_at hl 2 rfl) ?_
      refine lrV (Wf := fun z => Wf z m f) (mm := h) (As := []) (rest := []) Fl0 (c_X9_load l (Wf := Wf) hLh hL hLf hAd hm1 hm2 h m f hl1) hP hD hS (vA_w hD hS hA) (hLh m f) (Nat.le_of_ble_eq_true rfl) (hs0 _ _) rfl tw_3_115 tw_3_112 tw_3_113 tw_3_114 tw_1_1 yd_X9_load ⟨(Nat.le_of_ble_eq_true rfl), (Nat.le_of_ble_eq_true rfl)⟩ ⟨Nat.le_refl _, Nat.le_refl _⟩ rfl hl.1 rfl (Nat.le_of_ble_eq_true rfl) dL_load_66 (fun H locs hP hS => ?_)
      exact hret _ _ _ _ _ _ _ ⟨rr, h', m', f', rfl, rfl, hl2⟩ hP (hD.map (hAd h' h m' m f' f)) hS (Nat.le_refl _) (Nat.le_refl _) (fun Qc hq => W.iret hx hb hr hq hS.2.2 dL_load_69 hlocks)
    | succ d ih =>
      intro k x h H locs ls hkd hI hP hS hl
      have hD := hDz h
      obtain ⟨a, cc, i1, i2, i3, i4, i5, i6, i7⟩ := hI
      have hk : k < L := by omega
      have a8 := i3 hk
      obtain ⟨g1, g2, g3⟩ := hg k hk
      have hT256 : ∀ i : Nat, a + i < L → T (a + i) < 256 := fun i hi => by have := hg (a + i) hi; omega
      have fin : ∀ (x : Int64) (h : MM) (H : Heap) (locs : List Loc) (ls : Array Slot), Ld T L (k + 1) x h → va_P D vwCl (Wf h m f) H → va_S A s.heap H locs → lv_has ls 5 [(2, .long x), (4, .int (I k)), (0, .ref (adh 0)), (1, .ref t)] → W p l e ({ frames := 8, cells := 0, slots := 0, locals := 171 } : Room) s m0 args below meth c H locs 0 0 Q (F0 m0 59 ls []) := by
        intro x h H locs ls hI hP hS hl
        refine lv_iinc (v := I (k + 1)) (lv' := [(4, .int (I (k + 1))), (2, .long x), (0, .ref (adh 0)), (1, .ref t)]) hx hb dL_load_59 hl (k := 1) rfl (I_add k 1) (by decide) rfl (fun ls hl => ?_)
        refine lv_goto (tgt := 5) hx hb dL_load_62 (by decide) ?_
        exact ih (k + 1) x h H locs ls (by omega) hI hP hS hl
      refine lv_iload hx hb dL_load_5 (lv_at hl 0 rfl) ?_
      refine lv_aload_n hx hb dL_load_7 rfl (lv_at hl 3 rfl) ?_
      refine ggV (As := []) (rest := [.int (I k)]) (wc := []) (wr := Wf h m f) Fl0 (k_J0_length_8abf5 l (D := D) (cs := cs) t L g) TF_fz (Fz.go TF_fz hXs (wc := []) (wr := Wf h m f) hD hS hA) hP hD hS hA (TF_rcv hXs hS) tw_3_63 tw_3_60 tw_3_61 tw_3_62 tw_1_15 yd_J0_length_8abf5 ⟨(Nat.le_of_ble_eq_true rfl), (Nat.le_of_ble_eq_true rfl)⟩ ⟨Nat.le_refl _, Nat.le_refl _⟩ rfl hl.1 rfl (Nat.le_of_ble_eq_true rfl) dL_load_8 (fun H locs rv w1 hw hP hD hS => ?_)
      obtain ⟨rfl, rfl⟩ := hw
      refine lv_icmp_ge (tgt := 65) hx hb dL_load_11 (by decide) (fun c9 => absurd c9 (leF hk (by omega))) (fun _ => ?_)
      refine lv_lload_n hx hb dL_load_14 rfl (lv_at hl 1 rfl) ?_
      refine lv_bipush (v := (8 : Int32)) hx hb dL_load_15 (by decide) ?_
      refine lv_lshl (v := x <<< ((8 : Int32).toInt64 &&& 63)) hx hb dL_load_17 rfl ?_
      refine lv_aload_n hx hb dL_load_18 rfl (lv_at hl 3 rfl) ?_
      refine lv_iload hx hb dL_load_19 (lv_at hl 0 rfl) ?_
      refine ggV (As := [.int (I k)]) (rest := [.long (x <<< ((8 : Int32).toInt64 &&& 63))]) (wc := []) (wr := Wf h m f) Fl0 (k_J0_charAt_5068e l (D := D) (cs := cs) t L g hk (by omega) g1 (by omega)) TF_fz (Fz.go TF_fz hXs (wc := []) (wr := Wf h m f) hD hS hA) hP hD hS hA (TF_rcv hXs hS) tw_3_73 tw_3_70 tw_3_71 tw_3_72 tw_1_15 yd_J0_charAt_5068e ⟨(Nat.le_of_ble_eq_true rfl), (Nat.le_of_ble_eq_true rfl)⟩ ⟨Nat.le_refl _, Nat.le_refl _⟩ rfl hl.1 rfl (Nat.le_of_ble_eq_true rfl) dL_load_21 (fun H locs rv w1 hw hP hD hS => ?_)
      obtain ⟨rfl, rfl⟩ := hw
      refine lv_i2l (v := (I (T k)).toInt64) hx hb dL_load_24 rfl ?_
      refine lv_lor hx hb dL_load_25 ?_
      refine lv_lstore_n (lv' := [(2, .long ((x <<< ((8 : Int32).toInt64 &&& 63)) ||| (I (T k)).toInt64)), (4, .int (I k)), (0, .ref (adh 0)), (1, .ref t)]) hx hb dL_load_26 rfl hl (by decide) rfl (fun ls hl => ?_)
      have hx5 : nN x < 72057594037927936 := by
        rw [i5]
        have h1 := WN_lt (T := T) (a := a) cc (fun i hi => hT256 i (by omega))
        have h2 : 256 ^ cc ≤ 256 ^ 7 := Nat.pow_le_pow_right (by decide) (by omega)
        have h3 : (256 : Nat) ^ 7 = 72057594037927936 := by decide
        omega
      have hw9 : nN ((x <<< ((8 : Int32).toInt64 &&& 63)) ||| (I (T k)).toInt64) = WN T a (cc + 1) := by
        rw [word_up hx5 (by omega), i5]
        show WN T a cc * 256 + T k = WN T a cc * 256 + T (a + cc)
        rw [i1]
      generalize ((x <<< ((8 : Int32).toInt64 &&& 63)) ||| (I (T k)).toInt64) = y at hw9 hl
      have app : ∀ (H : Heap) (locs : List Loc), (cc = 7 ∨ k + 1 = L) → va_P D vwCl (Wf h m f) H → va_S A s.heap H locs → W p l e ({ frames := 8, cells := 0, slots := 0, locals := 171 } : Room) s m0 args below meth c H locs 0 0 Q (F0 m0 51 ls []) := by
        intro H locs hcase hP hS
        obtain ⟨rr, h1, r1, r2, r3, r4⟩ := app_w m h (T := T) (a := a) (c := cc + 1) (t := a) (by omega) (by omega) (fun i hi => by have := hg (a + i) (by omega); omega) hw9 i6 (by omega)
        refine lv_aload_n hx hb dL_load_51 rfl (lv_at hl 2 rfl) ?_
        refine lv_lload_n hx hb dL_load_52 rfl (lv_at hl 0 rfl) ?_
        refine lrV (Wf := fun z => Wf z m f) (mm := h) (As := [.long y]) (rest := []) Fl0 (c_X9_append l (Wf := fun z0_ z1_ => Wf z0_ z1_ f) (fun z => hLh z f) (fun z => hL z f) (fun a0_ b0_ a1_ b1_ => hAd a0_ b0_ a1_ b1_ f f) hm1 h m y r1) hP (hDz h) hS (vA_w (hDz h) hS hA) (hLh m f) (Nat.le_of_ble_eq_true rfl) (hs0 _ _) rfl tw_3_111 tw_3_108 tw_3_109 tw_3_110 tw_1_1 yd_X9_append ⟨(Nat.le_of_ble_eq_true rfl), (Nat.le_of_ble_eq_true rfl)⟩ ⟨Nat.le_refl _, Nat.le_refl _⟩ rfl hl.1 rfl (Nat.le_of_ble_eq_true rfl) dL_load_53 (fun H locs hP hS => ?_)
        refine lv_pop hx hb dL_load_56 rfl ?_
        refine lv_lconst (v := (0 : Int64)) hx hb dL_load_57 (by decide) ?_
        refine lv_lstore_n (lv' := [(2, .long (0 : Int64)), (4, .int (I k)), (0, .ref (adh 0)), (1, .ref t)]) hx hb dL_load_58 rfl hl (by decide) rfl (fun ls hl => ?_)
        refine fin 0 h1 _ _ _ ⟨a + (cc + 1), 0, by omega, by decide, fun hz => by omega, fun _ => rfl, rfl, r2, fun i hi => ?_⟩ hP hS hl
        by_cases c9 : i < a
        · rw [r4 5 i (by omega) (by omega)]
          exact i7 i c9
        · have := r3 (i - a) (by omega)
          rw [show a + (i - a) = i by omega] at this
          exact this
      refine lv_iload hx hb dL_load_27 (lv_at hl 1 rfl) ?_
      refine lv_bipush (v := I 8) hx hb dL_load_29 (by decide) ?_
      refine rmN hx hb (by omega) (by omega) dL_load_31 ?_
      refine lv_bipush (v := I 7) hx hb dL_load_32 (by decide) ?_
      have ek : k % 8 = cc := by omega
      refine lv_icmp_eq (tgt := 51) hx hb dL_load_34 (by decide) (fun c9 => ?_) (fun c9 => ?_)
      · exact app _ _ (Or.inl (by have := (I_inj (by omega) (by omega)).mp c9; omega)) hP hS
      · have c7 : cc ≠ 7 := fun z => c9 (by rw [ek, z])
        refine lv_iload hx hb dL_load_37 (lv_at hl 1 rfl) ?_
        refine lv_aload_n hx hb dL_load_39 rfl (lv_at hl 3 rfl) ?_
        refine ggV (As := []) (rest := [.int (I k)]) (wc := []) (wr := Wf h m f) Fl0 (k_J0_length_8abf5 l (D := D) (cs := cs) t L g) TF_fz (Fz.go TF_fz hXs (wc := []) (wr := Wf h m f) (hDz h) hS hA) hP (hDz h) hS hA (TF_rcv hXs hS) tw_3_63 tw_3_60 tw_3_61 tw_3_62 tw_1_15 yd_J0_length_8abf5 ⟨(Nat.le_of_ble_eq_true rfl), (Nat.le_of_ble_eq_true rfl)⟩ ⟨Nat.le_refl _, Nat.le_refl _⟩ rfl hl.1 rfl (Nat.le_of_ble_eq_true rfl) dL_load_40 (fun H locs rv w1 hw hP hD hS => ?_)
        obtain ⟨rfl, rfl⟩ := hw
        refine lv_iconst (v := I 1) hx hb dL_load_43 (by decide) ?_
        refine lv_isub hx hb dL_load_44 ?_
        have eL : I L - I 1 = I (L - 1) := I_sub (by omega)
        refine lv_nmi (y := I (L - 1)) eL.symm ?_
        refine lv_icmp_eq (tgt := 51) hx hb dL_load_45 (by decide) (fun c9 => ?_) (fun c9 => ?_)
        · exact app _ _ (Or.inr (by have := (I_inj (by omega) (by omega)).mp c9; omega)) hP hS
        · have cL : k + 1 ≠ L := fun z => c9 (by rw [show k = L - 1 by omega])
          refine lv_goto (tgt := 59) hx hb dL_load_48 (by decide) ?_
          exact fin y h _ _ _ ⟨a, cc + 1, by omega, by omega, fun _ => a8, fun z => absurd z cL, hw9, i6, i7⟩ hP hS hl
  refine lv_lconst (v := (0 : Int64)) hx hb dL_load_0 (by decide) ?_
  refine lv_lstore_n (lv' := [(2, .long (0 : Int64)), (0, .ref (adh 0)), (1, .ref t)]) hx hb dL_load_1 rfl hl (by decide) rfl (fun ls hl => ?_)
  refine lv_iconst (v := I 0) hx hb dL_load_2 (by decide) ?_
  refine lv_istore (lv' := [(4, .int (I 0)), (2, .long (0 : Int64)), (0, .ref (adh 0)), (1, .ref t)]) hx hb dL_load_3 hl (by decide) rfl (fun ls hl => ?_)
  exact c_5 L 0 0 h _ _ _ (by omega) ⟨0, 0, rfl, by decide, fun _ => rfl, fun _ => rfl, rfl, e1, fun i hi => absurd hi (Nat.not_lt_zero _)⟩ hP hS hl
