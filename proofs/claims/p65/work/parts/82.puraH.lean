/-! PURE: predictions -/
def AnsP (x h : MM) (w : Nat → Int32) (c : Option (Int32 × MM × MM)) (d : Option (Int32 × MM)) : Prop := ∃ (v : Int32) (h' f' x' : MM) (w' : Nat → Int32), c = some (v, h', f') ∧ d = some (v, pw x' w') ∧ (∀ i : Nat, i < 640 → w' i = w i) ∧ HF h h' ∧ XK x x'
theorem fore_p {m : MM} {w : Nat → Int32} (hR : R m w) (x h f : MM) {T : Nat} (hT : Rn T (w 23)) : ∃ (f1 : MM) (J : Nat) (f' : MM) (w' : Nat → Int32) (x1 x' h' : MM) (o' : Option (Nat × Nat × Nat)), D_X6_copyFrom f m = some f1 ∧ D_X3_goOn h m f1 = some (h', f') ∧ D_X10_goesAside (pw x w) = some (pw x1 w) ∧ D_X10_runs (1000 : Int32) (pw x1 w) = some (I J, pw x' w') ∧ R f' w' ∧ Rn (T + 1199000) (w' 23) ∧ HF h h' ∧ D_X10_next (pw x' w') = some (rOf o') ∧ Good w' o' ∧ J ≤ 1000 ∧ (J < 1000 → o' = none) ∧ gi h' 3 3 = I J ∧ gi h' 3 4 = endOf w' o' ∧ ∃ (x2 : MM) (w2 : Nat → Int32), D_X10_comesBack (pw x' w') = some (pw x2 w2) ∧ (∀ i : Nat, i < 640 → w2 i = w i) ∧ XK x x2 := by
  obtain ⟨f1, c1, c2⟩ := copy_s hR f
  obtain ⟨x1, a1, a2, a3⟩ := aside_s x w
  obtain ⟨J, f', w', x', h', o', r1, r2, r3, r4, r5, r6, r7, r8, r9, r10, r11, r12⟩ := fore_s m c2 x1 h hT
  have e2 : ∀ k : Nat, k < 640 → gi x' 2 k = w k := fun k hk => by rw [r5 2 k (by omega) (by omega), a2 k hk]
  obtain ⟨x2, w2, b1, b2, b3⟩ := back_s x' w' e2
  exact ⟨f1, J, f', w', x1, x', h', o', c1, r1, a1, r2, r3, r4, r6, r7, r8, r9, r10, r11, r12, x2, w2, b1, b2, fun q k hq => by rw [b3 q k (by omega), r5 q k (by omega) (by omega), a3 q k (by omega) (by omega)]⟩
theorem AnsP.th {x h : MM} {w : Nat → Int32} {c : Option (Int32 × MM × MM)} {d : Option (Int32 × MM)} (k : Int32) (q : AnsP (th x k) h w c d) : AnsP x h w c d := by
  obtain ⟨v, h', f', x', w', q1, q2, q3, q4, q5⟩ := q
  exact ⟨v, h', f', x', w', q1, q2, q3, q4, (XK.th x k).tr q5⟩
theorem rOf_e {m : MM} {w : Nat → Int32} (h : R0 m w) {o : Option (Nat × Nat × Nat)} (hg : Good w o) : (rOf o = -1 ∧ endOf w o = w 23 ∧ o = none) ∨ (rOf o ≠ -1 ∧ endOf w o = -1 ∧ o ≠ none) := by
  match o, hg with
  | none, hg => exact Or.inl ⟨rfl, rfl, rfl⟩
  | some (a, s, t), hg => exact Or.inr ⟨rOf_ne h hg, rfl, fun z => by cases z⟩
theorem T_actionsToEnd {m : MM} {w : Nat → Int32} (hR : R m w) (x h f : MM) {T : Nat} (hT : Rn T (w 23)) (hT2 : T ≤ 400000000) : AnsP x h w (D_X9_actionsToEnd h m f) (D_X10_actionsToEnd (pw x w)) := by
  refine AnsP.th 0 ?_
  obtain ⟨f1, J, f', w', x1, x', h', o', c1, c2, c3, c4, c5, c6, c7, c8, c9, c10, c11, c12, c13, x2, w2, d1, d2, d3⟩ := fore_p hR (th x 0) h f hT
  unfold D_X9_actionsToEnd D_X10_actionsToEnd D_X3_begin
  rw [bnd_s, zeroP, c1, b1_s, b1_s, c2, b2_s, c3, b1_s, c4, b2_s, c8, b1_s, c12, c13]
  rcases rOf_e c5.r0 c9 with ⟨e1, e2, -⟩ | ⟨e1, e2, -⟩
  · rw [e2, if_neg (c6.ne (by omega)), e1, if_pos rfl, d1, b1_s]
    exact ⟨_, _, _, _, _, rfl, rfl, d2, c7, d3⟩
  · rw [e2, if_pos rfl, if_neg e1, d1, b1_s]
    exact ⟨_, _, _, _, _, rfl, rfl, d2, c7, d3⟩
/-- the reference's time at the end -/
theorem endT {m : MM} {w' : Nat → Int32} (hR : R m w') {x x' : MM} {w : Nat → Int32} {J : Nat} {o' : Option (Nat × Nat × Nat)} (c4 : D_X10_runs (1000 : Int32) (pw x w) = some (I J, pw x' w')) (c8 : D_X10_next (pw x' w') = some (rOf o')) (c9 : Good w' o') (c10 : J ≤ 1000) (c11 : J < 1000 → o' = none) : D_X10_endTime (pw x w) = some (endOf w' o', pw x' w') := by
  unfold D_X10_endTime D_X10_ends
  rw [c4, b2_s]
  by_cases c : J < 1000
  · rw [if_pos (show I J < (1000 : Int32) from (I_lt (b := 1000) (by omega) (by decide)).mpr c), b2_s, if10, giP, c11 c]
    rfl
  · rw [if_neg (show ¬ I J < (1000 : Int32) from fun z => c ((I_lt (b := 1000) (by omega) (by decide)).mp z)), c8, b1_s]
    rcases rOf_e hR.r0 c9 with ⟨e1, e2, -⟩ | ⟨e1, e2, -⟩
    · rw [if_pos e1, b2_s, if10, giP, e2]
    · rw [if_neg e1, b2_s, if00, e2]
theorem T_timeAtEnd {m : MM} {w : Nat → Int32} (hR : R m w) (x h f : MM) {T : Nat} (hT : Rn T (w 23)) : AnsP x h w (D_X9_timeAtEnd h m f) (D_X10_timeAtEnd (pw x w)) := by
  refine AnsP.th 0 ?_
  obtain ⟨f1, J, f', w', x1, x', h', o', c1, c2, c3, c4, c5, c6, c7, c8, c9, c10, c11, c12, c13, x2, w2, d1, d2, d3⟩ := fore_p hR (th x 0) h f hT
  unfold D_X9_timeAtEnd D_X10_timeAtEnd D_X3_begin
  rw [bnd_s, zeroP, c1, b1_s, b1_s, c2, b2_s, c3, b1_s, endT c5 c4 c8 c9 c10 c11, b2_s, c13, d1, b1_s]
  exact ⟨_, _, _, _, _, rfl, rfl, d2, c7, d3⟩
theorem T_filledAtEnd {m : MM} {w : Nat → Int32} (hR : R m w) (x h f : MM) {T : Nat} (hT : Rn T (w 23)) : AnsP x h w (D_X9_filledAtEnd h m f) (D_X10_filledAtEnd (pw x w)) := by
  refine AnsP.th 0 ?_
  obtain ⟨f1, J, f', w', x1, x', h', o', c1, c2, c3, c4, c5, c6, c7, c8, c9, c10, c11, c12, c13, x2, w2, d1, d2, d3⟩ := fore_p hR (th x 0) h f hT
  have v5 := c5.r0.vc.2.2.2.2.1
  have ec : cntP (tb (gl f' 36 8)) 64 = saC w' 1 := cnt_bits (by omega) (fun k hk => by
    rw [c5.r0.fl' hk]
    exact and_congr_right (fun _ => ⟨fun z => decide_eq_true z, fun z => of_decide_eq_true z⟩))
  unfold D_X9_filledAtEnd D_X10_filledAtEnd D_X3_begin
  rw [bnd_s, zeroP, c1, b1_s, b1_s, c2, b2_s, c3, b1_s, c4, b2_s, saC_x x' c5.v v5, b1_s, bitCount_eq, ec, b1_s, d1, b1_s]
  exact ⟨_, _, _, _, _, rfl, rfl, d2, c7, d3⟩
theorem moreOf_s {m : MM} {w : Nat → Int32} (hR : R m w) (x h f : MM) {T : Nat} (hT : Rn T (w 23)) {p : Nat} (hp : p < 640) : ∃ (f1 f' h' x2 : MM) (w' w2 : Nat → Int32), D_X6_copyFrom f m = some f1 ∧ D_X3_goOn h m f1 = some (h', f') ∧ R f' w' ∧ D_X10_moreOf (I p) (pw x w) = some (w' p - w p, pw x2 w2) ∧ (∀ i : Nat, i < 640 → w2 i = w i) ∧ HF h h' ∧ XK x x2 := by
  obtain ⟨f1, J, f', w', x1, x', h', o', c1, c2, c3, c4, c5, c6, c7, c8, c9, c10, c11, c12, c13, x2, w2, d1, d2, d3⟩ := fore_p hR x h f hT
  refine ⟨f1, f', h', x2, w', w2, c1, c2, c5, ?_, d2, c7, d3⟩
  unfold D_X10_moreOf
  rw [c3, b1_s, gdI (by omega) hp, bnd_s, c4, b2_s, gdI (by omega) hp, I_tnc (by omega), giP, giP, bnd_s, d1, b1_s]
theorem T_splicesAhead {m : MM} {w : Nat → Int32} (hR : R m w) (x h f : MM) {T : Nat} (hT : Rn T (w 23)) : AnsP x h w (D_X9_splicesAhead h m f) (D_X10_splicesAhead (pw x w)) := by
  refine AnsP.th 0 ?_
  obtain ⟨f1, f', h', x2, w', w2, c1, c2, c3, c4, c5, c6, c7⟩ := moreOf_s hR (th x 0) h f hT (p := 27) (by decide)
  have c4 : D_X10_moreOf (27 : Int32) (pw (th x 0) w) = _ := c4
  unfold D_X9_splicesAhead D_X10_splicesAhead D_X3_begin
  rw [fineP, b2_s, if10, c4, b2_s, c1, b1_s, b1_s, c2, b2_s, c3.r0.s27, hR.r0.s27]
  exact ⟨_, _, _, _, _, rfl, rfl, c5, c6, c7⟩
theorem T_changesAhead {m : MM} {w : Nat → Int32} (hR : R m w) (x h f : MM) {T : Nat} (hT : Rn T (w 23)) : AnsP x h w (D_X9_changesAhead h m f) (D_X10_changesAhead (pw x w)) := by
  refine AnsP.th 0 ?_
  obtain ⟨f1, f', h', x2, w', w2, c1, c2, c3, c4, c5, c6, c7⟩ := moreOf_s hR (th x 0) h f hT (p := 31) (by decide)
  have c4 : D_X10_moreOf (31 : Int32) (pw (th x 0) w) = _ := c4
  unfold D_X9_changesAhead D_X10_changesAhead D_X3_begin
  rw [fineP, b2_s, if10, c4, b2_s, c1, b1_s, b1_s, c2, b2_s, c3.r0.dn 1 (by decide), hR.r0.dn 1 (by decide)]
  exact ⟨_, _, _, _, _, rfl, rfl, c5, c6, c7⟩
theorem T_cleansAhead {m : MM} {w : Nat → Int32} (hR : R m w) (x h f : MM) {T : Nat} (hT : Rn T (w 23)) : AnsP x h w (D_X9_cleansAhead h m f) (D_X10_cleansAhead (pw x w)) := by
  refine AnsP.th 0 ?_
  obtain ⟨f1, f', h', x2, w', w2, c1, c2, c3, c4, c5, c6, c7⟩ := moreOf_s hR (th x 0) h f hT (p := 36) (by decide)
  have c4 : D_X10_moreOf (36 : Int32) (pw (th x 0) w) = _ := c4
  unfold D_X9_cleansAhead D_X10_cleansAhead D_X3_begin
  rw [fineP, b2_s, if10, c4, b2_s, c1, b1_s, b1_s, c2, b2_s, c3.r0.dn 6 (by decide), hR.r0.dn 6 (by decide)]
  exact ⟨_, _, _, _, _, rfl, rfl, c5, c6, c7⟩
