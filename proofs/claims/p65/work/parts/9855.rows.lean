/-! the law's text: a builder of pieces -/
/-- the letters of a text that is put together: l its pieces -/
def Hst (n : Nat) (f : Nat → Int32) (l : List (Nat × (Nat → Nat))) : Prop := ∃ T : Nat → Nat, (∀ j : Nat, j < n → f j = I (T j) ∧ 1 ≤ T j ∧ T j ≤ 127) ∧ Fits T 0 l n
theorem Hst.nil (f : Nat → Int32) : Hst 0 f [] := ⟨fun _ => 0, fun j hj => absurd hj (Nat.not_lt_zero _), rfl⟩
theorem Hst.cat {n k : Nat} {f f' : Nat → Int32} {l s : List (Nat × (Nat → Nat))} {g : Nat → Nat} (h : Hst n f l) (h0 : ∀ j : Nat, j < n → f' j = f j) (h1 : ∀ j : Nat, j < k → f' (n + j) = I (g j) ∧ 1 ≤ g j ∧ g j ≤ 127) (hs : Fits g 0 s k) : Hst (n + k) f' (l ++ s) := by
  obtain ⟨T, e, ht⟩ := h
  refine ⟨fun j => if j < n then T j else g (j - n), fun j hj => ?_, ?_⟩
  · by_cases c : j < n
    · show f' j = I (if j < n then T j else g (j - n)) ∧ 1 ≤ (if j < n then T j else g (j - n)) ∧ (if j < n then T j else g (j - n)) ≤ 127
      rw [if_pos c, h0 j c]
      exact e j c
    · show f' j = I (if j < n then T j else g (j - n)) ∧ 1 ≤ (if j < n then T j else g (j - n)) ∧ (if j < n then T j else g (j - n)) ≤ 127
      rw [if_neg c]
      have := h1 (j - n) (by omega)
      rw [show n + (j - n) = j by omega] at this
      exact this
  · refine fits_app l s (q := n) (fits_cg l ht (fun j _ hj => if_pos hj)) ?_
    have := fits_shift (T := fun j => if j < n then T j else g (j - n)) (p := n) s hs (fun j _ _ => by
      show (if n + j < n then T (n + j) else g (n + j - n)) = g j
      rw [if_neg (by omega), Nat.add_sub_cancel_left])
    exact this
/-- a text's letters as numbers -/
def wl (i : Nat) : List Nat := (strB.getD i []).map (fun x => x.toNatClampNeg)
theorem wl_ok : ∀ i : Nat, i < 27 → ((16 ≤ i) → ∀ j : Nat, j < strL i → strC i j = I ((wl i).getD j 0) ∧ 1 ≤ (wl i).getD j 0 ∧ (wl i).getD j 0 ≤ 127) := by decide +kernel
theorem strC_fit {i : Nat} (hi : i < 27) : sb_Fit (strC i) := fun j => by
  have key : ∀ i : Nat, i < 27 → ∀ x ∈ strB.getD i [], fits .byte (.int x) = true := by decide +kernel
  show fits .byte (.int ((strB.getD i []).getD j 0)) = true
  rw [List.getD_eq_getElem?_getD]
  cases h : (strB.getD i [])[j]? with
  | none => rfl
  | some x => exact key i hi x (List.mem_of_getElem? h)
theorem dg_le5 {v : Nat} (h : v < 100000) : sb_dg v ≤ 5 := by
  unfold sb_dg
  (repeat' split) <;> omega
def BS (cs : Nat → ClassId) (b : Nat) (l : List (Nat × (Nat → Nat))) (N : Nat) (w : va_W) : Prop := ∃ (a n m : Nat) (f : Nat → Int32), w = [(b, .inr (11, [.ref a, .int 0, .int 0, .int (I n)])), (a, .inl (cs 0, m, .inl f))] ∧ n ≤ m ∧ m ≤ 2002 ∧ sb_Fit f ∧ Hst n f l ∧ n ≤ N
/-- a made text -/
def TS (cs : Nat → ClassId) (t : Nat) (l : List (Nat × (Nat → Nat))) (N : Nat) (w : va_W) : Prop := ∃ (q n : Nat) (f : Nat → Int32), w = [(t, .inr (10, [.ref q, .int 0, .int 0, .int 0])), (q, .inl (cs 0, n, .inl f))] ∧ Hst n f l ∧ n ≤ N
section TEXT
variable {p : Program} {l : Launch} {e : Env} {R : Room} {s : State} {m : MethodId} {args : Array Value} {below : List Frame} {meth : Method} {c : Code} {H : Heap} {locs : List Loc} {cells slots : Nat} {Q : State → Prop}
variable {cc : ByteArray} {pc nL : Nat} {ls : Array Slot} {rest : List Value} {D : va_G} {cs : Nat → ClassId} {A : Nat → Prop} {wb wr : va_W} {ps : List (Nat × (Nat → Nat))} {N b t : Nat}
theorem P_comm {x y : va_W} (h : va_P D vwCl (x ++ y) H) : va_P D vwCl (y ++ x) H := (P_r h).app (P_l h)
theorem D_comm {x y : va_W} (h : va_D A (x ++ y)) : va_D A (y ++ x) := va_D.app (D_r h) (D_l h) (fun i j u v hu hv e => by
  have := h.1 _ _ v u (app_l hv) (app_r hu) e.symm
  have := (List.getElem?_eq_some_iff.mp hv).1
  omega)
/-- a text that was made stays for what does not reach it -/
theorem TF_made {B : Nat → Prop} {w : va_W} {q n : Nat} {f : Nat → Int32} (hT : ∀ v ∈ TBL, v.before args s = true) (hK : KK D cs s) (hP : va_P D vwCl w H) (i j : Nat) (hi : w[i]? = some (t, .inr (10, [.ref q, .int 0, .int 0, .int 0]))) (hj : w[j]? = some (q, .inl (cs 0, n, .inl f))) (h1 : ¬ B t) (h2 : ¬ B q) : TF t n f B s H := by
  obtain ⟨r, hr, cell, q1, q2, q3, q4⟩ := hP i _ hi
  have er : r = (RJ0, TJ0, 4) := Option.some.inj (hr.symm.trans rfl)
  subst er
  obtain ⟨hS, hfc, kC, hkC, hkind⟩ := hK.1.1 10 _ rfl
  obtain ⟨cf0, kf0, fi0, f0, hi0, hs0⟩ := hS 0 (by decide)
  obtain ⟨cf1, kf1, fi1, f1, hi1, hs1⟩ := hS 1 (by decide)
  refine ⟨⟨cell, q1, by rw [q3]; rfl, by rw [q2]; exact hfc, h1⟩, ⟨cf1, kf1, fi1, f1, cell, hi1, (u_facts hfc hkC (u_lays hT huJ0 (by decide)) hi1).1, q1, by rw [q3]; exact (fun h => by cases h), by rw [hs1]; exact q4 1 (by decide), h1⟩, q, ⟨cf0, kf0, fi0, f0, cell, hi0, (u_facts hfc hkC (u_lays hT huJ0 (by decide)) hi0).1, q1, by rw [q3]; exact (fun h => by cases h), by rw [hs0]; exact q4 0 (by decide), h1⟩, ?_⟩
  have ha : H[q]? = some (arrV (cs 0) n (fun j => .int (f j))) := hP j _ hj
  refine ⟨_, ha, (hK.1.2 0 _ rfl).1 n (fun j => .int (f j)), (fun h => by cases h), by rw [arrV_size] <;> exact Nat.le_refl _, by rw [arrV_size] <;> rfl, fun j hj => ?_, h2⟩
  unfold arrV
  rw [Array.getElem?_ofFn, dif_pos hj]
theorem TF_cg {n : Nat} {f f' : Nat → Int32} {B : Nat → Prop} {U : State} (h : TF t n f B U H) (e : ∀ j : Nat, j < n → f' j = f j) : TF t n f' B U H := by
  obtain ⟨x1, x2, tb, x3, cl0, y1, y2, y3, y4, y5, y6, y7⟩ := h
  exact ⟨x1, x2, tb, x3, cl0, y1, y2, y3, y4, y5, fun j hj => (y6 j hj).trans (congrArg (fun z => some (Value.int z)) (e j hj).symm), y7⟩
theorem SS.sf (h : SS D A s s.heap) {i : Nat} (hi : 16 ≤ i ∧ i < 27) : SF D i A s s.heap := h.2.2.2.2.2.2.2.2.1 i hi.1 hi.2
/-- a constant is put behind a builder -/
theorem apC (F : Fl p m c cc nL s args RL D cs A) (hB : BS cs b ps N wb) {i : Nat} (hi : 16 ≤ i ∧ i < 27) (sp : List (Nat × (Nat → Nat))) (hsp : Fits (fun j => (wl i).getD j 0) 0 sp (strL i)) (hP : va_P D vwCl (wb ++ wr) H) (hD : va_D A (wb ++ wr)) (hS : va_S A s.heap H locs) (hA : ∀ q : Nat, s.heap.size ≤ q → A q) (hR : 6 ≤ R.frames ∧ 241 ≤ R.locals) (hcs : cells + 1 ≤ R.cells ∧ slots + 2002 ≤ R.slots) (N' : Nat) (hN : N + strL i ≤ N' ∧ N' ≤ 1000) (hsize : ls.size = nL) (hcat : (rest.map fun v => v.category).sum ≤ 8) (hdg : decode cc pc = .ok (.invokevirtual 38, 3))
    (kk : ∀ (H1 : Heap) (locs1 : List Loc) (wb1 : va_W), BS cs b (ps ++ sp) N' wb1 → va_P D vwCl (wb1 ++ wr) H1 → va_D A (wb1 ++ wr) → va_S A s.heap H1 locs1 → W p l e R s m args below meth c H1 locs1 (cells + 1) (slots + 2002) Q (F0 m (pc + 3) ls (.ref b :: rest))) : W p l e R s m args below meth c H locs cells slots Q (F0 m pc ls (.ref (sK D i) :: .ref b :: rest)) := by
  obtain ⟨a, n, k, f, rfl, g1, g2, g3, g4, g5⟩ := hB
  have hX : TF (sK D i) (strL i) (strC i) (va_A _ H.size) s H := Fz.go TF_fz (TF_of (SS.sf F.2.2.2.2.2.2 hi)) hD hS hA
  refine ggV (As := [.ref (sK D i)]) (rest := rest) F (k_J4_append_15ec4 l (sK D i) (strL i) (strC i) b a n k f g1 g2 g3 (strC_fit hi.2) (by omega)) TF_fz hX hP hD hS hA (va_recv F.2.2.2.2.2.1.1 hP rfl (q0 := 0) rfl) tw_4_64 tw_4_61 tw_4_62 tw_4_63 tw_1_14 yd_J4_append_15ec4 hR hcs rfl hsize rfl hcat hdg (fun H1 locs1 rv w1 hw hP hD hS => ?_)
  obtain ⟨rfl, a', m', f', rfl, r1, r2, r3, r4, r5⟩ := hw
  refine kk H1 locs1 _ ⟨a', n + strL i, m', f', rfl, r1, r2, r3, Hst.cat g4 r4 (fun j hj => ?_) hsp, by omega⟩ hP hD hS
  rw [r5 j hj]
  exact wl_ok i hi.2 hi.1 j hj
/-- a number -/
theorem apN (F : Fl p m c cc nL s args RL D cs A) (hB : BS cs b ps N wb) {v : Nat} (hv : v < 100000) (hP : va_P D vwCl (wb ++ wr) H) (hD : va_D A (wb ++ wr)) (hS : va_S A s.heap H locs) (hA : ∀ q : Nat, s.heap.size ≤ q → A q) (hR : 6 ≤ R.frames ∧ 241 ≤ R.locals) (hcs : cells + 1 ≤ R.cells ∧ slots + 2002 ≤ R.slots) (N' : Nat) (hN : N + 5 ≤ N' ∧ N' ≤ 1000) (hsize : ls.size = nL) (hcat : (rest.map fun v => v.category).sum ≤ 8) (hdg : decode cc pc = .ok (.invokevirtual 47, 3))
    (kk : ∀ (H1 : Heap) (locs1 : List Loc) (wb1 : va_W), BS cs b (ps ++ [Dp v]) N' wb1 → va_P D vwCl (wb1 ++ wr) H1 → va_D A (wb1 ++ wr) → va_S A s.heap H1 locs1 → W p l e R s m args below meth c H1 locs1 (cells + 1) (slots + 2002) Q (F0 m (pc + 3) ls (.ref b :: rest))) : W p l e R s m args below meth c H locs cells slots Q (F0 m pc ls (.int (I v) :: .ref b :: rest)) := by
  obtain ⟨a, n, k, f, rfl, g1, g2, g3, g4, g5⟩ := hB
  have hd : sb_dg v ≤ 5 := dg_le5 hv
  refine ggV (As := [.int (I v)]) (rest := rest) F (k_J4_append_bf812 l v b a n k f g1 g2 g3 hv (by omega)) X0_fz trivial hP hD hS hA (va_recv F.2.2.2.2.2.1.1 hP rfl (q0 := 0) rfl) tw_4_168 tw_4_165 tw_4_166 tw_4_167 tw_1_14 yd_J4_append_bf812 hR hcs rfl hsize rfl hcat hdg (fun H1 locs1 rv w1 hw hP hD hS => ?_)
  obtain ⟨rfl, a', m', f', rfl, r1, r2, r3, r4, r5⟩ := hw
  refine kk H1 locs1 _ ⟨a', n + sb_dg v, m', f', rfl, r1, r2, r3, Hst.cat g4 r4 (fun j hj => ⟨r5 j hj, ?_⟩) ⟨fun j hj => by rw [Nat.zero_add]; rfl, by rw [Nat.zero_add]; rfl⟩, by omega⟩ hP hD hS
  unfold sb_dec
  omega
/-- the text so far -/
theorem apT (F : Fl p m c cc nL s args RL D cs A) (hB : BS cs b [] 0 wb) (hW : TS cs t ps N wr) (hP : va_P D vwCl (wb ++ wr) H) (hD : va_D A (wb ++ wr)) (hS : va_S A s.heap H locs) (hA : ∀ q : Nat, s.heap.size ≤ q → A q) (hR : 6 ≤ R.frames ∧ 241 ≤ R.locals) (hcs : cells + 1 ≤ R.cells ∧ slots + 2002 ≤ R.slots) (hN : N ≤ 1000) (hsize : ls.size = nL) (hcat : (rest.map fun v => v.category).sum ≤ 8) (hdg : decode cc pc = .ok (.invokevirtual 38, 3))
    (kk : ∀ (H1 : Heap) (locs1 : List Loc) (wb1 : va_W), BS cs b ps N wb1 → va_P D vwCl (wb1 ++ wr) H1 → va_D A (wb1 ++ wr) → va_S A s.heap H1 locs1 → W p l e R s m args below meth c H1 locs1 (cells + 1) (slots + 2002) Q (F0 m (pc + 3) ls (.ref b :: rest))) : W p l e R s m args below meth c H locs cells slots Q (F0 m pc ls (.ref t :: .ref b :: rest)) := by
  obtain ⟨a, n, k, f, rfl, g1, g2, g3, g4, g5⟩ := hB
  obtain ⟨q, n2, f2, rfl, h4, h5⟩ := hW
  have n0 : n = 0 := by omega
  subst n0
  have hX : TF t n2 f2 (va_A _ H.size) s H := TF_made F.2.2.2.2.1 F.2.2.2.2.2.1 (P_r hP) 0 1 rfl rfl (vA_out hP hD (k := 0) rfl).2 (vA_out hP hD (k := 1) rfl).2
  have hf2 : sb_Fit (fun j => if j < n2 then f2 j else 0) := fun j => by
    obtain ⟨T, e1, -⟩ := h4
    show fits .byte (.int (if j < n2 then f2 j else 0)) = true
    by_cases c : j < n2
    · rw [if_pos c, (e1 j c).1]
      exact fit_d _ (by have := (e1 j c).2.2; omega)
    · rw [if_neg c]
      rfl
  have hX := TF_cg (f' := fun j => if j < n2 then f2 j else 0) hX (fun j hj => if_pos hj)
  refine ggV (As := [.ref t]) (rest := rest) F (k_J4_append_15ec4 l t n2 _ b a 0 k f g1 g2 g3 hf2 (by omega)) TF_fz hX hP hD hS hA (va_recv F.2.2.2.2.2.1.1 hP rfl (q0 := 0) rfl) tw_4_64 tw_4_61 tw_4_62 tw_4_63 tw_1_14 yd_J4_append_15ec4 hR hcs rfl hsize rfl hcat hdg (fun H1 locs1 rv w1 hw hP hD hS => ?_)
  obtain ⟨rfl, a', m', f', rfl, r1, r2, r3, r4, r5⟩ := hw
  obtain ⟨T, e1, e2⟩ := h4
  refine kk H1 locs1 _ ⟨a', 0 + n2, m', f', rfl, r1, r2, r3, ⟨T, fun j hj => ?_, by rw [Nat.zero_add]; exact e2⟩, by omega⟩ hP hD hS
  have hj : j < n2 := by omega
  have := r5 j hj
  rw [Nat.zero_add, if_pos hj] at this
  rw [this]
  exact e1 j hj
/-- a new builder -/
theorem nwB (F : Fl p m c cc nL s args RL D cs A) (hP : va_P D vwCl wr H) (hD : va_D A wr) (hS : va_S A s.heap H locs) (hA : ∀ q : Nat, s.heap.size ≤ q → A q) (hR : 6 ≤ R.frames ∧ 241 ≤ R.locals) (hcs : cells + 2 ≤ R.cells ∧ slots + 20 ≤ R.slots) (hsize : ls.size = nL) (hcat : (rest.map fun v => v.category).sum ≤ 7) (hd1 : decode cc pc = .ok (.new 33, 3)) (hd2 : decode cc (pc + 3) = .ok (.dup, 1)) (hd3 : decode cc (pc + 4) = .ok (.invokespecial 35, 3))
    (kk : ∀ (b : Nat) (H1 : Heap) (locs1 : List Loc) (wb1 : va_W), BS cs b [] 0 wb1 → va_P D vwCl (wb1 ++ wr) H1 → va_D A (wb1 ++ wr) → va_S A s.heap H1 locs1 → W p l e R s m args below meth c H1 locs1 (cells + 2) (slots + 20) Q (F0 m (pc + 7) ls (.ref b :: rest))) : W p l e R s m args below meth c H locs cells slots Q (F0 m pc ls rest) := by
  obtain ⟨hx, hb, hml, hown, hT, hK, hSS⟩ := id F
  refine va_new (ci := 11) (fs := [.null, .int 0, .int 0, .int 0]) (C := RJ4) (T := TJ4) (N := 4) hx hb hT huJ4 tyJ4 tyJ4_ok hown (hT _ tw_4_30) (hT _ tw_4_31) (hT _ tw_1_14) hK.1 hP hD hS hA rfl dfJ4 (by omega) (by omega) hd1 (fun b H hP hD hS => ?_)
  refine lv_dup hx hb hd2 rfl ?_
  refine ggI (As := []) (rest := .ref b :: rest) (wc := [(b, .inr (11, [.null, .int 0, .int 0, .int 0]))]) (wr := wr) F (k_J4_init_da8c8 l (D := D) (cs := cs) b) X0_fz trivial (P_comm hP) (D_comm hD) hS hA tw_4_34 tw_4_32 tw_4_33 tw_1_14 yd_J4_init_da8c8 (by decide) ⟨by omega, by omega⟩ ⟨by omega, by omega⟩ rfl hsize rfl ?_ hd3 (fun H1 locs1 rv w1 hw hP hD hS => ?_)
  · show 1 + (rest.map fun v => v.category).sum ≤ 8
    omega
  obtain ⟨rfl, q, rfl⟩ := hw
  exact kk b H1 locs1 _ ⟨q, 0, 16, fun _ => 0, rfl, by omega, by omega, fun _ => rfl, Hst.nil _, Nat.le_refl _⟩ hP hD hS
/-- a text out of a builder -/
theorem toT (F : Fl p m c cc nL s args RL D cs A) (hB : BS cs b ps N wb) (hP : va_P D vwCl (wb ++ wr) H) (hD : va_D A (wb ++ wr)) (hS : va_S A s.heap H locs) (hA : ∀ q : Nat, s.heap.size ≤ q → A q) (hR : 6 ≤ R.frames ∧ 241 ≤ R.locals) (hcs : cells + 2 ≤ R.cells ∧ slots + 2006 ≤ R.slots) (hsize : ls.size = nL) (hcat : (rest.map fun v => v.category).sum ≤ 8) (hdg : decode cc pc = .ok (.invokevirtual 58, 3))
    (kk : ∀ (t : Nat) (H1 : Heap) (locs1 : List Loc) (wt : va_W), TS cs t ps N wt → va_P D vwCl wt H1 → va_D A wt → va_S A s.heap H1 locs1 → W p l e R s m args below meth c H1 locs1 (cells + 2) (slots + 2006) Q (F0 m (pc + 3) ls (.ref t :: rest))) : W p l e R s m args below meth c H locs cells slots Q (F0 m pc ls (.ref b :: rest)) := by
  obtain ⟨a, n, k, f, rfl, g1, g2, g3, g4, g5⟩ := hB
  refine ggV (As := []) (rest := rest) F (k_J4_toString_0e30d l (D := D) (cs := cs) b a n k f g1 g2 g3) X0_fz trivial hP hD hS hA (va_recv F.2.2.2.2.2.1.1 hP rfl (q0 := 0) rfl) tw_4_197 tw_4_194 tw_4_195 tw_4_196 tw_1_14 yd_J4_toString_0e30d ⟨by omega, by omega⟩ hcs rfl hsize rfl hcat hdg (fun H1 locs1 rv w1 hw hP hD hS => ?_)
  obtain ⟨t, q, f', rfl, rfl, r4⟩ := hw
  obtain ⟨T, e1, e2⟩ := g4
  have hP := P_l hP
  have hD := D_l hD
  exact kk t H1 locs1 [(t, .inr (10, [.ref q, .int 0, .int 0, .int 0])), (q, .inl (cs 0, n, .inl f'))] ⟨q, n, f', rfl, ⟨T, fun j hj => by rw [r4 j hj]; exact e1 j hj, e2⟩, g5⟩ (P_l (wr := [(b, .inr (11, [.ref a, .int 0, .int 0, .int (I n)])), (a, .inl (cs 0, k, .inl f))]) hP) (D_l (wr := [(b, .inr (11, [.ref a, .int 0, .int 0, .int (I n)])), (a, .inl (cs 0, k, .inl f))]) hD) hS
/-- the script's cell, as a number -/
noncomputable def cv (D : va_G) (i : Nat) : Nat := match D_L_cell D (I i) with
  | some v => v.toNatClampNeg
  | none => 0
theorem cv_s {D : va_G} (hL : sL D ≤ 260) {i : Nat} (hi : i < 100000) : cv D i < 100000 ∧ D_L_cell D (I i) = some (I (cv D i)) := by
  obtain ⟨k, k1, k2⟩ := cell_s hL hi
  have e : cv D i = k := by
    unfold cv
    rw [k2]
    exact I_tnc (by omega)
  rw [e]
  exact ⟨k1, k2⟩
theorem clN (F : Fl p m c cc nL s args RL D cs A) (hL : sL D ≤ 260) {i : Nat} (hi : i < 100000) (hP : va_P D vwCl wr H) (hD : va_D A wr) (hS : va_S A s.heap H locs) (hA : ∀ q : Nat, s.heap.size ≤ q → A q) (hR : 6 ≤ R.frames ∧ 241 ≤ R.locals) (hcs : cells ≤ R.cells ∧ slots ≤ R.slots) (hsize : ls.size = nL) (hcat : (rest.map fun v => v.category).sum ≤ 8) (hdg : decode cc pc = .ok (.invokestatic 41, 3))
    (kk : ∀ (H1 : Heap) (locs1 : List Loc), va_P D vwCl wr H1 → va_S A s.heap H1 locs1 → W p l e R s m args below meth c H1 locs1 cells slots Q (F0 m (pc + 3) ls (.int (I (cv D i)) :: rest))) : W p l e R s m args below meth c H locs cells slots Q (F0 m pc ls (.int (I i) :: .ref (sB D) :: rest)) := by
  exact lrS (As := [.ref (sB D), .int (I i)]) (rest := rest) F (c_L_cell l (D := D) (cs := cs) (w := wr) (I i) (cv_s hL hi).2) hP hD hS (vA_w hD hS hA) tw_4_160 tw_4_158 tw_4_159 tw_1_0 yd_L_cell ⟨by omega, by omega⟩ hcs rfl hsize rfl hcat hdg (fun H1 locs1 h1 h2 => kk H1 locs1 h1 h2)
theorem rmN (hx : p.tables.exec = Jvm.exec) (hb : c.code = cc) {a q : Nat} (ha : a < 2147483648) (hq : 0 < q ∧ q < 2147483648) (hdg : decode cc pc = .ok (.irem, 1)) (kk : W p l e R s m args below meth c H locs cells slots Q (F0 m (pc + 1) ls (.int (I (a % q)) :: rest))) : W p l e R s m args below meth c H locs cells slots Q (F0 m pc ls (.int (I q) :: .int (I a) :: rest)) := by
  refine lv_irem hx hb hdg (fun z => by have := (I_ne0 (k := q) (by omega)).mp z; omega) ?_
  exact lv_nmi (irem ha hq.2).symm kk
theorem adN (hx : p.tables.exec = Jvm.exec) (hb : c.code = cc) {a q : Nat} (hdg : decode cc pc = .ok (.iadd, 1)) (kk : W p l e R s m args below meth c H locs cells slots Q (F0 m (pc + 1) ls (.int (I (a + q)) :: rest))) : W p l e R s m args below meth c H locs cells slots Q (F0 m pc ls (.int (I q) :: .int (I a) :: rest)) := by
  refine lv_iadd hx hb hdg ?_
  exact lv_nmi (I_add a q).symm kk
end TEXT
