/-! contracts that make cells and answer; a text that stays -/
def Fz (X : (Nat → Prop) → State → Heap → Prop) : Prop := (∀ (A : Nat → Prop) (u U : State) (H : Heap), u.vm.Alike U.vm → X A u H → X A U H) ∧ (∀ (A : Nat → Prop) (U : State) (H H1 : Heap), X A U H → (∀ a : Nat, a < H.size → ¬ A a → H1[a]? = H[a]?) → X A U H1) ∧ (∀ (A B : Nat → Prop) (U : State) (H : Heap), X A U H → (∀ q, B q → A q) → X B U H)
def X0 : (Nat → Prop) → State → Heap → Prop := fun _ _ _ => True
theorem X0_fz : Fz X0 := ⟨fun _ _ _ _ _ _ => trivial, fun _ _ _ _ _ _ => trivial, fun _ _ _ _ _ _ => trivial⟩
/-- a text that stays: t its address, w letters, g its bytes -/
def TF (t w : Nat) (g : Nat → Int32) : (Nat → Prop) → State → Heap → Prop := fun A U H => va_O "java/lang/String" t A U H ∧ va_OF "java/lang/String" "coder" "B" (.int 0) t A U H ∧ ∃ tb : Nat, va_OF "java/lang/String" "value" "[B" (.ref tb) t A U H ∧ va_T .byte tb w (fun j => .int (g j)) A U H
theorem TF_fz {t w : Nat} {g : Nat → Int32} : Fz (TF t w g) := by
  refine ⟨fun A u U H hvm h => ?_, fun A U H H1 h hq => ?_, fun A B U H h hAB => ?_⟩
  · obtain ⟨h1, h2, tb, h3, h4⟩ := h
    exact ⟨va_O.moved hvm h1, va_OF.moved hvm h2, tb, va_OF.moved hvm h3, va_T.moved hvm h4⟩
  · obtain ⟨h1, h2, tb, h3, h4⟩ := h
    exact ⟨h1.kept hq, h2.kept hq, tb, h3.kept hq, h4.kept hq⟩
  · obtain ⟨h1, h2, tb, h3, h4⟩ := h
    exact ⟨h1.narrow hAB, h2.narrow hAB, tb, h3.narrow hAB, h4.narrow hAB⟩
theorem TF_of {D : va_G} {i : Nat} {A : Nat → Prop} {U : State} {H : Heap} (h : SF D i A U H) : TF (sK D i) (strL i) (strC i) A U H := ⟨h.1, h.2.1, sV D i, h.2.2.1, h.2.2.2⟩
/-- a contract: from the world w, where X stays, it comes to a world w1 with the answer rv and Pw rv w1, whose cells are w's or new -/
def CtG (l : Launch) (y : MethodName) (cc : ByteArray) (n : Nat) (ret : Option FieldType) (fr lo mc ms : Nat) (D : va_G) (cs : Nat → ClassId) (X : (Nat → Prop) → State → Heap → Prop) (av : List Value) (w : va_W) (Pw : Option Value → va_W → Prop) : Prop :=
  ∀ sz : Nat, Met l y (wsOf y cc n ret) ({ frames := fr, cells := mc, slots := ms, locals := lo }) (va_Pc av (fun U => PC D cs w sz U ∧ X (va_A w sz) U U.heap)) (fun _ st oc t => (∃ (rv : Option Value) (w1 : va_W), oc = .returned rv ∧ Pw rv w1 ∧ va_P D vwCl w1 t.heap ∧ va_D (va_A w sz) w1) ∧ va_F (va_A w sz) st t) mc ms (va_A w sz)
theorem CtG.ofW {l : Launch} {y : MethodName} {cc : ByteArray} {n : Nat} {ret : Option FieldType} {fr lo mc ms : Nat} {D : va_G} {cs : Nat → ClassId} {X : (Nat → Prop) → State → Heap → Prop} {av : List Value} {w : va_W} {Pw : Option Value → va_W → Prop} (hy : plainName y.cls = true) (hfit : (lg_sl av).length ≤ n)
    (body : ∀ (p : Program) (e : Env) (s : State) (m : MethodId) (below : List Frame) (meth : Method) (c : Code) (A : Nat → Prop) (Q : State → Prop) (ls : Array Slot) (args : Array Value),
      Fl p m c cc n s args y.cls D cs A → meth.sig.returnType = ret → meth.locks = false → va_P D vwCl w s.heap → va_D A w → X A s s.heap → va_S A s.heap s.heap [] → (∀ q : Nat, s.heap.size ≤ q → A q) → lv_has ls n (lv_args 0 av) → meth.name = y.name →
      (∀ (H : Heap) (locs : List Loc) (cells slots : Nat) (g : JFrame) (rv : Option Value) (w1 : va_W), Pw rv w1 → va_P D vwCl w1 H → va_D A w1 → va_S A s.heap H locs → cells ≤ mc → slots ≤ ms → (∀ Qc : Array Value → State → Outcome → State → Prop, (∀ t : State, t.heap = H → s.WarmedH t.vm → Qc args s (.returned rv) t) → W p l e ({ frames := fr, cells := mc, slots := ms, locals := lo }) s m args below meth c H locs mc ms (MQ below Qc args s mc ms A) g) → W p l e ({ frames := fr, cells := mc, slots := ms, locals := lo }) s m args below meth c H locs cells slots Q g) →
      W p l e ({ frames := fr, cells := mc, slots := ms, locals := lo }) s m args below meth c s.heap [] 0 0 Q (F0 m 0 ls [])) : CtG l y cc n ret fr lo mc ms D cs X av w Pw := by
  intro sz
  refine Met.ofW (cc := cc) (maxL := n) (ret := ret) hy rfl ?_
  intro p e s m args below meth c s₁ B hml hv
  obtain ⟨rfl, ⟨hsz, hP, hKK, hD0, hSS⟩, hX⟩ := hv
  have hts := atoms_spec (ws := wsOf y cc n ret) B.pre
  have hown : s.vm.findClass y.cls = some m.cls := findClass_of_methodNamed B.named
  subst hsz
  have hD := hD0.self (sz := s.heap.size)
  rw [lg_entry_eq]
  refine body p e s m below meth c (va_A w s.heap.size) _ _ av.toArray ⟨B.exec, B.bytes, hml, hown, fun v hv => hts v (List.mem_cons_of_mem _ hv), hKK, hSS⟩ B.returns B.notSynchronized hP hD hX va_S.rf (fun q h => Or.inr h) (lv_entry av hfit) (name_of_methodNamed B.named B.method).1 (fun H locs cells slots g rv w1 hw hP' hD' hS' hc1 hs1 hw2 => ?_)
  exact W.widen hc1 hs1 (hw2 _ (fun t ht hW => ⟨⟨rv, w1, rfl, hw, by rw [ht]; exact hP', hD'⟩, hS'.F ht⟩))
section CG
variable {p : Program} {l : Launch} {e : Env} {R : Room} {s : State} {m : MethodId} {args : Array Value} {below : List Frame} {meth : Method} {c : Code} {H : Heap} {locs : List Loc} {cells slots : Nat} {Q : State → Prop}
variable {cc : ByteArray} {pc : Nat} {ls : Array Slot} {rest : List Value} {D : va_G} {cs : Nat → ClassId} {A : Nat → Prop} {wc wr : va_W} {X : (Nat → Prop) → State → Heap → Prop} {Pw : Option Value → va_W → Prop}
variable {y : MethodName} {cb : ByteArray} {nb fr lo mc ms : Nat} {ret : Option FieldType} {As : List Value}
theorem app_l {k : Nat} {q : Nat × va_E} (h : wc[k]? = some q) : (wc ++ wr)[k]? = some q := by
  rw [List.getElem?_append_left (List.getElem?_eq_some_iff.mp h).1]
  exact h
theorem app_r {k : Nat} {q : Nat × va_E} (h : wr[k]? = some q) : (wc ++ wr)[wc.length + k]? = some q := by
  rw [List.getElem?_append_right (Nat.le_add_right _ _), Nat.add_sub_cancel_left]
  exact h
theorem P_l (hP : va_P D vwCl (wc ++ wr) H) : va_P D vwCl wc H := fun k q h => hP k q (app_l h)
theorem P_r (hP : va_P D vwCl (wc ++ wr) H) : va_P D vwCl wr H := fun k q h => hP _ q (app_r h)
theorem D_l (hD : va_D A (wc ++ wr)) : va_D A wc := ⟨fun i j p q hi hj => hD.1 i j p q (app_l hi) (app_l hj), fun k q hk => hD.2 k q (app_l hk)⟩
theorem D_r (hD : va_D A (wc ++ wr)) : va_D A wr := ⟨fun i j p q hi hj e => by
  have := hD.1 _ _ p q (app_r hi) (app_r hj) e
  omega, fun k q hk => hD.2 _ q (app_r hk)⟩
theorem vA_in (hD : va_D A (wc ++ wr)) (hS : va_S A s.heap H locs) (hA : ∀ q : Nat, s.heap.size ≤ q → A q) : ∀ q : Nat, va_A wc H.size q → A q := fun q h => by
  rcases h with ⟨k, z, h⟩ | h
  · exact (D_l hD).2 k _ h
  · exact hA q (Nat.le_trans hS.1 h)
theorem vA_out (hP : va_P D vwCl (wc ++ wr) H) (hD : va_D A (wc ++ wr)) {k : Nat} {q : Nat × va_E} (hq : wr[k]? = some q) : q.1 < H.size ∧ ¬ va_A wc H.size q.1 := by
  have hl := (hP _ q (app_r hq)).lt
  refine ⟨hl, fun h => ?_⟩
  rcases h with ⟨k2, e, h⟩ | h
  · have := hD.1 _ _ q (q.1, e) (app_r hq) (app_l h) rfl
    have := (List.getElem?_eq_some_iff.mp h).1
    omega
  · omega
theorem gjoin {w1 : va_W} {H1 : Heap} (hP : va_P D vwCl (wc ++ wr) H) (hD : va_D A (wc ++ wr)) (hk : ∀ q : Nat, q < H.size → ¬ va_A wc H.size q → H1[q]? = H[q]?) (hF : ∀ q, va_A wc H.size q → A q) (hP1 : va_P D vwCl w1 H1) (hD1 : va_D (va_A wc H.size) w1) : va_P D vwCl (w1 ++ wr) H1 ∧ va_D A (w1 ++ wr) := by
  refine ⟨hP1.app (fun k q hq => ?_), va_D.app (hD1.weaken (fun k q _ h => hF q.1 h)) (D_r hD) (fun i j x y hx hy hxy => ?_)⟩
  · obtain ⟨g1, g2⟩ := vA_out hP hD hq
    exact (P_r hP k q hq).kept (hk q.1 g1 g2)
  · exact (vA_out hP hD hy).2 (by rw [← hxy]; exact hD1.2 i x hx)
/-- what stayed since the method's start stays for a callee -/
theorem Fz.go (hX : Fz X) (h : X A s s.heap) (hD : va_D A (wc ++ wr)) (hS : va_S A s.heap H locs) (hA : ∀ q : Nat, s.heap.size ≤ q → A q) : X (va_A wc H.size) s H := hX.2.2 _ _ _ _ (hX.2.1 _ _ _ _ h hS.2.1) (vA_in hD hS hA)
theorem gpc_blind (hX : Fz X) {av : List Value} {w : va_W} {sz : Nat} : FrameBlind (va_Pc av (fun U => PC D cs w sz U ∧ X (va_A w sz) U U.heap)) := fun a U g mk q => ⟨(pc_blind a U g mk ⟨q.1, q.2.1⟩).1, (pc_blind a U g mk ⟨q.1, q.2.1⟩).2, hX.1 _ U (U.calling g mk a) _ (Vm.Alike.refl U.vm) q.2.2⟩
theorem gpc_at (hX : Fz X) {av : List Value} (hXs : X (va_A wc H.size) s H) (hP : va_P D vwCl (wc ++ wr) H) (hD : va_D A (wc ++ wr)) (hK : KK D cs s) (hSS : SS D A s s.heap) (hS : va_S A s.heap H locs) (hA : ∀ q : Nat, s.heap.size ≤ q → A q) : ∀ U : State, U.heap = H → s.WarmedH U.vm → va_Pc av (fun U => PC D cs wc H.size U ∧ X (va_A wc H.size) U U.heap) av.toArray U := fun U hU hW => ⟨rfl, (pc_at (av := av) (P_l hP) hK (D_l hD) hSS hS (vA_in hD hS hA) U hU hW).2, by
  have h := hX.1 _ _ _ _ hW.alike hXs
  rw [← hU] at h ⊢
  exact h⟩
theorem gcall {st0 : List Value} (hr : va_Run p l e R s m args below meth c H locs cells slots mc ms (F0 m pc ls st0) rest (fun st oc t => (∃ (rv : Option Value) (w1 : va_W), oc = .returned rv ∧ Pw rv w1 ∧ va_P D vwCl w1 t.heap ∧ va_D (va_A wc H.size) w1) ∧ va_F (va_A wc H.size) st t) (va_A wc H.size)) (hP : va_P D vwCl (wc ++ wr) H) (hD : va_D A (wc ++ wr)) (hS : va_S A s.heap H locs) (hA : ∀ q : Nat, s.heap.size ≤ q → A q)
    (kk : ∀ (H1 : Heap) (locs1 : List Loc) (rv : Option Value) (w1 : va_W), Pw rv w1 → va_P D vwCl (w1 ++ wr) H1 → va_D A (w1 ++ wr) → va_S A s.heap H1 locs1 → W p l e R s m args below meth c H1 locs1 (cells + mc) (slots + ms) Q (F0 m (pc + 3) ls (rv.toList ++ rest))) : W p l e R s m args below meth c H locs cells slots Q (F0 m pc ls st0) := by
  intro T hT X1
  obtain ⟨v, st₀, t, T', L, h0, X2, hL, e1, e2, ⟨⟨rv, w1, hv, hw, hp, hd1⟩, hz, hk⟩, st⟩ := hr T hT X1
  cases hv
  rw [h0] at hz hk
  have hF := vA_in hD hS hA
  obtain ⟨j1, j2⟩ := gjoin hP hD hk hF hp hd1
  obtain ⟨t2, a1, b1⟩ := kk T'.heap (locs ++ L) v w1 hw (by rw [e1]; exact j1) j2
    ⟨Nat.le_trans hS.1 (by rw [e1]; exact hz), fun q h1 h2 => by rw [e1, hk q (Nat.lt_of_lt_of_le h1 hS.1) (fun z => h2 (hF q z))]; exact hS.2.1 q h1 h2, fun q hq => by
      rcases List.mem_append.mp hq with h | h
      · exact hS.2.2 q h
      · exact hF _ (hL q h)⟩ T' rfl X2
  exact ⟨t2, st t2 a1, b1⟩
/-- a static method -/
theorem ggS {own : String} {nL : Nat} (F : Fl p m c cc nL s args own D cs A) {st0 : List Value} {index na : Nat} (hC : CtG l y cb nb ret fr lo mc ms D cs X As wc Pw) (hX : Fz X) (hXs : X (va_A wc H.size) s H) (hP : va_P D vwCl (wc ++ wr) H) (hD : va_D A (wc ++ wr)) (hS : va_S A s.heap H locs) (hA : ∀ q : Nat, s.heap.size ≤ q → A q)
    (hcode : Cond.code y cb nb ret ∈ TBL) (hlink : Cond.methodLink own index y ∈ TBL) (hstat : Cond.static y ∈ TBL) (hini : Cond.initialized y.cls ∈ TBL) (hd : y.cls ≠ "java/lang/invoke/MethodHandle" ∧ y.cls ≠ "java/lang/invoke/VarHandle" ∧ (parseMethodDescriptor y.desc).map (fun d => d.parameters.length) = some na)
    (hR : fr + 1 ≤ R.frames ∧ 8 + (nb + 11) + lo ≤ R.locals) (hcs : cells + mc ≤ R.cells ∧ slots + ms ≤ R.slots) (hna : As.length = na) (hsize : ls.size = nL) (hst : st0 = As.reverse ++ rest) (hcat : (rest.map fun v => v.category).sum ≤ 8) (hdg : decode cc pc = .ok (.invokestatic index, 3))
    (kk : ∀ (H1 : Heap) (locs1 : List Loc) (rv : Option Value) (w1 : va_W), Pw rv w1 → va_P D vwCl (w1 ++ wr) H1 → va_D A (w1 ++ wr) → va_S A s.heap H1 locs1 → W p l e R s m args below meth c H1 locs1 (cells + mc) (slots + ms) Q (F0 m (pc + 3) ls (rv.toList ++ rest))) : W p l e R s m args below meth c H locs cells slots Q (F0 m pc ls st0) := by
  obtain ⟨hx, hb, hml, hown, hts, hK, hSS⟩ := id F
  exact gcall (va_runS (As := As) ⟨hx, hb, hml, hown, hts⟩ (hC H.size) ⟨callB_of na hts (goodT hcode) rfl rfl rfl (F.T hini) (F.T hlink) hd hR, F.T hstat⟩ ⟨gpc_blind hX, gpc_at hX hXs hP hD hK hSS hS hA⟩ rfl hna hsize hst (lv_room hcat) hdg hcs) hP hD hS hA kk
/-- a method of an object that is known to be of class C -/
theorem ggV {own : String} {nL : Nat} (F : Fl p m c cc nL s args own D cs A) {st0 : List Value} {index na b : Nat} {C : String} (hC : CtG l y cb nb ret fr lo mc ms D cs X (.ref b :: As) wc Pw) (hX : Fz X) (hXs : X (va_A wc H.size) s H) (hP : va_P D vwCl (wc ++ wr) H) (hD : va_D A (wc ++ wr)) (hS : va_S A s.heap H locs) (hA : ∀ q : Nat, s.heap.size ≤ q → A q)
    (hrc : ∃ cell : Cell, H[b]? = some cell ∧ cell.vm.isStatics = false ∧ s.vm.findClass C = some cell.cls)
    (hcode : Cond.code y cb nb ret ∈ TBL) (hlink : Cond.methodLink own index y ∈ TBL) (him : Cond.instanceMethod y ∈ TBL) (hsel : Cond.selects C y y ∈ TBL) (hini : Cond.initialized y.cls ∈ TBL) (hd : y.cls ≠ "java/lang/invoke/MethodHandle" ∧ y.cls ≠ "java/lang/invoke/VarHandle" ∧ (parseMethodDescriptor y.desc).map (fun d => d.parameters.length) = some na)
    (hR : fr + 1 ≤ R.frames ∧ 8 + (nb + 11) + lo ≤ R.locals) (hcs : cells + mc ≤ R.cells ∧ slots + ms ≤ R.slots) (hna : As.length = na) (hsize : ls.size = nL) (hst : st0 = As.reverse ++ .ref b :: rest) (hcat : (rest.map fun v => v.category).sum ≤ 8) (hdg : decode cc pc = .ok (.invokevirtual index, 3))
    (kk : ∀ (H1 : Heap) (locs1 : List Loc) (rv : Option Value) (w1 : va_W), Pw rv w1 → va_P D vwCl (w1 ++ wr) H1 → va_D A (w1 ++ wr) → va_S A s.heap H1 locs1 → W p l e R s m args below meth c H1 locs1 (cells + mc) (slots + ms) Q (F0 m (pc + 3) ls (rv.toList ++ rest))) : W p l e R s m args below meth c H locs cells slots Q (F0 m pc ls st0) := by
  obtain ⟨hx, hb, hml, hown, hts, hK, hSS⟩ := id F
  exact gcall (va_runV (C := C) (b := b) (As := As) ⟨hx, hb, hml, hown, hts⟩ (hC H.size) ⟨callB_of na hts (goodT hcode) rfl rfl rfl (F.T hini) (F.T hlink) hd hR, F.T him, F.T hsel⟩ ⟨gpc_blind hX, hrc, gpc_at hX hXs hP hD hK hSS hS hA⟩ rfl hna hsize hst (lv_room hcat) hdg hcs) hP hD hS hA kk
/-- an inherited method -/
theorem ggU {own : String} {nL : Nat} (F : Fl p m c cc nL s args own D cs A) {st0 : List Value} {index na b : Nat} {C : String} (hC : CtG l y cb nb ret fr lo mc ms D cs X (.ref b :: As) wc Pw) (hX : Fz X) (hXs : X (va_A wc H.size) s H) (hP : va_P D vwCl (wc ++ wr) H) (hD : va_D A (wc ++ wr)) (hS : va_S A s.heap H locs) (hA : ∀ q : Nat, s.heap.size ≤ q → A q)
    (hrc : ∃ cell : Cell, H[b]? = some cell ∧ cell.vm.isStatics = false ∧ s.vm.findClass C = some cell.cls)
    (hcode : Cond.code y cb nb ret ∈ TBL) (hlink : Cond.methodLink own index y ∈ TBL) (hsame : Cond.sameMethod y.cls y.cls y.name y.desc ∈ TBL) (him : Cond.instanceMethod y ∈ TBL) (hsel : (Cond.selects C y y).before args s = true) (hini : Cond.initialized y.cls ∈ TBL) (hd : y.cls ≠ "java/lang/invoke/MethodHandle" ∧ y.cls ≠ "java/lang/invoke/VarHandle" ∧ (parseMethodDescriptor y.desc).map (fun d => d.parameters.length) = some na)
    (hR : fr + 1 ≤ R.frames ∧ 8 + (nb + 11) + lo ≤ R.locals) (hcs : cells + mc ≤ R.cells ∧ slots + ms ≤ R.slots) (hna : As.length = na) (hsize : ls.size = nL) (hst : st0 = As.reverse ++ .ref b :: rest) (hcat : (rest.map fun v => v.category).sum ≤ 8) (hdg : decode cc pc = .ok (.invokevirtual index, 3))
    (kk : ∀ (H1 : Heap) (locs1 : List Loc) (rv : Option Value) (w1 : va_W), Pw rv w1 → va_P D vwCl (w1 ++ wr) H1 → va_D A (w1 ++ wr) → va_S A s.heap H1 locs1 → W p l e R s m args below meth c H1 locs1 (cells + mc) (slots + ms) Q (F0 m (pc + 3) ls (rv.toList ++ rest))) : W p l e R s m args below meth c H locs cells slots Q (F0 m pc ls st0) := by
  obtain ⟨hx, hb, hml, hown, hts, hK, hSS⟩ := id F
  have cw : va_CU R s args own C y.cls index y y cb nb ret (wsOf y cb nb ret) ({ frames := fr, cells := mc, slots := ms, locals := lo }) mc ms na := ⟨⟨rfl, rfl, hR.1, hR.2, pay_in hts (goodT hcode), List.mem_cons_self⟩, F.T hcode, F.T hini, ⟨hd.1, hd.2.1⟩, fun sig h => by
    have h2 := hd.2.2
    rw [h] at h2
    exact (Option.some.inj h2).symm, F.T hlink, F.T hsame, va_Decl.of (F.T him) (F.T hcode), hsel, F.T him⟩
  exact gcall (va_runU (b := b) (As := As) ⟨hx, hb, hml, hown, hts⟩ (hC H.size) cw ⟨gpc_blind hX, hrc, gpc_at hX hXs hP hD hK hSS hS hA⟩ rfl hna hsize hst (lv_room hcat) hdg hcs) hP hD hS hA kk
/-- a method that another class's method overrides -/
theorem ggO {own : String} {nL : Nat} (F : Fl p m c cc nL s args own D cs A) {st0 : List Value} {index na b : Nat} {C : String} {x : MethodName} {b0 : ByteArray} {m0 : Nat} {r0 : Option FieldType} (hC : CtG l y cb nb ret fr lo mc ms D cs X (.ref b :: As) wc Pw) (hX : Fz X) (hXs : X (va_A wc H.size) s H) (hP : va_P D vwCl (wc ++ wr) H) (hD : va_D A (wc ++ wr)) (hS : va_S A s.heap H locs) (hA : ∀ q : Nat, s.heap.size ≤ q → A q)
    (hrc : ∃ cell : Cell, H[b]? = some cell ∧ cell.vm.isStatics = false ∧ s.vm.findClass C = some cell.cls)
    (hcode : Cond.code y cb nb ret ∈ TBL) (hlink : Cond.methodLink own index x ∈ TBL) (hsame : Cond.sameMethod x.cls x.cls x.name x.desc ∈ TBL) (himx : Cond.instanceMethod x ∈ TBL) (hcodex : Cond.code x b0 m0 r0 ∈ TBL) (hsel : (Cond.selects C x y).before args s = true) (him : Cond.instanceMethod y ∈ TBL) (hini : Cond.initialized y.cls ∈ TBL) (hdx : x.cls ≠ "java/lang/invoke/MethodHandle" ∧ x.cls ≠ "java/lang/invoke/VarHandle" ∧ (parseMethodDescriptor x.desc).map (fun d => d.parameters.length) = some na)
    (hR : fr + 1 ≤ R.frames ∧ 8 + (nb + 11) + lo ≤ R.locals) (hcs : cells + mc ≤ R.cells ∧ slots + ms ≤ R.slots) (hna : As.length = na) (hsize : ls.size = nL) (hst : st0 = As.reverse ++ .ref b :: rest) (hcat : (rest.map fun v => v.category).sum ≤ 8) (hdg : decode cc pc = .ok (.invokevirtual index, 3))
    (kk : ∀ (H1 : Heap) (locs1 : List Loc) (rv : Option Value) (w1 : va_W), Pw rv w1 → va_P D vwCl (w1 ++ wr) H1 → va_D A (w1 ++ wr) → va_S A s.heap H1 locs1 → W p l e R s m args below meth c H1 locs1 (cells + mc) (slots + ms) Q (F0 m (pc + 3) ls (rv.toList ++ rest))) : W p l e R s m args below meth c H locs cells slots Q (F0 m pc ls st0) := by
  obtain ⟨hx, hb, hml, hown, hts, hK, hSS⟩ := id F
  have cw : va_CU R s args own C x.cls index x y cb nb ret (wsOf y cb nb ret) ({ frames := fr, cells := mc, slots := ms, locals := lo }) mc ms na := ⟨⟨rfl, rfl, hR.1, hR.2, pay_in hts (goodT hcode), List.mem_cons_self⟩, F.T hcode, F.T hini, ⟨hdx.1, hdx.2.1⟩, fun sig h => by
    have h2 := hdx.2.2
    rw [h] at h2
    exact (Option.some.inj h2).symm, F.T hlink, F.T hsame, va_Decl.of (F.T himx) (F.T hcodex), hsel, F.T him⟩
  exact gcall (va_runU (b := b) (As := As) ⟨hx, hb, hml, hown, hts⟩ (hC H.size) cw ⟨gpc_blind hX, hrc, gpc_at hX hXs hP hD hK hSS hS hA⟩ rfl hna hsize hst (lv_room hcat) hdg hcs) hP hD hS hA kk
/-- the superclass's method -/
theorem ggU2 {own : String} {nL : Nat} (F : Fl p m c cc nL s args own D cs A) {st0 : List Value} {index na b : Nat} {C : String} {cC : ClassId} (hat : ClassAt s C cC) (hC : CtG l y cb nb ret fr lo mc ms D cs X (.ref b :: As) wc Pw) (hX : Fz X) (hXs : X (va_A wc H.size) s H) (hP : va_P D vwCl (wc ++ wr) H) (hD : va_D A (wc ++ wr)) (hS : va_S A s.heap H locs) (hA : ∀ q : Nat, s.heap.size ≤ q → A q)
    (hrc : ∃ cell : Cell, H[b]? = some cell ∧ cell.vm.isStatics = false ∧ s.vm.findClass C = some cell.cls)
    (hcode : Cond.code y cb nb ret ∈ TBL) (hlink : Cond.methodLink own index y ∈ TBL) (hsame : Cond.sameMethod y.cls y.cls y.name y.desc ∈ TBL) (hsup : Cond.superclass own y.cls ∈ TBL) (him : Cond.instanceMethod y ∈ TBL) (hini : Cond.initialized y.cls ∈ TBL) (hno : y.name ≠ "<init>") (hd : (parseMethodDescriptor y.desc).map (fun d => d.parameters.length) = some na)
    (hR : fr + 1 ≤ R.frames ∧ 8 + (nb + 11) + lo ≤ R.locals) (hcs : cells + mc ≤ R.cells ∧ slots + ms ≤ R.slots) (hna : As.length = na) (hsize : ls.size = nL) (hst : st0 = As.reverse ++ .ref b :: rest) (hcat : (rest.map fun v => v.category).sum ≤ 8) (hdg : decode cc pc = .ok (.invokespecial index, 3))
    (kk : ∀ (H1 : Heap) (locs1 : List Loc) (rv : Option Value) (w1 : va_W), Pw rv w1 → va_P D vwCl (w1 ++ wr) H1 → va_D A (w1 ++ wr) → va_S A s.heap H1 locs1 → W p l e R s m args below meth c H1 locs1 (cells + mc) (slots + ms) Q (F0 m (pc + 3) ls (rv.toList ++ rest))) : W p l e R s m args below meth c H locs cells slots Q (F0 m pc ls st0) := by
  obtain ⟨hx, hb, hml, hown, hts, hK, hSS⟩ := id F
  have cw : va_CS R s args own index y cb nb ret (wsOf y cb nb ret) ({ frames := fr, cells := mc, slots := ms, locals := lo }) mc ms na := ⟨⟨rfl, rfl, hR.1, hR.2, pay_in hts (goodT hcode), List.mem_cons_self⟩, F.T hlink, F.T hsame, F.T hsup, F.T him, F.T hini, F.T hcode, hno, fun sig h => by
    rw [h] at hd
    exact (Option.some.inj hd).symm⟩
  exact gcall (va_runSU (b := b) (As := As) hat ⟨hx, hb, hml, hown, hts⟩ (hC H.size) cw ⟨gpc_blind hX, hrc, gpc_at hX hXs hP hD hK hSS hS hA⟩ rfl hna hsize hst (lv_room hcat) hdg hcs) hP hD hS hA kk
/-- a constructor -/
theorem ggI {own : String} {nL : Nat} (F : Fl p m c cc nL s args own D cs A) {st0 : List Value} {index na b : Nat} (hC : CtG l y cb nb none fr lo mc ms D cs X (.ref b :: As) wc Pw) (hX : Fz X) (hXs : X (va_A wc H.size) s H) (hP : va_P D vwCl (wc ++ wr) H) (hD : va_D A (wc ++ wr)) (hS : va_S A s.heap H locs) (hA : ∀ q : Nat, s.heap.size ≤ q → A q)
    (hcode : Cond.code y cb nb none ∈ TBL) (hlink : Cond.methodLink own index y ∈ TBL) (him : Cond.instanceMethod y ∈ TBL) (hini : Cond.initialized y.cls ∈ TBL) (hd : y.cls ≠ "java/lang/invoke/MethodHandle" ∧ y.cls ≠ "java/lang/invoke/VarHandle" ∧ (parseMethodDescriptor y.desc).map (fun d => d.parameters.length) = some na) (hnm : y.name = "<init>")
    (hR : fr + 1 ≤ R.frames ∧ 8 + (nb + 11) + lo ≤ R.locals) (hcs : cells + mc ≤ R.cells ∧ slots + ms ≤ R.slots) (hna : As.length = na) (hsize : ls.size = nL) (hst : st0 = As.reverse ++ .ref b :: rest) (hcat : (rest.map fun v => v.category).sum ≤ 8) (hdg : decode cc pc = .ok (.invokespecial index, 3))
    (kk : ∀ (H1 : Heap) (locs1 : List Loc) (rv : Option Value) (w1 : va_W), Pw rv w1 → va_P D vwCl (w1 ++ wr) H1 → va_D A (w1 ++ wr) → va_S A s.heap H1 locs1 → W p l e R s m args below meth c H1 locs1 (cells + mc) (slots + ms) Q (F0 m (pc + 3) ls (rv.toList ++ rest))) : W p l e R s m args below meth c H locs cells slots Q (F0 m pc ls st0) := by
  obtain ⟨hx, hb, hml, hown, hts, hK, hSS⟩ := id F
  exact gcall (va_runI (b := b) (As := As) ⟨hx, hb, hml, hown, hts⟩ (hC H.size) (cwI na hts (goodT hcode) rfl rfl rfl (F.T hini) (F.T hlink) (F.T him) hnm hd hR) ⟨gpc_blind hX, gpc_at hX hXs hP hD hK hSS hS hA⟩ rfl hna hsize hst (lv_room hcat) hdg hcs) hP hD hS hA kk
end CG
/-- a private method of a superclass is the one that is run -/
theorem selP {y y0 : MethodName} {s : State} {args : Array Value} {C : String} {n : Nat} (hy : y.cls ≠ "java/lang/invoke/MethodHandle" ∧ y.cls ≠ "java/lang/invoke/VarHandle") (hins : (Cond.instantiable C n).before args s = true) (hsup : (Cond.superclass C y.cls).before args s = true) (hpriv : (Cond.privateMethod y).before args s = true) (hinst : (Cond.instanceMethod y).before args s = true) (h0 : y0.cls = y.cls) (hs0 : (Cond.selects C y0 y0).before args s = true) : (Cond.selects C y y).before args s = true := by
  obtain ⟨c, k, hc, hk, -, hniab, -, -⟩ := Cond.instantiable_spec hins
  have hni : k.isInterface = false := (Bool.or_eq_false_iff.mp hniab).1
  obtain ⟨mk, methM, hnamed, hmethM, -, -⟩ := Cond.instanceMethod_spec hinst
  have hfound : s.methodFound? y.cls y.name y.desc = some mk := State.methodFound?_of_named hnamed hy
  obtain ⟨ps, dk, kp, hps, hdk, hkp, hsuper, a1, a2, hnid⟩ := Cond.superclass_spec hc hsup
  have hcls : mk.cls = ps := Option.some.inj ((findClass_of_methodNamed hnamed).symm.trans hps)
  have hsel : selectMethod {} s.vm c mk = .method mk := selectMethod_private hmethM (Cond.privateMethod_at hpriv mk methM hnamed hmethM)
  obtain ⟨c2, r2, m2, q1, q2, q3, q4, kP, hkP, hkPi⟩ := Cond.selects_spec hs0
  have hm2 : m2.cls = ps := Option.some.inj ((findClass_of_methodNamed q3).symm.trans (by rw [h0]; exact hps))
  rw [hm2] at hkP
  cases hkp.symm.trans hkP
  simp only [Cond.before, Cond.holds, Cond.value, hc, hfound, hnamed, hsel, hcls, hk, hkp, hdk]
  simp; exact hkPi
