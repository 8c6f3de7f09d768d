/-! the frame of the constructors: a world that grows; blocks of cells and their lenses -/
def KI (U : State) : Prop := va_AO RX8 U ∧ va_AO RX2 U ∧ va_AO RX6 U
theorem KI.alike {s U : State} (hW : s.vm.Alike U.vm) (h : KI s) : KI U := ⟨va_AO.moved hW h.1, va_AO.moved hW h.2.1, va_AO.moved hW h.2.2⟩
def PCn (D : va_G) (cs : Nat → ClassId) (w : va_W) (sz : Nat) (U : State) : Prop := PC D cs w sz U ∧ KI U
/-- a constructor's contract: from the world w it comes to a world w1 with Pw w1, whose cells are w's or new -/
def CtN (l : Launch) (y : MethodName) (cc : ByteArray) (n fr lo mc ms : Nat) (D : va_G) (cs : Nat → ClassId) (av : List Value) (w : va_W) (Pw : va_W → Prop) : Prop :=
  ∀ sz : Nat, Met l y (wsOf y cc n none) ({ frames := fr, cells := mc, slots := ms, locals := lo }) (va_Pc av (PCn D cs w sz)) (fun _ st oc t => (oc = .returned none ∧ ∃ w1 : va_W, Pw w1 ∧ va_P D vwCl w1 t.heap ∧ va_D (va_A w sz) w1) ∧ va_F (va_A w sz) st t) mc ms (va_A w sz)
theorem CtN.ofW {l : Launch} {y : MethodName} {cc : ByteArray} {n fr lo mc ms : Nat} {D : va_G} {cs : Nat → ClassId} {av : List Value} {w : va_W} {Pw : va_W → Prop} (hy : plainName y.cls = true) (hfit : (lg_sl av).length ≤ n)
    (body : ∀ (p : Program) (e : Env) (s : State) (m : MethodId) (below : List Frame) (meth : Method) (c : Code) (A : Nat → Prop) (Q : State → Prop) (ls : Array Slot) (args : Array Value),
      p.tables.exec = Jvm.exec → c.code = cc → meth.sig.returnType = none → c.maxLocals = n → meth.locks = false → s.vm.findClass y.cls = some m.cls → (∀ v ∈ wsOf y cc n none, v.before args s = true) → KK D cs s → KI s → va_P D vwCl w s.heap → va_D A w → SS D A s s.heap → va_S A s.heap s.heap [] → (∀ q : Nat, s.heap.size ≤ q → A q) → lv_has ls n (lv_args 0 av) → meth.name = y.name →
      (∀ (H : Heap) (locs : List Loc) (g : JFrame) (w1 : va_W), Pw w1 → va_P D vwCl w1 H → va_D A w1 → va_S A s.heap H locs → (∀ Qc : Array Value → State → Outcome → State → Prop, (∀ t : State, t.heap = H → s.WarmedH t.vm → Qc args s (.returned none) t) → W p l e ({ frames := fr, cells := mc, slots := ms, locals := lo }) s m args below meth c H locs mc ms (MQ below Qc args s mc ms A) g) → W p l e ({ frames := fr, cells := mc, slots := ms, locals := lo }) s m args below meth c H locs mc ms Q g) →
      W p l e ({ frames := fr, cells := mc, slots := ms, locals := lo }) s m args below meth c s.heap [] 0 0 Q (F0 m 0 ls [])) : CtN l y cc n fr lo mc ms D cs av w Pw := by
  intro sz
  refine Met.ofW (cc := cc) (maxL := n) (ret := none) hy rfl ?_
  intro p e s m args below meth c s₁ B hml hv
  obtain ⟨rfl, ⟨hsz, hP, hKK, hD0, hSS⟩, hKI⟩ := hv
  have hts := atoms_spec (ws := wsOf y cc n none) B.pre
  have hown : s.vm.findClass y.cls = some m.cls := findClass_of_methodNamed B.named
  subst hsz
  have hD := hD0.self (sz := s.heap.size)
  rw [lg_entry_eq]
  refine body p e s m below meth c (va_A w s.heap.size) _ _ av.toArray B.exec B.bytes B.returns hml B.notSynchronized hown hts hKK hKI hP hD hSS va_S.rf (fun q h => Or.inr h) (lv_entry av hfit) (name_of_methodNamed B.named B.method).1 (fun H locs g w1 hw hP' hD' hS' hw2 => ?_)
  exact hw2 _ (fun t ht hW => ⟨⟨rfl, w1, hw, by rw [ht]; exact hP', hD'⟩, hS'.F ht⟩)
theorem arrV_congr {cA : ClassId} {N : Nat} {f g : Nat → Value} (h : ∀ j : Nat, j < N → f j = g j) : arrV cA N f = arrV cA N g := by
  show ({ cls := cA, slots := Array.ofFn (n := N) fun j => f j.val, vm := .none } : Cell) = { cls := cA, slots := Array.ofFn (n := N) fun j => g j.val, vm := .none }
  have : (fun j : Fin N => f j.val) = fun j : Fin N => g j.val := funext fun j => h j.val j.isLt
  rw [this]
/-- a row of references says no more than its places -/
theorem va_at_refs {D : va_G} {a N : Nat} {cA : ClassId} {f g : Nat → Option Nat} {H : Heap} (hfg : ∀ j : Nat, j < N → f j = g j) (h : va_at D vwCl (a, .inl (cA, N, .inr (.inr (.inr (.inr f))))) H) : va_at D vwCl (a, .inl (cA, N, .inr (.inr (.inr (.inr g))))) H := by
  have e : vp_cell cA (N, .inr (.inr (.inr (.inr f)))) = vp_cell cA (N, .inr (.inr (.inr (.inr g)))) := by
    rw [vp_cell_q, vp_cell_q]
    exact arrV_congr (fun j hj => by rw [hfg j hj])
  show H[a]? = some (vp_cell cA (N, .inr (.inr (.inr (.inr g)))))
  rw [← e]
  exact h
section CTOR
variable {p : Program} {l : Launch} {e : Env} {R : Room} {s : State} {m : MethodId} {args : Array Value} {below : List Frame} {meth : Method} {c : Code} {H : Heap} {locs : List Loc} {cells slots : Nat} {Q : State → Prop}
variable {cc : ByteArray} {pc : Nat} {ls : Array Slot} {rest : List Value} {D : va_G} {cs : Nat → ClassId} {A : Nat → Prop} {ws : va_W}
theorem pcn_blind {av : List Value} {w : va_W} {sz : Nat} : FrameBlind (va_Pc av (PCn D cs w sz)) := fun a U g mk q => ⟨(pc_blind a U g mk ⟨q.1, q.2.1⟩).1, (pc_blind a U g mk ⟨q.1, q.2.1⟩).2, KI.alike (s := U) (U := U.calling g mk a) (Vm.Alike.refl U.vm) q.2.2⟩
theorem pcn_at {av : List Value} {w : va_W} (hP : va_P D vwCl w H) (hK : KK D cs s) (hKI : KI s) (hD : va_D A w) (hSS : SS D A s s.heap) (hS : va_S A s.heap H locs) (hA : ∀ q : Nat, va_A w H.size q → A q) : ∀ U : State, U.heap = H → s.WarmedH U.vm → va_Pc av (PCn D cs w H.size) av.toArray U := fun U hU hW => ⟨rfl, (pc_at (av := av) hP hK hD hSS hS hA U hU hW).2, hKI.alike hW.alike⟩
/-- new rows of numbers -/
theorem rnI (hx : p.tables.exec = Jvm.exec) (hb : c.code = cc) (hT : ∀ w ∈ TBL, w.before args s = true) (harr : Cond.arrayClass .int ∈ TBL) (hK : KK D cs s) (hP : va_P D vwCl ws H) (hD : va_D A ws) (hS : va_S A s.heap H locs) (hA : ∀ q : Nat, s.heap.size ≤ q → A q) {n : Int32} (N : Nat) (hn : ¬ n < 0) (hN : n.toNatClampNeg = N) (hb2 : N * 4 ≤ 536870912) (hc : cells + 1 ≤ R.cells) (hs : slots + N ≤ R.slots) (hdg : decode cc pc = .ok (.newarray .int, 2))
    (kk : ∀ (q : Nat) (H1 : Heap), va_P D vwCl (ws ++ [(q, .inl (cs 1, N, .inl (fun _ => 0)))]) H1 → va_D A (ws ++ [(q, .inl (cs 1, N, .inl (fun _ => 0)))]) → va_S A s.heap H1 locs → W p l e R s m args below meth c H1 locs (cells + 1) (slots + N) Q (F0 m (pc + 2) ls (.ref q :: rest))) : W p l e R s m args below meth c H locs cells slots Q (F0 m pc ls (.int n :: rest)) := by
  refine va_newa (atype := .int) (ty := .int) (a0 := (N, .inl (fun _ => 0))) hx hb (hT _ harr) rfl hK.1 hP hD hS hA (fun _ => rfl) hn hN hb2 hc hs hdg (fun q cA H1 k1 k2 k3 k4 => ?_)
  have e : cA = cs 1 := Option.some.inj ((va_nm_int (k1.2 7 _ rfl).2).symm.trans (va_nm_int (hK.1.2 1 _ rfl).2))
  subst e
  exact kk q H1 k2 k3 k4
theorem rnL (hx : p.tables.exec = Jvm.exec) (hb : c.code = cc) (hT : ∀ w ∈ TBL, w.before args s = true) (harr : Cond.arrayClass .long ∈ TBL) (hK : KK D cs s) (hP : va_P D vwCl ws H) (hD : va_D A ws) (hS : va_S A s.heap H locs) (hA : ∀ q : Nat, s.heap.size ≤ q → A q) {n : Int32} (N : Nat) (hn : ¬ n < 0) (hN : n.toNatClampNeg = N) (hb2 : N * 8 ≤ 536870912) (hc : cells + 1 ≤ R.cells) (hs : slots + N ≤ R.slots) (hdg : decode cc pc = .ok (.newarray .long, 2))
    (kk : ∀ (q : Nat) (H1 : Heap), va_P D vwCl (ws ++ [(q, .inl (cs 2, N, .inr (.inl (fun _ => 0))))]) H1 → va_D A (ws ++ [(q, .inl (cs 2, N, .inr (.inl (fun _ => 0))))]) → va_S A s.heap H1 locs → W p l e R s m args below meth c H1 locs (cells + 1) (slots + N) Q (F0 m (pc + 2) ls (.ref q :: rest))) : W p l e R s m args below meth c H locs cells slots Q (F0 m pc ls (.int n :: rest)) := by
  refine va_newa (atype := .long) (ty := .long) (a0 := (N, .inr (.inl (fun _ => 0)))) hx hb (hT _ harr) rfl hK.1 hP hD hS hA (fun _ => rfl) hn hN hb2 hc hs hdg (fun q cA H1 k1 k2 k3 k4 => ?_)
  have e : cA = cs 2 := Option.some.inj ((va_nm_long (k1.2 7 _ rfl).2).symm.trans (va_nm_long (hK.1.2 2 _ rfl).2))
  subst e
  exact kk q H1 k2 k3 k4
theorem rnB (hx : p.tables.exec = Jvm.exec) (hb : c.code = cc) (hT : ∀ w ∈ TBL, w.before args s = true) (harr : Cond.arrayClass .byte ∈ TBL) (hK : KK D cs s) (hP : va_P D vwCl ws H) (hD : va_D A ws) (hS : va_S A s.heap H locs) (hA : ∀ q : Nat, s.heap.size ≤ q → A q) {n : Int32} (N : Nat) (hn : ¬ n < 0) (hN : n.toNatClampNeg = N) (hb2 : N * 1 ≤ 536870912) (hc : cells + 1 ≤ R.cells) (hs : slots + N ≤ R.slots) (hdg : decode cc pc = .ok (.newarray .byte, 2))
    (kk : ∀ (q : Nat) (H1 : Heap), va_P D vwCl (ws ++ [(q, .inl (cs 0, N, .inl (fun _ => 0)))]) H1 → va_D A (ws ++ [(q, .inl (cs 0, N, .inl (fun _ => 0)))]) → va_S A s.heap H1 locs → W p l e R s m args below meth c H1 locs (cells + 1) (slots + N) Q (F0 m (pc + 2) ls (.ref q :: rest))) : W p l e R s m args below meth c H locs cells slots Q (F0 m pc ls (.int n :: rest)) := by
  refine va_newa (atype := .byte) (ty := .byte) (a0 := (N, .inl (fun _ => 0))) hx hb (hT _ harr) rfl hK.1 hP hD hS hA (fun _ => rfl) hn hN hb2 hc hs hdg (fun q cA H1 k1 k2 k3 k4 => ?_)
  have e : cA = cs 0 := Option.some.inj ((va_nm_byte (k1.2 7 _ rfl).2).symm.trans (va_nm_byte (hK.1.2 0 _ rfl).2))
  subst e
  exact kk q H1 k2 k3 k4
theorem rnZ (hx : p.tables.exec = Jvm.exec) (hb : c.code = cc) (hT : ∀ w ∈ TBL, w.before args s = true) (harr : Cond.arrayClass .boolean ∈ TBL) (hK : KK D cs s) (hP : va_P D vwCl ws H) (hD : va_D A ws) (hS : va_S A s.heap H locs) (hA : ∀ q : Nat, s.heap.size ≤ q → A q) {n : Int32} (N : Nat) (hn : ¬ n < 0) (hN : n.toNatClampNeg = N) (hb2 : N * 1 ≤ 536870912) (hc : cells + 1 ≤ R.cells) (hs : slots + N ≤ R.slots) (hdg : decode cc pc = .ok (.newarray .boolean, 2))
    (kk : ∀ (q : Nat) (H1 : Heap), va_P D vwCl (ws ++ [(q, .inl (cs 3, N, .inl (fun _ => 0)))]) H1 → va_D A (ws ++ [(q, .inl (cs 3, N, .inl (fun _ => 0)))]) → va_S A s.heap H1 locs → W p l e R s m args below meth c H1 locs (cells + 1) (slots + N) Q (F0 m (pc + 2) ls (.ref q :: rest))) : W p l e R s m args below meth c H locs cells slots Q (F0 m pc ls (.int n :: rest)) := by
  refine va_newa (atype := .boolean) (ty := .boolean) (a0 := (N, .inl (fun _ => 0))) hx hb (hT _ harr) rfl hK.1 hP hD hS hA (fun _ => rfl) hn hN hb2 hc hs hdg (fun q cA H1 k1 k2 k3 k4 => ?_)
  have e : cA = cs 3 := Option.some.inj ((va_nm_boolean (k1.2 7 _ rfl).2).symm.trans (va_nm_boolean (hK.1.2 3 _ rfl).2))
  subst e
  exact kk q H1 k2 k3 k4
/-- a new row of references -/
theorem rnQ (hx : p.tables.exec = Jvm.exec) (hb : c.code = cc) {own C : String} {index : Nat} (k0 : Nat) (hown : s.vm.findClass own = some m.cls) (hT : ∀ w ∈ TBL, w.before args s = true) (hcl : Cond.classLink own index C ∈ TBL) (hover : va_AO C s) (hk0 : (tysOf cs)[k0]? = some (cs k0, .object C)) (hK : KK D cs s) (hP : va_P D vwCl ws H) (hD : va_D A ws) (hS : va_S A s.heap H locs) (hA : ∀ q : Nat, s.heap.size ≤ q → A q) {n : Int32} (N : Nat) (hn : ¬ n < 0) (hN : n.toNatClampNeg = N) (hb2 : N * 4 ≤ 536870912) (hc : cells + 1 ≤ R.cells) (hs : slots + N ≤ R.slots) (hdg : decode cc pc = .ok (.anewarray index, 3))
    (kk : ∀ (q : Nat) (H1 : Heap), va_P D vwCl (ws ++ [(q, .inl (cs k0, N, .inr (.inr (.inr (.inr (fun _ => none))))))]) H1 → va_D A (ws ++ [(q, .inl (cs k0, N, .inr (.inr (.inr (.inr (fun _ => none))))))]) → va_S A s.heap H1 locs → W p l e R s m args below meth c H1 locs (cells + 1) (slots + N) Q (F0 m (pc + 3) ls (.ref q :: rest))) : W p l e R s m args below meth c H locs cells slots Q (F0 m pc ls (.int n :: rest)) := by
  refine va_newq hx hb hown (hT _ hcl) hover hK.1 hP hD hS hA hn hN hb2 hc hs hdg (fun q cA H1 k1 k2 k3 k4 => ?_)
  have e : cA = cs k0 := Option.some.inj ((va_nmO (k1.2 7 _ rfl).2 rfl).symm.trans (va_nmO (hK.1.2 k0 _ hk0).2 rfl))
  subst e
  exact kk q H1 k2 k3 k4
variable {y : MethodName} {cb : ByteArray} {nb fr lo mc ms : Nat} {As : List Value}
/-- a constructor of a nest mate -/
theorem rcI {own : String} {nL : Nat} (F : Fl p m c cc nL s args own D cs A) (hKI : KI s) {st0 : List Value} {host : String} {index na b : Nat} {X pl wc wr : va_W} {Pw : va_W → Prop} (hC : CtN l y cb nb fr lo mc ms D cs (.ref b :: As) wc Pw) (hP : va_P D vwCl (X ++ pl) H) (hD : va_D A (X ++ pl)) (hS : va_S A s.heap H locs) (hA : ∀ q : Nat, s.heap.size ≤ q → A q)
    (isC isR : List Nat) (hCs : isC.map (fun i => X[i]?) = wc.map some) (hRs : isR.map (fun i => X[i]?) = wr.map some) (hnC : va_nd isC = true) (hn : va_nd isR = true) (hdis : ∀ i ∈ isR, i ∉ isC)
    (hcode : Cond.code y cb nb none ∈ TBL) (hlink : Cond.methodLinkNest own index y host ∈ lw_tbl) (him : Cond.instanceMethod y ∈ TBL) (hini : Cond.initialized y.cls ∈ TBL) (hd : y.cls ≠ "java/lang/invoke/MethodHandle" ∧ y.cls ≠ "java/lang/invoke/VarHandle" ∧ (parseMethodDescriptor y.desc).map (fun d => d.parameters.length) = some na) (hnm : y.name = "<init>")
    (hR : fr + 1 ≤ R.frames ∧ 8 + (nb + 11) + lo ≤ R.locals) (hcs : cells + mc ≤ R.cells ∧ slots + ms ≤ R.slots) (hna : As.length = na) (hsize : ls.size = nL) (hst : st0 = As.reverse ++ .ref b :: rest) (hcat : (rest.map fun v => v.category).sum ≤ 8) (hdg : decode cc pc = .ok (.invokespecial index, 3))
    (kk : ∀ (H1 : Heap) (locs1 : List Loc) (w1 : va_W), Pw w1 → va_P D vwCl ((wr ++ w1) ++ pl) H1 → va_D A ((wr ++ w1) ++ pl) → va_S A s.heap H1 locs1 → W p l e R s m args below meth c H1 locs1 (cells + mc) (slots + ms) Q (F0 m (pc + 3) ls rest)) : W p l e R s m args below meth c H locs cells slots Q (F0 m pc ls st0) := by
  obtain ⟨hx, hb, hml, hown, hts, hK, hSS⟩ := id F
  have app : ∀ (k : Nat) (q : Nat × va_E), wc[k]? = some q → (wc ++ pl)[k]? = some q := fun k q hk => by rw [List.getElem?_append_left (List.getElem?_eq_some_iff.mp hk).1]; exact hk
  have hPc : va_P D vwCl wc H := fun k q hk => (hP.part isC hCs) k q (app k q hk)
  have hDp : va_D A (wc ++ pl) := hD.part isC hnC hCs
  have hDc : va_D A wc := ⟨fun i j p q hi hj => hDp.1 i j p q (app i p hi) (app j q hj), fun k q hk => hDp.2 k q (app k q hk)⟩
  have hF : ∀ q : Nat, va_A wc H.size q → A q := fun q h => by
    rcases h with ⟨k, z, h⟩ | h
    · exact hDc.2 k _ h
    · exact hA q (Nat.le_trans hS.1 h)
  have hr := va_runIN (e := e) (below := below) (meth := meth) (R := R) (cells := cells) (slots := slots) (locs := locs) (g := F0 m pc ls st0) (rest := rest) (b := b) (As := As) ⟨hx, hb, hml, hown, hts⟩ (hC H.size) ⟨va_cnB na hts (goodT hcode) rfl rfl rfl (hK.2.1.m hlink) (F.T hini) hd hR, hnm, F.T him⟩ ⟨pcn_blind, pcn_at hPc hK hKI hDc hSS hS hF⟩ rfl hna hsize hst (lv_room hcat) hdg hcs
  intro T hT X1
  obtain ⟨v, st₀, t, T', L, h0, X2, hL, e1, e2, ⟨⟨hv, w1, hw, hp, hd1⟩, hz, hk⟩, st⟩ := hr T hT X1
  cases hv
  rw [h0] at hz hk
  obtain ⟨j1, j2⟩ := va_joinQ hP hD isC isR hCs hRs hn hdis hk hF hp hd1
  obtain ⟨t2, a1, b1⟩ := kk T'.heap (locs ++ L) w1 hw (by rw [e1]; exact j1) j2
    ⟨Nat.le_trans hS.1 (by rw [e1]; exact hz), fun q h1 h2 => by rw [e1, hk q (Nat.lt_of_lt_of_le h1 hS.1) (fun z => h2 (hF q z))]; exact hS.2.1 q h1 h2, fun q hq => by
      rcases List.mem_append.mp hq with h | h
      · exact hS.2.2 q h
      · exact hF _ (hL q h)⟩ T' rfl X2
  exact ⟨t2, st t2 a1, b1⟩
/-- a constructor -/
theorem rcI0 {own : String} {nL : Nat} (F : Fl p m c cc nL s args own D cs A) (hKI : KI s) {st0 : List Value} {index na b : Nat} {X pl wc wr : va_W} {Pw : va_W → Prop} (hC : CtN l y cb nb fr lo mc ms D cs (.ref b :: As) wc Pw) (hP : va_P D vwCl (X ++ pl) H) (hD : va_D A (X ++ pl)) (hS : va_S A s.heap H locs) (hA : ∀ q : Nat, s.heap.size ≤ q → A q)
    (isC isR : List Nat) (hCs : isC.map (fun i => X[i]?) = wc.map some) (hRs : isR.map (fun i => X[i]?) = wr.map some) (hnC : va_nd isC = true) (hn : va_nd isR = true) (hdis : ∀ i ∈ isR, i ∉ isC)
    (hcode : Cond.code y cb nb none ∈ TBL) (hlink : Cond.methodLink own index y ∈ TBL) (him : Cond.instanceMethod y ∈ TBL) (hini : Cond.initialized y.cls ∈ TBL) (hd : y.cls ≠ "java/lang/invoke/MethodHandle" ∧ y.cls ≠ "java/lang/invoke/VarHandle" ∧ (parseMethodDescriptor y.desc).map (fun d => d.parameters.length) = some na) (hnm : y.name = "<init>")
    (hR : fr + 1 ≤ R.frames ∧ 8 + (nb + 11) + lo ≤ R.locals) (hcs : cells + mc ≤ R.cells ∧ slots + ms ≤ R.slots) (hna : As.length = na) (hsize : ls.size = nL) (hst : st0 = As.reverse ++ .ref b :: rest) (hcat : (rest.map fun v => v.category).sum ≤ 8) (hdg : decode cc pc = .ok (.invokespecial index, 3))
    (kk : ∀ (H1 : Heap) (locs1 : List Loc) (w1 : va_W), Pw w1 → va_P D vwCl ((wr ++ w1) ++ pl) H1 → va_D A ((wr ++ w1) ++ pl) → va_S A s.heap H1 locs1 → W p l e R s m args below meth c H1 locs1 (cells + mc) (slots + ms) Q (F0 m (pc + 3) ls rest)) : W p l e R s m args below meth c H locs cells slots Q (F0 m pc ls st0) := by
  obtain ⟨hx, hb, hml, hown, hts, hK, hSS⟩ := id F
  have app : ∀ (k : Nat) (q : Nat × va_E), wc[k]? = some q → (wc ++ pl)[k]? = some q := fun k q hk => by rw [List.getElem?_append_left (List.getElem?_eq_some_iff.mp hk).1]; exact hk
  have hPc : va_P D vwCl wc H := fun k q hk => (hP.part isC hCs) k q (app k q hk)
  have hDp : va_D A (wc ++ pl) := hD.part isC hnC hCs
  have hDc : va_D A wc := ⟨fun i j p q hi hj => hDp.1 i j p q (app i p hi) (app j q hj), fun k q hk => hDp.2 k q (app k q hk)⟩
  have hF : ∀ q : Nat, va_A wc H.size q → A q := fun q h => by
    rcases h with ⟨k, z, h⟩ | h
    · exact hDc.2 k _ h
    · exact hA q (Nat.le_trans hS.1 h)
  have hr := va_runI (e := e) (below := below) (meth := meth) (R := R) (cells := cells) (slots := slots) (locs := locs) (g := F0 m pc ls st0) (rest := rest) (b := b) (As := As) ⟨hx, hb, hml, hown, hts⟩ (hC H.size) (cwI na hts (goodT hcode) rfl rfl rfl (F.T hini) (F.T hlink) (F.T him) hnm hd hR) ⟨pcn_blind, pcn_at hPc hK hKI hDc hSS hS hF⟩ rfl hna hsize hst (lv_room hcat) hdg hcs
  intro T hT X1
  obtain ⟨v, st₀, t, T', L, h0, X2, hL, e1, e2, ⟨⟨hv, w1, hw, hp, hd1⟩, hz, hk⟩, st⟩ := hr T hT X1
  cases hv
  rw [h0] at hz hk
  obtain ⟨j1, j2⟩ := va_joinQ hP hD isC isR hCs hRs hn hdis hk hF hp hd1
  obtain ⟨t2, a1, b1⟩ := kk T'.heap (locs ++ L) w1 hw (by rw [e1]; exact j1) j2
    ⟨Nat.le_trans hS.1 (by rw [e1]; exact hz), fun q h1 h2 => by rw [e1, hk q (Nat.lt_of_lt_of_le h1 hS.1) (fun z => h2 (hF q z))]; exact hS.2.1 q h1 h2, fun q hq => by
      rcases List.mem_append.mp hq with h | h
      · exact hS.2.2 q h
      · exact hF _ (hL q h)⟩ T' rfl X2
  exact ⟨t2, st t2 a1, b1⟩
/-- a static method, whatever cells were made -/
theorem lrS {own : String} {nL : Nat} {ret : Option FieldType} {w w' : va_W} (F : Fl p m c cc nL s args own D cs A) {rv : Option Value} {st0 : List Value} {index na : Nat} (hC : Ct l y cb nb ret fr lo D cs As w w' rv) (hP : va_P D vwCl w H) (hD : va_D A w) (hS : va_S A s.heap H locs) (hA : ∀ q : Nat, va_A w H.size q → A q)
    (hcode : Cond.code y cb nb ret ∈ TBL) (hlink : Cond.methodLink own index y ∈ TBL) (hstat : Cond.static y ∈ TBL) (hini : Cond.initialized y.cls ∈ TBL) (hd : y.cls ≠ "java/lang/invoke/MethodHandle" ∧ y.cls ≠ "java/lang/invoke/VarHandle" ∧ (parseMethodDescriptor y.desc).map (fun d => d.parameters.length) = some na)
    (hR : fr + 1 ≤ R.frames ∧ 8 + (nb + 11) + lo ≤ R.locals) (hc1 : cells ≤ R.cells ∧ slots ≤ R.slots) (hn : As.length = na) (hsize : ls.size = nL) (hst : st0 = As.reverse ++ rest) (hcat : (rest.map fun v => v.category).sum ≤ 8) (hdg : decode cc pc = .ok (.invokestatic index, 3))
    (kk : ∀ (H1 : Heap) (locs1 : List Loc), va_P D vwCl w' H1 → va_S A s.heap H1 locs1 → W p l e R s m args below meth c H1 locs1 cells slots Q (F0 m (pc + 3) ls (rv.toList ++ rest))) : W p l e R s m args below meth c H locs cells slots Q (F0 m pc ls st0) := by
  obtain ⟨hx, hb, hml, hown, hts, hK, hSS⟩ := id F
  exact lcall (va_runS (As := As) ⟨hx, hb, hml, hown, hts⟩ (hC.2 H.size) ⟨callB_of na hts (goodT hcode) rfl rfl rfl (F.T hini) (F.T hlink) hd hR, F.T hstat⟩ ⟨pc_blind, pc_at hP hK hD hSS hS hA⟩ rfl hn hsize hst (lv_room hcat) hdg ⟨by omega, by omega⟩) hS hA kk
end CTOR
/-- n cells, place by place -/
def blk (n : Nat) (ad : Nat → Nat) (sh : Sh) (m : MM) : va_W := (List.range n).map (fun q => (ad q, sh q (m.1 q) (m.2 q)))
theorem blk_get {n : Nat} {ad : Nat → Nat} {sh : Sh} {m : MM} {q : Nat} (h : q < n) : (blk n ad sh m)[q]? = some (ad q, sh q (m.1 q) (m.2 q)) := by
  unfold blk
  rw [List.getElem?_map, List.getElem?_range h]
  rfl
theorem blk_len {n : Nat} {ad : Nat → Nat} {sh : Sh} {m : MM} : (blk n ad sh m).length = n := by
  unfold blk
  rw [List.length_map, List.length_range]
theorem blk_set {n : Nat} {ad : Nat → Nat} {sh : Sh} {m : MM} {q : Nat} (h : q < n) (r : Nat → Int32) (t : Nat → Int64) : (blk n ad sh m).set q (ad q, sh q r t) = blk n ad sh (va_up m.1 q r, va_up m.2 q t) := by
  apply List.ext_getElem?
  intro i
  rw [List.getElem?_set]
  by_cases hi : q = i
  · subst hi
    rw [if_pos rfl, blk_len, if_pos h, blk_get h]
    simp [va_up]
  · rw [if_neg hi]
    by_cases hin : i < n
    · rw [blk_get hin, blk_get hin]
      simp [va_up, Ne.symm hi]
    · rw [List.getElem?_eq_none (by rw [blk_len]; omega), List.getElem?_eq_none (by rw [blk_len]; omega)]
theorem blk_ln {n : Nat} {ad : Nat → Nat} {sh : Sh} (pre post : va_W) : Ln n ad sh (fun m => pre ++ (blk n ad sh m ++ post)) := by
  refine ⟨fun q => pre.length + q, fun m q hq => ⟨?_, fun r t => ?_⟩⟩
  · show (pre ++ (blk n ad sh m ++ post))[pre.length + q]? = _
    rw [List.getElem?_append_right (Nat.le_add_right _ _), Nat.add_sub_cancel_left, List.getElem?_append_left (by rw [blk_len]; exact hq), blk_get hq]
  · show (pre ++ (blk n ad sh m ++ post)).set (pre.length + q) _ = _
    rw [List.set_append_right _ _ (Nat.le_add_right _ _), Nat.add_sub_cancel_left, List.set_append_left _ _ (by rw [blk_len]; exact hq), blk_set hq]
theorem blk_map {n : Nat} {ad : Nat → Nat} {sh : Sh} {m m' : MM} : (blk n ad sh m).map (fun q => q.1) = (blk n ad sh m').map (fun q => q.1) := by
  unfold blk
  rw [List.map_map, List.map_map]
  rfl
theorem blk_ln0 {n : Nat} {ad : Nat → Nat} {sh : Sh} : Ln n ad sh (fun m => blk n ad sh m) := by
  have h := blk_ln (n := n) (ad := ad) (sh := sh) [] []
  have e : (fun m => ([] : va_W) ++ (blk n ad sh m ++ [])) = fun m => blk n ad sh m := funext fun m => by rw [List.nil_append, List.append_nil]
  rw [e] at h
  exact h
theorem va_P_nil {D : va_G} {H : Heap} : va_P D vwCl [] H := fun k q h => by cases h
theorem va_P_cons {D : va_G} {H : Heap} {q : Nat × va_E} {ws : va_W} (h : va_at D vwCl q H) (hw : va_P D vwCl ws H) : va_P D vwCl (q :: ws) H := fun k z hk => by
  cases k with
  | zero =>
    have e : q = z := Option.some.inj hk
    subst e
    exact h
  | succ k => exact hw k z hk
theorem mid_get {E S T : va_W} {k : Nat} {x : Nat × va_E} (h : S[k]? = some x) : (E ++ (S ++ T))[E.length + k]? = some x := by
  rw [List.getElem?_append_right (Nat.le_add_right _ _), Nat.add_sub_cancel_left, List.getElem?_append_left (List.getElem?_eq_some_iff.mp h).1]
  exact h
theorem va_D.tail {A : Nat → Prop} {ws : va_W} {H0 H : Heap} {locs : List Loc} (hD : va_D A ws) (hS : va_S A H0 H locs) (hA : ∀ q : Nat, H0.size ≤ q → A q) : ∀ q : Nat, va_A ws H.size q → A q := fun q h => by
  rcases h with ⟨k, z, h⟩ | h
  · exact hD.2 k _ h
  · exact hA q (Nat.le_trans hS.1 h)
