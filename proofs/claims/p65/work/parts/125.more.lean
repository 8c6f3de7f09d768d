/-! more of the frame: methods that throw, texts -/
section MORE
variable {p : Program} {l : Launch} {e : Env} {R : Room} {s : State} {m : MethodId} {args : Array Value} {below : List Frame} {meth : Method} {c : Code} {H : Heap} {locs : List Loc} {cells slots : Nat} {Q : State → Prop}
variable {cc : ByteArray} {pc : Nat} {ls : Array Slot} {rest : List Value} {D : va_G} {cs : Nat → ClassId} {A : Nat → Prop} {n : Nat} {ad : Nat → Nat} {sh : Sh} {Wf : MM → va_W} {mm : MM}
/-- which exception -/
def exN : Nat → String
  | 0 => "java/lang/IndexOutOfBoundsException"
  | _ => "java/lang/IllegalArgumentException"
def XCk (D : va_G) (w : va_W) (A : Nat → Prop) (k : Nat) : String → State → State → Prop := fun E st t => E = exN k ∧ va_P D vwCl w t.heap ∧ va_F A st t
def noQ : Array Value → State → Outcome → State → Prop := fun _ _ _ _ => False
/-- a contract: from the world w with the arguments av the method throws exception k, the world stays -/
def CtX (l : Launch) (y : MethodName) (cc : ByteArray) (n : Nat) (ret : Option FieldType) (fr lo : Nat) (D : va_G) (cs : Nat → ClassId) (av : List Value) (w : va_W) (k : Nat) : Prop :=
  ∀ sz : Nat, vx_Met l y (wsOf y cc n ret) ({ frames := fr, cells := 1, slots := 6, locals := lo }) (va_Pc av (PC D cs w sz)) noQ (XCk D w (va_A w sz) k) 1 6 (va_A w sz)
theorem CtX.ofW {y : MethodName} {ret : Option FieldType} {fr lo : Nat} {av : List Value} {w : va_W} {k : Nat} (hy : plainName y.cls = true) (hfit : (lg_sl av).length ≤ n)
    (body : ∀ (p : Program) (e : Env) (s : State) (m : MethodId) (below : List Frame) (meth : Method) (c : Code) (A : Nat → Prop) (ls : Array Slot) (args : Array Value),
      p.tables.exec = Jvm.exec → c.code = cc → c.maxLocals = n → meth.locks = false → s.vm.findClass y.cls = some m.cls → (∀ x ∈ c.exceptionTable.toList, False) → (∀ v ∈ wsOf y cc n ret, v.before args s = true) → KK D cs s → va_P D vwCl w s.heap → (∀ w1 : va_W, w1.map (fun q => q.1) = w.map (fun q => q.1) → va_D A w1) → SS D A s s.heap → va_S A s.heap s.heap [] → (∀ (w1 : va_W) (z : Nat), w1.map (fun q => q.1) = w.map (fun q => q.1) → s.heap.size ≤ z → ∀ q : Nat, va_A w1 z q → A q) → lv_has ls n (lv_args 0 av) →
      W p l e ({ frames := fr, cells := 1, slots := 6, locals := lo }) s m args below meth c s.heap [] 0 0 (vx_MQ below noQ (XCk D w A k) args s 1 6 A) (F0 m 0 ls [])) : CtX l y cc n ret fr lo D cs av w k := by
  intro sz
  refine vx_ofW (cc := cc) (maxL := n) (ret := ret) hy rfl ?_
  intro p e s m args below meth c s₁ B hml hex hv
  obtain ⟨rfl, hsz, hP, hKK, hD0, hSS⟩ := hv
  have hts := atoms_spec (ws := wsOf y cc n ret) B.pre
  have hown : s.vm.findClass y.cls = some m.cls := findClass_of_methodNamed B.named
  subst hsz
  have hD := hD0.self (sz := s.heap.size)
  rw [lg_entry_eq]
  refine body p e s m below meth c (va_A w s.heap.size) _ av.toArray B.exec B.bytes hml B.notSynchronized hown hex hts hKK hP (fun w1 h1 => hD.map h1) hSS va_S.rf (fun w1 z h1 h2 q hq => ?_) (lv_entry av hfit)
  rcases va_A.map h1 hq with h | h
  · exact Or.inl h
  · exact Or.inr (Nat.le_trans h2 h)
theorem atS_ok (hT : ∀ w ∈ TBL, w.before args s = true) (hN : NN s) {L : List Cond} (hL : ∀ w ∈ L, w ∈ lw_tbl ∧ (goodWord w = true ∨ nestW w = true)) : ∀ w ∈ L, w.before args s = true := fun w hw => (hL w hw).2.elim (fun g => hT w (inT (hL w hw).1 g)) (fun g => hN.use (hL w hw).1 g)
def ctnames : List String := ["java/lang/RuntimeException", "java/lang/Exception"]
theorem ctnames_ok : ∀ n ∈ ctnames, Bundle.fit n = true := by decide +kernel
theorem exN_ok0 : Bundle.fit (exN 0) = true := by decide +kernel
theorem exN_ok1 : Bundle.fit (exN 1) = true := by decide +kernel
/-- the class's own throw: the world stands as it stood at the entry -/
theorem rthrS (hx : p.tables.exec = Jvm.exec) (hb : c.code = cc) (hst : l.stackTraces = false) {own : String} {ik ic : Nat} {w : va_W} {k : Nat} (hfit : Bundle.fit (exN k) = true) {x : String × Nat × String × Nat} (i : Nat) (hi : strR[i]? = some x) (ho : x.1 = own)
    (hT : ∀ w ∈ TBL, w.before args s = true) (hown : s.vm.findClass own = some m.cls) (hK : KK D cs s) (hSS : SS D A s s.heap) (hP : va_P D vwCl w H) (hS : va_S A s.heap H locs) (hsize : c.maxLocals = ls.size) (hlocks : meth.locks = false) (hex : ∀ x ∈ c.exceptionTable.toList, False)
    (hk : Cond.classLink own ik (exN k) ∈ TBL) (hini : Cond.initialized (exN k) ∈ TBL) (hat : ∀ w ∈ vx_atS own ic (exN k) ctnames, w ∈ lw_tbl ∧ (goodWord w = true ∨ nestW w = true)) (hgood : ∀ w ∈ Cond.classLink own ik (exN k) :: Cond.initialized (exN k) :: vx_atS own ic (exN k) ctnames, vx_ot w = true)
    (d0 : decode cc pc = .ok (.new ik, 3)) (d3 : decode cc (pc + 3) = .ok (.dup, 1)) (d4 : decode cc (pc + 4) = .ok (.ldc x.2.1, 2)) (d6 : decode cc (pc + 6) = .ok (.invokespecial ic, 3)) (d9 : decode cc (pc + 9) = .ok (.athrow, 1))
    (hRf : 5 < R.frames) (hRl : 82 ≤ R.locals) (hRc : 1 ≤ R.cells) (hRs : 6 ≤ R.slots) (hsz : s.heap.size ≤ H.size) :
    W p l e R s m args below meth c H locs 0 0 (vx_MQ below noQ (XCk D w A k) args s 1 6 A) (F0 m pc ls []) := by
  subst ho
  refine vx_throwS (own := x.1) (cls := exN k) (text := x.2.2.1) (names := ctnames) (ik := ik) (is := x.2.1) (ic := ic) (sa := sK D x.2.2.2) (A := A) hx hb hst hown hfit ctnames_ok (hT _ hk) (hT _ hini) (hK.2.2.1.at i hi) (atS_ok hT hK.2.1 hat) hgood hSS.2.2.2.2.2.1 hSS.2.2.2.2.2.2.1 hS hsize.symm d0 d3 d4 d6 d9 (fun z hz => (hex z hz).elim) hRf (by show 0 + (13 * (2 + 1) + 43) ≤ R.locals; omega) (by omega) (by omega) hlocks ?_ hS.2.2 (by omega) (by omega)
  intro t ht hle hkeep
  refine ⟨rfl, hP.kept (fun j q hj => hkeep _ (vx_lt hP hj)), Nat.le_trans hsz hle, fun q hq hA => ?_⟩
  · rw [hkeep q (Nat.lt_of_lt_of_le hq hsz)]
    exact hS.2.1 q hq hA
theorem rthrW (hx : p.tables.exec = Jvm.exec) (hb : c.code = cc) (hst : l.stackTraces = false) {own : String} {ik ic : Nat} {w : va_W} {k : Nat} (hfit : Bundle.fit (exN k) = true) {x : String × Nat × String × Nat} (i : Nat) (hi : strR[i]? = some x) (ho : x.1 = own)
    (hT : ∀ w ∈ TBL, w.before args s = true) (hown : s.vm.findClass own = some m.cls) (hK : KK D cs s) (hSS : SS D A s s.heap) (hP : va_P D vwCl w H) (hS : va_S A s.heap H locs) (hsize : c.maxLocals = ls.size) (hlocks : meth.locks = false) (hex : ∀ x ∈ c.exceptionTable.toList, False)
    (hk : Cond.classLink own ik (exN k) ∈ TBL) (hini : Cond.initialized (exN k) ∈ TBL) (hat : ∀ w ∈ vx_atS own ic (exN k) ctnames, w ∈ lw_tbl ∧ (goodWord w = true ∨ nestW w = true)) (hgood : ∀ w ∈ Cond.classLink own ik (exN k) :: Cond.initialized (exN k) :: vx_atS own ic (exN k) ctnames, vx_ot w = true)
    (d0 : decode cc pc = .ok (.new ik, 3)) (d3 : decode cc (pc + 3) = .ok (.dup, 1)) (d4 : decode cc (pc + 4) = .ok (.ldc_w x.2.1, 3)) (d7 : decode cc (pc + 7) = .ok (.invokespecial ic, 3)) (d10 : decode cc (pc + 10) = .ok (.athrow, 1))
    (hRf : 5 < R.frames) (hRl : 82 ≤ R.locals) (hRc : 1 ≤ R.cells) (hRs : 6 ≤ R.slots) (hsz : s.heap.size ≤ H.size) :
    W p l e R s m args below meth c H locs 0 0 (vx_MQ below noQ (XCk D w A k) args s 1 6 A) (F0 m pc ls []) := by
  subst ho
  refine vx_throwSW (own := x.1) (cls := exN k) (text := x.2.2.1) (names := ctnames) (ik := ik) (is := x.2.1) (ic := ic) (sa := sK D x.2.2.2) (A := A) hx hb hst hown hfit ctnames_ok (hT _ hk) (hT _ hini) (hK.2.2.1.at i hi) (atS_ok hT hK.2.1 hat) hgood hSS.2.2.2.2.2.1 hSS.2.2.2.2.2.2.1 hS hsize.symm d0 d3 d4 d7 d10 (fun z hz => (hex z hz).elim) hRf (by show 0 + (13 * (2 + 1) + 43) ≤ R.locals; omega) (by omega) (by omega) hlocks ?_ hS.2.2 (by omega) (by omega)
  intro t ht hle hkeep
  refine ⟨rfl, hP.kept (fun j q hj => hkeep _ (vx_lt hP hj)), Nat.le_trans hsz hle, fun q hq hA => ?_⟩
  · rw [hkeep q (Nat.lt_of_lt_of_le hq hsz)]
    exact hS.2.1 q hq hA
variable {y : MethodName} {cb : ByteArray} {nb fr lo : Nat} {ret : Option FieldType} {As : List Value} {w : va_W}
/-- what a static callee throws goes on to the caller's caller -/
theorem rcX {x : MethodName} {cx : ByteArray} {nx nL k : Nat} {rx : Option FieldType} (F : Fx p l m c cc nL s args x cx nx rx D cs A) {st0 : List Value} {index na : Nat} (hC : CtX l y cb nb ret fr lo D cs As w k) (hP : va_P D vwCl w H) (hD : va_D A w) (hS : va_S A s.heap H locs) (hA : ∀ q : Nat, va_A w H.size q → A q)
    (hlocks : meth.locks = false) (hex : ∀ x ∈ c.exceptionTable.toList, False)
    (hcode : Cond.code y cb nb ret ∈ TBL) (hlink : Cond.methodLink x.cls index y ∈ TBL) (hstat : Cond.static y ∈ TBL) (hini : Cond.initialized y.cls ∈ TBL) (hd : y.cls ≠ "java/lang/invoke/MethodHandle" ∧ y.cls ≠ "java/lang/invoke/VarHandle" ∧ (parseMethodDescriptor y.desc).map (fun d => d.parameters.length) = some na)
    (hR : (fr + 1 ≤ R.frames ∧ 8 + (nb + 11) + lo ≤ R.locals) ∧ 1 ≤ R.cells ∧ 6 ≤ R.slots) (hn : As.length = na) (hsize : ls.size = nL) (hst : st0 = As.reverse ++ rest) (hcat : (rest.map fun v => v.category).sum ≤ 8) (hdg : decode cc pc = .ok (.invokestatic index, 3)) :
    W p l e R s m args below meth c H locs 0 0 (vx_MQ below noQ (XCk D w A k) args s 1 6 A) (F0 m pc ls st0) := by
  obtain ⟨hx, hb, hml, hown, hts, hK, hSS⟩ := id F
  have hr := vx_runS (e := e) (below := below) (meth := meth) (locs := locs) (g := F0 m pc ls st0) (rest := rest) (As := As) (cells := 0) (slots := 0) ⟨hx, hb, hml, hown, hts⟩ (hC H.size) ⟨callB_of na hts (goodTBL hcode) rfl rfl rfl (F.T hini) (F.T hlink) hd hR.1, F.T hstat⟩ ⟨pc_blind, pc_at hP hK hD hSS hS hA⟩ rfl hn hsize hst (lv_room hcat) hdg ⟨by omega, by omega⟩
  intro T hT X
  rcases hr T hT X with ⟨v, st₀, t, T', L, h0, X', hL, e1, e2, hq, st⟩ | ⟨q, st₀, t, T', L, E, ce, h0, X', hL, e1, e2, ⟨u1, u2, hF⟩, hce, hcv, hcl, st⟩
  · exact hq.elim
  · obtain ⟨k1, k2, k3⟩ := vx_keep h0 e1 hS (fun q _ h => hA q h) (fun q h => hA q h) hL hF
    have ho : vx_W p l e R s m args below meth c T'.heap (locs ++ L) (0 + 1) (0 + 6) (vx_MQ below noQ (XCk D w A k) args s 1 6 A) (F0 m pc ls rest) q := vx_out (E := E) (ce := ce) (fun z hz => (hex z hz).elim) hlocks (by rw [e1]; exact hce) hcv hcl (fun t2 h2 h3 => ⟨u1, by rw [h2, e1]; exact u2, by rw [h2]; exact k3.1, fun q hq hA2 => by rw [h2]; exact k3.2.1 q hq hA2⟩) k3.2.2 (Nat.le_refl _) (Nat.le_refl _)
    obtain ⟨t2, a1, b1⟩ := ho T' rfl X'
    exact ⟨t2, st.trans a1, b1⟩
-- texts
theorem rsv (hx : p.tables.exec = Jvm.exec) (hb : c.code = cc) {index i : Nat} (hi : i < 12) (hSS : SS D A s s.heap) (hS : va_S A s.heap H locs) (hown : s.vm.findClass "java/lang/String" = some m.cls) (hlink : (Cond.fieldLink "java/lang/String" index "java/lang/String" "value" "[B").before args s = true) (hdg : decode cc pc = .ok (.getfield index, 3))
    (kk : W p l e R s m args below meth c H locs cells slots Q (F0 m (pc + 3) ls (.ref (sV D i) :: rest))) : W p l e R s m args below meth c H locs cells slots Q (F0 m pc ls (.ref (sK D i) :: rest)) := vk_getf hx hb (hSS.2.2.2.2.2.2.2.1 i hi).2.2.1 hS hown hlink (fun _ h => h) hdg kk
theorem rsc (hx : p.tables.exec = Jvm.exec) (hb : c.code = cc) {index i : Nat} (hi : i < 12) (hSS : SS D A s s.heap) (hS : va_S A s.heap H locs) (hown : s.vm.findClass "java/lang/String" = some m.cls) (hlink : (Cond.fieldLink "java/lang/String" index "java/lang/String" "coder" "B").before args s = true) (hdg : decode cc pc = .ok (.getfield index, 3))
    (kk : W p l e R s m args below meth c H locs cells slots Q (F0 m (pc + 3) ls (.int 0 :: rest))) : W p l e R s m args below meth c H locs cells slots Q (F0 m pc ls (.ref (sK D i) :: rest)) := vk_getf hx hb (hSS.2.2.2.2.2.2.2.1 i hi).2.1 hS hown hlink (fun _ h => h) hdg kk
theorem rgz (hx : p.tables.exec = Jvm.exec) (hb : c.code = cc) {own : String} {index : Nat} (hSS : SS D A s s.heap) (hS : va_S A s.heap H locs) (hown : s.vm.findClass own = some m.cls) (hlink : (Cond.fieldLink own index "java/lang/String" "COMPACT_STRINGS" "Z").before args s = true) (hdg : decode cc pc = .ok (.getstatic index, 3))
    (kk : W p l e R s m args below meth c H locs cells slots Q (F0 m (pc + 3) ls (.int 1 :: rest))) : W p l e R s m args below meth c H locs cells slots Q (F0 m pc ls rest) := va_gets hx hb hSS.2.2.2.1 hS hown hlink (fun _ h => h) hdg kk
theorem rtb (hx : p.tables.exec = Jvm.exec) (hb : c.code = cc) {i0 j : Nat} (hi0 : i0 < 12) (hSS : SS D A s s.heap) (hS : va_S A s.heap H locs) {i : Int32} (hin : ¬ (i < 0 ∨ strL i0 ≤ i.toNatClampNeg)) (hj : i.toNatClampNeg = j) (hdg : decode cc pc = .ok (.baload, 1))
    (kk : W p l e R s m args below meth c H locs cells slots Q (F0 m (pc + 1) ls (.int (strC i0 j) :: rest))) : W p l e R s m args below meth c H locs cells slots Q (F0 m pc ls (.int i :: .ref (sV D i0) :: rest)) := by
  subst hj
  exact va_tb hx hb (hSS.2.2.2.2.2.2.2.1 i0 hi0).2.2.2 hS hin rfl hdg kk
theorem rtl (hx : p.tables.exec = Jvm.exec) (hb : c.code = cc) {i0 : Nat} (hi0 : i0 < 12) (hSS : SS D A s s.heap) (hS : va_S A s.heap H locs) (hdg : decode cc pc = .ok (.arraylength, 1))
    (kk : W p l e R s m args below meth c H locs cells slots Q (F0 m (pc + 1) ls (.int (Int32.ofNat (strL i0)) :: rest))) : W p l e R s m args below meth c H locs cells slots Q (F0 m pc ls (.ref (sV D i0) :: rest)) := va_tlen hx hb (hSS.2.2.2.2.2.2.2.1 i0 hi0).2.2.2 hS rfl hdg kk
/-- a method of a text -/
theorem rcT {x : MethodName} {cx : ByteArray} {nx nL : Nat} {rx : Option FieldType} (F : Fx p l m c cc nL s args x cx nx rx D cs A) {rv : Option Value} {st0 : List Value} {index na i0 : Nat} (hi0 : i0 < 12) {w w' : va_W} (hC : Ct l y cb nb ret fr lo D cs (.ref (sK D i0) :: As) w w' rv) (hP : va_P D vwCl w H) (hD : va_D A w) (hS : va_S A s.heap H locs) (hA : ∀ q : Nat, va_A w H.size q → A q)
    (hcode : Cond.code y cb nb ret ∈ TBL) (hlink : Cond.methodLink x.cls index y ∈ TBL) (him : Cond.instanceMethod y ∈ TBL) (hsel : Cond.selects "java/lang/String" y y ∈ TBL) (hini : Cond.initialized y.cls ∈ TBL) (hd : y.cls ≠ "java/lang/invoke/MethodHandle" ∧ y.cls ≠ "java/lang/invoke/VarHandle" ∧ (parseMethodDescriptor y.desc).map (fun d => d.parameters.length) = some na)
    (hR : fr + 1 ≤ R.frames ∧ 8 + (nb + 11) + lo ≤ R.locals) (hn : As.length = na) (hsize : ls.size = nL) (hst : st0 = As.reverse ++ .ref (sK D i0) :: rest) (hcat : (rest.map fun v => v.category).sum ≤ 8) (hdg : decode cc pc = .ok (.invokevirtual index, 3))
    (kk : ∀ (H1 : Heap) (locs1 : List Loc), va_P D vwCl w' H1 → va_S A s.heap H1 locs1 → W p l e R s m args below meth c H1 locs1 0 0 Q (F0 m (pc + 3) ls (rv.toList ++ rest))) : W p l e R s m args below meth c H locs 0 0 Q (F0 m pc ls st0) := by
  obtain ⟨hx, hb, hml, hown, hts, hK, hSS⟩ := id F
  obtain ⟨cell, h1, h2, h3, -⟩ := (hSS.2.2.2.2.2.2.2.1 i0 hi0).1.kept hS.2.1
  exact rcall (va_runV (C := "java/lang/String") (b := sK D i0) (As := As) ⟨hx, hb, hml, hown, hts⟩ (hC.2 H.size) ⟨callB_of na hts (goodTBL hcode) rfl rfl rfl (F.T hini) (F.T hlink) hd hR, F.T him, F.T hsel⟩ ⟨pc_blind, ⟨cell, h1, h2, h3⟩, pc_at hP hK hD hSS hS hA⟩ rfl hn hsize hst (lv_room hcat) hdg ⟨Nat.zero_le _, Nat.zero_le _⟩) hS hA kk
/-- a static of which only a reference or null is known -/
theorem rgq (hx : p.tables.exec = Jvm.exec) (hb : c.code = cc) {own : String} {index : Nat} (hSS : SS D A s s.heap) (hS : va_S A s.heap H locs) (hown : s.vm.findClass own = some m.cls) (hlink : (Cond.fieldLink own index "jdk/internal/util/Preconditions" "SIOOBE_FORMATTER" "Ljava/util/function/BiFunction;").before args s = true) (hdg : decode cc pc = .ok (.getstatic index, 3))
    (kk : ∀ v : Value, v.category = 1 → W p l e R s m args below meth c H locs cells slots Q (F0 m (pc + 3) ls (v :: rest))) : W p l e R s m args below meth c H locs cells slots Q (F0 m pc ls rest) := by
  rcases hSS.2.2.2.2.1 with h | ⟨t, h⟩
  · exact va_gets hx hb h hS hown hlink (fun _ h => h) hdg (kk _ rfl)
  · exact va_gets hx hb h hS hown hlink (fun _ h => h) hdg (kk _ rfl)
theorem nch {x : Int32} (h : vp_nar .char x = x) : narrow .char (.int x) = .int x := congrArg Value.int h
theorem nby {x : Int32} (h : vp_nar .byte x = x) : narrow .byte (.int x) = .int x := congrArg Value.int h
-- sums: what throws, what returns
def lif {α : Type} (o : Option α) : Option (Nat ⊕ α) := match o with
  | none => none
  | some x => some (.inr x)
def bX {α β : Type} (o : Option (Nat ⊕ α)) (f : α → Option (Nat ⊕ β)) : Option (Nat ⊕ β) := match o with
  | none => none
  | some (.inl k) => some (.inl k)
  | some (.inr x) => f x
theorem lif_el {α : Type} {o : Option α} {r : α} (h : lif o = some (.inr r)) : o = some r := by
  cases o with
  | none => cases h
  | some x => cases h; rfl
theorem lif_no {α : Type} {o : Option α} {k : Nat} {P : Prop} (h : lif o = some (.inl k)) : P := by
  cases o with
  | none => cases h
  | some x => cases h
theorem bX_el {α β : Type} {o : Option (Nat ⊕ α)} {f : α → Option (Nat ⊕ β)} {r : β} (h : bX o f = some (.inr r)) : ∃ x, o = some (.inr x) ∧ f x = some (.inr r) := by
  rcases o with _ | _ | x
  · cases h
  · cases h
  · exact ⟨x, rfl, h⟩
theorem bX_ex {α β : Type} {o : Option (Nat ⊕ α)} {f : α → Option (Nat ⊕ β)} {k : Nat} (h : bX o f = some (.inl k)) : o = some (.inl k) ∨ ∃ x, o = some (.inr x) ∧ f x = some (.inl k) := by
  rcases o with _ | _ | x
  · cases h
  · cases h; exact Or.inl rfl
  · exact Or.inr ⟨x, rfl, h⟩
end MORE
