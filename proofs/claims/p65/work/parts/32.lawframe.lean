/-! the frame of the law: calls of the class that may throw, caught; the script; the row that takes answers -/
def wsW (y : MethodName) (cc : ByteArray) (n : Nat) (ret : Option FieldType) (hh : List (Nat × Nat × Nat × Nat)) : List Cond := .codeWith y cc n ret hh :: TBL
theorem goodT {y : MethodName} {cy : ByteArray} {n2 : Nat} {r2 : Option FieldType} (h : Cond.code y cy n2 r2 ∈ TBL) : GoodIn TBL (wsOf y cy n2 r2) := fun w hw => by
  have key : ∀ v ∈ TBL, v ∈ TBL ∧ ((v.onTables && v.keeps) = true ∨ ∃ ty, v = .arrayClass ty) := fun v hv => ⟨hv, good_of_word (List.mem_filter.mp hv).2⟩
  rcases List.mem_cons.mp hw with e | e
  · rw [e]; exact key _ h
  · exact key w e
theorem goodTW {y : MethodName} {cy : ByteArray} {n2 : Nat} {r2 : Option FieldType} {hh : List (Nat × Nat × Nat × Nat)} (h : Cond.codeWith y cy n2 r2 hh ∈ TBL) : GoodIn TBL (wsW y cy n2 r2 hh) := fun w hw => by
  have key : ∀ v ∈ TBL, v ∈ TBL ∧ ((v.onTables && v.keeps) = true ∨ ∃ ty, v = .arrayClass ty) := fun v hv => ⟨hv, good_of_word (List.mem_filter.mp hv).2⟩
  rcases List.mem_cons.mp hw with e | e
  · rw [e]; exact key _ h
  · exact key w e
theorem Met.ofWH {l : Launch} {y : MethodName} {ws ws' : List Cond} {rm : Room} {Pc : Array Value → State → Prop} {Qc : Array Value → State → Outcome → State → Prop} {mc ms : Nat} {free : Addr → Prop} {cc : ByteArray} {maxL : Nat} {ret : Option FieldType} {hh : List (Nat × Nat × Nat × Nat)}
    (hy : plainName y.cls = true) (hw : ws = Cond.codeWith y cc maxL ret hh :: ws')
    (body : ∀ p e s m args below meth c s₁, BodyLoose p l y (headSpec ws rm) cc maxL ret e s m args below meth c s₁ → c.maxLocals = maxL → Pc args s →
      W p l e (headSpec ws rm).room s m args below meth c s.heap [] 0 0 (MQ below Qc args s mc ms free) (entryFrame m args maxL)) : Met l y ws rm Pc Qc mc ms free := by
  refine MetFree.of_bodyS (code := cc) (maxLocals := maxL) (ret := ret) hy ?_ ?_
  · intro args s m h hn
    obtain ⟨m9, meth, c, hn9, h1, h2, h3, h4, -, h5, h6, -⟩ := Cond.codeWith_spec (atoms_spec (ws := ws) h _ (by rw [hw]; exact List.mem_cons_self))
    cases hn.symm.trans hn9
    exact ⟨meth, c, h1, h2, h3, h4, h5, h6⟩
  · intro p e s m args below meth c s₁ B hml hP _
    have hh0 : s₁.heap = s.heap := by rw [B.state]; rfl
    obtain ⟨t, a1, o, b1, b2, b3⟩ := body p e s m args below meth c s₁ B hml hP s₁ hh0 (Stand.of_body B)
    exact ⟨t, o, a1, b1, b2, ⟨b3.1, b3.2⟩⟩
/-- what a call of the law's own methods does: whatever the class's method does, it answers a number; at most one cell is made -/
def CtL (l : Launch) (y : MethodName) (cc : ByteArray) (n : Nat) (hh : List (Nat × Nat × Nat × Nat)) (fr lo : Nat) (D : va_G) (cs : Nat → ClassId) (av : List Value) (w w' : va_W) (rv : Option Value) : Prop :=
  w'.map (fun q => q.1) = w.map (fun q => q.1) ∧ ∀ sz : Nat, Met l y (wsW y cc n (some .int) hh) ({ frames := fr, cells := 1, slots := 6, locals := lo }) (va_Pc av (PC D cs w sz)) (fun _ st oc t => (oc = .returned rv ∧ va_P D vwCl w' t.heap) ∧ va_F (va_A w sz) st t) 1 6 (va_A w sz)
theorem CtL.ofW {l : Launch} {y : MethodName} {cc : ByteArray} {n : Nat} {hh : List (Nat × Nat × Nat × Nat)} {fr lo : Nat} {D : va_G} {cs : Nat → ClassId} {av : List Value} {w w' : va_W} {rv : Option Value} (hy : plainName y.cls = true) (hfit : (lg_sl av).length ≤ n) (he : w'.map (fun q => q.1) = w.map (fun q => q.1))
    (body : ∀ (p : Program) (e : Env) (s : State) (m : MethodId) (below : List Frame) (meth : Method) (c : Code) (A : Nat → Prop) (Q : State → Prop) (ls : Array Slot) (args : Array Value),
      p.tables.exec = Jvm.exec → c.code = cc → meth.sig.returnType = some .int → c.maxLocals = n → meth.locks = false → s.vm.findClass y.cls = some m.cls → c.exceptionTable.toList = tableOf hh → (∀ v ∈ TBL, v.before args s = true) → KK D cs s → va_P D vwCl w s.heap → (∀ w1 : va_W, w1.map (fun q => q.1) = w.map (fun q => q.1) → va_D A w1) → SS D A s s.heap → va_S A s.heap s.heap [] → (∀ (w1 : va_W) (z : Nat), w1.map (fun q => q.1) = w.map (fun q => q.1) → s.heap.size ≤ z → ∀ q : Nat, va_A w1 z q → A q) → lv_has ls n (lv_args 0 av) →
      (∀ (H : Heap) (locs : List Loc) (g : JFrame), va_P D vwCl w' H → va_S A s.heap H locs → (∀ Qc : Array Value → State → Outcome → State → Prop, (∀ t : State, t.heap = H → s.WarmedH t.vm → Qc args s (.returned rv) t) → W p l e ({ frames := fr, cells := 1, slots := 6, locals := lo }) s m args below meth c H locs 1 6 (MQ below Qc args s 1 6 A) g) → W p l e ({ frames := fr, cells := 1, slots := 6, locals := lo }) s m args below meth c H locs 1 6 Q g) →
      W p l e ({ frames := fr, cells := 1, slots := 6, locals := lo }) s m args below meth c s.heap [] 0 0 Q (F0 m 0 ls [])) : CtL l y cc n hh fr lo D cs av w w' rv := by
  refine ⟨he, fun sz => ?_⟩
  refine Met.ofWH (cc := cc) (maxL := n) (ret := some .int) (hh := hh) hy rfl ?_
  intro p e s m args below meth c s₁ B hml hv
  obtain ⟨rfl, hsz, hP, hKK, hD0, hSS⟩ := hv
  have hts := atoms_spec (ws := wsW y cc n (some .int) hh) B.pre
  have hown : s.vm.findClass y.cls = some m.cls := findClass_of_methodNamed B.named
  have htb : c.exceptionTable.toList = tableOf hh := vx_table (x := y) B (hts _ List.mem_cons_self)
  subst hsz
  have hD := hD0.self (sz := s.heap.size)
  rw [lg_entry_eq]
  refine body p e s m below meth c (va_A w s.heap.size) _ _ av.toArray B.exec B.bytes B.returns hml B.notSynchronized hown htb (fun v hv => hts v (List.mem_cons_of_mem _ hv)) hKK hP (fun w1 h1 => hD.map h1) hSS va_S.rf (fun w1 z h1 h2 q hq => ?_) (lv_entry av hfit) (fun H locs g hP' hS' hw => ?_)
  · rcases va_A.map h1 hq with h | h
    · exact Or.inl h
    · exact Or.inr (Nat.le_trans h2 h)
  · exact hw _ (fun t ht hW => ⟨⟨rfl, by rw [ht]; exact hP'⟩, hS'.F ht⟩)
/-- the callers' fixed things in the law -/
def Fl (p : Program) (m : MethodId) (c : Code) (cc : ByteArray) (nL : Nat) (s : State) (args : Array Value) (own : String) (D : va_G) (cs : Nat → ClassId) (A : Nat → Prop) : Prop :=
  p.tables.exec = Jvm.exec ∧ c.code = cc ∧ c.maxLocals = nL ∧ s.vm.findClass own = some m.cls ∧ (∀ v ∈ TBL, v.before args s = true) ∧ KK D cs s ∧ SS D A s s.heap
section LAWF
variable {p : Program} {l : Launch} {e : Env} {R : Room} {s : State} {m : MethodId} {args : Array Value} {below : List Frame} {meth : Method} {c : Code} {H : Heap} {locs : List Loc} {cells slots : Nat} {Q : State → Prop}
variable {cc : ByteArray} {pc : Nat} {ls : Array Slot} {rest : List Value} {D : va_G} {cs : Nat → ClassId} {A : Nat → Prop} {n : Nat} {ad : Nat → Nat} {sh : Sh} {Wf : MM → va_W} {mm : MM}
variable {y : MethodName} {cb : ByteArray} {nb fr lo : Nat} {ret : Option FieldType} {As : List Value} {w w' : va_W}
theorem Fl.T {own : String} {nL : Nat} (F : Fl p m c cc nL s args own D cs A) {w : Cond} (h : w ∈ TBL) : w.before args s = true := F.2.2.2.2.1 w h
theorem lcall {rv : Option Value} {st0 : List Value} {mc ms : Nat} (hr : va_Run p l e R s m args below meth c H locs cells slots mc ms (F0 m pc ls st0) rest (fun st oc t => (oc = .returned rv ∧ va_P D vwCl w' t.heap) ∧ va_F (va_A w H.size) st t) (va_A w H.size)) (hS : va_S A s.heap H locs) (hA : ∀ q : Nat, va_A w H.size q → A q)
    (kk : ∀ (H1 : Heap) (locs1 : List Loc), va_P D vwCl w' H1 → va_S A s.heap H1 locs1 → W p l e R s m args below meth c H1 locs1 (cells + mc) (slots + ms) Q (F0 m (pc + 3) ls (rv.toList ++ rest))) : W p l e R s m args below meth c H locs cells slots Q (F0 m pc ls st0) := by
  intro T hT X
  obtain ⟨v, st₀, t, T', L, h0, X', hL, e1, e2, ⟨⟨hv, hp⟩, hz, hk⟩, st⟩ := hr T hT X
  cases hv
  rw [h0] at hz hk
  obtain ⟨t2, a1, b1⟩ := kk T'.heap (locs ++ L) (by rw [e1]; exact hp)
    ⟨Nat.le_trans hS.1 (by rw [e1]; exact hz), fun q h1 h2 => by rw [e1, hk q (Nat.lt_of_lt_of_le h1 hS.1) (fun z => h2 (hA q z))]; exact hS.2.1 q h1 h2, fun q hq => by
      rcases List.mem_append.mp hq with h | h
      · exact hS.2.2 q h
      · exact hA _ (hL q h)⟩ T' rfl X'
  exact ⟨t2, st t2 a1, b1⟩
/-- a method of the class, or of the reference, that returns -/
theorem lrV {own : String} {nL : Nat} (F : Fl p m c cc nL s args own D cs A) {rv : Option Value} {st0 : List Value} {index na q : Nat} {ci : Nat} {fs : List Value} {C : String} {T : u_T} {N : Nat} (hC : Ct l y cb nb ret fr lo D cs (.ref (ad q) :: As) (Wf mm) w' rv) (hP : va_P D vwCl (Wf mm) H) (hD : va_D A (Wf mm)) (hS : va_S A s.heap H locs) (hA : ∀ q : Nat, va_A (Wf mm) H.size q → A q) (hL : Ln n ad sh Wf) (hq : q < n) (hs : sh q (mm.1 q) (mm.2 q) = .inr (ci, fs)) (hc : vwCl[ci]? = some (C, T, N))
    (hcode : Cond.code y cb nb ret ∈ TBL) (hlink : Cond.methodLink own index y ∈ TBL) (him : Cond.instanceMethod y ∈ TBL) (hsel : Cond.selects C y y ∈ TBL) (hini : Cond.initialized y.cls ∈ TBL) (hd : y.cls ≠ "java/lang/invoke/MethodHandle" ∧ y.cls ≠ "java/lang/invoke/VarHandle" ∧ (parseMethodDescriptor y.desc).map (fun d => d.parameters.length) = some na)
    (hR : fr + 1 ≤ R.frames ∧ 8 + (nb + 11) + lo ≤ R.locals) (hc1 : cells ≤ R.cells ∧ slots ≤ R.slots) (hn : As.length = na) (hsize : ls.size = nL) (hst : st0 = As.reverse ++ .ref (ad q) :: rest) (hcat : (rest.map fun v => v.category).sum ≤ 8) (hdg : decode cc pc = .ok (.invokevirtual index, 3))
    (kk : ∀ (H1 : Heap) (locs1 : List Loc), va_P D vwCl w' H1 → va_S A s.heap H1 locs1 → W p l e R s m args below meth c H1 locs1 cells slots Q (F0 m (pc + 3) ls (rv.toList ++ rest))) : W p l e R s m args below meth c H locs cells slots Q (F0 m pc ls st0) := by
  obtain ⟨hx, hb, hml, hown, hts, hK, hSS⟩ := id F
  obtain ⟨i, h1, -⟩ := hL.get mm hq
  rw [hs] at h1
  have hrc := va_recv hK.1 hP hc h1
  exact lcall (va_runV (C := C) (b := ad q) (As := As) ⟨hx, hb, hml, hown, hts⟩ (hC.2 H.size) ⟨callB_of na hts (goodT hcode) rfl rfl rfl (F.T hini) (F.T hlink) hd hR, F.T him, F.T hsel⟩ ⟨pc_blind, hrc, pc_at hP hK hD hSS hS hA⟩ rfl hn hsize hst (lv_room hcat) hdg ⟨by omega, by omega⟩) hS hA kk
/-- a method of the law -/
theorem lrL {own : String} {nL : Nat} (F : Fl p m c cc nL s args own D cs A) {rv : Option Value} {st0 : List Value} {index na : Nat} {hh : List (Nat × Nat × Nat × Nat)} (hC : CtL l y cb nb hh fr lo D cs As w w' rv) (hP : va_P D vwCl w H) (hD : va_D A w) (hS : va_S A s.heap H locs) (hA : ∀ q : Nat, va_A w H.size q → A q)
    (hcode : Cond.codeWith y cb nb (some .int) hh ∈ TBL) (hlink : Cond.methodLink own index y ∈ TBL) (hstat : Cond.static y ∈ TBL) (hini : Cond.initialized y.cls ∈ TBL) (hd : y.cls ≠ "java/lang/invoke/MethodHandle" ∧ y.cls ≠ "java/lang/invoke/VarHandle" ∧ (parseMethodDescriptor y.desc).map (fun d => d.parameters.length) = some na)
    (hR : fr + 1 ≤ R.frames ∧ 8 + (nb + 11) + lo ≤ R.locals) (hc1 : cells + 1 ≤ R.cells ∧ slots + 6 ≤ R.slots) (hn : As.length = na) (hsize : ls.size = nL) (hst : st0 = As.reverse ++ rest) (hcat : (rest.map fun v => v.category).sum ≤ 8) (hdg : decode cc pc = .ok (.invokestatic index, 3))
    (kk : ∀ (H1 : Heap) (locs1 : List Loc), va_P D vwCl w' H1 → va_S A s.heap H1 locs1 → W p l e R s m args below meth c H1 locs1 (cells + 1) (slots + 6) Q (F0 m (pc + 3) ls (rv.toList ++ rest))) : W p l e R s m args below meth c H locs cells slots Q (F0 m pc ls st0) := by
  obtain ⟨hx, hb, hml, hown, hts, hK, hSS⟩ := id F
  have cw : vx_CSW R s args own index y cb nb (some .int) hh (wsW y cb nb (some .int) hh) ({ frames := fr, cells := 1, slots := 6, locals := lo }) 1 6 na := by
    refine ⟨⟨rfl, rfl, hR.1, hR.2, pay_in hts (goodTW hcode), List.mem_cons_self⟩, F.T hcode, F.T hini, ⟨hd.1, hd.2.1⟩, fun sig h => ?_, F.T hlink, F.T hstat⟩
    have h2 := hd.2.2
    rw [h] at h2
    exact (Option.some.inj h2).symm
  exact lcall (vx_runSW (As := As) ⟨hx, hb, hml, hown, hts⟩ (hC.2 H.size) cw ⟨pc_blind, pc_at hP hK hD hSS hS hA⟩ rfl hn hsize hst (lv_room hcat) hdg hc1) hS hA kk
/-- a method of the class that throws, caught by row z -/
theorem lrX {own : String} {nL k : Nat} (F : Fl p m c cc nL s args own D cs A) {st0 : List Value} {index na q : Nat} {ci : Nat} {fs : List Value} {C : String} {T : u_T} {N : Nat} (hC : CtX l y cb nb ret fr lo D cs (.ref (ad q) :: As) (Wf mm) k) (hP : va_P D vwCl (Wf mm) H) (hD : va_D A (Wf mm)) (hS : va_S A s.heap H locs) (hA : ∀ q : Nat, va_A (Wf mm) H.size q → A q) (hL : Ln n ad sh Wf) (hq : q < n) (hs : sh q (mm.1 q) (mm.2 q) = .inr (ci, fs)) (hc : vwCl[ci]? = some (C, T, N))
    (hcode : Cond.code y cb nb ret ∈ TBL) (hlink : Cond.methodLink own index y ∈ TBL) (him : Cond.instanceMethod y ∈ TBL) (hsel : Cond.selects C y y ∈ TBL) (hini : Cond.initialized y.cls ∈ TBL) (hd : y.cls ≠ "java/lang/invoke/MethodHandle" ∧ y.cls ≠ "java/lang/invoke/VarHandle" ∧ (parseMethodDescriptor y.desc).map (fun d => d.parameters.length) = some na)
    (hR : fr + 1 ≤ R.frames ∧ 8 + (nb + 11) + lo ≤ R.locals) (hc1 : 1 ≤ R.cells ∧ 6 ≤ R.slots) (hn : As.length = na) (hsize : ls.size = nL) (hst : st0 = As.reverse ++ .ref (ad q) :: rest) (hcat : (rest.map fun v => v.category).sum ≤ 8) (hdg : decode cc pc = .ok (.invokevirtual index, 3))
    (pre : List ExceptionTableEntry) (x : ExceptionTableEntry) (suf : List ExceptionTableEntry) (hsplit : c.exceptionTable.toList = pre ++ x :: suf)
    (hpass : ∀ z ∈ pre, covers z pc = false ∨ (z.catchType ≠ 0 ∧ ∃ nm : String, (Cond.classLink own z.catchType nm).before args s = true ∧ va_Nc (exN k) nm s)) (hxc : covers x pc = true) (h0 : x.catchType ≠ 0)
    (hlink2 : Cond.classLink own x.catchType (exN k) ∈ TBL) (hcast : Cond.castable (exN k) (exN k) ∈ lw_tbl)
    (kk : ∀ (H1 : Heap) (locs1 : List Loc) (q9 : Nat), va_P D vwCl (Wf mm) H1 → va_S A s.heap H1 locs1 → W p l e R s m args below meth c H1 locs1 1 6 Q (F0 m x.handlerPc ls [.ref q9])) : W p l e R s m args below meth c H locs 0 0 Q (F0 m pc ls st0) := by
  obtain ⟨hx, hb, hml, hown, hts, hK, hSS⟩ := id F
  obtain ⟨i, h1, -⟩ := hL.get mm hq
  rw [hs] at h1
  have hrc := va_recv hK.1 hP hc h1
  have hr := vx_runV (e := e) (below := below) (meth := meth) (locs := locs) (g := F0 m pc ls st0) (rest := rest) (C := C) (b := ad q) (As := As) (cells := 0) (slots := 0) ⟨hx, hb, hml, hown, hts⟩ (hC H.size) ⟨callB_of na hts (goodT hcode) rfl rfl rfl (F.T hini) (F.T hlink) hd hR, F.T him, F.T hsel⟩ ⟨pc_blind, hrc, pc_at hP hK hD hSS hS hA⟩ rfl hn hsize hst (lv_room hcat) hdg ⟨by omega, by omega⟩
  intro T hT X
  rcases hr T hT X with ⟨v, st₀, t, T', L, h0, X', hL, e1, e2, hq, st⟩ | ⟨q, st₀, t, T', L, E, ce, h2, X', hL, e1, e2, ⟨u1, u2, hF⟩, hce, hcv, hcl, st⟩
  · exact hq.elim
  · obtain ⟨k1, k2, k3⟩ := vx_keep h2 e1 hS (fun q _ h => hA q h) (fun q h => hA q h) hL hF
    subst u1
    have ho : vx_W p l e R s m args below meth c T'.heap (locs ++ L) 1 6 Q (F0 m pc ls rest) q := vx_catch hown pre x suf hsplit hpass hxc h0 (F.T hlink2) (hK.2.1.use hcast rfl) (by rw [e1]; exact hce) hcv hcl (kk T'.heap (locs ++ L) q (by rw [e1]; exact u2) k3)
    obtain ⟨t2, a1, b1⟩ := ho T' rfl X'
    exact ⟨t2, st.trans a1, b1⟩
end LAWF
/-- the row that takes answers -/
def ush (cs : Nat → ClassId) : Sh := fun _ _ t => .inl (cs 2, 1, .inr (.inl t))
theorem us0 {cs : Nat → ClassId} (r : Nat → Int32) (t : Nat → Int64) : ush cs 0 r t = .inl (cs 2, 1, .inr (.inl t)) := rfl
def wL {α β : Type} (o : Option (Nat ⊕ α)) (f0 f1 : Option β) (g : α → Option β) : Option β := match o with
  | none => none
  | some (.inl 0) => f0
  | some (.inl (_ + 1)) => f1
  | some (.inr x) => g x
theorem wL_el {α β : Type} {o : Option (Nat ⊕ α)} {f0 f1 : Option β} {g : α → Option β} {r : β} (h : wL o f0 f1 g = some r) : (o = some (.inl 0) ∧ f0 = some r) ∨ (∃ k : Nat, o = some (.inl (k + 1)) ∧ f1 = some r) ∨ ∃ x, o = some (.inr x) ∧ g x = some r := by
  rcases o with _ | k | x
  · cases h
  · cases k with
    | zero => exact Or.inl ⟨rfl, h⟩
    | succ k => exact Or.inr (Or.inl ⟨k, rfl, h⟩)
  · exact Or.inr (Or.inr ⟨x, rfl, h⟩)
theorem es5 {α β γ δ ε : Type} {a r : α} {b s : β} {c t : γ} {d u : δ} {e v : ε} (h : some (a, b, c, d, e) = some (r, s, t, u, v)) : a = r ∧ b = s ∧ c = t ∧ d = u ∧ e = v := ⟨(es2 h).1, es4 (congrArg some (es2 h).2)⟩
def b5 {α γ δ ε ζ β : Type} (o : Option (α × γ × δ × ε × ζ)) (f : α → γ → δ → ε → ζ → Option β) : Option β := match o with
  | none => none
  | some (x, y, z, u, v) => f x y z u v
theorem b5_el {α γ δ ε ζ β : Type} {o : Option (α × γ × δ × ε × ζ)} {f : α → γ → δ → ε → ζ → Option β} {r : β} (h : b5 o f = some r) : ∃ x y z u v, o = some (x, y, z, u, v) ∧ f x y z u v = some r := by
  cases o with
  | none => cases h
  | some x => exact ⟨x.1, x.2.1, x.2.2.1, x.2.2.2.1, x.2.2.2.2, rfl, h⟩
