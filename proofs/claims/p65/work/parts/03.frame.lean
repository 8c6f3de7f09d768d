/-! THE FRAME OF THE WALK: memory as rows of numbers, worlds as a function of such memories (a lens says where a component's cells stand), one word list for all methods, contracts that say exactly what comes out. -/
def sel5 : List Cond := [.selects RJ4 yJ5_ensureCapacityInternal_d00df yJ5_ensureCapacityInternal_d00df, .selects RJ4 yJ5_newCapacity_0f7a4 yJ5_newCapacity_0f7a4, .selects RJ4 yJ5_putStringAt_47b60 yJ5_putStringAt_47b60, .selects RJ4 yJ5_inflateIfNeededFor_a7421 yJ5_inflateIfNeededFor_a7421]
def TBL : List Cond := (sel5 ++ lw_tbl).filter goodWord
def nestW : Cond → Bool
  | .fieldLinkNest _ _ _ _ _ _ => true
  | .methodLinkNest _ _ _ _ => true
  | .declares _ => true
  | .castable _ _ => true
  | _ => false
def wsOf (y : MethodName) (cc : ByteArray) (n : Nat) (ret : Option FieldType) : List Cond := .code y cc n ret :: TBL
theorem inT {w : Cond} (h : w ∈ lw_tbl) (g : goodWord w = true) : w ∈ TBL := List.mem_filter.mpr ⟨List.mem_append_right _ h, g⟩
theorem inTb {w : Cond} (h : w ∈ tables_1) (g : goodWord w = true) : w ∈ TBL := inT (List.mem_append_right _ h) g
theorem goodTBL {x y : MethodName} {cx cy : ByteArray} {n n2 : Nat} {r r2 : Option FieldType} (h : Cond.code y cy n2 r2 ∈ TBL) : GoodIn (wsOf x cx n r) (wsOf y cy n2 r2) := fun w hw => by
  have key : ∀ v ∈ TBL, v ∈ wsOf x cx n r ∧ ((v.onTables && v.keeps) = true ∨ ∃ ty, v = .arrayClass ty) := fun v hv => ⟨List.mem_cons_of_mem _ hv, good_of_word (List.mem_filter.mp hv).2⟩
  rcases List.mem_cons.mp hw with e | e
  · rw [e]; exact key _ h
  · exact key w e
/-- the nest's words, of a state -/
def NN (U : State) : Prop := ∀ w ∈ lw_tbl, nestW w = true → va_Nw w U
theorem NN.warm {s U : State} (hW : s.WarmedH U.vm) (h : NN s) : NN U := by
  intro w hw hn
  have hz := h w hw hn
  cases w <;> first | exact va_Nw.warmF hW hz | exact va_Nw.warmM hW hz | exact va_Nw.warmD hW hz | exact va_Nw.warmC hW hz | cases hn
theorem NN.same {u U : State} (hv : u.vm = U.vm) (h : NN u) : NN U := by
  intro w hw hn
  have hz := h w hw hn
  cases w <;> first | exact va_Nw.same rfl hv hz | cases hn
theorem NN.use {s : State} {args : Array Value} (h : NN s) {w : Cond} (hm : w ∈ lw_tbl) (hn : nestW w = true) : w.before args s = true := by
  have hz := h w hm hn
  cases w <;> first | exact va_Nw.use rfl hz | cases hn
theorem NN.f {s : State} {args : Array Value} (h : NN s) {a : String} {i : Nat} {b n d o : String} (hm : Cond.fieldLinkNest a i b n d o ∈ lw_tbl) : (Cond.fieldLinkNest a i b n d o).before args s = true := va_Nw.use rfl (h _ hm rfl)
theorem NN.m {s : State} (h : NN s) {a : String} {i : Nat} {y : MethodName} {o : String} (hm : Cond.methodLinkNest a i y o ∈ lw_tbl) : va_Nw (.methodLinkNest a i y o) s := h _ hm rfl
/-- the statics that are read, and lie in nobody's world -/
def dfl : Nat → Int32 := fun j => ([10, 30, 10, 8, 10, 90, 6, 2, 500, 0, 1, 0, 0, 0, 20] : List Int32).getD j 0
def lea : Nat → Int32 := fun j => ([1, 0, 0, 0, 0, 0, 0, 0, 0, 0, 0, 0, 0, 0, 0] : List Int32).getD j 0
def mst : Nat → Int32 := fun j => ([50, 200, 200, 200, 200, 100, 100, 5, 999, 999, 999999, 20, 200, 100, 200] : List Int32).getD j 0
def SA (nm : String) (f : Nat → Int32) (A : Nat → Prop) (U : State) (H : Heap) : Prop := ∃ t : Nat, va_Z RX9 nm "[I" (.ref t) A U H ∧ va_T .int t 15 (fun j => .int (f j)) A U H
/-- the texts of the keywords, and their bytes -/
def strB : List (List Int32) := [[109, 97, 99, 104, 105, 110, 101], [116, 105, 109, 101, 115], [118, 105, 115, 105, 111, 110], [99, 97, 109, 101, 114, 97], [115, 101, 101, 100], [97, 108, 97, 114, 109], [119, 101, 97, 114], [110, 111, 122, 122, 108, 101, 115], [107, 105, 110, 100], [102, 101, 101, 100, 101, 114], [115, 112, 111, 116], [98, 101, 102, 111, 114, 101], [], [], [], [], [109, 97, 99, 104, 105, 110, 101, 32], [32], [59, 118, 105, 115, 105, 111, 110, 32], [32, 49, 48, 32], [59, 110, 111, 122, 122, 108, 101, 115, 32, 50, 32, 49, 59, 107, 105, 110, 100, 32, 48, 59, 107, 105, 110, 100, 32, 49, 59, 107, 105, 110, 100, 32, 48, 59, 115, 101, 101, 100, 32], [59, 102, 101, 101, 100, 101, 114, 32], [59, 115, 112, 111, 116, 32], [59, 97, 108, 97, 114, 109, 32], [59, 119, 101, 97, 114, 32], [32, 51, 48, 32], [59, 98, 101, 102, 111, 114, 101, 32, 48, 32, 52, 59, 98, 101, 102, 111, 114, 101, 32, 52, 32, 50]]
def strC (i k : Nat) : Int32 := (strB.getD i []).getD k 0
def strL (i : Nat) : Nat := (strB.getD i []).length
/-- where a text lies, where its bytes lie: the numbers 100 and 101 of the places' table are no class's -/
def sK (D : va_G) (i : Nat) : Nat := D.2 100 i
def sV (D : va_G) (i : Nat) : Nat := D.2 101 i
def SF (D : va_G) (i : Nat) (A : Nat → Prop) (U : State) (H : Heap) : Prop := va_O "java/lang/String" (sK D i) A U H ∧ va_OF "java/lang/String" "coder" "B" (.int 0) (sK D i) A U H ∧ va_OF "java/lang/String" "value" "[B" (.ref (sV D i)) (sK D i) A U H ∧ va_T .byte (sV D i) (strL i) (fun j => .int (strC i j)) A U H
theorem SA.moved {nm : String} {f : Nat → Int32} {A : Nat → Prop} {u U : State} {H : Heap} (hvm : u.vm.Alike U.vm) (h : SA nm f A u H) : SA nm f A U H := by
  obtain ⟨t, h1, h2⟩ := h
  exact ⟨t, va_Z.moved hvm h1, va_T.moved hvm h2⟩
theorem SA.kept {nm : String} {f : Nat → Int32} {A : Nat → Prop} {U : State} {H H1 : Heap} (h : SA nm f A U H) (hq : ∀ a : Nat, a < H.size → ¬ A a → H1[a]? = H[a]?) : SA nm f A U H1 := by
  obtain ⟨t, h1, h2⟩ := h
  exact ⟨t, va_Z.kept h1 hq, va_T.kept h2 hq⟩
theorem SA.narrow {nm : String} {f : Nat → Int32} {A B : Nat → Prop} {U : State} {H : Heap} (h : SA nm f A U H) (hAB : ∀ q, B q → A q) : SA nm f B U H := by
  obtain ⟨t, h1, h2⟩ := h
  exact ⟨t, va_Z.narrow h1 hAB, va_T.narrow h2 hAB⟩
theorem SF.moved {D : va_G} {i : Nat} {A : Nat → Prop} {u U : State} {H : Heap} (hvm : u.vm.Alike U.vm) (h : SF D i A u H) : SF D i A U H := ⟨va_O.moved hvm h.1, va_OF.moved hvm h.2.1, va_OF.moved hvm h.2.2.1, va_T.moved hvm h.2.2.2⟩
theorem SF.kept {D : va_G} {i : Nat} {A : Nat → Prop} {U : State} {H H1 : Heap} (h : SF D i A U H) (hq : ∀ a : Nat, a < H.size → ¬ A a → H1[a]? = H[a]?) : SF D i A U H1 := ⟨h.1.kept hq, h.2.1.kept hq, h.2.2.1.kept hq, h.2.2.2.kept hq⟩
theorem SF.narrow {D : va_G} {i : Nat} {A B : Nat → Prop} {U : State} {H : Heap} (h : SF D i A U H) (hAB : ∀ q, B q → A q) : SF D i B U H := ⟨h.1.narrow hAB, h.2.1.narrow hAB, h.2.2.1.narrow hAB, h.2.2.2.narrow hAB⟩
/-- the digits' tables, and the script: b its address, L its length, x its numbers -/
def dgO (j : Nat) : Int32 := Int32.ofNat (48 + j % 10)
def dgT (j : Nat) : Int32 := Int32.ofNat (48 + j / 10)
def sB (D : va_G) : Nat := D.2 102 0
def sL (D : va_G) : Nat := D.2 102 1
def sX (D : va_G) (j : Nat) : Int32 := Int32.ofNat (D.2 103 j)
def TD (nm : String) (f : Nat → Int32) (A : Nat → Prop) (U : State) (H : Heap) : Prop := ∃ t : Nat, va_Z "java/lang/Integer" nm "[B" (.ref t) A U H ∧ va_T .byte t 100 (fun j => .int (f j)) A U H
theorem TD.moved {nm : String} {f : Nat → Int32} {A : Nat → Prop} {u U : State} {H : Heap} (hvm : u.vm.Alike U.vm) (h : TD nm f A u H) : TD nm f A U H := by
  obtain ⟨t, h1, h2⟩ := h
  exact ⟨t, va_Z.moved hvm h1, va_T.moved hvm h2⟩
theorem TD.kept {nm : String} {f : Nat → Int32} {A : Nat → Prop} {U : State} {H H1 : Heap} (h : TD nm f A U H) (hq : ∀ a : Nat, a < H.size → ¬ A a → H1[a]? = H[a]?) : TD nm f A U H1 := by
  obtain ⟨t, h1, h2⟩ := h
  exact ⟨t, h1.kept hq, h2.kept hq⟩
theorem TD.narrow {nm : String} {f : Nat → Int32} {A B : Nat → Prop} {U : State} {H : Heap} (h : TD nm f A U H) (hAB : ∀ q, B q → A q) : TD nm f B U H := by
  obtain ⟨t, h1, h2⟩ := h
  exact ⟨t, h1.narrow hAB, h2.narrow hAB⟩
def SC (D : va_G) (A : Nat → Prop) (U : State) (H : Heap) : Prop := va_X (sB D) (sL D) (sX D) U H ∧ ¬ A (sB D)
def LwS (D : va_G) (A : Nat → Prop) (U : State) (H : Heap) : Prop := (∀ i : Nat, 16 ≤ i → i < 27 → SF D i A U H) ∧ TD "DigitOnes" dgO A U H ∧ TD "DigitTens" dgT A U H ∧ SC D A U H
theorem LwS.moved {D : va_G} {A : Nat → Prop} {u U : State} {H : Heap} (hvm : u.vm.Alike U.vm) (h : LwS D A u H) : LwS D A U H := ⟨fun i h1 h2 => (h.1 i h1 h2).moved hvm, h.2.1.moved hvm, h.2.2.1.moved hvm, va_X.moved hvm h.2.2.2.1, h.2.2.2.2⟩
theorem LwS.kept {D : va_G} {A : Nat → Prop} {U : State} {H H1 : Heap} (h : LwS D A U H) (hq : ∀ a : Nat, a < H.size → ¬ A a → H1[a]? = H[a]?) : LwS D A U H1 := ⟨fun i h1 h2 => (h.1 i h1 h2).kept hq, h.2.1.kept hq, h.2.2.1.kept hq, h.2.2.2.1.kept (hq _ (by
  obtain ⟨scr, h1, -⟩ := h.2.2.2.1
  exact (Array.getElem?_eq_some_iff.mp h1).1) h.2.2.2.2), h.2.2.2.2⟩
theorem LwS.narrow {D : va_G} {A B : Nat → Prop} {U : State} {H : Heap} (h : LwS D A U H) (hAB : ∀ q, B q → A q) : LwS D B U H := ⟨fun i h1 h2 => (h.1 i h1 h2).narrow hAB, h.2.1.narrow hAB, h.2.2.1.narrow hAB, h.2.2.2.1, fun z => h.2.2.2.2 (hAB _ z)⟩
def SS (D : va_G) (A : Nat → Prop) (U : State) (H : Heap) : Prop := SA "DEFAULTS" dfl A U H ∧ SA "LEAST" lea A U H ∧ SA "MOST" mst A U H ∧ va_Z "java/lang/String" "COMPACT_STRINGS" "Z" (.int 1) A U H ∧ va_Zq "jdk/internal/util/Preconditions" "SIOOBE_FORMATTER" "Ljava/util/function/BiFunction;" A U H ∧ vx_Zq Bundle.tN "UNASSIGNED_STACK" Bundle.steD A U H ∧ vx_Zq Bundle.tN "SUPPRESSED_SENTINEL" Bundle.listD A U H ∧ (∀ i : Nat, i < 12 → SF D i A U H) ∧ LwS D A U H
theorem SS.moved {D : va_G} {A : Nat → Prop} {u U : State} {H : Heap} (hvm : u.vm.Alike U.vm) (h : SS D A u H) : SS D A U H := ⟨h.1.moved hvm, h.2.1.moved hvm, h.2.2.1.moved hvm, va_Z.moved hvm h.2.2.2.1, va_Zq.moved hvm h.2.2.2.2.1, vx_Zq.moved hvm h.2.2.2.2.2.1, vx_Zq.moved hvm h.2.2.2.2.2.2.1, fun i hi => (h.2.2.2.2.2.2.2.1 i hi).moved hvm, h.2.2.2.2.2.2.2.2.moved hvm⟩
theorem SS.kept {D : va_G} {A : Nat → Prop} {U : State} {H H1 : Heap} (h : SS D A U H) (hq : ∀ a : Nat, a < H.size → ¬ A a → H1[a]? = H[a]?) : SS D A U H1 := ⟨h.1.kept hq, h.2.1.kept hq, h.2.2.1.kept hq, h.2.2.2.1.kept hq, h.2.2.2.2.1.kept hq, h.2.2.2.2.2.1.kept hq, h.2.2.2.2.2.2.1.kept hq, fun i hi => (h.2.2.2.2.2.2.2.1 i hi).kept hq, h.2.2.2.2.2.2.2.2.kept hq⟩
theorem SS.narrow {D : va_G} {A B : Nat → Prop} {U : State} {H : Heap} (h : SS D A U H) (hAB : ∀ q, B q → A q) : SS D B U H := ⟨h.1.narrow hAB, h.2.1.narrow hAB, h.2.2.1.narrow hAB, h.2.2.2.1.narrow hAB, h.2.2.2.2.1.narrow hAB, h.2.2.2.2.2.1.narrow hAB, h.2.2.2.2.2.2.1.narrow hAB, fun i hi => (h.2.2.2.2.2.2.2.1 i hi).narrow hAB, h.2.2.2.2.2.2.2.2.narrow hAB⟩
/-- the constants that are texts: whose, which constant, the text, its place among the texts -/
def strR : List (String × Nat × String × Nat) := [("PlacerHead$Description", 82, "machine", 0), ("PlacerHead$Description", 96, "times", 1), ("PlacerHead$Description", 98, "vision", 2), ("PlacerHead$Description", 100, "camera", 3), ("PlacerHead$Description", 102, "seed", 4), ("PlacerHead$Description", 104, "alarm", 5), ("PlacerHead$Description", 106, "wear", 6), ("PlacerHead$Description", 108, "nozzles", 7), ("PlacerHead$Description", 113, "kind", 8), ("PlacerHead$Description", 118, "feeder", 9), ("PlacerHead$Description", 123, "spot", 10), ("PlacerHead$Description", 128, "before", 11), ("PlacerHead", 108, "what is 0 to 5", 12), ("PlacerHead", 355, "a number is out of its range", 13), ("PlacerHead", 121, "the camera and the seed stay", 14), ("PlacerHead", 352, "there is no such thing", 15), ("PlacerHeadLaw", 36, "machine ", 16), ("PlacerHeadLaw", 50, " ", 17), ("PlacerHeadLaw", 52, ";vision ", 18), ("PlacerHeadLaw", 54, " 10 ", 19), ("PlacerHeadLaw", 56, ";nozzles 2 1;kind 0;kind 1;kind 0;seed ", 20), ("PlacerHeadLaw", 62, ";feeder ", 21), ("PlacerHeadLaw", 64, ";spot ", 22), ("PlacerHeadLaw", 66, ";alarm ", 23), ("PlacerHeadLaw", 68, ";wear ", 24), ("PlacerHeadLaw", 70, " 30 ", 25), ("PlacerHeadLaw", 72, ";before 0 4;before 4 2", 26)]
def ST (D : va_G) (U : State) : Prop := ∀ x ∈ strR, vk_R x.1 x.2.1 x.2.2.1 (sK D x.2.2.2) U
theorem ST.warm {D : va_G} {s U : State} (hW : s.WarmedH U.vm) (h : ST D s) : ST D U := fun x hx => (h x hx).warm hW
theorem ST.same {D : va_G} {u U : State} (hv : U.vm = u.vm) (h : ST D u) : ST D U := fun x hx => (h x hx).same hv
theorem ST.at {D : va_G} {U : State} (h : ST D U) (i : Nat) {x : String × Nat × String × Nat} (hx : strR[i]? = some x) : vk_R x.1 x.2.1 x.2.2.1 (sK D x.2.2.2) U := h x (List.mem_of_getElem? hx)
-- memory: rows of ints and rows of longs
abbrev MM : Type := (Nat → Nat → Int32) × (Nat → Nat → Int64)
def gi (m : MM) (q k : Nat) : Int32 := m.1 q k
def gl (m : MM) (q k : Nat) : Int64 := m.2 q k
def sr (m : MM) (q : Nat) (r : Nat → Int32) : MM := (va_up m.1 q r, m.2)
def sR (m : MM) (q : Nat) (r : Nat → Int64) : MM := (m.1, va_up m.2 q r)
def si (m : MM) (q k : Nat) (x : Int32) : MM := sr m q (upd (m.1 q) k x)
def sl (m : MM) (q k : Nat) (x : Int64) : MM := sR m q (vp_updL (m.2 q) k x)
theorem up_slf {α : Type} (f : Nat → α) (k : Nat) : va_up f k (f k) = f := by
  funext j
  unfold va_up
  split
  · rename_i h; rw [h]
  · rfl
abbrev Sh : Type := Nat → (Nat → Int32) → (Nat → Int64) → va_E
/-- where the n cells of a component stand in a world: each is found, and written in place -/
def Ln (n : Nat) (ad : Nat → Nat) (sh : Sh) (Wf : MM → va_W) : Prop := ∃ φ : Nat → Nat, ∀ (m : MM) (q : Nat), q < n → (Wf m)[φ q]? = some (ad q, sh q (m.1 q) (m.2 q)) ∧ ∀ (r : Nat → Int32) (t : Nat → Int64), (Wf m).set (φ q) (ad q, sh q r t) = Wf (va_up m.1 q r, va_up m.2 q t)
theorem Ln.get {n : Nat} {ad : Nat → Nat} {sh : Sh} {Wf : MM → va_W} (h : Ln n ad sh Wf) (m : MM) {q : Nat} (hq : q < n) : ∃ k : Nat, (Wf m)[k]? = some (ad q, sh q (m.1 q) (m.2 q)) ∧ (∀ r : Nat → Int32, (Wf m).set k (ad q, sh q r (m.2 q)) = Wf (sr m q r)) ∧ ∀ t : Nat → Int64, (Wf m).set k (ad q, sh q (m.1 q) t) = Wf (sR m q t) := by
  obtain ⟨φ, h⟩ := h
  refine ⟨φ q, (h m q hq).1, fun r => ?_, fun t => ?_⟩
  · rw [(h m q hq).2 r (m.2 q), up_slf]; rfl
  · rw [(h m q hq).2 (m.1 q) t, up_slf]; rfl
theorem va_D.map {A : Nat → Prop} {w w' : va_W} (e : w'.map (fun q => q.1) = w.map (fun q => q.1)) (h : va_D A w) : va_D A w' := by
  have key : ∀ (i : Nat) (p : Nat × va_E), w'[i]? = some p → ∃ p', w[i]? = some p' ∧ p'.1 = p.1 := by
    intro i p hp
    have h1 : (w'.map (fun q => q.1))[i]? = some p.1 := by rw [List.getElem?_map, hp]; rfl
    rw [e, List.getElem?_map] at h1
    cases hw : w[i]? with
    | none => rw [hw] at h1; cases h1
    | some p' => rw [hw] at h1; exact ⟨p', rfl, Option.some.inj h1⟩
  refine ⟨fun i j p q hi hj hpq => ?_, fun k q hk => ?_⟩
  · obtain ⟨p', a1, a2⟩ := key i p hi
    obtain ⟨q', b1, b2⟩ := key j q hj
    exact h.1 i j p' q' a1 b1 (a2.trans (hpq.trans b2.symm))
  · obtain ⟨q', b1, b2⟩ := key k q hk
    rw [← b2]
    exact h.2 k q' b1
theorem va_A.map {w w' : va_W} {sz : Nat} (e : w'.map (fun q => q.1) = w.map (fun q => q.1)) {q : Nat} (h : va_A w' sz q) : va_A w sz q := by
  rcases h with ⟨k, z, h⟩ | h
  · have h1 : (w'.map (fun q => q.1))[k]? = some q := by rw [List.getElem?_map, h]; rfl
    rw [e, List.getElem?_map] at h1
    cases hw : w[k]? with
    | none => rw [hw] at h1; cases h1
    | some p' =>
      rw [hw] at h1
      have h2 : p'.1 = q := Option.some.inj h1
      refine Or.inl ⟨k, p'.2, ?_⟩
      rw [hw, ← h2]
  · exact Or.inr h
/-- the arrays' classes -/
def tysOf (cs : Nat → ClassId) : List (ClassId × FieldType) := [(cs 0, .byte), (cs 1, .int), (cs 2, .long), (cs 3, .boolean), (cs 4, .object RX8), (cs 5, .object RX2), (cs 6, .object RX6)]
/-- what a state has beside its world -/
def NC (U : State) : Prop := va_Nc "java/lang/IllegalArgumentException" "PlacerHead$Machine" U
def KK (D : va_G) (cs : Nat → ClassId) (U : State) : Prop := va_K D vwCl (tysOf cs) U ∧ NN U ∧ ST D U ∧ NC U
theorem KK.warm {D : va_G} {cs : Nat → ClassId} {s U : State} (hW : s.WarmedH U.vm) (h : KK D cs s) : KK D cs U := ⟨va_K.moved hW.alike h.1, h.2.1.warm hW, h.2.2.1.warm hW, va_Nc.moved hW.alike h.2.2.2⟩
theorem KK.calling {D : va_G} {cs : Nat → ClassId} {U : State} {g : JFrame} {mk : MethodId} {a : Array Value} (h : KK D cs U) : KK D cs (U.calling g mk a) := ⟨va_K.moved (u := U) (U := U.calling g mk a) (Vm.Alike.refl U.vm) h.1, NN.same (u := U) (U := U.calling g mk a) rfl h.2.1, ST.same (u := U) (U := U.calling g mk a) rfl h.2.2.1, va_Nc.moved (u := U) (U := U.calling g mk a) (Vm.Alike.refl U.vm) h.2.2.2⟩
def PC (D : va_G) (cs : Nat → ClassId) (w : va_W) (sz : Nat) (U : State) : Prop := U.heap.size = sz ∧ va_P D vwCl w U.heap ∧ KK D cs U ∧ va_D (fun _ => True) w ∧ SS D (va_A w sz) U U.heap
/-- a contract: from the world w with the arguments av the method comes to the world w' and answers rv; no cell is made -/
def Ct (l : Launch) (y : MethodName) (cc : ByteArray) (n : Nat) (ret : Option FieldType) (fr lo : Nat) (D : va_G) (cs : Nat → ClassId) (av : List Value) (w w' : va_W) (rv : Option Value) : Prop :=
  w'.map (fun q => q.1) = w.map (fun q => q.1) ∧ ∀ sz : Nat, Met l y (wsOf y cc n ret) ({ frames := fr, cells := 0, slots := 0, locals := lo }) (va_Pc av (PC D cs w sz)) (fun _ st oc t => (oc = .returned rv ∧ va_P D vwCl w' t.heap) ∧ va_F (va_A w sz) st t) 0 0 (va_A w sz)
theorem Ct.ofW {l : Launch} {y : MethodName} {cc : ByteArray} {n : Nat} {ret : Option FieldType} {fr lo : Nat} {D : va_G} {cs : Nat → ClassId} {av : List Value} {w w' : va_W} {rv : Option Value} (hy : plainName y.cls = true) (hfit : (lg_sl av).length ≤ n) (he : w'.map (fun q => q.1) = w.map (fun q => q.1))
    (body : ∀ (p : Program) (e : Env) (s : State) (m : MethodId) (below : List Frame) (meth : Method) (c : Code) (A : Nat → Prop) (Q : State → Prop) (ls : Array Slot) (args : Array Value),
      p.tables.exec = Jvm.exec → c.code = cc → meth.sig.returnType = ret → c.maxLocals = n → meth.locks = false → s.vm.findClass y.cls = some m.cls → (∀ v ∈ wsOf y cc n ret, v.before args s = true) → KK D cs s → va_P D vwCl w s.heap → (∀ w1 : va_W, w1.map (fun q => q.1) = w.map (fun q => q.1) → va_D A w1) → SS D A s s.heap → va_S A s.heap s.heap [] → (∀ (w1 : va_W) (z : Nat), w1.map (fun q => q.1) = w.map (fun q => q.1) → s.heap.size ≤ z → ∀ q : Nat, va_A w1 z q → A q) → lv_has ls n (lv_args 0 av) →
      (∀ (H : Heap) (locs : List Loc) (g : JFrame), va_P D vwCl w' H → va_S A s.heap H locs → (∀ Qc : Array Value → State → Outcome → State → Prop, (∀ t : State, t.heap = H → s.WarmedH t.vm → Qc args s (.returned rv) t) → W p l e ({ frames := fr, cells := 0, slots := 0, locals := lo }) s m args below meth c H locs 0 0 (MQ below Qc args s 0 0 A) g) → W p l e ({ frames := fr, cells := 0, slots := 0, locals := lo }) s m args below meth c H locs 0 0 Q g) →
      W p l e ({ frames := fr, cells := 0, slots := 0, locals := lo }) s m args below meth c s.heap [] 0 0 Q (F0 m 0 ls [])) : Ct l y cc n ret fr lo D cs av w w' rv := by
  refine ⟨he, fun sz => ?_⟩
  refine Met.ofW (cc := cc) (maxL := n) (ret := ret) hy rfl ?_
  intro p e s m args below meth c s₁ B hml hv
  obtain ⟨rfl, hsz, hP, hKK, hD0, hSS⟩ := hv
  have hts := atoms_spec (ws := wsOf y cc n ret) B.pre
  have hown : s.vm.findClass y.cls = some m.cls := findClass_of_methodNamed B.named
  subst hsz
  have hD := hD0.self (sz := s.heap.size)
  rw [lg_entry_eq]
  refine body p e s m below meth c (va_A w s.heap.size) _ _ av.toArray B.exec B.bytes B.returns hml B.notSynchronized hown hts hKK hP (fun w1 h1 => hD.map h1) hSS va_S.rf (fun w1 z h1 h2 q hq => ?_) (lv_entry av hfit) (fun H locs g hP' hS' hw => ?_)
  · rcases va_A.map h1 hq with h | h
    · exact Or.inl h
    · exact Or.inr (Nat.le_trans h2 h)
  · exact hw _ (fun t ht hW => ⟨⟨rfl, by rw [ht]; exact hP'⟩, hS'.F ht⟩)
-- what a denotation is made of
def FU : Nat := 5000
def bnd {α β : Type} (e : α) (f : α → Option β) : Option β := f e
def b1 {α β : Type} (o : Option α) (f : α → Option β) : Option β := match o with
  | none => none
  | some x => f x
def b2 {α γ β : Type} (o : Option (α × γ)) (f : α → γ → Option β) : Option β := match o with
  | none => none
  | some (x, y) => f x y
def b3 {α γ δ β : Type} (o : Option (α × γ × δ)) (f : α → γ → δ → Option β) : Option β := match o with
  | none => none
  | some (x, y, z) => f x y z
def b4 {α γ δ ε β : Type} (o : Option (α × γ × δ × ε)) (f : α → γ → δ → ε → Option β) : Option β := match o with
  | none => none
  | some (x, y, z, u) => f x y z u
theorem bnd_el {α β : Type} {e : α} {f : α → Option β} {r : β} (h : bnd e f = some r) : ∃ y, y = e ∧ f y = some r := ⟨e, rfl, h⟩
theorem b1_el {α β : Type} {o : Option α} {f : α → Option β} {r : β} (h : b1 o f = some r) : ∃ x, o = some x ∧ f x = some r := by
  cases o with
  | none => cases h
  | some x => exact ⟨x, rfl, h⟩
theorem b2_el {α γ β : Type} {o : Option (α × γ)} {f : α → γ → Option β} {r : β} (h : b2 o f = some r) : ∃ x y, o = some (x, y) ∧ f x y = some r := by
  cases o with
  | none => cases h
  | some x => exact ⟨x.1, x.2, rfl, h⟩
theorem b3_el {α γ δ β : Type} {o : Option (α × γ × δ)} {f : α → γ → δ → Option β} {r : β} (h : b3 o f = some r) : ∃ x y z, o = some (x, y, z) ∧ f x y z = some r := by
  cases o with
  | none => cases h
  | some x => exact ⟨x.1, x.2.1, x.2.2, rfl, h⟩
theorem b4_el {α γ δ ε β : Type} {o : Option (α × γ × δ × ε)} {f : α → γ → δ → ε → Option β} {r : β} (h : b4 o f = some r) : ∃ x y z u, o = some (x, y, z, u) ∧ f x y z u = some r := by
  cases o with
  | none => cases h
  | some x => exact ⟨x.1, x.2.1, x.2.2.1, x.2.2.2, rfl, h⟩
theorem gd_el {α : Type} {c : Prop} [Decidable c] {a : Option α} {r : α} (h : (if c then none else a) = some r) : ¬ c ∧ a = some r := by
  by_cases hc : c
  · rw [if_pos hc] at h; cases h
  · rw [if_neg hc] at h; exact ⟨hc, h⟩
theorem gb_el {α : Type} {c : Prop} [Decidable c] {a : Option α} {r : α} (h : (if c then a else none) = some r) : c ∧ a = some r := by
  by_cases hc : c
  · rw [if_pos hc] at h; exact ⟨hc, h⟩
  · rw [if_neg hc] at h; cases h
theorem ifp {α : Type} {c : Prop} [Decidable c] {a b r : α} (h : (if c then a else b) = r) (hc : c) : a = r := by rwa [if_pos hc] at h
theorem ifn {α : Type} {c : Prop} [Decidable c] {a b r : α} (h : (if c then a else b) = r) (hc : ¬ c) : b = r := by rwa [if_neg hc] at h
theorem nn_el {α : Type} {r : α} {P : Prop} (h : (none : Option α) = some r) : P := nomatch h
theorem nbz {x : Int32} (h : x = 0 ∨ x = 1) : narrow .boolean (.int x) = .int x ∧ fits .boolean (.int x) = true := by
  rcases h with rfl | rfl <;> exact ⟨rfl, rfl⟩
theorem swo {x : Int32} (lo hi : Int) (h : ∀ k : Int, lo ≤ k → k ≤ hi → x = Int32.ofInt k → False) : x.toInt < lo ∨ hi < x.toInt := by
  rcases Int.lt_or_le x.toInt lo with h1 | h1
  · exact Or.inl h1
  · rcases Int.lt_or_le hi x.toInt with h2 | h2
    · exact Or.inr h2
    · exact (h x.toInt h1 h2 (Int32.ofInt_toInt x).symm).elim
section FR
variable {p : Program} {l : Launch} {e : Env} {R : Room} {s : State} {m : MethodId} {args : Array Value} {below : List Frame} {meth : Method} {c : Code} {H : Heap} {locs : List Loc} {cells slots : Nat} {Q : State → Prop}
variable {cc : ByteArray} {pc : Nat} {ls : Array Slot} {rest : List Value} {D : va_G} {cs : Nat → ClassId} {A : Nat → Prop} {n : Nat} {ad : Nat → Nat} {sh : Sh} {Wf : MM → va_W} {mm : MM}
-- reading a field
theorem rg (hx : p.tables.exec = Jvm.exec) (hb : c.code = cc) {own ref C : String} {T : u_T} {N ci index : Nat} (hT : ∀ w ∈ TBL, w.before args s = true) (hin : ∀ w ∈ u_ws C T N, w ∈ TBL) (hown : s.vm.findClass own = some m.cls) (hK : KK D cs s) (hP : va_P D vwCl (Wf mm) H) (hL : Ln n ad sh Wf) (q k : Nat) (hq : q < n) {fs : List Value} (hs : sh q (mm.1 q) (mm.2 q) = .inr (ci, fs)) (hc : vwCl[ci]? = some (C, T, N)) (hk : k < N) (hlink : (Cond.fieldLink own index ref (T k).2.1 (T k).2.2.1).before args s = true) (href : (T k).1 = ref) {v : Value} (hv : fs[k]? = some v) (hdg : decode cc pc = .ok (.getfield index, 3))
    (kk : W p l e R s m args below meth c H locs cells slots Q (F0 m (pc + 3) ls (v :: rest))) : W p l e R s m args below meth c H locs cells slots Q (F0 m pc ls (.ref (ad q) :: rest)) := by
  obtain ⟨i, h1, -⟩ := hL.get mm hq
  rw [hs] at h1
  exact va_get hx hb hT hin hown hK.1 hP i h1 hc k hk hlink (by rw [href]; exact fun _ h => h) hv hdg kk
theorem rgN (hx : p.tables.exec = Jvm.exec) (hb : c.code = cc) {own ref C host : String} {T : u_T} {N ci index : Nat} (hT : ∀ w ∈ TBL, w.before args s = true) (hin : ∀ w ∈ u_ws C T N, w ∈ TBL) (hown : s.vm.findClass own = some m.cls) (hK : KK D cs s) (hP : va_P D vwCl (Wf mm) H) (hL : Ln n ad sh Wf) (q k : Nat) (hq : q < n) {fs : List Value} (hs : sh q (mm.1 q) (mm.2 q) = .inr (ci, fs)) (hc : vwCl[ci]? = some (C, T, N)) (hk : k < N) (hlink : Cond.fieldLinkNest own index ref (T k).2.1 (T k).2.2.1 host ∈ lw_tbl) (href : (T k).1 = ref) {v : Value} (hv : fs[k]? = some v) (hdg : decode cc pc = .ok (.getfield index, 3))
    (kk : W p l e R s m args below meth c H locs cells slots Q (F0 m (pc + 3) ls (v :: rest))) : W p l e R s m args below meth c H locs cells slots Q (F0 m pc ls (.ref (ad q) :: rest)) := by
  obtain ⟨i, h1, -⟩ := hL.get mm hq
  rw [hs] at h1
  exact va_getN hx hb hT hin hown hK.1 hP i h1 hc k hk (hK.2.1.f hlink) (by rw [href]; exact fun _ h => h) hv hdg kk
-- writing an int field, a long field
theorem rp (hx : p.tables.exec = Jvm.exec) (hb : c.code = cc) {own ref C : String} {T : u_T} {N ci index : Nat} (hT : ∀ w ∈ TBL, w.before args s = true) (hin : ∀ w ∈ u_ws C T N, w ∈ TBL) {ty0 : Nat → FieldType} (hty : ∀ k, k < N → parseFieldDescriptor (T k).2.2.1 = some (ty0 k)) (hnm : ∀ a, a < N → ∀ b, b < N → a ≠ b → (T a).2.1 ≠ (T b).2.1) (hown : s.vm.findClass own = some m.cls) (hK : KK D cs s) (hP : va_P D vwCl (Wf mm) H) (hD : va_D A (Wf mm)) (hS : va_S A s.heap H locs) (hL : Ln n ad sh Wf) (q k : Nat) (hq : q < n) {fs : List Value} {x : Int32} (hs : sh q (mm.1 q) (mm.2 q) = .inr (ci, fs)) (hs2 : sh q (upd (mm.1 q) k x) (mm.2 q) = .inr (ci, fs.set k (.int x))) (hc : vwCl[ci]? = some (C, T, N)) (hk : k < N) (hlink : (Cond.fieldLink own index ref (T k).2.1 (T k).2.2.1).before args s = true) (href : (T k).1 = ref) (hfin : (T k).2.2.2 = false) (hn : narrow (ty0 k) (.int x) = .int x) (hfit : fits (ty0 k) (.int x) = true) (hl : k < fs.length) (hdg : decode cc pc = .ok (.putfield index, 3)) {m2 : MM} (em : m2 = si mm q k x)
    (kk : ∀ (H1 : Heap) (locs1 : List Loc), va_P D vwCl (Wf m2) H1 → va_S A s.heap H1 locs1 → W p l e R s m args below meth c H1 locs1 cells slots Q (F0 m (pc + 3) ls rest)) : W p l e R s m args below meth c H locs cells slots Q (F0 m pc ls (.int x :: .ref (ad q) :: rest)) := by
  obtain ⟨i, h1, h2, -⟩ := hL.get mm hq
  have h3 := h2 (upd (mm.1 q) k x)
  rw [hs] at h1
  rw [hs2] at h3
  exact va_put hx hb hT hin ty0 hty hnm hown hK.1 hP hD hS i h1 hc k hk hlink (by rw [href]; exact fun _ h => h) hfin (hty k hk) hn hfit hl hdg (fun H1 locs1 a1 a2 a3 => kk H1 locs1 (by rw [h3] at a1; rw [em]; exact a1) a3)
theorem rpN (hx : p.tables.exec = Jvm.exec) (hb : c.code = cc) {own ref C host : String} {T : u_T} {N ci index : Nat} (hT : ∀ w ∈ TBL, w.before args s = true) (hin : ∀ w ∈ u_ws C T N, w ∈ TBL) {ty0 : Nat → FieldType} (hty : ∀ k, k < N → parseFieldDescriptor (T k).2.2.1 = some (ty0 k)) (hnm : ∀ a, a < N → ∀ b, b < N → a ≠ b → (T a).2.1 ≠ (T b).2.1) (hown : s.vm.findClass own = some m.cls) (hK : KK D cs s) (hP : va_P D vwCl (Wf mm) H) (hD : va_D A (Wf mm)) (hS : va_S A s.heap H locs) (hL : Ln n ad sh Wf) (q k : Nat) (hq : q < n) {fs : List Value} {x : Int32} (hs : sh q (mm.1 q) (mm.2 q) = .inr (ci, fs)) (hs2 : sh q (upd (mm.1 q) k x) (mm.2 q) = .inr (ci, fs.set k (.int x))) (hc : vwCl[ci]? = some (C, T, N)) (hk : k < N) (hlink : Cond.fieldLinkNest own index ref (T k).2.1 (T k).2.2.1 host ∈ lw_tbl) (href : (T k).1 = ref) (hfin : (T k).2.2.2 = false) (hn : narrow (ty0 k) (.int x) = .int x) (hfit : fits (ty0 k) (.int x) = true) (hl : k < fs.length) (hdg : decode cc pc = .ok (.putfield index, 3)) {m2 : MM} (em : m2 = si mm q k x)
    (kk : ∀ (H1 : Heap) (locs1 : List Loc), va_P D vwCl (Wf m2) H1 → va_S A s.heap H1 locs1 → W p l e R s m args below meth c H1 locs1 cells slots Q (F0 m (pc + 3) ls rest)) : W p l e R s m args below meth c H locs cells slots Q (F0 m pc ls (.int x :: .ref (ad q) :: rest)) := by
  obtain ⟨i, h1, h2, -⟩ := hL.get mm hq
  have h3 := h2 (upd (mm.1 q) k x)
  rw [hs] at h1
  rw [hs2] at h3
  exact va_putN hx hb hT hin ty0 hty hnm hown hK.1 hP hD hS i h1 hc k hk (hK.2.1.f hlink) (by rw [href]; exact fun _ h => h) hfin (hty k hk) hn hfit hl hdg (fun H1 locs1 a1 a2 a3 => kk H1 locs1 (by rw [h3] at a1; rw [em]; exact a1) a3)
theorem rpL (hx : p.tables.exec = Jvm.exec) (hb : c.code = cc) {own ref C : String} {T : u_T} {N ci index : Nat} (hT : ∀ w ∈ TBL, w.before args s = true) (hin : ∀ w ∈ u_ws C T N, w ∈ TBL) {ty0 : Nat → FieldType} (hty : ∀ k, k < N → parseFieldDescriptor (T k).2.2.1 = some (ty0 k)) (hnm : ∀ a, a < N → ∀ b, b < N → a ≠ b → (T a).2.1 ≠ (T b).2.1) (hown : s.vm.findClass own = some m.cls) (hK : KK D cs s) (hP : va_P D vwCl (Wf mm) H) (hD : va_D A (Wf mm)) (hS : va_S A s.heap H locs) (hL : Ln n ad sh Wf) (q k : Nat) (hq : q < n) {fs : List Value} {x : Int64} (hs : sh q (mm.1 q) (mm.2 q) = .inr (ci, fs)) (hs2 : sh q (mm.1 q) (vp_updL (mm.2 q) k x) = .inr (ci, fs.set k (.long x))) (hc : vwCl[ci]? = some (C, T, N)) (hk : k < N) (hlink : (Cond.fieldLink own index ref (T k).2.1 (T k).2.2.1).before args s = true) (href : (T k).1 = ref) (hfin : (T k).2.2.2 = false) (hn : narrow (ty0 k) (.long x) = .long x) (hfit : fits (ty0 k) (.long x) = true) (hl : k < fs.length) (hdg : decode cc pc = .ok (.putfield index, 3)) {m2 : MM} (em : m2 = sl mm q k x)
    (kk : ∀ (H1 : Heap) (locs1 : List Loc), va_P D vwCl (Wf m2) H1 → va_S A s.heap H1 locs1 → W p l e R s m args below meth c H1 locs1 cells slots Q (F0 m (pc + 3) ls rest)) : W p l e R s m args below meth c H locs cells slots Q (F0 m pc ls (.long x :: .ref (ad q) :: rest)) := by
  obtain ⟨i, h1, -, h2⟩ := hL.get mm hq
  have h3 := h2 (vp_updL (mm.2 q) k x)
  rw [hs] at h1
  rw [hs2] at h3
  exact va_put hx hb hT hin ty0 hty hnm hown hK.1 hP hD hS i h1 hc k hk hlink (by rw [href]; exact fun _ h => h) hfin (hty k hk) hn hfit hl hdg (fun H1 locs1 a1 a2 a3 => kk H1 locs1 (by rw [h3] at a1; rw [em]; exact a1) a3)
-- arrays
theorem riald (hx : p.tables.exec = Jvm.exec) (hb : c.code = cc) (hK : KK D cs s) (hP : va_P D vwCl (Wf mm) H) (hL : Ln n ad sh Wf) (q : Nat) (hq : q < n) {N j : Nat} (hs : sh q (mm.1 q) (mm.2 q) = .inl (cs 1, N, .inl (mm.1 q))) {i : Int32} (hin : ¬ (i < 0 ∨ N ≤ i.toNatClampNeg)) (hj : i.toNatClampNeg = j) (hdg : decode cc pc = .ok (.iaload, 1))
    (kk : W p l e R s m args below meth c H locs cells slots Q (F0 m (pc + 1) ls (.int (gi mm q j) :: rest))) : W p l e R s m args below meth c H locs cells slots Q (F0 m pc ls (.int i :: .ref (ad q) :: rest)) := by
  obtain ⟨z, h1, -⟩ := hL.get mm hq
  rw [hs] at h1
  subst hj
  exact va_iald hx hb hK.1 hP z 1 h1 rfl hin hdg kk
theorem riast (hx : p.tables.exec = Jvm.exec) (hb : c.code = cc) (hK : KK D cs s) (hP : va_P D vwCl (Wf mm) H) (hD : va_D A (Wf mm)) (hS : va_S A s.heap H locs) (hL : Ln n ad sh Wf) (q : Nat) (hq : q < n) {N j : Nat} (hs : ∀ r, sh q r (mm.2 q) = .inl (cs 1, N, .inl r)) {i x : Int32} (hin : ¬ (i < 0 ∨ N ≤ i.toNatClampNeg)) (hj : i.toNatClampNeg = j) (hdg : decode cc pc = .ok (.iastore, 1)) {m2 : MM} (em : m2 = si mm q j x)
    (kk : ∀ (H1 : Heap) (locs1 : List Loc), va_P D vwCl (Wf m2) H1 → va_S A s.heap H1 locs1 → W p l e R s m args below meth c H1 locs1 cells slots Q (F0 m (pc + 1) ls rest)) : W p l e R s m args below meth c H locs cells slots Q (F0 m pc ls (.int x :: .int i :: .ref (ad q) :: rest)) := by
  obtain ⟨z, h1, h2, -⟩ := hL.get mm hq
  have h3 := h2 (upd (mm.1 q) i.toNatClampNeg x)
  rw [hs] at h1 h3
  exact va_iast hx hb hK.1 hP hD hS z 1 h1 rfl hin hdg (fun H1 locs1 a1 a2 a3 => kk H1 locs1 (by rw [h3] at a1; rw [em, ← hj]; exact a1) a3)
theorem rlald (hx : p.tables.exec = Jvm.exec) (hb : c.code = cc) (hK : KK D cs s) (hP : va_P D vwCl (Wf mm) H) (hL : Ln n ad sh Wf) (q : Nat) (hq : q < n) {N j : Nat} (hs : sh q (mm.1 q) (mm.2 q) = .inl (cs 2, N, .inr (.inl (mm.2 q)))) {i : Int32} (hin : ¬ (i < 0 ∨ N ≤ i.toNatClampNeg)) (hj : i.toNatClampNeg = j) (hdg : decode cc pc = .ok (.laload, 1))
    (kk : W p l e R s m args below meth c H locs cells slots Q (F0 m (pc + 1) ls (.long (gl mm q j) :: rest))) : W p l e R s m args below meth c H locs cells slots Q (F0 m pc ls (.int i :: .ref (ad q) :: rest)) := by
  obtain ⟨z, h1, -⟩ := hL.get mm hq
  rw [hs] at h1
  subst hj
  exact va_lald hx hb hK.1 hP z 2 h1 rfl hin hdg kk
theorem rlast (hx : p.tables.exec = Jvm.exec) (hb : c.code = cc) (hK : KK D cs s) (hP : va_P D vwCl (Wf mm) H) (hD : va_D A (Wf mm)) (hS : va_S A s.heap H locs) (hL : Ln n ad sh Wf) (q : Nat) (hq : q < n) {N j : Nat} (hs : ∀ t, sh q (mm.1 q) t = .inl (cs 2, N, .inr (.inl t))) {i : Int32} {x : Int64} (hin : ¬ (i < 0 ∨ N ≤ i.toNatClampNeg)) (hj : i.toNatClampNeg = j) (hdg : decode cc pc = .ok (.lastore, 1)) {m2 : MM} (em : m2 = sl mm q j x)
    (kk : ∀ (H1 : Heap) (locs1 : List Loc), va_P D vwCl (Wf m2) H1 → va_S A s.heap H1 locs1 → W p l e R s m args below meth c H1 locs1 cells slots Q (F0 m (pc + 1) ls rest)) : W p l e R s m args below meth c H locs cells slots Q (F0 m pc ls (.long x :: .int i :: .ref (ad q) :: rest)) := by
  obtain ⟨z, h1, -, h2⟩ := hL.get mm hq
  have h3 := h2 (vp_updL (mm.2 q) i.toNatClampNeg x)
  rw [hs] at h1 h3
  exact va_last hx hb hK.1 hP hD hS z 2 h1 rfl hin hdg (fun H1 locs1 a1 a2 a3 => kk H1 locs1 (by rw [h3] at a1; rw [em, ← hj]; exact a1) a3)
theorem rbald (hx : p.tables.exec = Jvm.exec) (hb : c.code = cc) (hK : KK D cs s) (hP : va_P D vwCl (Wf mm) H) (hL : Ln n ad sh Wf) (q : Nat) (hq : q < n) {N j : Nat} (hs : sh q (mm.1 q) (mm.2 q) = .inl (cs 0, N, .inl (mm.1 q))) {i : Int32} (hin : ¬ (i < 0 ∨ N ≤ i.toNatClampNeg)) (hj : i.toNatClampNeg = j) (hdg : decode cc pc = .ok (.baload, 1))
    (kk : W p l e R s m args below meth c H locs cells slots Q (F0 m (pc + 1) ls (.int (gi mm q j) :: rest))) : W p l e R s m args below meth c H locs cells slots Q (F0 m pc ls (.int i :: .ref (ad q) :: rest)) := by
  obtain ⟨z, h1, -⟩ := hL.get mm hq
  rw [hs] at h1
  subst hj
  exact va_bald hx hb hK.1 hP z 0 h1 rfl hin hdg kk
theorem rzald (hx : p.tables.exec = Jvm.exec) (hb : c.code = cc) (hK : KK D cs s) (hP : va_P D vwCl (Wf mm) H) (hL : Ln n ad sh Wf) (q : Nat) (hq : q < n) {N j : Nat} (hs : sh q (mm.1 q) (mm.2 q) = .inl (cs 3, N, .inl (mm.1 q))) {i : Int32} (hin : ¬ (i < 0 ∨ N ≤ i.toNatClampNeg)) (hj : i.toNatClampNeg = j) (hdg : decode cc pc = .ok (.baload, 1))
    (kk : W p l e R s m args below meth c H locs cells slots Q (F0 m (pc + 1) ls (.int (gi mm q j) :: rest))) : W p l e R s m args below meth c H locs cells slots Q (F0 m pc ls (.int i :: .ref (ad q) :: rest)) := by
  obtain ⟨z, h1, -⟩ := hL.get mm hq
  rw [hs] at h1
  subst hj
  exact va_zald hx hb hK.1 hP z 3 h1 rfl hin hdg kk
theorem rbast (hx : p.tables.exec = Jvm.exec) (hb : c.code = cc) (hK : KK D cs s) (hP : va_P D vwCl (Wf mm) H) (hD : va_D A (Wf mm)) (hS : va_S A s.heap H locs) (hL : Ln n ad sh Wf) (q : Nat) (hq : q < n) {N j : Nat} (hs : ∀ r, sh q r (mm.2 q) = .inl (cs 0, N, .inl r)) {i x : Int32} (hin : ¬ (i < 0 ∨ N ≤ i.toNatClampNeg)) (hj : i.toNatClampNeg = j) (hdg : decode cc pc = .ok (.bastore, 1)) {m2 : MM} (em : m2 = si mm q j (vp_nar .byte x))
    (kk : ∀ (H1 : Heap) (locs1 : List Loc), va_P D vwCl (Wf m2) H1 → va_S A s.heap H1 locs1 → W p l e R s m args below meth c H1 locs1 cells slots Q (F0 m (pc + 1) ls rest)) : W p l e R s m args below meth c H locs cells slots Q (F0 m pc ls (.int x :: .int i :: .ref (ad q) :: rest)) := by
  obtain ⟨z, h1, h2, -⟩ := hL.get mm hq
  have h3 := h2 (upd (mm.1 q) i.toNatClampNeg (vp_nar .byte x))
  rw [hs] at h1 h3
  exact va_bast hx hb hK.1 hP hD hS z 0 h1 rfl hin hdg (fun H1 locs1 a1 a2 a3 => kk H1 locs1 (by rw [h3] at a1; rw [em, ← hj]; exact a1) a3)
theorem rzast (hx : p.tables.exec = Jvm.exec) (hb : c.code = cc) (hK : KK D cs s) (hP : va_P D vwCl (Wf mm) H) (hD : va_D A (Wf mm)) (hS : va_S A s.heap H locs) (hL : Ln n ad sh Wf) (q : Nat) (hq : q < n) {N j : Nat} (hs : ∀ r, sh q r (mm.2 q) = .inl (cs 3, N, .inl r)) {i x : Int32} (hin : ¬ (i < 0 ∨ N ≤ i.toNatClampNeg)) (hj : i.toNatClampNeg = j) (hdg : decode cc pc = .ok (.bastore, 1)) {m2 : MM} (em : m2 = si mm q j (vp_nar .boolean x))
    (kk : ∀ (H1 : Heap) (locs1 : List Loc), va_P D vwCl (Wf m2) H1 → va_S A s.heap H1 locs1 → W p l e R s m args below meth c H1 locs1 cells slots Q (F0 m (pc + 1) ls rest)) : W p l e R s m args below meth c H locs cells slots Q (F0 m pc ls (.int x :: .int i :: .ref (ad q) :: rest)) := by
  obtain ⟨z, h1, h2, -⟩ := hL.get mm hq
  have h3 := h2 (upd (mm.1 q) i.toNatClampNeg (vp_nar .boolean x))
  rw [hs] at h1 h3
  exact va_zast hx hb hK.1 hP hD hS z 3 h1 rfl hin hdg (fun H1 locs1 a1 a2 a3 => kk H1 locs1 (by rw [h3] at a1; rw [em, ← hj]; exact a1) a3)
/-- an array of references that stay: place i holds the cell g i -/
theorem raald (hx : p.tables.exec = Jvm.exec) (hb : c.code = cc) (hK : KK D cs s) (hP : va_P D vwCl (Wf mm) H) (hL : Ln n ad sh Wf) (q t0 : Nat) {j : Nat} (hq : q < n) {cA : ClassId} {C : String} {N : Nat} {g : Nat → Nat} (hs : sh q (mm.1 q) (mm.2 q) = .inl (cA, N, .inr (.inr (.inr (.inr (fun i => some (g i))))))) (ht : (tysOf cs)[t0]? = some (cA, .object C)) {i : Int32} (hin : ¬ (i < 0 ∨ N ≤ i.toNatClampNeg)) (hj : i.toNatClampNeg = j) (hdg : decode cc pc = .ok (.aaload, 1))
    (kk : W p l e R s m args below meth c H locs cells slots Q (F0 m (pc + 1) ls (.ref (g j) :: rest))) : W p l e R s m args below meth c H locs cells slots Q (F0 m pc ls (.int i :: .ref (ad q) :: rest)) := by
  obtain ⟨z, h1, -⟩ := hL.get mm hq
  rw [hs] at h1
  subst hj
  exact va_aldq hx hb hK.1 hP z t0 h1 ht hin hdg kk
theorem ralen (hx : p.tables.exec = Jvm.exec) (hb : c.code = cc) (hK : KK D cs s) (hP : va_P D vwCl (Wf mm) H) (hL : Ln n ad sh Wf) (q t0 : Nat) (hq : q < n) {cA : ClassId} {a : vp_A} {ty : FieldType} (hs : sh q (mm.1 q) (mm.2 q) = .inl (cA, a)) (ht : (tysOf cs)[t0]? = some (cA, ty)) {v : Int32} (hv : Int32.ofNat a.1 = v) (hdg : decode cc pc = .ok (.arraylength, 1))
    (kk : W p l e R s m args below meth c H locs cells slots Q (F0 m (pc + 1) ls (.int v :: rest))) : W p l e R s m args below meth c H locs cells slots Q (F0 m pc ls (.ref (ad q) :: rest)) := by
  obtain ⟨j, h1, -⟩ := hL.get mm hq
  rw [hs] at h1
  exact va_alen hx hb hK.1 hP j t0 h1 ht hv hdg kk
-- calls: the whole world goes along
theorem pc_blind {av : List Value} {w : va_W} {sz : Nat} : FrameBlind (va_Pc av (PC D cs w sz)) := fun a U g mk q => by
  obtain ⟨h1, h2, h3, h4, h5, h6⟩ := q
  exact ⟨h1, h2, h3, h4.calling, h5, h6.moved (u := U) (U := U.calling g mk a) (Vm.Alike.refl U.vm)⟩
theorem pc_at {av : List Value} {w : va_W} (hP : va_P D vwCl w H) (hK : KK D cs s) (hD : va_D A w) (hSS : SS D A s s.heap) (hS : va_S A s.heap H locs) (hA : ∀ q : Nat, va_A w H.size q → A q) : ∀ U : State, U.heap = H → s.WarmedH U.vm → va_Pc av (PC D cs w H.size) av.toArray U := fun U hU hW => by
  refine ⟨rfl, by rw [hU], by rw [hU]; exact hP, hK.warm hW, hD.weaken (fun _ _ _ _ => trivial), ?_⟩
  rw [hU]
  exact ((hSS.kept hS.2.1).narrow hA).moved hW.alike
variable {y : MethodName} {cb : ByteArray} {nb fr lo : Nat} {ret : Option FieldType} {av As : List Value} {w w' : va_W} {b : Addr}
theorem rcall {rv : Option Value} {st0 : List Value} (hr : va_Run p l e R s m args below meth c H locs 0 0 0 0 (F0 m pc ls st0) rest (fun st oc t => (oc = .returned rv ∧ va_P D vwCl w' t.heap) ∧ va_F (va_A w H.size) st t) (va_A w H.size)) (hS : va_S A s.heap H locs) (hA : ∀ q : Nat, va_A w H.size q → A q)
    (kk : ∀ (H1 : Heap) (locs1 : List Loc), va_P D vwCl w' H1 → va_S A s.heap H1 locs1 → W p l e R s m args below meth c H1 locs1 0 0 Q (F0 m (pc + 3) ls (rv.toList ++ rest))) : W p l e R s m args below meth c H locs 0 0 Q (F0 m pc ls st0) := by
  intro T hT X
  obtain ⟨v, st₀, t, T', L, h0, X', hL, e1, e2, ⟨⟨hv, hp⟩, hz, hk⟩, st⟩ := hr T hT X
  cases hv
  rw [h0] at hz hk
  obtain ⟨t2, a1, b1⟩ := kk T'.heap (locs ++ L) (by rw [e1]; exact hp)
    ⟨Nat.le_trans hS.1 (by rw [e1]; exact hz), fun q h1 h2 => by rw [e1, hk q (Nat.lt_of_lt_of_le h1 hS.1) (fun z => h2 (hA q z))]; exact hS.2.1 q h1 h2, fun q hq => by
      rcases List.mem_append.mp hq with h | h
      · exact hS.2.2 q h
      · exact hA _ (hL q h)⟩ T' rfl X'
  exact ⟨t2, st t2 a1, b1⟩
/-- the caller's fixed things -/
def Fx (p : Program) (l : Launch) (m : MethodId) (c : Code) (cc : ByteArray) (nL : Nat) (s : State) (args : Array Value) (x : MethodName) (cx : ByteArray) (nx : Nat) (rx : Option FieldType) (D : va_G) (cs : Nat → ClassId) (A : Nat → Prop) : Prop :=
  p.tables.exec = Jvm.exec ∧ c.code = cc ∧ c.maxLocals = nL ∧ s.vm.findClass x.cls = some m.cls ∧ (∀ v ∈ wsOf x cx nx rx, v.before args s = true) ∧ KK D cs s ∧ SS D A s s.heap
theorem Fx.T {x : MethodName} {cx : ByteArray} {nx nL : Nat} {rx : Option FieldType} (F : Fx p l m c cc nL s args x cx nx rx D cs A) {w : Cond} (h : w ∈ TBL) : w.before args s = true := F.2.2.2.2.1 w (List.mem_cons_of_mem _ h)
theorem rcV {x : MethodName} {cx : ByteArray} {nx nL : Nat} {rx : Option FieldType} (F : Fx p l m c cc nL s args x cx nx rx D cs A) {rv : Option Value} {st0 : List Value} {index na q : Nat} {ci : Nat} {fs : List Value} {C : String} {T : u_T} {N : Nat} (hC : Ct l y cb nb ret fr lo D cs (.ref (ad q) :: As) (Wf mm) w' rv) (hP : va_P D vwCl (Wf mm) H) (hD : va_D A (Wf mm)) (hS : va_S A s.heap H locs) (hA : ∀ q : Nat, va_A (Wf mm) H.size q → A q) (hL : Ln n ad sh Wf) (hq : q < n) (hs : sh q (mm.1 q) (mm.2 q) = .inr (ci, fs)) (hc : vwCl[ci]? = some (C, T, N))
    (hcode : Cond.code y cb nb ret ∈ TBL) (hlink : Cond.methodLink x.cls index y ∈ TBL) (him : Cond.instanceMethod y ∈ TBL) (hsel : Cond.selects C y y ∈ TBL) (hini : Cond.initialized y.cls ∈ TBL) (hd : y.cls ≠ "java/lang/invoke/MethodHandle" ∧ y.cls ≠ "java/lang/invoke/VarHandle" ∧ (parseMethodDescriptor y.desc).map (fun d => d.parameters.length) = some na)
    (hR : fr + 1 ≤ R.frames ∧ 8 + (nb + 11) + lo ≤ R.locals) (hn : As.length = na) (hsize : ls.size = nL) (hst : st0 = As.reverse ++ .ref (ad q) :: rest) (hcat : (rest.map fun v => v.category).sum ≤ 8) (hdg : decode cc pc = .ok (.invokevirtual index, 3))
    (kk : ∀ (H1 : Heap) (locs1 : List Loc), va_P D vwCl w' H1 → va_S A s.heap H1 locs1 → W p l e R s m args below meth c H1 locs1 0 0 Q (F0 m (pc + 3) ls (rv.toList ++ rest))) : W p l e R s m args below meth c H locs 0 0 Q (F0 m pc ls st0) := by
  obtain ⟨hx, hb, hml, hown, hts, hK, hSS⟩ := id F
  obtain ⟨i, h1, -⟩ := hL.get mm hq
  rw [hs] at h1
  have hrc := va_recv hK.1 hP hc h1
  exact rcall (va_runV (C := C) (b := ad q) (As := As) ⟨hx, hb, hml, hown, hts⟩ (hC.2 H.size) ⟨callB_of na hts (goodTBL hcode) rfl rfl rfl (F.T hini) (F.T hlink) hd hR, F.T him, F.T hsel⟩ ⟨pc_blind, hrc, pc_at hP hK hD hSS hS hA⟩ rfl hn hsize hst (lv_room hcat) hdg ⟨Nat.zero_le _, Nat.zero_le _⟩) hS hA kk
theorem rcVN {x : MethodName} {cx : ByteArray} {nx nL : Nat} {rx : Option FieldType} (F : Fx p l m c cc nL s args x cx nx rx D cs A) {rv : Option Value} {st0 : List Value} {host : String} {index na q : Nat} {ci : Nat} {fs : List Value} {C : String} {T : u_T} {N : Nat} (hC : Ct l y cb nb ret fr lo D cs (.ref (ad q) :: As) (Wf mm) w' rv) (hP : va_P D vwCl (Wf mm) H) (hD : va_D A (Wf mm)) (hS : va_S A s.heap H locs) (hA : ∀ q : Nat, va_A (Wf mm) H.size q → A q) (hL : Ln n ad sh Wf) (hq : q < n) (hs : sh q (mm.1 q) (mm.2 q) = .inr (ci, fs)) (hc : vwCl[ci]? = some (C, T, N))
    (hcode : Cond.code y cb nb ret ∈ TBL) (hlink : Cond.methodLinkNest x.cls index y host ∈ lw_tbl) (him : Cond.instanceMethod y ∈ TBL) (hsel : Cond.selects C y y ∈ TBL) (hini : Cond.initialized y.cls ∈ TBL) (hd : y.cls ≠ "java/lang/invoke/MethodHandle" ∧ y.cls ≠ "java/lang/invoke/VarHandle" ∧ (parseMethodDescriptor y.desc).map (fun d => d.parameters.length) = some na)
    (hR : fr + 1 ≤ R.frames ∧ 8 + (nb + 11) + lo ≤ R.locals) (hn : As.length = na) (hsize : ls.size = nL) (hst : st0 = As.reverse ++ .ref (ad q) :: rest) (hcat : (rest.map fun v => v.category).sum ≤ 8) (hdg : decode cc pc = .ok (.invokevirtual index, 3))
    (kk : ∀ (H1 : Heap) (locs1 : List Loc), va_P D vwCl w' H1 → va_S A s.heap H1 locs1 → W p l e R s m args below meth c H1 locs1 0 0 Q (F0 m (pc + 3) ls (rv.toList ++ rest))) : W p l e R s m args below meth c H locs 0 0 Q (F0 m pc ls st0) := by
  obtain ⟨hx, hb, hml, hown, hts, hK, hSS⟩ := id F
  obtain ⟨i, h1, -⟩ := hL.get mm hq
  rw [hs] at h1
  have hrc := va_recv hK.1 hP hc h1
  exact rcall (va_runVN (C := C) (b := ad q) (As := As) ⟨hx, hb, hml, hown, hts⟩ (hC.2 H.size) ⟨va_cnB na hts (goodTBL hcode) rfl rfl rfl (hK.2.1.m hlink) (F.T hini) hd hR, F.T him, F.T hsel⟩ ⟨pc_blind, hrc, pc_at hP hK hD hSS hS hA⟩ rfl hn hsize hst (lv_room hcat) hdg ⟨Nat.zero_le _, Nat.zero_le _⟩) hS hA kk
theorem rcS {x : MethodName} {cx : ByteArray} {nx nL : Nat} {rx : Option FieldType} (F : Fx p l m c cc nL s args x cx nx rx D cs A) {rv : Option Value} {st0 : List Value} {index na : Nat} (hC : Ct l y cb nb ret fr lo D cs As w w' rv) (hP : va_P D vwCl w H) (hD : va_D A w) (hS : va_S A s.heap H locs) (hA : ∀ q : Nat, va_A w H.size q → A q)
    (hcode : Cond.code y cb nb ret ∈ TBL) (hlink : Cond.methodLink x.cls index y ∈ TBL) (hstat : Cond.static y ∈ TBL) (hini : Cond.initialized y.cls ∈ TBL) (hd : y.cls ≠ "java/lang/invoke/MethodHandle" ∧ y.cls ≠ "java/lang/invoke/VarHandle" ∧ (parseMethodDescriptor y.desc).map (fun d => d.parameters.length) = some na)
    (hR : fr + 1 ≤ R.frames ∧ 8 + (nb + 11) + lo ≤ R.locals) (hn : As.length = na) (hsize : ls.size = nL) (hst : st0 = As.reverse ++ rest) (hcat : (rest.map fun v => v.category).sum ≤ 8) (hdg : decode cc pc = .ok (.invokestatic index, 3))
    (kk : ∀ (H1 : Heap) (locs1 : List Loc), va_P D vwCl w' H1 → va_S A s.heap H1 locs1 → W p l e R s m args below meth c H1 locs1 0 0 Q (F0 m (pc + 3) ls (rv.toList ++ rest))) : W p l e R s m args below meth c H locs 0 0 Q (F0 m pc ls st0) := by
  obtain ⟨hx, hb, hml, hown, hts, hK, hSS⟩ := id F
  exact rcall (va_runS (As := As) ⟨hx, hb, hml, hown, hts⟩ (hC.2 H.size) ⟨callB_of na hts (goodTBL hcode) rfl rfl rfl (F.T hini) (F.T hlink) hd hR, F.T hstat⟩ ⟨pc_blind, pc_at hP hK hD hSS hS hA⟩ rfl hn hsize hst (lv_room hcat) hdg ⟨Nat.zero_le _, Nat.zero_le _⟩) hS hA kk
theorem rcSN {x : MethodName} {cx : ByteArray} {nx nL : Nat} {rx : Option FieldType} (F : Fx p l m c cc nL s args x cx nx rx D cs A) {rv : Option Value} {st0 : List Value} {host : String} {index na : Nat} (hC : Ct l y cb nb ret fr lo D cs As w w' rv) (hP : va_P D vwCl w H) (hD : va_D A w) (hS : va_S A s.heap H locs) (hA : ∀ q : Nat, va_A w H.size q → A q)
    (hcode : Cond.code y cb nb ret ∈ TBL) (hlink : Cond.methodLinkNest x.cls index y host ∈ lw_tbl) (hstat : Cond.static y ∈ TBL) (hini : Cond.initialized y.cls ∈ TBL) (hd : y.cls ≠ "java/lang/invoke/MethodHandle" ∧ y.cls ≠ "java/lang/invoke/VarHandle" ∧ (parseMethodDescriptor y.desc).map (fun d => d.parameters.length) = some na)
    (hR : fr + 1 ≤ R.frames ∧ 8 + (nb + 11) + lo ≤ R.locals) (hn : As.length = na) (hsize : ls.size = nL) (hst : st0 = As.reverse ++ rest) (hcat : (rest.map fun v => v.category).sum ≤ 8) (hdg : decode cc pc = .ok (.invokestatic index, 3))
    (kk : ∀ (H1 : Heap) (locs1 : List Loc), va_P D vwCl w' H1 → va_S A s.heap H1 locs1 → W p l e R s m args below meth c H1 locs1 0 0 Q (F0 m (pc + 3) ls (rv.toList ++ rest))) : W p l e R s m args below meth c H locs 0 0 Q (F0 m pc ls st0) := by
  obtain ⟨hx, hb, hml, hown, hts, hK, hSS⟩ := id F
  exact rcall (va_runSN (As := As) ⟨hx, hb, hml, hown, hts⟩ (hC.2 H.size) ⟨va_cnB na hts (goodTBL hcode) rfl rfl rfl (hK.2.1.m hlink) (F.T hini) hd hR, F.T hstat, trivial⟩ ⟨pc_blind, pc_at hP hK hD hSS hS hA⟩ rfl hn hsize hst (lv_room hcat) hdg ⟨Nat.zero_le _, Nat.zero_le _⟩) hS hA kk
-- System.arraycopy between int rows, long rows
theorem rcp (hx : p.tables.exec = Jvm.exec) (hb : c.code = cc) (hml : c.maxLocals = ls.size) {own : String} {index : Nat} (hT : ∀ w ∈ TBL, w.before args s = true) (hown : s.vm.findClass own = some m.cls) (hlink : Cond.methodLink own index arraycopyName ∈ TBL) (hnat : Cond.native arraycopyName ∈ TBL) (hstat : Cond.static arraycopyName ∈ TBL) (hini : Cond.initialized "java/lang/System" ∈ TBL)
    (hK : KK D cs s) (hP : va_P D vwCl (Wf mm) H) (hD : va_D A (Wf mm)) (hS : va_S A s.heap H locs) {n1 : Nat} {ad1 : Nat → Nat} {sh1 : Sh} {Ws : MM → va_W} {ms : MM} (hL1 : Ln n1 ad1 sh1 Ws) (hw : Ws ms = Wf mm) (q1 : Nat) (hq1 : q1 < n1) {N1 : Nat} (hs1 : sh1 q1 (ms.1 q1) (ms.2 q1) = .inl (cs 1, N1, .inl (ms.1 q1))) (hL : Ln n ad sh Wf) (q : Nat) (hq : q < n) {N : Nat} (hs : ∀ r, sh q r (mm.2 q) = .inl (cs 1, N, .inl r))
    {sp dp nn : Int32} {a b k : Nat} (ha : sp.toNatClampNeg = a) (hb2 : dp.toNatClampNeg = b) (hk2 : nn.toNatClampNeg = k) (hg : ¬ (sp < 0 ∨ dp < 0 ∨ nn < 0 ∨ N1 < a + k ∨ N < b + k))
    (hframes : 1 ≤ R.frames) (hlocals : (rest.map fun v => v.category).sum + (nativeFrameWords "java/lang/System" "arraycopy" 5 + 11) ≤ R.locals) (hdg : decode cc pc = .ok (.invokestatic index, 3)) {m2 : MM} (em : m2 = sr mm q (va_cpy (ms.1 q1) (mm.1 q) a b k))
    (kk : ∀ (H1 : Heap) (locs1 : List Loc), va_P D vwCl (Wf m2) H1 → va_S A s.heap H1 locs1 → W p l e R s m args below meth c H1 locs1 cells slots Q (F0 m (pc + 3) ls rest)) : W p l e R s m args below meth c H locs cells slots Q (F0 m pc ls (.int nn :: .int dp :: .ref (ad q) :: .int sp :: .ref (ad1 q1) :: rest)) := by
  obtain ⟨z, h1, h2, -⟩ := hL.get mm hq
  obtain ⟨z1, g1, -, -⟩ := hL1.get ms hq1
  rw [hs1, hw] at g1
  have h3 := h2 (va_cpy (ms.1 q1) (mm.1 q) a b k)
  rw [hs] at h1 h3
  subst ha; subst hb2; subst hk2
  refine va_copyi hx hb hml hown (hT _ hlink) (hT _ hnat) (hT _ hstat) (hT _ hini) hK.1 hP hD hS z1 z 1 1 g1 h1 rfl rfl rfl (fun y => hg (Or.inl y)) (fun y => hg (Or.inr (Or.inl y))) (fun y => hg (Or.inr (Or.inr (Or.inl y)))) ?_ ?_ (fun _ _ => rfl) hframes hlocals hdg (fun H1 locs1 a1 a2 a3 => kk H1 locs1 (by rw [h3] at a1; rw [em]; exact a1) a3)
  · exact Nat.le_of_not_lt (fun y => hg (Or.inr (Or.inr (Or.inr (Or.inl y)))))
  · exact Nat.le_of_not_lt (fun y => hg (Or.inr (Or.inr (Or.inr (Or.inr y)))))
theorem rcpL (hx : p.tables.exec = Jvm.exec) (hb : c.code = cc) (hml : c.maxLocals = ls.size) {own : String} {index : Nat} (hT : ∀ w ∈ TBL, w.before args s = true) (hown : s.vm.findClass own = some m.cls) (hlink : Cond.methodLink own index arraycopyName ∈ TBL) (hnat : Cond.native arraycopyName ∈ TBL) (hstat : Cond.static arraycopyName ∈ TBL) (hini : Cond.initialized "java/lang/System" ∈ TBL)
    (hK : KK D cs s) (hP : va_P D vwCl (Wf mm) H) (hD : va_D A (Wf mm)) (hS : va_S A s.heap H locs) {n1 : Nat} {ad1 : Nat → Nat} {sh1 : Sh} {Ws : MM → va_W} {ms : MM} (hL1 : Ln n1 ad1 sh1 Ws) (hw : Ws ms = Wf mm) (q1 : Nat) (hq1 : q1 < n1) {N1 : Nat} (hs1 : sh1 q1 (ms.1 q1) (ms.2 q1) = .inl (cs 2, N1, .inr (.inl (ms.2 q1)))) (hL : Ln n ad sh Wf) (q : Nat) (hq : q < n) {N : Nat} (hs : ∀ t, sh q (mm.1 q) t = .inl (cs 2, N, .inr (.inl t)))
    {sp dp nn : Int32} {a b k : Nat} (ha : sp.toNatClampNeg = a) (hb2 : dp.toNatClampNeg = b) (hk2 : nn.toNatClampNeg = k) (hg : ¬ (sp < 0 ∨ dp < 0 ∨ nn < 0 ∨ N1 < a + k ∨ N < b + k))
    (hframes : 1 ≤ R.frames) (hlocals : (rest.map fun v => v.category).sum + (nativeFrameWords "java/lang/System" "arraycopy" 5 + 11) ≤ R.locals) (hdg : decode cc pc = .ok (.invokestatic index, 3)) {m2 : MM} (em : m2 = sR mm q (va_cpy (ms.2 q1) (mm.2 q) a b k))
    (kk : ∀ (H1 : Heap) (locs1 : List Loc), va_P D vwCl (Wf m2) H1 → va_S A s.heap H1 locs1 → W p l e R s m args below meth c H1 locs1 cells slots Q (F0 m (pc + 3) ls rest)) : W p l e R s m args below meth c H locs cells slots Q (F0 m pc ls (.int nn :: .int dp :: .ref (ad q) :: .int sp :: .ref (ad1 q1) :: rest)) := by
  obtain ⟨z, h1, -, h2⟩ := hL.get mm hq
  obtain ⟨z1, g1, -, -⟩ := hL1.get ms hq1
  rw [hs1, hw] at g1
  have h3 := h2 (va_cpy (ms.2 q1) (mm.2 q) a b k)
  rw [hs] at h1 h3
  subst ha; subst hb2; subst hk2
  refine va_copyl hx hb hml hown (hT _ hlink) (hT _ hnat) (hT _ hstat) (hT _ hini) hK.1 hP hD hS z1 z 2 2 g1 h1 rfl rfl rfl (fun y => hg (Or.inl y)) (fun y => hg (Or.inr (Or.inl y))) (fun y => hg (Or.inr (Or.inr (Or.inl y)))) ?_ ?_ (fun _ _ => rfl) hframes hlocals hdg (fun H1 locs1 a1 a2 a3 => kk H1 locs1 (by rw [h3] at a1; rw [em]; exact a1) a3)
  · exact Nat.le_of_not_lt (fun y => hg (Or.inr (Or.inr (Or.inr (Or.inl y)))))
  · exact Nat.le_of_not_lt (fun y => hg (Or.inr (Or.inr (Or.inr (Or.inr y)))))
theorem i32_nlt {a b : Int32} (h : ¬ a < b) : b ≤ a := by
  rw [Int32.le_iff_toInt_le]
  rw [Int32.lt_iff_toInt_lt] at h
  omega
theorem lv_nmi {x y : Int32} (h : y = x) (k : W p l e R s m args below meth c H locs cells slots Q (F0 m pc ls (.int y :: rest))) : W p l e R s m args below meth c H locs cells slots Q (F0 m pc ls (.int x :: rest)) := h ▸ k
theorem lv_nml {x y : Int64} (h : y = x) (k : W p l e R s m args below meth c H locs cells slots Q (F0 m pc ls (.long y :: rest))) : W p l e R s m args below meth c H locs cells slots Q (F0 m pc ls (.long x :: rest)) := h ▸ k
theorem lgc_gt {x y : Int64} (h : y < x) : lg_cmp x y = 1 := if_pos h
theorem lgc_eq {x y : Int64} (h : x = y) : lg_cmp x y = 0 := by
  subst h
  simp [lg_cmp]
theorem lgc_lt {x y : Int64} (h : x < y) : lg_cmp x y = -1 := by
  have h1 : ¬ y < x := lg_lt_not h
  have h2 : ¬ x = y := fun z => by subst z; exact h1 h
  show (if y < x then 1 else if x = y then 0 else -1) = _
  rw [if_neg h1, if_neg h2]
theorem lgc3 (x y : Int64) : y < x ∨ x = y ∨ x < y := by
  rcases Int.lt_trichotomy y.toInt x.toInt with h | h | h
  · exact Or.inl (Int64.lt_iff_toInt_lt.mpr h)
  · exact Or.inr (Or.inl (Int64.toInt_inj.mp h.symm))
  · exact Or.inr (Or.inr (Int64.lt_iff_toInt_lt.mpr h))
theorem lgc_ne {x y : Int64} (h : ¬ x = y) : ¬ lg_cmp x y = 0 := by
  rcases lgc3 x y with h1 | h1 | h1
  · rw [lgc_gt h1]; decide
  · exact absurd h1 h
  · rw [lgc_lt h1]; decide
theorem lgc_nlt {x y : Int64} (h : ¬ x < y) : ¬ lg_cmp x y < 0 := by
  rcases lgc3 x y with h1 | h1 | h1
  · rw [lgc_gt h1]; decide
  · rw [lgc_eq h1]; decide
  · exact absurd h1 h
theorem lgc_ngt {x y : Int64} (h : ¬ y < x) : ¬ 0 < lg_cmp x y := by
  rcases lgc3 x y with h1 | h1 | h1
  · exact absurd h1 h
  · rw [lgc_eq h1]; decide
  · rw [lgc_lt h1]; decide
theorem rlc_eq (hx : p.tables.exec = Jvm.exec) (hb : c.code = cc) {x y : Int64} {off : Int} {tgt : Nat} (hd1 : decode cc pc = .ok (.lcmp, 1)) (hd2 : decode cc (pc + 1) = .ok (.ifCond .eq off, 3)) (ht : ((pc + 1 : Nat) : Int) + off = (tgt : Int)) (kt : x = y → W p l e R s m args below meth c H locs cells slots Q (F0 m tgt ls rest)) (kf : ¬ x = y → W p l e R s m args below meth c H locs cells slots Q (F0 m (pc + 1 + 3) ls rest)) : W p l e R s m args below meth c H locs cells slots Q (F0 m pc ls (.long y :: .long x :: rest)) := by
  refine W.lcmp hx hb hd1 ?_
  by_cases h : x = y
  · rw [lgc_eq h]
    exact lv_if_eq hx hb hd2 ht (fun _ => kt h) (fun z => absurd (by decide) z)
  · exact lv_if_eq hx hb hd2 ht (fun z => absurd z (lgc_ne h)) (fun _ => kf h)
theorem rlc_ne (hx : p.tables.exec = Jvm.exec) (hb : c.code = cc) {x y : Int64} {off : Int} {tgt : Nat} (hd1 : decode cc pc = .ok (.lcmp, 1)) (hd2 : decode cc (pc + 1) = .ok (.ifCond .ne off, 3)) (ht : ((pc + 1 : Nat) : Int) + off = (tgt : Int)) (kt : ¬ x = y → W p l e R s m args below meth c H locs cells slots Q (F0 m tgt ls rest)) (kf : x = y → W p l e R s m args below meth c H locs cells slots Q (F0 m (pc + 1 + 3) ls rest)) : W p l e R s m args below meth c H locs cells slots Q (F0 m pc ls (.long y :: .long x :: rest)) := by
  refine W.lcmp hx hb hd1 ?_
  by_cases h : x = y
  · rw [lgc_eq h]
    exact lv_if_ne hx hb hd2 ht (fun z => absurd rfl z) (fun _ => kf h)
  · exact lv_if_ne hx hb hd2 ht (fun _ => kt h) (fun z => absurd z (lgc_ne h))
theorem rlc_lt (hx : p.tables.exec = Jvm.exec) (hb : c.code = cc) {x y : Int64} {off : Int} {tgt : Nat} (hd1 : decode cc pc = .ok (.lcmp, 1)) (hd2 : decode cc (pc + 1) = .ok (.ifCond .lt off, 3)) (ht : ((pc + 1 : Nat) : Int) + off = (tgt : Int)) (kt : x < y → W p l e R s m args below meth c H locs cells slots Q (F0 m tgt ls rest)) (kf : ¬ x < y → W p l e R s m args below meth c H locs cells slots Q (F0 m (pc + 1 + 3) ls rest)) : W p l e R s m args below meth c H locs cells slots Q (F0 m pc ls (.long y :: .long x :: rest)) := by
  refine W.lcmp hx hb hd1 ?_
  by_cases h : x < y
  · rw [lgc_lt h]
    exact lv_if_lt hx hb hd2 ht (fun _ => kt h) (fun z => absurd (by decide) z)
  · exact lv_if_lt hx hb hd2 ht (fun z => absurd z (lgc_nlt h)) (fun _ => kf h)
theorem rlc_ge (hx : p.tables.exec = Jvm.exec) (hb : c.code = cc) {x y : Int64} {off : Int} {tgt : Nat} (hd1 : decode cc pc = .ok (.lcmp, 1)) (hd2 : decode cc (pc + 1) = .ok (.ifCond .ge off, 3)) (ht : ((pc + 1 : Nat) : Int) + off = (tgt : Int)) (kt : ¬ x < y → W p l e R s m args below meth c H locs cells slots Q (F0 m tgt ls rest)) (kf : x < y → W p l e R s m args below meth c H locs cells slots Q (F0 m (pc + 1 + 3) ls rest)) : W p l e R s m args below meth c H locs cells slots Q (F0 m pc ls (.long y :: .long x :: rest)) := by
  refine W.lcmp hx hb hd1 ?_
  by_cases h : x < y
  · rw [lgc_lt h]
    exact lv_if_ge hx hb hd2 ht (fun z => absurd z (by decide)) (fun _ => kf h)
  · exact lv_if_ge hx hb hd2 ht (fun _ => kt h) (fun z => absurd (i32_nlt (lgc_nlt h)) z)
theorem rlc_gt (hx : p.tables.exec = Jvm.exec) (hb : c.code = cc) {x y : Int64} {off : Int} {tgt : Nat} (hd1 : decode cc pc = .ok (.lcmp, 1)) (hd2 : decode cc (pc + 1) = .ok (.ifCond .gt off, 3)) (ht : ((pc + 1 : Nat) : Int) + off = (tgt : Int)) (kt : y < x → W p l e R s m args below meth c H locs cells slots Q (F0 m tgt ls rest)) (kf : ¬ y < x → W p l e R s m args below meth c H locs cells slots Q (F0 m (pc + 1 + 3) ls rest)) : W p l e R s m args below meth c H locs cells slots Q (F0 m pc ls (.long y :: .long x :: rest)) := by
  refine W.lcmp hx hb hd1 ?_
  by_cases h : y < x
  · rw [lgc_gt h]
    exact lv_if_gt hx hb hd2 ht (fun _ => kt h) (fun z => absurd (by decide) z)
  · exact lv_if_gt hx hb hd2 ht (fun z => absurd z (lgc_ngt h)) (fun _ => kf h)
theorem rlc_le (hx : p.tables.exec = Jvm.exec) (hb : c.code = cc) {x y : Int64} {off : Int} {tgt : Nat} (hd1 : decode cc pc = .ok (.lcmp, 1)) (hd2 : decode cc (pc + 1) = .ok (.ifCond .le off, 3)) (ht : ((pc + 1 : Nat) : Int) + off = (tgt : Int)) (kt : ¬ y < x → W p l e R s m args below meth c H locs cells slots Q (F0 m tgt ls rest)) (kf : y < x → W p l e R s m args below meth c H locs cells slots Q (F0 m (pc + 1 + 3) ls rest)) : W p l e R s m args below meth c H locs cells slots Q (F0 m pc ls (.long y :: .long x :: rest)) := by
  refine W.lcmp hx hb hd1 ?_
  by_cases h : y < x
  · rw [lgc_gt h]
    exact lv_if_le hx hb hd2 ht (fun z => absurd z (by decide)) (fun _ => kf h)
  · exact lv_if_le hx hb hd2 ht (fun _ => kt h) (fun z => absurd (i32_nlt (lgc_ngt h)) z)
theorem lv_nmr {x y : Nat} (h : x = y) (k : W p l e R s m args below meth c H locs cells slots Q (F0 m pc ls (.ref y :: rest))) : W p l e R s m args below meth c H locs cells slots Q (F0 m pc ls (.ref x :: rest)) := h ▸ k
-- the statics
theorem rgs (hx : p.tables.exec = Jvm.exec) (hb : c.code = cc) {own nm : String} {index t : Nat} (hZ : va_Z RX9 nm "[I" (.ref t) A s s.heap) (hS : va_S A s.heap H locs) (hown : s.vm.findClass own = some m.cls) (hlink : (Cond.fieldLink own index RX9 nm "[I").before args s = true) (hdg : decode cc pc = .ok (.getstatic index, 3))
    (kk : W p l e R s m args below meth c H locs cells slots Q (F0 m (pc + 3) ls (.ref t :: rest))) : W p l e R s m args below meth c H locs cells slots Q (F0 m pc ls rest) := va_gets hx hb hZ hS hown hlink (fun _ h => h) hdg kk
theorem rgsN (hx : p.tables.exec = Jvm.exec) (hb : c.code = cc) {own nm host : String} {index t : Nat} (hZ : va_Z RX9 nm "[I" (.ref t) A s s.heap) (hS : va_S A s.heap H locs) (hown : s.vm.findClass own = some m.cls) (hK : KK D cs s) (hlink : Cond.fieldLinkNest own index RX9 nm "[I" host ∈ lw_tbl) (hdg : decode cc pc = .ok (.getstatic index, 3))
    (kk : W p l e R s m args below meth c H locs cells slots Q (F0 m (pc + 3) ls (.ref t :: rest))) : W p l e R s m args below meth c H locs cells slots Q (F0 m pc ls rest) := va_getsN hx hb hZ hS hown (hK.2.1.f hlink) (fun _ h => h) hdg kk
theorem rti (hx : p.tables.exec = Jvm.exec) (hb : c.code = cc) {t N j : Nat} {f : Nat → Int32} (hT : va_T .int t N (fun j => .int (f j)) A s s.heap) (hS : va_S A s.heap H locs) {i : Int32} (hin : ¬ (i < 0 ∨ N ≤ i.toNatClampNeg)) (hj : i.toNatClampNeg = j) (hdg : decode cc pc = .ok (.iaload, 1))
    (kk : W p l e R s m args below meth c H locs cells slots Q (F0 m (pc + 1) ls (.int (f j) :: rest))) : W p l e R s m args below meth c H locs cells slots Q (F0 m pc ls (.int i :: .ref t :: rest)) := by
  subst hj
  exact va_ti hx hb hT hS hin rfl hdg kk
theorem rldc (hx : p.tables.exec = Jvm.exec) (hb : c.code = cc) {x : String × Nat × String × Nat} (hown : s.vm.findClass x.1 = some m.cls) (hK : KK D cs s) (i : Nat) (hi : strR[i]? = some x) (hdg : decode cc pc = .ok (.ldc x.2.1, 2))
    (kk : W p l e R s m args below meth c H locs cells slots Q (F0 m (pc + 2) ls (.ref (sK D x.2.2.2) :: rest))) : W p l e R s m args below meth c H locs cells slots Q (F0 m pc ls rest) := va_ldcS hx hb hown (hK.2.2.1.at i hi) hdg kk
theorem i32_nn {z : Int32} (h : ¬ z < 0) : z.toInt = (z.toNatClampNeg : Int) := by
  have h0 : (0 : Int) ≤ z.toInt := by
    have h1 := i32_nlt h
    rw [Int32.le_iff_toInt_le] at h1
    exact h1
  show z.toInt = ((z.toInt.toNat : Nat) : Int)
  omega
/-- a part of a static row into a row of the world -/
theorem rcpT (hx : p.tables.exec = Jvm.exec) (hb : c.code = cc) (hml : c.maxLocals = ls.size) {own : String} {index : Nat} (hT : ∀ w ∈ TBL, w.before args s = true) (hown : s.vm.findClass own = some m.cls) (hlink : Cond.methodLink own index arraycopyName ∈ TBL) (hnat : Cond.native arraycopyName ∈ TBL) (hstat : Cond.static arraycopyName ∈ TBL) (hini : Cond.initialized "java/lang/System" ∈ TBL)
    (hK : KK D cs s) (hP : va_P D vwCl (Wf mm) H) (hD : va_D A (Wf mm)) (hS : va_S A s.heap H locs) {t N1 : Nat} {f : Nat → Int32} (hX : va_T .int t N1 (fun j => .int (f j)) A s s.heap) (hL : Ln n ad sh Wf) (q : Nat) (hq : q < n) {N : Nat} (hs : ∀ r, sh q r (mm.2 q) = .inl (cs 1, N, .inl r))
    {sp dp nn : Int32} {a b k : Nat} (ha : sp.toNatClampNeg = a) (hb2 : dp.toNatClampNeg = b) (hk2 : nn.toNatClampNeg = k) (hg : ¬ (sp < 0 ∨ dp < 0 ∨ nn < 0 ∨ N1 < a + k ∨ N < b + k))
    (hframes : 1 ≤ R.frames) (hlocals : (rest.map fun v => v.category).sum + (nativeFrameWords "java/lang/System" "arraycopy" 5 + 11) ≤ R.locals) (hdg : decode cc pc = .ok (.invokestatic index, 3)) {m2 : MM} (em : m2 = sr mm q (va_cpy f (mm.1 q) a b k))
    (kk : ∀ (H1 : Heap) (locs1 : List Loc), va_P D vwCl (Wf m2) H1 → va_S A s.heap H1 locs1 → W p l e R s m args below meth c H1 locs1 cells slots Q (F0 m (pc + 3) ls rest)) : W p l e R s m args below meth c H locs cells slots Q (F0 m pc ls (.int nn :: .int dp :: .ref (ad q) :: .int sp :: .ref t :: rest)) := by
  obtain ⟨z, h1, h2, -⟩ := hL.get mm hq
  have h3 := h2 (va_cpy f (mm.1 q) a b k)
  rw [hs] at h1 h3
  subst ha; subst hb2; subst hk2
  have g1 : ¬ sp < 0 := fun y => hg (Or.inl y)
  have g2 : ¬ dp < 0 := fun y => hg (Or.inr (Or.inl y))
  have g3 : ¬ nn < 0 := fun y => hg (Or.inr (Or.inr (Or.inl y)))
  have g4 : sp.toNatClampNeg + nn.toNatClampNeg ≤ N1 := Nat.le_of_not_lt (fun y => hg (Or.inr (Or.inr (Or.inr (Or.inl y)))))
  have g5 : dp.toNatClampNeg + nn.toNatClampNeg ≤ N := Nat.le_of_not_lt (fun y => hg (Or.inr (Or.inr (Or.inr (Or.inr y)))))
  intro T hT1 X
  obtain ⟨scr, u1, ⟨u2, k0, hk0, cm0, hkk0⟩, u3, u4, -, u5, u6⟩ := hX
  have hc0 : H[t]? = some scr := by rw [hS.2.1 t (Array.getElem?_eq_some_iff.mp u1).1 u6]; exact u1
  have hc1 : H[ad q]? = some (vp_cell (cs 1) (N, .inl (mm.1 q))) := hP z _ h1
  obtain ⟨-, k1, hk1, cm1, hkk1⟩ := (hK.1.2 1 (cs 1, .int) rfl).1 N (fun j => .int (mm.1 q j))
  have el : ∀ i : Nat, i < nn.toNatClampNeg → scr.slots.getD (sp.toNatClampNeg + i) .null = .int (f (sp.toNatClampNeg + i)) := by
    intro i hi
    rw [Array.getD_eq_getD_getElem?, u5 _ (by omega)]
    rfl
  obtain ⟨vm', X', step⟩ := X.arraycopy hx hown (hT _ hlink) (hT _ hnat) (hT _ hstat) (hT _ hini) (src := t) (dst := ad q) (cs := scr) (cd := vp_cell (cs 1) (N, .inl (mm.1 q))) (srcPos := sp) (destPos := dp) (n := nn) (by rw [hT1]; exact hc0) (by rw [hT1]; exact hc1)
    u2 (fun _ h => by cases h) u3 (fun h => by cases h) hk0 hk1 hkk0 hkk1 (by simp [refKind]) g1 g2 g3
    (by rw [i32_nn g1, i32_nn g3]; omega)
    (by rw [i32_nn g2, i32_nn g3]; show ¬ _ > ((arrV (cs 1) N (fun j => .int (mm.1 q j))).slots.size : Int); rw [arrV_size]; omega)
    (fun vm₁ _ i hi => by
      rw [el i hi]
      exact ⟨rfl, trivial⟩)
    (g := F0 m pc ls (.int nn :: .int dp :: .ref (ad q) :: .int sp :: .ref t :: rest)) rfl (by rw [hml]) (rest := rest) rfl (by rw [hb]; exact hdg) hframes (by show 2 * 0 + _ + _ ≤ _; omega)
  have e1 : copied scr (vp_cell (cs 1) (N, .inl (mm.1 q))) sp dp nn = vp_cell (cs 1) (N, .inl (va_cpy f (mm.1 q) sp.toNatClampNeg dp.toNatClampNeg nn.toNatClampNeg)) := va_copiedX (fun z => .int z) scr (cs 1) f (mm.1 q) u5 g4
  rw [e1] at X' step
  have hl : ad q < H.size := (Array.getElem?_eq_some_iff.mp hc1).1
  have oq : ∀ y : Nat, y ≠ ad q → (H.setIfInBounds (ad q) (vp_cell (cs 1) (N, .inl (va_cpy f (mm.1 q) sp.toNatClampNeg dp.toNatClampNeg nn.toNatClampNeg))))[y]? = H[y]? := fun y hy => by simp [Array.getElem?_setIfInBounds, Ne.symm hy]
  have hP2 : va_P D vwCl ((Wf mm).set z (ad q, .inl (cs 1, N, .inl (va_cpy f (mm.1 q) sp.toNatClampNeg dp.toNatClampNeg nn.toNatClampNeg)))) (H.setIfInBounds (ad q) (vp_cell (cs 1) (N, .inl (va_cpy f (mm.1 q) sp.toNatClampNeg dp.toNatClampNeg nn.toNatClampNeg)))) := hP.set hD h1 (show (H.setIfInBounds (ad q) (vp_cell (cs 1) (N, .inl (va_cpy f (mm.1 q) sp.toNatClampNeg dp.toNatClampNeg nn.toNatClampNeg))))[ad q]? = some (vp_cell (cs 1) (N, .inl (va_cpy f (mm.1 q) sp.toNatClampNeg dp.toNatClampNeg nn.toNatClampNeg))) by simp [Array.getElem?_setIfInBounds, hl]) oq
  obtain ⟨t2, a1, b1⟩ := kk _ _ (by rw [em, ← h3]; exact hP2) ⟨by simp; exact hS.1, fun y y1 y2 => by
      rw [oq y (fun e => y2 (by rw [e]; exact hD.2 z _ h1))]
      exact hS.2.1 y y1 y2, fun y hy => by
      rcases List.mem_append.mp hy with h | h
      · exact hS.2.2 y h
      · obtain ⟨z2, -, hz⟩ := List.mem_map.mp h
        rw [← hz]
        exact hD.2 z _ h1⟩ _ (by rw [← hT1]; rfl) X'
  exact ⟨t2, step t2 a1, b1⟩
end FR
