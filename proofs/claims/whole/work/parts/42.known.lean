/-! what the Statement gives of the start, as the frame wants it -/
def NR : List Cond := flatC (Jvm.Cond.and given_1 narrow_1)
def strI : List Nat := [82, 96, 98, 100, 102, 104, 106, 108, 113, 118, 123, 128]
def strM : List Nat := [183, 137, 147, 149, 151, 154, 156, 163, 168, 173, 178, 158]
def tmD (i : Nat) : Term := .string "PlacerHead$Description" (strI.getD i 0)
def tmM (i : Nat) : Term := .string "PlacerHeadModel" (strM.getD i 0)
set_option maxRecDepth 100000 in
theorem nr_dfl : ∀ j : Nat, j < 15 → Cond.eq (.elem (.static "PlacerHead" "DEFAULTS" "[I") (.int (Int32.ofNat j))) (.int (dfl j)) ∈ NR := by decide +kernel
set_option maxRecDepth 100000 in
theorem nr_lea : ∀ j : Nat, j < 15 → Cond.eq (.elem (.static "PlacerHead" "LEAST" "[I") (.int (Int32.ofNat j))) (.int (lea j)) ∈ NR := by decide +kernel
set_option maxRecDepth 100000 in
theorem nr_mst : ∀ j : Nat, j < 15 → Cond.eq (.elem (.static "PlacerHead" "MOST" "[I") (.int (Int32.ofNat j))) (.int (mst j)) ∈ NR := by decide +kernel
set_option maxRecDepth 100000 in
theorem nr_arr : ∀ nm ∈ ["DEFAULTS", "LEAST", "MOST"], Cond.arrayOf (.static "PlacerHead" nm "[I") .int ∈ NR ∧ Cond.eq (.length (.static "PlacerHead" nm "[I")) (.int 15) ∈ NR := by decide +kernel
set_option maxRecDepth 100000 in
theorem nr_cs : Cond.eq (.static "java/lang/String" "COMPACT_STRINGS" "Z") (.int 1) ∈ NR := by decide +kernel
set_option maxRecDepth 100000 in
theorem nr_q1 : Cond.isRef (.static "jdk/internal/util/Preconditions" "SIOOBE_FORMATTER" "Ljava/util/function/BiFunction;") ∈ NR := by decide +kernel
set_option maxRecDepth 100000 in
theorem nr_q2 : Cond.isRef (.static Bundle.tN "UNASSIGNED_STACK" Bundle.steD) ∈ NR := by decide +kernel
set_option maxRecDepth 100000 in
theorem nr_q3 : Cond.isRef (.static Bundle.tN "SUPPRESSED_SENTINEL" Bundle.listD) ∈ NR := by decide +kernel
set_option maxRecDepth 100000 in
theorem nr_nc : Cond.not (.castable "java/lang/IllegalArgumentException" "java/lang/IndexOutOfBoundsException") ∈ NR := by decide +kernel
set_option maxRecDepth 100000 in
theorem nr_sx : ∀ i : Nat, i < 12 → Cond.exactly (tmD i) "java/lang/String" ∈ NR := by decide +kernel
set_option maxRecDepth 100000 in
theorem nr_sc : ∀ i : Nat, i < 12 → Cond.eq (.field (tmD i) "java/lang/String" "coder" "B") (.int 0) ∈ NR := by decide +kernel
set_option maxRecDepth 100000 in
theorem nr_sa : ∀ i : Nat, i < 12 → Cond.arrayOf (.field (tmD i) "java/lang/String" "value" "[B") .byte ∈ NR := by decide +kernel
set_option maxRecDepth 100000 in
theorem nr_sl : ∀ i : Nat, i < 12 → Cond.eq (.length (.field (tmD i) "java/lang/String" "value" "[B")) (.int (Int32.ofNat (strL i))) ∈ NR := by decide +kernel
set_option maxRecDepth 100000 in
theorem nr_se : ∀ i : Nat, i < 12 → ∀ j : Nat, j < strL i → Cond.eq (.elem (.field (tmD i) "java/lang/String" "value" "[B") (.int (Int32.ofNat j))) (.int (strC i j)) ∈ NR := by decide +kernel
set_option maxRecDepth 100000 in
theorem nr_sm : ∀ i : Nat, i < 12 → Cond.eq (tmD i) (tmM i) ∈ NR := by decide +kernel
set_option maxRecDepth 100000 in
theorem nr_s4 : ∀ k ∈ [108, 355, 121, 352], Cond.exactly (.string "PlacerHead" k) "java/lang/String" ∈ NR := by decide +kernel
set_option maxRecDepth 100000 in
theorem nr_st : ∀ x ∈ strR, Cond.stringRef x.1 x.2.1 x.2.2.1 ∈ lw_tbl := by decide +kernel
set_option maxRecDepth 100000 in
theorem nr_lay : ∀ x ∈ [("PlacerHead", "DEFAULTS", "[I"), ("PlacerHead", "LEAST", "[I"), ("PlacerHead", "MOST", "[I"), ("java/lang/String", "COMPACT_STRINGS", "Z"), ("jdk/internal/util/Preconditions", "SIOOBE_FORMATTER", "Ljava/util/function/BiFunction;"), (Bundle.tN, "UNASSIGNED_STACK", Bundle.steD), (Bundle.tN, "SUPPRESSED_SENTINEL", Bundle.listD)], Cond.laysStatic x.1 x.2.1 x.2.2 ∈ lw_tbl ∧ Cond.initialized x.1 ∈ lw_tbl := by decide +kernel
set_option maxRecDepth 100000 in
theorem nr_ao : ∀ C ∈ [RX8, RX2, RX6], Cond.arrayOver (.object C) ∈ lw_tbl := by decide +kernel
set_option maxRecDepth 100000 in
theorem nr_ac : ∀ ty ∈ [FieldType.byte, .int, .long, .boolean], Cond.arrayClass ty ∈ lw_tbl := by decide +kernel
set_option maxRecDepth 100000 in
theorem nr_in : ∀ q ∈ vwCl, Cond.instantiable q.1 q.2.2 ∈ lw_tbl := by decide +kernel
section KNOWN
variable {s : State} {args : Array Value} {A : Nat → Prop}
theorem kn_SA {nm : String} {f : Nat → Int32} (h : ∀ w ∈ NR, w.before args s = true) (ht : ∀ w ∈ lw_tbl, w.before args s = true) (hA : ∀ a : Nat, a < s.heap.size → ¬ A a) (hnm : nm ∈ ["DEFAULTS", "LEAST", "MOST"]) (hl : Cond.laysStatic "PlacerHead" nm "[I" ∈ lw_tbl ∧ Cond.initialized "PlacerHead" ∈ lw_tbl) (he : ∀ j : Nat, j < 15 → Cond.eq (.elem (.static "PlacerHead" nm "[I") (.int (Int32.ofNat j))) (.int (f j)) ∈ NR) : SA nm f A s s.heap := by
  obtain ⟨t, h1, h2⟩ := va_Tof (args := args) (N := 15) (f := fun j => .int (f j)) (A := A) (by decide) (h _ (nr_arr nm hnm).1) (va_eqt (h _ (nr_arr nm hnm).2)) (fun j hj => va_eqt (h _ (he j hj))) hA
  exact ⟨t, va_Zof (ht _ hl.1) (ht _ hl.2) h1 hA, h2⟩
/-- the texts: where they lie -/
theorem kn_str (h : ∀ w ∈ NR, w.before args s = true) (hA : ∀ a : Nat, a < s.heap.size → ¬ A a) : ∃ adK adV : Nat → Nat, (∀ i : Nat, i < 12 → (tmD i).eval args s none [] s = some (.ref (adK i)) ∧ va_O "java/lang/String" (adK i) A s s.heap ∧ va_OF "java/lang/String" "coder" "B" (.int 0) (adK i) A s s.heap ∧ va_OF "java/lang/String" "value" "[B" (.ref (adV i)) (adK i) A s s.heap ∧ va_T .byte (adV i) (strL i) (fun j => .int (strC i j)) A s s.heap) ∧ ∀ i : Nat, i < 4 → (Term.string "PlacerHead" (([108, 355, 121, 352] : List Nat).getD i 0)).eval args s none [] s = some (.ref (adK (12 + i))) := by
  have h0 : ∀ i : Nat, ∃ q : Nat × Nat, (i < 12 → (tmD i).eval args s none [] s = some (.ref q.1) ∧ va_O "java/lang/String" q.1 A s s.heap ∧ va_OF "java/lang/String" "coder" "B" (.int 0) q.1 A s s.heap ∧ va_OF "java/lang/String" "value" "[B" (.ref q.2) q.1 A s s.heap ∧ va_T .byte q.2 (strL i) (fun j => .int (strC i j)) A s s.heap) ∧ (12 ≤ i → i < 16 → (Term.string "PlacerHead" (([108, 355, 121, 352] : List Nat).getD (i - 12) 0)).eval args s none [] s = some (.ref q.1)) := by
    intro i
    by_cases hi : i < 12
    · obtain ⟨a, c, cA, kA, q1, q2, q3, q4, q5, q6, -⟩ := Cond.exactly_spec (args := args) (first := s) (o := none) (s := s) (idx := []) (t := tmD i) (cls := "java/lang/String") (h _ (nr_sx i hi))
      obtain ⟨t, ht, hT⟩ := va_Tof (args := args) (N := strL i) (f := fun j => .int (strC i j)) (A := A) (by
        have hb : ∀ i : Nat, i < 12 → strL i < 2 ^ 31 := by decide
        exact hb i hi) (h _ (nr_sa i hi)) (va_eqt (h _ (nr_sl i hi))) (fun j hj => va_eqt (h _ (nr_se i hi j hj))) hA
      exact ⟨(a, t), fun _ => ⟨q1, ⟨cA, q3, q5, by rw [q6]; exact q2, hA a (Array.getElem?_eq_some_iff.mp q3).1⟩, vk_OFof q1 (va_eqt (h _ (nr_sc i hi))) hA, vk_OFof q1 ht hA, hT⟩, fun hz => absurd hi (by omega)⟩
    · by_cases hj : i < 16
      · have hm : (([108, 355, 121, 352] : List Nat).getD (i - 12) 0) ∈ [108, 355, 121, 352] := by
          rcases (show i = 12 ∨ i = 13 ∨ i = 14 ∨ i = 15 by omega) with rfl | rfl | rfl | rfl <;> decide
        obtain ⟨a, c, cA, kA, q1, -⟩ := Cond.exactly_spec (args := args) (first := s) (o := none) (s := s) (idx := []) (cls := "java/lang/String") (h _ (nr_s4 _ hm))
        exact ⟨(a, 0), fun hz => absurd hz hi, fun _ _ => q1⟩
      · exact ⟨(0, 0), fun hz => absurd hz hi, fun _ hz => absurd hz hj⟩
  obtain ⟨ad, had⟩ := Classical.axiomOfChoice h0
  refine ⟨fun i => (ad i).1, fun i => (ad i).2, fun i hi => (had i).1 hi, fun i hi => ?_⟩
  have h3 := (had (12 + i)).2 (by omega) (by omega)
  rw [Nat.add_sub_cancel_left] at h3
  exact h3
theorem kn_cl (ht : ∀ w ∈ lw_tbl, w.before args s = true) (hT : ∀ w ∈ TBL, w.before args s = true) : ∃ (dC : Nat → ClassId) (dI : Nat → Nat → Nat), ∀ (c : Nat) (q : vw_C), vwCl[c]? = some q → u_Kn s q.1 q.2.1 q.2.2 (dC c) (dI c) := by
  have key : ∀ (c : Nat) (q : vw_C), vwCl[c]? = some q → ∃ (cC : ClassId) (iS : Nat → Nat), u_Kn s q.1 q.2.1 q.2.2 cC iS := by
    intro c q hq
    have hi : (Cond.instantiable q.1 q.2.2).before args s = true := ht _ (nr_in q (List.mem_of_getElem? hq))
    have hu : ∀ w ∈ u_ws q.1 q.2.1 q.2.2, w ∈ TBL := by
      have hlt := (List.getElem?_eq_some_iff.mp hq).1
      have hlt : c < 11 := hlt
      rcases (show c = 0 ∨ c = 1 ∨ c = 2 ∨ c = 3 ∨ c = 4 ∨ c = 5 ∨ c = 6 ∨ c = 7 ∨ c = 8 ∨ c = 9 ∨ c = 10 by omega) with rfl | rfl | rfl | rfl | rfl | rfl | rfl | rfl | rfl | rfl | rfl <;> cases hq
      · exact hu0
      · exact hu1
      · exact hu2
      · exact hu3
      · exact hu4
      · exact hu5
      · exact hu6
      · exact hu7
      · exact hu8
      · exact hu9
      · exact hu10
    exact u_known hT hu hi
  have k2 : ∀ c : Nat, ∃ z : ClassId × (Nat → Nat), ∀ q : vw_C, vwCl[c]? = some q → u_Kn s q.1 q.2.1 q.2.2 z.1 z.2 := by
    intro c
    cases hc : vwCl[c]? with
    | none => exact ⟨(0, fun _ => 0), fun q h => by cases h⟩
    | some q =>
      obtain ⟨cC, iS, h⟩ := key c q hc
      exact ⟨(cC, iS), fun q' h' => by cases h'; exact h⟩
  obtain ⟨f, hf⟩ := Classical.axiomOfChoice k2
  exact ⟨fun c => (f c).1, fun c => (f c).2, fun c q hq => hf c q hq⟩
theorem kn_prim (ht : ∀ w ∈ lw_tbl, w.before args s = true) {ty : FieldType} (h : ty ∈ [FieldType.byte, .int, .long, .boolean]) : ∃ cA : ClassId, ArrOfT s cA ty ∧ s.vm.findClass ("[" ++ ty.toString) = some cA := by
  obtain ⟨cA, k, comp, h1, h2, h3⟩ := Cond.arrayClass_spec (args := args) (first := s) (s := s) (o := none) (idx := []) (ht _ (nr_ac ty h))
  exact ⟨cA, fun n z => ⟨fun k h => (by cases h), k, h2, comp, h3⟩, h1⟩
theorem kn_obj (ht : ∀ w ∈ lw_tbl, w.before args s = true) {C : String} (h : C ∈ [RX8, RX2, RX6]) : ∃ cA : ClassId, ArrOfT s cA (.object C) ∧ va_RA s cA (.object C) := by
  obtain ⟨comp, c, k, h1, h2, h3, h4, h5⟩ := Cond.arrayOver_spec (args := args) (first := s) (s := s) (o := none) (idx := []) (ht _ (nr_ao C h))
  exact ⟨c, fun n z => ⟨fun k h => (by cases h), k, h3, comp, h4⟩, k, comp, h3, h4, h1, h5⟩
/-- all that the frame wants of a start -/
theorem kn_all (hn : ∀ w ∈ NR, w.before args s = true) (ht : ∀ w ∈ lw_tbl, w.before args s = true) (hA : ∀ a : Nat, a < s.heap.size → ¬ A a) : ∃ (D : va_G) (cs : Nat → ClassId), KK D cs s ∧ SS D A s s.heap ∧ KI s := by
  have hT : ∀ w ∈ TBL, w.before args s = true := fun w h => ht w (List.mem_filter.mp h).1
  obtain ⟨dC, dI, hcl⟩ := kn_cl ht hT
  obtain ⟨adK, adV, hs, hs4⟩ := kn_str hn hA
  obtain ⟨c0, a0, b0⟩ := kn_prim (ty := .byte) ht (by decide)
  obtain ⟨c1, a1, b1⟩ := kn_prim (ty := .int) ht (by decide)
  obtain ⟨c2, a2, b2⟩ := kn_prim (ty := .long) ht (by decide)
  obtain ⟨c3, a3, b3⟩ := kn_prim (ty := .boolean) ht (by decide)
  obtain ⟨c4, a4, b4⟩ := kn_obj (C := RX8) ht (by decide)
  obtain ⟨c5, a5, b5⟩ := kn_obj (C := RX2) ht (by decide)
  obtain ⟨c6, a6, b6⟩ := kn_obj (C := RX6) ht (by decide)
  refine ⟨(dC, fun c k => if c = 100 then adK k else if c = 101 then adV k else dI c k), fun k => ([c0, c1, c2, c3, c4, c5, c6] : List ClassId).getD k 0, ⟨⟨fun c q hq => ?_, fun k q hk => ?_⟩, fun w hw hz => ?_, fun x hx => ?_, va_Nc.of (hn _ nr_nc)⟩, ⟨kn_SA hn ht hA (by decide) (nr_lay ("PlacerHead", "DEFAULTS", "[I") (by decide)) nr_dfl, kn_SA hn ht hA (by decide) (nr_lay ("PlacerHead", "LEAST", "[I") (by decide)) nr_lea, kn_SA hn ht hA (by decide) (nr_lay ("PlacerHead", "MOST", "[I") (by decide)) nr_mst, ?_, ?_, ?_, ?_, fun i hi => ?_⟩, ⟨?_, ?_, ?_⟩⟩
  · have h := hcl c q hq
    have hlt : c < 11 := (List.getElem?_eq_some_iff.mp hq).1
    have e : (fun k => if c = 100 then adK k else if c = 101 then adV k else dI c k) = dI c := funext fun k => by
      rw [if_neg (by omega), if_neg (by omega)]
    show u_Kn s q.1 q.2.1 q.2.2 (dC c) (fun k => if c = 100 then adK k else if c = 101 then adV k else dI c k)
    rw [e]
    exact h
  · have hlt : k < 7 := (List.getElem?_eq_some_iff.mp hk).1
    rcases (show k = 0 ∨ k = 1 ∨ k = 2 ∨ k = 3 ∨ k = 4 ∨ k = 5 ∨ k = 6 by omega) with rfl | rfl | rfl | rfl | rfl | rfl | rfl <;> cases hk
    · exact ⟨a0, b0⟩
    · exact ⟨a1, b1⟩
    · exact ⟨a2, b2⟩
    · exact ⟨a3, b3⟩
    · exact ⟨a4, b4⟩
    · exact ⟨a5, b5⟩
    · exact ⟨a6, b6⟩
  · have h9 := ht w hw
    cases w <;> first | exact va_Nw.of rfl h9 | cases hz
  · have h1 := ht _ (nr_st x hx)
    have hM : ∀ i : Nat, i < 12 → (tmM i).eval args s none [] s = some (.ref (adK i)) := fun i hi => by
      obtain ⟨y, y1, y2⟩ := Cond.eq_one (args := args) (first := s) (o := none) (s := s) (idx := []) (hn _ (nr_sm i hi))
      rw [(hs i hi).1] at y1
      cases y1
      exact y2
    have key : (Term.string x.1 x.2.1).eval args s none [] s = some (.ref (adK x.2.2.2)) := by
      obtain ⟨i, hi⟩ := List.getElem?_of_mem hx
      have hlt : i < 28 := (List.getElem?_eq_some_iff.mp hi).1
      have h28 : i = 0 ∨ i = 1 ∨ i = 2 ∨ i = 3 ∨ i = 4 ∨ i = 5 ∨ i = 6 ∨ i = 7 ∨ i = 8 ∨ i = 9 ∨ i = 10 ∨ i = 11 ∨ i = 12 ∨ i = 13 ∨ i = 14 ∨ i = 15 ∨ i = 16 ∨ i = 17 ∨ i = 18 ∨ i = 19 ∨ i = 20 ∨ i = 21 ∨ i = 22 ∨ i = 23 ∨ i = 24 ∨ i = 25 ∨ i = 26 ∨ i = 27 := by omega
      rcases h28 with rfl | rfl | rfl | rfl | rfl | rfl | rfl | rfl | rfl | rfl | rfl | rfl | rfl | rfl | rfl | rfl | rfl | rfl | rfl | rfl | rfl | rfl | rfl | rfl | rfl | rfl | rfl | rfl <;> cases hi <;> first | exact (hs 0 (by decide)).1 | exact (hs 1 (by decide)).1 | exact (hs 2 (by decide)).1 | exact (hs 3 (by decide)).1 | exact (hs 4 (by decide)).1 | exact (hs 5 (by decide)).1 | exact (hs 6 (by decide)).1 | exact (hs 7 (by decide)).1 | exact (hs 8 (by decide)).1 | exact (hs 9 (by decide)).1 | exact (hs 10 (by decide)).1 | exact (hs 11 (by decide)).1 | exact hs4 0 (by decide) | exact hs4 1 (by decide) | exact hs4 2 (by decide) | exact hs4 3 (by decide) | exact hM 0 (by decide) | exact hM 1 (by decide) | exact hM 2 (by decide) | exact hM 3 (by decide) | exact hM 4 (by decide) | exact hM 5 (by decide) | exact hM 6 (by decide) | exact hM 7 (by decide) | exact hM 8 (by decide) | exact hM 9 (by decide) | exact hM 10 (by decide) | exact hM 11 (by decide)
    exact vk_R.of h1 key
  · exact va_Zof (ht _ (nr_lay ("java/lang/String", "COMPACT_STRINGS", "Z") (by decide)).1) (ht _ (nr_lay ("java/lang/String", "COMPACT_STRINGS", "Z") (by decide)).2) (va_eqi (hn _ nr_cs)) hA
  · exact va_Zqof (ht _ (nr_lay ("jdk/internal/util/Preconditions", "SIOOBE_FORMATTER", "Ljava/util/function/BiFunction;") (by decide)).1) (ht _ (nr_lay ("jdk/internal/util/Preconditions", "SIOOBE_FORMATTER", "Ljava/util/function/BiFunction;") (by decide)).2) (hn _ nr_q1) hA
  · exact vx_Zqof (ht _ (nr_lay (Bundle.tN, "UNASSIGNED_STACK", Bundle.steD) (by decide)).1) (ht _ (nr_lay (Bundle.tN, "UNASSIGNED_STACK", Bundle.steD) (by decide)).2) (hn _ nr_q2) hA
  · exact vx_Zqof (ht _ (nr_lay (Bundle.tN, "SUPPRESSED_SENTINEL", Bundle.listD) (by decide)).1) (ht _ (nr_lay (Bundle.tN, "SUPPRESSED_SENTINEL", Bundle.listD) (by decide)).2) (hn _ nr_q3) hA
  · obtain ⟨-, z1, z2, z3, z4⟩ := hs i hi
    exact ⟨z1, z2, z3, z4⟩
  · exact va_AO.of (ht _ (nr_ao RX8 (by decide)))
  · exact va_AO.of (ht _ (nr_ao RX2 (by decide)))
  · exact va_AO.of (ht _ (nr_ao RX6 (by decide)))
end KNOWN
