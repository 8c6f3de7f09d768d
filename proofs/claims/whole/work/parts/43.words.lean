/-! words of the tables, by their places -/
theorem tw_1_25 : (Jvm.Cond.classLink "PlacerHeadLaw" (8 : Nat) "PlacerHead") ∈ TBL := inTb (tb1 (List.mem_of_getElem? (i := 25) rfl)) rfl
theorem tw_1_26 : (Jvm.Cond.instantiable "PlacerHead" (10 : Nat)) ∈ TBL := inTb (tb1 (List.mem_of_getElem? (i := 26) rfl)) rfl
theorem tw_1_27 : (Jvm.Cond.methodLink "PlacerHeadLaw" (129 : Nat) ({ cls := "PlacerHead", name := "<init>", desc := "()V" } : Jvm.MethodName)) ∈ TBL := inTb (tb1 (List.mem_of_getElem? (i := 27) rfl)) rfl
theorem tw_1_28 : (Jvm.Cond.instanceMethod ({ cls := "PlacerHead", name := "<init>", desc := "()V" } : Jvm.MethodName)) ∈ TBL := inTb (tb1 (List.mem_of_getElem? (i := 28) rfl)) rfl
theorem tw_1_29 : (Jvm.Cond.code ({ cls := "PlacerHead", name := "<init>", desc := "()V" } : Jvm.MethodName) prog_1_method_1_code (2 : Nat) (Option.none : Option Jvm.ClassFile.FieldType)) ∈ TBL := inTb (tb1 (List.mem_of_getElem? (i := 29) rfl)) rfl
theorem tw_6_206 : (Jvm.Cond.classLink "PlacerHeadLaw" (130 : Nat) "PlacerHeadModel") ∈ TBL := inTb (tb6 (List.mem_of_getElem? (i := 206) rfl)) rfl
theorem tw_6_207 : (Jvm.Cond.instantiable "PlacerHeadModel" (17 : Nat)) ∈ TBL := inTb (tb6 (List.mem_of_getElem? (i := 207) rfl)) rfl
theorem tw_6_208 : (Jvm.Cond.methodLink "PlacerHeadLaw" (132 : Nat) ({ cls := "PlacerHeadModel", name := "<init>", desc := "()V" } : Jvm.MethodName)) ∈ TBL := inTb (tb6 (List.mem_of_getElem? (i := 208) rfl)) rfl
theorem tw_6_209 : (Jvm.Cond.instanceMethod ({ cls := "PlacerHeadModel", name := "<init>", desc := "()V" } : Jvm.MethodName)) ∈ TBL := inTb (tb6 (List.mem_of_getElem? (i := 209) rfl)) rfl
theorem tw_6_210 : (Jvm.Cond.code ({ cls := "PlacerHeadModel", name := "<init>", desc := "()V" } : Jvm.MethodName) prog_12_method_1_code (1 : Nat) (Option.none : Option Jvm.ClassFile.FieldType)) ∈ TBL := inTb (tb6 (List.mem_of_getElem? (i := 210) rfl)) rfl
theorem yi_X9_init : (yX9_init).cls ≠ "java/lang/invoke/MethodHandle" ∧ (yX9_init).cls ≠ "java/lang/invoke/VarHandle" ∧ (parseMethodDescriptor (yX9_init).desc).map (fun d => d.parameters.length) = some 0 := by decide +kernel
theorem yi_X10_init : (yX10_init).cls ≠ "java/lang/invoke/MethodHandle" ∧ (yX10_init).cls ≠ "java/lang/invoke/VarHandle" ∧ (parseMethodDescriptor (yX10_init).desc).map (fun d => d.parameters.length) = some 0 := by decide +kernel
