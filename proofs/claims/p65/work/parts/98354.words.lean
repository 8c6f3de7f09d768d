/-! words for numbers in a text -/
theorem tw_4_178 : (Jvm.Cond.fieldLink "java/lang/Integer" (83 : Nat) "java/lang/Integer" "DigitOnes" "[B") ∈ TBL := inTb (tb4 (List.mem_of_getElem? (i := 178) rfl)) rfl
theorem tw_4_180 : (Jvm.Cond.fieldLink "java/lang/Integer" (87 : Nat) "java/lang/Integer" "DigitTens" "[B") ∈ TBL := inTb (tb4 (List.mem_of_getElem? (i := 180) rfl)) rfl
