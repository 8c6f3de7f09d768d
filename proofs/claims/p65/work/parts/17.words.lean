/-! words of the tables, by their places -/
def lw_q0 : MethodName × Nat := (⟨"PlacerHead$Machine", "clear", "()V"⟩, 16)
theorem lw_qm0 : lw_q0 ∈ lw_privs := (List.mem_append_left _ (List.mem_of_getElem? (i := 0) rfl))
def lw_q1 : MethodName × Nat := (⟨"PlacerHead$Spindle", "clear", "()V"⟩, 8)
theorem lw_qm1 : lw_q1 ∈ lw_privs := (List.mem_append_left _ (List.mem_of_getElem? (i := 1) rfl))
def lw_q3 : MethodName × Nat := (⟨"PlacerHead$Kinds", "clear", "()V"⟩, 7)
theorem lw_qm3 : lw_q3 ∈ lw_privs := (List.mem_append_left _ (List.mem_of_getElem? (i := 3) rfl))
def lw_q4 : MethodName × Nat := (⟨"PlacerHead$Board", "clear", "()V"⟩, 12)
theorem lw_qm4 : lw_q4 ∈ lw_privs := (List.mem_append_left _ (List.mem_of_getElem? (i := 4) rfl))
def lw_q5 : MethodName × Nat := (⟨"PlacerHead$Journal", "clear", "()V"⟩, 9)
theorem lw_qm5 : lw_q5 ∈ lw_privs := (List.mem_append_left _ (List.mem_of_getElem? (i := 5) rfl))
def lw_q11 : MethodName × Nat := (⟨"PlacerHead$Description", "readMachine", "()V"⟩, 8)
theorem lw_qm11 : lw_q11 ∈ lw_privs := (List.mem_append_left _ (List.mem_of_getElem? (i := 11) rfl))
def lw_q12 : MethodName × Nat := (⟨"PlacerHead$Description", "readWord", "()V"⟩, 8)
theorem lw_qm12 : lw_q12 ∈ lw_privs := (List.mem_append_left _ (List.mem_of_getElem? (i := 12) rfl))
def lw_q13 : MethodName × Nat := (⟨"PlacerHead$Description", "isAtEnd", "()Z"⟩, 8)
theorem lw_qm13 : lw_q13 ∈ lw_privs := (List.mem_append_left _ (List.mem_of_getElem? (i := 13) rfl))
def lw_q14 : MethodName × Nat := (⟨"PlacerHead$Description", "isWord", "(Ljava/lang/String;)Z"⟩, 8)
theorem lw_qm14 : lw_q14 ∈ lw_privs := (List.mem_append_left _ (List.mem_of_getElem? (i := 14) rfl))
def lw_q15 : MethodName × Nat := (⟨"PlacerHead$Description", "fail", "(II)V"⟩, 8)
theorem lw_qm15 : lw_q15 ∈ lw_privs := (List.mem_append_left _ (List.mem_of_getElem? (i := 15) rfl))
def lw_q16 : MethodName × Nat := (⟨"PlacerHead$Description", "readNumber", "(II)I"⟩, 8)
theorem lw_qm16 : lw_q16 ∈ lw_privs := (List.mem_append_right _ (List.mem_append_left _ (List.mem_of_getElem? (i := 0) rfl)))
def lw_q17 : MethodName × Nat := (⟨"PlacerHead$Description", "isAtDigit", "()Z"⟩, 8)
theorem lw_qm17 : lw_q17 ∈ lw_privs := (List.mem_append_right _ (List.mem_append_left _ (List.mem_of_getElem? (i := 1) rfl)))
def lw_q18 : MethodName × Nat := (⟨"PlacerHead$Description", "readSettings", "(II)V"⟩, 8)
theorem lw_qm18 : lw_q18 ∈ lw_privs := (List.mem_append_right _ (List.mem_append_left _ (List.mem_of_getElem? (i := 2) rfl)))
def lw_q19 : MethodName × Nat := (⟨"PlacerHead$Description", "readSemicolon", "()V"⟩, 8)
theorem lw_qm19 : lw_q19 ∈ lw_privs := (List.mem_append_right _ (List.mem_append_left _ (List.mem_of_getElem? (i := 3) rfl)))
def lw_q20 : MethodName × Nat := (⟨"PlacerHead$Description", "readStatement", "()V"⟩, 8)
theorem lw_qm20 : lw_q20 ∈ lw_privs := (List.mem_append_right _ (List.mem_append_left _ (List.mem_of_getElem? (i := 4) rfl)))
def lw_q21 : MethodName × Nat := (⟨"PlacerHead$Description", "readNozzles", "()V"⟩, 8)
theorem lw_qm21 : lw_q21 ∈ lw_privs := (List.mem_append_right _ (List.mem_append_left _ (List.mem_of_getElem? (i := 5) rfl)))
def lw_q22 : MethodName × Nat := (⟨"PlacerHead$Machine", "addType", "(I)V"⟩, 16)
theorem lw_qm22 : lw_q22 ∈ lw_privs := (List.mem_append_right _ (List.mem_append_left _ (List.mem_of_getElem? (i := 6) rfl)))
def lw_q23 : MethodName × Nat := (⟨"PlacerHead$Description", "readKind", "()V"⟩, 8)
theorem lw_qm23 : lw_q23 ∈ lw_privs := (List.mem_append_right _ (List.mem_append_left _ (List.mem_of_getElem? (i := 7) rfl)))
def lw_q24 : MethodName × Nat := (⟨"PlacerHead$Kinds", "add", "(I)V"⟩, 7)
theorem lw_qm24 : lw_q24 ∈ lw_privs := (List.mem_append_right _ (List.mem_append_left _ (List.mem_of_getElem? (i := 8) rfl)))
def lw_q25 : MethodName × Nat := (⟨"PlacerHead$Description", "readFeeder", "()V"⟩, 8)
theorem lw_qm25 : lw_q25 ∈ lw_privs := (List.mem_append_right _ (List.mem_append_left _ (List.mem_of_getElem? (i := 9) rfl)))
def lw_q26 : MethodName × Nat := (⟨"PlacerHead$Machine", "addFeeder", "(IIII)V"⟩, 16)
theorem lw_qm26 : lw_q26 ∈ lw_privs := (List.mem_append_right _ (List.mem_append_left _ (List.mem_of_getElem? (i := 10) rfl)))
def lw_q28 : MethodName × Nat := (⟨"PlacerHead$Description", "readSpot", "()V"⟩, 8)
theorem lw_qm28 : lw_q28 ∈ lw_privs := (List.mem_append_right _ (List.mem_append_left _ (List.mem_of_getElem? (i := 12) rfl)))
def lw_q29 : MethodName × Nat := (⟨"PlacerHead$Board", "addSpot", "(III)V"⟩, 12)
theorem lw_qm29 : lw_q29 ∈ lw_privs := (List.mem_append_right _ (List.mem_append_left _ (List.mem_of_getElem? (i := 13) rfl)))
def lw_q30 : MethodName × Nat := (⟨"PlacerHead$Description", "readBefore", "()V"⟩, 8)
theorem lw_qm30 : lw_q30 ∈ lw_privs := (List.mem_append_right _ (List.mem_append_left _ (List.mem_of_getElem? (i := 14) rfl)))
def lw_q31 : MethodName × Nat := (⟨"PlacerHead$Board", "wouldCircle", "(II)Z"⟩, 12)
theorem lw_qm31 : lw_q31 ∈ lw_privs := (List.mem_append_right _ (List.mem_append_left _ (List.mem_of_getElem? (i := 15) rfl)))
def lw_q33 : MethodName × Nat := (⟨"PlacerHead$Board", "pairIndex", "(II)I"⟩, 12)
theorem lw_qm33 : lw_q33 ∈ lw_privs := (List.mem_append_right _ (List.mem_append_right _ (List.mem_append_left _ (List.mem_of_getElem? (i := 1) rfl))))
def lw_q34 : MethodName × Nat := (⟨"PlacerHead$Board", "addPair", "(II)V"⟩, 12)
theorem lw_qm34 : lw_q34 ∈ lw_privs := (List.mem_append_right _ (List.mem_append_right _ (List.mem_append_left _ (List.mem_of_getElem? (i := 2) rfl))))
def lw_q35 : MethodName × Nat := (⟨"PlacerHead$Machine", "copyFrom", "(LPlacerHead$Machine;)V"⟩, 16)
theorem lw_qm35 : lw_q35 ∈ lw_privs := (List.mem_append_right _ (List.mem_append_right _ (List.mem_append_left _ (List.mem_of_getElem? (i := 3) rfl))))
def lw_q36 : MethodName × Nat := (⟨"PlacerHead$Spindle", "copyFrom", "(LPlacerHead$Spindle;)V"⟩, 8)
theorem lw_qm36 : lw_q36 ∈ lw_privs := (List.mem_append_right _ (List.mem_append_right _ (List.mem_append_left _ (List.mem_of_getElem? (i := 4) rfl))))
def lw_q37 : MethodName × Nat := (⟨"PlacerHead$Kinds", "copyFrom", "(LPlacerHead$Kinds;)V"⟩, 7)
theorem lw_qm37 : lw_q37 ∈ lw_privs := (List.mem_append_right _ (List.mem_append_right _ (List.mem_append_left _ (List.mem_of_getElem? (i := 5) rfl))))
def lw_q38 : MethodName × Nat := (⟨"PlacerHead$Feeder", "copyFrom", "(LPlacerHead$Feeder;)V"⟩, 9)
theorem lw_qm38 : lw_q38 ∈ lw_privs := (List.mem_append_right _ (List.mem_append_right _ (List.mem_append_left _ (List.mem_of_getElem? (i := 6) rfl))))
def lw_q39 : MethodName × Nat := (⟨"PlacerHead$Board", "copyFrom", "(LPlacerHead$Board;)V"⟩, 12)
theorem lw_qm39 : lw_q39 ∈ lw_privs := (List.mem_append_right _ (List.mem_append_right _ (List.mem_append_left _ (List.mem_of_getElem? (i := 7) rfl))))
def lw_q40 : MethodName × Nat := (⟨"PlacerHead$Journal", "copyFrom", "(LPlacerHead$Journal;)V"⟩, 9)
theorem lw_qm40 : lw_q40 ∈ lw_privs := (List.mem_append_right _ (List.mem_append_right _ (List.mem_append_left _ (List.mem_of_getElem? (i := 8) rfl))))
def lw_q42 : MethodName × Nat := (⟨"PlacerHead$Machine", "perform", "(III)I"⟩, 16)
theorem lw_qm42 : lw_q42 ∈ lw_privs := (List.mem_append_right _ (List.mem_append_right _ (List.mem_append_left _ (List.mem_of_getElem? (i := 10) rfl))))
def lw_q64 : MethodName × Nat := (⟨"PlacerHead$Plan", "next", "()Z"⟩, 4)
theorem lw_qm64 : lw_q64 ∈ lw_privs := (List.mem_append_right _ (List.mem_append_right _ (List.mem_append_right _ (List.mem_append_right _ (List.mem_append_left _ (List.mem_of_getElem? (i := 0) rfl))))))
def lw_q65 : MethodName × Nat := (⟨"PlacerHead$Board", "fillable", "()J"⟩, 12)
theorem lw_qm65 : lw_q65 ∈ lw_privs := (List.mem_append_right _ (List.mem_append_right _ (List.mem_append_right _ (List.mem_append_right _ (List.mem_append_left _ (List.mem_of_getElem? (i := 1) rfl))))))
def lw_q66 : MethodName × Nat := (⟨"PlacerHead$Plan", "findLoad", "(J)Z"⟩, 4)
theorem lw_qm66 : lw_q66 ∈ lw_privs := (List.mem_append_right _ (List.mem_append_right _ (List.mem_append_right _ (List.mem_append_right _ (List.mem_append_left _ (List.mem_of_getElem? (i := 2) rfl))))))
def lw_q67 : MethodName × Nat := (⟨"PlacerHead$Plan", "kindsToLoad", "(J)I"⟩, 4)
theorem lw_qm67 : lw_q67 ∈ lw_privs := (List.mem_append_right _ (List.mem_append_right _ (List.mem_append_right _ (List.mem_append_right _ (List.mem_append_left _ (List.mem_of_getElem? (i := 3) rfl))))))
def lw_q68 : MethodName × Nat := (⟨"PlacerHead$Plan", "findLoadOf", "(II)Z"⟩, 4)
theorem lw_qm68 : lw_q68 ∈ lw_privs := (List.mem_append_right _ (List.mem_append_right _ (List.mem_append_right _ (List.mem_append_right _ (List.mem_append_left _ (List.mem_of_getElem? (i := 4) rfl))))))
def lw_q69 : MethodName × Nat := (⟨"PlacerHead$Plan", "decide", "(III)Z"⟩, 4)
theorem lw_qm69 : lw_q69 ∈ lw_privs := (List.mem_append_right _ (List.mem_append_right _ (List.mem_append_right _ (List.mem_append_right _ (List.mem_append_left _ (List.mem_of_getElem? (i := 5) rfl))))))
def lw_q70 : MethodName × Nat := (⟨"PlacerHead$Machine", "nearestWith", "(I)I"⟩, 16)
theorem lw_qm70 : lw_q70 ∈ lw_privs := (List.mem_append_right _ (List.mem_append_right _ (List.mem_append_right _ (List.mem_append_right _ (List.mem_append_left _ (List.mem_of_getElem? (i := 6) rfl))))))
def lw_q71 : MethodName × Nat := (⟨"PlacerHead$Plan", "findLook", "()Z"⟩, 4)
theorem lw_qm71 : lw_q71 ∈ lw_privs := (List.mem_append_right _ (List.mem_append_right _ (List.mem_append_right _ (List.mem_append_right _ (List.mem_append_left _ (List.mem_of_getElem? (i := 7) rfl))))))
def lw_q72 : MethodName × Nat := (⟨"PlacerHead$Plan", "findPlace", "(J)Z"⟩, 4)
theorem lw_qm72 : lw_q72 ∈ lw_privs := (List.mem_append_right _ (List.mem_append_right _ (List.mem_append_right _ (List.mem_append_right _ (List.mem_append_left _ (List.mem_of_getElem? (i := 8) rfl))))))
def lw_q73 : MethodName × Nat := (⟨"PlacerHead$Plan", "nearestSpot", "(J)I"⟩, 4)
theorem lw_qm73 : lw_q73 ∈ lw_privs := (List.mem_append_right _ (List.mem_append_right _ (List.mem_append_right _ (List.mem_append_right _ (List.mem_append_left _ (List.mem_of_getElem? (i := 9) rfl))))))
theorem ts_0 : Cond.selects (yX6_clear).cls yX6_clear yX6_clear ∈ TBL := inT (List.mem_append_left _ (List.mem_map.mpr ⟨lw_q0, lw_qm0, rfl⟩)) rfl
theorem ts_1 : Cond.selects (yX8_clear).cls yX8_clear yX8_clear ∈ TBL := inT (List.mem_append_left _ (List.mem_map.mpr ⟨lw_q1, lw_qm1, rfl⟩)) rfl
theorem ts_11 : Cond.selects (yX1_readMachine).cls yX1_readMachine yX1_readMachine ∈ TBL := inT (List.mem_append_left _ (List.mem_map.mpr ⟨lw_q11, lw_qm11, rfl⟩)) rfl
theorem ts_12 : Cond.selects (yX1_readWord).cls yX1_readWord yX1_readWord ∈ TBL := inT (List.mem_append_left _ (List.mem_map.mpr ⟨lw_q12, lw_qm12, rfl⟩)) rfl
theorem ts_13 : Cond.selects (yX1_isAtEnd).cls yX1_isAtEnd yX1_isAtEnd ∈ TBL := inT (List.mem_append_left _ (List.mem_map.mpr ⟨lw_q13, lw_qm13, rfl⟩)) rfl
theorem ts_14 : Cond.selects (yX1_isWord).cls yX1_isWord yX1_isWord ∈ TBL := inT (List.mem_append_left _ (List.mem_map.mpr ⟨lw_q14, lw_qm14, rfl⟩)) rfl
theorem ts_15 : Cond.selects (yX1_fail).cls yX1_fail yX1_fail ∈ TBL := inT (List.mem_append_left _ (List.mem_map.mpr ⟨lw_q15, lw_qm15, rfl⟩)) rfl
theorem ts_16 : Cond.selects (yX1_readNumber).cls yX1_readNumber yX1_readNumber ∈ TBL := inT (List.mem_append_left _ (List.mem_map.mpr ⟨lw_q16, lw_qm16, rfl⟩)) rfl
theorem ts_17 : Cond.selects (yX1_isAtDigit).cls yX1_isAtDigit yX1_isAtDigit ∈ TBL := inT (List.mem_append_left _ (List.mem_map.mpr ⟨lw_q17, lw_qm17, rfl⟩)) rfl
theorem ts_18 : Cond.selects (yX1_readSettings).cls yX1_readSettings yX1_readSettings ∈ TBL := inT (List.mem_append_left _ (List.mem_map.mpr ⟨lw_q18, lw_qm18, rfl⟩)) rfl
theorem ts_19 : Cond.selects (yX1_readSemicolon).cls yX1_readSemicolon yX1_readSemicolon ∈ TBL := inT (List.mem_append_left _ (List.mem_map.mpr ⟨lw_q19, lw_qm19, rfl⟩)) rfl
theorem ts_20 : Cond.selects (yX1_readStatement).cls yX1_readStatement yX1_readStatement ∈ TBL := inT (List.mem_append_left _ (List.mem_map.mpr ⟨lw_q20, lw_qm20, rfl⟩)) rfl
theorem ts_21 : Cond.selects (yX1_readNozzles).cls yX1_readNozzles yX1_readNozzles ∈ TBL := inT (List.mem_append_left _ (List.mem_map.mpr ⟨lw_q21, lw_qm21, rfl⟩)) rfl
theorem ts_22 : Cond.selects (yX6_addType).cls yX6_addType yX6_addType ∈ TBL := inT (List.mem_append_left _ (List.mem_map.mpr ⟨lw_q22, lw_qm22, rfl⟩)) rfl
theorem ts_23 : Cond.selects (yX1_readKind).cls yX1_readKind yX1_readKind ∈ TBL := inT (List.mem_append_left _ (List.mem_map.mpr ⟨lw_q23, lw_qm23, rfl⟩)) rfl
theorem ts_24 : Cond.selects (yX5_add).cls yX5_add yX5_add ∈ TBL := inT (List.mem_append_left _ (List.mem_map.mpr ⟨lw_q24, lw_qm24, rfl⟩)) rfl
theorem ts_25 : Cond.selects (yX1_readFeeder).cls yX1_readFeeder yX1_readFeeder ∈ TBL := inT (List.mem_append_left _ (List.mem_map.mpr ⟨lw_q25, lw_qm25, rfl⟩)) rfl
theorem ts_26 : Cond.selects (yX6_addFeeder).cls yX6_addFeeder yX6_addFeeder ∈ TBL := inT (List.mem_append_left _ (List.mem_map.mpr ⟨lw_q26, lw_qm26, rfl⟩)) rfl
theorem ts_28 : Cond.selects (yX1_readSpot).cls yX1_readSpot yX1_readSpot ∈ TBL := inT (List.mem_append_left _ (List.mem_map.mpr ⟨lw_q28, lw_qm28, rfl⟩)) rfl
theorem ts_29 : Cond.selects (yX0_addSpot).cls yX0_addSpot yX0_addSpot ∈ TBL := inT (List.mem_append_left _ (List.mem_map.mpr ⟨lw_q29, lw_qm29, rfl⟩)) rfl
theorem ts_3 : Cond.selects (yX5_clear).cls yX5_clear yX5_clear ∈ TBL := inT (List.mem_append_left _ (List.mem_map.mpr ⟨lw_q3, lw_qm3, rfl⟩)) rfl
theorem ts_30 : Cond.selects (yX1_readBefore).cls yX1_readBefore yX1_readBefore ∈ TBL := inT (List.mem_append_left _ (List.mem_map.mpr ⟨lw_q30, lw_qm30, rfl⟩)) rfl
theorem ts_31 : Cond.selects (yX0_wouldCircle).cls yX0_wouldCircle yX0_wouldCircle ∈ TBL := inT (List.mem_append_left _ (List.mem_map.mpr ⟨lw_q31, lw_qm31, rfl⟩)) rfl
theorem ts_33 : Cond.selects (yX0_pairIndex).cls yX0_pairIndex yX0_pairIndex ∈ TBL := inT (List.mem_append_left _ (List.mem_map.mpr ⟨lw_q33, lw_qm33, rfl⟩)) rfl
theorem ts_34 : Cond.selects (yX0_addPair).cls yX0_addPair yX0_addPair ∈ TBL := inT (List.mem_append_left _ (List.mem_map.mpr ⟨lw_q34, lw_qm34, rfl⟩)) rfl
theorem ts_35 : Cond.selects (yX6_copyFrom).cls yX6_copyFrom yX6_copyFrom ∈ TBL := inT (List.mem_append_left _ (List.mem_map.mpr ⟨lw_q35, lw_qm35, rfl⟩)) rfl
theorem ts_36 : Cond.selects (yX8_copyFrom).cls yX8_copyFrom yX8_copyFrom ∈ TBL := inT (List.mem_append_left _ (List.mem_map.mpr ⟨lw_q36, lw_qm36, rfl⟩)) rfl
theorem ts_37 : Cond.selects (yX5_copyFrom).cls yX5_copyFrom yX5_copyFrom ∈ TBL := inT (List.mem_append_left _ (List.mem_map.mpr ⟨lw_q37, lw_qm37, rfl⟩)) rfl
theorem ts_38 : Cond.selects (yX2_copyFrom).cls yX2_copyFrom yX2_copyFrom ∈ TBL := inT (List.mem_append_left _ (List.mem_map.mpr ⟨lw_q38, lw_qm38, rfl⟩)) rfl
theorem ts_39 : Cond.selects (yX0_copyFrom).cls yX0_copyFrom yX0_copyFrom ∈ TBL := inT (List.mem_append_left _ (List.mem_map.mpr ⟨lw_q39, lw_qm39, rfl⟩)) rfl
theorem ts_4 : Cond.selects (yX0_clear).cls yX0_clear yX0_clear ∈ TBL := inT (List.mem_append_left _ (List.mem_map.mpr ⟨lw_q4, lw_qm4, rfl⟩)) rfl
theorem ts_40 : Cond.selects (yX4_copyFrom).cls yX4_copyFrom yX4_copyFrom ∈ TBL := inT (List.mem_append_left _ (List.mem_map.mpr ⟨lw_q40, lw_qm40, rfl⟩)) rfl
theorem ts_42 : Cond.selects (yX6_perform).cls yX6_perform yX6_perform ∈ TBL := inT (List.mem_append_left _ (List.mem_map.mpr ⟨lw_q42, lw_qm42, rfl⟩)) rfl
theorem ts_5 : Cond.selects (yX4_clear).cls yX4_clear yX4_clear ∈ TBL := inT (List.mem_append_left _ (List.mem_map.mpr ⟨lw_q5, lw_qm5, rfl⟩)) rfl
theorem ts_64 : Cond.selects (yX7_next).cls yX7_next yX7_next ∈ TBL := inT (List.mem_append_left _ (List.mem_map.mpr ⟨lw_q64, lw_qm64, rfl⟩)) rfl
theorem ts_65 : Cond.selects (yX0_fillable).cls yX0_fillable yX0_fillable ∈ TBL := inT (List.mem_append_left _ (List.mem_map.mpr ⟨lw_q65, lw_qm65, rfl⟩)) rfl
theorem ts_66 : Cond.selects (yX7_findLoad).cls yX7_findLoad yX7_findLoad ∈ TBL := inT (List.mem_append_left _ (List.mem_map.mpr ⟨lw_q66, lw_qm66, rfl⟩)) rfl
theorem ts_67 : Cond.selects (yX7_kindsToLoad).cls yX7_kindsToLoad yX7_kindsToLoad ∈ TBL := inT (List.mem_append_left _ (List.mem_map.mpr ⟨lw_q67, lw_qm67, rfl⟩)) rfl
theorem ts_68 : Cond.selects (yX7_findLoadOf).cls yX7_findLoadOf yX7_findLoadOf ∈ TBL := inT (List.mem_append_left _ (List.mem_map.mpr ⟨lw_q68, lw_qm68, rfl⟩)) rfl
theorem ts_69 : Cond.selects (yX7_decide).cls yX7_decide yX7_decide ∈ TBL := inT (List.mem_append_left _ (List.mem_map.mpr ⟨lw_q69, lw_qm69, rfl⟩)) rfl
theorem ts_70 : Cond.selects (yX6_nearestWith).cls yX6_nearestWith yX6_nearestWith ∈ TBL := inT (List.mem_append_left _ (List.mem_map.mpr ⟨lw_q70, lw_qm70, rfl⟩)) rfl
theorem ts_71 : Cond.selects (yX7_findLook).cls yX7_findLook yX7_findLook ∈ TBL := inT (List.mem_append_left _ (List.mem_map.mpr ⟨lw_q71, lw_qm71, rfl⟩)) rfl
theorem ts_72 : Cond.selects (yX7_findPlace).cls yX7_findPlace yX7_findPlace ∈ TBL := inT (List.mem_append_left _ (List.mem_map.mpr ⟨lw_q72, lw_qm72, rfl⟩)) rfl
theorem ts_73 : Cond.selects (yX7_nearestSpot).cls yX7_nearestSpot yX7_nearestSpot ∈ TBL := inT (List.mem_append_left _ (List.mem_map.mpr ⟨lw_q73, lw_qm73, rfl⟩)) rfl
theorem tw_1_10 : (Jvm.Cond.initialized "PlacerHead$Plan") ∈ TBL := inTb (tb1 (List.mem_of_getElem? (i := 10) rfl)) rfl
theorem tw_1_102 : (Jvm.Cond.fieldLinkNest "PlacerHead$Plan" (143 : Nat) "PlacerHead$Board" "x" "[I" "PlacerHead") ∈ lw_tbl := List.mem_append_right _ (tb1 (List.mem_of_getElem? (i := 102) rfl))
theorem tw_1_105 : (Jvm.Cond.fieldLinkNest "PlacerHead$Plan" (146 : Nat) "PlacerHead$Board" "y" "[I" "PlacerHead") ∈ lw_tbl := List.mem_append_right _ (tb1 (List.mem_of_getElem? (i := 105) rfl))
theorem tw_1_110 : (Jvm.Cond.fieldLinkNest "PlacerHead$Plan" (91 : Nat) "PlacerHead$Board" "ofKind" "[J" "PlacerHead") ∈ lw_tbl := List.mem_append_right _ (tb1 (List.mem_of_getElem? (i := 110) rfl))
theorem tw_1_117 : (Jvm.Cond.fieldLinkNest "PlacerHead$Description" (180 : Nat) "PlacerHead$Board" "pairs" "I" "PlacerHead") ∈ lw_tbl := List.mem_append_right _ (tb1 (List.mem_of_getElem? (i := 117) rfl))
theorem tw_1_12 : (Jvm.Cond.initialized "PlacerHead$Description") ∈ TBL := inTb (tb1 (List.mem_of_getElem? (i := 12) rfl)) rfl
theorem tw_1_15 : (Jvm.Cond.initialized "java/lang/String") ∈ TBL := inTb (tb1 (List.mem_of_getElem? (i := 15) rfl)) rfl
theorem tw_1_158 : (Jvm.Cond.fieldLink "PlacerHead$Journal" (21 : Nat) "PlacerHead$Journal" "times" "[I") ∈ TBL := inTb (tb1 (List.mem_of_getElem? (i := 158) rfl)) rfl
theorem tw_1_161 : (Jvm.Cond.fieldLink "PlacerHead$Journal" (24 : Nat) "PlacerHead$Journal" "spent" "[I") ∈ TBL := inTb (tb1 (List.mem_of_getElem? (i := 161) rfl)) rfl
theorem tw_1_164 : (Jvm.Cond.fieldLink "PlacerHead$Journal" (40 : Nat) "PlacerHead$Journal" "goodLooks" "I") ∈ TBL := inTb (tb1 (List.mem_of_getElem? (i := 164) rfl)) rfl
theorem tw_1_166 : (Jvm.Cond.fieldLink "PlacerHead$Journal" (43 : Nat) "PlacerHead$Journal" "splices" "I") ∈ TBL := inTb (tb1 (List.mem_of_getElem? (i := 166) rfl)) rfl
theorem tw_1_19 : (Jvm.Cond.initialized "jdk/internal/util/Preconditions") ∈ TBL := inTb (tb1 (List.mem_of_getElem? (i := 19) rfl)) rfl
theorem tw_1_194 : (Jvm.Cond.fieldLinkNest "PlacerHead$Plan" (120 : Nat) "PlacerHead$Spindle" "nozzle" "I" "PlacerHead") ∈ lw_tbl := List.mem_append_right _ (tb1 (List.mem_of_getElem? (i := 194) rfl))
theorem tw_1_198 : (Jvm.Cond.fieldLinkNest "PlacerHead$Plan" (70 : Nat) "PlacerHead$Spindle" "held" "I" "PlacerHead") ∈ lw_tbl := List.mem_append_right _ (tb1 (List.mem_of_getElem? (i := 198) rfl))
theorem tw_1_20 : (Jvm.Cond.initialized "java/lang/StringLatin1") ∈ TBL := inTb (tb1 (List.mem_of_getElem? (i := 20) rfl)) rfl
theorem tw_1_202 : (Jvm.Cond.fieldLinkNest "PlacerHead$Plan" (136 : Nat) "PlacerHead$Spindle" "ready" "Z" "PlacerHead") ∈ lw_tbl := List.mem_append_right _ (tb1 (List.mem_of_getElem? (i := 202) rfl))
theorem tw_1_239 : (Jvm.Cond.fieldLinkNest "PlacerHead$Plan" (86 : Nat) "PlacerHead$Feeder" "kind" "I" "PlacerHead") ∈ lw_tbl := List.mem_append_right _ (tb1 (List.mem_of_getElem? (i := 239) rfl))
theorem tw_1_3 : (Jvm.Cond.initialized "PlacerHead$Kinds") ∈ TBL := inTb (tb1 (List.mem_of_getElem? (i := 3) rfl)) rfl
theorem tw_1_53 : (Jvm.Cond.fieldLinkNest "PlacerHead$Plan" (117 : Nat) "PlacerHead$Kinds" "size" "I" "PlacerHead") ∈ lw_tbl := List.mem_append_right _ (tb1 (List.mem_of_getElem? (i := 53) rfl))
theorem tw_1_54 : (Jvm.Cond.fieldLinkNest "PlacerHead$Description" (154 : Nat) "PlacerHead$Kinds" "size" "I" "PlacerHead") ∈ lw_tbl := List.mem_append_right _ (tb1 (List.mem_of_getElem? (i := 54) rfl))
theorem tw_1_56 : (Jvm.Cond.fieldLinkNest "PlacerHead$Plan" (111 : Nat) "PlacerHead$Kinds" "nozzle" "[I" "PlacerHead") ∈ lw_tbl := List.mem_append_right _ (tb1 (List.mem_of_getElem? (i := 56) rfl))
theorem tw_1_58 : (Jvm.Cond.fieldLink "PlacerHead$Kinds" (15 : Nat) "PlacerHead$Kinds" "came" "[I") ∈ TBL := inTb (tb1 (List.mem_of_getElem? (i := 58) rfl)) rfl
theorem tw_1_61 : (Jvm.Cond.fieldLink "PlacerHead$Kinds" (18 : Nat) "PlacerHead$Kinds" "placed" "[I") ∈ TBL := inTb (tb1 (List.mem_of_getElem? (i := 61) rfl)) rfl
theorem tw_1_63 : (Jvm.Cond.fieldLink "PlacerHead$Kinds" (21 : Nat) "PlacerHead$Kinds" "rejected" "[I") ∈ TBL := inTb (tb1 (List.mem_of_getElem? (i := 63) rfl)) rfl
theorem tw_1_65 : (Jvm.Cond.fieldLink "PlacerHead$Kinds" (24 : Nat) "PlacerHead$Kinds" "lost" "[I") ∈ TBL := inTb (tb1 (List.mem_of_getElem? (i := 65) rfl)) rfl
theorem tw_1_67 : (Jvm.Cond.fieldLink "PlacerHead$Kinds" (27 : Nat) "PlacerHead$Kinds" "away" "[I") ∈ TBL := inTb (tb1 (List.mem_of_getElem? (i := 67) rfl)) rfl
theorem tw_1_9 : (Jvm.Cond.initialized "java/util/Arrays") ∈ TBL := inTb (tb1 (List.mem_of_getElem? (i := 9) rfl)) rfl
theorem tw_1_97 : (Jvm.Cond.fieldLinkNest "PlacerHead$Plan" (142 : Nat) "PlacerHead$Board" "size" "I" "PlacerHead") ∈ lw_tbl := List.mem_append_right _ (tb1 (List.mem_of_getElem? (i := 97) rfl))
theorem tw_1_98 : (Jvm.Cond.fieldLinkNest "PlacerHead$Description" (173 : Nat) "PlacerHead$Board" "size" "I" "PlacerHead") ∈ lw_tbl := List.mem_append_right _ (tb1 (List.mem_of_getElem? (i := 98) rfl))
theorem tw_2_100 : (Jvm.Cond.fieldLinkNest "PlacerHead$Forecast" (59 : Nat) "PlacerHead$Machine" "feeders" "[LPlacerHead$Feeder;" "PlacerHead") ∈ lw_tbl := List.mem_append_right _ (tb2 (List.mem_of_getElem? (i := 100) rfl))
theorem tw_2_101 : (Jvm.Cond.fieldLinkNest "PlacerHead$Plan" (82 : Nat) "PlacerHead$Machine" "feeders" "[LPlacerHead$Feeder;" "PlacerHead") ∈ lw_tbl := List.mem_append_right _ (tb2 (List.mem_of_getElem? (i := 101) rfl))
theorem tw_2_104 : (Jvm.Cond.fieldLinkNest "PlacerHead$Plan" (21 : Nat) "PlacerHead$Machine" "board" "LPlacerHead$Board;" "PlacerHead") ∈ lw_tbl := List.mem_append_right _ (tb2 (List.mem_of_getElem? (i := 104) rfl))
theorem tw_2_106 : (Jvm.Cond.fieldLinkNest "PlacerHead$Description" (169 : Nat) "PlacerHead$Machine" "board" "LPlacerHead$Board;" "PlacerHead") ∈ lw_tbl := List.mem_append_right _ (tb2 (List.mem_of_getElem? (i := 106) rfl))
theorem tw_2_107 : (Jvm.Cond.fieldLink "PlacerHead$Machine" (78 : Nat) "PlacerHead$Machine" "boardsBegun" "I") ∈ TBL := inTb (tb2 (List.mem_of_getElem? (i := 107) rfl)) rfl
theorem tw_2_11 : (Jvm.Cond.fieldLinkNest "PlacerHead$Forecast" (68 : Nat) "PlacerHead$Feeder" "waiting" "I" "PlacerHead") ∈ lw_tbl := List.mem_append_right _ (tb2 (List.mem_of_getElem? (i := 11) rfl))
theorem tw_2_116 : (Jvm.Cond.fieldLinkNest "PlacerHead$Forecast" (53 : Nat) "PlacerHead$Machine" "time" "I" "PlacerHead") ∈ lw_tbl := List.mem_append_right _ (tb2 (List.mem_of_getElem? (i := 116) rfl))
theorem tw_2_120 : (Jvm.Cond.fieldLinkNest "PlacerHead$Plan" (15 : Nat) "PlacerHead$Machine" "halted" "Z" "PlacerHead") ∈ lw_tbl := List.mem_append_right _ (tb2 (List.mem_of_getElem? (i := 120) rfl))
theorem tw_2_162 : (Jvm.Cond.fieldLink "PlacerHead$Plan" (9 : Nat) "PlacerHead$Plan" "machine" "LPlacerHead$Machine;") ∈ TBL := inTb (tb2 (List.mem_of_getElem? (i := 162) rfl)) rfl
theorem tw_2_163 : (Jvm.Cond.fieldLink "PlacerHead$Plan" (45 : Nat) "PlacerHead$Plan" "action" "I") ∈ TBL := inTb (tb2 (List.mem_of_getElem? (i := 163) rfl)) rfl
theorem tw_2_164 : (Jvm.Cond.fieldLinkNest "PlacerHead$Forecast" (40 : Nat) "PlacerHead$Plan" "action" "I" "PlacerHead") ∈ lw_tbl := List.mem_append_right _ (tb2 (List.mem_of_getElem? (i := 164) rfl))
theorem tw_2_166 : (Jvm.Cond.fieldLink "PlacerHead$Plan" (49 : Nat) "PlacerHead$Plan" "spindle" "I") ∈ TBL := inTb (tb2 (List.mem_of_getElem? (i := 166) rfl)) rfl
theorem tw_2_167 : (Jvm.Cond.fieldLinkNest "PlacerHead$Forecast" (43 : Nat) "PlacerHead$Plan" "spindle" "I" "PlacerHead") ∈ lw_tbl := List.mem_append_right _ (tb2 (List.mem_of_getElem? (i := 167) rfl))
theorem tw_2_169 : (Jvm.Cond.fieldLink "PlacerHead$Plan" (52 : Nat) "PlacerHead$Plan" "target" "I") ∈ TBL := inTb (tb2 (List.mem_of_getElem? (i := 169) rfl)) rfl
theorem tw_2_170 : (Jvm.Cond.fieldLinkNest "PlacerHead$Forecast" (46 : Nat) "PlacerHead$Plan" "target" "I" "PlacerHead") ∈ lw_tbl := List.mem_append_right _ (tb2 (List.mem_of_getElem? (i := 170) rfl))
theorem tw_2_189 : (Jvm.Cond.fieldLink "PlacerHead$Forecast" (9 : Nat) "PlacerHead$Forecast" "present" "LPlacerHead$Machine;") ∈ TBL := inTb (tb2 (List.mem_of_getElem? (i := 189) rfl)) rfl
theorem tw_2_190 : (Jvm.Cond.fieldLink "PlacerHead$Forecast" (15 : Nat) "PlacerHead$Forecast" "ahead" "LPlacerHead$Machine;") ∈ TBL := inTb (tb2 (List.mem_of_getElem? (i := 190) rfl)) rfl
theorem tw_2_191 : (Jvm.Cond.fieldLink "PlacerHead$Forecast" (23 : Nat) "PlacerHead$Forecast" "plan" "LPlacerHead$Plan;") ∈ TBL := inTb (tb2 (List.mem_of_getElem? (i := 191) rfl)) rfl
theorem tw_2_192 : (Jvm.Cond.fieldLink "PlacerHead$Forecast" (32 : Nat) "PlacerHead$Forecast" "actions" "I") ∈ TBL := inTb (tb2 (List.mem_of_getElem? (i := 192) rfl)) rfl
theorem tw_2_194 : (Jvm.Cond.fieldLink "PlacerHead$Forecast" (56 : Nat) "PlacerHead$Forecast" "end" "I") ∈ TBL := inTb (tb2 (List.mem_of_getElem? (i := 194) rfl)) rfl
theorem tw_2_213 : (Jvm.Cond.fieldLink "PlacerHead$Description" (9 : Nat) "PlacerHead$Description" "text" "[B") ∈ TBL := inTb (tb2 (List.mem_of_getElem? (i := 213) rfl)) rfl
theorem tw_2_214 : (Jvm.Cond.fieldLink "PlacerHead$Description" (15 : Nat) "PlacerHead$Description" "machine" "LPlacerHead$Machine;") ∈ TBL := inTb (tb2 (List.mem_of_getElem? (i := 214) rfl)) rfl
theorem tw_2_215 : (Jvm.Cond.fieldLink "PlacerHead$Description" (25 : Nat) "PlacerHead$Description" "length" "I") ∈ TBL := inTb (tb2 (List.mem_of_getElem? (i := 215) rfl)) rfl
theorem tw_2_216 : (Jvm.Cond.fieldLink "PlacerHead$Description" (29 : Nat) "PlacerHead$Description" "at" "I") ∈ TBL := inTb (tb2 (List.mem_of_getElem? (i := 216) rfl)) rfl
theorem tw_2_217 : (Jvm.Cond.fieldLink "PlacerHead$Description" (60 : Nat) "PlacerHead$Description" "wordAt" "I") ∈ TBL := inTb (tb2 (List.mem_of_getElem? (i := 217) rfl)) rfl
theorem tw_2_218 : (Jvm.Cond.fieldLink "PlacerHead$Description" (72 : Nat) "PlacerHead$Description" "numberAt" "I") ∈ TBL := inTb (tb2 (List.mem_of_getElem? (i := 218) rfl)) rfl
theorem tw_2_219 : (Jvm.Cond.fieldLink "PlacerHead$Description" (32 : Nat) "PlacerHead$Description" "error" "I") ∈ TBL := inTb (tb2 (List.mem_of_getElem? (i := 219) rfl)) rfl
theorem tw_2_221 : (Jvm.Cond.fieldLink "PlacerHead$Description" (35 : Nat) "PlacerHead$Description" "errorAt" "I") ∈ TBL := inTb (tb2 (List.mem_of_getElem? (i := 221) rfl)) rfl
theorem tw_2_4 : (Jvm.Cond.fieldLinkNest "PlacerHead$Forecast" (63 : Nat) "PlacerHead$Feeder" "parts" "I" "PlacerHead") ∈ lw_tbl := List.mem_append_right _ (tb2 (List.mem_of_getElem? (i := 4) rfl))
theorem tw_2_41 : (Jvm.Cond.instanceMethod ({ cls := "PlacerHead$Machine", name := "clear", desc := "()V" } : Jvm.MethodName)) ∈ TBL := inTb (tb2 (List.mem_of_getElem? (i := 41) rfl)) rfl
theorem tw_2_42 : (Jvm.Cond.code ({ cls := "PlacerHead$Machine", name := "clear", desc := "()V" } : Jvm.MethodName) prog_8_method_2_code (2 : Nat) (Option.none : Option Jvm.ClassFile.FieldType)) ∈ TBL := inTb (tb2 (List.mem_of_getElem? (i := 42) rfl)) rfl
theorem tw_2_43 : (Jvm.Cond.fieldLinkNest "PlacerHead$Machine" (56 : Nat) "PlacerHead" "DEFAULTS" "[I" "PlacerHead") ∈ lw_tbl := List.mem_append_right _ (tb2 (List.mem_of_getElem? (i := 43) rfl))
theorem tw_2_45 : (Jvm.Cond.methodLink "PlacerHead$Machine" (59 : Nat) ({ cls := "java/lang/System", name := "arraycopy", desc := "(Ljava/lang/Object;ILjava/lang/Object;II)V" } : Jvm.MethodName)) ∈ TBL := inTb (tb2 (List.mem_of_getElem? (i := 45) rfl)) rfl
theorem tw_2_48 : (Jvm.Cond.methodLinkNest "PlacerHead$Machine" (69 : Nat) ({ cls := "PlacerHead$Spindle", name := "clear", desc := "()V" } : Jvm.MethodName) "PlacerHead") ∈ lw_tbl := List.mem_append_right _ (tb2 (List.mem_of_getElem? (i := 48) rfl))
theorem tw_2_50 : (Jvm.Cond.instanceMethod ({ cls := "PlacerHead$Spindle", name := "clear", desc := "()V" } : Jvm.MethodName)) ∈ TBL := inTb (tb2 (List.mem_of_getElem? (i := 50) rfl)) rfl
theorem tw_2_51 : (Jvm.Cond.code ({ cls := "PlacerHead$Spindle", name := "clear", desc := "()V" } : Jvm.MethodName) prog_10_method_2_code (1 : Nat) (Option.none : Option Jvm.ClassFile.FieldType)) ∈ TBL := inTb (tb2 (List.mem_of_getElem? (i := 51) rfl)) rfl
theorem tw_2_56 : (Jvm.Cond.methodLinkNest "PlacerHead$Machine" (73 : Nat) ({ cls := "PlacerHead$Kinds", name := "clear", desc := "()V" } : Jvm.MethodName) "PlacerHead") ∈ lw_tbl := List.mem_append_right _ (tb2 (List.mem_of_getElem? (i := 56) rfl))
theorem tw_2_58 : (Jvm.Cond.instanceMethod ({ cls := "PlacerHead$Kinds", name := "clear", desc := "()V" } : Jvm.MethodName)) ∈ TBL := inTb (tb2 (List.mem_of_getElem? (i := 58) rfl)) rfl
theorem tw_2_59 : (Jvm.Cond.code ({ cls := "PlacerHead$Kinds", name := "clear", desc := "()V" } : Jvm.MethodName) prog_7_method_2_code (1 : Nat) (Option.none : Option Jvm.ClassFile.FieldType)) ∈ TBL := inTb (tb2 (List.mem_of_getElem? (i := 59) rfl)) rfl
theorem tw_2_6 : (Jvm.Cond.fieldLinkNest "PlacerHead$Plan" (100 : Nat) "PlacerHead$Feeder" "parts" "I" "PlacerHead") ∈ lw_tbl := List.mem_append_right _ (tb2 (List.mem_of_getElem? (i := 6) rfl))
theorem tw_2_60 : (Jvm.Cond.methodLink "PlacerHead$Kinds" (34 : Nat) ({ cls := "java/util/Arrays", name := "fill", desc := "([II)V" } : Jvm.MethodName)) ∈ TBL := inTb (tb2 (List.mem_of_getElem? (i := 60) rfl)) rfl
theorem tw_2_61 : (Jvm.Cond.static ({ cls := "java/util/Arrays", name := "fill", desc := "([II)V" } : Jvm.MethodName)) ∈ TBL := inTb (tb2 (List.mem_of_getElem? (i := 61) rfl)) rfl
theorem tw_2_62 : (Jvm.Cond.code ({ cls := "java/util/Arrays", name := "fill", desc := "([II)V" } : Jvm.MethodName) prog_29_method_103_code (4 : Nat) (Option.none : Option Jvm.ClassFile.FieldType)) ∈ TBL := inTb (tb2 (List.mem_of_getElem? (i := 62) rfl)) rfl
theorem tw_2_63 : (Jvm.Cond.methodLinkNest "PlacerHead$Machine" (77 : Nat) ({ cls := "PlacerHead$Board", name := "clear", desc := "()V" } : Jvm.MethodName) "PlacerHead") ∈ lw_tbl := List.mem_append_right _ (tb2 (List.mem_of_getElem? (i := 63) rfl))
theorem tw_2_65 : (Jvm.Cond.instanceMethod ({ cls := "PlacerHead$Board", name := "clear", desc := "()V" } : Jvm.MethodName)) ∈ TBL := inTb (tb2 (List.mem_of_getElem? (i := 65) rfl)) rfl
theorem tw_2_66 : (Jvm.Cond.code ({ cls := "PlacerHead$Board", name := "clear", desc := "()V" } : Jvm.MethodName) prog_2_method_2_code (1 : Nat) (Option.none : Option Jvm.ClassFile.FieldType)) ∈ TBL := inTb (tb2 (List.mem_of_getElem? (i := 66) rfl)) rfl
theorem tw_2_67 : (Jvm.Cond.methodLink "PlacerHead$Board" (41 : Nat) ({ cls := "java/util/Arrays", name := "fill", desc := "([JJ)V" } : Jvm.MethodName)) ∈ TBL := inTb (tb2 (List.mem_of_getElem? (i := 67) rfl)) rfl
theorem tw_2_68 : (Jvm.Cond.static ({ cls := "java/util/Arrays", name := "fill", desc := "([JJ)V" } : Jvm.MethodName)) ∈ TBL := inTb (tb2 (List.mem_of_getElem? (i := 68) rfl)) rfl
theorem tw_2_69 : (Jvm.Cond.code ({ cls := "java/util/Arrays", name := "fill", desc := "([JJ)V" } : Jvm.MethodName) prog_29_method_101_code (5 : Nat) (Option.none : Option Jvm.ClassFile.FieldType)) ∈ TBL := inTb (tb2 (List.mem_of_getElem? (i := 69) rfl)) rfl
theorem tw_2_70 : (Jvm.Cond.methodLinkNest "PlacerHead$Machine" (81 : Nat) ({ cls := "PlacerHead$Journal", name := "clear", desc := "()V" } : Jvm.MethodName) "PlacerHead") ∈ lw_tbl := List.mem_append_right _ (tb2 (List.mem_of_getElem? (i := 70) rfl))
theorem tw_2_72 : (Jvm.Cond.instanceMethod ({ cls := "PlacerHead$Journal", name := "clear", desc := "()V" } : Jvm.MethodName)) ∈ TBL := inTb (tb2 (List.mem_of_getElem? (i := 72) rfl)) rfl
theorem tw_2_73 : (Jvm.Cond.code ({ cls := "PlacerHead$Journal", name := "clear", desc := "()V" } : Jvm.MethodName) prog_6_method_2_code (1 : Nat) (Option.none : Option Jvm.ClassFile.FieldType)) ∈ TBL := inTb (tb2 (List.mem_of_getElem? (i := 73) rfl)) rfl
theorem tw_2_74 : (Jvm.Cond.methodLink "PlacerHead$Journal" (34 : Nat) ({ cls := "java/util/Arrays", name := "fill", desc := "([II)V" } : Jvm.MethodName)) ∈ TBL := inTb (tb2 (List.mem_of_getElem? (i := 74) rfl)) rfl
theorem tw_2_77 : (Jvm.Cond.fieldLinkNest "PlacerHead$Description" (133 : Nat) "PlacerHead$Machine" "settings" "[I" "PlacerHead") ∈ lw_tbl := List.mem_append_right _ (tb2 (List.mem_of_getElem? (i := 77) rfl))
theorem tw_2_79 : (Jvm.Cond.fieldLinkNest "PlacerHead$Plan" (63 : Nat) "PlacerHead$Machine" "spindleCount" "I" "PlacerHead") ∈ lw_tbl := List.mem_append_right _ (tb2 (List.mem_of_getElem? (i := 79) rfl))
theorem tw_2_81 : (Jvm.Cond.fieldLinkNest "PlacerHead$Description" (90 : Nat) "PlacerHead$Machine" "spindleCount" "I" "PlacerHead") ∈ lw_tbl := List.mem_append_right _ (tb2 (List.mem_of_getElem? (i := 81) rfl))
theorem tw_2_83 : (Jvm.Cond.fieldLinkNest "PlacerHead$Plan" (66 : Nat) "PlacerHead$Machine" "spindles" "[LPlacerHead$Spindle;" "PlacerHead") ∈ lw_tbl := List.mem_append_right _ (tb2 (List.mem_of_getElem? (i := 83) rfl))
theorem tw_2_87 : (Jvm.Cond.fieldLinkNest "PlacerHead$Description" (143 : Nat) "PlacerHead$Machine" "types" "I" "PlacerHead") ∈ lw_tbl := List.mem_append_right _ (tb2 (List.mem_of_getElem? (i := 87) rfl))
theorem tw_2_89 : (Jvm.Cond.fieldLinkNest "PlacerHead$Plan" (133 : Nat) "PlacerHead$Machine" "free" "[I" "PlacerHead") ∈ lw_tbl := List.mem_append_right _ (tb2 (List.mem_of_getElem? (i := 89) rfl))
theorem tw_2_93 : (Jvm.Cond.fieldLinkNest "PlacerHead$Plan" (107 : Nat) "PlacerHead$Machine" "kinds" "LPlacerHead$Kinds;" "PlacerHead") ∈ lw_tbl := List.mem_append_right _ (tb2 (List.mem_of_getElem? (i := 93) rfl))
theorem tw_2_94 : (Jvm.Cond.fieldLinkNest "PlacerHead$Description" (150 : Nat) "PlacerHead$Machine" "kinds" "LPlacerHead$Kinds;" "PlacerHead") ∈ lw_tbl := List.mem_append_right _ (tb2 (List.mem_of_getElem? (i := 94) rfl))
theorem tw_2_97 : (Jvm.Cond.fieldLinkNest "PlacerHead$Plan" (79 : Nat) "PlacerHead$Machine" "feederCount" "I" "PlacerHead") ∈ lw_tbl := List.mem_append_right _ (tb2 (List.mem_of_getElem? (i := 97) rfl))
theorem tw_2_98 : (Jvm.Cond.fieldLinkNest "PlacerHead$Description" (162 : Nat) "PlacerHead$Machine" "feederCount" "I" "PlacerHead") ∈ lw_tbl := List.mem_append_right _ (tb2 (List.mem_of_getElem? (i := 98) rfl))
theorem tw_3_120 : (Jvm.Cond.methodLink "PlacerHead$Description" (19 : Nat) ({ cls := "java/lang/Math", name := "min", desc := "(II)I" } : Jvm.MethodName)) ∈ TBL := inTb (tb3 (List.mem_of_getElem? (i := 120) rfl)) rfl
theorem tw_3_121 : (Jvm.Cond.static ({ cls := "java/lang/Math", name := "min", desc := "(II)I" } : Jvm.MethodName)) ∈ TBL := inTb (tb3 (List.mem_of_getElem? (i := 121) rfl)) rfl
theorem tw_3_122 : (Jvm.Cond.code ({ cls := "java/lang/Math", name := "min", desc := "(II)I" } : Jvm.MethodName) prog_20_method_69_code (2 : Nat) (Option.some Jvm.ClassFile.FieldType.int)) ∈ TBL := inTb (tb3 (List.mem_of_getElem? (i := 122) rfl)) rfl
theorem tw_3_123 : (Jvm.Cond.methodLinkNest "PlacerHead$Description" (38 : Nat) ({ cls := "PlacerHead$Machine", name := "clear", desc := "()V" } : Jvm.MethodName) "PlacerHead") ∈ lw_tbl := List.mem_append_right _ (tb3 (List.mem_of_getElem? (i := 123) rfl))
theorem tw_3_124 : (Jvm.Cond.methodLink "PlacerHead$Description" (43 : Nat) ({ cls := "PlacerHead$Description", name := "readMachine", desc := "()V" } : Jvm.MethodName)) ∈ TBL := inTb (tb3 (List.mem_of_getElem? (i := 124) rfl)) rfl
theorem tw_3_126 : (Jvm.Cond.instanceMethod ({ cls := "PlacerHead$Description", name := "readMachine", desc := "()V" } : Jvm.MethodName)) ∈ TBL := inTb (tb3 (List.mem_of_getElem? (i := 126) rfl)) rfl
theorem tw_3_127 : (Jvm.Cond.code ({ cls := "PlacerHead$Description", name := "readMachine", desc := "()V" } : Jvm.MethodName) prog_3_method_10_code (2 : Nat) (Option.none : Option Jvm.ClassFile.FieldType)) ∈ TBL := inTb (tb3 (List.mem_of_getElem? (i := 127) rfl)) rfl
theorem tw_3_128 : (Jvm.Cond.methodLink "PlacerHead$Description" (79 : Nat) ({ cls := "PlacerHead$Description", name := "readWord", desc := "()V" } : Jvm.MethodName)) ∈ TBL := inTb (tb3 (List.mem_of_getElem? (i := 128) rfl)) rfl
theorem tw_3_130 : (Jvm.Cond.instanceMethod ({ cls := "PlacerHead$Description", name := "readWord", desc := "()V" } : Jvm.MethodName)) ∈ TBL := inTb (tb3 (List.mem_of_getElem? (i := 130) rfl)) rfl
theorem tw_3_131 : (Jvm.Cond.code ({ cls := "PlacerHead$Description", name := "readWord", desc := "()V" } : Jvm.MethodName) prog_3_method_7_code (1 : Nat) (Option.none : Option Jvm.ClassFile.FieldType)) ∈ TBL := inTb (tb3 (List.mem_of_getElem? (i := 131) rfl)) rfl
theorem tw_3_132 : (Jvm.Cond.methodLink "PlacerHead$Description" (46 : Nat) ({ cls := "PlacerHead$Description", name := "isAtEnd", desc := "()Z" } : Jvm.MethodName)) ∈ TBL := inTb (tb3 (List.mem_of_getElem? (i := 132) rfl)) rfl
theorem tw_3_134 : (Jvm.Cond.instanceMethod ({ cls := "PlacerHead$Description", name := "isAtEnd", desc := "()Z" } : Jvm.MethodName)) ∈ TBL := inTb (tb3 (List.mem_of_getElem? (i := 134) rfl)) rfl
theorem tw_3_135 : (Jvm.Cond.code ({ cls := "PlacerHead$Description", name := "isAtEnd", desc := "()Z" } : Jvm.MethodName) prog_3_method_4_code (1 : Nat) (Option.some Jvm.ClassFile.FieldType.boolean)) ∈ TBL := inTb (tb3 (List.mem_of_getElem? (i := 135) rfl)) rfl
theorem tw_3_137 : (Jvm.Cond.methodLink "PlacerHead$Description" (83 : Nat) ({ cls := "PlacerHead$Description", name := "isWord", desc := "(Ljava/lang/String;)Z" } : Jvm.MethodName)) ∈ TBL := inTb (tb3 (List.mem_of_getElem? (i := 137) rfl)) rfl
theorem tw_3_139 : (Jvm.Cond.instanceMethod ({ cls := "PlacerHead$Description", name := "isWord", desc := "(Ljava/lang/String;)Z" } : Jvm.MethodName)) ∈ TBL := inTb (tb3 (List.mem_of_getElem? (i := 139) rfl)) rfl
theorem tw_3_140 : (Jvm.Cond.code ({ cls := "PlacerHead$Description", name := "isWord", desc := "(Ljava/lang/String;)Z" } : Jvm.MethodName) prog_3_method_8_code (3 : Nat) (Option.some Jvm.ClassFile.FieldType.boolean)) ∈ TBL := inTb (tb3 (List.mem_of_getElem? (i := 140) rfl)) rfl
theorem tw_3_141 : (Jvm.Cond.methodLink "PlacerHead$Description" (63 : Nat) ({ cls := "java/lang/String", name := "length", desc := "()I" } : Jvm.MethodName)) ∈ TBL := inTb (tb3 (List.mem_of_getElem? (i := 141) rfl)) rfl
theorem tw_3_142 : (Jvm.Cond.methodLink "PlacerHead$Description" (68 : Nat) ({ cls := "java/lang/String", name := "charAt", desc := "(I)C" } : Jvm.MethodName)) ∈ TBL := inTb (tb3 (List.mem_of_getElem? (i := 142) rfl)) rfl
theorem tw_3_143 : (Jvm.Cond.methodLink "PlacerHead$Description" (56 : Nat) ({ cls := "PlacerHead$Description", name := "fail", desc := "(II)V" } : Jvm.MethodName)) ∈ TBL := inTb (tb3 (List.mem_of_getElem? (i := 143) rfl)) rfl
theorem tw_3_145 : (Jvm.Cond.instanceMethod ({ cls := "PlacerHead$Description", name := "fail", desc := "(II)V" } : Jvm.MethodName)) ∈ TBL := inTb (tb3 (List.mem_of_getElem? (i := 145) rfl)) rfl
theorem tw_3_146 : (Jvm.Cond.code ({ cls := "PlacerHead$Description", name := "fail", desc := "(II)V" } : Jvm.MethodName) prog_3_method_3_code (3 : Nat) (Option.none : Option Jvm.ClassFile.FieldType)) ∈ TBL := inTb (tb3 (List.mem_of_getElem? (i := 146) rfl)) rfl
theorem tw_3_147 : (Jvm.Cond.methodLink "PlacerHead$Description" (87 : Nat) ({ cls := "PlacerHead$Description", name := "readNumber", desc := "(II)I" } : Jvm.MethodName)) ∈ TBL := inTb (tb3 (List.mem_of_getElem? (i := 147) rfl)) rfl
theorem tw_3_149 : (Jvm.Cond.instanceMethod ({ cls := "PlacerHead$Description", name := "readNumber", desc := "(II)I" } : Jvm.MethodName)) ∈ TBL := inTb (tb3 (List.mem_of_getElem? (i := 149) rfl)) rfl
theorem tw_3_150 : (Jvm.Cond.code ({ cls := "PlacerHead$Description", name := "readNumber", desc := "(II)I" } : Jvm.MethodName) prog_3_method_9_code (4 : Nat) (Option.some Jvm.ClassFile.FieldType.int)) ∈ TBL := inTb (tb3 (List.mem_of_getElem? (i := 150) rfl)) rfl
theorem tw_3_151 : (Jvm.Cond.methodLink "PlacerHead$Description" (75 : Nat) ({ cls := "PlacerHead$Description", name := "isAtDigit", desc := "()Z" } : Jvm.MethodName)) ∈ TBL := inTb (tb3 (List.mem_of_getElem? (i := 151) rfl)) rfl
theorem tw_3_153 : (Jvm.Cond.instanceMethod ({ cls := "PlacerHead$Description", name := "isAtDigit", desc := "()Z" } : Jvm.MethodName)) ∈ TBL := inTb (tb3 (List.mem_of_getElem? (i := 153) rfl)) rfl
theorem tw_3_154 : (Jvm.Cond.code ({ cls := "PlacerHead$Description", name := "isAtDigit", desc := "()Z" } : Jvm.MethodName) prog_3_method_5_code (1 : Nat) (Option.some Jvm.ClassFile.FieldType.boolean)) ∈ TBL := inTb (tb3 (List.mem_of_getElem? (i := 154) rfl)) rfl
theorem tw_3_155 : (Jvm.Cond.constant "PlacerHead$Description" (78 : Nat) (1000000 : Int32)) ∈ TBL := inTb (tb3 (List.mem_of_getElem? (i := 155) rfl)) rfl
theorem tw_3_156 : (Jvm.Cond.methodLink "PlacerHead$Description" (93 : Nat) ({ cls := "PlacerHead$Description", name := "readSettings", desc := "(II)V" } : Jvm.MethodName)) ∈ TBL := inTb (tb3 (List.mem_of_getElem? (i := 156) rfl)) rfl
theorem tw_3_158 : (Jvm.Cond.instanceMethod ({ cls := "PlacerHead$Description", name := "readSettings", desc := "(II)V" } : Jvm.MethodName)) ∈ TBL := inTb (tb3 (List.mem_of_getElem? (i := 158) rfl)) rfl
theorem tw_3_159 : (Jvm.Cond.code ({ cls := "PlacerHead$Description", name := "readSettings", desc := "(II)V" } : Jvm.MethodName) prog_3_method_12_code (5 : Nat) (Option.none : Option Jvm.ClassFile.FieldType)) ∈ TBL := inTb (tb3 (List.mem_of_getElem? (i := 159) rfl)) rfl
theorem tw_3_160 : (Jvm.Cond.fieldLinkNest "PlacerHead$Description" (137 : Nat) "PlacerHead" "MOST" "[I" "PlacerHead") ∈ lw_tbl := List.mem_append_right _ (tb3 (List.mem_of_getElem? (i := 160) rfl))
theorem tw_3_162 : (Jvm.Cond.fieldLinkNest "PlacerHead$Description" (140 : Nat) "PlacerHead" "LEAST" "[I" "PlacerHead") ∈ lw_tbl := List.mem_append_right _ (tb3 (List.mem_of_getElem? (i := 162) rfl))
theorem tw_3_164 : (Jvm.Cond.methodLink "PlacerHead$Description" (50 : Nat) ({ cls := "PlacerHead$Description", name := "readSemicolon", desc := "()V" } : Jvm.MethodName)) ∈ TBL := inTb (tb3 (List.mem_of_getElem? (i := 164) rfl)) rfl
theorem tw_3_166 : (Jvm.Cond.instanceMethod ({ cls := "PlacerHead$Description", name := "readSemicolon", desc := "()V" } : Jvm.MethodName)) ∈ TBL := inTb (tb3 (List.mem_of_getElem? (i := 166) rfl)) rfl
theorem tw_3_167 : (Jvm.Cond.code ({ cls := "PlacerHead$Description", name := "readSemicolon", desc := "()V" } : Jvm.MethodName) prog_3_method_6_code (1 : Nat) (Option.none : Option Jvm.ClassFile.FieldType)) ∈ TBL := inTb (tb3 (List.mem_of_getElem? (i := 167) rfl)) rfl
theorem tw_3_168 : (Jvm.Cond.methodLink "PlacerHead$Description" (53 : Nat) ({ cls := "PlacerHead$Description", name := "readStatement", desc := "()V" } : Jvm.MethodName)) ∈ TBL := inTb (tb3 (List.mem_of_getElem? (i := 168) rfl)) rfl
theorem tw_3_170 : (Jvm.Cond.instanceMethod ({ cls := "PlacerHead$Description", name := "readStatement", desc := "()V" } : Jvm.MethodName)) ∈ TBL := inTb (tb3 (List.mem_of_getElem? (i := 170) rfl)) rfl
theorem tw_3_171 : (Jvm.Cond.code ({ cls := "PlacerHead$Description", name := "readStatement", desc := "()V" } : Jvm.MethodName) prog_3_method_11_code (1 : Nat) (Option.none : Option Jvm.ClassFile.FieldType)) ∈ TBL := inTb (tb3 (List.mem_of_getElem? (i := 171) rfl)) rfl
theorem tw_3_179 : (Jvm.Cond.methodLink "PlacerHead$Description" (110 : Nat) ({ cls := "PlacerHead$Description", name := "readNozzles", desc := "()V" } : Jvm.MethodName)) ∈ TBL := inTb (tb3 (List.mem_of_getElem? (i := 179) rfl)) rfl
theorem tw_3_181 : (Jvm.Cond.instanceMethod ({ cls := "PlacerHead$Description", name := "readNozzles", desc := "()V" } : Jvm.MethodName)) ∈ TBL := inTb (tb3 (List.mem_of_getElem? (i := 181) rfl)) rfl
theorem tw_3_182 : (Jvm.Cond.code ({ cls := "PlacerHead$Description", name := "readNozzles", desc := "()V" } : Jvm.MethodName) prog_3_method_13_code (3 : Nat) (Option.none : Option Jvm.ClassFile.FieldType)) ∈ TBL := inTb (tb3 (List.mem_of_getElem? (i := 182) rfl)) rfl
theorem tw_3_183 : (Jvm.Cond.methodLinkNest "PlacerHead$Description" (146 : Nat) ({ cls := "PlacerHead$Machine", name := "addType", desc := "(I)V" } : Jvm.MethodName) "PlacerHead") ∈ lw_tbl := List.mem_append_right _ (tb3 (List.mem_of_getElem? (i := 183) rfl))
theorem tw_3_185 : (Jvm.Cond.instanceMethod ({ cls := "PlacerHead$Machine", name := "addType", desc := "(I)V" } : Jvm.MethodName)) ∈ TBL := inTb (tb3 (List.mem_of_getElem? (i := 185) rfl)) rfl
theorem tw_3_186 : (Jvm.Cond.code ({ cls := "PlacerHead$Machine", name := "addType", desc := "(I)V" } : Jvm.MethodName) prog_8_method_4_code (2 : Nat) (Option.none : Option Jvm.ClassFile.FieldType)) ∈ TBL := inTb (tb3 (List.mem_of_getElem? (i := 186) rfl)) rfl
theorem tw_3_188 : (Jvm.Cond.methodLink "PlacerHead$Description" (115 : Nat) ({ cls := "PlacerHead$Description", name := "readKind", desc := "()V" } : Jvm.MethodName)) ∈ TBL := inTb (tb3 (List.mem_of_getElem? (i := 188) rfl)) rfl
theorem tw_3_190 : (Jvm.Cond.instanceMethod ({ cls := "PlacerHead$Description", name := "readKind", desc := "()V" } : Jvm.MethodName)) ∈ TBL := inTb (tb3 (List.mem_of_getElem? (i := 190) rfl)) rfl
theorem tw_3_191 : (Jvm.Cond.code ({ cls := "PlacerHead$Description", name := "readKind", desc := "()V" } : Jvm.MethodName) prog_3_method_14_code (2 : Nat) (Option.none : Option Jvm.ClassFile.FieldType)) ∈ TBL := inTb (tb3 (List.mem_of_getElem? (i := 191) rfl)) rfl
theorem tw_3_192 : (Jvm.Cond.methodLinkNest "PlacerHead$Description" (159 : Nat) ({ cls := "PlacerHead$Kinds", name := "add", desc := "(I)V" } : Jvm.MethodName) "PlacerHead") ∈ lw_tbl := List.mem_append_right _ (tb3 (List.mem_of_getElem? (i := 192) rfl))
theorem tw_3_194 : (Jvm.Cond.instanceMethod ({ cls := "PlacerHead$Kinds", name := "add", desc := "(I)V" } : Jvm.MethodName)) ∈ TBL := inTb (tb3 (List.mem_of_getElem? (i := 194) rfl)) rfl
theorem tw_3_195 : (Jvm.Cond.code ({ cls := "PlacerHead$Kinds", name := "add", desc := "(I)V" } : Jvm.MethodName) prog_7_method_4_code (2 : Nat) (Option.none : Option Jvm.ClassFile.FieldType)) ∈ TBL := inTb (tb3 (List.mem_of_getElem? (i := 195) rfl)) rfl
theorem tw_3_197 : (Jvm.Cond.methodLink "PlacerHead$Description" (120 : Nat) ({ cls := "PlacerHead$Description", name := "readFeeder", desc := "()V" } : Jvm.MethodName)) ∈ TBL := inTb (tb3 (List.mem_of_getElem? (i := 197) rfl)) rfl
theorem tw_3_199 : (Jvm.Cond.instanceMethod ({ cls := "PlacerHead$Description", name := "readFeeder", desc := "()V" } : Jvm.MethodName)) ∈ TBL := inTb (tb3 (List.mem_of_getElem? (i := 199) rfl)) rfl
theorem tw_3_200 : (Jvm.Cond.code ({ cls := "PlacerHead$Description", name := "readFeeder", desc := "()V" } : Jvm.MethodName) prog_3_method_15_code (5 : Nat) (Option.none : Option Jvm.ClassFile.FieldType)) ∈ TBL := inTb (tb3 (List.mem_of_getElem? (i := 200) rfl)) rfl
theorem tw_3_201 : (Jvm.Cond.methodLinkNest "PlacerHead$Description" (165 : Nat) ({ cls := "PlacerHead$Machine", name := "addFeeder", desc := "(IIII)V" } : Jvm.MethodName) "PlacerHead") ∈ lw_tbl := List.mem_append_right _ (tb3 (List.mem_of_getElem? (i := 201) rfl))
theorem tw_3_203 : (Jvm.Cond.instanceMethod ({ cls := "PlacerHead$Machine", name := "addFeeder", desc := "(IIII)V" } : Jvm.MethodName)) ∈ TBL := inTb (tb3 (List.mem_of_getElem? (i := 203) rfl)) rfl
theorem tw_3_204 : (Jvm.Cond.code ({ cls := "PlacerHead$Machine", name := "addFeeder", desc := "(IIII)V" } : Jvm.MethodName) prog_8_method_5_code (5 : Nat) (Option.none : Option Jvm.ClassFile.FieldType)) ∈ TBL := inTb (tb3 (List.mem_of_getElem? (i := 204) rfl)) rfl
theorem tw_3_210 : (Jvm.Cond.methodLink "PlacerHead$Description" (125 : Nat) ({ cls := "PlacerHead$Description", name := "readSpot", desc := "()V" } : Jvm.MethodName)) ∈ TBL := inTb (tb3 (List.mem_of_getElem? (i := 210) rfl)) rfl
theorem tw_3_212 : (Jvm.Cond.instanceMethod ({ cls := "PlacerHead$Description", name := "readSpot", desc := "()V" } : Jvm.MethodName)) ∈ TBL := inTb (tb3 (List.mem_of_getElem? (i := 212) rfl)) rfl
theorem tw_3_213 : (Jvm.Cond.code ({ cls := "PlacerHead$Description", name := "readSpot", desc := "()V" } : Jvm.MethodName) prog_3_method_16_code (4 : Nat) (Option.none : Option Jvm.ClassFile.FieldType)) ∈ TBL := inTb (tb3 (List.mem_of_getElem? (i := 213) rfl)) rfl
theorem tw_3_214 : (Jvm.Cond.methodLinkNest "PlacerHead$Description" (176 : Nat) ({ cls := "PlacerHead$Board", name := "addSpot", desc := "(III)V" } : Jvm.MethodName) "PlacerHead") ∈ lw_tbl := List.mem_append_right _ (tb3 (List.mem_of_getElem? (i := 214) rfl))
theorem tw_3_216 : (Jvm.Cond.instanceMethod ({ cls := "PlacerHead$Board", name := "addSpot", desc := "(III)V" } : Jvm.MethodName)) ∈ TBL := inTb (tb3 (List.mem_of_getElem? (i := 216) rfl)) rfl
theorem tw_3_217 : (Jvm.Cond.code ({ cls := "PlacerHead$Board", name := "addSpot", desc := "(III)V" } : Jvm.MethodName) prog_2_method_4_code (4 : Nat) (Option.none : Option Jvm.ClassFile.FieldType)) ∈ TBL := inTb (tb3 (List.mem_of_getElem? (i := 217) rfl)) rfl
theorem tw_3_219 : (Jvm.Cond.methodLink "PlacerHead$Description" (130 : Nat) ({ cls := "PlacerHead$Description", name := "readBefore", desc := "()V" } : Jvm.MethodName)) ∈ TBL := inTb (tb3 (List.mem_of_getElem? (i := 219) rfl)) rfl
theorem tw_3_221 : (Jvm.Cond.instanceMethod ({ cls := "PlacerHead$Description", name := "readBefore", desc := "()V" } : Jvm.MethodName)) ∈ TBL := inTb (tb3 (List.mem_of_getElem? (i := 221) rfl)) rfl
theorem tw_3_222 : (Jvm.Cond.code ({ cls := "PlacerHead$Description", name := "readBefore", desc := "()V" } : Jvm.MethodName) prog_3_method_17_code (4 : Nat) (Option.none : Option Jvm.ClassFile.FieldType)) ∈ TBL := inTb (tb3 (List.mem_of_getElem? (i := 222) rfl)) rfl
theorem tw_3_223 : (Jvm.Cond.methodLinkNest "PlacerHead$Description" (183 : Nat) ({ cls := "PlacerHead$Board", name := "wouldCircle", desc := "(II)Z" } : Jvm.MethodName) "PlacerHead") ∈ lw_tbl := List.mem_append_right _ (tb3 (List.mem_of_getElem? (i := 223) rfl))
theorem tw_3_225 : (Jvm.Cond.instanceMethod ({ cls := "PlacerHead$Board", name := "wouldCircle", desc := "(II)Z" } : Jvm.MethodName)) ∈ TBL := inTb (tb3 (List.mem_of_getElem? (i := 225) rfl)) rfl
theorem tw_3_226 : (Jvm.Cond.code ({ cls := "PlacerHead$Board", name := "wouldCircle", desc := "(II)Z" } : Jvm.MethodName) prog_2_method_19_code (6 : Nat) (Option.some Jvm.ClassFile.FieldType.boolean)) ∈ TBL := inTb (tb3 (List.mem_of_getElem? (i := 226) rfl)) rfl
theorem tw_3_231 : (Jvm.Cond.methodLinkNest "PlacerHead$Description" (187 : Nat) ({ cls := "PlacerHead$Board", name := "pairIndex", desc := "(II)I" } : Jvm.MethodName) "PlacerHead") ∈ lw_tbl := List.mem_append_right _ (tb3 (List.mem_of_getElem? (i := 231) rfl))
theorem tw_3_233 : (Jvm.Cond.instanceMethod ({ cls := "PlacerHead$Board", name := "pairIndex", desc := "(II)I" } : Jvm.MethodName)) ∈ TBL := inTb (tb3 (List.mem_of_getElem? (i := 233) rfl)) rfl
theorem tw_3_234 : (Jvm.Cond.code ({ cls := "PlacerHead$Board", name := "pairIndex", desc := "(II)I" } : Jvm.MethodName) prog_2_method_15_code (4 : Nat) (Option.some Jvm.ClassFile.FieldType.int)) ∈ TBL := inTb (tb3 (List.mem_of_getElem? (i := 234) rfl)) rfl
theorem tw_3_235 : (Jvm.Cond.methodLinkNest "PlacerHead$Description" (190 : Nat) ({ cls := "PlacerHead$Board", name := "addPair", desc := "(II)V" } : Jvm.MethodName) "PlacerHead") ∈ lw_tbl := List.mem_append_right _ (tb3 (List.mem_of_getElem? (i := 235) rfl))
theorem tw_3_237 : (Jvm.Cond.instanceMethod ({ cls := "PlacerHead$Board", name := "addPair", desc := "(II)V" } : Jvm.MethodName)) ∈ TBL := inTb (tb3 (List.mem_of_getElem? (i := 237) rfl)) rfl
theorem tw_3_238 : (Jvm.Cond.code ({ cls := "PlacerHead$Board", name := "addPair", desc := "(II)V" } : Jvm.MethodName) prog_2_method_16_code (3 : Nat) (Option.none : Option Jvm.ClassFile.FieldType)) ∈ TBL := inTb (tb3 (List.mem_of_getElem? (i := 238) rfl)) rfl
theorem tw_3_61 : (Jvm.Cond.instanceMethod ({ cls := "java/lang/String", name := "length", desc := "()I" } : Jvm.MethodName)) ∈ TBL := inTb (tb3 (List.mem_of_getElem? (i := 61) rfl)) rfl
theorem tw_3_62 : (Jvm.Cond.selects "java/lang/String" ({ cls := "java/lang/String", name := "length", desc := "()I" } : Jvm.MethodName) ({ cls := "java/lang/String", name := "length", desc := "()I" } : Jvm.MethodName)) ∈ TBL := inTb (tb3 (List.mem_of_getElem? (i := 62) rfl)) rfl
theorem tw_3_63 : (Jvm.Cond.code ({ cls := "java/lang/String", name := "length", desc := "()I" } : Jvm.MethodName) prog_23_method_54_code (1 : Nat) (Option.some Jvm.ClassFile.FieldType.int)) ∈ TBL := inTb (tb3 (List.mem_of_getElem? (i := 63) rfl)) rfl
theorem tw_3_64 : (Jvm.Cond.methodLink "java/lang/String" (335 : Nat) ({ cls := "java/lang/String", name := "coder", desc := "()B" } : Jvm.MethodName)) ∈ TBL := inTb (tb3 (List.mem_of_getElem? (i := 64) rfl)) rfl
theorem tw_3_65 : (Jvm.Cond.instanceMethod ({ cls := "java/lang/String", name := "coder", desc := "()B" } : Jvm.MethodName)) ∈ TBL := inTb (tb3 (List.mem_of_getElem? (i := 65) rfl)) rfl
theorem tw_3_66 : (Jvm.Cond.selects "java/lang/String" ({ cls := "java/lang/String", name := "coder", desc := "()B" } : Jvm.MethodName) ({ cls := "java/lang/String", name := "coder", desc := "()B" } : Jvm.MethodName)) ∈ TBL := inTb (tb3 (List.mem_of_getElem? (i := 66) rfl)) rfl
theorem tw_3_67 : (Jvm.Cond.code ({ cls := "java/lang/String", name := "coder", desc := "()B" } : Jvm.MethodName) prog_23_method_152_code (1 : Nat) (Option.some Jvm.ClassFile.FieldType.byte)) ∈ TBL := inTb (tb3 (List.mem_of_getElem? (i := 67) rfl)) rfl
theorem tw_3_68 : (Jvm.Cond.fieldLink "java/lang/String" (38 : Nat) "java/lang/String" "COMPACT_STRINGS" "Z") ∈ TBL := inTb (tb3 (List.mem_of_getElem? (i := 68) rfl)) rfl
theorem tw_3_71 : (Jvm.Cond.instanceMethod ({ cls := "java/lang/String", name := "charAt", desc := "(I)C" } : Jvm.MethodName)) ∈ TBL := inTb (tb3 (List.mem_of_getElem? (i := 71) rfl)) rfl
theorem tw_3_72 : (Jvm.Cond.selects "java/lang/String" ({ cls := "java/lang/String", name := "charAt", desc := "(I)C" } : Jvm.MethodName) ({ cls := "java/lang/String", name := "charAt", desc := "(I)C" } : Jvm.MethodName)) ∈ TBL := inTb (tb3 (List.mem_of_getElem? (i := 72) rfl)) rfl
theorem tw_3_73 : (Jvm.Cond.code ({ cls := "java/lang/String", name := "charAt", desc := "(I)C" } : Jvm.MethodName) prog_23_method_56_code (2 : Nat) (Option.some Jvm.ClassFile.FieldType.char)) ∈ TBL := inTb (tb3 (List.mem_of_getElem? (i := 73) rfl)) rfl
theorem tw_3_74 : (Jvm.Cond.methodLink "java/lang/String" (492 : Nat) ({ cls := "java/lang/String", name := "isLatin1", desc := "()Z" } : Jvm.MethodName)) ∈ TBL := inTb (tb3 (List.mem_of_getElem? (i := 74) rfl)) rfl
theorem tw_3_75 : (Jvm.Cond.instanceMethod ({ cls := "java/lang/String", name := "isLatin1", desc := "()Z" } : Jvm.MethodName)) ∈ TBL := inTb (tb3 (List.mem_of_getElem? (i := 75) rfl)) rfl
theorem tw_3_76 : (Jvm.Cond.selects "java/lang/String" ({ cls := "java/lang/String", name := "isLatin1", desc := "()Z" } : Jvm.MethodName) ({ cls := "java/lang/String", name := "isLatin1", desc := "()Z" } : Jvm.MethodName)) ∈ TBL := inTb (tb3 (List.mem_of_getElem? (i := 76) rfl)) rfl
theorem tw_3_77 : (Jvm.Cond.code ({ cls := "java/lang/String", name := "isLatin1", desc := "()Z" } : Jvm.MethodName) prog_23_method_154_code (1 : Nat) (Option.some Jvm.ClassFile.FieldType.boolean)) ∈ TBL := inTb (tb3 (List.mem_of_getElem? (i := 77) rfl)) rfl
theorem tw_3_78 : (Jvm.Cond.methodLink "java/lang/String" (495 : Nat) ({ cls := "java/lang/StringLatin1", name := "charAt", desc := "([BI)C" } : Jvm.MethodName)) ∈ TBL := inTb (tb3 (List.mem_of_getElem? (i := 78) rfl)) rfl
theorem tw_3_79 : (Jvm.Cond.static ({ cls := "java/lang/StringLatin1", name := "charAt", desc := "([BI)C" } : Jvm.MethodName)) ∈ TBL := inTb (tb3 (List.mem_of_getElem? (i := 79) rfl)) rfl
theorem tw_3_80 : (Jvm.Cond.code ({ cls := "java/lang/StringLatin1", name := "charAt", desc := "([BI)C" } : Jvm.MethodName) prog_25_method_2_code (2 : Nat) (Option.some Jvm.ClassFile.FieldType.char)) ∈ TBL := inTb (tb3 (List.mem_of_getElem? (i := 80) rfl)) rfl
theorem tw_3_81 : (Jvm.Cond.methodLink "java/lang/StringLatin1" (9 : Nat) ({ cls := "java/lang/String", name := "checkIndex", desc := "(II)V" } : Jvm.MethodName)) ∈ TBL := inTb (tb3 (List.mem_of_getElem? (i := 81) rfl)) rfl
theorem tw_3_82 : (Jvm.Cond.static ({ cls := "java/lang/String", name := "checkIndex", desc := "(II)V" } : Jvm.MethodName)) ∈ TBL := inTb (tb3 (List.mem_of_getElem? (i := 82) rfl)) rfl
theorem tw_3_83 : (Jvm.Cond.code ({ cls := "java/lang/String", name := "checkIndex", desc := "(II)V" } : Jvm.MethodName) prog_23_method_155_code (2 : Nat) (Option.none : Option Jvm.ClassFile.FieldType)) ∈ TBL := inTb (tb3 (List.mem_of_getElem? (i := 83) rfl)) rfl
theorem tw_3_84 : (Jvm.Cond.fieldLink "java/lang/String" (1053 : Nat) "jdk/internal/util/Preconditions" "SIOOBE_FORMATTER" "Ljava/util/function/BiFunction;") ∈ TBL := inTb (tb3 (List.mem_of_getElem? (i := 84) rfl)) rfl
theorem tw_3_86 : (Jvm.Cond.methodLink "java/lang/String" (1059 : Nat) ({ cls := "jdk/internal/util/Preconditions", name := "checkIndex", desc := "(IILjava/util/function/BiFunction;)I" } : Jvm.MethodName)) ∈ TBL := inTb (tb3 (List.mem_of_getElem? (i := 86) rfl)) rfl
theorem tw_3_87 : (Jvm.Cond.static ({ cls := "jdk/internal/util/Preconditions", name := "checkIndex", desc := "(IILjava/util/function/BiFunction;)I" } : Jvm.MethodName)) ∈ TBL := inTb (tb3 (List.mem_of_getElem? (i := 87) rfl)) rfl
theorem tw_3_88 : (Jvm.Cond.code ({ cls := "jdk/internal/util/Preconditions", name := "checkIndex", desc := "(IILjava/util/function/BiFunction;)I" } : Jvm.MethodName) prog_31_method_11_code (3 : Nat) (Option.some Jvm.ClassFile.FieldType.int)) ∈ TBL := inTb (tb3 (List.mem_of_getElem? (i := 88) rfl)) rfl
theorem tw_4_1 : (Jvm.Cond.instanceMethod ({ cls := "PlacerHead$Machine", name := "copyFrom", desc := "(LPlacerHead$Machine;)V" } : Jvm.MethodName)) ∈ TBL := inTb (tb4 (List.mem_of_getElem? (i := 1) rfl)) rfl
theorem tw_4_10 : (Jvm.Cond.code ({ cls := "PlacerHead$Kinds", name := "copyFrom", desc := "(LPlacerHead$Kinds;)V" } : Jvm.MethodName) prog_7_method_3_code (2 : Nat) (Option.none : Option Jvm.ClassFile.FieldType)) ∈ TBL := inTb (tb4 (List.mem_of_getElem? (i := 10) rfl)) rfl
theorem tw_4_11 : (Jvm.Cond.methodLink "PlacerHead$Kinds" (40 : Nat) ({ cls := "java/lang/System", name := "arraycopy", desc := "(Ljava/lang/Object;ILjava/lang/Object;II)V" } : Jvm.MethodName)) ∈ TBL := inTb (tb4 (List.mem_of_getElem? (i := 11) rfl)) rfl
theorem tw_4_12 : (Jvm.Cond.methodLinkNest "PlacerHead$Machine" (105 : Nat) ({ cls := "PlacerHead$Feeder", name := "copyFrom", desc := "(LPlacerHead$Feeder;)V" } : Jvm.MethodName) "PlacerHead") ∈ lw_tbl := List.mem_append_right _ (tb4 (List.mem_of_getElem? (i := 12) rfl))
theorem tw_4_14 : (Jvm.Cond.instanceMethod ({ cls := "PlacerHead$Feeder", name := "copyFrom", desc := "(LPlacerHead$Feeder;)V" } : Jvm.MethodName)) ∈ TBL := inTb (tb4 (List.mem_of_getElem? (i := 14) rfl)) rfl
theorem tw_4_15 : (Jvm.Cond.code ({ cls := "PlacerHead$Feeder", name := "copyFrom", desc := "(LPlacerHead$Feeder;)V" } : Jvm.MethodName) prog_4_method_3_code (2 : Nat) (Option.none : Option Jvm.ClassFile.FieldType)) ∈ TBL := inTb (tb4 (List.mem_of_getElem? (i := 15) rfl)) rfl
theorem tw_4_17 : (Jvm.Cond.methodLinkNest "PlacerHead$Machine" (108 : Nat) ({ cls := "PlacerHead$Board", name := "copyFrom", desc := "(LPlacerHead$Board;)V" } : Jvm.MethodName) "PlacerHead") ∈ lw_tbl := List.mem_append_right _ (tb4 (List.mem_of_getElem? (i := 17) rfl))
theorem tw_4_19 : (Jvm.Cond.instanceMethod ({ cls := "PlacerHead$Board", name := "copyFrom", desc := "(LPlacerHead$Board;)V" } : Jvm.MethodName)) ∈ TBL := inTb (tb4 (List.mem_of_getElem? (i := 19) rfl)) rfl
theorem tw_4_2 : (Jvm.Cond.code ({ cls := "PlacerHead$Machine", name := "copyFrom", desc := "(LPlacerHead$Machine;)V" } : Jvm.MethodName) prog_8_method_3_code (3 : Nat) (Option.none : Option Jvm.ClassFile.FieldType)) ∈ TBL := inTb (tb4 (List.mem_of_getElem? (i := 2) rfl)) rfl
theorem tw_4_20 : (Jvm.Cond.code ({ cls := "PlacerHead$Board", name := "copyFrom", desc := "(LPlacerHead$Board;)V" } : Jvm.MethodName) prog_2_method_3_code (2 : Nat) (Option.none : Option Jvm.ClassFile.FieldType)) ∈ TBL := inTb (tb4 (List.mem_of_getElem? (i := 20) rfl)) rfl
theorem tw_4_21 : (Jvm.Cond.methodLink "PlacerHead$Board" (57 : Nat) ({ cls := "java/lang/System", name := "arraycopy", desc := "(Ljava/lang/Object;ILjava/lang/Object;II)V" } : Jvm.MethodName)) ∈ TBL := inTb (tb4 (List.mem_of_getElem? (i := 21) rfl)) rfl
theorem tw_4_22 : (Jvm.Cond.methodLinkNest "PlacerHead$Machine" (111 : Nat) ({ cls := "PlacerHead$Journal", name := "copyFrom", desc := "(LPlacerHead$Journal;)V" } : Jvm.MethodName) "PlacerHead") ∈ lw_tbl := List.mem_append_right _ (tb4 (List.mem_of_getElem? (i := 22) rfl))
theorem tw_4_24 : (Jvm.Cond.instanceMethod ({ cls := "PlacerHead$Journal", name := "copyFrom", desc := "(LPlacerHead$Journal;)V" } : Jvm.MethodName)) ∈ TBL := inTb (tb4 (List.mem_of_getElem? (i := 24) rfl)) rfl
theorem tw_4_25 : (Jvm.Cond.code ({ cls := "PlacerHead$Journal", name := "copyFrom", desc := "(LPlacerHead$Journal;)V" } : Jvm.MethodName) prog_6_method_3_code (2 : Nat) (Option.none : Option Jvm.ClassFile.FieldType)) ∈ TBL := inTb (tb4 (List.mem_of_getElem? (i := 25) rfl)) rfl
theorem tw_4_26 : (Jvm.Cond.methodLink "PlacerHead$Journal" (46 : Nat) ({ cls := "java/lang/System", name := "arraycopy", desc := "(Ljava/lang/Object;ILjava/lang/Object;II)V" } : Jvm.MethodName)) ∈ TBL := inTb (tb4 (List.mem_of_getElem? (i := 26) rfl)) rfl
theorem tw_4_3 : (Jvm.Cond.methodLinkNest "PlacerHead$Machine" (98 : Nat) ({ cls := "PlacerHead$Spindle", name := "copyFrom", desc := "(LPlacerHead$Spindle;)V" } : Jvm.MethodName) "PlacerHead") ∈ lw_tbl := List.mem_append_right _ (tb4 (List.mem_of_getElem? (i := 3) rfl))
theorem tw_4_5 : (Jvm.Cond.instanceMethod ({ cls := "PlacerHead$Spindle", name := "copyFrom", desc := "(LPlacerHead$Spindle;)V" } : Jvm.MethodName)) ∈ TBL := inTb (tb4 (List.mem_of_getElem? (i := 5) rfl)) rfl
theorem tw_4_6 : (Jvm.Cond.code ({ cls := "PlacerHead$Spindle", name := "copyFrom", desc := "(LPlacerHead$Spindle;)V" } : Jvm.MethodName) prog_10_method_4_code (2 : Nat) (Option.none : Option Jvm.ClassFile.FieldType)) ∈ TBL := inTb (tb4 (List.mem_of_getElem? (i := 6) rfl)) rfl
theorem tw_4_7 : (Jvm.Cond.methodLinkNest "PlacerHead$Machine" (102 : Nat) ({ cls := "PlacerHead$Kinds", name := "copyFrom", desc := "(LPlacerHead$Kinds;)V" } : Jvm.MethodName) "PlacerHead") ∈ lw_tbl := List.mem_append_right _ (tb4 (List.mem_of_getElem? (i := 7) rfl))
theorem tw_4_9 : (Jvm.Cond.instanceMethod ({ cls := "PlacerHead$Kinds", name := "copyFrom", desc := "(LPlacerHead$Kinds;)V" } : Jvm.MethodName)) ∈ TBL := inTb (tb4 (List.mem_of_getElem? (i := 9) rfl)) rfl
theorem tw_5_0 : (Jvm.Cond.fieldLink "java/lang/String" (9 : Nat) "java/lang/String" "value" "[B") ∈ TBL := inTb (tb5 (List.mem_of_getElem? (i := 0) rfl)) rfl
theorem tw_5_1 : (Jvm.Cond.fieldLink "java/lang/String" (15 : Nat) "java/lang/String" "coder" "B") ∈ TBL := inTb (tb5 (List.mem_of_getElem? (i := 1) rfl)) rfl
theorem tw_5_115 : (Jvm.Cond.instanceMethod ({ cls := "PlacerHead$Machine", name := "perform", desc := "(III)I" } : Jvm.MethodName)) ∈ TBL := inTb (tb5 (List.mem_of_getElem? (i := 115) rfl)) rfl
theorem tw_5_116 : (Jvm.Cond.code ({ cls := "PlacerHead$Machine", name := "perform", desc := "(III)I" } : Jvm.MethodName) prog_8_method_13_code (7 : Nat) (Option.some Jvm.ClassFile.FieldType.int)) ∈ TBL := inTb (tb5 (List.mem_of_getElem? (i := 116) rfl)) rfl
theorem tw_6_181 : (Jvm.Cond.methodLinkNest "PlacerHead$Forecast" (27 : Nat) ({ cls := "PlacerHead$Machine", name := "copyFrom", desc := "(LPlacerHead$Machine;)V" } : Jvm.MethodName) "PlacerHead") ∈ lw_tbl := List.mem_append_right _ (tb6 (List.mem_of_getElem? (i := 181) rfl))
theorem tw_6_186 : (Jvm.Cond.methodLinkNest "PlacerHead$Forecast" (36 : Nat) ({ cls := "PlacerHead$Plan", name := "next", desc := "()Z" } : Jvm.MethodName) "PlacerHead") ∈ lw_tbl := List.mem_append_right _ (tb6 (List.mem_of_getElem? (i := 186) rfl))
theorem tw_6_187 : (Jvm.Cond.methodLinkNest "PlacerHead$Forecast" (49 : Nat) ({ cls := "PlacerHead$Machine", name := "perform", desc := "(III)I" } : Jvm.MethodName) "PlacerHead") ∈ lw_tbl := List.mem_append_right _ (tb6 (List.mem_of_getElem? (i := 187) rfl))
theorem tw_6_36 : (Jvm.Cond.methodLink "PlacerHead$Plan" (42 : Nat) ({ cls := "PlacerHead$Plan", name := "next", desc := "()Z" } : Jvm.MethodName)) ∈ TBL := inTb (tb6 (List.mem_of_getElem? (i := 36) rfl)) rfl
theorem tw_6_38 : (Jvm.Cond.instanceMethod ({ cls := "PlacerHead$Plan", name := "next", desc := "()Z" } : Jvm.MethodName)) ∈ TBL := inTb (tb6 (List.mem_of_getElem? (i := 38) rfl)) rfl
theorem tw_6_39 : (Jvm.Cond.code ({ cls := "PlacerHead$Plan", name := "next", desc := "()Z" } : Jvm.MethodName) prog_9_method_2_code (3 : Nat) (Option.some Jvm.ClassFile.FieldType.boolean)) ∈ TBL := inTb (tb6 (List.mem_of_getElem? (i := 39) rfl)) rfl
theorem tw_6_40 : (Jvm.Cond.methodLinkNest "PlacerHead$Plan" (25 : Nat) ({ cls := "PlacerHead$Board", name := "fillable", desc := "()J" } : Jvm.MethodName) "PlacerHead") ∈ lw_tbl := List.mem_append_right _ (tb6 (List.mem_of_getElem? (i := 40) rfl))
theorem tw_6_42 : (Jvm.Cond.instanceMethod ({ cls := "PlacerHead$Board", name := "fillable", desc := "()J" } : Jvm.MethodName)) ∈ TBL := inTb (tb6 (List.mem_of_getElem? (i := 42) rfl)) rfl
theorem tw_6_43 : (Jvm.Cond.code ({ cls := "PlacerHead$Board", name := "fillable", desc := "()J" } : Jvm.MethodName) prog_2_method_14_code (4 : Nat) (Option.some Jvm.ClassFile.FieldType.long)) ∈ TBL := inTb (tb6 (List.mem_of_getElem? (i := 43) rfl)) rfl
theorem tw_6_44 : (Jvm.Cond.methodLink "PlacerHead$Plan" (31 : Nat) ({ cls := "PlacerHead$Plan", name := "findLoad", desc := "(J)Z" } : Jvm.MethodName)) ∈ TBL := inTb (tb6 (List.mem_of_getElem? (i := 44) rfl)) rfl
theorem tw_6_46 : (Jvm.Cond.instanceMethod ({ cls := "PlacerHead$Plan", name := "findLoad", desc := "(J)Z" } : Jvm.MethodName)) ∈ TBL := inTb (tb6 (List.mem_of_getElem? (i := 46) rfl)) rfl
theorem tw_6_47 : (Jvm.Cond.code ({ cls := "PlacerHead$Plan", name := "findLoad", desc := "(J)Z" } : Jvm.MethodName) prog_9_method_5_code (5 : Nat) (Option.some Jvm.ClassFile.FieldType.boolean)) ∈ TBL := inTb (tb6 (List.mem_of_getElem? (i := 47) rfl)) rfl
theorem tw_6_48 : (Jvm.Cond.methodLink "PlacerHead$Plan" (59 : Nat) ({ cls := "PlacerHead$Plan", name := "kindsToLoad", desc := "(J)I" } : Jvm.MethodName)) ∈ TBL := inTb (tb6 (List.mem_of_getElem? (i := 48) rfl)) rfl
theorem tw_6_50 : (Jvm.Cond.instanceMethod ({ cls := "PlacerHead$Plan", name := "kindsToLoad", desc := "(J)I" } : Jvm.MethodName)) ∈ TBL := inTb (tb6 (List.mem_of_getElem? (i := 50) rfl)) rfl
theorem tw_6_51 : (Jvm.Cond.code ({ cls := "PlacerHead$Plan", name := "kindsToLoad", desc := "(J)I" } : Jvm.MethodName) prog_9_method_6_code (7 : Nat) (Option.some Jvm.ClassFile.FieldType.int)) ∈ TBL := inTb (tb6 (List.mem_of_getElem? (i := 51) rfl)) rfl
theorem tw_6_52 : (Jvm.Cond.methodLink "PlacerHead$Plan" (95 : Nat) ({ cls := "java/lang/Long", name := "bitCount", desc := "(J)I" } : Jvm.MethodName)) ∈ TBL := inTb (tb6 (List.mem_of_getElem? (i := 52) rfl)) rfl
theorem tw_6_53 : (Jvm.Cond.methodLinkNest "PlacerHead$Plan" (103 : Nat) ({ cls := "PlacerHead$Machine", name := "heldOf", desc := "(I)I" } : Jvm.MethodName) "PlacerHead") ∈ lw_tbl := List.mem_append_right _ (tb6 (List.mem_of_getElem? (i := 53) rfl))
theorem tw_6_54 : (Jvm.Cond.methodLink "PlacerHead$Plan" (75 : Nat) ({ cls := "PlacerHead$Plan", name := "findLoadOf", desc := "(II)Z" } : Jvm.MethodName)) ∈ TBL := inTb (tb6 (List.mem_of_getElem? (i := 54) rfl)) rfl
theorem tw_6_56 : (Jvm.Cond.instanceMethod ({ cls := "PlacerHead$Plan", name := "findLoadOf", desc := "(II)Z" } : Jvm.MethodName)) ∈ TBL := inTb (tb6 (List.mem_of_getElem? (i := 56) rfl)) rfl
theorem tw_6_57 : (Jvm.Cond.code ({ cls := "PlacerHead$Plan", name := "findLoadOf", desc := "(II)Z" } : Jvm.MethodName) prog_9_method_7_code (6 : Nat) (Option.some Jvm.ClassFile.FieldType.boolean)) ∈ TBL := inTb (tb6 (List.mem_of_getElem? (i := 57) rfl)) rfl
theorem tw_6_58 : (Jvm.Cond.methodLinkNest "PlacerHead$Plan" (122 : Nat) ({ cls := "PlacerHead$Machine", name := "isWorn", desc := "(LPlacerHead$Spindle;)Z" } : Jvm.MethodName) "PlacerHead") ∈ lw_tbl := List.mem_append_right _ (tb6 (List.mem_of_getElem? (i := 58) rfl))
theorem tw_6_59 : (Jvm.Cond.methodLink "PlacerHead$Plan" (126 : Nat) ({ cls := "PlacerHead$Plan", name := "decide", desc := "(III)Z" } : Jvm.MethodName)) ∈ TBL := inTb (tb6 (List.mem_of_getElem? (i := 59) rfl)) rfl
theorem tw_6_61 : (Jvm.Cond.instanceMethod ({ cls := "PlacerHead$Plan", name := "decide", desc := "(III)Z" } : Jvm.MethodName)) ∈ TBL := inTb (tb6 (List.mem_of_getElem? (i := 61) rfl)) rfl
theorem tw_6_62 : (Jvm.Cond.code ({ cls := "PlacerHead$Plan", name := "decide", desc := "(III)Z" } : Jvm.MethodName) prog_9_method_4_code (4 : Nat) (Option.some Jvm.ClassFile.FieldType.boolean)) ∈ TBL := inTb (tb6 (List.mem_of_getElem? (i := 62) rfl)) rfl
theorem tw_6_63 : (Jvm.Cond.methodLinkNest "PlacerHead$Plan" (130 : Nat) ({ cls := "PlacerHead$Machine", name := "nearestWith", desc := "(I)I" } : Jvm.MethodName) "PlacerHead") ∈ lw_tbl := List.mem_append_right _ (tb6 (List.mem_of_getElem? (i := 63) rfl))
theorem tw_6_65 : (Jvm.Cond.instanceMethod ({ cls := "PlacerHead$Machine", name := "nearestWith", desc := "(I)I" } : Jvm.MethodName)) ∈ TBL := inTb (tb6 (List.mem_of_getElem? (i := 65) rfl)) rfl
theorem tw_6_66 : (Jvm.Cond.code ({ cls := "PlacerHead$Machine", name := "nearestWith", desc := "(I)I" } : Jvm.MethodName) prog_8_method_6_code (6 : Nat) (Option.some Jvm.ClassFile.FieldType.int)) ∈ TBL := inTb (tb6 (List.mem_of_getElem? (i := 66) rfl)) rfl
theorem tw_6_67 : (Jvm.Cond.methodLink "PlacerHead$Plan" (35 : Nat) ({ cls := "PlacerHead$Plan", name := "findLook", desc := "()Z" } : Jvm.MethodName)) ∈ TBL := inTb (tb6 (List.mem_of_getElem? (i := 67) rfl)) rfl
theorem tw_6_69 : (Jvm.Cond.instanceMethod ({ cls := "PlacerHead$Plan", name := "findLook", desc := "()Z" } : Jvm.MethodName)) ∈ TBL := inTb (tb6 (List.mem_of_getElem? (i := 69) rfl)) rfl
theorem tw_6_70 : (Jvm.Cond.code ({ cls := "PlacerHead$Plan", name := "findLook", desc := "()Z" } : Jvm.MethodName) prog_9_method_8_code (3 : Nat) (Option.some Jvm.ClassFile.FieldType.boolean)) ∈ TBL := inTb (tb6 (List.mem_of_getElem? (i := 70) rfl)) rfl
theorem tw_6_71 : (Jvm.Cond.methodLink "PlacerHead$Plan" (39 : Nat) ({ cls := "PlacerHead$Plan", name := "findPlace", desc := "(J)Z" } : Jvm.MethodName)) ∈ TBL := inTb (tb6 (List.mem_of_getElem? (i := 71) rfl)) rfl
theorem tw_6_73 : (Jvm.Cond.instanceMethod ({ cls := "PlacerHead$Plan", name := "findPlace", desc := "(J)Z" } : Jvm.MethodName)) ∈ TBL := inTb (tb6 (List.mem_of_getElem? (i := 73) rfl)) rfl
theorem tw_6_74 : (Jvm.Cond.code ({ cls := "PlacerHead$Plan", name := "findPlace", desc := "(J)Z" } : Jvm.MethodName) prog_9_method_9_code (6 : Nat) (Option.some Jvm.ClassFile.FieldType.boolean)) ∈ TBL := inTb (tb6 (List.mem_of_getElem? (i := 74) rfl)) rfl
theorem tw_6_75 : (Jvm.Cond.methodLink "PlacerHead$Plan" (139 : Nat) ({ cls := "PlacerHead$Plan", name := "nearestSpot", desc := "(J)I" } : Jvm.MethodName)) ∈ TBL := inTb (tb6 (List.mem_of_getElem? (i := 75) rfl)) rfl
theorem tw_6_77 : (Jvm.Cond.instanceMethod ({ cls := "PlacerHead$Plan", name := "nearestSpot", desc := "(J)I" } : Jvm.MethodName)) ∈ TBL := inTb (tb6 (List.mem_of_getElem? (i := 77) rfl)) rfl
theorem tw_6_78 : (Jvm.Cond.code ({ cls := "PlacerHead$Plan", name := "nearestSpot", desc := "(J)I" } : Jvm.MethodName) prog_9_method_10_code (7 : Nat) (Option.some Jvm.ClassFile.FieldType.int)) ∈ TBL := inTb (tb6 (List.mem_of_getElem? (i := 78) rfl)) rfl
theorem tw_6_79 : (Jvm.Cond.methodLinkNest "PlacerHead$Plan" (149 : Nat) ({ cls := "PlacerHead$Machine", name := "wayTo", desc := "(II)I" } : Jvm.MethodName) "PlacerHead") ∈ lw_tbl := List.mem_append_right _ (tb6 (List.mem_of_getElem? (i := 79) rfl))
theorem tw_6_80 : (Jvm.Cond.methodLinkNest "PlacerHead$Plan" (55 : Nat) ({ cls := "PlacerHead$Machine", name := "perform", desc := "(III)I" } : Jvm.MethodName) "PlacerHead") ∈ lw_tbl := List.mem_append_right _ (tb6 (List.mem_of_getElem? (i := 80) rfl))
theorem yd_X5_copyFrom : (yX5_copyFrom).cls ≠ "java/lang/invoke/MethodHandle" ∧ (yX5_copyFrom).cls ≠ "java/lang/invoke/VarHandle" ∧ (parseMethodDescriptor (yX5_copyFrom).desc).map (fun d => d.parameters.length) = some 1 := by decide +kernel
theorem yd_X0_copyFrom : (yX0_copyFrom).cls ≠ "java/lang/invoke/MethodHandle" ∧ (yX0_copyFrom).cls ≠ "java/lang/invoke/VarHandle" ∧ (parseMethodDescriptor (yX0_copyFrom).desc).map (fun d => d.parameters.length) = some 1 := by decide +kernel
theorem yd_X4_copyFrom : (yX4_copyFrom).cls ≠ "java/lang/invoke/MethodHandle" ∧ (yX4_copyFrom).cls ≠ "java/lang/invoke/VarHandle" ∧ (parseMethodDescriptor (yX4_copyFrom).desc).map (fun d => d.parameters.length) = some 1 := by decide +kernel
theorem yd_X2_copyFrom : (yX2_copyFrom).cls ≠ "java/lang/invoke/MethodHandle" ∧ (yX2_copyFrom).cls ≠ "java/lang/invoke/VarHandle" ∧ (parseMethodDescriptor (yX2_copyFrom).desc).map (fun d => d.parameters.length) = some 1 := by decide +kernel
theorem yd_X8_copyFrom : (yX8_copyFrom).cls ≠ "java/lang/invoke/MethodHandle" ∧ (yX8_copyFrom).cls ≠ "java/lang/invoke/VarHandle" ∧ (parseMethodDescriptor (yX8_copyFrom).desc).map (fun d => d.parameters.length) = some 1 := by decide +kernel
theorem yd_J7_fill_53178 : (yJ7_fill_53178).cls ≠ "java/lang/invoke/MethodHandle" ∧ (yJ7_fill_53178).cls ≠ "java/lang/invoke/VarHandle" ∧ (parseMethodDescriptor (yJ7_fill_53178).desc).map (fun d => d.parameters.length) = some 2 := by decide +kernel
theorem yd_J7_fill_d0a16 : (yJ7_fill_d0a16).cls ≠ "java/lang/invoke/MethodHandle" ∧ (yJ7_fill_d0a16).cls ≠ "java/lang/invoke/VarHandle" ∧ (parseMethodDescriptor (yJ7_fill_d0a16).desc).map (fun d => d.parameters.length) = some 2 := by decide +kernel
theorem yd_X5_clear : (yX5_clear).cls ≠ "java/lang/invoke/MethodHandle" ∧ (yX5_clear).cls ≠ "java/lang/invoke/VarHandle" ∧ (parseMethodDescriptor (yX5_clear).desc).map (fun d => d.parameters.length) = some 0 := by decide +kernel
theorem yd_X0_clear : (yX0_clear).cls ≠ "java/lang/invoke/MethodHandle" ∧ (yX0_clear).cls ≠ "java/lang/invoke/VarHandle" ∧ (parseMethodDescriptor (yX0_clear).desc).map (fun d => d.parameters.length) = some 0 := by decide +kernel
theorem yd_X4_clear : (yX4_clear).cls ≠ "java/lang/invoke/MethodHandle" ∧ (yX4_clear).cls ≠ "java/lang/invoke/VarHandle" ∧ (parseMethodDescriptor (yX4_clear).desc).map (fun d => d.parameters.length) = some 0 := by decide +kernel
theorem yd_X8_clear : (yX8_clear).cls ≠ "java/lang/invoke/MethodHandle" ∧ (yX8_clear).cls ≠ "java/lang/invoke/VarHandle" ∧ (parseMethodDescriptor (yX8_clear).desc).map (fun d => d.parameters.length) = some 0 := by decide +kernel
theorem yd_X7_decide : (yX7_decide).cls ≠ "java/lang/invoke/MethodHandle" ∧ (yX7_decide).cls ≠ "java/lang/invoke/VarHandle" ∧ (parseMethodDescriptor (yX7_decide).desc).map (fun d => d.parameters.length) = some 3 := by decide +kernel
theorem yd_X6_nearestWith : (yX6_nearestWith).cls ≠ "java/lang/invoke/MethodHandle" ∧ (yX6_nearestWith).cls ≠ "java/lang/invoke/VarHandle" ∧ (parseMethodDescriptor (yX6_nearestWith).desc).map (fun d => d.parameters.length) = some 1 := by decide +kernel
theorem yd_X7_kindsToLoad : (yX7_kindsToLoad).cls ≠ "java/lang/invoke/MethodHandle" ∧ (yX7_kindsToLoad).cls ≠ "java/lang/invoke/VarHandle" ∧ (parseMethodDescriptor (yX7_kindsToLoad).desc).map (fun d => d.parameters.length) = some 1 := by decide +kernel
theorem yd_X7_findLoadOf : (yX7_findLoadOf).cls ≠ "java/lang/invoke/MethodHandle" ∧ (yX7_findLoadOf).cls ≠ "java/lang/invoke/VarHandle" ∧ (parseMethodDescriptor (yX7_findLoadOf).desc).map (fun d => d.parameters.length) = some 2 := by decide +kernel
theorem yd_X7_nearestSpot : (yX7_nearestSpot).cls ≠ "java/lang/invoke/MethodHandle" ∧ (yX7_nearestSpot).cls ≠ "java/lang/invoke/VarHandle" ∧ (parseMethodDescriptor (yX7_nearestSpot).desc).map (fun d => d.parameters.length) = some 1 := by decide +kernel
theorem yd_X0_fillable : (yX0_fillable).cls ≠ "java/lang/invoke/MethodHandle" ∧ (yX0_fillable).cls ≠ "java/lang/invoke/VarHandle" ∧ (parseMethodDescriptor (yX0_fillable).desc).map (fun d => d.parameters.length) = some 0 := by decide +kernel
theorem yd_X7_findLoad : (yX7_findLoad).cls ≠ "java/lang/invoke/MethodHandle" ∧ (yX7_findLoad).cls ≠ "java/lang/invoke/VarHandle" ∧ (parseMethodDescriptor (yX7_findLoad).desc).map (fun d => d.parameters.length) = some 1 := by decide +kernel
theorem yd_X7_findLook : (yX7_findLook).cls ≠ "java/lang/invoke/MethodHandle" ∧ (yX7_findLook).cls ≠ "java/lang/invoke/VarHandle" ∧ (parseMethodDescriptor (yX7_findLook).desc).map (fun d => d.parameters.length) = some 0 := by decide +kernel
theorem yd_X7_findPlace : (yX7_findPlace).cls ≠ "java/lang/invoke/MethodHandle" ∧ (yX7_findPlace).cls ≠ "java/lang/invoke/VarHandle" ∧ (parseMethodDescriptor (yX7_findPlace).desc).map (fun d => d.parameters.length) = some 1 := by decide +kernel
theorem yd_X7_next : (yX7_next).cls ≠ "java/lang/invoke/MethodHandle" ∧ (yX7_next).cls ≠ "java/lang/invoke/VarHandle" ∧ (parseMethodDescriptor (yX7_next).desc).map (fun d => d.parameters.length) = some 0 := by decide +kernel
theorem yd_X6_perform : (yX6_perform).cls ≠ "java/lang/invoke/MethodHandle" ∧ (yX6_perform).cls ≠ "java/lang/invoke/VarHandle" ∧ (parseMethodDescriptor (yX6_perform).desc).map (fun d => d.parameters.length) = some 3 := by decide +kernel
theorem yd_X6_copyFrom : (yX6_copyFrom).cls ≠ "java/lang/invoke/MethodHandle" ∧ (yX6_copyFrom).cls ≠ "java/lang/invoke/VarHandle" ∧ (parseMethodDescriptor (yX6_copyFrom).desc).map (fun d => d.parameters.length) = some 1 := by decide +kernel
theorem yd_J0_coder_7d493 : (yJ0_coder_7d493).cls ≠ "java/lang/invoke/MethodHandle" ∧ (yJ0_coder_7d493).cls ≠ "java/lang/invoke/VarHandle" ∧ (parseMethodDescriptor (yJ0_coder_7d493).desc).map (fun d => d.parameters.length) = some 0 := by decide +kernel
theorem yd_J3_checkIndex_8e157 : (yJ3_checkIndex_8e157).cls ≠ "java/lang/invoke/MethodHandle" ∧ (yJ3_checkIndex_8e157).cls ≠ "java/lang/invoke/VarHandle" ∧ (parseMethodDescriptor (yJ3_checkIndex_8e157).desc).map (fun d => d.parameters.length) = some 3 := by decide +kernel
theorem yd_J0_checkIndex_df160 : (yJ0_checkIndex_df160).cls ≠ "java/lang/invoke/MethodHandle" ∧ (yJ0_checkIndex_df160).cls ≠ "java/lang/invoke/VarHandle" ∧ (parseMethodDescriptor (yJ0_checkIndex_df160).desc).map (fun d => d.parameters.length) = some 2 := by decide +kernel
theorem yd_J0_isLatin1_aae02 : (yJ0_isLatin1_aae02).cls ≠ "java/lang/invoke/MethodHandle" ∧ (yJ0_isLatin1_aae02).cls ≠ "java/lang/invoke/VarHandle" ∧ (parseMethodDescriptor (yJ0_isLatin1_aae02).desc).map (fun d => d.parameters.length) = some 0 := by decide +kernel
theorem yd_J1_charAt_3b067 : (yJ1_charAt_3b067).cls ≠ "java/lang/invoke/MethodHandle" ∧ (yJ1_charAt_3b067).cls ≠ "java/lang/invoke/VarHandle" ∧ (parseMethodDescriptor (yJ1_charAt_3b067).desc).map (fun d => d.parameters.length) = some 2 := by decide +kernel
theorem yd_X1_isAtEnd : (yX1_isAtEnd).cls ≠ "java/lang/invoke/MethodHandle" ∧ (yX1_isAtEnd).cls ≠ "java/lang/invoke/VarHandle" ∧ (parseMethodDescriptor (yX1_isAtEnd).desc).map (fun d => d.parameters.length) = some 0 := by decide +kernel
theorem yd_X1_fail : (yX1_fail).cls ≠ "java/lang/invoke/MethodHandle" ∧ (yX1_fail).cls ≠ "java/lang/invoke/VarHandle" ∧ (parseMethodDescriptor (yX1_fail).desc).map (fun d => d.parameters.length) = some 2 := by decide +kernel
theorem yd_J0_length_8abf5 : (yJ0_length_8abf5).cls ≠ "java/lang/invoke/MethodHandle" ∧ (yJ0_length_8abf5).cls ≠ "java/lang/invoke/VarHandle" ∧ (parseMethodDescriptor (yJ0_length_8abf5).desc).map (fun d => d.parameters.length) = some 0 := by decide +kernel
theorem yd_J0_charAt_5068e : (yJ0_charAt_5068e).cls ≠ "java/lang/invoke/MethodHandle" ∧ (yJ0_charAt_5068e).cls ≠ "java/lang/invoke/VarHandle" ∧ (parseMethodDescriptor (yJ0_charAt_5068e).desc).map (fun d => d.parameters.length) = some 1 := by decide +kernel
theorem yd_X1_isAtDigit : (yX1_isAtDigit).cls ≠ "java/lang/invoke/MethodHandle" ∧ (yX1_isAtDigit).cls ≠ "java/lang/invoke/VarHandle" ∧ (parseMethodDescriptor (yX1_isAtDigit).desc).map (fun d => d.parameters.length) = some 0 := by decide +kernel
theorem yd_X1_readNumber : (yX1_readNumber).cls ≠ "java/lang/invoke/MethodHandle" ∧ (yX1_readNumber).cls ≠ "java/lang/invoke/VarHandle" ∧ (parseMethodDescriptor (yX1_readNumber).desc).map (fun d => d.parameters.length) = some 2 := by decide +kernel
theorem yd_X6_addType : (yX6_addType).cls ≠ "java/lang/invoke/MethodHandle" ∧ (yX6_addType).cls ≠ "java/lang/invoke/VarHandle" ∧ (parseMethodDescriptor (yX6_addType).desc).map (fun d => d.parameters.length) = some 1 := by decide +kernel
theorem yd_X5_add : (yX5_add).cls ≠ "java/lang/invoke/MethodHandle" ∧ (yX5_add).cls ≠ "java/lang/invoke/VarHandle" ∧ (parseMethodDescriptor (yX5_add).desc).map (fun d => d.parameters.length) = some 1 := by decide +kernel
theorem yd_X6_addFeeder : (yX6_addFeeder).cls ≠ "java/lang/invoke/MethodHandle" ∧ (yX6_addFeeder).cls ≠ "java/lang/invoke/VarHandle" ∧ (parseMethodDescriptor (yX6_addFeeder).desc).map (fun d => d.parameters.length) = some 4 := by decide +kernel
theorem yd_X0_addSpot : (yX0_addSpot).cls ≠ "java/lang/invoke/MethodHandle" ∧ (yX0_addSpot).cls ≠ "java/lang/invoke/VarHandle" ∧ (parseMethodDescriptor (yX0_addSpot).desc).map (fun d => d.parameters.length) = some 3 := by decide +kernel
theorem yd_X0_wouldCircle : (yX0_wouldCircle).cls ≠ "java/lang/invoke/MethodHandle" ∧ (yX0_wouldCircle).cls ≠ "java/lang/invoke/VarHandle" ∧ (parseMethodDescriptor (yX0_wouldCircle).desc).map (fun d => d.parameters.length) = some 2 := by decide +kernel
theorem yd_X0_pairIndex : (yX0_pairIndex).cls ≠ "java/lang/invoke/MethodHandle" ∧ (yX0_pairIndex).cls ≠ "java/lang/invoke/VarHandle" ∧ (parseMethodDescriptor (yX0_pairIndex).desc).map (fun d => d.parameters.length) = some 2 := by decide +kernel
theorem yd_X0_addPair : (yX0_addPair).cls ≠ "java/lang/invoke/MethodHandle" ∧ (yX0_addPair).cls ≠ "java/lang/invoke/VarHandle" ∧ (parseMethodDescriptor (yX0_addPair).desc).map (fun d => d.parameters.length) = some 2 := by decide +kernel
theorem yd_X1_readWord : (yX1_readWord).cls ≠ "java/lang/invoke/MethodHandle" ∧ (yX1_readWord).cls ≠ "java/lang/invoke/VarHandle" ∧ (parseMethodDescriptor (yX1_readWord).desc).map (fun d => d.parameters.length) = some 0 := by decide +kernel
theorem yd_X1_isWord : (yX1_isWord).cls ≠ "java/lang/invoke/MethodHandle" ∧ (yX1_isWord).cls ≠ "java/lang/invoke/VarHandle" ∧ (parseMethodDescriptor (yX1_isWord).desc).map (fun d => d.parameters.length) = some 1 := by decide +kernel
theorem yd_X1_readSettings : (yX1_readSettings).cls ≠ "java/lang/invoke/MethodHandle" ∧ (yX1_readSettings).cls ≠ "java/lang/invoke/VarHandle" ∧ (parseMethodDescriptor (yX1_readSettings).desc).map (fun d => d.parameters.length) = some 2 := by decide +kernel
theorem yd_X1_readBefore : (yX1_readBefore).cls ≠ "java/lang/invoke/MethodHandle" ∧ (yX1_readBefore).cls ≠ "java/lang/invoke/VarHandle" ∧ (parseMethodDescriptor (yX1_readBefore).desc).map (fun d => d.parameters.length) = some 0 := by decide +kernel
theorem yd_X1_readSpot : (yX1_readSpot).cls ≠ "java/lang/invoke/MethodHandle" ∧ (yX1_readSpot).cls ≠ "java/lang/invoke/VarHandle" ∧ (parseMethodDescriptor (yX1_readSpot).desc).map (fun d => d.parameters.length) = some 0 := by decide +kernel
theorem yd_X1_readFeeder : (yX1_readFeeder).cls ≠ "java/lang/invoke/MethodHandle" ∧ (yX1_readFeeder).cls ≠ "java/lang/invoke/VarHandle" ∧ (parseMethodDescriptor (yX1_readFeeder).desc).map (fun d => d.parameters.length) = some 0 := by decide +kernel
theorem yd_X1_readKind : (yX1_readKind).cls ≠ "java/lang/invoke/MethodHandle" ∧ (yX1_readKind).cls ≠ "java/lang/invoke/VarHandle" ∧ (parseMethodDescriptor (yX1_readKind).desc).map (fun d => d.parameters.length) = some 0 := by decide +kernel
theorem yd_X1_readNozzles : (yX1_readNozzles).cls ≠ "java/lang/invoke/MethodHandle" ∧ (yX1_readNozzles).cls ≠ "java/lang/invoke/VarHandle" ∧ (parseMethodDescriptor (yX1_readNozzles).desc).map (fun d => d.parameters.length) = some 0 := by decide +kernel
theorem yd_X6_clear : (yX6_clear).cls ≠ "java/lang/invoke/MethodHandle" ∧ (yX6_clear).cls ≠ "java/lang/invoke/VarHandle" ∧ (parseMethodDescriptor (yX6_clear).desc).map (fun d => d.parameters.length) = some 0 := by decide +kernel
theorem yd_X1_readMachine : (yX1_readMachine).cls ≠ "java/lang/invoke/MethodHandle" ∧ (yX1_readMachine).cls ≠ "java/lang/invoke/VarHandle" ∧ (parseMethodDescriptor (yX1_readMachine).desc).map (fun d => d.parameters.length) = some 0 := by decide +kernel
theorem yd_X1_readSemicolon : (yX1_readSemicolon).cls ≠ "java/lang/invoke/MethodHandle" ∧ (yX1_readSemicolon).cls ≠ "java/lang/invoke/VarHandle" ∧ (parseMethodDescriptor (yX1_readSemicolon).desc).map (fun d => d.parameters.length) = some 0 := by decide +kernel
theorem yd_X1_readStatement : (yX1_readStatement).cls ≠ "java/lang/invoke/MethodHandle" ∧ (yX1_readStatement).cls ≠ "java/lang/invoke/VarHandle" ∧ (parseMethodDescriptor (yX1_readStatement).desc).map (fun d => d.parameters.length) = some 0 := by decide +kernel
