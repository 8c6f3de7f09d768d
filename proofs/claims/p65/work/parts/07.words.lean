/-! words of the tables, by their places -/
def lw_q2 : MethodName × Nat := (⟨"PlacerHead$Spindle", "dropPart", "()V"⟩, 8)
theorem lw_qm2 : lw_q2 ∈ lw_privs := (List.mem_append_left _ (List.mem_of_getElem? (i := 2) rfl))
def lw_q7 : MethodName × Nat := (⟨"PlacerHead$Machine", "inReels", "(I)I"⟩, 16)
theorem lw_qm7 : lw_q7 ∈ lw_privs := (List.mem_append_left _ (List.mem_of_getElem? (i := 7) rfl))
def lw_q8 : MethodName × Nat := (⟨"PlacerHead$Feeder", "allParts", "()I"⟩, 9)
theorem lw_qm8 : lw_q8 ∈ lw_privs := (List.mem_append_left _ (List.mem_of_getElem? (i := 8) rfl))
def lw_q9 : MethodName × Nat := (⟨"PlacerHead$Machine", "heldOf", "(I)I"⟩, 16)
theorem lw_qm9 : lw_q9 ∈ lw_privs := (List.mem_append_left _ (List.mem_of_getElem? (i := 9) rfl))
def lw_q27 : MethodName × Nat := (⟨"PlacerHead$Feeder", "clear", "(IIII)V"⟩, 9)
theorem lw_qm27 : lw_q27 ∈ lw_privs := (List.mem_append_right _ (List.mem_append_left _ (List.mem_of_getElem? (i := 11) rfl)))
def lw_q32 : MethodName × Nat := (⟨"PlacerHead$Board", "firstsOf", "(J)J"⟩, 12)
theorem lw_qm32 : lw_q32 ∈ lw_privs := (List.mem_append_right _ (List.mem_append_right _ (List.mem_append_left _ (List.mem_of_getElem? (i := 0) rfl))))
def lw_q43 : MethodName × Nat := (⟨"PlacerHead$Machine", "changeTo", "(LPlacerHead$Spindle;I)V"⟩, 16)
theorem lw_qm43 : lw_q43 ∈ lw_privs := (List.mem_append_right _ (List.mem_append_right _ (List.mem_append_left _ (List.mem_of_getElem? (i := 11) rfl))))
def lw_q44 : MethodName × Nat := (⟨"PlacerHead$Machine", "goTo", "(III)V"⟩, 16)
theorem lw_qm44 : lw_q44 ∈ lw_privs := (List.mem_append_right _ (List.mem_append_right _ (List.mem_append_left _ (List.mem_of_getElem? (i := 12) rfl))))
def lw_q45 : MethodName × Nat := (⟨"PlacerHead$Machine", "wayTo", "(II)I"⟩, 16)
theorem lw_qm45 : lw_q45 ∈ lw_privs := (List.mem_append_right _ (List.mem_append_right _ (List.mem_append_left _ (List.mem_of_getElem? (i := 13) rfl))))
def lw_q46 : MethodName × Nat := (⟨"PlacerHead$Machine", "pickFrom", "(LPlacerHead$Spindle;LPlacerHead$Feeder;)I"⟩, 16)
theorem lw_qm46 : lw_q46 ∈ lw_privs := (List.mem_append_right _ (List.mem_append_right _ (List.mem_append_left _ (List.mem_of_getElem? (i := 14) rfl))))
def lw_q47 : MethodName × Nat := (⟨"PlacerHead$Machine", "isWorn", "(LPlacerHead$Spindle;)Z"⟩, 16)
theorem lw_qm47 : lw_q47 ∈ lw_privs := (List.mem_append_right _ (List.mem_append_right _ (List.mem_append_left _ (List.mem_of_getElem? (i := 15) rfl))))
def lw_q48 : MethodName × Nat := (⟨"PlacerHead$Machine", "draw", "()I"⟩, 16)
theorem lw_qm48 : lw_q48 ∈ lw_privs := (List.mem_append_right _ (List.mem_append_right _ (List.mem_append_right _ (List.mem_append_left _ (List.mem_of_getElem? (i := 0) rfl)))))
def lw_q49 : MethodName × Nat := (⟨"PlacerHead$Feeder", "spliceIfEmpty", "()I"⟩, 9)
theorem lw_qm49 : lw_q49 ∈ lw_privs := (List.mem_append_right _ (List.mem_append_right _ (List.mem_append_right _ (List.mem_append_left _ (List.mem_of_getElem? (i := 1) rfl)))))
def lw_q50 : MethodName × Nat := (⟨"PlacerHead$Machine", "lookAt", "(LPlacerHead$Spindle;)I"⟩, 16)
theorem lw_qm50 : lw_q50 ∈ lw_privs := (List.mem_append_right _ (List.mem_append_right _ (List.mem_append_right _ (List.mem_append_left _ (List.mem_of_getElem? (i := 2) rfl)))))
def lw_q51 : MethodName × Nat := (⟨"PlacerHead$Machine", "reject", "(LPlacerHead$Spindle;)V"⟩, 16)
theorem lw_qm51 : lw_q51 ∈ lw_privs := (List.mem_append_right _ (List.mem_append_right _ (List.mem_append_right _ (List.mem_append_left _ (List.mem_of_getElem? (i := 3) rfl)))))
def lw_q52 : MethodName × Nat := (⟨"PlacerHead$Machine", "putOn", "(LPlacerHead$Spindle;II)V"⟩, 16)
theorem lw_qm52 : lw_q52 ∈ lw_privs := (List.mem_append_right _ (List.mem_append_right _ (List.mem_append_right _ (List.mem_append_left _ (List.mem_of_getElem? (i := 4) rfl)))))
def lw_q53 : MethodName × Nat := (⟨"PlacerHead$Board", "fill", "(III)V"⟩, 12)
theorem lw_qm53 : lw_q53 ∈ lw_privs := (List.mem_append_right _ (List.mem_append_right _ (List.mem_append_right _ (List.mem_append_left _ (List.mem_of_getElem? (i := 5) rfl)))))
def lw_q54 : MethodName × Nat := (⟨"PlacerHead$Machine", "cleanOf", "(LPlacerHead$Spindle;)V"⟩, 16)
theorem lw_qm54 : lw_q54 ∈ lw_privs := (List.mem_append_right _ (List.mem_append_right _ (List.mem_append_right _ (List.mem_append_left _ (List.mem_of_getElem? (i := 6) rfl)))))
def lw_q55 : MethodName × Nat := (⟨"PlacerHead$Journal", "note", "(III)V"⟩, 9)
theorem lw_qm55 : lw_q55 ∈ lw_privs := (List.mem_append_right _ (List.mem_append_right _ (List.mem_append_right _ (List.mem_append_left _ (List.mem_of_getElem? (i := 7) rfl)))))
def lw_q56 : MethodName × Nat := (⟨"PlacerHead$Board", "isOpen", "(I)Z"⟩, 12)
theorem lw_qm56 : lw_q56 ∈ lw_privs := (List.mem_append_right _ (List.mem_append_right _ (List.mem_append_right _ (List.mem_append_left _ (List.mem_of_getElem? (i := 8) rfl)))))
def lw_q61 : MethodName × Nat := (⟨"PlacerHead$Board", "isFilled", "(I)Z"⟩, 12)
theorem lw_qm61 : lw_q61 ∈ lw_privs := (List.mem_append_right _ (List.mem_append_right _ (List.mem_append_right _ (List.mem_append_left _ (List.mem_of_getElem? (i := 13) rfl)))))
theorem tb1 {w : Cond} (h : w ∈ tables_1_1) : w ∈ tables_1 := List.mem_append_left _ h
theorem tb2 {w : Cond} (h : w ∈ tables_1_2) : w ∈ tables_1 := List.mem_append_right _ (List.mem_append_left _ h)
theorem tb3 {w : Cond} (h : w ∈ tables_1_3) : w ∈ tables_1 := List.mem_append_right _ (List.mem_append_right _ (List.mem_append_left _ h))
theorem tb4 {w : Cond} (h : w ∈ tables_1_4) : w ∈ tables_1 := List.mem_append_right _ (List.mem_append_right _ (List.mem_append_right _ (List.mem_append_left _ h)))
theorem tb5 {w : Cond} (h : w ∈ tables_1_5) : w ∈ tables_1 := List.mem_append_right _ (List.mem_append_right _ (List.mem_append_right _ (List.mem_append_right _ (List.mem_append_left _ h))))
theorem tb6 {w : Cond} (h : w ∈ tables_1_6) : w ∈ tables_1 := List.mem_append_right _ (List.mem_append_right _ (List.mem_append_right _ (List.mem_append_right _ (List.mem_append_right _ (List.mem_append_left _ h)))))
theorem tb7 {w : Cond} (h : w ∈ tables_1_7) : w ∈ tables_1 := List.mem_append_right _ (List.mem_append_right _ (List.mem_append_right _ (List.mem_append_right _ (List.mem_append_right _ (List.mem_append_right _ (h))))))
theorem ts_2 : Cond.selects (yX8_dropPart).cls yX8_dropPart yX8_dropPart ∈ TBL := inT (List.mem_append_left _ (List.mem_map.mpr ⟨lw_q2, lw_qm2, rfl⟩)) rfl
theorem ts_27 : Cond.selects (yX2_clear).cls yX2_clear yX2_clear ∈ TBL := inT (List.mem_append_left _ (List.mem_map.mpr ⟨lw_q27, lw_qm27, rfl⟩)) rfl
theorem ts_32 : Cond.selects (yX0_firstsOf).cls yX0_firstsOf yX0_firstsOf ∈ TBL := inT (List.mem_append_left _ (List.mem_map.mpr ⟨lw_q32, lw_qm32, rfl⟩)) rfl
theorem ts_43 : Cond.selects (yX6_changeTo).cls yX6_changeTo yX6_changeTo ∈ TBL := inT (List.mem_append_left _ (List.mem_map.mpr ⟨lw_q43, lw_qm43, rfl⟩)) rfl
theorem ts_44 : Cond.selects (yX6_goTo).cls yX6_goTo yX6_goTo ∈ TBL := inT (List.mem_append_left _ (List.mem_map.mpr ⟨lw_q44, lw_qm44, rfl⟩)) rfl
theorem ts_45 : Cond.selects (yX6_wayTo).cls yX6_wayTo yX6_wayTo ∈ TBL := inT (List.mem_append_left _ (List.mem_map.mpr ⟨lw_q45, lw_qm45, rfl⟩)) rfl
theorem ts_46 : Cond.selects (yX6_pickFrom).cls yX6_pickFrom yX6_pickFrom ∈ TBL := inT (List.mem_append_left _ (List.mem_map.mpr ⟨lw_q46, lw_qm46, rfl⟩)) rfl
theorem ts_47 : Cond.selects (yX6_isWorn).cls yX6_isWorn yX6_isWorn ∈ TBL := inT (List.mem_append_left _ (List.mem_map.mpr ⟨lw_q47, lw_qm47, rfl⟩)) rfl
theorem ts_48 : Cond.selects (yX6_draw).cls yX6_draw yX6_draw ∈ TBL := inT (List.mem_append_left _ (List.mem_map.mpr ⟨lw_q48, lw_qm48, rfl⟩)) rfl
theorem ts_49 : Cond.selects (yX2_spliceIfEmpty).cls yX2_spliceIfEmpty yX2_spliceIfEmpty ∈ TBL := inT (List.mem_append_left _ (List.mem_map.mpr ⟨lw_q49, lw_qm49, rfl⟩)) rfl
theorem ts_50 : Cond.selects (yX6_lookAt).cls yX6_lookAt yX6_lookAt ∈ TBL := inT (List.mem_append_left _ (List.mem_map.mpr ⟨lw_q50, lw_qm50, rfl⟩)) rfl
theorem ts_51 : Cond.selects (yX6_reject).cls yX6_reject yX6_reject ∈ TBL := inT (List.mem_append_left _ (List.mem_map.mpr ⟨lw_q51, lw_qm51, rfl⟩)) rfl
theorem ts_52 : Cond.selects (yX6_putOn).cls yX6_putOn yX6_putOn ∈ TBL := inT (List.mem_append_left _ (List.mem_map.mpr ⟨lw_q52, lw_qm52, rfl⟩)) rfl
theorem ts_53 : Cond.selects (yX0_fill).cls yX0_fill yX0_fill ∈ TBL := inT (List.mem_append_left _ (List.mem_map.mpr ⟨lw_q53, lw_qm53, rfl⟩)) rfl
theorem ts_54 : Cond.selects (yX6_cleanOf).cls yX6_cleanOf yX6_cleanOf ∈ TBL := inT (List.mem_append_left _ (List.mem_map.mpr ⟨lw_q54, lw_qm54, rfl⟩)) rfl
theorem ts_55 : Cond.selects (yX4_note).cls yX4_note yX4_note ∈ TBL := inT (List.mem_append_left _ (List.mem_map.mpr ⟨lw_q55, lw_qm55, rfl⟩)) rfl
theorem ts_56 : Cond.selects (yX0_isOpen).cls yX0_isOpen yX0_isOpen ∈ TBL := inT (List.mem_append_left _ (List.mem_map.mpr ⟨lw_q56, lw_qm56, rfl⟩)) rfl
theorem ts_61 : Cond.selects (yX0_isFilled).cls yX0_isFilled yX0_isFilled ∈ TBL := inT (List.mem_append_left _ (List.mem_map.mpr ⟨lw_q61, lw_qm61, rfl⟩)) rfl
theorem ts_7 : Cond.selects (yX6_inReels).cls yX6_inReels yX6_inReels ∈ TBL := inT (List.mem_append_left _ (List.mem_map.mpr ⟨lw_q7, lw_qm7, rfl⟩)) rfl
theorem ts_8 : Cond.selects (yX2_allParts).cls yX2_allParts yX2_allParts ∈ TBL := inT (List.mem_append_left _ (List.mem_map.mpr ⟨lw_q8, lw_qm8, rfl⟩)) rfl
theorem ts_9 : Cond.selects (yX6_heldOf).cls yX6_heldOf yX6_heldOf ∈ TBL := inT (List.mem_append_left _ (List.mem_map.mpr ⟨lw_q9, lw_qm9, rfl⟩)) rfl
theorem tw_1_1 : (Jvm.Cond.initialized "PlacerHead") ∈ TBL := inTb (tb1 (List.mem_of_getElem? (i := 1) rfl)) rfl
theorem tw_1_101 : (Jvm.Cond.fieldLink "PlacerHead$Board" (15 : Nat) "PlacerHead$Board" "x" "[I") ∈ TBL := inTb (tb1 (List.mem_of_getElem? (i := 101) rfl)) rfl
theorem tw_1_103 : (Jvm.Cond.fieldLinkNest "PlacerHead$Machine" (255 : Nat) "PlacerHead$Board" "x" "[I" "PlacerHead") ∈ lw_tbl := List.mem_append_right _ (tb1 (List.mem_of_getElem? (i := 103) rfl))
theorem tw_1_104 : (Jvm.Cond.fieldLink "PlacerHead$Board" (18 : Nat) "PlacerHead$Board" "y" "[I") ∈ TBL := inTb (tb1 (List.mem_of_getElem? (i := 104) rfl)) rfl
theorem tw_1_106 : (Jvm.Cond.fieldLinkNest "PlacerHead$Machine" (257 : Nat) "PlacerHead$Board" "y" "[I" "PlacerHead") ∈ lw_tbl := List.mem_append_right _ (tb1 (List.mem_of_getElem? (i := 106) rfl))
theorem tw_1_107 : (Jvm.Cond.fieldLink "PlacerHead$Board" (21 : Nat) "PlacerHead$Board" "filledAt" "[I") ∈ TBL := inTb (tb1 (List.mem_of_getElem? (i := 107) rfl)) rfl
theorem tw_1_108 : (Jvm.Cond.fieldLink "PlacerHead$Board" (24 : Nat) "PlacerHead$Board" "filledBy" "[I") ∈ TBL := inTb (tb1 (List.mem_of_getElem? (i := 108) rfl)) rfl
theorem tw_1_109 : (Jvm.Cond.fieldLink "PlacerHead$Board" (27 : Nat) "PlacerHead$Board" "ofKind" "[J") ∈ TBL := inTb (tb1 (List.mem_of_getElem? (i := 109) rfl)) rfl
theorem tw_1_111 : (Jvm.Cond.fieldLink "PlacerHead$Board" (47 : Nat) "PlacerHead$Board" "open" "J") ∈ TBL := inTb (tb1 (List.mem_of_getElem? (i := 111) rfl)) rfl
theorem tw_1_113 : (Jvm.Cond.fieldLink "PlacerHead$Board" (51 : Nat) "PlacerHead$Board" "filled" "J") ∈ TBL := inTb (tb1 (List.mem_of_getElem? (i := 113) rfl)) rfl
theorem tw_1_115 : (Jvm.Cond.fieldLink "PlacerHead$Board" (54 : Nat) "PlacerHead$Board" "pairs" "I") ∈ TBL := inTb (tb1 (List.mem_of_getElem? (i := 115) rfl)) rfl
theorem tw_1_118 : (Jvm.Cond.fieldLink "PlacerHead$Board" (31 : Nat) "PlacerHead$Board" "first" "[I") ∈ TBL := inTb (tb1 (List.mem_of_getElem? (i := 118) rfl)) rfl
theorem tw_1_119 : (Jvm.Cond.fieldLink "PlacerHead$Board" (34 : Nat) "PlacerHead$Board" "second" "[I") ∈ TBL := inTb (tb1 (List.mem_of_getElem? (i := 119) rfl)) rfl
theorem tw_1_152 : (Jvm.Cond.fieldLink "PlacerHead$Journal" (27 : Nat) "PlacerHead$Journal" "size" "I") ∈ TBL := inTb (tb1 (List.mem_of_getElem? (i := 152) rfl)) rfl
theorem tw_1_154 : (Jvm.Cond.fieldLink "PlacerHead$Journal" (31 : Nat) "PlacerHead$Journal" "oldest" "I") ∈ TBL := inTb (tb1 (List.mem_of_getElem? (i := 154) rfl)) rfl
theorem tw_1_155 : (Jvm.Cond.fieldLink "PlacerHead$Journal" (9 : Nat) "PlacerHead$Journal" "codes" "[I") ∈ TBL := inTb (tb1 (List.mem_of_getElem? (i := 155) rfl)) rfl
theorem tw_1_156 : (Jvm.Cond.fieldLink "PlacerHead$Journal" (15 : Nat) "PlacerHead$Journal" "results" "[I") ∈ TBL := inTb (tb1 (List.mem_of_getElem? (i := 156) rfl)) rfl
theorem tw_1_157 : (Jvm.Cond.fieldLink "PlacerHead$Journal" (18 : Nat) "PlacerHead$Journal" "ends" "[I") ∈ TBL := inTb (tb1 (List.mem_of_getElem? (i := 157) rfl)) rfl
theorem tw_1_159 : (Jvm.Cond.fieldLinkNest "PlacerHead$Machine" (207 : Nat) "PlacerHead$Journal" "times" "[I" "PlacerHead") ∈ lw_tbl := List.mem_append_right _ (tb1 (List.mem_of_getElem? (i := 159) rfl))
theorem tw_1_162 : (Jvm.Cond.fieldLinkNest "PlacerHead$Machine" (210 : Nat) "PlacerHead$Journal" "spent" "[I" "PlacerHead") ∈ lw_tbl := List.mem_append_right _ (tb1 (List.mem_of_getElem? (i := 162) rfl))
theorem tw_1_165 : (Jvm.Cond.fieldLinkNest "PlacerHead$Machine" (252 : Nat) "PlacerHead$Journal" "goodLooks" "I" "PlacerHead") ∈ lw_tbl := List.mem_append_right _ (tb1 (List.mem_of_getElem? (i := 165) rfl))
theorem tw_1_168 : (Jvm.Cond.fieldLinkNest "PlacerHead$Machine" (240 : Nat) "PlacerHead$Journal" "splices" "I" "PlacerHead") ∈ lw_tbl := List.mem_append_right _ (tb1 (List.mem_of_getElem? (i := 168) rfl))
theorem tw_1_18 : (Jvm.Cond.initialized "java/lang/Math") ∈ TBL := inTb (tb1 (List.mem_of_getElem? (i := 18) rfl)) rfl
theorem tw_1_193 : (Jvm.Cond.fieldLink "PlacerHead$Spindle" (9 : Nat) "PlacerHead$Spindle" "nozzle" "I") ∈ TBL := inTb (tb1 (List.mem_of_getElem? (i := 193) rfl)) rfl
theorem tw_1_195 : (Jvm.Cond.fieldLinkNest "PlacerHead$Machine" (216 : Nat) "PlacerHead$Spindle" "nozzle" "I" "PlacerHead") ∈ lw_tbl := List.mem_append_right _ (tb1 (List.mem_of_getElem? (i := 195) rfl))
theorem tw_1_197 : (Jvm.Cond.fieldLink "PlacerHead$Spindle" (30 : Nat) "PlacerHead$Spindle" "held" "I") ∈ TBL := inTb (tb1 (List.mem_of_getElem? (i := 197) rfl)) rfl
theorem tw_1_199 : (Jvm.Cond.fieldLinkNest "PlacerHead$Machine" (133 : Nat) "PlacerHead$Spindle" "held" "I" "PlacerHead") ∈ lw_tbl := List.mem_append_right _ (tb1 (List.mem_of_getElem? (i := 199) rfl))
theorem tw_1_2 : (Jvm.Cond.initialized "PlacerHead$Machine") ∈ TBL := inTb (tb1 (List.mem_of_getElem? (i := 2) rfl)) rfl
theorem tw_1_201 : (Jvm.Cond.fieldLink "PlacerHead$Spindle" (33 : Nat) "PlacerHead$Spindle" "ready" "Z") ∈ TBL := inTb (tb1 (List.mem_of_getElem? (i := 201) rfl)) rfl
theorem tw_1_203 : (Jvm.Cond.fieldLinkNest "PlacerHead$Machine" (249 : Nat) "PlacerHead$Spindle" "ready" "Z" "PlacerHead") ∈ lw_tbl := List.mem_append_right _ (tb1 (List.mem_of_getElem? (i := 203) rfl))
theorem tw_1_205 : (Jvm.Cond.fieldLink "PlacerHead$Spindle" (37 : Nat) "PlacerHead$Spindle" "looks" "I") ∈ TBL := inTb (tb1 (List.mem_of_getElem? (i := 205) rfl)) rfl
theorem tw_1_206 : (Jvm.Cond.fieldLinkNest "PlacerHead$Machine" (246 : Nat) "PlacerHead$Spindle" "looks" "I" "PlacerHead") ∈ lw_tbl := List.mem_append_right _ (tb1 (List.mem_of_getElem? (i := 206) rfl))
theorem tw_1_207 : (Jvm.Cond.fieldLink "PlacerHead$Spindle" (18 : Nat) "PlacerHead$Spindle" "placed" "I") ∈ TBL := inTb (tb1 (List.mem_of_getElem? (i := 207) rfl)) rfl
theorem tw_1_208 : (Jvm.Cond.fieldLinkNest "PlacerHead$Machine" (262 : Nat) "PlacerHead$Spindle" "placed" "I" "PlacerHead") ∈ lw_tbl := List.mem_append_right _ (tb1 (List.mem_of_getElem? (i := 208) rfl))
theorem tw_1_209 : (Jvm.Cond.fieldLink "PlacerHead$Spindle" (21 : Nat) "PlacerHead$Spindle" "changes" "I") ∈ TBL := inTb (tb1 (List.mem_of_getElem? (i := 209) rfl)) rfl
theorem tw_1_210 : (Jvm.Cond.fieldLinkNest "PlacerHead$Machine" (219 : Nat) "PlacerHead$Spindle" "changes" "I" "PlacerHead") ∈ lw_tbl := List.mem_append_right _ (tb1 (List.mem_of_getElem? (i := 210) rfl))
theorem tw_1_211 : (Jvm.Cond.fieldLink "PlacerHead$Spindle" (24 : Nat) "PlacerHead$Spindle" "rejected" "I") ∈ TBL := inTb (tb1 (List.mem_of_getElem? (i := 211) rfl)) rfl
theorem tw_1_212 : (Jvm.Cond.fieldLinkNest "PlacerHead$Machine" (267 : Nat) "PlacerHead$Spindle" "rejected" "I" "PlacerHead") ∈ lw_tbl := List.mem_append_right _ (tb1 (List.mem_of_getElem? (i := 212) rfl))
theorem tw_1_213 : (Jvm.Cond.fieldLink "PlacerHead$Spindle" (27 : Nat) "PlacerHead$Spindle" "wear" "I") ∈ TBL := inTb (tb1 (List.mem_of_getElem? (i := 213) rfl)) rfl
theorem tw_1_214 : (Jvm.Cond.fieldLinkNest "PlacerHead$Machine" (174 : Nat) "PlacerHead$Spindle" "wear" "I" "PlacerHead") ∈ lw_tbl := List.mem_append_right _ (tb1 (List.mem_of_getElem? (i := 214) rfl))
theorem tw_1_237 : (Jvm.Cond.fieldLink "PlacerHead$Feeder" (15 : Nat) "PlacerHead$Feeder" "kind" "I") ∈ TBL := inTb (tb1 (List.mem_of_getElem? (i := 237) rfl)) rfl
theorem tw_1_238 : (Jvm.Cond.fieldLinkNest "PlacerHead$Machine" (120 : Nat) "PlacerHead$Feeder" "kind" "I" "PlacerHead") ∈ lw_tbl := List.mem_append_right _ (tb1 (List.mem_of_getElem? (i := 238) rfl))
theorem tw_1_28 : (Jvm.Cond.initialized "java/lang/Long") ∈ TBL := inTb (tb1 (List.mem_of_getElem? (i := 28) rfl)) rfl
theorem tw_1_4 : (Jvm.Cond.initialized "PlacerHead$Board") ∈ TBL := inTb (tb1 (List.mem_of_getElem? (i := 4) rfl)) rfl
theorem tw_1_5 : (Jvm.Cond.initialized "PlacerHead$Journal") ∈ TBL := inTb (tb1 (List.mem_of_getElem? (i := 5) rfl)) rfl
theorem tw_1_51 : (Jvm.Cond.fieldLink "PlacerHead$Kinds" (30 : Nat) "PlacerHead$Kinds" "size" "I") ∈ TBL := inTb (tb1 (List.mem_of_getElem? (i := 51) rfl)) rfl
theorem tw_1_55 : (Jvm.Cond.fieldLink "PlacerHead$Kinds" (9 : Nat) "PlacerHead$Kinds" "nozzle" "[I") ∈ TBL := inTb (tb1 (List.mem_of_getElem? (i := 55) rfl)) rfl
theorem tw_1_59 : (Jvm.Cond.fieldLinkNest "PlacerHead$Machine" (117 : Nat) "PlacerHead$Kinds" "came" "[I" "PlacerHead") ∈ lw_tbl := List.mem_append_right _ (tb1 (List.mem_of_getElem? (i := 59) rfl))
theorem tw_1_6 : (Jvm.Cond.initialized "PlacerHead$Spindle") ∈ TBL := inTb (tb1 (List.mem_of_getElem? (i := 6) rfl)) rfl
theorem tw_1_62 : (Jvm.Cond.fieldLinkNest "PlacerHead$Machine" (146 : Nat) "PlacerHead$Kinds" "placed" "[I" "PlacerHead") ∈ lw_tbl := List.mem_append_right _ (tb1 (List.mem_of_getElem? (i := 62) rfl))
theorem tw_1_64 : (Jvm.Cond.fieldLinkNest "PlacerHead$Machine" (149 : Nat) "PlacerHead$Kinds" "rejected" "[I" "PlacerHead") ∈ lw_tbl := List.mem_append_right _ (tb1 (List.mem_of_getElem? (i := 64) rfl))
theorem tw_1_66 : (Jvm.Cond.fieldLinkNest "PlacerHead$Machine" (152 : Nat) "PlacerHead$Kinds" "lost" "[I" "PlacerHead") ∈ lw_tbl := List.mem_append_right _ (tb1 (List.mem_of_getElem? (i := 66) rfl))
theorem tw_1_68 : (Jvm.Cond.fieldLinkNest "PlacerHead$Machine" (155 : Nat) "PlacerHead$Kinds" "away" "[I" "PlacerHead") ∈ lw_tbl := List.mem_append_right _ (tb1 (List.mem_of_getElem? (i := 68) rfl))
theorem tw_1_7 : (Jvm.Cond.initialized "PlacerHead$Feeder") ∈ TBL := inTb (tb1 (List.mem_of_getElem? (i := 7) rfl)) rfl
theorem tw_1_8 : (Jvm.Cond.initialized "java/lang/System") ∈ TBL := inTb (tb1 (List.mem_of_getElem? (i := 8) rfl)) rfl
theorem tw_1_95 : (Jvm.Cond.fieldLink "PlacerHead$Board" (37 : Nat) "PlacerHead$Board" "size" "I") ∈ TBL := inTb (tb1 (List.mem_of_getElem? (i := 95) rfl)) rfl
theorem tw_1_99 : (Jvm.Cond.fieldLink "PlacerHead$Board" (9 : Nat) "PlacerHead$Board" "kind" "[I") ∈ TBL := inTb (tb1 (List.mem_of_getElem? (i := 99) rfl)) rfl
theorem tw_2_1 : (Jvm.Cond.fieldLink "PlacerHead$Feeder" (19 : Nat) "PlacerHead$Feeder" "x" "I") ∈ TBL := inTb (tb2 (List.mem_of_getElem? (i := 1) rfl)) rfl
theorem tw_2_10 : (Jvm.Cond.fieldLink "PlacerHead$Feeder" (28 : Nat) "PlacerHead$Feeder" "waiting" "I") ∈ TBL := inTb (tb2 (List.mem_of_getElem? (i := 10) rfl)) rfl
theorem tw_2_103 : (Jvm.Cond.fieldLink "PlacerHead$Machine" (40 : Nat) "PlacerHead$Machine" "board" "LPlacerHead$Board;") ∈ TBL := inTb (tb2 (List.mem_of_getElem? (i := 103) rfl)) rfl
theorem tw_2_109 : (Jvm.Cond.fieldLink "PlacerHead$Machine" (47 : Nat) "PlacerHead$Machine" "journal" "LPlacerHead$Journal;") ∈ TBL := inTb (tb2 (List.mem_of_getElem? (i := 109) rfl)) rfl
theorem tw_2_111 : (Jvm.Cond.fieldLink "PlacerHead$Machine" (82 : Nat) "PlacerHead$Machine" "x" "I") ∈ TBL := inTb (tb2 (List.mem_of_getElem? (i := 111) rfl)) rfl
theorem tw_2_113 : (Jvm.Cond.fieldLink "PlacerHead$Machine" (85 : Nat) "PlacerHead$Machine" "y" "I") ∈ TBL := inTb (tb2 (List.mem_of_getElem? (i := 113) rfl)) rfl
theorem tw_2_115 : (Jvm.Cond.fieldLink "PlacerHead$Machine" (88 : Nat) "PlacerHead$Machine" "time" "I") ∈ TBL := inTb (tb2 (List.mem_of_getElem? (i := 115) rfl)) rfl
theorem tw_2_118 : (Jvm.Cond.fieldLink "PlacerHead$Machine" (91 : Nat) "PlacerHead$Machine" "rejectsInRow" "I") ∈ TBL := inTb (tb2 (List.mem_of_getElem? (i := 118) rfl)) rfl
theorem tw_2_121 : (Jvm.Cond.fieldLink "PlacerHead$Machine" (94 : Nat) "PlacerHead$Machine" "halted" "Z") ∈ TBL := inTb (tb2 (List.mem_of_getElem? (i := 121) rfl)) rfl
theorem tw_2_13 : (Jvm.Cond.fieldLink "PlacerHead$Feeder" (9 : Nat) "PlacerHead$Feeder" "reels" "[I") ∈ TBL := inTb (tb2 (List.mem_of_getElem? (i := 13) rfl)) rfl
theorem tw_2_14 : (Jvm.Cond.fieldLink "PlacerHead$Feeder" (31 : Nat) "PlacerHead$Feeder" "taken" "I") ∈ TBL := inTb (tb2 (List.mem_of_getElem? (i := 14) rfl)) rfl
theorem tw_2_15 : (Jvm.Cond.fieldLinkNest "PlacerHead$Machine" (237 : Nat) "PlacerHead$Feeder" "taken" "I" "PlacerHead") ∈ lw_tbl := List.mem_append_right _ (tb2 (List.mem_of_getElem? (i := 15) rfl))
theorem tw_2_16 : (Jvm.Cond.fieldLink "PlacerHead$Feeder" (34 : Nat) "PlacerHead$Feeder" "lost" "I") ∈ TBL := inTb (tb2 (List.mem_of_getElem? (i := 16) rfl)) rfl
theorem tw_2_17 : (Jvm.Cond.fieldLinkNest "PlacerHead$Machine" (235 : Nat) "PlacerHead$Feeder" "lost" "I" "PlacerHead") ∈ lw_tbl := List.mem_append_right _ (tb2 (List.mem_of_getElem? (i := 17) rfl))
theorem tw_2_18 : (Jvm.Cond.fieldLink "PlacerHead$Feeder" (37 : Nat) "PlacerHead$Feeder" "failsBySplice" "Z") ∈ TBL := inTb (tb2 (List.mem_of_getElem? (i := 18) rfl)) rfl
theorem tw_2_19 : (Jvm.Cond.fieldLinkNest "PlacerHead$Machine" (222 : Nat) "PlacerHead$Feeder" "failsBySplice" "Z" "PlacerHead") ∈ lw_tbl := List.mem_append_right _ (tb2 (List.mem_of_getElem? (i := 19) rfl))
theorem tw_2_2 : (Jvm.Cond.fieldLinkNest "PlacerHead$Machine" (126 : Nat) "PlacerHead$Feeder" "x" "I" "PlacerHead") ∈ lw_tbl := List.mem_append_right _ (tb2 (List.mem_of_getElem? (i := 2) rfl))
theorem tw_2_3 : (Jvm.Cond.fieldLink "PlacerHead$Feeder" (22 : Nat) "PlacerHead$Feeder" "parts" "I") ∈ TBL := inTb (tb2 (List.mem_of_getElem? (i := 3) rfl)) rfl
theorem tw_2_46 : (Jvm.Cond.static ({ cls := "java/lang/System", name := "arraycopy", desc := "(Ljava/lang/Object;ILjava/lang/Object;II)V" } : Jvm.MethodName)) ∈ TBL := inTb (tb2 (List.mem_of_getElem? (i := 46) rfl)) rfl
theorem tw_2_47 : (Jvm.Cond.native ({ cls := "java/lang/System", name := "arraycopy", desc := "(Ljava/lang/Object;ILjava/lang/Object;II)V" } : Jvm.MethodName)) ∈ TBL := inTb (tb2 (List.mem_of_getElem? (i := 47) rfl)) rfl
theorem tw_2_5 : (Jvm.Cond.fieldLinkNest "PlacerHead$Machine" (123 : Nat) "PlacerHead$Feeder" "parts" "I" "PlacerHead") ∈ lw_tbl := List.mem_append_right _ (tb2 (List.mem_of_getElem? (i := 5) rfl))
theorem tw_2_52 : (Jvm.Cond.methodLink "PlacerHead$Spindle" (15 : Nat) ({ cls := "PlacerHead$Spindle", name := "dropPart", desc := "()V" } : Jvm.MethodName)) ∈ TBL := inTb (tb2 (List.mem_of_getElem? (i := 52) rfl)) rfl
theorem tw_2_54 : (Jvm.Cond.instanceMethod ({ cls := "PlacerHead$Spindle", name := "dropPart", desc := "()V" } : Jvm.MethodName)) ∈ TBL := inTb (tb2 (List.mem_of_getElem? (i := 54) rfl)) rfl
theorem tw_2_55 : (Jvm.Cond.code ({ cls := "PlacerHead$Spindle", name := "dropPart", desc := "()V" } : Jvm.MethodName) prog_10_method_3_code (1 : Nat) (Option.none : Option Jvm.ClassFile.FieldType)) ∈ TBL := inTb (tb2 (List.mem_of_getElem? (i := 55) rfl)) rfl
theorem tw_2_75 : (Jvm.Cond.fieldLink "PlacerHead$Machine" (9 : Nat) "PlacerHead$Machine" "settings" "[I") ∈ TBL := inTb (tb2 (List.mem_of_getElem? (i := 75) rfl)) rfl
theorem tw_2_78 : (Jvm.Cond.fieldLink "PlacerHead$Machine" (65 : Nat) "PlacerHead$Machine" "spindleCount" "I") ∈ TBL := inTb (tb2 (List.mem_of_getElem? (i := 78) rfl)) rfl
theorem tw_2_8 : (Jvm.Cond.fieldLink "PlacerHead$Feeder" (25 : Nat) "PlacerHead$Feeder" "miss" "I") ∈ TBL := inTb (tb2 (List.mem_of_getElem? (i := 8) rfl)) rfl
theorem tw_2_82 : (Jvm.Cond.fieldLink "PlacerHead$Machine" (17 : Nat) "PlacerHead$Machine" "spindles" "[LPlacerHead$Spindle;") ∈ TBL := inTb (tb2 (List.mem_of_getElem? (i := 82) rfl)) rfl
theorem tw_2_85 : (Jvm.Cond.fieldLink "PlacerHead$Machine" (70 : Nat) "PlacerHead$Machine" "types" "I") ∈ TBL := inTb (tb2 (List.mem_of_getElem? (i := 85) rfl)) rfl
theorem tw_2_88 : (Jvm.Cond.fieldLink "PlacerHead$Machine" (21 : Nat) "PlacerHead$Machine" "free" "[I") ∈ TBL := inTb (tb2 (List.mem_of_getElem? (i := 88) rfl)) rfl
theorem tw_2_9 : (Jvm.Cond.fieldLinkNest "PlacerHead$Machine" (229 : Nat) "PlacerHead$Feeder" "miss" "I" "PlacerHead") ∈ lw_tbl := List.mem_append_right _ (tb2 (List.mem_of_getElem? (i := 9) rfl))
theorem tw_2_91 : (Jvm.Cond.fieldLink "PlacerHead$Machine" (27 : Nat) "PlacerHead$Machine" "kinds" "LPlacerHead$Kinds;") ∈ TBL := inTb (tb2 (List.mem_of_getElem? (i := 91) rfl)) rfl
theorem tw_2_95 : (Jvm.Cond.fieldLink "PlacerHead$Machine" (74 : Nat) "PlacerHead$Machine" "feederCount" "I") ∈ TBL := inTb (tb2 (List.mem_of_getElem? (i := 95) rfl)) rfl
theorem tw_2_99 : (Jvm.Cond.fieldLink "PlacerHead$Machine" (33 : Nat) "PlacerHead$Machine" "feeders" "[LPlacerHead$Feeder;") ∈ TBL := inTb (tb2 (List.mem_of_getElem? (i := 99) rfl)) rfl
theorem tw_3_205 : (Jvm.Cond.methodLinkNest "PlacerHead$Machine" (114 : Nat) ({ cls := "PlacerHead$Feeder", name := "clear", desc := "(IIII)V" } : Jvm.MethodName) "PlacerHead") ∈ lw_tbl := List.mem_append_right _ (tb3 (List.mem_of_getElem? (i := 205) rfl))
theorem tw_3_207 : (Jvm.Cond.instanceMethod ({ cls := "PlacerHead$Feeder", name := "clear", desc := "(IIII)V" } : Jvm.MethodName)) ∈ TBL := inTb (tb3 (List.mem_of_getElem? (i := 207) rfl)) rfl
theorem tw_3_208 : (Jvm.Cond.code ({ cls := "PlacerHead$Feeder", name := "clear", desc := "(IIII)V" } : Jvm.MethodName) prog_4_method_2_code (5 : Nat) (Option.none : Option Jvm.ClassFile.FieldType)) ∈ TBL := inTb (tb3 (List.mem_of_getElem? (i := 208) rfl)) rfl
theorem tw_3_227 : (Jvm.Cond.methodLink "PlacerHead$Board" (78 : Nat) ({ cls := "PlacerHead$Board", name := "firstsOf", desc := "(J)J" } : Jvm.MethodName)) ∈ TBL := inTb (tb3 (List.mem_of_getElem? (i := 227) rfl)) rfl
theorem tw_3_229 : (Jvm.Cond.instanceMethod ({ cls := "PlacerHead$Board", name := "firstsOf", desc := "(J)J" } : Jvm.MethodName)) ∈ TBL := inTb (tb3 (List.mem_of_getElem? (i := 229) rfl)) rfl
theorem tw_3_230 : (Jvm.Cond.code ({ cls := "PlacerHead$Board", name := "firstsOf", desc := "(J)J" } : Jvm.MethodName) prog_2_method_18_code (6 : Nat) (Option.some Jvm.ClassFile.FieldType.long)) ∈ TBL := inTb (tb3 (List.mem_of_getElem? (i := 230) rfl)) rfl
theorem tw_3_41 : (Jvm.Cond.methodLink "PlacerHead$Machine" (140 : Nat) ({ cls := "PlacerHead$Machine", name := "inReels", desc := "(I)I" } : Jvm.MethodName)) ∈ TBL := inTb (tb3 (List.mem_of_getElem? (i := 41) rfl)) rfl
theorem tw_3_43 : (Jvm.Cond.instanceMethod ({ cls := "PlacerHead$Machine", name := "inReels", desc := "(I)I" } : Jvm.MethodName)) ∈ TBL := inTb (tb3 (List.mem_of_getElem? (i := 43) rfl)) rfl
theorem tw_3_44 : (Jvm.Cond.code ({ cls := "PlacerHead$Machine", name := "inReels", desc := "(I)I" } : Jvm.MethodName) prog_8_method_8_code (4 : Nat) (Option.some Jvm.ClassFile.FieldType.int)) ∈ TBL := inTb (tb3 (List.mem_of_getElem? (i := 44) rfl)) rfl
theorem tw_3_45 : (Jvm.Cond.methodLinkNest "PlacerHead$Machine" (136 : Nat) ({ cls := "PlacerHead$Feeder", name := "allParts", desc := "()I" } : Jvm.MethodName) "PlacerHead") ∈ lw_tbl := List.mem_append_right _ (tb3 (List.mem_of_getElem? (i := 45) rfl))
theorem tw_3_47 : (Jvm.Cond.instanceMethod ({ cls := "PlacerHead$Feeder", name := "allParts", desc := "()I" } : Jvm.MethodName)) ∈ TBL := inTb (tb3 (List.mem_of_getElem? (i := 47) rfl)) rfl
theorem tw_3_48 : (Jvm.Cond.code ({ cls := "PlacerHead$Feeder", name := "allParts", desc := "()I" } : Jvm.MethodName) prog_4_method_8_code (3 : Nat) (Option.some Jvm.ClassFile.FieldType.int)) ∈ TBL := inTb (tb3 (List.mem_of_getElem? (i := 48) rfl)) rfl
theorem tw_3_49 : (Jvm.Cond.methodLink "PlacerHead$Machine" (143 : Nat) ({ cls := "PlacerHead$Machine", name := "heldOf", desc := "(I)I" } : Jvm.MethodName)) ∈ TBL := inTb (tb3 (List.mem_of_getElem? (i := 49) rfl)) rfl
theorem tw_3_51 : (Jvm.Cond.instanceMethod ({ cls := "PlacerHead$Machine", name := "heldOf", desc := "(I)I" } : Jvm.MethodName)) ∈ TBL := inTb (tb3 (List.mem_of_getElem? (i := 51) rfl)) rfl
theorem tw_3_52 : (Jvm.Cond.code ({ cls := "PlacerHead$Machine", name := "heldOf", desc := "(I)I" } : Jvm.MethodName) prog_8_method_7_code (4 : Nat) (Option.some Jvm.ClassFile.FieldType.int)) ∈ TBL := inTb (tb3 (List.mem_of_getElem? (i := 52) rfl)) rfl
theorem tw_4_16 : (Jvm.Cond.methodLink "PlacerHead$Feeder" (41 : Nat) ({ cls := "java/lang/System", name := "arraycopy", desc := "(Ljava/lang/Object;ILjava/lang/Object;II)V" } : Jvm.MethodName)) ∈ TBL := inTb (tb4 (List.mem_of_getElem? (i := 16) rfl)) rfl
theorem tw_4_163 : (Jvm.Cond.static ({ cls := "java/lang/Math", name := "abs", desc := "(I)I" } : Jvm.MethodName)) ∈ TBL := inTb (tb4 (List.mem_of_getElem? (i := 163) rfl)) rfl
theorem tw_4_164 : (Jvm.Cond.code ({ cls := "java/lang/Math", name := "abs", desc := "(I)I" } : Jvm.MethodName) prog_20_method_59_code (1 : Nat) (Option.some Jvm.ClassFile.FieldType.int)) ∈ TBL := inTb (tb4 (List.mem_of_getElem? (i := 164) rfl)) rfl
theorem tw_4_84 : (Jvm.Cond.static ({ cls := "java/lang/Math", name := "max", desc := "(II)I" } : Jvm.MethodName)) ∈ TBL := inTb (tb4 (List.mem_of_getElem? (i := 84) rfl)) rfl
theorem tw_4_85 : (Jvm.Cond.code ({ cls := "java/lang/Math", name := "max", desc := "(II)I" } : Jvm.MethodName) prog_20_method_65_code (2 : Nat) (Option.some Jvm.ClassFile.FieldType.int)) ∈ TBL := inTb (tb4 (List.mem_of_getElem? (i := 85) rfl)) rfl
theorem tw_5_117 : (Jvm.Cond.methodLink "PlacerHead$Machine" (177 : Nat) ({ cls := "PlacerHead$Machine", name := "changeTo", desc := "(LPlacerHead$Spindle;I)V" } : Jvm.MethodName)) ∈ TBL := inTb (tb5 (List.mem_of_getElem? (i := 117) rfl)) rfl
theorem tw_5_119 : (Jvm.Cond.instanceMethod ({ cls := "PlacerHead$Machine", name := "changeTo", desc := "(LPlacerHead$Spindle;I)V" } : Jvm.MethodName)) ∈ TBL := inTb (tb5 (List.mem_of_getElem? (i := 119) rfl)) rfl
theorem tw_5_120 : (Jvm.Cond.code ({ cls := "PlacerHead$Machine", name := "changeTo", desc := "(LPlacerHead$Spindle;I)V" } : Jvm.MethodName) prog_8_method_14_code (3 : Nat) (Option.none : Option Jvm.ClassFile.FieldType)) ∈ TBL := inTb (tb5 (List.mem_of_getElem? (i := 120) rfl)) rfl
theorem tw_5_121 : (Jvm.Cond.methodLink "PlacerHead$Machine" (213 : Nat) ({ cls := "PlacerHead$Machine", name := "goTo", desc := "(III)V" } : Jvm.MethodName)) ∈ TBL := inTb (tb5 (List.mem_of_getElem? (i := 121) rfl)) rfl
theorem tw_5_123 : (Jvm.Cond.instanceMethod ({ cls := "PlacerHead$Machine", name := "goTo", desc := "(III)V" } : Jvm.MethodName)) ∈ TBL := inTb (tb5 (List.mem_of_getElem? (i := 123) rfl)) rfl
theorem tw_5_124 : (Jvm.Cond.code ({ cls := "PlacerHead$Machine", name := "goTo", desc := "(III)V" } : Jvm.MethodName) prog_8_method_20_code (4 : Nat) (Option.none : Option Jvm.ClassFile.FieldType)) ∈ TBL := inTb (tb5 (List.mem_of_getElem? (i := 124) rfl)) rfl
theorem tw_5_125 : (Jvm.Cond.methodLink "PlacerHead$Machine" (269 : Nat) ({ cls := "PlacerHead$Machine", name := "wayTo", desc := "(II)I" } : Jvm.MethodName)) ∈ TBL := inTb (tb5 (List.mem_of_getElem? (i := 125) rfl)) rfl
theorem tw_5_127 : (Jvm.Cond.instanceMethod ({ cls := "PlacerHead$Machine", name := "wayTo", desc := "(II)I" } : Jvm.MethodName)) ∈ TBL := inTb (tb5 (List.mem_of_getElem? (i := 127) rfl)) rfl
theorem tw_5_128 : (Jvm.Cond.code ({ cls := "PlacerHead$Machine", name := "wayTo", desc := "(II)I" } : Jvm.MethodName) prog_8_method_21_code (5 : Nat) (Option.some Jvm.ClassFile.FieldType.int)) ∈ TBL := inTb (tb5 (List.mem_of_getElem? (i := 128) rfl)) rfl
theorem tw_5_129 : (Jvm.Cond.methodLink "PlacerHead$Machine" (127 : Nat) ({ cls := "java/lang/Math", name := "abs", desc := "(I)I" } : Jvm.MethodName)) ∈ TBL := inTb (tb5 (List.mem_of_getElem? (i := 129) rfl)) rfl
theorem tw_5_130 : (Jvm.Cond.methodLink "PlacerHead$Machine" (164 : Nat) ({ cls := "java/lang/Math", name := "max", desc := "(II)I" } : Jvm.MethodName)) ∈ TBL := inTb (tb5 (List.mem_of_getElem? (i := 130) rfl)) rfl
theorem tw_5_131 : (Jvm.Cond.methodLink "PlacerHead$Machine" (181 : Nat) ({ cls := "PlacerHead$Machine", name := "pickFrom", desc := "(LPlacerHead$Spindle;LPlacerHead$Feeder;)I" } : Jvm.MethodName)) ∈ TBL := inTb (tb5 (List.mem_of_getElem? (i := 131) rfl)) rfl
theorem tw_5_133 : (Jvm.Cond.instanceMethod ({ cls := "PlacerHead$Machine", name := "pickFrom", desc := "(LPlacerHead$Spindle;LPlacerHead$Feeder;)I" } : Jvm.MethodName)) ∈ TBL := inTb (tb5 (List.mem_of_getElem? (i := 133) rfl)) rfl
theorem tw_5_134 : (Jvm.Cond.code ({ cls := "PlacerHead$Machine", name := "pickFrom", desc := "(LPlacerHead$Spindle;LPlacerHead$Feeder;)I" } : Jvm.MethodName) prog_8_method_15_code (5 : Nat) (Option.some Jvm.ClassFile.FieldType.int)) ∈ TBL := inTb (tb5 (List.mem_of_getElem? (i := 134) rfl)) rfl
theorem tw_5_135 : (Jvm.Cond.methodLink "PlacerHead$Machine" (225 : Nat) ({ cls := "PlacerHead$Machine", name := "isWorn", desc := "(LPlacerHead$Spindle;)Z" } : Jvm.MethodName)) ∈ TBL := inTb (tb5 (List.mem_of_getElem? (i := 135) rfl)) rfl
theorem tw_5_137 : (Jvm.Cond.instanceMethod ({ cls := "PlacerHead$Machine", name := "isWorn", desc := "(LPlacerHead$Spindle;)Z" } : Jvm.MethodName)) ∈ TBL := inTb (tb5 (List.mem_of_getElem? (i := 137) rfl)) rfl
theorem tw_5_138 : (Jvm.Cond.code ({ cls := "PlacerHead$Machine", name := "isWorn", desc := "(LPlacerHead$Spindle;)Z" } : Jvm.MethodName) prog_8_method_12_code (2 : Nat) (Option.some Jvm.ClassFile.FieldType.boolean)) ∈ TBL := inTb (tb5 (List.mem_of_getElem? (i := 138) rfl)) rfl
theorem tw_5_139 : (Jvm.Cond.methodLink "PlacerHead$Machine" (232 : Nat) ({ cls := "PlacerHead$Machine", name := "draw", desc := "()I" } : Jvm.MethodName)) ∈ TBL := inTb (tb5 (List.mem_of_getElem? (i := 139) rfl)) rfl
theorem tw_5_141 : (Jvm.Cond.instanceMethod ({ cls := "PlacerHead$Machine", name := "draw", desc := "()I" } : Jvm.MethodName)) ∈ TBL := inTb (tb5 (List.mem_of_getElem? (i := 141) rfl)) rfl
theorem tw_5_142 : (Jvm.Cond.code ({ cls := "PlacerHead$Machine", name := "draw", desc := "()I" } : Jvm.MethodName) prog_8_method_22_code (1 : Nat) (Option.some Jvm.ClassFile.FieldType.int)) ∈ TBL := inTb (tb5 (List.mem_of_getElem? (i := 142) rfl)) rfl
theorem tw_5_143 : (Jvm.Cond.constantLong "PlacerHead$Machine" (272 : Nat) (1103515245 : Int64)) ∈ TBL := inTb (tb5 (List.mem_of_getElem? (i := 143) rfl)) rfl
theorem tw_5_144 : (Jvm.Cond.constantLong "PlacerHead$Machine" (274 : Nat) (12345 : Int64)) ∈ TBL := inTb (tb5 (List.mem_of_getElem? (i := 144) rfl)) rfl
theorem tw_5_145 : (Jvm.Cond.constantLong "PlacerHead$Machine" (276 : Nat) (2147483648 : Int64)) ∈ TBL := inTb (tb5 (List.mem_of_getElem? (i := 145) rfl)) rfl
theorem tw_5_146 : (Jvm.Cond.constant "PlacerHead$Machine" (278 : Nat) (65536 : Int32)) ∈ TBL := inTb (tb5 (List.mem_of_getElem? (i := 146) rfl)) rfl
theorem tw_5_147 : (Jvm.Cond.methodLinkNest "PlacerHead$Machine" (243 : Nat) ({ cls := "PlacerHead$Feeder", name := "spliceIfEmpty", desc := "()I" } : Jvm.MethodName) "PlacerHead") ∈ lw_tbl := List.mem_append_right _ (tb5 (List.mem_of_getElem? (i := 147) rfl))
theorem tw_5_149 : (Jvm.Cond.instanceMethod ({ cls := "PlacerHead$Feeder", name := "spliceIfEmpty", desc := "()I" } : Jvm.MethodName)) ∈ TBL := inTb (tb5 (List.mem_of_getElem? (i := 149) rfl)) rfl
theorem tw_5_150 : (Jvm.Cond.code ({ cls := "PlacerHead$Feeder", name := "spliceIfEmpty", desc := "()I" } : Jvm.MethodName) prog_4_method_7_code (2 : Nat) (Option.some Jvm.ClassFile.FieldType.int)) ∈ TBL := inTb (tb5 (List.mem_of_getElem? (i := 150) rfl)) rfl
theorem tw_5_151 : (Jvm.Cond.methodLink "PlacerHead$Machine" (185 : Nat) ({ cls := "PlacerHead$Machine", name := "lookAt", desc := "(LPlacerHead$Spindle;)I" } : Jvm.MethodName)) ∈ TBL := inTb (tb5 (List.mem_of_getElem? (i := 151) rfl)) rfl
theorem tw_5_153 : (Jvm.Cond.instanceMethod ({ cls := "PlacerHead$Machine", name := "lookAt", desc := "(LPlacerHead$Spindle;)I" } : Jvm.MethodName)) ∈ TBL := inTb (tb5 (List.mem_of_getElem? (i := 153) rfl)) rfl
theorem tw_5_154 : (Jvm.Cond.code ({ cls := "PlacerHead$Machine", name := "lookAt", desc := "(LPlacerHead$Spindle;)I" } : Jvm.MethodName) prog_8_method_16_code (3 : Nat) (Option.some Jvm.ClassFile.FieldType.int)) ∈ TBL := inTb (tb5 (List.mem_of_getElem? (i := 154) rfl)) rfl
theorem tw_5_155 : (Jvm.Cond.methodLink "PlacerHead$Machine" (193 : Nat) ({ cls := "PlacerHead$Machine", name := "reject", desc := "(LPlacerHead$Spindle;)V" } : Jvm.MethodName)) ∈ TBL := inTb (tb5 (List.mem_of_getElem? (i := 155) rfl)) rfl
theorem tw_5_157 : (Jvm.Cond.instanceMethod ({ cls := "PlacerHead$Machine", name := "reject", desc := "(LPlacerHead$Spindle;)V" } : Jvm.MethodName)) ∈ TBL := inTb (tb5 (List.mem_of_getElem? (i := 157) rfl)) rfl
theorem tw_5_158 : (Jvm.Cond.code ({ cls := "PlacerHead$Machine", name := "reject", desc := "(LPlacerHead$Spindle;)V" } : Jvm.MethodName) prog_8_method_19_code (2 : Nat) (Option.none : Option Jvm.ClassFile.FieldType)) ∈ TBL := inTb (tb5 (List.mem_of_getElem? (i := 158) rfl)) rfl
theorem tw_5_159 : (Jvm.Cond.methodLinkNest "PlacerHead$Machine" (264 : Nat) ({ cls := "PlacerHead$Spindle", name := "dropPart", desc := "()V" } : Jvm.MethodName) "PlacerHead") ∈ lw_tbl := List.mem_append_right _ (tb5 (List.mem_of_getElem? (i := 159) rfl))
theorem tw_5_160 : (Jvm.Cond.methodLink "PlacerHead$Machine" (189 : Nat) ({ cls := "PlacerHead$Machine", name := "putOn", desc := "(LPlacerHead$Spindle;II)V" } : Jvm.MethodName)) ∈ TBL := inTb (tb5 (List.mem_of_getElem? (i := 160) rfl)) rfl
theorem tw_5_162 : (Jvm.Cond.instanceMethod ({ cls := "PlacerHead$Machine", name := "putOn", desc := "(LPlacerHead$Spindle;II)V" } : Jvm.MethodName)) ∈ TBL := inTb (tb5 (List.mem_of_getElem? (i := 162) rfl)) rfl
theorem tw_5_163 : (Jvm.Cond.code ({ cls := "PlacerHead$Machine", name := "putOn", desc := "(LPlacerHead$Spindle;II)V" } : Jvm.MethodName) prog_8_method_17_code (4 : Nat) (Option.none : Option Jvm.ClassFile.FieldType)) ∈ TBL := inTb (tb5 (List.mem_of_getElem? (i := 163) rfl)) rfl
theorem tw_5_164 : (Jvm.Cond.methodLinkNest "PlacerHead$Machine" (259 : Nat) ({ cls := "PlacerHead$Board", name := "fill", desc := "(III)V" } : Jvm.MethodName) "PlacerHead") ∈ lw_tbl := List.mem_append_right _ (tb5 (List.mem_of_getElem? (i := 164) rfl))
theorem tw_5_166 : (Jvm.Cond.instanceMethod ({ cls := "PlacerHead$Board", name := "fill", desc := "(III)V" } : Jvm.MethodName)) ∈ TBL := inTb (tb5 (List.mem_of_getElem? (i := 166) rfl)) rfl
theorem tw_5_167 : (Jvm.Cond.code ({ cls := "PlacerHead$Board", name := "fill", desc := "(III)V" } : Jvm.MethodName) prog_2_method_10_code (4 : Nat) (Option.none : Option Jvm.ClassFile.FieldType)) ∈ TBL := inTb (tb5 (List.mem_of_getElem? (i := 167) rfl)) rfl
theorem tw_5_168 : (Jvm.Cond.constantLong "PlacerHead$Board" (70 : Nat) (-1 : Int64)) ∈ TBL := inTb (tb5 (List.mem_of_getElem? (i := 168) rfl)) rfl
theorem tw_5_169 : (Jvm.Cond.methodLink "PlacerHead$Machine" (196 : Nat) ({ cls := "PlacerHead$Machine", name := "cleanOf", desc := "(LPlacerHead$Spindle;)V" } : Jvm.MethodName)) ∈ TBL := inTb (tb5 (List.mem_of_getElem? (i := 169) rfl)) rfl
theorem tw_5_171 : (Jvm.Cond.instanceMethod ({ cls := "PlacerHead$Machine", name := "cleanOf", desc := "(LPlacerHead$Spindle;)V" } : Jvm.MethodName)) ∈ TBL := inTb (tb5 (List.mem_of_getElem? (i := 171) rfl)) rfl
theorem tw_5_172 : (Jvm.Cond.code ({ cls := "PlacerHead$Machine", name := "cleanOf", desc := "(LPlacerHead$Spindle;)V" } : Jvm.MethodName) prog_8_method_18_code (2 : Nat) (Option.none : Option Jvm.ClassFile.FieldType)) ∈ TBL := inTb (tb5 (List.mem_of_getElem? (i := 172) rfl)) rfl
theorem tw_5_173 : (Jvm.Cond.methodLinkNest "PlacerHead$Machine" (199 : Nat) ({ cls := "PlacerHead", name := "codeOf", desc := "(III)I" } : Jvm.MethodName) "PlacerHead") ∈ lw_tbl := List.mem_append_right _ (tb5 (List.mem_of_getElem? (i := 173) rfl))
theorem tw_5_174 : (Jvm.Cond.static ({ cls := "PlacerHead", name := "codeOf", desc := "(III)I" } : Jvm.MethodName)) ∈ TBL := inTb (tb5 (List.mem_of_getElem? (i := 174) rfl)) rfl
theorem tw_5_175 : (Jvm.Cond.code ({ cls := "PlacerHead", name := "codeOf", desc := "(III)I" } : Jvm.MethodName) prog_1_method_67_code (3 : Nat) (Option.some Jvm.ClassFile.FieldType.int)) ∈ TBL := inTb (tb5 (List.mem_of_getElem? (i := 175) rfl)) rfl
theorem tw_5_176 : (Jvm.Cond.methodLinkNest "PlacerHead$Machine" (203 : Nat) ({ cls := "PlacerHead$Journal", name := "note", desc := "(III)V" } : Jvm.MethodName) "PlacerHead") ∈ lw_tbl := List.mem_append_right _ (tb5 (List.mem_of_getElem? (i := 176) rfl))
theorem tw_5_178 : (Jvm.Cond.instanceMethod ({ cls := "PlacerHead$Journal", name := "note", desc := "(III)V" } : Jvm.MethodName)) ∈ TBL := inTb (tb5 (List.mem_of_getElem? (i := 178) rfl)) rfl
theorem tw_5_179 : (Jvm.Cond.code ({ cls := "PlacerHead$Journal", name := "note", desc := "(III)V" } : Jvm.MethodName) prog_6_method_4_code (5 : Nat) (Option.none : Option Jvm.ClassFile.FieldType)) ∈ TBL := inTb (tb5 (List.mem_of_getElem? (i := 179) rfl)) rfl
theorem tw_5_194 : (Jvm.Cond.instanceMethod ({ cls := "PlacerHead$Board", name := "isOpen", desc := "(I)Z" } : Jvm.MethodName)) ∈ TBL := inTb (tb5 (List.mem_of_getElem? (i := 194) rfl)) rfl
theorem tw_5_195 : (Jvm.Cond.code ({ cls := "PlacerHead$Board", name := "isOpen", desc := "(I)Z" } : Jvm.MethodName) prog_2_method_6_code (2 : Nat) (Option.some Jvm.ClassFile.FieldType.boolean)) ∈ TBL := inTb (tb5 (List.mem_of_getElem? (i := 195) rfl)) rfl
theorem tw_5_234 : (Jvm.Cond.methodLink "PlacerHead$Board" (63 : Nat) ({ cls := "PlacerHead$Board", name := "isOpen", desc := "(I)Z" } : Jvm.MethodName)) ∈ TBL := inTb (tb5 (List.mem_of_getElem? (i := 234) rfl)) rfl
theorem tw_5_239 : (Jvm.Cond.methodLink "PlacerHead$Board" (67 : Nat) ({ cls := "PlacerHead$Board", name := "isFilled", desc := "(I)Z" } : Jvm.MethodName)) ∈ TBL := inTb (tb5 (List.mem_of_getElem? (i := 239) rfl)) rfl
theorem tw_6_1 : (Jvm.Cond.instanceMethod ({ cls := "PlacerHead$Board", name := "isFilled", desc := "(I)Z" } : Jvm.MethodName)) ∈ TBL := inTb (tb6 (List.mem_of_getElem? (i := 1) rfl)) rfl
theorem tw_6_11 : (Jvm.Cond.methodLink "PlacerHead$Board" (72 : Nat) ({ cls := "java/lang/Long", name := "bitCount", desc := "(J)I" } : Jvm.MethodName)) ∈ TBL := inTb (tb6 (List.mem_of_getElem? (i := 11) rfl)) rfl
theorem tw_6_12 : (Jvm.Cond.static ({ cls := "java/lang/Long", name := "bitCount", desc := "(J)I" } : Jvm.MethodName)) ∈ TBL := inTb (tb6 (List.mem_of_getElem? (i := 12) rfl)) rfl
theorem tw_6_13 : (Jvm.Cond.code ({ cls := "java/lang/Long", name := "bitCount", desc := "(J)I" } : Jvm.MethodName) prog_19_method_50_code (2 : Nat) (Option.some Jvm.ClassFile.FieldType.int)) ∈ TBL := inTb (tb6 (List.mem_of_getElem? (i := 13) rfl)) rfl
theorem tw_6_14 : (Jvm.Cond.constantLong "java/lang/Long" (314 : Nat) (6148914691236517205 : Int64)) ∈ TBL := inTb (tb6 (List.mem_of_getElem? (i := 14) rfl)) rfl
theorem tw_6_15 : (Jvm.Cond.constantLong "java/lang/Long" (316 : Nat) (3689348814741910323 : Int64)) ∈ TBL := inTb (tb6 (List.mem_of_getElem? (i := 15) rfl)) rfl
theorem tw_6_16 : (Jvm.Cond.constantLong "java/lang/Long" (318 : Nat) (1085102592571150095 : Int64)) ∈ TBL := inTb (tb6 (List.mem_of_getElem? (i := 16) rfl)) rfl
theorem tw_6_2 : (Jvm.Cond.code ({ cls := "PlacerHead$Board", name := "isFilled", desc := "(I)Z" } : Jvm.MethodName) prog_2_method_7_code (2 : Nat) (Option.some Jvm.ClassFile.FieldType.boolean)) ∈ TBL := inTb (tb6 (List.mem_of_getElem? (i := 2) rfl)) rfl
theorem yd_X8_dropPart : (yX8_dropPart).cls ≠ "java/lang/invoke/MethodHandle" ∧ (yX8_dropPart).cls ≠ "java/lang/invoke/VarHandle" ∧ (parseMethodDescriptor (yX8_dropPart).desc).map (fun d => d.parameters.length) = some 0 := by decide +kernel
theorem yd_X0_isOpen : (yX0_isOpen).cls ≠ "java/lang/invoke/MethodHandle" ∧ (yX0_isOpen).cls ≠ "java/lang/invoke/VarHandle" ∧ (parseMethodDescriptor (yX0_isOpen).desc).map (fun d => d.parameters.length) = some 1 := by decide +kernel
theorem yd_X0_isFilled : (yX0_isFilled).cls ≠ "java/lang/invoke/MethodHandle" ∧ (yX0_isFilled).cls ≠ "java/lang/invoke/VarHandle" ∧ (parseMethodDescriptor (yX0_isFilled).desc).map (fun d => d.parameters.length) = some 1 := by decide +kernel
theorem yd_J13_bitCount_95d88 : (yJ13_bitCount_95d88).cls ≠ "java/lang/invoke/MethodHandle" ∧ (yJ13_bitCount_95d88).cls ≠ "java/lang/invoke/VarHandle" ∧ (parseMethodDescriptor (yJ13_bitCount_95d88).desc).map (fun d => d.parameters.length) = some 1 := by decide +kernel
theorem yd_X0_firstsOf : (yX0_firstsOf).cls ≠ "java/lang/invoke/MethodHandle" ∧ (yX0_firstsOf).cls ≠ "java/lang/invoke/VarHandle" ∧ (parseMethodDescriptor (yX0_firstsOf).desc).map (fun d => d.parameters.length) = some 1 := by decide +kernel
theorem yd_X2_clear : (yX2_clear).cls ≠ "java/lang/invoke/MethodHandle" ∧ (yX2_clear).cls ≠ "java/lang/invoke/VarHandle" ∧ (parseMethodDescriptor (yX2_clear).desc).map (fun d => d.parameters.length) = some 4 := by decide +kernel
theorem yd_X2_allParts : (yX2_allParts).cls ≠ "java/lang/invoke/MethodHandle" ∧ (yX2_allParts).cls ≠ "java/lang/invoke/VarHandle" ∧ (parseMethodDescriptor (yX2_allParts).desc).map (fun d => d.parameters.length) = some 0 := by decide +kernel
theorem yd_X6_inReels : (yX6_inReels).cls ≠ "java/lang/invoke/MethodHandle" ∧ (yX6_inReels).cls ≠ "java/lang/invoke/VarHandle" ∧ (parseMethodDescriptor (yX6_inReels).desc).map (fun d => d.parameters.length) = some 1 := by decide +kernel
theorem yd_X6_heldOf : (yX6_heldOf).cls ≠ "java/lang/invoke/MethodHandle" ∧ (yX6_heldOf).cls ≠ "java/lang/invoke/VarHandle" ∧ (parseMethodDescriptor (yX6_heldOf).desc).map (fun d => d.parameters.length) = some 1 := by decide +kernel
theorem yd_X6_wayTo : (yX6_wayTo).cls ≠ "java/lang/invoke/MethodHandle" ∧ (yX6_wayTo).cls ≠ "java/lang/invoke/VarHandle" ∧ (parseMethodDescriptor (yX6_wayTo).desc).map (fun d => d.parameters.length) = some 2 := by decide +kernel
theorem yd_X6_goTo : (yX6_goTo).cls ≠ "java/lang/invoke/MethodHandle" ∧ (yX6_goTo).cls ≠ "java/lang/invoke/VarHandle" ∧ (parseMethodDescriptor (yX6_goTo).desc).map (fun d => d.parameters.length) = some 3 := by decide +kernel
theorem yd_X6_isWorn : (yX6_isWorn).cls ≠ "java/lang/invoke/MethodHandle" ∧ (yX6_isWorn).cls ≠ "java/lang/invoke/VarHandle" ∧ (parseMethodDescriptor (yX6_isWorn).desc).map (fun d => d.parameters.length) = some 1 := by decide +kernel
theorem yd_X6_draw : (yX6_draw).cls ≠ "java/lang/invoke/MethodHandle" ∧ (yX6_draw).cls ≠ "java/lang/invoke/VarHandle" ∧ (parseMethodDescriptor (yX6_draw).desc).map (fun d => d.parameters.length) = some 0 := by decide +kernel
theorem yd_X2_spliceIfEmpty : (yX2_spliceIfEmpty).cls ≠ "java/lang/invoke/MethodHandle" ∧ (yX2_spliceIfEmpty).cls ≠ "java/lang/invoke/VarHandle" ∧ (parseMethodDescriptor (yX2_spliceIfEmpty).desc).map (fun d => d.parameters.length) = some 0 := by decide +kernel
theorem yd_X6_reject : (yX6_reject).cls ≠ "java/lang/invoke/MethodHandle" ∧ (yX6_reject).cls ≠ "java/lang/invoke/VarHandle" ∧ (parseMethodDescriptor (yX6_reject).desc).map (fun d => d.parameters.length) = some 1 := by decide +kernel
theorem yd_X0_fill : (yX0_fill).cls ≠ "java/lang/invoke/MethodHandle" ∧ (yX0_fill).cls ≠ "java/lang/invoke/VarHandle" ∧ (parseMethodDescriptor (yX0_fill).desc).map (fun d => d.parameters.length) = some 3 := by decide +kernel
theorem yd_X6_changeTo : (yX6_changeTo).cls ≠ "java/lang/invoke/MethodHandle" ∧ (yX6_changeTo).cls ≠ "java/lang/invoke/VarHandle" ∧ (parseMethodDescriptor (yX6_changeTo).desc).map (fun d => d.parameters.length) = some 2 := by decide +kernel
theorem yd_X9_codeOf : (yX9_codeOf).cls ≠ "java/lang/invoke/MethodHandle" ∧ (yX9_codeOf).cls ≠ "java/lang/invoke/VarHandle" ∧ (parseMethodDescriptor (yX9_codeOf).desc).map (fun d => d.parameters.length) = some 3 := by decide +kernel
theorem yd_X4_note : (yX4_note).cls ≠ "java/lang/invoke/MethodHandle" ∧ (yX4_note).cls ≠ "java/lang/invoke/VarHandle" ∧ (parseMethodDescriptor (yX4_note).desc).map (fun d => d.parameters.length) = some 3 := by decide +kernel
theorem yd_X6_pickFrom : (yX6_pickFrom).cls ≠ "java/lang/invoke/MethodHandle" ∧ (yX6_pickFrom).cls ≠ "java/lang/invoke/VarHandle" ∧ (parseMethodDescriptor (yX6_pickFrom).desc).map (fun d => d.parameters.length) = some 2 := by decide +kernel
theorem yd_X6_lookAt : (yX6_lookAt).cls ≠ "java/lang/invoke/MethodHandle" ∧ (yX6_lookAt).cls ≠ "java/lang/invoke/VarHandle" ∧ (parseMethodDescriptor (yX6_lookAt).desc).map (fun d => d.parameters.length) = some 1 := by decide +kernel
theorem yd_X6_putOn : (yX6_putOn).cls ≠ "java/lang/invoke/MethodHandle" ∧ (yX6_putOn).cls ≠ "java/lang/invoke/VarHandle" ∧ (parseMethodDescriptor (yX6_putOn).desc).map (fun d => d.parameters.length) = some 3 := by decide +kernel
theorem yd_X6_cleanOf : (yX6_cleanOf).cls ≠ "java/lang/invoke/MethodHandle" ∧ (yX6_cleanOf).cls ≠ "java/lang/invoke/VarHandle" ∧ (parseMethodDescriptor (yX6_cleanOf).desc).map (fun d => d.parameters.length) = some 1 := by decide +kernel
set_option maxRecDepth 100000 in
theorem hu0 : ∀ w ∈ u_ws RX0 TX0 12, w ∈ TBL := by decide +kernel
set_option maxRecDepth 100000 in
theorem hu1 : ∀ w ∈ u_ws RX1 TX1 8, w ∈ TBL := by decide +kernel
set_option maxRecDepth 100000 in
theorem hu2 : ∀ w ∈ u_ws RX2 TX2 9, w ∈ TBL := by decide +kernel
set_option maxRecDepth 100000 in
theorem hu3 : ∀ w ∈ u_ws RX3 TX3 5, w ∈ TBL := by decide +kernel
set_option maxRecDepth 100000 in
theorem hu4 : ∀ w ∈ u_ws RX4 TX4 9, w ∈ TBL := by decide +kernel
set_option maxRecDepth 100000 in
theorem hu5 : ∀ w ∈ u_ws RX5 TX5 7, w ∈ TBL := by decide +kernel
set_option maxRecDepth 100000 in
theorem hu6 : ∀ w ∈ u_ws RX6 TX6 16, w ∈ TBL := by decide +kernel
set_option maxRecDepth 100000 in
theorem hu7 : ∀ w ∈ u_ws RX7 TX7 4, w ∈ TBL := by decide +kernel
set_option maxRecDepth 100000 in
theorem hu8 : ∀ w ∈ u_ws RX8 TX8 8, w ∈ TBL := by decide +kernel
set_option maxRecDepth 100000 in
theorem hu9 : ∀ w ∈ u_ws RX9 TX9 10, w ∈ TBL := by decide +kernel
