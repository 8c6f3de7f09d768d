/-! words of the tables, by their places -/
def lw_q6 : MethodName × Nat := (⟨"PlacerHead$Machine", "partsOf", "(II)I"⟩, 16)
theorem lw_qm6 : lw_q6 ∈ lw_privs := (List.mem_append_left _ (List.mem_of_getElem? (i := 6) rfl))
def lw_q10 : MethodName × Nat := (⟨"PlacerHead$Description", "readText", "(I)V"⟩, 8)
theorem lw_qm10 : lw_q10 ∈ lw_privs := (List.mem_append_left _ (List.mem_of_getElem? (i := 10) rfl))
def lw_q57 : MethodName × Nat := (⟨"PlacerHead$Feeder", "addReel", "(I)V"⟩, 9)
theorem lw_qm57 : lw_q57 ∈ lw_privs := (List.mem_append_right _ (List.mem_append_right _ (List.mem_append_right _ (List.mem_append_left _ (List.mem_of_getElem? (i := 9) rfl)))))
def lw_q58 : MethodName × Nat := (⟨"PlacerHead$Feeder", "removeLastReel", "()I"⟩, 9)
theorem lw_qm58 : lw_q58 ∈ lw_privs := (List.mem_append_right _ (List.mem_append_right _ (List.mem_append_right _ (List.mem_append_left _ (List.mem_of_getElem? (i := 10) rfl)))))
def lw_q59 : MethodName × Nat := (⟨"PlacerHead$Board", "close", "(I)Z"⟩, 12)
theorem lw_qm59 : lw_q59 ∈ lw_privs := (List.mem_append_right _ (List.mem_append_right _ (List.mem_append_right _ (List.mem_append_left _ (List.mem_of_getElem? (i := 11) rfl)))))
def lw_q60 : MethodName × Nat := (⟨"PlacerHead$Board", "reopen", "(I)Z"⟩, 12)
theorem lw_qm60 : lw_q60 ∈ lw_privs := (List.mem_append_right _ (List.mem_append_right _ (List.mem_append_right _ (List.mem_append_left _ (List.mem_of_getElem? (i := 12) rfl)))))
def lw_q62 : MethodName × Nat := (⟨"PlacerHead$Board", "reopenFilled", "()I"⟩, 12)
theorem lw_qm62 : lw_q62 ∈ lw_privs := (List.mem_append_right _ (List.mem_append_right _ (List.mem_append_right _ (List.mem_append_left _ (List.mem_of_getElem? (i := 14) rfl)))))
def lw_q63 : MethodName × Nat := (⟨"PlacerHead$Plan", "follow", "()I"⟩, 4)
theorem lw_qm63 : lw_q63 ∈ lw_privs := (List.mem_append_right _ (List.mem_append_right _ (List.mem_append_right _ (List.mem_append_left _ (List.mem_of_getElem? (i := 15) rfl)))))
def lw_q74 : MethodName × Nat := (⟨"PlacerHead$Spindle", "valueOf", "(I)I"⟩, 8)
theorem lw_qm74 : lw_q74 ∈ lw_privs := (List.mem_append_right _ (List.mem_append_right _ (List.mem_append_right _ (List.mem_append_right _ (List.mem_append_left _ (List.mem_of_getElem? (i := 10) rfl))))))
def lw_q75 : MethodName × Nat := (⟨"PlacerHead$Board", "valueOf", "(II)I"⟩, 12)
theorem lw_qm75 : lw_q75 ∈ lw_privs := (List.mem_append_right _ (List.mem_append_right _ (List.mem_append_right _ (List.mem_append_right _ (List.mem_append_left _ (List.mem_of_getElem? (i := 11) rfl))))))
def lw_q76 : MethodName × Nat := (⟨"PlacerHead$Feeder", "valueOf", "(I)I"⟩, 9)
theorem lw_qm76 : lw_q76 ∈ lw_privs := (List.mem_append_right _ (List.mem_append_right _ (List.mem_append_right _ (List.mem_append_right _ (List.mem_append_left _ (List.mem_of_getElem? (i := 12) rfl))))))
def lw_q77 : MethodName × Nat := (⟨"PlacerHead$Forecast", "begin", "()V"⟩, 5)
theorem lw_qm77 : lw_q77 ∈ lw_privs := (List.mem_append_right _ (List.mem_append_right _ (List.mem_append_right _ (List.mem_append_right _ (List.mem_append_left _ (List.mem_of_getElem? (i := 13) rfl))))))
def lw_q78 : MethodName × Nat := (⟨"PlacerHead$Forecast", "goOn", "()V"⟩, 5)
theorem lw_qm78 : lw_q78 ∈ lw_privs := (List.mem_append_right _ (List.mem_append_right _ (List.mem_append_right _ (List.mem_append_right _ (List.mem_append_left _ (List.mem_of_getElem? (i := 14) rfl))))))
def lw_q79 : MethodName × Nat := (⟨"PlacerHead$Forecast", "actionsUntilEmpty", "(I)I"⟩, 5)
theorem lw_qm79 : lw_q79 ∈ lw_privs := (List.mem_append_right _ (List.mem_append_right _ (List.mem_append_right _ (List.mem_append_right _ (List.mem_append_left _ (List.mem_of_getElem? (i := 15) rfl))))))
def lw_q80 : MethodName × Nat := (⟨"PlacerHead$Journal", "entry", "(II)I"⟩, 9)
theorem lw_qm80 : lw_q80 ∈ lw_privs := (List.mem_append_right _ (List.mem_append_right _ (List.mem_append_right _ (List.mem_append_right _ (List.mem_append_right _ (List.mem_of_getElem? (i := 0) rfl))))))
theorem ts_10 : Cond.selects (yX1_readText).cls yX1_readText yX1_readText ∈ TBL := inT (List.mem_append_left _ (List.mem_map.mpr ⟨lw_q10, lw_qm10, rfl⟩)) rfl
theorem ts_57 : Cond.selects (yX2_addReel).cls yX2_addReel yX2_addReel ∈ TBL := inT (List.mem_append_left _ (List.mem_map.mpr ⟨lw_q57, lw_qm57, rfl⟩)) rfl
theorem ts_58 : Cond.selects (yX2_removeLastReel).cls yX2_removeLastReel yX2_removeLastReel ∈ TBL := inT (List.mem_append_left _ (List.mem_map.mpr ⟨lw_q58, lw_qm58, rfl⟩)) rfl
theorem ts_59 : Cond.selects (yX0_close).cls yX0_close yX0_close ∈ TBL := inT (List.mem_append_left _ (List.mem_map.mpr ⟨lw_q59, lw_qm59, rfl⟩)) rfl
theorem ts_6 : Cond.selects (yX6_partsOf).cls yX6_partsOf yX6_partsOf ∈ TBL := inT (List.mem_append_left _ (List.mem_map.mpr ⟨lw_q6, lw_qm6, rfl⟩)) rfl
theorem ts_60 : Cond.selects (yX0_reopen).cls yX0_reopen yX0_reopen ∈ TBL := inT (List.mem_append_left _ (List.mem_map.mpr ⟨lw_q60, lw_qm60, rfl⟩)) rfl
theorem ts_62 : Cond.selects (yX0_reopenFilled).cls yX0_reopenFilled yX0_reopenFilled ∈ TBL := inT (List.mem_append_left _ (List.mem_map.mpr ⟨lw_q62, lw_qm62, rfl⟩)) rfl
theorem ts_63 : Cond.selects (yX7_follow).cls yX7_follow yX7_follow ∈ TBL := inT (List.mem_append_left _ (List.mem_map.mpr ⟨lw_q63, lw_qm63, rfl⟩)) rfl
theorem ts_74 : Cond.selects (yX8_valueOf).cls yX8_valueOf yX8_valueOf ∈ TBL := inT (List.mem_append_left _ (List.mem_map.mpr ⟨lw_q74, lw_qm74, rfl⟩)) rfl
theorem ts_75 : Cond.selects (yX0_valueOf).cls yX0_valueOf yX0_valueOf ∈ TBL := inT (List.mem_append_left _ (List.mem_map.mpr ⟨lw_q75, lw_qm75, rfl⟩)) rfl
theorem ts_76 : Cond.selects (yX2_valueOf).cls yX2_valueOf yX2_valueOf ∈ TBL := inT (List.mem_append_left _ (List.mem_map.mpr ⟨lw_q76, lw_qm76, rfl⟩)) rfl
theorem ts_77 : Cond.selects (yX3_begin).cls yX3_begin yX3_begin ∈ TBL := inT (List.mem_append_left _ (List.mem_map.mpr ⟨lw_q77, lw_qm77, rfl⟩)) rfl
theorem ts_78 : Cond.selects (yX3_goOn).cls yX3_goOn yX3_goOn ∈ TBL := inT (List.mem_append_left _ (List.mem_map.mpr ⟨lw_q78, lw_qm78, rfl⟩)) rfl
theorem ts_79 : Cond.selects (yX3_actionsUntilEmpty).cls yX3_actionsUntilEmpty yX3_actionsUntilEmpty ∈ TBL := inT (List.mem_append_left _ (List.mem_map.mpr ⟨lw_q79, lw_qm79, rfl⟩)) rfl
theorem ts_80 : Cond.selects (yX4_entry).cls yX4_entry yX4_entry ∈ TBL := inT (List.mem_append_left _ (List.mem_map.mpr ⟨lw_q80, lw_qm80, rfl⟩)) rfl
theorem tw_1_100 : (Jvm.Cond.fieldLinkNest "PlacerHead" (265 : Nat) "PlacerHead$Board" "kind" "[I" "PlacerHead") ∈ lw_tbl := List.mem_append_right _ (tb1 (List.mem_of_getElem? (i := 100) rfl))
theorem tw_1_11 : (Jvm.Cond.initialized "PlacerHead$Forecast") ∈ TBL := inTb (tb1 (List.mem_of_getElem? (i := 11) rfl)) rfl
theorem tw_1_112 : (Jvm.Cond.fieldLinkNest "PlacerHead" (226 : Nat) "PlacerHead$Board" "open" "J" "PlacerHead") ∈ lw_tbl := List.mem_append_right _ (tb1 (List.mem_of_getElem? (i := 112) rfl))
theorem tw_1_114 : (Jvm.Cond.fieldLinkNest "PlacerHead" (237 : Nat) "PlacerHead$Board" "filled" "J" "PlacerHead") ∈ lw_tbl := List.mem_append_right _ (tb1 (List.mem_of_getElem? (i := 114) rfl))
theorem tw_1_116 : (Jvm.Cond.fieldLinkNest "PlacerHead" (103 : Nat) "PlacerHead$Board" "pairs" "I" "PlacerHead") ∈ lw_tbl := List.mem_append_right _ (tb1 (List.mem_of_getElem? (i := 116) rfl))
theorem tw_1_153 : (Jvm.Cond.fieldLinkNest "PlacerHead" (314 : Nat) "PlacerHead$Journal" "size" "I" "PlacerHead") ∈ lw_tbl := List.mem_append_right _ (tb1 (List.mem_of_getElem? (i := 153) rfl))
theorem tw_1_160 : (Jvm.Cond.fieldLinkNest "PlacerHead" (302 : Nat) "PlacerHead$Journal" "times" "[I" "PlacerHead") ∈ lw_tbl := List.mem_append_right _ (tb1 (List.mem_of_getElem? (i := 160) rfl))
theorem tw_1_163 : (Jvm.Cond.fieldLinkNest "PlacerHead" (305 : Nat) "PlacerHead$Journal" "spent" "[I" "PlacerHead") ∈ lw_tbl := List.mem_append_right _ (tb1 (List.mem_of_getElem? (i := 163) rfl))
theorem tw_1_167 : (Jvm.Cond.fieldLinkNest "PlacerHead" (172 : Nat) "PlacerHead$Journal" "splices" "I" "PlacerHead") ∈ lw_tbl := List.mem_append_right _ (tb1 (List.mem_of_getElem? (i := 167) rfl))
theorem tw_1_196 : (Jvm.Cond.fieldLinkNest "PlacerHead" (249 : Nat) "PlacerHead$Spindle" "nozzle" "I" "PlacerHead") ∈ lw_tbl := List.mem_append_right _ (tb1 (List.mem_of_getElem? (i := 196) rfl))
theorem tw_1_200 : (Jvm.Cond.fieldLinkNest "PlacerHead" (246 : Nat) "PlacerHead$Spindle" "held" "I" "PlacerHead") ∈ lw_tbl := List.mem_append_right _ (tb1 (List.mem_of_getElem? (i := 200) rfl))
theorem tw_1_204 : (Jvm.Cond.fieldLinkNest "PlacerHead" (258 : Nat) "PlacerHead$Spindle" "ready" "Z" "PlacerHead") ∈ lw_tbl := List.mem_append_right _ (tb1 (List.mem_of_getElem? (i := 204) rfl))
theorem tw_1_26 : (Jvm.Cond.initialized "java/lang/IllegalArgumentException") ∈ TBL := inTb (tb1 (List.mem_of_getElem? (i := 26) rfl)) rfl
theorem tw_1_27 : (Jvm.Cond.initialized "java/lang/IndexOutOfBoundsException") ∈ TBL := inTb (tb1 (List.mem_of_getElem? (i := 27) rfl)) rfl
theorem tw_1_52 : (Jvm.Cond.fieldLinkNest "PlacerHead" (97 : Nat) "PlacerHead$Kinds" "size" "I" "PlacerHead") ∈ lw_tbl := List.mem_append_right _ (tb1 (List.mem_of_getElem? (i := 52) rfl))
theorem tw_1_57 : (Jvm.Cond.fieldLinkNest "PlacerHead" (146 : Nat) "PlacerHead$Kinds" "nozzle" "[I" "PlacerHead") ∈ lw_tbl := List.mem_append_right _ (tb1 (List.mem_of_getElem? (i := 57) rfl))
theorem tw_1_60 : (Jvm.Cond.fieldLinkNest "PlacerHead" (162 : Nat) "PlacerHead$Kinds" "came" "[I" "PlacerHead") ∈ lw_tbl := List.mem_append_right _ (tb1 (List.mem_of_getElem? (i := 60) rfl))
theorem tw_1_69 : (Jvm.Cond.fieldLinkNest "PlacerHead" (184 : Nat) "PlacerHead$Kinds" "away" "[I" "PlacerHead") ∈ lw_tbl := List.mem_append_right _ (tb1 (List.mem_of_getElem? (i := 69) rfl))
theorem tw_1_96 : (Jvm.Cond.fieldLinkNest "PlacerHead" (82 : Nat) "PlacerHead$Board" "size" "I" "PlacerHead") ∈ lw_tbl := List.mem_append_right _ (tb1 (List.mem_of_getElem? (i := 96) rfl))
theorem tw_2_0 : (Jvm.Cond.fieldLinkNest "PlacerHead" (165 : Nat) "PlacerHead$Feeder" "kind" "I" "PlacerHead") ∈ lw_tbl := List.mem_append_right _ (tb2 (List.mem_of_getElem? (i := 0) rfl))
theorem tw_2_102 : (Jvm.Cond.fieldLinkNest "PlacerHead" (149 : Nat) "PlacerHead$Machine" "feeders" "[LPlacerHead$Feeder;" "PlacerHead") ∈ lw_tbl := List.mem_append_right _ (tb2 (List.mem_of_getElem? (i := 102) rfl))
theorem tw_2_105 : (Jvm.Cond.fieldLinkNest "PlacerHead" (78 : Nat) "PlacerHead$Machine" "board" "LPlacerHead$Board;" "PlacerHead") ∈ lw_tbl := List.mem_append_right _ (tb2 (List.mem_of_getElem? (i := 105) rfl))
theorem tw_2_108 : (Jvm.Cond.fieldLinkNest "PlacerHead" (240 : Nat) "PlacerHead$Machine" "boardsBegun" "I" "PlacerHead") ∈ lw_tbl := List.mem_append_right _ (tb2 (List.mem_of_getElem? (i := 108) rfl))
theorem tw_2_110 : (Jvm.Cond.fieldLinkNest "PlacerHead" (168 : Nat) "PlacerHead$Machine" "journal" "LPlacerHead$Journal;" "PlacerHead") ∈ lw_tbl := List.mem_append_right _ (tb2 (List.mem_of_getElem? (i := 110) rfl))
theorem tw_2_112 : (Jvm.Cond.fieldLinkNest "PlacerHead" (298 : Nat) "PlacerHead$Machine" "x" "I" "PlacerHead") ∈ lw_tbl := List.mem_append_right _ (tb2 (List.mem_of_getElem? (i := 112) rfl))
theorem tw_2_114 : (Jvm.Cond.fieldLinkNest "PlacerHead" (299 : Nat) "PlacerHead$Machine" "y" "I" "PlacerHead") ∈ lw_tbl := List.mem_append_right _ (tb2 (List.mem_of_getElem? (i := 114) rfl))
theorem tw_2_117 : (Jvm.Cond.fieldLinkNest "PlacerHead" (295 : Nat) "PlacerHead$Machine" "time" "I" "PlacerHead") ∈ lw_tbl := List.mem_append_right _ (tb2 (List.mem_of_getElem? (i := 117) rfl))
theorem tw_2_119 : (Jvm.Cond.fieldLinkNest "PlacerHead" (289 : Nat) "PlacerHead$Machine" "rejectsInRow" "I" "PlacerHead") ∈ lw_tbl := List.mem_append_right _ (tb2 (List.mem_of_getElem? (i := 119) rfl))
theorem tw_2_12 : (Jvm.Cond.fieldLinkNest "PlacerHead" (156 : Nat) "PlacerHead$Feeder" "waiting" "I" "PlacerHead") ∈ lw_tbl := List.mem_append_right _ (tb2 (List.mem_of_getElem? (i := 12) rfl))
theorem tw_2_122 : (Jvm.Cond.fieldLinkNest "PlacerHead" (286 : Nat) "PlacerHead$Machine" "halted" "Z" "PlacerHead") ∈ lw_tbl := List.mem_append_right _ (tb2 (List.mem_of_getElem? (i := 122) rfl))
theorem tw_2_165 : (Jvm.Cond.fieldLinkNest "PlacerHead" (271 : Nat) "PlacerHead$Plan" "action" "I" "PlacerHead") ∈ lw_tbl := List.mem_append_right _ (tb2 (List.mem_of_getElem? (i := 165) rfl))
theorem tw_2_168 : (Jvm.Cond.fieldLinkNest "PlacerHead" (274 : Nat) "PlacerHead$Plan" "spindle" "I" "PlacerHead") ∈ lw_tbl := List.mem_append_right _ (tb2 (List.mem_of_getElem? (i := 168) rfl))
theorem tw_2_171 : (Jvm.Cond.fieldLinkNest "PlacerHead" (277 : Nat) "PlacerHead$Plan" "target" "I" "PlacerHead") ∈ lw_tbl := List.mem_append_right _ (tb2 (List.mem_of_getElem? (i := 171) rfl))
theorem tw_2_193 : (Jvm.Cond.fieldLinkNest "PlacerHead" (327 : Nat) "PlacerHead$Forecast" "actions" "I" "PlacerHead") ∈ lw_tbl := List.mem_append_right _ (tb2 (List.mem_of_getElem? (i := 193) rfl))
theorem tw_2_195 : (Jvm.Cond.fieldLinkNest "PlacerHead" (324 : Nat) "PlacerHead$Forecast" "end" "I" "PlacerHead") ∈ lw_tbl := List.mem_append_right _ (tb2 (List.mem_of_getElem? (i := 195) rfl))
theorem tw_2_220 : (Jvm.Cond.fieldLinkNest "PlacerHead" (66 : Nat) "PlacerHead$Description" "error" "I" "PlacerHead") ∈ lw_tbl := List.mem_append_right _ (tb2 (List.mem_of_getElem? (i := 220) rfl))
theorem tw_2_222 : (Jvm.Cond.fieldLinkNest "PlacerHead" (72 : Nat) "PlacerHead$Description" "errorAt" "I" "PlacerHead") ∈ lw_tbl := List.mem_append_right _ (tb2 (List.mem_of_getElem? (i := 222) rfl))
theorem tw_2_7 : (Jvm.Cond.fieldLinkNest "PlacerHead" (255 : Nat) "PlacerHead$Feeder" "parts" "I" "PlacerHead") ∈ lw_tbl := List.mem_append_right _ (tb2 (List.mem_of_getElem? (i := 7) rfl))
theorem tw_2_76 : (Jvm.Cond.fieldLinkNest "PlacerHead" (117 : Nat) "PlacerHead$Machine" "settings" "[I" "PlacerHead") ∈ lw_tbl := List.mem_append_right _ (tb2 (List.mem_of_getElem? (i := 76) rfl))
theorem tw_2_80 : (Jvm.Cond.fieldLinkNest "PlacerHead" (87 : Nat) "PlacerHead$Machine" "spindleCount" "I" "PlacerHead") ∈ lw_tbl := List.mem_append_right _ (tb2 (List.mem_of_getElem? (i := 80) rfl))
theorem tw_2_84 : (Jvm.Cond.fieldLinkNest "PlacerHead" (133 : Nat) "PlacerHead$Machine" "spindles" "[LPlacerHead$Spindle;" "PlacerHead") ∈ lw_tbl := List.mem_append_right _ (tb2 (List.mem_of_getElem? (i := 84) rfl))
theorem tw_2_86 : (Jvm.Cond.fieldLinkNest "PlacerHead" (90 : Nat) "PlacerHead$Machine" "types" "I" "PlacerHead") ∈ lw_tbl := List.mem_append_right _ (tb2 (List.mem_of_getElem? (i := 86) rfl))
theorem tw_2_90 : (Jvm.Cond.fieldLinkNest "PlacerHead" (143 : Nat) "PlacerHead$Machine" "free" "[I" "PlacerHead") ∈ lw_tbl := List.mem_append_right _ (tb2 (List.mem_of_getElem? (i := 90) rfl))
theorem tw_2_92 : (Jvm.Cond.fieldLinkNest "PlacerHead" (93 : Nat) "PlacerHead$Machine" "kinds" "LPlacerHead$Kinds;" "PlacerHead") ∈ lw_tbl := List.mem_append_right _ (tb2 (List.mem_of_getElem? (i := 92) rfl))
theorem tw_2_96 : (Jvm.Cond.fieldLinkNest "PlacerHead" (100 : Nat) "PlacerHead$Machine" "feederCount" "I" "PlacerHead") ∈ lw_tbl := List.mem_append_right _ (tb2 (List.mem_of_getElem? (i := 96) rfl))
theorem tw_3_1 : (Jvm.Cond.fieldLink "PlacerHead" (9 : Nat) "PlacerHead" "buffer" "[B") ∈ TBL := inTb (tb3 (List.mem_of_getElem? (i := 1) rfl)) rfl
theorem tw_3_10 : (Jvm.Cond.fieldLink "PlacerHead" (54 : Nat) "PlacerHead" "saved" "[Z") ∈ TBL := inTb (tb3 (List.mem_of_getElem? (i := 10) rfl)) rfl
theorem tw_3_116 : (Jvm.Cond.methodLinkNest "PlacerHead" (62 : Nat) ({ cls := "PlacerHead$Description", name := "readText", desc := "(I)V" } : Jvm.MethodName) "PlacerHead") ∈ lw_tbl := List.mem_append_right _ (tb3 (List.mem_of_getElem? (i := 116) rfl))
theorem tw_3_118 : (Jvm.Cond.instanceMethod ({ cls := "PlacerHead$Description", name := "readText", desc := "(I)V" } : Jvm.MethodName)) ∈ TBL := inTb (tb3 (List.mem_of_getElem? (i := 118) rfl)) rfl
theorem tw_3_119 : (Jvm.Cond.code ({ cls := "PlacerHead$Description", name := "readText", desc := "(I)V" } : Jvm.MethodName) prog_3_method_2_code (3 : Nat) (Option.none : Option Jvm.ClassFile.FieldType)) ∈ TBL := inTb (tb3 (List.mem_of_getElem? (i := 119) rfl)) rfl
theorem tw_3_2 : (Jvm.Cond.fieldLink "PlacerHead" (58 : Nat) "PlacerHead" "buffered" "I") ∈ TBL := inTb (tb3 (List.mem_of_getElem? (i := 2) rfl)) rfl
theorem tw_3_239 : (Jvm.Cond.methodLinkNest "PlacerHead" (75 : Nat) ({ cls := "PlacerHead$Machine", name := "copyFrom", desc := "(LPlacerHead$Machine;)V" } : Jvm.MethodName) "PlacerHead") ∈ lw_tbl := List.mem_append_right _ (tb3 (List.mem_of_getElem? (i := 239) rfl))
theorem tw_3_3 : (Jvm.Cond.fieldLink "PlacerHead" (69 : Nat) "PlacerHead" "latestError" "I") ∈ TBL := inTb (tb3 (List.mem_of_getElem? (i := 3) rfl)) rfl
theorem tw_3_37 : (Jvm.Cond.methodLinkNest "PlacerHead" (292 : Nat) ({ cls := "PlacerHead$Machine", name := "partsOf", desc := "(II)I" } : Jvm.MethodName) "PlacerHead") ∈ lw_tbl := List.mem_append_right _ (tb3 (List.mem_of_getElem? (i := 37) rfl))
theorem tw_3_39 : (Jvm.Cond.instanceMethod ({ cls := "PlacerHead$Machine", name := "partsOf", desc := "(II)I" } : Jvm.MethodName)) ∈ TBL := inTb (tb3 (List.mem_of_getElem? (i := 39) rfl)) rfl
theorem tw_3_4 : (Jvm.Cond.fieldLink "PlacerHead" (16 : Nat) "PlacerHead" "machine" "LPlacerHead$Machine;") ∈ TBL := inTb (tb3 (List.mem_of_getElem? (i := 4) rfl)) rfl
theorem tw_3_40 : (Jvm.Cond.code ({ cls := "PlacerHead$Machine", name := "partsOf", desc := "(II)I" } : Jvm.MethodName) prog_8_method_9_code (3 : Nat) (Option.some Jvm.ClassFile.FieldType.int)) ∈ TBL := inTb (tb3 (List.mem_of_getElem? (i := 40) rfl)) rfl
theorem tw_3_5 : (Jvm.Cond.fieldLink "PlacerHead" (25 : Nat) "PlacerHead" "plan" "LPlacerHead$Plan;") ∈ TBL := inTb (tb3 (List.mem_of_getElem? (i := 5) rfl)) rfl
theorem tw_3_6 : (Jvm.Cond.fieldLink "PlacerHead" (37 : Nat) "PlacerHead" "forecast" "LPlacerHead$Forecast;") ∈ TBL := inTb (tb3 (List.mem_of_getElem? (i := 6) rfl)) rfl
theorem tw_3_7 : (Jvm.Cond.fieldLink "PlacerHead" (29 : Nat) "PlacerHead" "fresh" "LPlacerHead$Machine;") ∈ TBL := inTb (tb3 (List.mem_of_getElem? (i := 7) rfl)) rfl
theorem tw_3_8 : (Jvm.Cond.fieldLink "PlacerHead" (46 : Nat) "PlacerHead" "description" "LPlacerHead$Description;") ∈ TBL := inTb (tb3 (List.mem_of_getElem? (i := 8) rfl)) rfl
theorem tw_3_9 : (Jvm.Cond.fieldLink "PlacerHead" (50 : Nat) "PlacerHead" "snapshots" "[LPlacerHead$Machine;") ∈ TBL := inTb (tb3 (List.mem_of_getElem? (i := 9) rfl)) rfl
theorem tw_5_113 : (Jvm.Cond.methodLinkNest "PlacerHead" (251 : Nat) ({ cls := "PlacerHead$Machine", name := "perform", desc := "(III)I" } : Jvm.MethodName) "PlacerHead") ∈ lw_tbl := List.mem_append_right _ (tb5 (List.mem_of_getElem? (i := 113) rfl))
theorem tw_5_192 : (Jvm.Cond.methodLinkNest "PlacerHead" (262 : Nat) ({ cls := "PlacerHead$Board", name := "isOpen", desc := "(I)Z" } : Jvm.MethodName) "PlacerHead") ∈ lw_tbl := List.mem_append_right _ (tb5 (List.mem_of_getElem? (i := 192) rfl))
theorem tw_5_196 : (Jvm.Cond.methodLinkNest "PlacerHead" (222 : Nat) ({ cls := "PlacerHead$Board", name := "firstsOf", desc := "(J)J" } : Jvm.MethodName) "PlacerHead") ∈ lw_tbl := List.mem_append_right _ (tb5 (List.mem_of_getElem? (i := 196) rfl))
theorem tw_5_209 : (Jvm.Cond.methodLink "PlacerHead" (113 : Nat) ({ cls := "PlacerHead", name := "requireRange", desc := "(III)V" } : Jvm.MethodName)) ∈ TBL := inTb (tb5 (List.mem_of_getElem? (i := 209) rfl)) rfl
theorem tw_5_210 : (Jvm.Cond.static ({ cls := "PlacerHead", name := "requireRange", desc := "(III)V" } : Jvm.MethodName)) ∈ TBL := inTb (tb5 (List.mem_of_getElem? (i := 210) rfl)) rfl
theorem tw_5_211 : (Jvm.Cond.code ({ cls := "PlacerHead", name := "requireRange", desc := "(III)V" } : Jvm.MethodName) prog_1_method_65_code (3 : Nat) (Option.none : Option Jvm.ClassFile.FieldType)) ∈ TBL := inTb (tb5 (List.mem_of_getElem? (i := 211) rfl)) rfl
theorem tw_5_213 : (Jvm.Cond.methodLinkNest "PlacerHead" (159 : Nat) ({ cls := "PlacerHead$Feeder", name := "addReel", desc := "(I)V" } : Jvm.MethodName) "PlacerHead") ∈ lw_tbl := List.mem_append_right _ (tb5 (List.mem_of_getElem? (i := 213) rfl))
theorem tw_5_215 : (Jvm.Cond.instanceMethod ({ cls := "PlacerHead$Feeder", name := "addReel", desc := "(I)V" } : Jvm.MethodName)) ∈ TBL := inTb (tb5 (List.mem_of_getElem? (i := 215) rfl)) rfl
theorem tw_5_216 : (Jvm.Cond.code ({ cls := "PlacerHead$Feeder", name := "addReel", desc := "(I)V" } : Jvm.MethodName) prog_4_method_5_code (2 : Nat) (Option.none : Option Jvm.ClassFile.FieldType)) ∈ TBL := inTb (tb5 (List.mem_of_getElem? (i := 216) rfl)) rfl
theorem tw_5_217 : (Jvm.Cond.methodLinkNest "PlacerHead" (177 : Nat) ({ cls := "PlacerHead$Feeder", name := "spliceIfEmpty", desc := "()I" } : Jvm.MethodName) "PlacerHead") ∈ lw_tbl := List.mem_append_right _ (tb5 (List.mem_of_getElem? (i := 217) rfl))
theorem tw_5_222 : (Jvm.Cond.methodLinkNest "PlacerHead" (181 : Nat) ({ cls := "PlacerHead$Feeder", name := "removeLastReel", desc := "()I" } : Jvm.MethodName) "PlacerHead") ∈ lw_tbl := List.mem_append_right _ (tb5 (List.mem_of_getElem? (i := 222) rfl))
theorem tw_5_224 : (Jvm.Cond.instanceMethod ({ cls := "PlacerHead$Feeder", name := "removeLastReel", desc := "()I" } : Jvm.MethodName)) ∈ TBL := inTb (tb5 (List.mem_of_getElem? (i := 224) rfl)) rfl
theorem tw_5_225 : (Jvm.Cond.code ({ cls := "PlacerHead$Feeder", name := "removeLastReel", desc := "()I" } : Jvm.MethodName) prog_4_method_6_code (1 : Nat) (Option.some Jvm.ClassFile.FieldType.int)) ∈ TBL := inTb (tb5 (List.mem_of_getElem? (i := 225) rfl)) rfl
theorem tw_5_230 : (Jvm.Cond.methodLinkNest "PlacerHead" (199 : Nat) ({ cls := "PlacerHead$Board", name := "close", desc := "(I)Z" } : Jvm.MethodName) "PlacerHead") ∈ lw_tbl := List.mem_append_right _ (tb5 (List.mem_of_getElem? (i := 230) rfl))
theorem tw_5_232 : (Jvm.Cond.instanceMethod ({ cls := "PlacerHead$Board", name := "close", desc := "(I)Z" } : Jvm.MethodName)) ∈ TBL := inTb (tb5 (List.mem_of_getElem? (i := 232) rfl)) rfl
theorem tw_5_233 : (Jvm.Cond.code ({ cls := "PlacerHead$Board", name := "close", desc := "(I)Z" } : Jvm.MethodName) prog_2_method_8_code (2 : Nat) (Option.some Jvm.ClassFile.FieldType.boolean)) ∈ TBL := inTb (tb5 (List.mem_of_getElem? (i := 233) rfl)) rfl
theorem tw_5_235 : (Jvm.Cond.methodLinkNest "PlacerHead" (203 : Nat) ({ cls := "PlacerHead$Board", name := "reopen", desc := "(I)Z" } : Jvm.MethodName) "PlacerHead") ∈ lw_tbl := List.mem_append_right _ (tb5 (List.mem_of_getElem? (i := 235) rfl))
theorem tw_5_237 : (Jvm.Cond.instanceMethod ({ cls := "PlacerHead$Board", name := "reopen", desc := "(I)Z" } : Jvm.MethodName)) ∈ TBL := inTb (tb5 (List.mem_of_getElem? (i := 237) rfl)) rfl
theorem tw_5_238 : (Jvm.Cond.code ({ cls := "PlacerHead$Board", name := "reopen", desc := "(I)Z" } : Jvm.MethodName) prog_2_method_9_code (2 : Nat) (Option.some Jvm.ClassFile.FieldType.boolean)) ∈ TBL := inTb (tb5 (List.mem_of_getElem? (i := 238) rfl)) rfl
theorem tw_5_24 : (Jvm.Cond.classLink "PlacerHead" (106 : Nat) "java/lang/IllegalArgumentException") ∈ TBL := inTb (tb5 (List.mem_of_getElem? (i := 24) rfl)) rfl
theorem tw_5_94 : (Jvm.Cond.methodLink "PlacerHead" (129 : Nat) ({ cls := "PlacerHead", name := "requireIndex", desc := "(II)V" } : Jvm.MethodName)) ∈ TBL := inTb (tb5 (List.mem_of_getElem? (i := 94) rfl)) rfl
theorem tw_5_95 : (Jvm.Cond.static ({ cls := "PlacerHead", name := "requireIndex", desc := "(II)V" } : Jvm.MethodName)) ∈ TBL := inTb (tb5 (List.mem_of_getElem? (i := 95) rfl)) rfl
theorem tw_5_96 : (Jvm.Cond.code ({ cls := "PlacerHead", name := "requireIndex", desc := "(II)V" } : Jvm.MethodName) prog_1_method_64_code (2 : Nat) (Option.none : Option Jvm.ClassFile.FieldType)) ∈ TBL := inTb (tb5 (List.mem_of_getElem? (i := 96) rfl)) rfl
theorem tw_5_97 : (Jvm.Cond.classLink "PlacerHead" (350 : Nat) "java/lang/IndexOutOfBoundsException") ∈ TBL := inTb (tb5 (List.mem_of_getElem? (i := 97) rfl)) rfl
theorem tw_6_10 : (Jvm.Cond.code ({ cls := "PlacerHead$Board", name := "reopenFilled", desc := "()I" } : Jvm.MethodName) prog_2_method_11_code (2 : Nat) (Option.some Jvm.ClassFile.FieldType.int)) ∈ TBL := inTb (tb6 (List.mem_of_getElem? (i := 10) rfl)) rfl
theorem tw_6_124 : (Jvm.Cond.methodLinkNest "PlacerHead" (196 : Nat) ({ cls := "PlacerHead$Board", name := "valueOf", desc := "(II)I" } : Jvm.MethodName) "PlacerHead") ∈ lw_tbl := List.mem_append_right _ (tb6 (List.mem_of_getElem? (i := 124) rfl))
theorem tw_6_126 : (Jvm.Cond.instanceMethod ({ cls := "PlacerHead$Board", name := "valueOf", desc := "(II)I" } : Jvm.MethodName)) ∈ TBL := inTb (tb6 (List.mem_of_getElem? (i := 126) rfl)) rfl
theorem tw_6_127 : (Jvm.Cond.code ({ cls := "PlacerHead$Board", name := "valueOf", desc := "(II)I" } : Jvm.MethodName) prog_2_method_5_code (3 : Nat) (Option.some Jvm.ClassFile.FieldType.int)) ∈ TBL := inTb (tb6 (List.mem_of_getElem? (i := 127) rfl)) rfl
theorem tw_6_140 : (Jvm.Cond.methodLinkNest "PlacerHead" (233 : Nat) ({ cls := "PlacerHead$Board", name := "fillable", desc := "()J" } : Jvm.MethodName) "PlacerHead") ∈ lw_tbl := List.mem_append_right _ (tb6 (List.mem_of_getElem? (i := 140) rfl))
theorem tw_6_163 : (Jvm.Cond.methodLinkNest "PlacerHead" (153 : Nat) ({ cls := "PlacerHead$Feeder", name := "valueOf", desc := "(I)I" } : Jvm.MethodName) "PlacerHead") ∈ lw_tbl := List.mem_append_right _ (tb6 (List.mem_of_getElem? (i := 163) rfl))
theorem tw_6_165 : (Jvm.Cond.instanceMethod ({ cls := "PlacerHead$Feeder", name := "valueOf", desc := "(I)I" } : Jvm.MethodName)) ∈ TBL := inTb (tb6 (List.mem_of_getElem? (i := 165) rfl)) rfl
theorem tw_6_166 : (Jvm.Cond.code ({ cls := "PlacerHead$Feeder", name := "valueOf", desc := "(I)I" } : Jvm.MethodName) prog_4_method_4_code (2 : Nat) (Option.some Jvm.ClassFile.FieldType.int)) ∈ TBL := inTb (tb6 (List.mem_of_getElem? (i := 166) rfl)) rfl
theorem tw_6_171 : (Jvm.Cond.methodLinkNest "PlacerHead" (267 : Nat) ({ cls := "PlacerHead$Plan", name := "next", desc := "()Z" } : Jvm.MethodName) "PlacerHead") ∈ lw_tbl := List.mem_append_right _ (tb6 (List.mem_of_getElem? (i := 171) rfl))
theorem tw_6_172 : (Jvm.Cond.methodLink "PlacerHead" (280 : Nat) ({ cls := "PlacerHead", name := "codeOf", desc := "(III)I" } : Jvm.MethodName)) ∈ TBL := inTb (tb6 (List.mem_of_getElem? (i := 172) rfl)) rfl
theorem tw_6_177 : (Jvm.Cond.methodLinkNest "PlacerHead" (318 : Nat) ({ cls := "PlacerHead$Forecast", name := "begin", desc := "()V" } : Jvm.MethodName) "PlacerHead") ∈ lw_tbl := List.mem_append_right _ (tb6 (List.mem_of_getElem? (i := 177) rfl))
theorem tw_6_179 : (Jvm.Cond.instanceMethod ({ cls := "PlacerHead$Forecast", name := "begin", desc := "()V" } : Jvm.MethodName)) ∈ TBL := inTb (tb6 (List.mem_of_getElem? (i := 179) rfl)) rfl
theorem tw_6_180 : (Jvm.Cond.code ({ cls := "PlacerHead$Forecast", name := "begin", desc := "()V" } : Jvm.MethodName) prog_5_method_2_code (1 : Nat) (Option.none : Option Jvm.ClassFile.FieldType)) ∈ TBL := inTb (tb6 (List.mem_of_getElem? (i := 180) rfl)) rfl
theorem tw_6_182 : (Jvm.Cond.methodLinkNest "PlacerHead" (321 : Nat) ({ cls := "PlacerHead$Forecast", name := "goOn", desc := "()V" } : Jvm.MethodName) "PlacerHead") ∈ lw_tbl := List.mem_append_right _ (tb6 (List.mem_of_getElem? (i := 182) rfl))
theorem tw_6_184 : (Jvm.Cond.instanceMethod ({ cls := "PlacerHead$Forecast", name := "goOn", desc := "()V" } : Jvm.MethodName)) ∈ TBL := inTb (tb6 (List.mem_of_getElem? (i := 184) rfl)) rfl
theorem tw_6_185 : (Jvm.Cond.code ({ cls := "PlacerHead$Forecast", name := "goOn", desc := "()V" } : Jvm.MethodName) prog_5_method_3_code (2 : Nat) (Option.none : Option Jvm.ClassFile.FieldType)) ∈ TBL := inTb (tb6 (List.mem_of_getElem? (i := 185) rfl)) rfl
theorem tw_6_196 : (Jvm.Cond.methodLink "PlacerHead" (330 : Nat) ({ cls := "java/lang/Long", name := "bitCount", desc := "(J)I" } : Jvm.MethodName)) ∈ TBL := inTb (tb6 (List.mem_of_getElem? (i := 196) rfl)) rfl
theorem tw_6_217 : (Jvm.Cond.methodLinkNest "PlacerHead" (347 : Nat) ({ cls := "PlacerHead$Forecast", name := "actionsUntilEmpty", desc := "(I)I" } : Jvm.MethodName) "PlacerHead") ∈ lw_tbl := List.mem_append_right _ (tb6 (List.mem_of_getElem? (i := 217) rfl))
theorem tw_6_219 : (Jvm.Cond.instanceMethod ({ cls := "PlacerHead$Forecast", name := "actionsUntilEmpty", desc := "(I)I" } : Jvm.MethodName)) ∈ TBL := inTb (tb6 (List.mem_of_getElem? (i := 219) rfl)) rfl
theorem tw_6_220 : (Jvm.Cond.code ({ cls := "PlacerHead$Forecast", name := "actionsUntilEmpty", desc := "(I)I" } : Jvm.MethodName) prog_5_method_4_code (4 : Nat) (Option.some Jvm.ClassFile.FieldType.int)) ∈ TBL := inTb (tb6 (List.mem_of_getElem? (i := 220) rfl)) rfl
theorem tw_6_233 : (Jvm.Cond.methodLinkNest "PlacerHead" (315 : Nat) ({ cls := "PlacerHead$Journal", name := "entry", desc := "(II)I" } : Jvm.MethodName) "PlacerHead") ∈ lw_tbl := List.mem_append_right _ (tb6 (List.mem_of_getElem? (i := 233) rfl))
theorem tw_6_235 : (Jvm.Cond.instanceMethod ({ cls := "PlacerHead$Journal", name := "entry", desc := "(II)I" } : Jvm.MethodName)) ∈ TBL := inTb (tb6 (List.mem_of_getElem? (i := 235) rfl)) rfl
theorem tw_6_236 : (Jvm.Cond.code ({ cls := "PlacerHead$Journal", name := "entry", desc := "(II)I" } : Jvm.MethodName) prog_6_method_5_code (4 : Nat) (Option.some Jvm.ClassFile.FieldType.int)) ∈ TBL := inTb (tb6 (List.mem_of_getElem? (i := 236) rfl)) rfl
theorem tw_6_26 : (Jvm.Cond.fieldLink "PlacerHead" (123 : Nat) "PlacerHead" "MOST" "[I") ∈ TBL := inTb (tb6 (List.mem_of_getElem? (i := 26) rfl)) rfl
theorem tw_6_27 : (Jvm.Cond.fieldLink "PlacerHead" (126 : Nat) "PlacerHead" "LEAST" "[I") ∈ TBL := inTb (tb6 (List.mem_of_getElem? (i := 27) rfl)) rfl
theorem tw_6_32 : (Jvm.Cond.methodLinkNest "PlacerHead" (283 : Nat) ({ cls := "PlacerHead$Plan", name := "follow", desc := "()I" } : Jvm.MethodName) "PlacerHead") ∈ lw_tbl := List.mem_append_right _ (tb6 (List.mem_of_getElem? (i := 32) rfl))
theorem tw_6_34 : (Jvm.Cond.instanceMethod ({ cls := "PlacerHead$Plan", name := "follow", desc := "()I" } : Jvm.MethodName)) ∈ TBL := inTb (tb6 (List.mem_of_getElem? (i := 34) rfl)) rfl
theorem tw_6_35 : (Jvm.Cond.code ({ cls := "PlacerHead$Plan", name := "follow", desc := "()I" } : Jvm.MethodName) prog_9_method_3_code (1 : Nat) (Option.some Jvm.ClassFile.FieldType.int)) ∈ TBL := inTb (tb6 (List.mem_of_getElem? (i := 35) rfl)) rfl
theorem tw_6_7 : (Jvm.Cond.methodLinkNest "PlacerHead" (243 : Nat) ({ cls := "PlacerHead$Board", name := "reopenFilled", desc := "()I" } : Jvm.MethodName) "PlacerHead") ∈ lw_tbl := List.mem_append_right _ (tb6 (List.mem_of_getElem? (i := 7) rfl))
theorem tw_6_9 : (Jvm.Cond.instanceMethod ({ cls := "PlacerHead$Board", name := "reopenFilled", desc := "()I" } : Jvm.MethodName)) ∈ TBL := inTb (tb6 (List.mem_of_getElem? (i := 9) rfl)) rfl
theorem tw_6_96 : (Jvm.Cond.methodLinkNest "PlacerHead" (137 : Nat) ({ cls := "PlacerHead$Spindle", name := "valueOf", desc := "(I)I" } : Jvm.MethodName) "PlacerHead") ∈ lw_tbl := List.mem_append_right _ (tb6 (List.mem_of_getElem? (i := 96) rfl))
theorem tw_6_98 : (Jvm.Cond.instanceMethod ({ cls := "PlacerHead$Spindle", name := "valueOf", desc := "(I)I" } : Jvm.MethodName)) ∈ TBL := inTb (tb6 (List.mem_of_getElem? (i := 98) rfl)) rfl
theorem tw_6_99 : (Jvm.Cond.code ({ cls := "PlacerHead$Spindle", name := "valueOf", desc := "(I)I" } : Jvm.MethodName) prog_10_method_5_code (2 : Nat) (Option.some Jvm.ClassFile.FieldType.int)) ∈ TBL := inTb (tb6 (List.mem_of_getElem? (i := 99) rfl)) rfl
theorem yd_X1_readText : (yX1_readText).cls ≠ "java/lang/invoke/MethodHandle" ∧ (yX1_readText).cls ≠ "java/lang/invoke/VarHandle" ∧ (parseMethodDescriptor (yX1_readText).desc).map (fun d => d.parameters.length) = some 1 := by decide +kernel
theorem yd_X0_reopenFilled : (yX0_reopenFilled).cls ≠ "java/lang/invoke/MethodHandle" ∧ (yX0_reopenFilled).cls ≠ "java/lang/invoke/VarHandle" ∧ (parseMethodDescriptor (yX0_reopenFilled).desc).map (fun d => d.parameters.length) = some 0 := by decide +kernel
theorem yd_X7_follow : (yX7_follow).cls ≠ "java/lang/invoke/MethodHandle" ∧ (yX7_follow).cls ≠ "java/lang/invoke/VarHandle" ∧ (parseMethodDescriptor (yX7_follow).desc).map (fun d => d.parameters.length) = some 0 := by decide +kernel
theorem yd_X6_partsOf : (yX6_partsOf).cls ≠ "java/lang/invoke/MethodHandle" ∧ (yX6_partsOf).cls ≠ "java/lang/invoke/VarHandle" ∧ (parseMethodDescriptor (yX6_partsOf).desc).map (fun d => d.parameters.length) = some 2 := by decide +kernel
theorem yd_X3_begin : (yX3_begin).cls ≠ "java/lang/invoke/MethodHandle" ∧ (yX3_begin).cls ≠ "java/lang/invoke/VarHandle" ∧ (parseMethodDescriptor (yX3_begin).desc).map (fun d => d.parameters.length) = some 0 := by decide +kernel
theorem yd_X3_goOn : (yX3_goOn).cls ≠ "java/lang/invoke/MethodHandle" ∧ (yX3_goOn).cls ≠ "java/lang/invoke/VarHandle" ∧ (parseMethodDescriptor (yX3_goOn).desc).map (fun d => d.parameters.length) = some 0 := by decide +kernel
theorem yd_X9_requireRange : (yX9_requireRange).cls ≠ "java/lang/invoke/MethodHandle" ∧ (yX9_requireRange).cls ≠ "java/lang/invoke/VarHandle" ∧ (parseMethodDescriptor (yX9_requireRange).desc).map (fun d => d.parameters.length) = some 3 := by decide +kernel
theorem yd_X9_requireIndex : (yX9_requireIndex).cls ≠ "java/lang/invoke/MethodHandle" ∧ (yX9_requireIndex).cls ≠ "java/lang/invoke/VarHandle" ∧ (parseMethodDescriptor (yX9_requireIndex).desc).map (fun d => d.parameters.length) = some 2 := by decide +kernel
theorem yd_X8_valueOf : (yX8_valueOf).cls ≠ "java/lang/invoke/MethodHandle" ∧ (yX8_valueOf).cls ≠ "java/lang/invoke/VarHandle" ∧ (parseMethodDescriptor (yX8_valueOf).desc).map (fun d => d.parameters.length) = some 1 := by decide +kernel
theorem yd_X2_valueOf : (yX2_valueOf).cls ≠ "java/lang/invoke/MethodHandle" ∧ (yX2_valueOf).cls ≠ "java/lang/invoke/VarHandle" ∧ (parseMethodDescriptor (yX2_valueOf).desc).map (fun d => d.parameters.length) = some 1 := by decide +kernel
theorem yd_X2_addReel : (yX2_addReel).cls ≠ "java/lang/invoke/MethodHandle" ∧ (yX2_addReel).cls ≠ "java/lang/invoke/VarHandle" ∧ (parseMethodDescriptor (yX2_addReel).desc).map (fun d => d.parameters.length) = some 1 := by decide +kernel
theorem yd_X2_removeLastReel : (yX2_removeLastReel).cls ≠ "java/lang/invoke/MethodHandle" ∧ (yX2_removeLastReel).cls ≠ "java/lang/invoke/VarHandle" ∧ (parseMethodDescriptor (yX2_removeLastReel).desc).map (fun d => d.parameters.length) = some 0 := by decide +kernel
theorem yd_X0_valueOf : (yX0_valueOf).cls ≠ "java/lang/invoke/MethodHandle" ∧ (yX0_valueOf).cls ≠ "java/lang/invoke/VarHandle" ∧ (parseMethodDescriptor (yX0_valueOf).desc).map (fun d => d.parameters.length) = some 2 := by decide +kernel
theorem yd_X0_reopen : (yX0_reopen).cls ≠ "java/lang/invoke/MethodHandle" ∧ (yX0_reopen).cls ≠ "java/lang/invoke/VarHandle" ∧ (parseMethodDescriptor (yX0_reopen).desc).map (fun d => d.parameters.length) = some 1 := by decide +kernel
theorem yd_X0_close : (yX0_close).cls ≠ "java/lang/invoke/MethodHandle" ∧ (yX0_close).cls ≠ "java/lang/invoke/VarHandle" ∧ (parseMethodDescriptor (yX0_close).desc).map (fun d => d.parameters.length) = some 1 := by decide +kernel
theorem yd_X4_entry : (yX4_entry).cls ≠ "java/lang/invoke/MethodHandle" ∧ (yX4_entry).cls ≠ "java/lang/invoke/VarHandle" ∧ (parseMethodDescriptor (yX4_entry).desc).map (fun d => d.parameters.length) = some 2 := by decide +kernel
theorem yd_X3_actionsUntilEmpty : (yX3_actionsUntilEmpty).cls ≠ "java/lang/invoke/MethodHandle" ∧ (yX3_actionsUntilEmpty).cls ≠ "java/lang/invoke/VarHandle" ∧ (parseMethodDescriptor (yX3_actionsUntilEmpty).desc).map (fun d => d.parameters.length) = some 1 := by decide +kernel
set_option maxRecDepth 100000 in
theorem at_110_1 : ∀ w ∈ vx_atS "PlacerHead" 110 (exN 1) ctnames, w ∈ lw_tbl ∧ (goodWord w = true ∨ nestW w = true) := by decide +kernel
set_option maxRecDepth 100000 in
theorem ag_110_1 : ∀ w ∈ Cond.classLink "PlacerHead" 106 (exN 1) :: Cond.initialized (exN 1) :: vx_atS "PlacerHead" 110 (exN 1) ctnames, vx_ot w = true := by decide +kernel
set_option maxRecDepth 100000 in
theorem at_354_0 : ∀ w ∈ vx_atS "PlacerHead" 354 (exN 0) ctnames, w ∈ lw_tbl ∧ (goodWord w = true ∨ nestW w = true) := by decide +kernel
set_option maxRecDepth 100000 in
theorem ag_354_0 : ∀ w ∈ Cond.classLink "PlacerHead" 350 (exN 0) :: Cond.initialized (exN 0) :: vx_atS "PlacerHead" 354 (exN 0) ctnames, vx_ot w = true := by decide +kernel
