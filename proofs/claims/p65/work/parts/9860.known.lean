/-! what the Statement gives of the start, as the frame wants it -/
def NR : List Cond := flatC (Jvm.Cond.and given_1 narrow_1)
/-- the term of the text at the place i -/
def tmR (i : Nat) : Term := .string (strR.getD i ("", 0, "", 0)).1 (strR.getD i ("", 0, "", 0)).2.1
set_option maxRecDepth 100000 in
theorem nr_dfl0 : ∀ j : Nat, j < 15 → NR[7 + j]? = some (Cond.eq (.elem (.static "PlacerHead" "DEFAULTS" "[I") (.int (Int32.ofNat j))) (.int (dfl j))) := by decide +kernel
theorem nr_dfl : ∀ j : Nat, j < 15 → Cond.eq (.elem (.static "PlacerHead" "DEFAULTS" "[I") (.int (Int32.ofNat j))) (.int (dfl j)) ∈ NR := fun j hj => List.mem_of_getElem? (nr_dfl0 j hj)
set_option maxRecDepth 100000 in
theorem nr_lea0 : ∀ j : Nat, j < 15 → NR[48 + j]? = some (Cond.eq (.elem (.static "PlacerHead" "LEAST" "[I") (.int (Int32.ofNat j))) (.int (lea j))) := by decide +kernel
theorem nr_lea : ∀ j : Nat, j < 15 → Cond.eq (.elem (.static "PlacerHead" "LEAST" "[I") (.int (Int32.ofNat j))) (.int (lea j)) ∈ NR := fun j hj => List.mem_of_getElem? (nr_lea0 j hj)
set_option maxRecDepth 100000 in
theorem nr_mst0 : ∀ j : Nat, j < 15 → NR[30 + j]? = some (Cond.eq (.elem (.static "PlacerHead" "MOST" "[I") (.int (Int32.ofNat j))) (.int (mst j))) := by decide +kernel
theorem nr_mst : ∀ j : Nat, j < 15 → Cond.eq (.elem (.static "PlacerHead" "MOST" "[I") (.int (Int32.ofNat j))) (.int (mst j)) ∈ NR := fun j hj => List.mem_of_getElem? (nr_mst0 j hj)
set_option maxRecDepth 100000 in
theorem nr_arr : ∀ nm ∈ ["DEFAULTS", "LEAST", "MOST"], Cond.arrayOf (.static "PlacerHead" nm "[I") .int ∈ NR ∧ Cond.eq (.length (.static "PlacerHead" nm "[I")) (.int 15) ∈ NR := by decide +kernel
set_option maxRecDepth 100000 in
theorem nr_cs : Cond.eq (.static "java/lang/String" "COMPACT_STRINGS" "Z") (.int 1) ∈ NR := by decide +kernel
set_option maxRecDepth 100000 in
theorem nr_q1 : Cond.isRef (.static "jdk/internal/util/Preconditions" "SIOOBE_FORMATTER" "Ljava/util/function/BiFunction;") ∈ NR := by decide +kernel
set_option maxRecDepth 100000 in
theorem nr_q2 : Cond.isRef (.static Bundle.tN "UNASSIGNED_STACK" Bundle.steD) ∈ NR := by decide +kernel
set_option maxRecDepth 100000 in
theorem nr_q3 : Cond.isRef (.static Bundle.tN "SUPPRESSED_SENTINEL" Bundle.listD) ∈ NR := by decide +kernel
set_option maxRecDepth 100000 in
theorem nr_nc : Cond.not (.castable "java/lang/IllegalArgumentException" "PlacerHead$Machine") ∈ NR := List.mem_of_getElem? (i := 310) rfl
set_option maxRecDepth 100000 in
theorem nr_sx0 : Cond.exactly (tmR 0) "java/lang/String" ∈ NR := List.mem_of_getElem? (i := 313) rfl
set_option maxRecDepth 100000 in
theorem nr_sc0 : Cond.eq (.field (tmR 0) "java/lang/String" "coder" "B") (.int 0) ∈ NR := List.mem_of_getElem? (i := 314) rfl
set_option maxRecDepth 100000 in
theorem nr_sa0 : Cond.arrayOf (.field (tmR 0) "java/lang/String" "value" "[B") .byte ∈ NR := List.mem_of_getElem? (i := 315) rfl
set_option maxRecDepth 100000 in
theorem nr_sl0 : Cond.eq (.length (.field (tmR 0) "java/lang/String" "value" "[B")) (.int (Int32.ofNat (strL 0))) ∈ NR := List.mem_of_getElem? (i := 316) rfl
set_option maxRecDepth 100000 in
theorem nr_se0_0 : ∀ j : Nat, j < 7 → NR[317 + j]? = some (Cond.eq (.elem (.field (tmR 0) "java/lang/String" "value" "[B") (.int (Int32.ofNat j))) (.int (strC 0 j))) := by decide +kernel
theorem nr_se0_ : ∀ j : Nat, j < 7 → Cond.eq (.elem (.field (tmR 0) "java/lang/String" "value" "[B") (.int (Int32.ofNat j))) (.int (strC 0 j)) ∈ NR := fun j hj => List.mem_of_getElem? (nr_se0_0 j hj)
set_option maxRecDepth 100000 in
theorem nr_sx1 : Cond.exactly (tmR 1) "java/lang/String" ∈ NR := List.mem_of_getElem? (i := 324) rfl
set_option maxRecDepth 100000 in
theorem nr_sc1 : Cond.eq (.field (tmR 1) "java/lang/String" "coder" "B") (.int 0) ∈ NR := List.mem_of_getElem? (i := 325) rfl
set_option maxRecDepth 100000 in
theorem nr_sa1 : Cond.arrayOf (.field (tmR 1) "java/lang/String" "value" "[B") .byte ∈ NR := List.mem_of_getElem? (i := 326) rfl
set_option maxRecDepth 100000 in
theorem nr_sl1 : Cond.eq (.length (.field (tmR 1) "java/lang/String" "value" "[B")) (.int (Int32.ofNat (strL 1))) ∈ NR := List.mem_of_getElem? (i := 327) rfl
set_option maxRecDepth 100000 in
theorem nr_se1_0 : ∀ j : Nat, j < 5 → NR[328 + j]? = some (Cond.eq (.elem (.field (tmR 1) "java/lang/String" "value" "[B") (.int (Int32.ofNat j))) (.int (strC 1 j))) := by decide +kernel
theorem nr_se1_ : ∀ j : Nat, j < 5 → Cond.eq (.elem (.field (tmR 1) "java/lang/String" "value" "[B") (.int (Int32.ofNat j))) (.int (strC 1 j)) ∈ NR := fun j hj => List.mem_of_getElem? (nr_se1_0 j hj)
set_option maxRecDepth 100000 in
theorem nr_sx2 : Cond.exactly (tmR 2) "java/lang/String" ∈ NR := List.mem_of_getElem? (i := 333) rfl
set_option maxRecDepth 100000 in
theorem nr_sc2 : Cond.eq (.field (tmR 2) "java/lang/String" "coder" "B") (.int 0) ∈ NR := List.mem_of_getElem? (i := 334) rfl
set_option maxRecDepth 100000 in
theorem nr_sa2 : Cond.arrayOf (.field (tmR 2) "java/lang/String" "value" "[B") .byte ∈ NR := List.mem_of_getElem? (i := 335) rfl
set_option maxRecDepth 100000 in
theorem nr_sl2 : Cond.eq (.length (.field (tmR 2) "java/lang/String" "value" "[B")) (.int (Int32.ofNat (strL 2))) ∈ NR := List.mem_of_getElem? (i := 336) rfl
set_option maxRecDepth 100000 in
theorem nr_se2_0 : ∀ j : Nat, j < 6 → NR[337 + j]? = some (Cond.eq (.elem (.field (tmR 2) "java/lang/String" "value" "[B") (.int (Int32.ofNat j))) (.int (strC 2 j))) := by decide +kernel
theorem nr_se2_ : ∀ j : Nat, j < 6 → Cond.eq (.elem (.field (tmR 2) "java/lang/String" "value" "[B") (.int (Int32.ofNat j))) (.int (strC 2 j)) ∈ NR := fun j hj => List.mem_of_getElem? (nr_se2_0 j hj)
set_option maxRecDepth 100000 in
theorem nr_sx3 : Cond.exactly (tmR 3) "java/lang/String" ∈ NR := List.mem_of_getElem? (i := 343) rfl
set_option maxRecDepth 100000 in
theorem nr_sc3 : Cond.eq (.field (tmR 3) "java/lang/String" "coder" "B") (.int 0) ∈ NR := List.mem_of_getElem? (i := 344) rfl
set_option maxRecDepth 100000 in
theorem nr_sa3 : Cond.arrayOf (.field (tmR 3) "java/lang/String" "value" "[B") .byte ∈ NR := List.mem_of_getElem? (i := 345) rfl
set_option maxRecDepth 100000 in
theorem nr_sl3 : Cond.eq (.length (.field (tmR 3) "java/lang/String" "value" "[B")) (.int (Int32.ofNat (strL 3))) ∈ NR := List.mem_of_getElem? (i := 346) rfl
set_option maxRecDepth 100000 in
theorem nr_se3_0 : ∀ j : Nat, j < 6 → NR[347 + j]? = some (Cond.eq (.elem (.field (tmR 3) "java/lang/String" "value" "[B") (.int (Int32.ofNat j))) (.int (strC 3 j))) := by decide +kernel
theorem nr_se3_ : ∀ j : Nat, j < 6 → Cond.eq (.elem (.field (tmR 3) "java/lang/String" "value" "[B") (.int (Int32.ofNat j))) (.int (strC 3 j)) ∈ NR := fun j hj => List.mem_of_getElem? (nr_se3_0 j hj)
set_option maxRecDepth 100000 in
theorem nr_sx4 : Cond.exactly (tmR 4) "java/lang/String" ∈ NR := List.mem_of_getElem? (i := 353) rfl
set_option maxRecDepth 100000 in
theorem nr_sc4 : Cond.eq (.field (tmR 4) "java/lang/String" "coder" "B") (.int 0) ∈ NR := List.mem_of_getElem? (i := 354) rfl
set_option maxRecDepth 100000 in
theorem nr_sa4 : Cond.arrayOf (.field (tmR 4) "java/lang/String" "value" "[B") .byte ∈ NR := List.mem_of_getElem? (i := 355) rfl
set_option maxRecDepth 100000 in
theorem nr_sl4 : Cond.eq (.length (.field (tmR 4) "java/lang/String" "value" "[B")) (.int (Int32.ofNat (strL 4))) ∈ NR := List.mem_of_getElem? (i := 356) rfl
set_option maxRecDepth 100000 in
theorem nr_se4_0 : ∀ j : Nat, j < 4 → NR[357 + j]? = some (Cond.eq (.elem (.field (tmR 4) "java/lang/String" "value" "[B") (.int (Int32.ofNat j))) (.int (strC 4 j))) := by decide +kernel
theorem nr_se4_ : ∀ j : Nat, j < 4 → Cond.eq (.elem (.field (tmR 4) "java/lang/String" "value" "[B") (.int (Int32.ofNat j))) (.int (strC 4 j)) ∈ NR := fun j hj => List.mem_of_getElem? (nr_se4_0 j hj)
set_option maxRecDepth 100000 in
theorem nr_sx5 : Cond.exactly (tmR 5) "java/lang/String" ∈ NR := List.mem_of_getElem? (i := 361) rfl
set_option maxRecDepth 100000 in
theorem nr_sc5 : Cond.eq (.field (tmR 5) "java/lang/String" "coder" "B") (.int 0) ∈ NR := List.mem_of_getElem? (i := 362) rfl
set_option maxRecDepth 100000 in
theorem nr_sa5 : Cond.arrayOf (.field (tmR 5) "java/lang/String" "value" "[B") .byte ∈ NR := List.mem_of_getElem? (i := 363) rfl
set_option maxRecDepth 100000 in
theorem nr_sl5 : Cond.eq (.length (.field (tmR 5) "java/lang/String" "value" "[B")) (.int (Int32.ofNat (strL 5))) ∈ NR := List.mem_of_getElem? (i := 364) rfl
set_option maxRecDepth 100000 in
theorem nr_se5_0 : ∀ j : Nat, j < 5 → NR[365 + j]? = some (Cond.eq (.elem (.field (tmR 5) "java/lang/String" "value" "[B") (.int (Int32.ofNat j))) (.int (strC 5 j))) := by decide +kernel
theorem nr_se5_ : ∀ j : Nat, j < 5 → Cond.eq (.elem (.field (tmR 5) "java/lang/String" "value" "[B") (.int (Int32.ofNat j))) (.int (strC 5 j)) ∈ NR := fun j hj => List.mem_of_getElem? (nr_se5_0 j hj)
set_option maxRecDepth 100000 in
theorem nr_sx6 : Cond.exactly (tmR 6) "java/lang/String" ∈ NR := List.mem_of_getElem? (i := 370) rfl
set_option maxRecDepth 100000 in
theorem nr_sc6 : Cond.eq (.field (tmR 6) "java/lang/String" "coder" "B") (.int 0) ∈ NR := List.mem_of_getElem? (i := 371) rfl
set_option maxRecDepth 100000 in
theorem nr_sa6 : Cond.arrayOf (.field (tmR 6) "java/lang/String" "value" "[B") .byte ∈ NR := List.mem_of_getElem? (i := 372) rfl
set_option maxRecDepth 100000 in
theorem nr_sl6 : Cond.eq (.length (.field (tmR 6) "java/lang/String" "value" "[B")) (.int (Int32.ofNat (strL 6))) ∈ NR := List.mem_of_getElem? (i := 373) rfl
set_option maxRecDepth 100000 in
theorem nr_se6_0 : ∀ j : Nat, j < 4 → NR[374 + j]? = some (Cond.eq (.elem (.field (tmR 6) "java/lang/String" "value" "[B") (.int (Int32.ofNat j))) (.int (strC 6 j))) := by decide +kernel
theorem nr_se6_ : ∀ j : Nat, j < 4 → Cond.eq (.elem (.field (tmR 6) "java/lang/String" "value" "[B") (.int (Int32.ofNat j))) (.int (strC 6 j)) ∈ NR := fun j hj => List.mem_of_getElem? (nr_se6_0 j hj)
set_option maxRecDepth 100000 in
theorem nr_sx7 : Cond.exactly (tmR 7) "java/lang/String" ∈ NR := List.mem_of_getElem? (i := 378) rfl
set_option maxRecDepth 100000 in
theorem nr_sc7 : Cond.eq (.field (tmR 7) "java/lang/String" "coder" "B") (.int 0) ∈ NR := List.mem_of_getElem? (i := 379) rfl
set_option maxRecDepth 100000 in
theorem nr_sa7 : Cond.arrayOf (.field (tmR 7) "java/lang/String" "value" "[B") .byte ∈ NR := List.mem_of_getElem? (i := 380) rfl
set_option maxRecDepth 100000 in
theorem nr_sl7 : Cond.eq (.length (.field (tmR 7) "java/lang/String" "value" "[B")) (.int (Int32.ofNat (strL 7))) ∈ NR := List.mem_of_getElem? (i := 381) rfl
set_option maxRecDepth 100000 in
theorem nr_se7_0 : ∀ j : Nat, j < 7 → NR[382 + j]? = some (Cond.eq (.elem (.field (tmR 7) "java/lang/String" "value" "[B") (.int (Int32.ofNat j))) (.int (strC 7 j))) := by decide +kernel
theorem nr_se7_ : ∀ j : Nat, j < 7 → Cond.eq (.elem (.field (tmR 7) "java/lang/String" "value" "[B") (.int (Int32.ofNat j))) (.int (strC 7 j)) ∈ NR := fun j hj => List.mem_of_getElem? (nr_se7_0 j hj)
set_option maxRecDepth 100000 in
theorem nr_sx8 : Cond.exactly (tmR 8) "java/lang/String" ∈ NR := List.mem_of_getElem? (i := 389) rfl
set_option maxRecDepth 100000 in
theorem nr_sc8 : Cond.eq (.field (tmR 8) "java/lang/String" "coder" "B") (.int 0) ∈ NR := List.mem_of_getElem? (i := 390) rfl
set_option maxRecDepth 100000 in
theorem nr_sa8 : Cond.arrayOf (.field (tmR 8) "java/lang/String" "value" "[B") .byte ∈ NR := List.mem_of_getElem? (i := 391) rfl
set_option maxRecDepth 100000 in
theorem nr_sl8 : Cond.eq (.length (.field (tmR 8) "java/lang/String" "value" "[B")) (.int (Int32.ofNat (strL 8))) ∈ NR := List.mem_of_getElem? (i := 392) rfl
set_option maxRecDepth 100000 in
theorem nr_se8_0 : ∀ j : Nat, j < 4 → NR[393 + j]? = some (Cond.eq (.elem (.field (tmR 8) "java/lang/String" "value" "[B") (.int (Int32.ofNat j))) (.int (strC 8 j))) := by decide +kernel
theorem nr_se8_ : ∀ j : Nat, j < 4 → Cond.eq (.elem (.field (tmR 8) "java/lang/String" "value" "[B") (.int (Int32.ofNat j))) (.int (strC 8 j)) ∈ NR := fun j hj => List.mem_of_getElem? (nr_se8_0 j hj)
set_option maxRecDepth 100000 in
theorem nr_sx9 : Cond.exactly (tmR 9) "java/lang/String" ∈ NR := List.mem_of_getElem? (i := 397) rfl
set_option maxRecDepth 100000 in
theorem nr_sc9 : Cond.eq (.field (tmR 9) "java/lang/String" "coder" "B") (.int 0) ∈ NR := List.mem_of_getElem? (i := 398) rfl
set_option maxRecDepth 100000 in
theorem nr_sa9 : Cond.arrayOf (.field (tmR 9) "java/lang/String" "value" "[B") .byte ∈ NR := List.mem_of_getElem? (i := 399) rfl
set_option maxRecDepth 100000 in
theorem nr_sl9 : Cond.eq (.length (.field (tmR 9) "java/lang/String" "value" "[B")) (.int (Int32.ofNat (strL 9))) ∈ NR := List.mem_of_getElem? (i := 400) rfl
set_option maxRecDepth 100000 in
theorem nr_se9_0 : ∀ j : Nat, j < 6 → NR[401 + j]? = some (Cond.eq (.elem (.field (tmR 9) "java/lang/String" "value" "[B") (.int (Int32.ofNat j))) (.int (strC 9 j))) := by decide +kernel
theorem nr_se9_ : ∀ j : Nat, j < 6 → Cond.eq (.elem (.field (tmR 9) "java/lang/String" "value" "[B") (.int (Int32.ofNat j))) (.int (strC 9 j)) ∈ NR := fun j hj => List.mem_of_getElem? (nr_se9_0 j hj)
set_option maxRecDepth 100000 in
theorem nr_sx10 : Cond.exactly (tmR 10) "java/lang/String" ∈ NR := List.mem_of_getElem? (i := 407) rfl
set_option maxRecDepth 100000 in
theorem nr_sc10 : Cond.eq (.field (tmR 10) "java/lang/String" "coder" "B") (.int 0) ∈ NR := List.mem_of_getElem? (i := 408) rfl
set_option maxRecDepth 100000 in
theorem nr_sa10 : Cond.arrayOf (.field (tmR 10) "java/lang/String" "value" "[B") .byte ∈ NR := List.mem_of_getElem? (i := 409) rfl
set_option maxRecDepth 100000 in
theorem nr_sl10 : Cond.eq (.length (.field (tmR 10) "java/lang/String" "value" "[B")) (.int (Int32.ofNat (strL 10))) ∈ NR := List.mem_of_getElem? (i := 410) rfl
set_option maxRecDepth 100000 in
theorem nr_se10_0 : ∀ j : Nat, j < 4 → NR[411 + j]? = some (Cond.eq (.elem (.field (tmR 10) "java/lang/String" "value" "[B") (.int (Int32.ofNat j))) (.int (strC 10 j))) := by decide +kernel
theorem nr_se10_ : ∀ j : Nat, j < 4 → Cond.eq (.elem (.field (tmR 10) "java/lang/String" "value" "[B") (.int (Int32.ofNat j))) (.int (strC 10 j)) ∈ NR := fun j hj => List.mem_of_getElem? (nr_se10_0 j hj)
set_option maxRecDepth 100000 in
theorem nr_sx11 : Cond.exactly (tmR 11) "java/lang/String" ∈ NR := List.mem_of_getElem? (i := 415) rfl
set_option maxRecDepth 100000 in
theorem nr_sc11 : Cond.eq (.field (tmR 11) "java/lang/String" "coder" "B") (.int 0) ∈ NR := List.mem_of_getElem? (i := 416) rfl
set_option maxRecDepth 100000 in
theorem nr_sa11 : Cond.arrayOf (.field (tmR 11) "java/lang/String" "value" "[B") .byte ∈ NR := List.mem_of_getElem? (i := 417) rfl
set_option maxRecDepth 100000 in
theorem nr_sl11 : Cond.eq (.length (.field (tmR 11) "java/lang/String" "value" "[B")) (.int (Int32.ofNat (strL 11))) ∈ NR := List.mem_of_getElem? (i := 418) rfl
set_option maxRecDepth 100000 in
theorem nr_se11_0 : ∀ j : Nat, j < 6 → NR[419 + j]? = some (Cond.eq (.elem (.field (tmR 11) "java/lang/String" "value" "[B") (.int (Int32.ofNat j))) (.int (strC 11 j))) := by decide +kernel
theorem nr_se11_ : ∀ j : Nat, j < 6 → Cond.eq (.elem (.field (tmR 11) "java/lang/String" "value" "[B") (.int (Int32.ofNat j))) (.int (strC 11 j)) ∈ NR := fun j hj => List.mem_of_getElem? (nr_se11_0 j hj)
set_option maxRecDepth 100000 in
theorem nr_sx12 : Cond.exactly (tmR 12) "java/lang/String" ∈ NR := List.mem_of_getElem? (i := 582) rfl
set_option maxRecDepth 100000 in
theorem nr_sx13 : Cond.exactly (tmR 13) "java/lang/String" ∈ NR := List.mem_of_getElem? (i := 626) rfl
set_option maxRecDepth 100000 in
theorem nr_sx14 : Cond.exactly (tmR 14) "java/lang/String" ∈ NR := List.mem_of_getElem? (i := 658) rfl
set_option maxRecDepth 100000 in
theorem nr_sx15 : Cond.exactly (tmR 15) "java/lang/String" ∈ NR := List.mem_of_getElem? (i := 600) rfl
set_option maxRecDepth 100000 in
theorem nr_sx16 : Cond.exactly (tmR 16) "java/lang/String" ∈ NR := List.mem_of_getElem? (i := 425) rfl
set_option maxRecDepth 100000 in
theorem nr_sc16 : Cond.eq (.field (tmR 16) "java/lang/String" "coder" "B") (.int 0) ∈ NR := List.mem_of_getElem? (i := 426) rfl
set_option maxRecDepth 100000 in
theorem nr_sa16 : Cond.arrayOf (.field (tmR 16) "java/lang/String" "value" "[B") .byte ∈ NR := List.mem_of_getElem? (i := 427) rfl
set_option maxRecDepth 100000 in
theorem nr_sl16 : Cond.eq (.length (.field (tmR 16) "java/lang/String" "value" "[B")) (.int (Int32.ofNat (strL 16))) ∈ NR := List.mem_of_getElem? (i := 428) rfl
set_option maxRecDepth 100000 in
theorem nr_se16_0 : ∀ j : Nat, j < 8 → NR[429 + j]? = some (Cond.eq (.elem (.field (tmR 16) "java/lang/String" "value" "[B") (.int (Int32.ofNat j))) (.int (strC 16 j))) := by decide +kernel
theorem nr_se16_ : ∀ j : Nat, j < 8 → Cond.eq (.elem (.field (tmR 16) "java/lang/String" "value" "[B") (.int (Int32.ofNat j))) (.int (strC 16 j)) ∈ NR := fun j hj => List.mem_of_getElem? (nr_se16_0 j hj)
set_option maxRecDepth 100000 in
theorem nr_sx17 : Cond.exactly (tmR 17) "java/lang/String" ∈ NR := List.mem_of_getElem? (i := 437) rfl
set_option maxRecDepth 100000 in
theorem nr_sc17 : Cond.eq (.field (tmR 17) "java/lang/String" "coder" "B") (.int 0) ∈ NR := List.mem_of_getElem? (i := 438) rfl
set_option maxRecDepth 100000 in
theorem nr_sa17 : Cond.arrayOf (.field (tmR 17) "java/lang/String" "value" "[B") .byte ∈ NR := List.mem_of_getElem? (i := 439) rfl
set_option maxRecDepth 100000 in
theorem nr_sl17 : Cond.eq (.length (.field (tmR 17) "java/lang/String" "value" "[B")) (.int (Int32.ofNat (strL 17))) ∈ NR := List.mem_of_getElem? (i := 440) rfl
set_option maxRecDepth 100000 in
theorem nr_se17_0 : ∀ j : Nat, j < 1 → NR[441 + j]? = some (Cond.eq (.elem (.field (tmR 17) "java/lang/String" "value" "[B") (.int (Int32.ofNat j))) (.int (strC 17 j))) := by decide +kernel
theorem nr_se17_ : ∀ j : Nat, j < 1 → Cond.eq (.elem (.field (tmR 17) "java/lang/String" "value" "[B") (.int (Int32.ofNat j))) (.int (strC 17 j)) ∈ NR := fun j hj => List.mem_of_getElem? (nr_se17_0 j hj)
set_option maxRecDepth 100000 in
theorem nr_sx18 : Cond.exactly (tmR 18) "java/lang/String" ∈ NR := List.mem_of_getElem? (i := 442) rfl
set_option maxRecDepth 100000 in
theorem nr_sc18 : Cond.eq (.field (tmR 18) "java/lang/String" "coder" "B") (.int 0) ∈ NR := List.mem_of_getElem? (i := 443) rfl
set_option maxRecDepth 100000 in
theorem nr_sa18 : Cond.arrayOf (.field (tmR 18) "java/lang/String" "value" "[B") .byte ∈ NR := List.mem_of_getElem? (i := 444) rfl
set_option maxRecDepth 100000 in
theorem nr_sl18 : Cond.eq (.length (.field (tmR 18) "java/lang/String" "value" "[B")) (.int (Int32.ofNat (strL 18))) ∈ NR := List.mem_of_getElem? (i := 445) rfl
set_option maxRecDepth 100000 in
theorem nr_se18_0 : ∀ j : Nat, j < 8 → NR[446 + j]? = some (Cond.eq (.elem (.field (tmR 18) "java/lang/String" "value" "[B") (.int (Int32.ofNat j))) (.int (strC 18 j))) := by decide +kernel
theorem nr_se18_ : ∀ j : Nat, j < 8 → Cond.eq (.elem (.field (tmR 18) "java/lang/String" "value" "[B") (.int (Int32.ofNat j))) (.int (strC 18 j)) ∈ NR := fun j hj => List.mem_of_getElem? (nr_se18_0 j hj)
set_option maxRecDepth 100000 in
theorem nr_sx19 : Cond.exactly (tmR 19) "java/lang/String" ∈ NR := List.mem_of_getElem? (i := 454) rfl
set_option maxRecDepth 100000 in
theorem nr_sc19 : Cond.eq (.field (tmR 19) "java/lang/String" "coder" "B") (.int 0) ∈ NR := List.mem_of_getElem? (i := 455) rfl
set_option maxRecDepth 100000 in
theorem nr_sa19 : Cond.arrayOf (.field (tmR 19) "java/lang/String" "value" "[B") .byte ∈ NR := List.mem_of_getElem? (i := 456) rfl
set_option maxRecDepth 100000 in
theorem nr_sl19 : Cond.eq (.length (.field (tmR 19) "java/lang/String" "value" "[B")) (.int (Int32.ofNat (strL 19))) ∈ NR := List.mem_of_getElem? (i := 457) rfl
set_option maxRecDepth 100000 in
theorem nr_se19_0 : ∀ j : Nat, j < 4 → NR[458 + j]? = some (Cond.eq (.elem (.field (tmR 19) "java/lang/String" "value" "[B") (.int (Int32.ofNat j))) (.int (strC 19 j))) := by decide +kernel
theorem nr_se19_ : ∀ j : Nat, j < 4 → Cond.eq (.elem (.field (tmR 19) "java/lang/String" "value" "[B") (.int (Int32.ofNat j))) (.int (strC 19 j)) ∈ NR := fun j hj => List.mem_of_getElem? (nr_se19_0 j hj)
set_option maxRecDepth 100000 in
theorem nr_sx20 : Cond.exactly (tmR 20) "java/lang/String" ∈ NR := List.mem_of_getElem? (i := 462) rfl
set_option maxRecDepth 100000 in
theorem nr_sc20 : Cond.eq (.field (tmR 20) "java/lang/String" "coder" "B") (.int 0) ∈ NR := List.mem_of_getElem? (i := 463) rfl
set_option maxRecDepth 100000 in
theorem nr_sa20 : Cond.arrayOf (.field (tmR 20) "java/lang/String" "value" "[B") .byte ∈ NR := List.mem_of_getElem? (i := 464) rfl
set_option maxRecDepth 100000 in
theorem nr_sl20 : Cond.eq (.length (.field (tmR 20) "java/lang/String" "value" "[B")) (.int (Int32.ofNat (strL 20))) ∈ NR := List.mem_of_getElem? (i := 465) rfl
set_option maxRecDepth 100000 in
theorem nr_se20_0 : ∀ j : Nat, j < 39 → NR[466 + j]? = some (Cond.eq (.elem (.field (tmR 20) "java/lang/String" "value" "[B") (.int (Int32.ofNat j))) (.int (strC 20 j))) := by decide +kernel
theorem nr_se20_ : ∀ j : Nat, j < 39 → Cond.eq (.elem (.field (tmR 20) "java/lang/String" "value" "[B") (.int (Int32.ofNat j))) (.int (strC 20 j)) ∈ NR := fun j hj => List.mem_of_getElem? (nr_se20_0 j hj)
set_option maxRecDepth 100000 in
theorem nr_sx21 : Cond.exactly (tmR 21) "java/lang/String" ∈ NR := List.mem_of_getElem? (i := 505) rfl
set_option maxRecDepth 100000 in
theorem nr_sc21 : Cond.eq (.field (tmR 21) "java/lang/String" "coder" "B") (.int 0) ∈ NR := List.mem_of_getElem? (i := 506) rfl
set_option maxRecDepth 100000 in
theorem nr_sa21 : Cond.arrayOf (.field (tmR 21) "java/lang/String" "value" "[B") .byte ∈ NR := List.mem_of_getElem? (i := 507) rfl
set_option maxRecDepth 100000 in
theorem nr_sl21 : Cond.eq (.length (.field (tmR 21) "java/lang/String" "value" "[B")) (.int (Int32.ofNat (strL 21))) ∈ NR := List.mem_of_getElem? (i := 508) rfl
set_option maxRecDepth 100000 in
theorem nr_se21_0 : ∀ j : Nat, j < 8 → NR[509 + j]? = some (Cond.eq (.elem (.field (tmR 21) "java/lang/String" "value" "[B") (.int (Int32.ofNat j))) (.int (strC 21 j))) := by decide +kernel
theorem nr_se21_ : ∀ j : Nat, j < 8 → Cond.eq (.elem (.field (tmR 21) "java/lang/String" "value" "[B") (.int (Int32.ofNat j))) (.int (strC 21 j)) ∈ NR := fun j hj => List.mem_of_getElem? (nr_se21_0 j hj)
set_option maxRecDepth 100000 in
theorem nr_sx22 : Cond.exactly (tmR 22) "java/lang/String" ∈ NR := List.mem_of_getElem? (i := 517) rfl
set_option maxRecDepth 100000 in
theorem nr_sc22 : Cond.eq (.field (tmR 22) "java/lang/String" "coder" "B") (.int 0) ∈ NR := List.mem_of_getElem? (i := 518) rfl
set_option maxRecDepth 100000 in
theorem nr_sa22 : Cond.arrayOf (.field (tmR 22) "java/lang/String" "value" "[B") .byte ∈ NR := List.mem_of_getElem? (i := 519) rfl
set_option maxRecDepth 100000 in
theorem nr_sl22 : Cond.eq (.length (.field (tmR 22) "java/lang/String" "value" "[B")) (.int (Int32.ofNat (strL 22))) ∈ NR := List.mem_of_getElem? (i := 520) rfl
set_option maxRecDepth 100000 in
theorem nr_se22_0 : ∀ j : Nat, j < 6 → NR[521 + j]? = some (Cond.eq (.elem (.field (tmR 22) "java/lang/String" "value" "[B") (.int (Int32.ofNat j))) (.int (strC 22 j))) := by decide +kernel
theorem nr_se22_ : ∀ j : Nat, j < 6 → Cond.eq (.elem (.field (tmR 22) "java/lang/String" "value" "[B") (.int (Int32.ofNat j))) (.int (strC 22 j)) ∈ NR := fun j hj => List.mem_of_getElem? (nr_se22_0 j hj)
set_option maxRecDepth 100000 in
theorem nr_sx23 : Cond.exactly (tmR 23) "java/lang/String" ∈ NR := List.mem_of_getElem? (i := 527) rfl
set_option maxRecDepth 100000 in
theorem nr_sc23 : Cond.eq (.field (tmR 23) "java/lang/String" "coder" "B") (.int 0) ∈ NR := List.mem_of_getElem? (i := 528) rfl
set_option maxRecDepth 100000 in
theorem nr_sa23 : Cond.arrayOf (.field (tmR 23) "java/lang/String" "value" "[B") .byte ∈ NR := List.mem_of_getElem? (i := 529) rfl
set_option maxRecDepth 100000 in
theorem nr_sl23 : Cond.eq (.length (.field (tmR 23) "java/lang/String" "value" "[B")) (.int (Int32.ofNat (strL 23))) ∈ NR := List.mem_of_getElem? (i := 530) rfl
set_option maxRecDepth 100000 in
theorem nr_se23_0 : ∀ j : Nat, j < 7 → NR[531 + j]? = some (Cond.eq (.elem (.field (tmR 23) "java/lang/String" "value" "[B") (.int (Int32.ofNat j))) (.int (strC 23 j))) := by decide +kernel
theorem nr_se23_ : ∀ j : Nat, j < 7 → Cond.eq (.elem (.field (tmR 23) "java/lang/String" "value" "[B") (.int (Int32.ofNat j))) (.int (strC 23 j)) ∈ NR := fun j hj => List.mem_of_getElem? (nr_se23_0 j hj)
set_option maxRecDepth 100000 in
theorem nr_sx24 : Cond.exactly (tmR 24) "java/lang/String" ∈ NR := List.mem_of_getElem? (i := 538) rfl
set_option maxRecDepth 100000 in
theorem nr_sc24 : Cond.eq (.field (tmR 24) "java/lang/String" "coder" "B") (.int 0) ∈ NR := List.mem_of_getElem? (i := 539) rfl
set_option maxRecDepth 100000 in
theorem nr_sa24 : Cond.arrayOf (.field (tmR 24) "java/lang/String" "value" "[B") .byte ∈ NR := List.mem_of_getElem? (i := 540) rfl
set_option maxRecDepth 100000 in
theorem nr_sl24 : Cond.eq (.length (.field (tmR 24) "java/lang/String" "value" "[B")) (.int (Int32.ofNat (strL 24))) ∈ NR := List.mem_of_getElem? (i := 541) rfl
set_option maxRecDepth 100000 in
theorem nr_se24_0 : ∀ j : Nat, j < 6 → NR[542 + j]? = some (Cond.eq (.elem (.field (tmR 24) "java/lang/String" "value" "[B") (.int (Int32.ofNat j))) (.int (strC 24 j))) := by decide +kernel
theorem nr_se24_ : ∀ j : Nat, j < 6 → Cond.eq (.elem (.field (tmR 24) "java/lang/String" "value" "[B") (.int (Int32.ofNat j))) (.int (strC 24 j)) ∈ NR := fun j hj => List.mem_of_getElem? (nr_se24_0 j hj)
set_option maxRecDepth 100000 in
theorem nr_sx25 : Cond.exactly (tmR 25) "java/lang/String" ∈ NR := List.mem_of_getElem? (i := 548) rfl
set_option maxRecDepth 100000 in
theorem nr_sc25 : Cond.eq (.field (tmR 25) "java/lang/String" "coder" "B") (.int 0) ∈ NR := List.mem_of_getElem? (i := 549) rfl
set_option maxRecDepth 100000 in
theorem nr_sa25 : Cond.arrayOf (.field (tmR 25) "java/lang/String" "value" "[B") .byte ∈ NR := List.mem_of_getElem? (i := 550) rfl
set_option maxRecDepth 100000 in
theorem nr_sl25 : Cond.eq (.length (.field (tmR 25) "java/lang/String" "value" "[B")) (.int (Int32.ofNat (strL 25))) ∈ NR := List.mem_of_getElem? (i := 551) rfl
set_option maxRecDepth 100000 in
theorem nr_se25_0 : ∀ j : Nat, j < 4 → NR[552 + j]? = some (Cond.eq (.elem (.field (tmR 25) "java/lang/String" "value" "[B") (.int (Int32.ofNat j))) (.int (strC 25 j))) := by decide +kernel
theorem nr_se25_ : ∀ j : Nat, j < 4 → Cond.eq (.elem (.field (tmR 25) "java/lang/String" "value" "[B") (.int (Int32.ofNat j))) (.int (strC 25 j)) ∈ NR := fun j hj => List.mem_of_getElem? (nr_se25_0 j hj)
set_option maxRecDepth 100000 in
theorem nr_sx26 : Cond.exactly (tmR 26) "java/lang/String" ∈ NR := List.mem_of_getElem? (i := 556) rfl
set_option maxRecDepth 100000 in
theorem nr_sc26 : Cond.eq (.field (tmR 26) "java/lang/String" "coder" "B") (.int 0) ∈ NR := List.mem_of_getElem? (i := 557) rfl
set_option maxRecDepth 100000 in
theorem nr_sa26 : Cond.arrayOf (.field (tmR 26) "java/lang/String" "value" "[B") .byte ∈ NR := List.mem_of_getElem? (i := 558) rfl
set_option maxRecDepth 100000 in
theorem nr_sl26 : Cond.eq (.length (.field (tmR 26) "java/lang/String" "value" "[B")) (.int (Int32.ofNat (strL 26))) ∈ NR := List.mem_of_getElem? (i := 559) rfl
set_option maxRecDepth 100000 in
theorem nr_se26_0 : ∀ j : Nat, j < 22 → NR[560 + j]? = some (Cond.eq (.elem (.field (tmR 26) "java/lang/String" "value" "[B") (.int (Int32.ofNat j))) (.int (strC 26 j))) := by decide +kernel
theorem nr_se26_ : ∀ j : Nat, j < 22 → Cond.eq (.elem (.field (tmR 26) "java/lang/String" "value" "[B") (.int (Int32.ofNat j))) (.int (strC 26 j)) ∈ NR := fun j hj => List.mem_of_getElem? (nr_se26_0 j hj)
set_option maxRecDepth 100000 in
theorem nr_sx : ∀ i : Nat, i < 27 → Cond.exactly (tmR i) "java/lang/String" ∈ NR := fun i hi => by
  rcases (show i = 0 ∨ i = 1 ∨ i = 2 ∨ i = 3 ∨ i = 4 ∨ i = 5 ∨ i = 6 ∨ i = 7 ∨ i = 8 ∨ i = 9 ∨ i = 10 ∨ i = 11 ∨ i = 12 ∨ i = 13 ∨ i = 14 ∨ i = 15 ∨ i = 16 ∨ i = 17 ∨ i = 18 ∨ i = 19 ∨ i = 20 ∨ i = 21 ∨ i = 22 ∨ i = 23 ∨ i = 24 ∨ i = 25 ∨ i = 26 by omega) with rfl | rfl | rfl | rfl | rfl | rfl | rfl | rfl | rfl | rfl | rfl | rfl | rfl | rfl | rfl | rfl | rfl | rfl | rfl | rfl | rfl | rfl | rfl | rfl | rfl | rfl | rfl
  · exact nr_sx0
  · exact nr_sx1
  · exact nr_sx2
  · exact nr_sx3
  · exact nr_sx4
  · exact nr_sx5
  · exact nr_sx6
  · exact nr_sx7
  · exact nr_sx8
  · exact nr_sx9
  · exact nr_sx10
  · exact nr_sx11
  · exact nr_sx12
  · exact nr_sx13
  · exact nr_sx14
  · exact nr_sx15
  · exact nr_sx16
  · exact nr_sx17
  · exact nr_sx18
  · exact nr_sx19
  · exact nr_sx20
  · exact nr_sx21
  · exact nr_sx22
  · exact nr_sx23
  · exact nr_sx24
  · exact nr_sx25
  · exact nr_sx26
set_option maxRecDepth 100000 in
theorem nr_sc : ∀ i : Nat, i < 27 → (i < 12 ∨ 16 ≤ i) → Cond.eq (.field (tmR i) "java/lang/String" "coder" "B") (.int 0) ∈ NR := fun i hi hi2 => by
  rcases (show i = 0 ∨ i = 1 ∨ i = 2 ∨ i = 3 ∨ i = 4 ∨ i = 5 ∨ i = 6 ∨ i = 7 ∨ i = 8 ∨ i = 9 ∨ i = 10 ∨ i = 11 ∨ i = 12 ∨ i = 13 ∨ i = 14 ∨ i = 15 ∨ i = 16 ∨ i = 17 ∨ i = 18 ∨ i = 19 ∨ i = 20 ∨ i = 21 ∨ i = 22 ∨ i = 23 ∨ i = 24 ∨ i = 25 ∨ i = 26 by omega) with rfl | rfl | rfl | rfl | rfl | rfl | rfl | rfl | rfl | rfl | rfl | rfl | rfl | rfl | rfl | rfl | rfl | rfl | rfl | rfl | rfl | rfl | rfl | rfl | rfl | rfl | rfl
  · exact nr_sc0
  · exact nr_sc1
  · exact nr_sc2
  · exact nr_sc3
  · exact nr_sc4
  · exact nr_sc5
  · exact nr_sc6
  · exact nr_sc7
  · exact nr_sc8
  · exact nr_sc9
  · exact nr_sc10
  · exact nr_sc11
  · exact absurd hi2 (by omega)
  · exact absurd hi2 (by omega)
  · exact absurd hi2 (by omega)
  · exact absurd hi2 (by omega)
  · exact nr_sc16
  · exact nr_sc17
  · exact nr_sc18
  · exact nr_sc19
  · exact nr_sc20
  · exact nr_sc21
  · exact nr_sc22
  · exact nr_sc23
  · exact nr_sc24
  · exact nr_sc25
  · exact nr_sc26
set_option maxRecDepth 100000 in
theorem nr_sa : ∀ i : Nat, i < 27 → (i < 12 ∨ 16 ≤ i) → Cond.arrayOf (.field (tmR i) "java/lang/String" "value" "[B") .byte ∈ NR := fun i hi hi2 => by
  rcases (show i = 0 ∨ i = 1 ∨ i = 2 ∨ i = 3 ∨ i = 4 ∨ i = 5 ∨ i = 6 ∨ i = 7 ∨ i = 8 ∨ i = 9 ∨ i = 10 ∨ i = 11 ∨ i = 12 ∨ i = 13 ∨ i = 14 ∨ i = 15 ∨ i = 16 ∨ i = 17 ∨ i = 18 ∨ i = 19 ∨ i = 20 ∨ i = 21 ∨ i = 22 ∨ i = 23 ∨ i = 24 ∨ i = 25 ∨ i = 26 by omega) with rfl | rfl | rfl | rfl | rfl | rfl | rfl | rfl | rfl | rfl | rfl | rfl | rfl | rfl | rfl | rfl | rfl | rfl | rfl | rfl | rfl | rfl | rfl | rfl | rfl | rfl | rfl
  · exact nr_sa0
  · exact nr_sa1
  · exact nr_sa2
  · exact nr_sa3
  · exact nr_sa4
  · exact nr_sa5
  · exact nr_sa6
  · exact nr_sa7
  · exact nr_sa8
  · exact nr_sa9
  · exact nr_sa10
  · exact nr_sa11
  · exact absurd hi2 (by omega)
  · exact absurd hi2 (by omega)
  · exact absurd hi2 (by omega)
  · exact absurd hi2 (by omega)
  · exact nr_sa16
  · exact nr_sa17
  · exact nr_sa18
  · exact nr_sa19
  · exact nr_sa20
  · exact nr_sa21
  · exact nr_sa22
  · exact nr_sa23
  · exact nr_sa24
  · exact nr_sa25
  · exact nr_sa26
set_option maxRecDepth 100000 in
theorem nr_sl : ∀ i : Nat, i < 27 → (i < 12 ∨ 16 ≤ i) → Cond.eq (.length (.field (tmR i) "java/lang/String" "value" "[B")) (.int (Int32.ofNat (strL i))) ∈ NR := fun i hi hi2 => by
  rcases (show i = 0 ∨ i = 1 ∨ i = 2 ∨ i = 3 ∨ i = 4 ∨ i = 5 ∨ i = 6 ∨ i = 7 ∨ i = 8 ∨ i = 9 ∨ i = 10 ∨ i = 11 ∨ i = 12 ∨ i = 13 ∨ i = 14 ∨ i = 15 ∨ i = 16 ∨ i = 17 ∨ i = 18 ∨ i = 19 ∨ i = 20 ∨ i = 21 ∨ i = 22 ∨ i = 23 ∨ i = 24 ∨ i = 25 ∨ i = 26 by omega) with rfl | rfl | rfl | rfl | rfl | rfl | rfl | rfl | rfl | rfl | rfl | rfl | rfl | rfl | rfl | rfl | rfl | rfl | rfl | rfl | rfl | rfl | rfl | rfl | rfl | rfl | rfl
  · exact nr_sl0
  · exact nr_sl1
  · exact nr_sl2
  · exact nr_sl3
  · exact nr_sl4
  · exact nr_sl5
  · exact nr_sl6
  · exact nr_sl7
  · exact nr_sl8
  · exact nr_sl9
  · exact nr_sl10
  · exact nr_sl11
  · exact absurd hi2 (by omega)
  · exact absurd hi2 (by omega)
  · exact absurd hi2 (by omega)
  · exact absurd hi2 (by omega)
  · exact nr_sl16
  · exact nr_sl17
  · exact nr_sl18
  · exact nr_sl19
  · exact nr_sl20
  · exact nr_sl21
  · exact nr_sl22
  · exact nr_sl23
  · exact nr_sl24
  · exact nr_sl25
  · exact nr_sl26
set_option maxRecDepth 100000 in
theorem nr_se : ∀ i : Nat, i < 27 → (i < 12 ∨ 16 ≤ i) → ∀ j : Nat, j < strL i → Cond.eq (.elem (.field (tmR i) "java/lang/String" "value" "[B") (.int (Int32.ofNat j))) (.int (strC i j)) ∈ NR := fun i hi hi2 => by
  rcases (show i = 0 ∨ i = 1 ∨ i = 2 ∨ i = 3 ∨ i = 4 ∨ i = 5 ∨ i = 6 ∨ i = 7 ∨ i = 8 ∨ i = 9 ∨ i = 10 ∨ i = 11 ∨ i = 12 ∨ i = 13 ∨ i = 14 ∨ i = 15 ∨ i = 16 ∨ i = 17 ∨ i = 18 ∨ i = 19 ∨ i = 20 ∨ i = 21 ∨ i = 22 ∨ i = 23 ∨ i = 24 ∨ i = 25 ∨ i = 26 by omega) with rfl | rfl | rfl | rfl | rfl | rfl | rfl | rfl | rfl | rfl | rfl | rfl | rfl | rfl | rfl | rfl | rfl | rfl | rfl | rfl | rfl | rfl | rfl | rfl | rfl | rfl | rfl
  · exact nr_se0_
  · exact nr_se1_
  · exact nr_se2_
  · exact nr_se3_
  · exact nr_se4_
  · exact nr_se5_
  · exact nr_se6_
  · exact nr_se7_
  · exact nr_se8_
  · exact nr_se9_
  · exact nr_se10_
  · exact nr_se11_
  · exact absurd hi2 (by omega)
  · exact absurd hi2 (by omega)
  · exact absurd hi2 (by omega)
  · exact absurd hi2 (by omega)
  · exact nr_se16_
  · exact nr_se17_
  · exact nr_se18_
  · exact nr_se19_
  · exact nr_se20_
  · exact nr_se21_
  · exact nr_se22_
  · exact nr_se23_
  · exact nr_se24_
  · exact nr_se25_
  · exact nr_se26_
set_option maxRecDepth 100000 in
theorem nr_pl : ∀ i : Nat, i < 27 → (strR.getD i ("", 0, "", 0)).2.2.2 = i := by decide +kernel
set_option maxRecDepth 100000 in
theorem nr_dgo0 : ∀ j : Nat, j < 100 → NR[66 + j]? = some (Cond.eq (.elem (.static "java/lang/Integer" "DigitOnes" "[B") (.int (Int32.ofNat j))) (.int (dgO j))) := by decide +kernel
theorem nr_dgo : ∀ j : Nat, j < 100 → Cond.eq (.elem (.static "java/lang/Integer" "DigitOnes" "[B") (.int (Int32.ofNat j))) (.int (dgO j)) ∈ NR := fun j hj => List.mem_of_getElem? (nr_dgo0 j hj)
set_option maxRecDepth 100000 in
theorem nr_dgo_a : Cond.arrayOf (.static "java/lang/Integer" "DigitOnes" "[B") .byte ∈ NR ∧ Cond.eq (.length (.static "java/lang/Integer" "DigitOnes" "[B")) (.int 100) ∈ NR := ⟨List.mem_of_getElem? (i := 64) rfl, List.mem_of_getElem? (i := 65) rfl⟩
set_option maxRecDepth 100000 in
theorem nr_dgt0 : ∀ j : Nat, j < 100 → NR[169 + j]? = some (Cond.eq (.elem (.static "java/lang/Integer" "DigitTens" "[B") (.int (Int32.ofNat j))) (.int (dgT j))) := by decide +kernel
theorem nr_dgt : ∀ j : Nat, j < 100 → Cond.eq (.elem (.static "java/lang/Integer" "DigitTens" "[B") (.int (Int32.ofNat j))) (.int (dgT j)) ∈ NR := fun j hj => List.mem_of_getElem? (nr_dgt0 j hj)
set_option maxRecDepth 100000 in
theorem nr_dgt_a : Cond.arrayOf (.static "java/lang/Integer" "DigitTens" "[B") .byte ∈ NR ∧ Cond.eq (.length (.static "java/lang/Integer" "DigitTens" "[B")) (.int 100) ∈ NR := ⟨List.mem_of_getElem? (i := 167) rfl, List.mem_of_getElem? (i := 168) rfl⟩
set_option maxRecDepth 100000 in
theorem nr_st : ∀ x ∈ strR, Cond.stringRef x.1 x.2.1 x.2.2.1 ∈ lw_tbl := by decide +kernel
set_option maxRecDepth 100000 in
theorem nr_lay : ∀ x ∈ [("PlacerHead", "DEFAULTS", "[I"), ("PlacerHead", "LEAST", "[I"), ("PlacerHead", "MOST", "[I"), ("java/lang/String", "COMPACT_STRINGS", "Z"), ("jdk/internal/util/Preconditions", "SIOOBE_FORMATTER", "Ljava/util/function/BiFunction;"), (Bundle.tN, "UNASSIGNED_STACK", Bundle.steD), (Bundle.tN, "SUPPRESSED_SENTINEL", Bundle.listD), ("java/lang/Integer", "DigitOnes", "[B"), ("java/lang/Integer", "DigitTens", "[B")], Cond.laysStatic x.1 x.2.1 x.2.2 ∈ lw_tbl ∧ Cond.initialized x.1 ∈ lw_tbl := by decide +kernel
set_option maxRecDepth 100000 in
theorem nr_ao : ∀ C ∈ [RX8, RX2, RX6], Cond.arrayOver (.object C) ∈ lw_tbl := by decide +kernel
set_option maxRecDepth 100000 in
theorem nr_ac : ∀ ty ∈ [FieldType.byte, .int, .long, .boolean], Cond.arrayClass ty ∈ lw_tbl := by decide +kernel
set_option maxRecDepth 100000 in
theorem nr_in : ∀ q ∈ vwCl, Cond.instantiable q.1 q.2.2 ∈ lw_tbl := by decide +kernel
section KNOWN
variable {s : State} {args : Array Value} {A : Nat → Prop}
theorem sel5_ok (ht : ∀ w ∈ lw_tbl, w.before args s = true) : ∀ w ∈ sel5, w.before args s = true := by
  intro w hw
  rcases List.mem_cons.mp hw with rfl | hw
  · exact selP (y := yJ5_ensureCapacityInternal_d00df) (y0 := yJ5_isLatin1_aae02) (n := 4) ⟨by decide, by decide⟩ (ht _ (List.mem_append_right _ (tb4 (List.mem_of_getElem? (i := 31) rfl)))) (ht _ (List.mem_append_right _ (tb4 (List.mem_of_getElem? (i := 59) rfl)))) (ht _ (List.mem_append_right _ (tb4 (List.mem_of_getElem? (i := 73) rfl)))) (ht _ (List.mem_append_right _ (tb4 (List.mem_of_getElem? (i := 74) rfl)))) rfl (ht _ (List.mem_append_right _ (tb4 (List.mem_of_getElem? (i := 106) rfl))))
  rcases List.mem_cons.mp hw with rfl | hw
  · exact selP (y := yJ5_newCapacity_0f7a4) (y0 := yJ5_isLatin1_aae02) (n := 4) ⟨by decide, by decide⟩ (ht _ (List.mem_append_right _ (tb4 (List.mem_of_getElem? (i := 31) rfl)))) (ht _ (List.mem_append_right _ (tb4 (List.mem_of_getElem? (i := 59) rfl)))) (ht _ (List.mem_append_right _ (tb4 (List.mem_of_getElem? (i := 77) rfl)))) (ht _ (List.mem_append_right _ (tb4 (List.mem_of_getElem? (i := 78) rfl)))) rfl (ht _ (List.mem_append_right _ (tb4 (List.mem_of_getElem? (i := 106) rfl))))
  rcases List.mem_cons.mp hw with rfl | hw
  · exact selP (y := yJ5_putStringAt_47b60) (y0 := yJ5_isLatin1_aae02) (n := 4) ⟨by decide, by decide⟩ (ht _ (List.mem_append_right _ (tb4 (List.mem_of_getElem? (i := 31) rfl)))) (ht _ (List.mem_append_right _ (tb4 (List.mem_of_getElem? (i := 59) rfl)))) (ht _ (List.mem_append_right _ (tb4 (List.mem_of_getElem? (i := 125) rfl)))) (ht _ (List.mem_append_right _ (tb4 (List.mem_of_getElem? (i := 126) rfl)))) rfl (ht _ (List.mem_append_right _ (tb4 (List.mem_of_getElem? (i := 106) rfl))))
  rcases List.mem_cons.mp hw with rfl | hw
  · exact selP (y := yJ5_inflateIfNeededFor_a7421) (y0 := yJ5_isLatin1_aae02) (n := 4) ⟨by decide, by decide⟩ (ht _ (List.mem_append_right _ (tb4 (List.mem_of_getElem? (i := 31) rfl)))) (ht _ (List.mem_append_right _ (tb4 (List.mem_of_getElem? (i := 59) rfl)))) (ht _ (List.mem_append_right _ (tb4 (List.mem_of_getElem? (i := 129) rfl)))) (ht _ (List.mem_append_right _ (tb4 (List.mem_of_getElem? (i := 130) rfl)))) rfl (ht _ (List.mem_append_right _ (tb4 (List.mem_of_getElem? (i := 106) rfl))))
  cases hw
theorem tbl_ok (ht : ∀ w ∈ lw_tbl, w.before args s = true) : ∀ w ∈ TBL, w.before args s = true := fun w h => by
  rcases List.mem_append.mp (List.mem_filter.mp h).1 with h | h
  · exact sel5_ok ht w h
  · exact ht w h
theorem kn_SA {nm : String} {f : Nat → Int32} (h : ∀ w ∈ NR, w.before args s = true) (ht : ∀ w ∈ lw_tbl, w.before args s = true) (hA : ∀ a : Nat, a < s.heap.size → ¬ A a) (hnm : nm ∈ ["DEFAULTS", "LEAST", "MOST"]) (hl : Cond.laysStatic "PlacerHead" nm "[I" ∈ lw_tbl ∧ Cond.initialized "PlacerHead" ∈ lw_tbl) (he : ∀ j : Nat, j < 15 → Cond.eq (.elem (.static "PlacerHead" nm "[I") (.int (Int32.ofNat j))) (.int (f j)) ∈ NR) : SA nm f A s s.heap := by
  obtain ⟨t, h1, h2⟩ := va_Tof (args := args) (N := 15) (f := fun j => .int (f j)) (A := A) (by decide) (h _ (nr_arr nm hnm).1) (va_eqt (h _ (nr_arr nm hnm).2)) (fun j hj => va_eqt (h _ (he j hj))) hA
  exact ⟨t, va_Zof (ht _ hl.1) (ht _ hl.2) h1 hA, h2⟩
theorem kn_TD {nm : String} {f : Nat → Int32} (h : ∀ w ∈ NR, w.before args s = true) (ht : ∀ w ∈ lw_tbl, w.before args s = true) (hA : ∀ a : Nat, a < s.heap.size → ¬ A a) (hnm : Cond.arrayOf (.static "java/lang/Integer" nm "[B") .byte ∈ NR ∧ Cond.eq (.length (.static "java/lang/Integer" nm "[B")) (.int 100) ∈ NR) (hl : Cond.laysStatic "java/lang/Integer" nm "[B" ∈ lw_tbl ∧ Cond.initialized "java/lang/Integer" ∈ lw_tbl) (he : ∀ j : Nat, j < 100 → Cond.eq (.elem (.static "java/lang/Integer" nm "[B") (.int (Int32.ofNat j))) (.int (f j)) ∈ NR) : TD nm f A s s.heap := by
  obtain ⟨t, h1, h2⟩ := va_Tof (args := args) (N := 100) (f := fun j => .int (f j)) (A := A) (by decide) (h _ hnm.1) (va_eqt (h _ hnm.2)) (fun j hj => va_eqt (h _ (he j hj))) hA
  exact ⟨t, va_Zof (ht _ hl.1) (ht _ hl.2) h1 hA, h2⟩
/-- the texts: where they lie -/
theorem kn_str (h : ∀ w ∈ NR, w.before args s = true) (hA : ∀ a : Nat, a < s.heap.size → ¬ A a) : ∃ adK adV : Nat → Nat, ∀ i : Nat, i < 27 → (tmR i).eval args s none [] s = some (.ref (adK i)) ∧ ((i < 12 ∨ 16 ≤ i) → va_O "java/lang/String" (adK i) A s s.heap ∧ va_OF "java/lang/String" "coder" "B" (.int 0) (adK i) A s s.heap ∧ va_OF "java/lang/String" "value" "[B" (.ref (adV i)) (adK i) A s s.heap ∧ va_T .byte (adV i) (strL i) (fun j => .int (strC i j)) A s s.heap) := by
  have h0 : ∀ i : Nat, ∃ q : Nat × Nat, i < 27 → (tmR i).eval args s none [] s = some (.ref q.1) ∧ ((i < 12 ∨ 16 ≤ i) → va_O "java/lang/String" q.1 A s s.heap ∧ va_OF "java/lang/String" "coder" "B" (.int 0) q.1 A s s.heap ∧ va_OF "java/lang/String" "value" "[B" (.ref q.2) q.1 A s s.heap ∧ va_T .byte q.2 (strL i) (fun j => .int (strC i j)) A s s.heap) := by
    intro i
    by_cases hi : i < 27
    · obtain ⟨a, c, cA, kA, q1, q2, q3, q4, q5, q6, -⟩ := Cond.exactly_spec (args := args) (first := s) (o := none) (s := s) (idx := []) (t := tmR i) (cls := "java/lang/String") (h _ (nr_sx i hi))
      by_cases hj : i < 12 ∨ 16 ≤ i
      · obtain ⟨t, ht, hT⟩ := va_Tof (args := args) (N := strL i) (f := fun j => .int (strC i j)) (A := A) (by
          have hb : ∀ i : Nat, i < 27 → strL i < 2 ^ 31 := by decide
          exact hb i hi) (h _ (nr_sa i hi hj)) (va_eqt (h _ (nr_sl i hi hj))) (fun j hj2 => va_eqt (h _ (nr_se i hi hj j hj2))) hA
        exact ⟨(a, t), fun _ => ⟨q1, fun _ => ⟨⟨cA, q3, q5, by rw [q6]; exact q2, hA a (Array.getElem?_eq_some_iff.mp q3).1⟩, vk_OFof q1 (va_eqt (h _ (nr_sc i hi hj))) hA, vk_OFof q1 ht hA, hT⟩⟩⟩
      · exact ⟨(a, 0), fun _ => ⟨q1, fun z => absurd z hj⟩⟩
    · exact ⟨(0, 0), fun hz => absurd hz hi⟩
  obtain ⟨ad, had⟩ := Classical.axiomOfChoice h0
  exact ⟨fun i => (ad i).1, fun i => (ad i).2, fun i hi => had i hi⟩
theorem kn_cl (ht : ∀ w ∈ lw_tbl, w.before args s = true) (hT : ∀ w ∈ TBL, w.before args s = true) : ∃ (dC : Nat → ClassId) (dI : Nat → Nat → Nat), ∀ (c : Nat) (q : vw_C), vwCl[c]? = some q → u_Kn s q.1 q.2.1 q.2.2 (dC c) (dI c) := by
  have key : ∀ (c : Nat) (q : vw_C), vwCl[c]? = some q → ∃ (cC : ClassId) (iS : Nat → Nat), u_Kn s q.1 q.2.1 q.2.2 cC iS := by
    intro c q hq
    have hi : (Cond.instantiable q.1 q.2.2).before args s = true := ht _ (nr_in q (List.mem_of_getElem? hq))
    have hu : ∀ w ∈ u_ws q.1 q.2.1 q.2.2, w ∈ TBL := by
      have hlt := (List.getElem?_eq_some_iff.mp hq).1
      have hlt : c < 12 := hlt
      rcases (show c = 0 ∨ c = 1 ∨ c = 2 ∨ c = 3 ∨ c = 4 ∨ c = 5 ∨ c = 6 ∨ c = 7 ∨ c = 8 ∨ c = 9 ∨ c = 10 ∨ c = 11 by omega) with rfl | rfl | rfl | rfl | rfl | rfl | rfl | rfl | rfl | rfl | rfl | rfl <;> cases hq
      · exact hu0
      · exact hu1
      · exact hu2
      · exact hu3
      · exact hu4
      · exact hu5
      · exact hu6
      · exact hu7
      · exact hu8
      · exact hu9
      · exact huJ0
      · exact huJ4
    exact u_known hT hu hi
  have k2 : ∀ c : Nat, ∃ z : ClassId × (Nat → Nat), ∀ q : vw_C, vwCl[c]? = some q → u_Kn s q.1 q.2.1 q.2.2 z.1 z.2 := by
    intro c
    cases hc : vwCl[c]? with
    | none => exact ⟨(0, fun _ => 0), fun q h => by cases h⟩
    | some q =>
      obtain ⟨cC, iS, h⟩ := key c q hc
      exact ⟨(cC, iS), fun q' h' => by cases h'; exact h⟩
  obtain ⟨f, hf⟩ := Classical.axiomOfChoice k2
  exact ⟨fun c => (f c).1, fun c => (f c).2, fun c q hq => hf c q hq⟩
theorem kn_prim (ht : ∀ w ∈ lw_tbl, w.before args s = true) {ty : FieldType} (h : ty ∈ [FieldType.byte, .int, .long, .boolean]) : ∃ cA : ClassId, ArrOfT s cA ty ∧ s.vm.findClass ("[" ++ ty.toString) = some cA := by
  obtain ⟨cA, k, comp, h1, h2, h3⟩ := Cond.arrayClass_spec (args := args) (first := s) (s := s) (o := none) (idx := []) (ht _ (nr_ac ty h))
  exact ⟨cA, fun n z => ⟨fun k h => (by cases h), k, h2, comp, h3⟩, h1⟩
theorem kn_obj (ht : ∀ w ∈ lw_tbl, w.before args s = true) {C : String} (h : C ∈ [RX8, RX2, RX6]) : ∃ cA : ClassId, ArrOfT s cA (.object C) ∧ va_RA s cA (.object C) := by
  obtain ⟨comp, c, k, h1, h2, h3, h4, h5⟩ := Cond.arrayOver_spec (args := args) (first := s) (s := s) (o := none) (idx := []) (ht _ (nr_ao C h))
  exact ⟨c, fun n z => ⟨fun k h => (by cases h), k, h3, comp, h4⟩, k, comp, h3, h4, h1, h5⟩
/-- all that the frame wants of a start -/
theorem kn_all (hn : ∀ w ∈ NR, w.before args s = true) (ht : ∀ w ∈ lw_tbl, w.before args s = true) (hA : ∀ a : Nat, a < s.heap.size → ¬ A a) {b L : Nat} {xs : Nat → Int32} (hX : va_X b L xs s s.heap) (hbA : ¬ A b) : ∃ (D : va_G) (cs : Nat → ClassId), KK D cs s ∧ SS D A s s.heap ∧ KI s ∧ sB D = b ∧ sL D = L := by
  have hT : ∀ w ∈ TBL, w.before args s = true := tbl_ok ht
  obtain ⟨dC, dI, hcl⟩ := kn_cl ht hT
  obtain ⟨adK, adV, hs⟩ := kn_str hn hA
  obtain ⟨c0, a0, b0⟩ := kn_prim (ty := .byte) ht (by decide)
  obtain ⟨c1, a1, b1⟩ := kn_prim (ty := .int) ht (by decide)
  obtain ⟨c2, a2, b2⟩ := kn_prim (ty := .long) ht (by decide)
  obtain ⟨c3, a3, b3⟩ := kn_prim (ty := .boolean) ht (by decide)
  obtain ⟨c4, a4, b4⟩ := kn_obj (C := RX8) ht (by decide)
  obtain ⟨c5, a5, b5⟩ := kn_obj (C := RX2) ht (by decide)
  obtain ⟨c6, a6, b6⟩ := kn_obj (C := RX6) ht (by decide)
  refine ⟨(dC, fun c k => if c = 100 then adK k else if c = 101 then adV k else if c = 102 then (if k = 0 then b else L) else if c = 103 then (xs k).toBitVec.toNat else dI c k), fun k => ([c0, c1, c2, c3, c4, c5, c6] : List ClassId).getD k 0, ⟨⟨fun c q hq => ?_, fun k q hk => ?_⟩, fun w hw hz => ?_, fun x hx => ?_, va_Nc.of (hn _ nr_nc)⟩, ⟨kn_SA hn ht hA (by decide) (nr_lay ("PlacerHead", "DEFAULTS", "[I") (by decide)) nr_dfl, kn_SA hn ht hA (by decide) (nr_lay ("PlacerHead", "LEAST", "[I") (by decide)) nr_lea, kn_SA hn ht hA (by decide) (nr_lay ("PlacerHead", "MOST", "[I") (by decide)) nr_mst, ?_, ?_, ?_, ?_, fun i hi => ?_, fun i hi hi2 => ?_, ?_, ?_, ?_⟩, ⟨?_, ?_, ?_⟩, rfl, rfl⟩
  · have h := hcl c q hq
    have hlt : c < 12 := (List.getElem?_eq_some_iff.mp hq).1
    have e : (fun k => if c = 100 then adK k else if c = 101 then adV k else if c = 102 then (if k = 0 then b else L) else if c = 103 then (xs k).toBitVec.toNat else dI c k) = dI c := funext fun k => by
      rw [if_neg (by omega), if_neg (by omega), if_neg (by omega), if_neg (by omega)]
    show u_Kn s q.1 q.2.1 q.2.2 (dC c) (fun k => if c = 100 then adK k else if c = 101 then adV k else if c = 102 then (if k = 0 then b else L) else if c = 103 then (xs k).toBitVec.toNat else dI c k)
    rw [e]
    exact h
  · have hlt : k < 7 := (List.getElem?_eq_some_iff.mp hk).1
    rcases (show k = 0 ∨ k = 1 ∨ k = 2 ∨ k = 3 ∨ k = 4 ∨ k = 5 ∨ k = 6 by omega) with rfl | rfl | rfl | rfl | rfl | rfl | rfl <;> cases hk
    · exact ⟨a0, b0⟩
    · exact ⟨a1, b1⟩
    · exact ⟨a2, b2⟩
    · exact ⟨a3, b3⟩
    · exact ⟨a4, b4⟩
    · exact ⟨a5, b5⟩
    · exact ⟨a6, b6⟩
  · have h9 := ht w hw
    cases w <;> first | exact va_Nw.of rfl h9 | cases hz
  · have h1 := ht _ (nr_st x hx)
    have key : (Term.string x.1 x.2.1).eval args s none [] s = some (.ref (adK x.2.2.2)) := by
      obtain ⟨i, hi⟩ := List.getElem?_of_mem hx
      have hlt : i < 27 := (List.getElem?_eq_some_iff.mp hi).1
      have e : strR.getD i ("", 0, "", 0) = x := by
        rw [List.getD_eq_getElem?_getD, hi]
        rfl
      have h9 := (hs i hlt).1
      have h8 := nr_pl i hlt
      unfold tmR at h9
      rw [e] at h9 h8
      rw [h8]
      exact h9
    exact vk_R.of h1 key
  · exact va_Zof (ht _ (nr_lay ("java/lang/String", "COMPACT_STRINGS", "Z") (by decide)).1) (ht _ (nr_lay ("java/lang/String", "COMPACT_STRINGS", "Z") (by decide)).2) (va_eqi (hn _ nr_cs)) hA
  · exact va_Zqof (ht _ (nr_lay ("jdk/internal/util/Preconditions", "SIOOBE_FORMATTER", "Ljava/util/function/BiFunction;") (by decide)).1) (ht _ (nr_lay ("jdk/internal/util/Preconditions", "SIOOBE_FORMATTER", "Ljava/util/function/BiFunction;") (by decide)).2) (hn _ nr_q1) hA
  · exact vx_Zqof (ht _ (nr_lay (Bundle.tN, "UNASSIGNED_STACK", Bundle.steD) (by decide)).1) (ht _ (nr_lay (Bundle.tN, "UNASSIGNED_STACK", Bundle.steD) (by decide)).2) (hn _ nr_q2) hA
  · exact vx_Zqof (ht _ (nr_lay (Bundle.tN, "SUPPRESSED_SENTINEL", Bundle.listD) (by decide)).1) (ht _ (nr_lay (Bundle.tN, "SUPPRESSED_SENTINEL", Bundle.listD) (by decide)).2) (hn _ nr_q3) hA
  · obtain ⟨z1, z2, z3, z4⟩ := (hs i (by omega)).2 (Or.inl hi)
    exact ⟨z1, z2, z3, z4⟩
  · obtain ⟨z1, z2, z3, z4⟩ := (hs i hi2).2 (Or.inr hi)
    exact ⟨z1, z2, z3, z4⟩
  · exact kn_TD hn ht hA nr_dgo_a (nr_lay ("java/lang/Integer", "DigitOnes", "[B") (by decide)) nr_dgo
  · exact kn_TD hn ht hA nr_dgt_a (nr_lay ("java/lang/Integer", "DigitTens", "[B") (by decide)) nr_dgt
  · have ex : ∀ v : Int32, Int32.ofNat v.toBitVec.toNat = v := fun v => by
      apply Int32.toBitVec_inj.mp
      show BitVec.ofNat 32 v.toBitVec.toNat = v.toBitVec
      simp
    obtain ⟨scr, x1, x2, x3, x4, x5⟩ := hX
    exact ⟨⟨scr, x1, x2, x3, x4, fun j hj => (x5 j hj).trans (congrArg (fun z => some (Value.int z)) (ex (xs j)).symm)⟩, hbA⟩
  · exact va_AO.of (ht _ (nr_ao RX8 (by decide)))
  · exact va_AO.of (ht _ (nr_ao RX2 (by decide)))
  · exact va_AO.of (ht _ (nr_ao RX6 (by decide)))
end KNOWN
