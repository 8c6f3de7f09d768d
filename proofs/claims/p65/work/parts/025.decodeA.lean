/-! decode rows -/
theorem dX0_init_0 : decode cX0_init 0 = .ok (.aload_n 0, 1) := by decide +kernel
theorem dX0_init_1 : decode cX0_init 1 = .ok (.invokespecial 3, 3) := by decide +kernel
theorem dX0_init_4 : decode cX0_init 4 = .ok (.aload_n 0, 1) := by decide +kernel
theorem dX0_init_5 : decode cX0_init 5 = .ok (.bipush 40, 2) := by decide +kernel
theorem dX0_init_7 : decode cX0_init 7 = .ok (.newarray .int, 2) := by decide +kernel
theorem dX0_init_9 : decode cX0_init 9 = .ok (.putfield 9, 3) := by decide +kernel
theorem dX0_init_12 : decode cX0_init 12 = .ok (.aload_n 0, 1) := by decide +kernel
theorem dX0_init_13 : decode cX0_init 13 = .ok (.bipush 40, 2) := by decide +kernel
theorem dX0_init_15 : decode cX0_init 15 = .ok (.newarray .int, 2) := by decide +kernel
theorem dX0_init_17 : decode cX0_init 17 = .ok (.putfield 15, 3) := by decide +kernel
theorem dX0_init_20 : decode cX0_init 20 = .ok (.aload_n 0, 1) := by decide +kernel
theorem dX0_init_21 : decode cX0_init 21 = .ok (.bipush 40, 2) := by decide +kernel
theorem dX0_init_23 : decode cX0_init 23 = .ok (.newarray .int, 2) := by decide +kernel
theorem dX0_init_25 : decode cX0_init 25 = .ok (.putfield 18, 3) := by decide +kernel
theorem dX0_init_28 : decode cX0_init 28 = .ok (.aload_n 0, 1) := by decide +kernel
theorem dX0_init_29 : decode cX0_init 29 = .ok (.bipush 40, 2) := by decide +kernel
theorem dX0_init_31 : decode cX0_init 31 = .ok (.newarray .int, 2) := by decide +kernel
theorem dX0_init_33 : decode cX0_init 33 = .ok (.putfield 21, 3) := by decide +kernel
theorem dX0_init_36 : decode cX0_init 36 = .ok (.aload_n 0, 1) := by decide +kernel
theorem dX0_init_37 : decode cX0_init 37 = .ok (.bipush 40, 2) := by decide +kernel
theorem dX0_init_39 : decode cX0_init 39 = .ok (.newarray .int, 2) := by decide +kernel
theorem dX0_init_41 : decode cX0_init 41 = .ok (.putfield 24, 3) := by decide +kernel
theorem dX0_init_44 : decode cX0_init 44 = .ok (.aload_n 0, 1) := by decide +kernel
theorem dX0_init_45 : decode cX0_init 45 = .ok (.bipush 8, 2) := by decide +kernel
theorem dX0_init_47 : decode cX0_init 47 = .ok (.newarray .long, 2) := by decide +kernel
theorem dX0_init_49 : decode cX0_init 49 = .ok (.putfield 27, 3) := by decide +kernel
theorem dX0_init_52 : decode cX0_init 52 = .ok (.aload_n 0, 1) := by decide +kernel
theorem dX0_init_53 : decode cX0_init 53 = .ok (.bipush 20, 2) := by decide +kernel
theorem dX0_init_55 : decode cX0_init 55 = .ok (.newarray .int, 2) := by decide +kernel
theorem dX0_init_57 : decode cX0_init 57 = .ok (.putfield 31, 3) := by decide +kernel
theorem dX0_init_60 : decode cX0_init 60 = .ok (.aload_n 0, 1) := by decide +kernel
theorem dX0_init_61 : decode cX0_init 61 = .ok (.bipush 20, 2) := by decide +kernel
theorem dX0_init_63 : decode cX0_init 63 = .ok (.newarray .int, 2) := by decide +kernel
theorem dX0_init_65 : decode cX0_init 65 = .ok (.putfield 34, 3) := by decide +kernel
theorem dX0_init_68 : decode cX0_init 68 = .ok (.return_, 1) := by decide +kernel
theorem dX0_clear_0 : decode cX0_clear 0 = .ok (.aload_n 0, 1) := by decide +kernel
theorem dX0_clear_1 : decode cX0_clear 1 = .ok (.iconst 0, 1) := by decide +kernel
theorem dX0_clear_2 : decode cX0_clear 2 = .ok (.putfield 37, 3) := by decide +kernel
theorem dX0_clear_5 : decode cX0_clear 5 = .ok (.aload_n 0, 1) := by decide +kernel
theorem dX0_clear_6 : decode cX0_clear 6 = .ok (.getfield 27, 3) := by decide +kernel
theorem dX0_clear_9 : decode cX0_clear 9 = .ok (.lconst 0, 1) := by decide +kernel
theorem dX0_clear_10 : decode cX0_clear 10 = .ok (.invokestatic 41, 3) := by decide +kernel
theorem dX0_clear_13 : decode cX0_clear 13 = .ok (.aload_n 0, 1) := by decide +kernel
theorem dX0_clear_14 : decode cX0_clear 14 = .ok (.lconst 0, 1) := by decide +kernel
theorem dX0_clear_15 : decode cX0_clear 15 = .ok (.putfield 47, 3) := by decide +kernel
theorem dX0_clear_18 : decode cX0_clear 18 = .ok (.aload_n 0, 1) := by decide +kernel
theorem dX0_clear_19 : decode cX0_clear 19 = .ok (.lconst 0, 1) := by decide +kernel
theorem dX0_clear_20 : decode cX0_clear 20 = .ok (.putfield 51, 3) := by decide +kernel
theorem dX0_clear_23 : decode cX0_clear 23 = .ok (.aload_n 0, 1) := by decide +kernel
theorem dX0_clear_24 : decode cX0_clear 24 = .ok (.iconst 0, 1) := by decide +kernel
theorem dX0_clear_25 : decode cX0_clear 25 = .ok (.putfield 54, 3) := by decide +kernel
theorem dX0_clear_28 : decode cX0_clear 28 = .ok (.return_, 1) := by decide +kernel
theorem dX0_copyFrom_0 : decode cX0_copyFrom 0 = .ok (.aload_n 0, 1) := by decide +kernel
theorem dX0_copyFrom_1 : decode cX0_copyFrom 1 = .ok (.aload_n 1, 1) := by decide +kernel
theorem dX0_copyFrom_2 : decode cX0_copyFrom 2 = .ok (.getfield 37, 3) := by decide +kernel
theorem dX0_copyFrom_5 : decode cX0_copyFrom 5 = .ok (.putfield 37, 3) := by decide +kernel
theorem dX0_copyFrom_8 : decode cX0_copyFrom 8 = .ok (.aload_n 1, 1) := by decide +kernel
theorem dX0_copyFrom_9 : decode cX0_copyFrom 9 = .ok (.getfield 9, 3) := by decide +kernel
theorem dX0_copyFrom_12 : decode cX0_copyFrom 12 = .ok (.iconst 0, 1) := by decide +kernel
theorem dX0_copyFrom_13 : decode cX0_copyFrom 13 = .ok (.aload_n 0, 1) := by decide +kernel
theorem dX0_copyFrom_14 : decode cX0_copyFrom 14 = .ok (.getfield 9, 3) := by decide +kernel
theorem dX0_copyFrom_17 : decode cX0_copyFrom 17 = .ok (.iconst 0, 1) := by decide +kernel
theorem dX0_copyFrom_18 : decode cX0_copyFrom 18 = .ok (.aload_n 0, 1) := by decide +kernel
theorem dX0_copyFrom_19 : decode cX0_copyFrom 19 = .ok (.getfield 37, 3) := by decide +kernel
theorem dX0_copyFrom_22 : decode cX0_copyFrom 22 = .ok (.invokestatic 57, 3) := by decide +kernel
theorem dX0_copyFrom_25 : decode cX0_copyFrom 25 = .ok (.aload_n 1, 1) := by decide +kernel
theorem dX0_copyFrom_26 : decode cX0_copyFrom 26 = .ok (.getfield 15, 3) := by decide +kernel
theorem dX0_copyFrom_29 : decode cX0_copyFrom 29 = .ok (.iconst 0, 1) := by decide +kernel
theorem dX0_copyFrom_30 : decode cX0_copyFrom 30 = .ok (.aload_n 0, 1) := by decide +kernel
theorem dX0_copyFrom_31 : decode cX0_copyFrom 31 = .ok (.getfield 15, 3) := by decide +kernel
theorem dX0_copyFrom_34 : decode cX0_copyFrom 34 = .ok (.iconst 0, 1) := by decide +kernel
theorem dX0_copyFrom_35 : decode cX0_copyFrom 35 = .ok (.aload_n 0, 1) := by decide +kernel
theorem dX0_copyFrom_36 : decode cX0_copyFrom 36 = .ok (.getfield 37, 3) := by decide +kernel
theorem dX0_copyFrom_39 : decode cX0_copyFrom 39 = .ok (.invokestatic 57, 3) := by decide +kernel
theorem dX0_copyFrom_42 : decode cX0_copyFrom 42 = .ok (.aload_n 1, 1) := by decide +kernel
theorem dX0_copyFrom_43 : decode cX0_copyFrom 43 = .ok (.getfield 18, 3) := by decide +kernel
theorem dX0_copyFrom_46 : decode cX0_copyFrom 46 = .ok (.iconst 0, 1) := by decide +kernel
theorem dX0_copyFrom_47 : decode cX0_copyFrom 47 = .ok (.aload_n 0, 1) := by decide +kernel
theorem dX0_copyFrom_48 : decode cX0_copyFrom 48 = .ok (.getfield 18, 3) := by decide +kernel
theorem dX0_copyFrom_51 : decode cX0_copyFrom 51 = .ok (.iconst 0, 1) := by decide +kernel
theorem dX0_copyFrom_52 : decode cX0_copyFrom 52 = .ok (.aload_n 0, 1) := by decide +kernel
theorem dX0_copyFrom_53 : decode cX0_copyFrom 53 = .ok (.getfield 37, 3) := by decide +kernel
theorem dX0_copyFrom_56 : decode cX0_copyFrom 56 = .ok (.invokestatic 57, 3) := by decide +kernel
theorem dX0_copyFrom_59 : decode cX0_copyFrom 59 = .ok (.aload_n 1, 1) := by decide +kernel
theorem dX0_copyFrom_60 : decode cX0_copyFrom 60 = .ok (.getfield 21, 3) := by decide +kernel
theorem dX0_copyFrom_63 : decode cX0_copyFrom 63 = .ok (.iconst 0, 1) := by decide +kernel
theorem dX0_copyFrom_64 : decode cX0_copyFrom 64 = .ok (.aload_n 0, 1) := by decide +kernel
theorem dX0_copyFrom_65 : decode cX0_copyFrom 65 = .ok (.getfield 21, 3) := by decide +kernel
theorem dX0_copyFrom_68 : decode cX0_copyFrom 68 = .ok (.iconst 0, 1) := by decide +kernel
theorem dX0_copyFrom_69 : decode cX0_copyFrom 69 = .ok (.aload_n 0, 1) := by decide +kernel
theorem dX0_copyFrom_70 : decode cX0_copyFrom 70 = .ok (.getfield 37, 3) := by decide +kernel
theorem dX0_copyFrom_73 : decode cX0_copyFrom 73 = .ok (.invokestatic 57, 3) := by decide +kernel
theorem dX0_copyFrom_76 : decode cX0_copyFrom 76 = .ok (.aload_n 1, 1) := by decide +kernel
theorem dX0_copyFrom_77 : decode cX0_copyFrom 77 = .ok (.getfield 24, 3) := by decide +kernel
theorem dX0_copyFrom_80 : decode cX0_copyFrom 80 = .ok (.iconst 0, 1) := by decide +kernel
theorem dX0_copyFrom_81 : decode cX0_copyFrom 81 = .ok (.aload_n 0, 1) := by decide +kernel
theorem dX0_copyFrom_82 : decode cX0_copyFrom 82 = .ok (.getfield 24, 3) := by decide +kernel
theorem dX0_copyFrom_85 : decode cX0_copyFrom 85 = .ok (.iconst 0, 1) := by decide +kernel
theorem dX0_copyFrom_86 : decode cX0_copyFrom 86 = .ok (.aload_n 0, 1) := by decide +kernel
theorem dX0_copyFrom_87 : decode cX0_copyFrom 87 = .ok (.getfield 37, 3) := by decide +kernel
theorem dX0_copyFrom_90 : decode cX0_copyFrom 90 = .ok (.invokestatic 57, 3) := by decide +kernel
theorem dX0_copyFrom_93 : decode cX0_copyFrom 93 = .ok (.aload_n 1, 1) := by decide +kernel
theorem dX0_copyFrom_94 : decode cX0_copyFrom 94 = .ok (.getfield 27, 3) := by decide +kernel
theorem dX0_copyFrom_97 : decode cX0_copyFrom 97 = .ok (.iconst 0, 1) := by decide +kernel
theorem dX0_copyFrom_98 : decode cX0_copyFrom 98 = .ok (.aload_n 0, 1) := by decide +kernel
theorem dX0_copyFrom_99 : decode cX0_copyFrom 99 = .ok (.getfield 27, 3) := by decide +kernel
theorem dX0_copyFrom_102 : decode cX0_copyFrom 102 = .ok (.iconst 0, 1) := by decide +kernel
theorem dX0_copyFrom_103 : decode cX0_copyFrom 103 = .ok (.bipush 8, 2) := by decide +kernel
theorem dX0_copyFrom_105 : decode cX0_copyFrom 105 = .ok (.invokestatic 57, 3) := by decide +kernel
theorem dX0_copyFrom_108 : decode cX0_copyFrom 108 = .ok (.aload_n 0, 1) := by decide +kernel
theorem dX0_copyFrom_109 : decode cX0_copyFrom 109 = .ok (.aload_n 1, 1) := by decide +kernel
theorem dX0_copyFrom_110 : decode cX0_copyFrom 110 = .ok (.getfield 47, 3) := by decide +kernel
theorem dX0_copyFrom_113 : decode cX0_copyFrom 113 = .ok (.putfield 47, 3) := by decide +kernel
theorem dX0_copyFrom_116 : decode cX0_copyFrom 116 = .ok (.aload_n 0, 1) := by decide +kernel
theorem dX0_copyFrom_117 : decode cX0_copyFrom 117 = .ok (.aload_n 1, 1) := by decide +kernel
theorem dX0_copyFrom_118 : decode cX0_copyFrom 118 = .ok (.getfield 51, 3) := by decide +kernel
theorem dX0_copyFrom_121 : decode cX0_copyFrom 121 = .ok (.putfield 51, 3) := by decide +kernel
theorem dX0_copyFrom_124 : decode cX0_copyFrom 124 = .ok (.aload_n 0, 1) := by decide +kernel
theorem dX0_copyFrom_125 : decode cX0_copyFrom 125 = .ok (.aload_n 1, 1) := by decide +kernel
theorem dX0_copyFrom_126 : decode cX0_copyFrom 126 = .ok (.getfield 54, 3) := by decide +kernel
theorem dX0_copyFrom_129 : decode cX0_copyFrom 129 = .ok (.putfield 54, 3) := by decide +kernel
theorem dX0_copyFrom_132 : decode cX0_copyFrom 132 = .ok (.aload_n 1, 1) := by decide +kernel
theorem dX0_copyFrom_133 : decode cX0_copyFrom 133 = .ok (.getfield 31, 3) := by decide +kernel
theorem dX0_copyFrom_136 : decode cX0_copyFrom 136 = .ok (.iconst 0, 1) := by decide +kernel
theorem dX0_copyFrom_137 : decode cX0_copyFrom 137 = .ok (.aload_n 0, 1) := by decide +kernel
theorem dX0_copyFrom_138 : decode cX0_copyFrom 138 = .ok (.getfield 31, 3) := by decide +kernel
theorem dX0_copyFrom_141 : decode cX0_copyFrom 141 = .ok (.iconst 0, 1) := by decide +kernel
theorem dX0_copyFrom_142 : decode cX0_copyFrom 142 = .ok (.aload_n 0, 1) := by decide +kernel
theorem dX0_copyFrom_143 : decode cX0_copyFrom 143 = .ok (.getfield 54, 3) := by decide +kernel
theorem dX0_copyFrom_146 : decode cX0_copyFrom 146 = .ok (.invokestatic 57, 3) := by decide +kernel
theorem dX0_copyFrom_149 : decode cX0_copyFrom 149 = .ok (.aload_n 1, 1) := by decide +kernel
theorem dX0_copyFrom_150 : decode cX0_copyFrom 150 = .ok (.getfield 34, 3) := by decide +kernel
theorem dX0_copyFrom_153 : decode cX0_copyFrom 153 = .ok (.iconst 0, 1) := by decide +kernel
theorem dX0_copyFrom_154 : decode cX0_copyFrom 154 = .ok (.aload_n 0, 1) := by decide +kernel
theorem dX0_copyFrom_155 : decode cX0_copyFrom 155 = .ok (.getfield 34, 3) := by decide +kernel
theorem dX0_copyFrom_158 : decode cX0_copyFrom 158 = .ok (.iconst 0, 1) := by decide +kernel
theorem dX0_copyFrom_159 : decode cX0_copyFrom 159 = .ok (.aload_n 0, 1) := by decide +kernel
theorem dX0_copyFrom_160 : decode cX0_copyFrom 160 = .ok (.getfield 54, 3) := by decide +kernel
theorem dX0_copyFrom_163 : decode cX0_copyFrom 163 = .ok (.invokestatic 57, 3) := by decide +kernel
theorem dX0_copyFrom_166 : decode cX0_copyFrom 166 = .ok (.return_, 1) := by decide +kernel
theorem dX0_addSpot_0 : decode cX0_addSpot 0 = .ok (.aload_n 0, 1) := by decide +kernel
theorem dX0_addSpot_1 : decode cX0_addSpot 1 = .ok (.getfield 37, 3) := by decide +kernel
theorem dX0_addSpot_4 : decode cX0_addSpot 4 = .ok (.bipush 40, 2) := by decide +kernel
theorem dX0_addSpot_6 : decode cX0_addSpot 6 = .ok (.if_icmp .ge 73, 3) := by decide +kernel
theorem dX0_addSpot_9 : decode cX0_addSpot 9 = .ok (.aload_n 0, 1) := by decide +kernel
theorem dX0_addSpot_10 : decode cX0_addSpot 10 = .ok (.getfield 9, 3) := by decide +kernel
theorem dX0_addSpot_13 : decode cX0_addSpot 13 = .ok (.aload_n 0, 1) := by decide +kernel
theorem dX0_addSpot_14 : decode cX0_addSpot 14 = .ok (.getfield 37, 3) := by decide +kernel
theorem dX0_addSpot_17 : decode cX0_addSpot 17 = .ok (.iload_n 1, 1) := by decide +kernel
theorem dX0_addSpot_18 : decode cX0_addSpot 18 = .ok (.iastore, 1) := by decide +kernel
theorem dX0_addSpot_19 : decode cX0_addSpot 19 = .ok (.aload_n 0, 1) := by decide +kernel
theorem dX0_addSpot_20 : decode cX0_addSpot 20 = .ok (.getfield 15, 3) := by decide +kernel
theorem dX0_addSpot_23 : decode cX0_addSpot 23 = .ok (.aload_n 0, 1) := by decide +kernel
theorem dX0_addSpot_24 : decode cX0_addSpot 24 = .ok (.getfield 37, 3) := by decide +kernel
theorem dX0_addSpot_27 : decode cX0_addSpot 27 = .ok (.iload_n 2, 1) := by decide +kernel
theorem dX0_addSpot_28 : decode cX0_addSpot 28 = .ok (.iastore, 1) := by decide +kernel
theorem dX0_addSpot_29 : decode cX0_addSpot 29 = .ok (.aload_n 0, 1) := by decide +kernel
theorem dX0_addSpot_30 : decode cX0_addSpot 30 = .ok (.getfield 18, 3) := by decide +kernel
theorem dX0_addSpot_33 : decode cX0_addSpot 33 = .ok (.aload_n 0, 1) := by decide +kernel
theorem dX0_addSpot_34 : decode cX0_addSpot 34 = .ok (.getfield 37, 3) := by decide +kernel
theorem dX0_addSpot_37 : decode cX0_addSpot 37 = .ok (.iload_n 3, 1) := by decide +kernel
theorem dX0_addSpot_38 : decode cX0_addSpot 38 = .ok (.iastore, 1) := by decide +kernel
theorem dX0_addSpot_39 : decode cX0_addSpot 39 = .ok (.aload_n 0, 1) := by decide +kernel
theorem dX0_addSpot_40 : decode cX0_addSpot 40 = .ok (.getfield 27, 3) := by decide +kernel
theorem dX0_addSpot_43 : decode cX0_addSpot 43 = .ok (.iload_n 1, 1) := by decide +kernel
theorem dX0_addSpot_44 : decode cX0_addSpot 44 = .ok (.dup2, 1) := by decide +kernel
theorem dX0_addSpot_45 : decode cX0_addSpot 45 = .ok (.laload, 1) := by decide +kernel
theorem dX0_addSpot_46 : decode cX0_addSpot 46 = .ok (.lconst 1, 1) := by decide +kernel
theorem dX0_addSpot_47 : decode cX0_addSpot 47 = .ok (.aload_n 0, 1) := by decide +kernel
theorem dX0_addSpot_48 : decode cX0_addSpot 48 = .ok (.getfield 37, 3) := by decide +kernel
theorem dX0_addSpot_51 : decode cX0_addSpot 51 = .ok (.lshl, 1) := by decide +kernel
theorem dX0_addSpot_52 : decode cX0_addSpot 52 = .ok (.lor, 1) := by decide +kernel
theorem dX0_addSpot_53 : decode cX0_addSpot 53 = .ok (.lastore, 1) := by decide +kernel
theorem dX0_addSpot_54 : decode cX0_addSpot 54 = .ok (.aload_n 0, 1) := by decide +kernel
theorem dX0_addSpot_55 : decode cX0_addSpot 55 = .ok (.dup, 1) := by decide +kernel
theorem dX0_addSpot_56 : decode cX0_addSpot 56 = .ok (.getfield 47, 3) := by decide +kernel
theorem dX0_addSpot_59 : decode cX0_addSpot 59 = .ok (.lconst 1, 1) := by decide +kernel
theorem dX0_addSpot_60 : decode cX0_addSpot 60 = .ok (.aload_n 0, 1) := by decide +kernel
theorem dX0_addSpot_61 : decode cX0_addSpot 61 = .ok (.getfield 37, 3) := by decide +kernel
theorem dX0_addSpot_64 : decode cX0_addSpot 64 = .ok (.lshl, 1) := by decide +kernel
theorem dX0_addSpot_65 : decode cX0_addSpot 65 = .ok (.lor, 1) := by decide +kernel
theorem dX0_addSpot_66 : decode cX0_addSpot 66 = .ok (.putfield 47, 3) := by decide +kernel
theorem dX0_addSpot_69 : decode cX0_addSpot 69 = .ok (.aload_n 0, 1) := by decide +kernel
theorem dX0_addSpot_70 : decode cX0_addSpot 70 = .ok (.dup, 1) := by decide +kernel
theorem dX0_addSpot_71 : decode cX0_addSpot 71 = .ok (.getfield 37, 3) := by decide +kernel
theorem dX0_addSpot_74 : decode cX0_addSpot 74 = .ok (.iconst 1, 1) := by decide +kernel
theorem dX0_addSpot_75 : decode cX0_addSpot 75 = .ok (.iadd, 1) := by decide +kernel
theorem dX0_addSpot_76 : decode cX0_addSpot 76 = .ok (.putfield 37, 3) := by decide +kernel
theorem dX0_addSpot_79 : decode cX0_addSpot 79 = .ok (.return_, 1) := by decide +kernel
theorem dX0_valueOf_0 : decode cX0_valueOf 0 = .ok (.iload_n 2, 1) := by decide +kernel
theorem dX0_valueOf_1 : decode cX0_valueOf 1 = .ok (.tableswitch 101 0 4 #[35, 42, 49, 56, 82], 35) := by decide +kernel
theorem dX0_valueOf_36 : decode cX0_valueOf 36 = .ok (.aload_n 0, 1) := by decide +kernel
theorem dX0_valueOf_37 : decode cX0_valueOf 37 = .ok (.getfield 9, 3) := by decide +kernel
theorem dX0_valueOf_40 : decode cX0_valueOf 40 = .ok (.iload_n 1, 1) := by decide +kernel
theorem dX0_valueOf_41 : decode cX0_valueOf 41 = .ok (.iaload, 1) := by decide +kernel
theorem dX0_valueOf_42 : decode cX0_valueOf 42 = .ok (.ireturn, 1) := by decide +kernel
theorem dX0_valueOf_43 : decode cX0_valueOf 43 = .ok (.aload_n 0, 1) := by decide +kernel
theorem dX0_valueOf_44 : decode cX0_valueOf 44 = .ok (.getfield 15, 3) := by decide +kernel
theorem dX0_valueOf_47 : decode cX0_valueOf 47 = .ok (.iload_n 1, 1) := by decide +kernel
theorem dX0_valueOf_48 : decode cX0_valueOf 48 = .ok (.iaload, 1) := by decide +kernel
theorem dX0_valueOf_49 : decode cX0_valueOf 49 = .ok (.ireturn, 1) := by decide +kernel
theorem dX0_valueOf_50 : decode cX0_valueOf 50 = .ok (.aload_n 0, 1) := by decide +kernel
theorem dX0_valueOf_51 : decode cX0_valueOf 51 = .ok (.getfield 18, 3) := by decide +kernel
theorem dX0_valueOf_54 : decode cX0_valueOf 54 = .ok (.iload_n 1, 1) := by decide +kernel
theorem dX0_valueOf_55 : decode cX0_valueOf 55 = .ok (.iaload, 1) := by decide +kernel
theorem dX0_valueOf_56 : decode cX0_valueOf 56 = .ok (.ireturn, 1) := by decide +kernel
theorem dX0_valueOf_57 : decode cX0_valueOf 57 = .ok (.aload_n 0, 1) := by decide +kernel
theorem dX0_valueOf_58 : decode cX0_valueOf 58 = .ok (.iload_n 1, 1) := by decide +kernel
theorem dX0_valueOf_59 : decode cX0_valueOf 59 = .ok (.invokevirtual 63, 3) := by decide +kernel
theorem dX0_valueOf_62 : decode cX0_valueOf 62 = .ok (.ifCond .eq 7, 3) := by decide +kernel
theorem dX0_valueOf_65 : decode cX0_valueOf 65 = .ok (.iconst 0, 1) := by decide +kernel
theorem dX0_valueOf_66 : decode cX0_valueOf 66 = .ok (.goto 16, 3) := by decide +kernel
theorem dX0_valueOf_69 : decode cX0_valueOf 69 = .ok (.aload_n 0, 1) := by decide +kernel
theorem dX0_valueOf_70 : decode cX0_valueOf 70 = .ok (.iload_n 1, 1) := by decide +kernel
theorem dX0_valueOf_71 : decode cX0_valueOf 71 = .ok (.invokevirtual 67, 3) := by decide +kernel
theorem dX0_valueOf_74 : decode cX0_valueOf 74 = .ok (.ifCond .eq 7, 3) := by decide +kernel
theorem dX0_valueOf_77 : decode cX0_valueOf 77 = .ok (.iconst 1, 1) := by decide +kernel
theorem dX0_valueOf_78 : decode cX0_valueOf 78 = .ok (.goto 4, 3) := by decide +kernel
theorem dX0_valueOf_81 : decode cX0_valueOf 81 = .ok (.iconst 2, 1) := by decide +kernel
theorem dX0_valueOf_82 : decode cX0_valueOf 82 = .ok (.ireturn, 1) := by decide +kernel
theorem dX0_valueOf_83 : decode cX0_valueOf 83 = .ok (.aload_n 0, 1) := by decide +kernel
theorem dX0_valueOf_84 : decode cX0_valueOf 84 = .ok (.iload_n 1, 1) := by decide +kernel
theorem dX0_valueOf_85 : decode cX0_valueOf 85 = .ok (.invokevirtual 67, 3) := by decide +kernel
theorem dX0_valueOf_88 : decode cX0_valueOf 88 = .ok (.ifCond .eq 12, 3) := by decide +kernel
theorem dX0_valueOf_91 : decode cX0_valueOf 91 = .ok (.aload_n 0, 1) := by decide +kernel
theorem dX0_valueOf_92 : decode cX0_valueOf 92 = .ok (.getfield 21, 3) := by decide +kernel
theorem dX0_valueOf_95 : decode cX0_valueOf 95 = .ok (.iload_n 1, 1) := by decide +kernel
theorem dX0_valueOf_96 : decode cX0_valueOf 96 = .ok (.iaload, 1) := by decide +kernel
theorem dX0_valueOf_97 : decode cX0_valueOf 97 = .ok (.goto 4, 3) := by decide +kernel
theorem dX0_valueOf_100 : decode cX0_valueOf 100 = .ok (.iconst (-1), 1) := by decide +kernel
theorem dX0_valueOf_101 : decode cX0_valueOf 101 = .ok (.ireturn, 1) := by decide +kernel
theorem dX0_valueOf_102 : decode cX0_valueOf 102 = .ok (.aload_n 0, 1) := by decide +kernel
theorem dX0_valueOf_103 : decode cX0_valueOf 103 = .ok (.iload_n 1, 1) := by decide +kernel
theorem dX0_valueOf_104 : decode cX0_valueOf 104 = .ok (.invokevirtual 67, 3) := by decide +kernel
theorem dX0_valueOf_107 : decode cX0_valueOf 107 = .ok (.ifCond .eq 12, 3) := by decide +kernel
theorem dX0_valueOf_110 : decode cX0_valueOf 110 = .ok (.aload_n 0, 1) := by decide +kernel
theorem dX0_valueOf_111 : decode cX0_valueOf 111 = .ok (.getfield 24, 3) := by decide +kernel
theorem dX0_valueOf_114 : decode cX0_valueOf 114 = .ok (.iload_n 1, 1) := by decide +kernel
theorem dX0_valueOf_115 : decode cX0_valueOf 115 = .ok (.iaload, 1) := by decide +kernel
theorem dX0_valueOf_116 : decode cX0_valueOf 116 = .ok (.goto 4, 3) := by decide +kernel
theorem dX0_valueOf_119 : decode cX0_valueOf 119 = .ok (.iconst (-1), 1) := by decide +kernel
theorem dX0_valueOf_120 : decode cX0_valueOf 120 = .ok (.ireturn, 1) := by decide +kernel
theorem dX0_isOpen_0 : decode cX0_isOpen 0 = .ok (.aload_n 0, 1) := by decide +kernel
theorem dX0_isOpen_1 : decode cX0_isOpen 1 = .ok (.getfield 47, 3) := by decide +kernel
theorem dX0_isOpen_4 : decode cX0_isOpen 4 = .ok (.lconst 1, 1) := by decide +kernel
theorem dX0_isOpen_5 : decode cX0_isOpen 5 = .ok (.iload_n 1, 1) := by decide +kernel
theorem dX0_isOpen_6 : decode cX0_isOpen 6 = .ok (.lshl, 1) := by decide +kernel
theorem dX0_isOpen_7 : decode cX0_isOpen 7 = .ok (.land, 1) := by decide +kernel
theorem dX0_isOpen_8 : decode cX0_isOpen 8 = .ok (.lconst 0, 1) := by decide +kernel
theorem dX0_isOpen_9 : decode cX0_isOpen 9 = .ok (.lcmp, 1) := by decide +kernel
theorem dX0_isOpen_10 : decode cX0_isOpen 10 = .ok (.ifCond .eq 7, 3) := by decide +kernel
theorem dX0_isOpen_13 : decode cX0_isOpen 13 = .ok (.iconst 1, 1) := by decide +kernel
theorem dX0_isOpen_14 : decode cX0_isOpen 14 = .ok (.goto 4, 3) := by decide +kernel
theorem dX0_isOpen_17 : decode cX0_isOpen 17 = .ok (.iconst 0, 1) := by decide +kernel
theorem dX0_isOpen_18 : decode cX0_isOpen 18 = .ok (.ireturn, 1) := by decide +kernel
theorem dX0_isFilled_0 : decode cX0_isFilled 0 = .ok (.aload_n 0, 1) := by decide +kernel
theorem dX0_isFilled_1 : decode cX0_isFilled 1 = .ok (.getfield 51, 3) := by decide +kernel
theorem dX0_isFilled_4 : decode cX0_isFilled 4 = .ok (.lconst 1, 1) := by decide +kernel
theorem dX0_isFilled_5 : decode cX0_isFilled 5 = .ok (.iload_n 1, 1) := by decide +kernel
theorem dX0_isFilled_6 : decode cX0_isFilled 6 = .ok (.lshl, 1) := by decide +kernel
theorem dX0_isFilled_7 : decode cX0_isFilled 7 = .ok (.land, 1) := by decide +kernel
theorem dX0_isFilled_8 : decode cX0_isFilled 8 = .ok (.lconst 0, 1) := by decide +kernel
theorem dX0_isFilled_9 : decode cX0_isFilled 9 = .ok (.lcmp, 1) := by decide +kernel
theorem dX0_isFilled_10 : decode cX0_isFilled 10 = .ok (.ifCond .eq 7, 3) := by decide +kernel
theorem dX0_isFilled_13 : decode cX0_isFilled 13 = .ok (.iconst 1, 1) := by decide +kernel
theorem dX0_isFilled_14 : decode cX0_isFilled 14 = .ok (.goto 4, 3) := by decide +kernel
theorem dX0_isFilled_17 : decode cX0_isFilled 17 = .ok (.iconst 0, 1) := by decide +kernel
theorem dX0_isFilled_18 : decode cX0_isFilled 18 = .ok (.ireturn, 1) := by decide +kernel
theorem dX0_close_0 : decode cX0_close 0 = .ok (.aload_n 0, 1) := by decide +kernel
theorem dX0_close_1 : decode cX0_close 1 = .ok (.iload_n 1, 1) := by decide +kernel
theorem dX0_close_2 : decode cX0_close 2 = .ok (.invokevirtual 63, 3) := by decide +kernel
theorem dX0_close_5 : decode cX0_close 5 = .ok (.ifCond .ne 5, 3) := by decide +kernel
theorem dX0_close_8 : decode cX0_close 8 = .ok (.iconst 0, 1) := by decide +kernel
theorem dX0_close_9 : decode cX0_close 9 = .ok (.ireturn, 1) := by decide +kernel
theorem dX0_close_10 : decode cX0_close 10 = .ok (.aload_n 0, 1) := by decide +kernel
theorem dX0_close_11 : decode cX0_close 11 = .ok (.dup, 1) := by decide +kernel
theorem dX0_close_12 : decode cX0_close 12 = .ok (.getfield 47, 3) := by decide +kernel
theorem dX0_close_15 : decode cX0_close 15 = .ok (.lconst 1, 1) := by decide +kernel
theorem dX0_close_16 : decode cX0_close 16 = .ok (.iload_n 1, 1) := by decide +kernel
theorem dX0_close_17 : decode cX0_close 17 = .ok (.lshl, 1) := by decide +kernel
theorem dX0_close_18 : decode cX0_close 18 = .ok (.ldc2_w 70, 3) := by decide +kernel
theorem dX0_close_21 : decode cX0_close 21 = .ok (.lxor, 1) := by decide +kernel
theorem dX0_close_22 : decode cX0_close 22 = .ok (.land, 1) := by decide +kernel
theorem dX0_close_23 : decode cX0_close 23 = .ok (.putfield 47, 3) := by decide +kernel
theorem dX0_close_26 : decode cX0_close 26 = .ok (.iconst 1, 1) := by decide +kernel
theorem dX0_close_27 : decode cX0_close 27 = .ok (.ireturn, 1) := by decide +kernel
theorem dX0_reopen_0 : decode cX0_reopen 0 = .ok (.aload_n 0, 1) := by decide +kernel
theorem dX0_reopen_1 : decode cX0_reopen 1 = .ok (.iload_n 1, 1) := by decide +kernel
theorem dX0_reopen_2 : decode cX0_reopen 2 = .ok (.invokevirtual 63, 3) := by decide +kernel
theorem dX0_reopen_5 : decode cX0_reopen 5 = .ok (.ifCond .ne 11, 3) := by decide +kernel
theorem dX0_reopen_8 : decode cX0_reopen 8 = .ok (.aload_n 0, 1) := by decide +kernel
theorem dX0_reopen_9 : decode cX0_reopen 9 = .ok (.iload_n 1, 1) := by decide +kernel
theorem dX0_reopen_10 : decode cX0_reopen 10 = .ok (.invokevirtual 67, 3) := by decide +kernel
theorem dX0_reopen_13 : decode cX0_reopen 13 = .ok (.ifCond .eq 5, 3) := by decide +kernel
theorem dX0_reopen_16 : decode cX0_reopen 16 = .ok (.iconst 0, 1) := by decide +kernel
theorem dX0_reopen_17 : decode cX0_reopen 17 = .ok (.ireturn, 1) := by decide +kernel
theorem dX0_reopen_18 : decode cX0_reopen 18 = .ok (.aload_n 0, 1) := by decide +kernel
theorem dX0_reopen_19 : decode cX0_reopen 19 = .ok (.dup, 1) := by decide +kernel
theorem dX0_reopen_20 : decode cX0_reopen 20 = .ok (.getfield 47, 3) := by decide +kernel
theorem dX0_reopen_23 : decode cX0_reopen 23 = .ok (.lconst 1, 1) := by decide +kernel
theorem dX0_reopen_24 : decode cX0_reopen 24 = .ok (.iload_n 1, 1) := by decide +kernel
theorem dX0_reopen_25 : decode cX0_reopen 25 = .ok (.lshl, 1) := by decide +kernel
theorem dX0_reopen_26 : decode cX0_reopen 26 = .ok (.lor, 1) := by decide +kernel
theorem dX0_reopen_27 : decode cX0_reopen 27 = .ok (.putfield 47, 3) := by decide +kernel
theorem dX0_reopen_30 : decode cX0_reopen 30 = .ok (.iconst 1, 1) := by decide +kernel
theorem dX0_reopen_31 : decode cX0_reopen 31 = .ok (.ireturn, 1) := by decide +kernel
theorem dX0_fill_0 : decode cX0_fill 0 = .ok (.aload_n 0, 1) := by decide +kernel
theorem dX0_fill_1 : decode cX0_fill 1 = .ok (.dup, 1) := by decide +kernel
theorem dX0_fill_2 : decode cX0_fill 2 = .ok (.getfield 47, 3) := by decide +kernel
theorem dX0_fill_5 : decode cX0_fill 5 = .ok (.lconst 1, 1) := by decide +kernel
theorem dX0_fill_6 : decode cX0_fill 6 = .ok (.iload_n 1, 1) := by decide +kernel
theorem dX0_fill_7 : decode cX0_fill 7 = .ok (.lshl, 1) := by decide +kernel
theorem dX0_fill_8 : decode cX0_fill 8 = .ok (.ldc2_w 70, 3) := by decide +kernel
theorem dX0_fill_11 : decode cX0_fill 11 = .ok (.lxor, 1) := by decide +kernel
theorem dX0_fill_12 : decode cX0_fill 12 = .ok (.land, 1) := by decide +kernel
theorem dX0_fill_13 : decode cX0_fill 13 = .ok (.putfield 47, 3) := by decide +kernel
theorem dX0_fill_16 : decode cX0_fill 16 = .ok (.aload_n 0, 1) := by decide +kernel
theorem dX0_fill_17 : decode cX0_fill 17 = .ok (.dup, 1) := by decide +kernel
theorem dX0_fill_18 : decode cX0_fill 18 = .ok (.getfield 51, 3) := by decide +kernel
theorem dX0_fill_21 : decode cX0_fill 21 = .ok (.lconst 1, 1) := by decide +kernel
theorem dX0_fill_22 : decode cX0_fill 22 = .ok (.iload_n 1, 1) := by decide +kernel
theorem dX0_fill_23 : decode cX0_fill 23 = .ok (.lshl, 1) := by decide +kernel
theorem dX0_fill_24 : decode cX0_fill 24 = .ok (.lor, 1) := by decide +kernel
theorem dX0_fill_25 : decode cX0_fill 25 = .ok (.putfield 51, 3) := by decide +kernel
theorem dX0_fill_28 : decode cX0_fill 28 = .ok (.aload_n 0, 1) := by decide +kernel
theorem dX0_fill_29 : decode cX0_fill 29 = .ok (.getfield 21, 3) := by decide +kernel
theorem dX0_fill_32 : decode cX0_fill 32 = .ok (.iload_n 1, 1) := by decide +kernel
theorem dX0_fill_33 : decode cX0_fill 33 = .ok (.iload_n 3, 1) := by decide +kernel
theorem dX0_fill_34 : decode cX0_fill 34 = .ok (.iastore, 1) := by decide +kernel
theorem dX0_fill_35 : decode cX0_fill 35 = .ok (.aload_n 0, 1) := by decide +kernel
theorem dX0_fill_36 : decode cX0_fill 36 = .ok (.getfield 24, 3) := by decide +kernel
theorem dX0_fill_39 : decode cX0_fill 39 = .ok (.iload_n 1, 1) := by decide +kernel
theorem dX0_fill_40 : decode cX0_fill 40 = .ok (.iload_n 2, 1) := by decide +kernel
theorem dX0_fill_41 : decode cX0_fill 41 = .ok (.iastore, 1) := by decide +kernel
theorem dX0_fill_42 : decode cX0_fill 42 = .ok (.return_, 1) := by decide +kernel
theorem dX0_reopenFilled_0 : decode cX0_reopenFilled 0 = .ok (.aload_n 0, 1) := by decide +kernel
theorem dX0_reopenFilled_1 : decode cX0_reopenFilled 1 = .ok (.getfield 51, 3) := by decide +kernel
theorem dX0_reopenFilled_4 : decode cX0_reopenFilled 4 = .ok (.invokestatic 72, 3) := by decide +kernel
theorem dX0_reopenFilled_7 : decode cX0_reopenFilled 7 = .ok (.istore_n 1, 1) := by decide +kernel
theorem dX0_reopenFilled_8 : decode cX0_reopenFilled 8 = .ok (.aload_n 0, 1) := by decide +kernel
theorem dX0_reopenFilled_9 : decode cX0_reopenFilled 9 = .ok (.dup, 1) := by decide +kernel
theorem dX0_reopenFilled_10 : decode cX0_reopenFilled 10 = .ok (.getfield 47, 3) := by decide +kernel
theorem dX0_reopenFilled_13 : decode cX0_reopenFilled 13 = .ok (.aload_n 0, 1) := by decide +kernel
theorem dX0_reopenFilled_14 : decode cX0_reopenFilled 14 = .ok (.getfield 51, 3) := by decide +kernel
theorem dX0_reopenFilled_17 : decode cX0_reopenFilled 17 = .ok (.lor, 1) := by decide +kernel
theorem dX0_reopenFilled_18 : decode cX0_reopenFilled 18 = .ok (.putfield 47, 3) := by decide +kernel
theorem dX0_reopenFilled_21 : decode cX0_reopenFilled 21 = .ok (.aload_n 0, 1) := by decide +kernel
theorem dX0_reopenFilled_22 : decode cX0_reopenFilled 22 = .ok (.lconst 0, 1) := by decide +kernel
theorem dX0_reopenFilled_23 : decode cX0_reopenFilled 23 = .ok (.putfield 51, 3) := by decide +kernel
theorem dX0_reopenFilled_26 : decode cX0_reopenFilled 26 = .ok (.iload_n 1, 1) := by decide +kernel
theorem dX0_reopenFilled_27 : decode cX0_reopenFilled 27 = .ok (.ireturn, 1) := by decide +kernel
theorem dX0_fillable_0 : decode cX0_fillable 0 = .ok (.aload_n 0, 1) := by decide +kernel
theorem dX0_fillable_1 : decode cX0_fillable 1 = .ok (.getfield 47, 3) := by decide +kernel
theorem dX0_fillable_4 : decode cX0_fillable 4 = .ok (.lstore_n 1, 1) := by decide +kernel
theorem dX0_fillable_5 : decode cX0_fillable 5 = .ok (.iconst 0, 1) := by decide +kernel
theorem dX0_fillable_6 : decode cX0_fillable 6 = .ok (.istore_n 3, 1) := by decide +kernel
theorem dX0_fillable_7 : decode cX0_fillable 7 = .ok (.iload_n 3, 1) := by decide +kernel
theorem dX0_fillable_8 : decode cX0_fillable 8 = .ok (.aload_n 0, 1) := by decide +kernel
theorem dX0_fillable_9 : decode cX0_fillable 9 = .ok (.getfield 54, 3) := by decide +kernel
theorem dX0_fillable_12 : decode cX0_fillable 12 = .ok (.if_icmp .ge 37, 3) := by decide +kernel
theorem dX0_fillable_15 : decode cX0_fillable 15 = .ok (.aload_n 0, 1) := by decide +kernel
theorem dX0_fillable_16 : decode cX0_fillable 16 = .ok (.aload_n 0, 1) := by decide +kernel
theorem dX0_fillable_17 : decode cX0_fillable 17 = .ok (.getfield 31, 3) := by decide +kernel
theorem dX0_fillable_20 : decode cX0_fillable 20 = .ok (.iload_n 3, 1) := by decide +kernel
theorem dX0_fillable_21 : decode cX0_fillable 21 = .ok (.iaload, 1) := by decide +kernel
theorem dX0_fillable_22 : decode cX0_fillable 22 = .ok (.invokevirtual 63, 3) := by decide +kernel
theorem dX0_fillable_25 : decode cX0_fillable 25 = .ok (.ifCond .eq 18, 3) := by decide +kernel
theorem dX0_fillable_28 : decode cX0_fillable 28 = .ok (.lload_n 1, 1) := by decide +kernel
theorem dX0_fillable_29 : decode cX0_fillable 29 = .ok (.lconst 1, 1) := by decide +kernel
theorem dX0_fillable_30 : decode cX0_fillable 30 = .ok (.aload_n 0, 1) := by decide +kernel
theorem dX0_fillable_31 : decode cX0_fillable 31 = .ok (.getfield 34, 3) := by decide +kernel
theorem dX0_fillable_34 : decode cX0_fillable 34 = .ok (.iload_n 3, 1) := by decide +kernel
theorem dX0_fillable_35 : decode cX0_fillable 35 = .ok (.iaload, 1) := by decide +kernel
theorem dX0_fillable_36 : decode cX0_fillable 36 = .ok (.lshl, 1) := by decide +kernel
theorem dX0_fillable_37 : decode cX0_fillable 37 = .ok (.ldc2_w 70, 3) := by decide +kernel
theorem dX0_fillable_40 : decode cX0_fillable 40 = .ok (.lxor, 1) := by decide +kernel
theorem dX0_fillable_41 : decode cX0_fillable 41 = .ok (.land, 1) := by decide +kernel
theorem dX0_fillable_42 : decode cX0_fillable 42 = .ok (.lstore_n 1, 1) := by decide +kernel
theorem dX0_fillable_43 : decode cX0_fillable 43 = .ok (.iinc 3 1, 3) := by decide +kernel
theorem dX0_fillable_46 : decode cX0_fillable 46 = .ok (.goto (-39), 3) := by decide +kernel
theorem dX0_fillable_49 : decode cX0_fillable 49 = .ok (.lload_n 1, 1) := by decide +kernel
theorem dX0_fillable_50 : decode cX0_fillable 50 = .ok (.lreturn, 1) := by decide +kernel
theorem dX0_pairIndex_0 : decode cX0_pairIndex 0 = .ok (.iconst 0, 1) := by decide +kernel
theorem dX0_pairIndex_1 : decode cX0_pairIndex 1 = .ok (.istore_n 3, 1) := by decide +kernel
theorem dX0_pairIndex_2 : decode cX0_pairIndex 2 = .ok (.iload_n 3, 1) := by decide +kernel
theorem dX0_pairIndex_3 : decode cX0_pairIndex 3 = .ok (.aload_n 0, 1) := by decide +kernel
theorem dX0_pairIndex_4 : decode cX0_pairIndex 4 = .ok (.getfield 54, 3) := by decide +kernel
theorem dX0_pairIndex_7 : decode cX0_pairIndex 7 = .ok (.if_icmp .ge 31, 3) := by decide +kernel
theorem dX0_pairIndex_10 : decode cX0_pairIndex 10 = .ok (.aload_n 0, 1) := by decide +kernel
theorem dX0_pairIndex_11 : decode cX0_pairIndex 11 = .ok (.getfield 31, 3) := by decide +kernel
theorem dX0_pairIndex_14 : decode cX0_pairIndex 14 = .ok (.iload_n 3, 1) := by decide +kernel
theorem dX0_pairIndex_15 : decode cX0_pairIndex 15 = .ok (.iaload, 1) := by decide +kernel
theorem dX0_pairIndex_16 : decode cX0_pairIndex 16 = .ok (.iload_n 1, 1) := by decide +kernel
theorem dX0_pairIndex_17 : decode cX0_pairIndex 17 = .ok (.if_icmp .ne 15, 3) := by decide +kernel
theorem dX0_pairIndex_20 : decode cX0_pairIndex 20 = .ok (.aload_n 0, 1) := by decide +kernel
theorem dX0_pairIndex_21 : decode cX0_pairIndex 21 = .ok (.getfield 34, 3) := by decide +kernel
theorem dX0_pairIndex_24 : decode cX0_pairIndex 24 = .ok (.iload_n 3, 1) := by decide +kernel
theorem dX0_pairIndex_25 : decode cX0_pairIndex 25 = .ok (.iaload, 1) := by decide +kernel
theorem dX0_pairIndex_26 : decode cX0_pairIndex 26 = .ok (.iload_n 2, 1) := by decide +kernel
theorem dX0_pairIndex_27 : decode cX0_pairIndex 27 = .ok (.if_icmp .ne 5, 3) := by decide +kernel
theorem dX0_pairIndex_30 : decode cX0_pairIndex 30 = .ok (.iload_n 3, 1) := by decide +kernel
theorem dX0_pairIndex_31 : decode cX0_pairIndex 31 = .ok (.ireturn, 1) := by decide +kernel
theorem dX0_pairIndex_32 : decode cX0_pairIndex 32 = .ok (.iinc 3 1, 3) := by decide +kernel
theorem dX0_pairIndex_35 : decode cX0_pairIndex 35 = .ok (.goto (-33), 3) := by decide +kernel
theorem dX0_pairIndex_38 : decode cX0_pairIndex 38 = .ok (.iconst (-1), 1) := by decide +kernel
theorem dX0_pairIndex_39 : decode cX0_pairIndex 39 = .ok (.ireturn, 1) := by decide +kernel
theorem dX0_addPair_0 : decode cX0_addPair 0 = .ok (.aload_n 0, 1) := by decide +kernel
theorem dX0_addPair_1 : decode cX0_addPair 1 = .ok (.getfield 54, 3) := by decide +kernel
theorem dX0_addPair_4 : decode cX0_addPair 4 = .ok (.bipush 20, 2) := by decide +kernel
theorem dX0_addPair_6 : decode cX0_addPair 6 = .ok (.if_icmp .ge 33, 3) := by decide +kernel
theorem dX0_addPair_9 : decode cX0_addPair 9 = .ok (.aload_n 0, 1) := by decide +kernel
theorem dX0_addPair_10 : decode cX0_addPair 10 = .ok (.getfield 31, 3) := by decide +kernel
theorem dX0_addPair_13 : decode cX0_addPair 13 = .ok (.aload_n 0, 1) := by decide +kernel
theorem dX0_addPair_14 : decode cX0_addPair 14 = .ok (.getfield 54, 3) := by decide +kernel
theorem dX0_addPair_17 : decode cX0_addPair 17 = .ok (.iload_n 1, 1) := by decide +kernel
theorem dX0_addPair_18 : decode cX0_addPair 18 = .ok (.iastore, 1) := by decide +kernel
theorem dX0_addPair_19 : decode cX0_addPair 19 = .ok (.aload_n 0, 1) := by decide +kernel
theorem dX0_addPair_20 : decode cX0_addPair 20 = .ok (.getfield 34, 3) := by decide +kernel
theorem dX0_addPair_23 : decode cX0_addPair 23 = .ok (.aload_n 0, 1) := by decide +kernel
theorem dX0_addPair_24 : decode cX0_addPair 24 = .ok (.getfield 54, 3) := by decide +kernel
theorem dX0_addPair_27 : decode cX0_addPair 27 = .ok (.iload_n 2, 1) := by decide +kernel
theorem dX0_addPair_28 : decode cX0_addPair 28 = .ok (.iastore, 1) := by decide +kernel
theorem dX0_addPair_29 : decode cX0_addPair 29 = .ok (.aload_n 0, 1) := by decide +kernel
theorem dX0_addPair_30 : decode cX0_addPair 30 = .ok (.dup, 1) := by decide +kernel
theorem dX0_addPair_31 : decode cX0_addPair 31 = .ok (.getfield 54, 3) := by decide +kernel
theorem dX0_addPair_34 : decode cX0_addPair 34 = .ok (.iconst 1, 1) := by decide +kernel
theorem dX0_addPair_35 : decode cX0_addPair 35 = .ok (.iadd, 1) := by decide +kernel
theorem dX0_addPair_36 : decode cX0_addPair 36 = .ok (.putfield 54, 3) := by decide +kernel
theorem dX0_addPair_39 : decode cX0_addPair 39 = .ok (.return_, 1) := by decide +kernel
theorem dX0_firstsOf_0 : decode cX0_firstsOf 0 = .ok (.lconst 0, 1) := by decide +kernel
theorem dX0_firstsOf_1 : decode cX0_firstsOf 1 = .ok (.lstore_n 3, 1) := by decide +kernel
theorem dX0_firstsOf_2 : decode cX0_firstsOf 2 = .ok (.iconst 0, 1) := by decide +kernel
theorem dX0_firstsOf_3 : decode cX0_firstsOf 3 = .ok (.istore 5, 2) := by decide +kernel
theorem dX0_firstsOf_5 : decode cX0_firstsOf 5 = .ok (.iload 5, 2) := by decide +kernel
theorem dX0_firstsOf_7 : decode cX0_firstsOf 7 = .ok (.aload_n 0, 1) := by decide +kernel
theorem dX0_firstsOf_8 : decode cX0_firstsOf 8 = .ok (.getfield 54, 3) := by decide +kernel
theorem dX0_firstsOf_11 : decode cX0_firstsOf 11 = .ok (.if_icmp .ge 37, 3) := by decide +kernel
theorem dX0_firstsOf_14 : decode cX0_firstsOf 14 = .ok (.lload_n 1, 1) := by decide +kernel
theorem dX0_firstsOf_15 : decode cX0_firstsOf 15 = .ok (.lconst 1, 1) := by decide +kernel
theorem dX0_firstsOf_16 : decode cX0_firstsOf 16 = .ok (.aload_n 0, 1) := by decide +kernel
theorem dX0_firstsOf_17 : decode cX0_firstsOf 17 = .ok (.getfield 34, 3) := by decide +kernel
theorem dX0_firstsOf_20 : decode cX0_firstsOf 20 = .ok (.iload 5, 2) := by decide +kernel
theorem dX0_firstsOf_22 : decode cX0_firstsOf 22 = .ok (.iaload, 1) := by decide +kernel
theorem dX0_firstsOf_23 : decode cX0_firstsOf 23 = .ok (.lshl, 1) := by decide +kernel
theorem dX0_firstsOf_24 : decode cX0_firstsOf 24 = .ok (.land, 1) := by decide +kernel
theorem dX0_firstsOf_25 : decode cX0_firstsOf 25 = .ok (.lconst 0, 1) := by decide +kernel
theorem dX0_firstsOf_26 : decode cX0_firstsOf 26 = .ok (.lcmp, 1) := by decide +kernel
theorem dX0_firstsOf_27 : decode cX0_firstsOf 27 = .ok (.ifCond .eq 15, 3) := by decide +kernel
theorem dX0_firstsOf_30 : decode cX0_firstsOf 30 = .ok (.lload_n 3, 1) := by decide +kernel
theorem dX0_firstsOf_31 : decode cX0_firstsOf 31 = .ok (.lconst 1, 1) := by decide +kernel
theorem dX0_firstsOf_32 : decode cX0_firstsOf 32 = .ok (.aload_n 0, 1) := by decide +kernel
theorem dX0_firstsOf_33 : decode cX0_firstsOf 33 = .ok (.getfield 31, 3) := by decide +kernel
theorem dX0_firstsOf_36 : decode cX0_firstsOf 36 = .ok (.iload 5, 2) := by decide +kernel
theorem dX0_firstsOf_38 : decode cX0_firstsOf 38 = .ok (.iaload, 1) := by decide +kernel
theorem dX0_firstsOf_39 : decode cX0_firstsOf 39 = .ok (.lshl, 1) := by decide +kernel
theorem dX0_firstsOf_40 : decode cX0_firstsOf 40 = .ok (.lor, 1) := by decide +kernel
theorem dX0_firstsOf_41 : decode cX0_firstsOf 41 = .ok (.lstore_n 3, 1) := by decide +kernel
theorem dX0_firstsOf_42 : decode cX0_firstsOf 42 = .ok (.iinc 5 1, 3) := by decide +kernel
theorem dX0_firstsOf_45 : decode cX0_firstsOf 45 = .ok (.goto (-40), 3) := by decide +kernel
theorem dX0_firstsOf_48 : decode cX0_firstsOf 48 = .ok (.lload_n 3, 1) := by decide +kernel
theorem dX0_firstsOf_49 : decode cX0_firstsOf 49 = .ok (.lreturn, 1) := by decide +kernel
theorem dX0_wouldCircle_0 : decode cX0_wouldCircle 0 = .ok (.lconst 1, 1) := by decide +kernel
theorem dX0_wouldCircle_1 : decode cX0_wouldCircle 1 = .ok (.iload_n 1, 1) := by decide +kernel
theorem dX0_wouldCircle_2 : decode cX0_wouldCircle 2 = .ok (.lshl, 1) := by decide +kernel
theorem dX0_wouldCircle_3 : decode cX0_wouldCircle 3 = .ok (.lstore_n 3, 1) := by decide +kernel
theorem dX0_wouldCircle_4 : decode cX0_wouldCircle 4 = .ok (.iconst 0, 1) := by decide +kernel
theorem dX0_wouldCircle_5 : decode cX0_wouldCircle 5 = .ok (.istore 5, 2) := by decide +kernel
theorem dX0_wouldCircle_7 : decode cX0_wouldCircle 7 = .ok (.iload 5, 2) := by decide +kernel
theorem dX0_wouldCircle_9 : decode cX0_wouldCircle 9 = .ok (.aload_n 0, 1) := by decide +kernel
theorem dX0_wouldCircle_10 : decode cX0_wouldCircle 10 = .ok (.getfield 54, 3) := by decide +kernel
theorem dX0_wouldCircle_13 : decode cX0_wouldCircle 13 = .ok (.if_icmp .ge 17, 3) := by decide +kernel
theorem dX0_wouldCircle_16 : decode cX0_wouldCircle 16 = .ok (.lload_n 3, 1) := by decide +kernel
theorem dX0_wouldCircle_17 : decode cX0_wouldCircle 17 = .ok (.aload_n 0, 1) := by decide +kernel
theorem dX0_wouldCircle_18 : decode cX0_wouldCircle 18 = .ok (.lload_n 3, 1) := by decide +kernel
theorem dX0_wouldCircle_19 : decode cX0_wouldCircle 19 = .ok (.invokevirtual 78, 3) := by decide +kernel
theorem dX0_wouldCircle_22 : decode cX0_wouldCircle 22 = .ok (.lor, 1) := by decide +kernel
theorem dX0_wouldCircle_23 : decode cX0_wouldCircle 23 = .ok (.lstore_n 3, 1) := by decide +kernel
theorem dX0_wouldCircle_24 : decode cX0_wouldCircle 24 = .ok (.iinc 5 1, 3) := by decide +kernel
theorem dX0_wouldCircle_27 : decode cX0_wouldCircle 27 = .ok (.goto (-20), 3) := by decide +kernel
theorem dX0_wouldCircle_30 : decode cX0_wouldCircle 30 = .ok (.lload_n 3, 1) := by decide +kernel
theorem dX0_wouldCircle_31 : decode cX0_wouldCircle 31 = .ok (.lconst 1, 1) := by decide +kernel
theorem dX0_wouldCircle_32 : decode cX0_wouldCircle 32 = .ok (.iload_n 2, 1) := by decide +kernel
theorem dX0_wouldCircle_33 : decode cX0_wouldCircle 33 = .ok (.lshl, 1) := by decide +kernel
theorem dX0_wouldCircle_34 : decode cX0_wouldCircle 34 = .ok (.land, 1) := by decide +kernel
theorem dX0_wouldCircle_35 : decode cX0_wouldCircle 35 = .ok (.lconst 0, 1) := by decide +kernel
theorem dX0_wouldCircle_36 : decode cX0_wouldCircle 36 = .ok (.lcmp, 1) := by decide +kernel
theorem dX0_wouldCircle_37 : decode cX0_wouldCircle 37 = .ok (.ifCond .eq 7, 3) := by decide +kernel
theorem dX0_wouldCircle_40 : decode cX0_wouldCircle 40 = .ok (.iconst 1, 1) := by decide +kernel
theorem dX0_wouldCircle_41 : decode cX0_wouldCircle 41 = .ok (.goto 4, 3) := by decide +kernel
theorem dX0_wouldCircle_44 : decode cX0_wouldCircle 44 = .ok (.iconst 0, 1) := by decide +kernel
theorem dX0_wouldCircle_45 : decode cX0_wouldCircle 45 = .ok (.ireturn, 1) := by decide +kernel
theorem dX1_init_0 : decode cX1_init 0 = .ok (.aload_n 0, 1) := by decide +kernel
theorem dX1_init_1 : decode cX1_init 1 = .ok (.invokespecial 3, 3) := by decide +kernel
theorem dX1_init_4 : decode cX1_init 4 = .ok (.aload_n 0, 1) := by decide +kernel
theorem dX1_init_5 : decode cX1_init 5 = .ok (.aload_n 1, 1) := by decide +kernel
theorem dX1_init_6 : decode cX1_init 6 = .ok (.putfield 9, 3) := by decide +kernel
theorem dX1_init_9 : decode cX1_init 9 = .ok (.aload_n 0, 1) := by decide +kernel
theorem dX1_init_10 : decode cX1_init 10 = .ok (.aload_n 2, 1) := by decide +kernel
theorem dX1_init_11 : decode cX1_init 11 = .ok (.putfield 15, 3) := by decide +kernel
theorem dX1_init_14 : decode cX1_init 14 = .ok (.return_, 1) := by decide +kernel
theorem dX1_readText_0 : decode cX1_readText 0 = .ok (.aload_n 0, 1) := by decide +kernel
theorem dX1_readText_1 : decode cX1_readText 1 = .ok (.iload_n 1, 1) := by decide +kernel
theorem dX1_readText_2 : decode cX1_readText 2 = .ok (.aload_n 0, 1) := by decide +kernel
theorem dX1_readText_3 : decode cX1_readText 3 = .ok (.getfield 9, 3) := by decide +kernel
theorem dX1_readText_6 : decode cX1_readText 6 = .ok (.arraylength, 1) := by decide +kernel
theorem dX1_readText_7 : decode cX1_readText 7 = .ok (.invokestatic 19, 3) := by decide +kernel
theorem dX1_readText_10 : decode cX1_readText 10 = .ok (.putfield 25, 3) := by decide +kernel
theorem dX1_readText_13 : decode cX1_readText 13 = .ok (.aload_n 0, 1) := by decide +kernel
theorem dX1_readText_14 : decode cX1_readText 14 = .ok (.iconst 0, 1) := by decide +kernel
theorem dX1_readText_15 : decode cX1_readText 15 = .ok (.putfield 29, 3) := by decide +kernel
theorem dX1_readText_18 : decode cX1_readText 18 = .ok (.aload_n 0, 1) := by decide +kernel
theorem dX1_readText_19 : decode cX1_readText 19 = .ok (.iconst 0, 1) := by decide +kernel
theorem dX1_readText_20 : decode cX1_readText 20 = .ok (.putfield 32, 3) := by decide +kernel
theorem dX1_readText_23 : decode cX1_readText 23 = .ok (.aload_n 0, 1) := by decide +kernel
theorem dX1_readText_24 : decode cX1_readText 24 = .ok (.iconst 0, 1) := by decide +kernel
theorem dX1_readText_25 : decode cX1_readText 25 = .ok (.putfield 35, 3) := by decide +kernel
theorem dX1_readText_28 : decode cX1_readText 28 = .ok (.aload_n 0, 1) := by decide +kernel
theorem dX1_readText_29 : decode cX1_readText 29 = .ok (.getfield 15, 3) := by decide +kernel
theorem dX1_readText_32 : decode cX1_readText 32 = .ok (.invokevirtual 38, 3) := by decide +kernel
theorem dX1_readText_35 : decode cX1_readText 35 = .ok (.aload_n 0, 1) := by decide +kernel
theorem dX1_readText_36 : decode cX1_readText 36 = .ok (.invokevirtual 43, 3) := by decide +kernel
theorem dX1_readText_39 : decode cX1_readText 39 = .ok (.iconst 0, 1) := by decide +kernel
theorem dX1_readText_40 : decode cX1_readText 40 = .ok (.istore_n 2, 1) := by decide +kernel
theorem dX1_readText_41 : decode cX1_readText 41 = .ok (.iload_n 2, 1) := by decide +kernel
theorem dX1_readText_42 : decode cX1_readText 42 = .ok (.aload_n 0, 1) := by decide +kernel
theorem dX1_readText_43 : decode cX1_readText 43 = .ok (.getfield 25, 3) := by decide +kernel
theorem dX1_readText_46 : decode cX1_readText 46 = .ok (.if_icmp .ge 31, 3) := by decide +kernel
theorem dX1_readText_49 : decode cX1_readText 49 = .ok (.aload_n 0, 1) := by decide +kernel
theorem dX1_readText_50 : decode cX1_readText 50 = .ok (.getfield 32, 3) := by decide +kernel
theorem dX1_readText_53 : decode cX1_readText 53 = .ok (.ifCond .ne 24, 3) := by decide +kernel
theorem dX1_readText_56 : decode cX1_readText 56 = .ok (.aload_n 0, 1) := by decide +kernel
theorem dX1_readText_57 : decode cX1_readText 57 = .ok (.invokevirtual 46, 3) := by decide +kernel
theorem dX1_readText_60 : decode cX1_readText 60 = .ok (.ifCond .ne 17, 3) := by decide +kernel
theorem dX1_readText_63 : decode cX1_readText 63 = .ok (.aload_n 0, 1) := by decide +kernel
theorem dX1_readText_64 : decode cX1_readText 64 = .ok (.invokevirtual 50, 3) := by decide +kernel
theorem dX1_readText_67 : decode cX1_readText 67 = .ok (.aload_n 0, 1) := by decide +kernel
theorem dX1_readText_68 : decode cX1_readText 68 = .ok (.invokevirtual 53, 3) := by decide +kernel
theorem dX1_readText_71 : decode cX1_readText 71 = .ok (.iinc 2 1, 3) := by decide +kernel
theorem dX1_readText_74 : decode cX1_readText 74 = .ok (.goto (-33), 3) := by decide +kernel
theorem dX1_readText_77 : decode cX1_readText 77 = .ok (.return_, 1) := by decide +kernel
theorem dX1_fail_0 : decode cX1_fail 0 = .ok (.aload_n 0, 1) := by decide +kernel
theorem dX1_fail_1 : decode cX1_fail 1 = .ok (.getfield 32, 3) := by decide +kernel
theorem dX1_fail_4 : decode cX1_fail 4 = .ok (.ifCond .ne 13, 3) := by decide +kernel
theorem dX1_fail_7 : decode cX1_fail 7 = .ok (.aload_n 0, 1) := by decide +kernel
theorem dX1_fail_8 : decode cX1_fail 8 = .ok (.iload_n 1, 1) := by decide +kernel
theorem dX1_fail_9 : decode cX1_fail 9 = .ok (.putfield 32, 3) := by decide +kernel
theorem dX1_fail_12 : decode cX1_fail 12 = .ok (.aload_n 0, 1) := by decide +kernel
theorem dX1_fail_13 : decode cX1_fail 13 = .ok (.iload_n 2, 1) := by decide +kernel
theorem dX1_fail_14 : decode cX1_fail 14 = .ok (.putfield 35, 3) := by decide +kernel
theorem dX1_fail_17 : decode cX1_fail 17 = .ok (.return_, 1) := by decide +kernel
theorem dX1_isAtEnd_0 : decode cX1_isAtEnd 0 = .ok (.aload_n 0, 1) := by decide +kernel
theorem dX1_isAtEnd_1 : decode cX1_isAtEnd 1 = .ok (.getfield 29, 3) := by decide +kernel
theorem dX1_isAtEnd_4 : decode cX1_isAtEnd 4 = .ok (.aload_n 0, 1) := by decide +kernel
theorem dX1_isAtEnd_5 : decode cX1_isAtEnd 5 = .ok (.getfield 25, 3) := by decide +kernel
theorem dX1_isAtEnd_8 : decode cX1_isAtEnd 8 = .ok (.if_icmp .ge 30, 3) := by decide +kernel
theorem dX1_isAtEnd_11 : decode cX1_isAtEnd 11 = .ok (.aload_n 0, 1) := by decide +kernel
theorem dX1_isAtEnd_12 : decode cX1_isAtEnd 12 = .ok (.getfield 9, 3) := by decide +kernel
theorem dX1_isAtEnd_15 : decode cX1_isAtEnd 15 = .ok (.aload_n 0, 1) := by decide +kernel
theorem dX1_isAtEnd_16 : decode cX1_isAtEnd 16 = .ok (.getfield 29, 3) := by decide +kernel
theorem dX1_isAtEnd_19 : decode cX1_isAtEnd 19 = .ok (.baload, 1) := by decide +kernel
theorem dX1_isAtEnd_20 : decode cX1_isAtEnd 20 = .ok (.bipush 32, 2) := by decide +kernel
theorem dX1_isAtEnd_22 : decode cX1_isAtEnd 22 = .ok (.if_icmp .ne 16, 3) := by decide +kernel
theorem dX1_isAtEnd_25 : decode cX1_isAtEnd 25 = .ok (.aload_n 0, 1) := by decide +kernel
theorem dX1_isAtEnd_26 : decode cX1_isAtEnd 26 = .ok (.dup, 1) := by decide +kernel
theorem dX1_isAtEnd_27 : decode cX1_isAtEnd 27 = .ok (.getfield 29, 3) := by decide +kernel
theorem dX1_isAtEnd_30 : decode cX1_isAtEnd 30 = .ok (.iconst 1, 1) := by decide +kernel
theorem dX1_isAtEnd_31 : decode cX1_isAtEnd 31 = .ok (.iadd, 1) := by decide +kernel
theorem dX1_isAtEnd_32 : decode cX1_isAtEnd 32 = .ok (.putfield 29, 3) := by decide +kernel
theorem dX1_isAtEnd_35 : decode cX1_isAtEnd 35 = .ok (.goto (-35), 3) := by decide +kernel
theorem dX1_isAtEnd_38 : decode cX1_isAtEnd 38 = .ok (.aload_n 0, 1) := by decide +kernel
theorem dX1_isAtEnd_39 : decode cX1_isAtEnd 39 = .ok (.getfield 29, 3) := by decide +kernel
theorem dX1_isAtEnd_42 : decode cX1_isAtEnd 42 = .ok (.aload_n 0, 1) := by decide +kernel
theorem dX1_isAtEnd_43 : decode cX1_isAtEnd 43 = .ok (.getfield 25, 3) := by decide +kernel
theorem dX1_isAtEnd_46 : decode cX1_isAtEnd 46 = .ok (.if_icmp .lt 7, 3) := by decide +kernel
theorem dX1_isAtEnd_49 : decode cX1_isAtEnd 49 = .ok (.iconst 1, 1) := by decide +kernel
theorem dX1_isAtEnd_50 : decode cX1_isAtEnd 50 = .ok (.goto 4, 3) := by decide +kernel
theorem dX1_isAtEnd_53 : decode cX1_isAtEnd 53 = .ok (.iconst 0, 1) := by decide +kernel
theorem dX1_isAtEnd_54 : decode cX1_isAtEnd 54 = .ok (.ireturn, 1) := by decide +kernel
theorem dX1_isAtDigit_0 : decode cX1_isAtDigit 0 = .ok (.aload_n 0, 1) := by decide +kernel
theorem dX1_isAtDigit_1 : decode cX1_isAtDigit 1 = .ok (.invokevirtual 46, 3) := by decide +kernel
theorem dX1_isAtDigit_4 : decode cX1_isAtDigit 4 = .ok (.ifCond .ne 35, 3) := by decide +kernel
theorem dX1_isAtDigit_7 : decode cX1_isAtDigit 7 = .ok (.aload_n 0, 1) := by decide +kernel
theorem dX1_isAtDigit_8 : decode cX1_isAtDigit 8 = .ok (.getfield 9, 3) := by decide +kernel
theorem dX1_isAtDigit_11 : decode cX1_isAtDigit 11 = .ok (.aload_n 0, 1) := by decide +kernel
theorem dX1_isAtDigit_12 : decode cX1_isAtDigit 12 = .ok (.getfield 29, 3) := by decide +kernel
theorem dX1_isAtDigit_15 : decode cX1_isAtDigit 15 = .ok (.baload, 1) := by decide +kernel
theorem dX1_isAtDigit_16 : decode cX1_isAtDigit 16 = .ok (.bipush 48, 2) := by decide +kernel
theorem dX1_isAtDigit_18 : decode cX1_isAtDigit 18 = .ok (.if_icmp .lt 21, 3) := by decide +kernel
theorem dX1_isAtDigit_21 : decode cX1_isAtDigit 21 = .ok (.aload_n 0, 1) := by decide +kernel
theorem dX1_isAtDigit_22 : decode cX1_isAtDigit 22 = .ok (.getfield 9, 3) := by decide +kernel
theorem dX1_isAtDigit_25 : decode cX1_isAtDigit 25 = .ok (.aload_n 0, 1) := by decide +kernel
theorem dX1_isAtDigit_26 : decode cX1_isAtDigit 26 = .ok (.getfield 29, 3) := by decide +kernel
theorem dX1_isAtDigit_29 : decode cX1_isAtDigit 29 = .ok (.baload, 1) := by decide +kernel
theorem dX1_isAtDigit_30 : decode cX1_isAtDigit 30 = .ok (.bipush 57, 2) := by decide +kernel
theorem dX1_isAtDigit_32 : decode cX1_isAtDigit 32 = .ok (.if_icmp .gt 7, 3) := by decide +kernel
theorem dX1_isAtDigit_35 : decode cX1_isAtDigit 35 = .ok (.iconst 1, 1) := by decide +kernel
theorem dX1_isAtDigit_36 : decode cX1_isAtDigit 36 = .ok (.goto 4, 3) := by decide +kernel
theorem dX1_isAtDigit_39 : decode cX1_isAtDigit 39 = .ok (.iconst 0, 1) := by decide +kernel
theorem dX1_isAtDigit_40 : decode cX1_isAtDigit 40 = .ok (.ireturn, 1) := by decide +kernel
theorem dX1_readSemicolon_0 : decode cX1_readSemicolon 0 = .ok (.aload_n 0, 1) := by decide +kernel
theorem dX1_readSemicolon_1 : decode cX1_readSemicolon 1 = .ok (.invokevirtual 46, 3) := by decide +kernel
theorem dX1_readSemicolon_4 : decode cX1_readSemicolon 4 = .ok (.ifCond .ne 17, 3) := by decide +kernel
theorem dX1_readSemicolon_7 : decode cX1_readSemicolon 7 = .ok (.aload_n 0, 1) := by decide +kernel
theorem dX1_readSemicolon_8 : decode cX1_readSemicolon 8 = .ok (.getfield 9, 3) := by decide +kernel
theorem dX1_readSemicolon_11 : decode cX1_readSemicolon 11 = .ok (.aload_n 0, 1) := by decide +kernel
theorem dX1_readSemicolon_12 : decode cX1_readSemicolon 12 = .ok (.getfield 29, 3) := by decide +kernel
theorem dX1_readSemicolon_15 : decode cX1_readSemicolon 15 = .ok (.baload, 1) := by decide +kernel
theorem dX1_readSemicolon_16 : decode cX1_readSemicolon 16 = .ok (.bipush 59, 2) := by decide +kernel
theorem dX1_readSemicolon_18 : decode cX1_readSemicolon 18 = .ok (.if_icmp .eq 15, 3) := by decide +kernel
theorem dX1_readSemicolon_21 : decode cX1_readSemicolon 21 = .ok (.aload_n 0, 1) := by decide +kernel
theorem dX1_readSemicolon_22 : decode cX1_readSemicolon 22 = .ok (.iconst 1, 1) := by decide +kernel
theorem dX1_readSemicolon_23 : decode cX1_readSemicolon 23 = .ok (.aload_n 0, 1) := by decide +kernel
theorem dX1_readSemicolon_24 : decode cX1_readSemicolon 24 = .ok (.getfield 29, 3) := by decide +kernel
theorem dX1_readSemicolon_27 : decode cX1_readSemicolon 27 = .ok (.invokevirtual 56, 3) := by decide +kernel
theorem dX1_readSemicolon_30 : decode cX1_readSemicolon 30 = .ok (.goto 13, 3) := by decide +kernel
theorem dX1_readSemicolon_33 : decode cX1_readSemicolon 33 = .ok (.aload_n 0, 1) := by decide +kernel
theorem dX1_readSemicolon_34 : decode cX1_readSemicolon 34 = .ok (.dup, 1) := by decide +kernel
theorem dX1_readSemicolon_35 : decode cX1_readSemicolon 35 = .ok (.getfield 29, 3) := by decide +kernel
theorem dX1_readSemicolon_38 : decode cX1_readSemicolon 38 = .ok (.iconst 1, 1) := by decide +kernel
theorem dX1_readSemicolon_39 : decode cX1_readSemicolon 39 = .ok (.iadd, 1) := by decide +kernel
theorem dX1_readSemicolon_40 : decode cX1_readSemicolon 40 = .ok (.putfield 29, 3) := by decide +kernel
theorem dX1_readSemicolon_43 : decode cX1_readSemicolon 43 = .ok (.return_, 1) := by decide +kernel
theorem dX1_readWord_0 : decode cX1_readWord 0 = .ok (.aload_n 0, 1) := by decide +kernel
theorem dX1_readWord_1 : decode cX1_readWord 1 = .ok (.aload_n 0, 1) := by decide +kernel
theorem dX1_readWord_2 : decode cX1_readWord 2 = .ok (.invokevirtual 46, 3) := by decide +kernel
theorem dX1_readWord_5 : decode cX1_readWord 5 = .ok (.ifCond .eq 10, 3) := by decide +kernel
theorem dX1_readWord_8 : decode cX1_readWord 8 = .ok (.aload_n 0, 1) := by decide +kernel
theorem dX1_readWord_9 : decode cX1_readWord 9 = .ok (.getfield 25, 3) := by decide +kernel
theorem dX1_readWord_12 : decode cX1_readWord 12 = .ok (.goto 7, 3) := by decide +kernel
theorem dX1_readWord_15 : decode cX1_readWord 15 = .ok (.aload_n 0, 1) := by decide +kernel
theorem dX1_readWord_16 : decode cX1_readWord 16 = .ok (.getfield 29, 3) := by decide +kernel
theorem dX1_readWord_19 : decode cX1_readWord 19 = .ok (.putfield 60, 3) := by decide +kernel
theorem dX1_readWord_22 : decode cX1_readWord 22 = .ok (.aload_n 0, 1) := by decide +kernel
theorem dX1_readWord_23 : decode cX1_readWord 23 = .ok (.getfield 29, 3) := by decide +kernel
theorem dX1_readWord_26 : decode cX1_readWord 26 = .ok (.aload_n 0, 1) := by decide +kernel
theorem dX1_readWord_27 : decode cX1_readWord 27 = .ok (.getfield 25, 3) := by decide +kernel
theorem dX1_readWord_30 : decode cX1_readWord 30 = .ok (.if_icmp .ge 44, 3) := by decide +kernel
theorem dX1_readWord_33 : decode cX1_readWord 33 = .ok (.aload_n 0, 1) := by decide +kernel
theorem dX1_readWord_34 : decode cX1_readWord 34 = .ok (.getfield 9, 3) := by decide +kernel
theorem dX1_readWord_37 : decode cX1_readWord 37 = .ok (.aload_n 0, 1) := by decide +kernel
theorem dX1_readWord_38 : decode cX1_readWord 38 = .ok (.getfield 29, 3) := by decide +kernel
theorem dX1_readWord_41 : decode cX1_readWord 41 = .ok (.baload, 1) := by decide +kernel
theorem dX1_readWord_42 : decode cX1_readWord 42 = .ok (.bipush 97, 2) := by decide +kernel
theorem dX1_readWord_44 : decode cX1_readWord 44 = .ok (.if_icmp .lt 30, 3) := by decide +kernel
theorem dX1_readWord_47 : decode cX1_readWord 47 = .ok (.aload_n 0, 1) := by decide +kernel
theorem dX1_readWord_48 : decode cX1_readWord 48 = .ok (.getfield 9, 3) := by decide +kernel
theorem dX1_readWord_51 : decode cX1_readWord 51 = .ok (.aload_n 0, 1) := by decide +kernel
theorem dX1_readWord_52 : decode cX1_readWord 52 = .ok (.getfield 29, 3) := by decide +kernel
theorem dX1_readWord_55 : decode cX1_readWord 55 = .ok (.baload, 1) := by decide +kernel
theorem dX1_readWord_56 : decode cX1_readWord 56 = .ok (.bipush 122, 2) := by decide +kernel
theorem dX1_readWord_58 : decode cX1_readWord 58 = .ok (.if_icmp .gt 16, 3) := by decide +kernel
theorem dX1_readWord_61 : decode cX1_readWord 61 = .ok (.aload_n 0, 1) := by decide +kernel
theorem dX1_readWord_62 : decode cX1_readWord 62 = .ok (.dup, 1) := by decide +kernel
theorem dX1_readWord_63 : decode cX1_readWord 63 = .ok (.getfield 29, 3) := by decide +kernel
theorem dX1_readWord_66 : decode cX1_readWord 66 = .ok (.iconst 1, 1) := by decide +kernel
theorem dX1_readWord_67 : decode cX1_readWord 67 = .ok (.iadd, 1) := by decide +kernel
theorem dX1_readWord_68 : decode cX1_readWord 68 = .ok (.putfield 29, 3) := by decide +kernel
theorem dX1_readWord_71 : decode cX1_readWord 71 = .ok (.goto (-49), 3) := by decide +kernel
theorem dX1_readWord_74 : decode cX1_readWord 74 = .ok (.return_, 1) := by decide +kernel
theorem dX1_isWord_0 : decode cX1_isWord 0 = .ok (.aload_n 0, 1) := by decide +kernel
theorem dX1_isWord_1 : decode cX1_isWord 1 = .ok (.getfield 29, 3) := by decide +kernel
theorem dX1_isWord_4 : decode cX1_isWord 4 = .ok (.aload_n 0, 1) := by decide +kernel
theorem dX1_isWord_5 : decode cX1_isWord 5 = .ok (.getfield 60, 3) := by decide +kernel
theorem dX1_isWord_8 : decode cX1_isWord 8 = .ok (.isub, 1) := by decide +kernel
theorem dX1_isWord_9 : decode cX1_isWord 9 = .ok (.aload_n 1, 1) := by decide +kernel
theorem dX1_isWord_10 : decode cX1_isWord 10 = .ok (.invokevirtual 63, 3) := by decide +kernel
theorem dX1_isWord_13 : decode cX1_isWord 13 = .ok (.if_icmp .eq 5, 3) := by decide +kernel
theorem dX1_isWord_16 : decode cX1_isWord 16 = .ok (.iconst 0, 1) := by decide +kernel
theorem dX1_isWord_17 : decode cX1_isWord 17 = .ok (.ireturn, 1) := by decide +kernel
theorem dX1_isWord_18 : decode cX1_isWord 18 = .ok (.iconst 0, 1) := by decide +kernel
theorem dX1_isWord_19 : decode cX1_isWord 19 = .ok (.istore_n 2, 1) := by decide +kernel
theorem dX1_isWord_20 : decode cX1_isWord 20 = .ok (.iload_n 2, 1) := by decide +kernel
theorem dX1_isWord_21 : decode cX1_isWord 21 = .ok (.aload_n 1, 1) := by decide +kernel
theorem dX1_isWord_22 : decode cX1_isWord 22 = .ok (.invokevirtual 63, 3) := by decide +kernel
theorem dX1_isWord_25 : decode cX1_isWord 25 = .ok (.if_icmp .ge 30, 3) := by decide +kernel
theorem dX1_isWord_28 : decode cX1_isWord 28 = .ok (.aload_n 0, 1) := by decide +kernel
theorem dX1_isWord_29 : decode cX1_isWord 29 = .ok (.getfield 9, 3) := by decide +kernel
theorem dX1_isWord_32 : decode cX1_isWord 32 = .ok (.aload_n 0, 1) := by decide +kernel
theorem dX1_isWord_33 : decode cX1_isWord 33 = .ok (.getfield 60, 3) := by decide +kernel
theorem dX1_isWord_36 : decode cX1_isWord 36 = .ok (.iload_n 2, 1) := by decide +kernel
theorem dX1_isWord_37 : decode cX1_isWord 37 = .ok (.iadd, 1) := by decide +kernel
theorem dX1_isWord_38 : decode cX1_isWord 38 = .ok (.baload, 1) := by decide +kernel
theorem dX1_isWord_39 : decode cX1_isWord 39 = .ok (.aload_n 1, 1) := by decide +kernel
theorem dX1_isWord_40 : decode cX1_isWord 40 = .ok (.iload_n 2, 1) := by decide +kernel
theorem dX1_isWord_41 : decode cX1_isWord 41 = .ok (.invokevirtual 68, 3) := by decide +kernel
theorem dX1_isWord_44 : decode cX1_isWord 44 = .ok (.if_icmp .eq 5, 3) := by decide +kernel
theorem dX1_isWord_47 : decode cX1_isWord 47 = .ok (.iconst 0, 1) := by decide +kernel
theorem dX1_isWord_48 : decode cX1_isWord 48 = .ok (.ireturn, 1) := by decide +kernel
theorem dX1_isWord_49 : decode cX1_isWord 49 = .ok (.iinc 2 1, 3) := by decide +kernel
theorem dX1_isWord_52 : decode cX1_isWord 52 = .ok (.goto (-32), 3) := by decide +kernel
theorem dX1_isWord_55 : decode cX1_isWord 55 = .ok (.iconst 1, 1) := by decide +kernel
theorem dX1_isWord_56 : decode cX1_isWord 56 = .ok (.ireturn, 1) := by decide +kernel
theorem dX1_readNumber_0 : decode cX1_readNumber 0 = .ok (.aload_n 0, 1) := by decide +kernel
theorem dX1_readNumber_1 : decode cX1_readNumber 1 = .ok (.aload_n 0, 1) := by decide +kernel
theorem dX1_readNumber_2 : decode cX1_readNumber 2 = .ok (.invokevirtual 46, 3) := by decide +kernel
theorem dX1_readNumber_5 : decode cX1_readNumber 5 = .ok (.ifCond .eq 10, 3) := by decide +kernel
theorem dX1_readNumber_8 : decode cX1_readNumber 8 = .ok (.aload_n 0, 1) := by decide +kernel
theorem dX1_readNumber_9 : decode cX1_readNumber 9 = .ok (.getfield 25, 3) := by decide +kernel
theorem dX1_readNumber_12 : decode cX1_readNumber 12 = .ok (.goto 7, 3) := by decide +kernel
theorem dX1_readNumber_15 : decode cX1_readNumber 15 = .ok (.aload_n 0, 1) := by decide +kernel
theorem dX1_readNumber_16 : decode cX1_readNumber 16 = .ok (.getfield 29, 3) := by decide +kernel
theorem dX1_readNumber_19 : decode cX1_readNumber 19 = .ok (.putfield 72, 3) := by decide +kernel
theorem dX1_readNumber_22 : decode cX1_readNumber 22 = .ok (.aload_n 0, 1) := by decide +kernel
theorem dX1_readNumber_23 : decode cX1_readNumber 23 = .ok (.invokevirtual 75, 3) := by decide +kernel
theorem dX1_readNumber_26 : decode cX1_readNumber 26 = .ok (.ifCond .ne 14, 3) := by decide +kernel
theorem dX1_readNumber_29 : decode cX1_readNumber 29 = .ok (.aload_n 0, 1) := by decide +kernel
theorem dX1_readNumber_30 : decode cX1_readNumber 30 = .ok (.iconst 1, 1) := by decide +kernel
theorem dX1_readNumber_31 : decode cX1_readNumber 31 = .ok (.aload_n 0, 1) := by decide +kernel
theorem dX1_readNumber_32 : decode cX1_readNumber 32 = .ok (.getfield 72, 3) := by decide +kernel
theorem dX1_readNumber_35 : decode cX1_readNumber 35 = .ok (.invokevirtual 56, 3) := by decide +kernel
theorem dX1_readNumber_38 : decode cX1_readNumber 38 = .ok (.iload_n 1, 1) := by decide +kernel
theorem dX1_readNumber_39 : decode cX1_readNumber 39 = .ok (.ireturn, 1) := by decide +kernel
theorem dX1_readNumber_40 : decode cX1_readNumber 40 = .ok (.iconst 0, 1) := by decide +kernel
theorem dX1_readNumber_41 : decode cX1_readNumber 41 = .ok (.istore_n 3, 1) := by decide +kernel
theorem dX1_readNumber_42 : decode cX1_readNumber 42 = .ok (.aload_n 0, 1) := by decide +kernel
theorem dX1_readNumber_43 : decode cX1_readNumber 43 = .ok (.getfield 29, 3) := by decide +kernel
theorem dX1_readNumber_46 : decode cX1_readNumber 46 = .ok (.aload_n 0, 1) := by decide +kernel
theorem dX1_readNumber_47 : decode cX1_readNumber 47 = .ok (.getfield 25, 3) := by decide +kernel
theorem dX1_readNumber_50 : decode cX1_readNumber 50 = .ok (.if_icmp .ge 67, 3) := by decide +kernel
theorem dX1_readNumber_53 : decode cX1_readNumber 53 = .ok (.aload_n 0, 1) := by decide +kernel
theorem dX1_readNumber_54 : decode cX1_readNumber 54 = .ok (.getfield 9, 3) := by decide +kernel
theorem dX1_readNumber_57 : decode cX1_readNumber 57 = .ok (.aload_n 0, 1) := by decide +kernel
theorem dX1_readNumber_58 : decode cX1_readNumber 58 = .ok (.getfield 29, 3) := by decide +kernel
theorem dX1_readNumber_61 : decode cX1_readNumber 61 = .ok (.baload, 1) := by decide +kernel
theorem dX1_readNumber_62 : decode cX1_readNumber 62 = .ok (.bipush 48, 2) := by decide +kernel
theorem dX1_readNumber_64 : decode cX1_readNumber 64 = .ok (.if_icmp .lt 53, 3) := by decide +kernel
theorem dX1_readNumber_67 : decode cX1_readNumber 67 = .ok (.aload_n 0, 1) := by decide +kernel
theorem dX1_readNumber_68 : decode cX1_readNumber 68 = .ok (.getfield 9, 3) := by decide +kernel
theorem dX1_readNumber_71 : decode cX1_readNumber 71 = .ok (.aload_n 0, 1) := by decide +kernel
theorem dX1_readNumber_72 : decode cX1_readNumber 72 = .ok (.getfield 29, 3) := by decide +kernel
theorem dX1_readNumber_75 : decode cX1_readNumber 75 = .ok (.baload, 1) := by decide +kernel
theorem dX1_readNumber_76 : decode cX1_readNumber 76 = .ok (.bipush 57, 2) := by decide +kernel
theorem dX1_readNumber_78 : decode cX1_readNumber 78 = .ok (.if_icmp .gt 39, 3) := by decide +kernel
theorem dX1_readNumber_81 : decode cX1_readNumber 81 = .ok (.bipush 10, 2) := by decide +kernel
theorem dX1_readNumber_83 : decode cX1_readNumber 83 = .ok (.iload_n 3, 1) := by decide +kernel
theorem dX1_readNumber_84 : decode cX1_readNumber 84 = .ok (.imul, 1) := by decide +kernel
theorem dX1_readNumber_85 : decode cX1_readNumber 85 = .ok (.aload_n 0, 1) := by decide +kernel
theorem dX1_readNumber_86 : decode cX1_readNumber 86 = .ok (.getfield 9, 3) := by decide +kernel
theorem dX1_readNumber_89 : decode cX1_readNumber 89 = .ok (.aload_n 0, 1) := by decide +kernel
theorem dX1_readNumber_90 : decode cX1_readNumber 90 = .ok (.getfield 29, 3) := by decide +kernel
theorem dX1_readNumber_93 : decode cX1_readNumber 93 = .ok (.baload, 1) := by decide +kernel
theorem dX1_readNumber_94 : decode cX1_readNumber 94 = .ok (.iadd, 1) := by decide +kernel
theorem dX1_readNumber_95 : decode cX1_readNumber 95 = .ok (.bipush 48, 2) := by decide +kernel
theorem dX1_readNumber_97 : decode cX1_readNumber 97 = .ok (.isub, 1) := by decide +kernel
theorem dX1_readNumber_98 : decode cX1_readNumber 98 = .ok (.ldc 78, 2) := by decide +kernel
theorem dX1_readNumber_100 : decode cX1_readNumber 100 = .ok (.invokestatic 19, 3) := by decide +kernel
theorem dX1_readNumber_103 : decode cX1_readNumber 103 = .ok (.istore_n 3, 1) := by decide +kernel
theorem dX1_readNumber_104 : decode cX1_readNumber 104 = .ok (.aload_n 0, 1) := by decide +kernel
theorem dX1_readNumber_105 : decode cX1_readNumber 105 = .ok (.dup, 1) := by decide +kernel
theorem dX1_readNumber_106 : decode cX1_readNumber 106 = .ok (.getfield 29, 3) := by decide +kernel
theorem dX1_readNumber_109 : decode cX1_readNumber 109 = .ok (.iconst 1, 1) := by decide +kernel
theorem dX1_readNumber_110 : decode cX1_readNumber 110 = .ok (.iadd, 1) := by decide +kernel
theorem dX1_readNumber_111 : decode cX1_readNumber 111 = .ok (.putfield 29, 3) := by decide +kernel
theorem dX1_readNumber_114 : decode cX1_readNumber 114 = .ok (.goto (-72), 3) := by decide +kernel
theorem dX1_readNumber_117 : decode cX1_readNumber 117 = .ok (.iload_n 3, 1) := by decide +kernel
theorem dX1_readNumber_118 : decode cX1_readNumber 118 = .ok (.iload_n 1, 1) := by decide +kernel
theorem dX1_readNumber_119 : decode cX1_readNumber 119 = .ok (.if_icmp .lt 8, 3) := by decide +kernel
theorem dX1_readNumber_122 : decode cX1_readNumber 122 = .ok (.iload_n 3, 1) := by decide +kernel
theorem dX1_readNumber_123 : decode cX1_readNumber 123 = .ok (.iload_n 2, 1) := by decide +kernel
theorem dX1_readNumber_124 : decode cX1_readNumber 124 = .ok (.if_icmp .le 12, 3) := by decide +kernel
theorem dX1_readNumber_127 : decode cX1_readNumber 127 = .ok (.aload_n 0, 1) := by decide +kernel
theorem dX1_readNumber_128 : decode cX1_readNumber 128 = .ok (.iconst 2, 1) := by decide +kernel
theorem dX1_readNumber_129 : decode cX1_readNumber 129 = .ok (.aload_n 0, 1) := by decide +kernel
theorem dX1_readNumber_130 : decode cX1_readNumber 130 = .ok (.getfield 72, 3) := by decide +kernel
theorem dX1_readNumber_133 : decode cX1_readNumber 133 = .ok (.invokevirtual 56, 3) := by decide +kernel
theorem dX1_readNumber_136 : decode cX1_readNumber 136 = .ok (.iload_n 3, 1) := by decide +kernel
theorem dX1_readNumber_137 : decode cX1_readNumber 137 = .ok (.ireturn, 1) := by decide +kernel
theorem dX1_readMachine_0 : decode cX1_readMachine 0 = .ok (.aload_n 0, 1) := by decide +kernel
theorem dX1_readMachine_1 : decode cX1_readMachine 1 = .ok (.invokevirtual 79, 3) := by decide +kernel
theorem dX1_readMachine_4 : decode cX1_readMachine 4 = .ok (.aload_n 0, 1) := by decide +kernel
theorem dX1_readMachine_5 : decode cX1_readMachine 5 = .ok (.ldc 82, 2) := by decide +kernel
theorem dX1_readMachine_7 : decode cX1_readMachine 7 = .ok (.invokevirtual 83, 3) := by decide +kernel
theorem dX1_readMachine_10 : decode cX1_readMachine 10 = .ok (.ifCond .ne 13, 3) := by decide +kernel
theorem dX1_readMachine_13 : decode cX1_readMachine 13 = .ok (.aload_n 0, 1) := by decide +kernel
theorem dX1_readMachine_14 : decode cX1_readMachine 14 = .ok (.iconst 1, 1) := by decide +kernel
theorem dX1_readMachine_15 : decode cX1_readMachine 15 = .ok (.aload_n 0, 1) := by decide +kernel
theorem dX1_readMachine_16 : decode cX1_readMachine 16 = .ok (.getfield 60, 3) := by decide +kernel
theorem dX1_readMachine_19 : decode cX1_readMachine 19 = .ok (.invokevirtual 56, 3) := by decide +kernel
theorem dX1_readMachine_22 : decode cX1_readMachine 22 = .ok (.return_, 1) := by decide +kernel
theorem dX1_readMachine_23 : decode cX1_readMachine 23 = .ok (.aload_n 0, 1) := by decide +kernel
theorem dX1_readMachine_24 : decode cX1_readMachine 24 = .ok (.iconst 1, 1) := by decide +kernel
theorem dX1_readMachine_25 : decode cX1_readMachine 25 = .ok (.iconst 4, 1) := by decide +kernel
theorem dX1_readMachine_26 : decode cX1_readMachine 26 = .ok (.invokevirtual 87, 3) := by decide +kernel
theorem dX1_readMachine_29 : decode cX1_readMachine 29 = .ok (.istore_n 1, 1) := by decide +kernel
theorem dX1_readMachine_30 : decode cX1_readMachine 30 = .ok (.aload_n 0, 1) := by decide +kernel
theorem dX1_readMachine_31 : decode cX1_readMachine 31 = .ok (.getfield 32, 3) := by decide +kernel
theorem dX1_readMachine_34 : decode cX1_readMachine 34 = .ok (.ifCond .ne 17, 3) := by decide +kernel
theorem dX1_readMachine_37 : decode cX1_readMachine 37 = .ok (.aload_n 0, 1) := by decide +kernel
theorem dX1_readMachine_38 : decode cX1_readMachine 38 = .ok (.getfield 15, 3) := by decide +kernel
theorem dX1_readMachine_41 : decode cX1_readMachine 41 = .ok (.iload_n 1, 1) := by decide +kernel
theorem dX1_readMachine_42 : decode cX1_readMachine 42 = .ok (.putfield 90, 3) := by decide +kernel
theorem dX1_readMachine_45 : decode cX1_readMachine 45 = .ok (.aload_n 0, 1) := by decide +kernel
theorem dX1_readMachine_46 : decode cX1_readMachine 46 = .ok (.iconst 0, 1) := by decide +kernel
theorem dX1_readMachine_47 : decode cX1_readMachine 47 = .ok (.iconst 0, 1) := by decide +kernel
theorem dX1_readMachine_48 : decode cX1_readMachine 48 = .ok (.invokevirtual 93, 3) := by decide +kernel
theorem dX1_readMachine_51 : decode cX1_readMachine 51 = .ok (.return_, 1) := by decide +kernel
theorem dX1_readStatement_0 : decode cX1_readStatement 0 = .ok (.aload_n 0, 1) := by decide +kernel
theorem dX1_readStatement_1 : decode cX1_readStatement 1 = .ok (.getfield 32, 3) := by decide +kernel
theorem dX1_readStatement_4 : decode cX1_readStatement 4 = .ok (.ifCond .eq 4, 3) := by decide +kernel
theorem dX1_readStatement_7 : decode cX1_readStatement 7 = .ok (.return_, 1) := by decide +kernel
theorem dX1_readStatement_8 : decode cX1_readStatement 8 = .ok (.aload_n 0, 1) := by decide +kernel
theorem dX1_readStatement_9 : decode cX1_readStatement 9 = .ok (.invokevirtual 79, 3) := by decide +kernel
theorem dX1_readStatement_12 : decode cX1_readStatement 12 = .ok (.aload_n 0, 1) := by decide +kernel
theorem dX1_readStatement_13 : decode cX1_readStatement 13 = .ok (.ldc 96, 2) := by decide +kernel
theorem dX1_readStatement_15 : decode cX1_readStatement 15 = .ok (.invokevirtual 83, 3) := by decide +kernel
theorem dX1_readStatement_18 : decode cX1_readStatement 18 = .ok (.ifCond .eq 12, 3) := by decide +kernel
theorem dX1_readStatement_21 : decode cX1_readStatement 21 = .ok (.aload_n 0, 1) := by decide +kernel
theorem dX1_readStatement_22 : decode cX1_readStatement 22 = .ok (.iconst 1, 1) := by decide +kernel
theorem dX1_readStatement_23 : decode cX1_readStatement 23 = .ok (.iconst 4, 1) := by decide +kernel
theorem dX1_readStatement_24 : decode cX1_readStatement 24 = .ok (.invokevirtual 93, 3) := by decide +kernel
theorem dX1_readStatement_27 : decode cX1_readStatement 27 = .ok (.goto 191, 3) := by decide +kernel
theorem dX1_readStatement_30 : decode cX1_readStatement 30 = .ok (.aload_n 0, 1) := by decide +kernel
theorem dX1_readStatement_31 : decode cX1_readStatement 31 = .ok (.ldc 98, 2) := by decide +kernel
theorem dX1_readStatement_33 : decode cX1_readStatement 33 = .ok (.invokevirtual 83, 3) := by decide +kernel
theorem dX1_readStatement_36 : decode cX1_readStatement 36 = .ok (.ifCond .eq 13, 3) := by decide +kernel
theorem dX1_readStatement_39 : decode cX1_readStatement 39 = .ok (.aload_n 0, 1) := by decide +kernel
theorem dX1_readStatement_40 : decode cX1_readStatement 40 = .ok (.iconst 5, 1) := by decide +kernel
theorem dX1_readStatement_41 : decode cX1_readStatement 41 = .ok (.bipush 7, 2) := by decide +kernel
theorem dX1_readStatement_43 : decode cX1_readStatement 43 = .ok (.invokevirtual 93, 3) := by decide +kernel
theorem dX1_readStatement_46 : decode cX1_readStatement 46 = .ok (.goto 172, 3) := by decide +kernel
theorem dX1_readStatement_49 : decode cX1_readStatement 49 = .ok (.aload_n 0, 1) := by decide +kernel
theorem dX1_readStatement_50 : decode cX1_readStatement 50 = .ok (.ldc 100, 2) := by decide +kernel
theorem dX1_readStatement_52 : decode cX1_readStatement 52 = .ok (.invokevirtual 83, 3) := by decide +kernel
theorem dX1_readStatement_55 : decode cX1_readStatement 55 = .ok (.ifCond .eq 14, 3) := by decide +kernel
theorem dX1_readStatement_58 : decode cX1_readStatement 58 = .ok (.aload_n 0, 1) := by decide +kernel
theorem dX1_readStatement_59 : decode cX1_readStatement 59 = .ok (.bipush 8, 2) := by decide +kernel
theorem dX1_readStatement_61 : decode cX1_readStatement 61 = .ok (.bipush 9, 2) := by decide +kernel
theorem dX1_readStatement_63 : decode cX1_readStatement 63 = .ok (.invokevirtual 93, 3) := by decide +kernel
theorem dX1_readStatement_66 : decode cX1_readStatement 66 = .ok (.goto 152, 3) := by decide +kernel
theorem dX1_readStatement_69 : decode cX1_readStatement 69 = .ok (.aload_n 0, 1) := by decide +kernel
theorem dX1_readStatement_70 : decode cX1_readStatement 70 = .ok (.ldc 102, 2) := by decide +kernel
theorem dX1_readStatement_72 : decode cX1_readStatement 72 = .ok (.invokevirtual 83, 3) := by decide +kernel
theorem dX1_readStatement_75 : decode cX1_readStatement 75 = .ok (.ifCond .eq 14, 3) := by decide +kernel
theorem dX1_readStatement_78 : decode cX1_readStatement 78 = .ok (.aload_n 0, 1) := by decide +kernel
theorem dX1_readStatement_79 : decode cX1_readStatement 79 = .ok (.bipush 10, 2) := by decide +kernel
theorem dX1_readStatement_81 : decode cX1_readStatement 81 = .ok (.bipush 10, 2) := by decide +kernel
theorem dX1_readStatement_83 : decode cX1_readStatement 83 = .ok (.invokevirtual 93, 3) := by decide +kernel
theorem dX1_readStatement_86 : decode cX1_readStatement 86 = .ok (.goto 132, 3) := by decide +kernel
theorem dX1_readStatement_89 : decode cX1_readStatement 89 = .ok (.aload_n 0, 1) := by decide +kernel
theorem dX1_readStatement_90 : decode cX1_readStatement 90 = .ok (.ldc 104, 2) := by decide +kernel
theorem dX1_readStatement_92 : decode cX1_readStatement 92 = .ok (.invokevirtual 83, 3) := by decide +kernel
theorem dX1_readStatement_95 : decode cX1_readStatement 95 = .ok (.ifCond .eq 14, 3) := by decide +kernel
theorem dX1_readStatement_98 : decode cX1_readStatement 98 = .ok (.aload_n 0, 1) := by decide +kernel
theorem dX1_readStatement_99 : decode cX1_readStatement 99 = .ok (.bipush 11, 2) := by decide +kernel
theorem dX1_readStatement_101 : decode cX1_readStatement 101 = .ok (.bipush 11, 2) := by decide +kernel
theorem dX1_readStatement_103 : decode cX1_readStatement 103 = .ok (.invokevirtual 93, 3) := by decide +kernel
theorem dX1_readStatement_106 : decode cX1_readStatement 106 = .ok (.goto 112, 3) := by decide +kernel
theorem dX1_readStatement_109 : decode cX1_readStatement 109 = .ok (.aload_n 0, 1) := by decide +kernel
theorem dX1_readStatement_110 : decode cX1_readStatement 110 = .ok (.ldc 106, 2) := by decide +kernel
theorem dX1_readStatement_112 : decode cX1_readStatement 112 = .ok (.invokevirtual 83, 3) := by decide +kernel
theorem dX1_readStatement_115 : decode cX1_readStatement 115 = .ok (.ifCond .eq 14, 3) := by decide +kernel
theorem dX1_readStatement_118 : decode cX1_readStatement 118 = .ok (.aload_n 0, 1) := by decide +kernel
theorem dX1_readStatement_119 : decode cX1_readStatement 119 = .ok (.bipush 12, 2) := by decide +kernel
theorem dX1_readStatement_121 : decode cX1_readStatement 121 = .ok (.bipush 14, 2) := by decide +kernel
theorem dX1_readStatement_123 : decode cX1_readStatement 123 = .ok (.invokevirtual 93, 3) := by decide +kernel
theorem dX1_readStatement_126 : decode cX1_readStatement 126 = .ok (.goto 92, 3) := by decide +kernel
theorem dX1_readStatement_129 : decode cX1_readStatement 129 = .ok (.aload_n 0, 1) := by decide +kernel
theorem dX1_readStatement_130 : decode cX1_readStatement 130 = .ok (.ldc 108, 2) := by decide +kernel
theorem dX1_readStatement_132 : decode cX1_readStatement 132 = .ok (.invokevirtual 83, 3) := by decide +kernel
theorem dX1_readStatement_135 : decode cX1_readStatement 135 = .ok (.ifCond .eq 10, 3) := by decide +kernel
theorem dX1_readStatement_138 : decode cX1_readStatement 138 = .ok (.aload_n 0, 1) := by decide +kernel
theorem dX1_readStatement_139 : decode cX1_readStatement 139 = .ok (.invokevirtual 110, 3) := by decide +kernel
theorem dX1_readStatement_142 : decode cX1_readStatement 142 = .ok (.goto 76, 3) := by decide +kernel
theorem dX1_readStatement_145 : decode cX1_readStatement 145 = .ok (.aload_n 0, 1) := by decide +kernel
theorem dX1_readStatement_146 : decode cX1_readStatement 146 = .ok (.ldc 113, 2) := by decide +kernel
theorem dX1_readStatement_148 : decode cX1_readStatement 148 = .ok (.invokevirtual 83, 3) := by decide +kernel
theorem dX1_readStatement_151 : decode cX1_readStatement 151 = .ok (.ifCond .eq 10, 3) := by decide +kernel
theorem dX1_readStatement_154 : decode cX1_readStatement 154 = .ok (.aload_n 0, 1) := by decide +kernel
theorem dX1_readStatement_155 : decode cX1_readStatement 155 = .ok (.invokevirtual 115, 3) := by decide +kernel
theorem dX1_readStatement_158 : decode cX1_readStatement 158 = .ok (.goto 60, 3) := by decide +kernel
theorem dX1_readStatement_161 : decode cX1_readStatement 161 = .ok (.aload_n 0, 1) := by decide +kernel
theorem dX1_readStatement_162 : decode cX1_readStatement 162 = .ok (.ldc 118, 2) := by decide +kernel
theorem dX1_readStatement_164 : decode cX1_readStatement 164 = .ok (.invokevirtual 83, 3) := by decide +kernel
theorem dX1_readStatement_167 : decode cX1_readStatement 167 = .ok (.ifCond .eq 10, 3) := by decide +kernel
theorem dX1_readStatement_170 : decode cX1_readStatement 170 = .ok (.aload_n 0, 1) := by decide +kernel
theorem dX1_readStatement_171 : decode cX1_readStatement 171 = .ok (.invokevirtual 120, 3) := by decide +kernel
theorem dX1_readStatement_174 : decode cX1_readStatement 174 = .ok (.goto 44, 3) := by decide +kernel
theorem dX1_readStatement_177 : decode cX1_readStatement 177 = .ok (.aload_n 0, 1) := by decide +kernel
theorem dX1_readStatement_178 : decode cX1_readStatement 178 = .ok (.ldc 123, 2) := by decide +kernel
theorem dX1_readStatement_180 : decode cX1_readStatement 180 = .ok (.invokevirtual 83, 3) := by decide +kernel
theorem dX1_readStatement_183 : decode cX1_readStatement 183 = .ok (.ifCond .eq 10, 3) := by decide +kernel
theorem dX1_readStatement_186 : decode cX1_readStatement 186 = .ok (.aload_n 0, 1) := by decide +kernel
theorem dX1_readStatement_187 : decode cX1_readStatement 187 = .ok (.invokevirtual 125, 3) := by decide +kernel
theorem dX1_readStatement_190 : decode cX1_readStatement 190 = .ok (.goto 28, 3) := by decide +kernel
theorem dX1_readStatement_193 : decode cX1_readStatement 193 = .ok (.aload_n 0, 1) := by decide +kernel
theorem dX1_readStatement_194 : decode cX1_readStatement 194 = .ok (.ldc 128, 2) := by decide +kernel
theorem dX1_readStatement_196 : decode cX1_readStatement 196 = .ok (.invokevirtual 83, 3) := by decide +kernel
theorem dX1_readStatement_199 : decode cX1_readStatement 199 = .ok (.ifCond .eq 10, 3) := by decide +kernel
theorem dX1_readStatement_202 : decode cX1_readStatement 202 = .ok (.aload_n 0, 1) := by decide +kernel
theorem dX1_readStatement_203 : decode cX1_readStatement 203 = .ok (.invokevirtual 130, 3) := by decide +kernel
theorem dX1_readStatement_206 : decode cX1_readStatement 206 = .ok (.goto 12, 3) := by decide +kernel
theorem dX1_readStatement_209 : decode cX1_readStatement 209 = .ok (.aload_n 0, 1) := by decide +kernel
theorem dX1_readStatement_210 : decode cX1_readStatement 210 = .ok (.iconst 1, 1) := by decide +kernel
theorem dX1_readStatement_211 : decode cX1_readStatement 211 = .ok (.aload_n 0, 1) := by decide +kernel
theorem dX1_readStatement_212 : decode cX1_readStatement 212 = .ok (.getfield 60, 3) := by decide +kernel
theorem dX1_readStatement_215 : decode cX1_readStatement 215 = .ok (.invokevirtual 56, 3) := by decide +kernel
theorem dX1_readStatement_218 : decode cX1_readStatement 218 = .ok (.return_, 1) := by decide +kernel
theorem dX1_readSettings_0 : decode cX1_readSettings 0 = .ok (.iload_n 1, 1) := by decide +kernel
theorem dX1_readSettings_1 : decode cX1_readSettings 1 = .ok (.istore_n 3, 1) := by decide +kernel
theorem dX1_readSettings_2 : decode cX1_readSettings 2 = .ok (.iload_n 3, 1) := by decide +kernel
theorem dX1_readSettings_3 : decode cX1_readSettings 3 = .ok (.iload_n 2, 1) := by decide +kernel
theorem dX1_readSettings_4 : decode cX1_readSettings 4 = .ok (.if_icmp .gt 64, 3) := by decide +kernel
theorem dX1_readSettings_7 : decode cX1_readSettings 7 = .ok (.aload_n 0, 1) := by decide +kernel
theorem dX1_readSettings_8 : decode cX1_readSettings 8 = .ok (.getfield 32, 3) := by decide +kernel
theorem dX1_readSettings_11 : decode cX1_readSettings 11 = .ok (.ifCond .ne 57, 3) := by decide +kernel
theorem dX1_readSettings_14 : decode cX1_readSettings 14 = .ok (.iload_n 3, 1) := by decide +kernel
theorem dX1_readSettings_15 : decode cX1_readSettings 15 = .ok (.bipush 6, 2) := by decide +kernel
theorem dX1_readSettings_17 : decode cX1_readSettings 17 = .ok (.if_icmp .ne 18, 3) := by decide +kernel
theorem dX1_readSettings_20 : decode cX1_readSettings 20 = .ok (.bipush 100, 2) := by decide +kernel
theorem dX1_readSettings_22 : decode cX1_readSettings 22 = .ok (.aload_n 0, 1) := by decide +kernel
theorem dX1_readSettings_23 : decode cX1_readSettings 23 = .ok (.getfield 15, 3) := by decide +kernel
theorem dX1_readSettings_26 : decode cX1_readSettings 26 = .ok (.getfield 133, 3) := by decide +kernel
theorem dX1_readSettings_29 : decode cX1_readSettings 29 = .ok (.iconst 5, 1) := by decide +kernel
theorem dX1_readSettings_30 : decode cX1_readSettings 30 = .ok (.iaload, 1) := by decide +kernel
theorem dX1_readSettings_31 : decode cX1_readSettings 31 = .ok (.isub, 1) := by decide +kernel
theorem dX1_readSettings_32 : decode cX1_readSettings 32 = .ok (.goto 8, 3) := by decide +kernel
theorem dX1_readSettings_35 : decode cX1_readSettings 35 = .ok (.getstatic 137, 3) := by decide +kernel
theorem dX1_readSettings_38 : decode cX1_readSettings 38 = .ok (.iload_n 3, 1) := by decide +kernel
theorem dX1_readSettings_39 : decode cX1_readSettings 39 = .ok (.iaload, 1) := by decide +kernel
theorem dX1_readSettings_40 : decode cX1_readSettings 40 = .ok (.istore 4, 2) := by decide +kernel
theorem dX1_readSettings_42 : decode cX1_readSettings 42 = .ok (.aload_n 0, 1) := by decide +kernel
theorem dX1_readSettings_43 : decode cX1_readSettings 43 = .ok (.getfield 15, 3) := by decide +kernel
theorem dX1_readSettings_46 : decode cX1_readSettings 46 = .ok (.getfield 133, 3) := by decide +kernel
theorem dX1_readSettings_49 : decode cX1_readSettings 49 = .ok (.iload_n 3, 1) := by decide +kernel
theorem dX1_readSettings_50 : decode cX1_readSettings 50 = .ok (.aload_n 0, 1) := by decide +kernel
theorem dX1_readSettings_51 : decode cX1_readSettings 51 = .ok (.getstatic 140, 3) := by decide +kernel
theorem dX1_readSettings_54 : decode cX1_readSettings 54 = .ok (.iload_n 3, 1) := by decide +kernel
theorem dX1_readSettings_55 : decode cX1_readSettings 55 = .ok (.iaload, 1) := by decide +kernel
theorem dX1_readSettings_56 : decode cX1_readSettings 56 = .ok (.iload 4, 2) := by decide +kernel
theorem dX1_readSettings_58 : decode cX1_readSettings 58 = .ok (.invokevirtual 87, 3) := by decide +kernel
theorem dX1_readSettings_61 : decode cX1_readSettings 61 = .ok (.iastore, 1) := by decide +kernel
theorem dX1_readSettings_62 : decode cX1_readSettings 62 = .ok (.iinc 3 1, 3) := by decide +kernel
theorem dX1_readSettings_65 : decode cX1_readSettings 65 = .ok (.goto (-63), 3) := by decide +kernel
theorem dX1_readSettings_68 : decode cX1_readSettings 68 = .ok (.return_, 1) := by decide +kernel
theorem dX1_readNozzles_0 : decode cX1_readNozzles 0 = .ok (.iconst 0, 1) := by decide +kernel
theorem dX1_readNozzles_1 : decode cX1_readNozzles 1 = .ok (.istore_n 1, 1) := by decide +kernel
theorem dX1_readNozzles_2 : decode cX1_readNozzles 2 = .ok (.iload_n 1, 1) := by decide +kernel
theorem dX1_readNozzles_3 : decode cX1_readNozzles 3 = .ok (.bipush 6, 2) := by decide +kernel
theorem dX1_readNozzles_5 : decode cX1_readNozzles 5 = .ok (.if_icmp .gt 78, 3) := by decide +kernel
theorem dX1_readNozzles_8 : decode cX1_readNozzles 8 = .ok (.aload_n 0, 1) := by decide +kernel
theorem dX1_readNozzles_9 : decode cX1_readNozzles 9 = .ok (.getfield 32, 3) := by decide +kernel
theorem dX1_readNozzles_12 : decode cX1_readNozzles 12 = .ok (.ifCond .ne 71, 3) := by decide +kernel
theorem dX1_readNozzles_15 : decode cX1_readNozzles 15 = .ok (.iload_n 1, 1) := by decide +kernel
theorem dX1_readNozzles_16 : decode cX1_readNozzles 16 = .ok (.ifCond .eq 10, 3) := by decide +kernel
theorem dX1_readNozzles_19 : decode cX1_readNozzles 19 = .ok (.aload_n 0, 1) := by decide +kernel
theorem dX1_readNozzles_20 : decode cX1_readNozzles 20 = .ok (.invokevirtual 75, 3) := by decide +kernel
theorem dX1_readNozzles_23 : decode cX1_readNozzles 23 = .ok (.ifCond .eq 60, 3) := by decide +kernel
theorem dX1_readNozzles_26 : decode cX1_readNozzles 26 = .ok (.aload_n 0, 1) := by decide +kernel
theorem dX1_readNozzles_27 : decode cX1_readNozzles 27 = .ok (.invokevirtual 75, 3) := by decide +kernel
theorem dX1_readNozzles_30 : decode cX1_readNozzles 30 = .ok (.ifCond .eq 25, 3) := by decide +kernel
theorem dX1_readNozzles_33 : decode cX1_readNozzles 33 = .ok (.aload_n 0, 1) := by decide +kernel
theorem dX1_readNozzles_34 : decode cX1_readNozzles 34 = .ok (.getfield 15, 3) := by decide +kernel
theorem dX1_readNozzles_37 : decode cX1_readNozzles 37 = .ok (.getfield 143, 3) := by decide +kernel
theorem dX1_readNozzles_40 : decode cX1_readNozzles 40 = .ok (.bipush 6, 2) := by decide +kernel
theorem dX1_readNozzles_42 : decode cX1_readNozzles 42 = .ok (.if_icmp .ne 13, 3) := by decide +kernel
theorem dX1_readNozzles_45 : decode cX1_readNozzles 45 = .ok (.aload_n 0, 1) := by decide +kernel
theorem dX1_readNozzles_46 : decode cX1_readNozzles 46 = .ok (.iconst 3, 1) := by decide +kernel
theorem dX1_readNozzles_47 : decode cX1_readNozzles 47 = .ok (.aload_n 0, 1) := by decide +kernel
theorem dX1_readNozzles_48 : decode cX1_readNozzles 48 = .ok (.getfield 29, 3) := by decide +kernel
theorem dX1_readNozzles_51 : decode cX1_readNozzles 51 = .ok (.invokevirtual 56, 3) := by decide +kernel
theorem dX1_readNozzles_54 : decode cX1_readNozzles 54 = .ok (.return_, 1) := by decide +kernel
theorem dX1_readNozzles_55 : decode cX1_readNozzles 55 = .ok (.aload_n 0, 1) := by decide +kernel
theorem dX1_readNozzles_56 : decode cX1_readNozzles 56 = .ok (.iconst 1, 1) := by decide +kernel
theorem dX1_readNozzles_57 : decode cX1_readNozzles 57 = .ok (.iconst 4, 1) := by decide +kernel
theorem dX1_readNozzles_58 : decode cX1_readNozzles 58 = .ok (.invokevirtual 87, 3) := by decide +kernel
theorem dX1_readNozzles_61 : decode cX1_readNozzles 61 = .ok (.istore_n 2, 1) := by decide +kernel
theorem dX1_readNozzles_62 : decode cX1_readNozzles 62 = .ok (.aload_n 0, 1) := by decide +kernel
theorem dX1_readNozzles_63 : decode cX1_readNozzles 63 = .ok (.getfield 32, 3) := by decide +kernel
theorem dX1_readNozzles_66 : decode cX1_readNozzles 66 = .ok (.ifCond .ne 11, 3) := by decide +kernel
theorem dX1_readNozzles_69 : decode cX1_readNozzles 69 = .ok (.aload_n 0, 1) := by decide +kernel
theorem dX1_readNozzles_70 : decode cX1_readNozzles 70 = .ok (.getfield 15, 3) := by decide +kernel
theorem dX1_readNozzles_73 : decode cX1_readNozzles 73 = .ok (.iload_n 2, 1) := by decide +kernel
theorem dX1_readNozzles_74 : decode cX1_readNozzles 74 = .ok (.invokevirtual 146, 3) := by decide +kernel
theorem dX1_readNozzles_77 : decode cX1_readNozzles 77 = .ok (.iinc 1 1, 3) := by decide +kernel
theorem dX1_readNozzles_80 : decode cX1_readNozzles 80 = .ok (.goto (-78), 3) := by decide +kernel
theorem dX1_readNozzles_83 : decode cX1_readNozzles 83 = .ok (.return_, 1) := by decide +kernel
theorem dX1_readKind_0 : decode cX1_readKind 0 = .ok (.aload_n 0, 1) := by decide +kernel
theorem dX1_readKind_1 : decode cX1_readKind 1 = .ok (.getfield 15, 3) := by decide +kernel
theorem dX1_readKind_4 : decode cX1_readKind 4 = .ok (.getfield 150, 3) := by decide +kernel
theorem dX1_readKind_7 : decode cX1_readKind 7 = .ok (.getfield 154, 3) := by decide +kernel
theorem dX1_readKind_10 : decode cX1_readKind 10 = .ok (.bipush 8, 2) := by decide +kernel
theorem dX1_readKind_12 : decode cX1_readKind 12 = .ok (.if_icmp .ne 13, 3) := by decide +kernel
theorem dX1_readKind_15 : decode cX1_readKind 15 = .ok (.aload_n 0, 1) := by decide +kernel
theorem dX1_readKind_16 : decode cX1_readKind 16 = .ok (.iconst 3, 1) := by decide +kernel
theorem dX1_readKind_17 : decode cX1_readKind 17 = .ok (.aload_n 0, 1) := by decide +kernel
theorem dX1_readKind_18 : decode cX1_readKind 18 = .ok (.getfield 60, 3) := by decide +kernel
theorem dX1_readKind_21 : decode cX1_readKind 21 = .ok (.invokevirtual 56, 3) := by decide +kernel
theorem dX1_readKind_24 : decode cX1_readKind 24 = .ok (.return_, 1) := by decide +kernel
theorem dX1_readKind_25 : decode cX1_readKind 25 = .ok (.aload_n 0, 1) := by decide +kernel
theorem dX1_readKind_26 : decode cX1_readKind 26 = .ok (.iconst 0, 1) := by decide +kernel
theorem dX1_readKind_27 : decode cX1_readKind 27 = .ok (.aload_n 0, 1) := by decide +kernel
theorem dX1_readKind_28 : decode cX1_readKind 28 = .ok (.getfield 15, 3) := by decide +kernel
theorem dX1_readKind_31 : decode cX1_readKind 31 = .ok (.getfield 143, 3) := by decide +kernel
theorem dX1_readKind_34 : decode cX1_readKind 34 = .ok (.iconst 1, 1) := by decide +kernel
theorem dX1_readKind_35 : decode cX1_readKind 35 = .ok (.isub, 1) := by decide +kernel
theorem dX1_readKind_36 : decode cX1_readKind 36 = .ok (.invokevirtual 87, 3) := by decide +kernel
theorem dX1_readKind_39 : decode cX1_readKind 39 = .ok (.istore_n 1, 1) := by decide +kernel
theorem dX1_readKind_40 : decode cX1_readKind 40 = .ok (.aload_n 0, 1) := by decide +kernel
theorem dX1_readKind_41 : decode cX1_readKind 41 = .ok (.getfield 32, 3) := by decide +kernel
theorem dX1_readKind_44 : decode cX1_readKind 44 = .ok (.ifCond .ne 14, 3) := by decide +kernel
theorem dX1_readKind_47 : decode cX1_readKind 47 = .ok (.aload_n 0, 1) := by decide +kernel
theorem dX1_readKind_48 : decode cX1_readKind 48 = .ok (.getfield 15, 3) := by decide +kernel
theorem dX1_readKind_51 : decode cX1_readKind 51 = .ok (.getfield 150, 3) := by decide +kernel
theorem dX1_readKind_54 : decode cX1_readKind 54 = .ok (.iload_n 1, 1) := by decide +kernel
theorem dX1_readKind_55 : decode cX1_readKind 55 = .ok (.invokevirtual 159, 3) := by decide +kernel
theorem dX1_readKind_58 : decode cX1_readKind 58 = .ok (.return_, 1) := by decide +kernel
theorem dX1_readFeeder_0 : decode cX1_readFeeder 0 = .ok (.aload_n 0, 1) := by decide +kernel
theorem dX1_readFeeder_1 : decode cX1_readFeeder 1 = .ok (.getfield 15, 3) := by decide +kernel
theorem dX1_readFeeder_4 : decode cX1_readFeeder 4 = .ok (.getfield 162, 3) := by decide +kernel
theorem dX1_readFeeder_7 : decode cX1_readFeeder 7 = .ok (.bipush 10, 2) := by decide +kernel
theorem dX1_readFeeder_9 : decode cX1_readFeeder 9 = .ok (.if_icmp .ne 13, 3) := by decide +kernel
theorem dX1_readFeeder_12 : decode cX1_readFeeder 12 = .ok (.aload_n 0, 1) := by decide +kernel
theorem dX1_readFeeder_13 : decode cX1_readFeeder 13 = .ok (.iconst 3, 1) := by decide +kernel
theorem dX1_readFeeder_14 : decode cX1_readFeeder 14 = .ok (.aload_n 0, 1) := by decide +kernel
theorem dX1_readFeeder_15 : decode cX1_readFeeder 15 = .ok (.getfield 60, 3) := by decide +kernel
theorem dX1_readFeeder_18 : decode cX1_readFeeder 18 = .ok (.invokevirtual 56, 3) := by decide +kernel
theorem dX1_readFeeder_21 : decode cX1_readFeeder 21 = .ok (.return_, 1) := by decide +kernel
theorem dX1_readFeeder_22 : decode cX1_readFeeder 22 = .ok (.aload_n 0, 1) := by decide +kernel
theorem dX1_readFeeder_23 : decode cX1_readFeeder 23 = .ok (.iconst 0, 1) := by decide +kernel
theorem dX1_readFeeder_24 : decode cX1_readFeeder 24 = .ok (.aload_n 0, 1) := by decide +kernel
theorem dX1_readFeeder_25 : decode cX1_readFeeder 25 = .ok (.getfield 15, 3) := by decide +kernel
theorem dX1_readFeeder_28 : decode cX1_readFeeder 28 = .ok (.getfield 150, 3) := by decide +kernel
theorem dX1_readFeeder_31 : decode cX1_readFeeder 31 = .ok (.getfield 154, 3) := by decide +kernel
theorem dX1_readFeeder_34 : decode cX1_readFeeder 34 = .ok (.iconst 1, 1) := by decide +kernel
theorem dX1_readFeeder_35 : decode cX1_readFeeder 35 = .ok (.isub, 1) := by decide +kernel
theorem dX1_readFeeder_36 : decode cX1_readFeeder 36 = .ok (.invokevirtual 87, 3) := by decide +kernel
theorem dX1_readFeeder_39 : decode cX1_readFeeder 39 = .ok (.istore_n 1, 1) := by decide +kernel
theorem dX1_readFeeder_40 : decode cX1_readFeeder 40 = .ok (.aload_n 0, 1) := by decide +kernel
theorem dX1_readFeeder_41 : decode cX1_readFeeder 41 = .ok (.getfield 32, 3) := by decide +kernel
theorem dX1_readFeeder_44 : decode cX1_readFeeder 44 = .ok (.ifCond .ne 14, 3) := by decide +kernel
theorem dX1_readFeeder_47 : decode cX1_readFeeder 47 = .ok (.aload_n 0, 1) := by decide +kernel
theorem dX1_readFeeder_48 : decode cX1_readFeeder 48 = .ok (.iconst 0, 1) := by decide +kernel
theorem dX1_readFeeder_49 : decode cX1_readFeeder 49 = .ok (.sipush 999, 3) := by decide +kernel
theorem dX1_readFeeder_52 : decode cX1_readFeeder 52 = .ok (.invokevirtual 87, 3) := by decide +kernel
theorem dX1_readFeeder_55 : decode cX1_readFeeder 55 = .ok (.goto 4, 3) := by decide +kernel
theorem dX1_readFeeder_58 : decode cX1_readFeeder 58 = .ok (.iconst 0, 1) := by decide +kernel
theorem dX1_readFeeder_59 : decode cX1_readFeeder 59 = .ok (.istore_n 2, 1) := by decide +kernel
theorem dX1_readFeeder_60 : decode cX1_readFeeder 60 = .ok (.aload_n 0, 1) := by decide +kernel
theorem dX1_readFeeder_61 : decode cX1_readFeeder 61 = .ok (.getfield 32, 3) := by decide +kernel
theorem dX1_readFeeder_64 : decode cX1_readFeeder 64 = .ok (.ifCond .ne 14, 3) := by decide +kernel
theorem dX1_readFeeder_67 : decode cX1_readFeeder 67 = .ok (.aload_n 0, 1) := by decide +kernel
theorem dX1_readFeeder_68 : decode cX1_readFeeder 68 = .ok (.iconst 0, 1) := by decide +kernel
theorem dX1_readFeeder_69 : decode cX1_readFeeder 69 = .ok (.sipush 500, 3) := by decide +kernel
theorem dX1_readFeeder_72 : decode cX1_readFeeder 72 = .ok (.invokevirtual 87, 3) := by decide +kernel
theorem dX1_readFeeder_75 : decode cX1_readFeeder 75 = .ok (.goto 4, 3) := by decide +kernel
theorem dX1_readFeeder_78 : decode cX1_readFeeder 78 = .ok (.iconst 0, 1) := by decide +kernel
theorem dX1_readFeeder_79 : decode cX1_readFeeder 79 = .ok (.istore_n 3, 1) := by decide +kernel
theorem dX1_readFeeder_80 : decode cX1_readFeeder 80 = .ok (.aload_n 0, 1) := by decide +kernel
theorem dX1_readFeeder_81 : decode cX1_readFeeder 81 = .ok (.getfield 32, 3) := by decide +kernel
theorem dX1_readFeeder_84 : decode cX1_readFeeder 84 = .ok (.ifCond .ne 13, 3) := by decide +kernel
theorem dX1_readFeeder_87 : decode cX1_readFeeder 87 = .ok (.aload_n 0, 1) := by decide +kernel
theorem dX1_readFeeder_88 : decode cX1_readFeeder 88 = .ok (.iconst 0, 1) := by decide +kernel
theorem dX1_readFeeder_89 : decode cX1_readFeeder 89 = .ok (.bipush 100, 2) := by decide +kernel
theorem dX1_readFeeder_91 : decode cX1_readFeeder 91 = .ok (.invokevirtual 87, 3) := by decide +kernel
theorem dX1_readFeeder_94 : decode cX1_readFeeder 94 = .ok (.goto 4, 3) := by decide +kernel
theorem dX1_readFeeder_97 : decode cX1_readFeeder 97 = .ok (.iconst 0, 1) := by decide +kernel
theorem dX1_readFeeder_98 : decode cX1_readFeeder 98 = .ok (.istore 4, 2) := by decide +kernel
theorem dX1_readFeeder_100 : decode cX1_readFeeder 100 = .ok (.aload_n 0, 1) := by decide +kernel
theorem dX1_readFeeder_101 : decode cX1_readFeeder 101 = .ok (.getfield 32, 3) := by decide +kernel
theorem dX1_readFeeder_104 : decode cX1_readFeeder 104 = .ok (.ifCond .ne 15, 3) := by decide +kernel
theorem dX1_readFeeder_107 : decode cX1_readFeeder 107 = .ok (.aload_n 0, 1) := by decide +kernel
theorem dX1_readFeeder_108 : decode cX1_readFeeder 108 = .ok (.getfield 15, 3) := by decide +kernel
theorem dX1_readFeeder_111 : decode cX1_readFeeder 111 = .ok (.iload_n 1, 1) := by decide +kernel
theorem dX1_readFeeder_112 : decode cX1_readFeeder 112 = .ok (.iload_n 2, 1) := by decide +kernel
theorem dX1_readFeeder_113 : decode cX1_readFeeder 113 = .ok (.iload_n 3, 1) := by decide +kernel
theorem dX1_readFeeder_114 : decode cX1_readFeeder 114 = .ok (.iload 4, 2) := by decide +kernel
theorem dX1_readFeeder_116 : decode cX1_readFeeder 116 = .ok (.invokevirtual 165, 3) := by decide +kernel
theorem dX1_readFeeder_119 : decode cX1_readFeeder 119 = .ok (.return_, 1) := by decide +kernel
theorem dX1_readSpot_0 : decode cX1_readSpot 0 = .ok (.aload_n 0, 1) := by decide +kernel
theorem dX1_readSpot_1 : decode cX1_readSpot 1 = .ok (.getfield 15, 3) := by decide +kernel
theorem dX1_readSpot_4 : decode cX1_readSpot 4 = .ok (.getfield 169, 3) := by decide +kernel
theorem dX1_readSpot_7 : decode cX1_readSpot 7 = .ok (.getfield 173, 3) := by decide +kernel
theorem dX1_readSpot_10 : decode cX1_readSpot 10 = .ok (.bipush 40, 2) := by decide +kernel
theorem dX1_readSpot_12 : decode cX1_readSpot 12 = .ok (.if_icmp .ne 13, 3) := by decide +kernel
theorem dX1_readSpot_15 : decode cX1_readSpot 15 = .ok (.aload_n 0, 1) := by decide +kernel
theorem dX1_readSpot_16 : decode cX1_readSpot 16 = .ok (.iconst 3, 1) := by decide +kernel
theorem dX1_readSpot_17 : decode cX1_readSpot 17 = .ok (.aload_n 0, 1) := by decide +kernel
theorem dX1_readSpot_18 : decode cX1_readSpot 18 = .ok (.getfield 60, 3) := by decide +kernel
theorem dX1_readSpot_21 : decode cX1_readSpot 21 = .ok (.invokevirtual 56, 3) := by decide +kernel
theorem dX1_readSpot_24 : decode cX1_readSpot 24 = .ok (.return_, 1) := by decide +kernel
theorem dX1_readSpot_25 : decode cX1_readSpot 25 = .ok (.aload_n 0, 1) := by decide +kernel
theorem dX1_readSpot_26 : decode cX1_readSpot 26 = .ok (.iconst 0, 1) := by decide +kernel
theorem dX1_readSpot_27 : decode cX1_readSpot 27 = .ok (.aload_n 0, 1) := by decide +kernel
theorem dX1_readSpot_28 : decode cX1_readSpot 28 = .ok (.getfield 15, 3) := by decide +kernel
theorem dX1_readSpot_31 : decode cX1_readSpot 31 = .ok (.getfield 150, 3) := by decide +kernel
theorem dX1_readSpot_34 : decode cX1_readSpot 34 = .ok (.getfield 154, 3) := by decide +kernel
theorem dX1_readSpot_37 : decode cX1_readSpot 37 = .ok (.iconst 1, 1) := by decide +kernel
theorem dX1_readSpot_38 : decode cX1_readSpot 38 = .ok (.isub, 1) := by decide +kernel
theorem dX1_readSpot_39 : decode cX1_readSpot 39 = .ok (.invokevirtual 87, 3) := by decide +kernel
theorem dX1_readSpot_42 : decode cX1_readSpot 42 = .ok (.istore_n 1, 1) := by decide +kernel
theorem dX1_readSpot_43 : decode cX1_readSpot 43 = .ok (.aload_n 0, 1) := by decide +kernel
theorem dX1_readSpot_44 : decode cX1_readSpot 44 = .ok (.getfield 32, 3) := by decide +kernel
theorem dX1_readSpot_47 : decode cX1_readSpot 47 = .ok (.ifCond .ne 14, 3) := by decide +kernel
theorem dX1_readSpot_50 : decode cX1_readSpot 50 = .ok (.aload_n 0, 1) := by decide +kernel
theorem dX1_readSpot_51 : decode cX1_readSpot 51 = .ok (.iconst 0, 1) := by decide +kernel
theorem dX1_readSpot_52 : decode cX1_readSpot 52 = .ok (.sipush 999, 3) := by decide +kernel
theorem dX1_readSpot_55 : decode cX1_readSpot 55 = .ok (.invokevirtual 87, 3) := by decide +kernel
theorem dX1_readSpot_58 : decode cX1_readSpot 58 = .ok (.goto 4, 3) := by decide +kernel
theorem dX1_readSpot_61 : decode cX1_readSpot 61 = .ok (.iconst 0, 1) := by decide +kernel
theorem dX1_readSpot_62 : decode cX1_readSpot 62 = .ok (.istore_n 2, 1) := by decide +kernel
theorem dX1_readSpot_63 : decode cX1_readSpot 63 = .ok (.aload_n 0, 1) := by decide +kernel
theorem dX1_readSpot_64 : decode cX1_readSpot 64 = .ok (.getfield 32, 3) := by decide +kernel
theorem dX1_readSpot_67 : decode cX1_readSpot 67 = .ok (.ifCond .ne 14, 3) := by decide +kernel
theorem dX1_readSpot_70 : decode cX1_readSpot 70 = .ok (.aload_n 0, 1) := by decide +kernel
theorem dX1_readSpot_71 : decode cX1_readSpot 71 = .ok (.iconst 0, 1) := by decide +kernel
theorem dX1_readSpot_72 : decode cX1_readSpot 72 = .ok (.sipush 999, 3) := by decide +kernel
theorem dX1_readSpot_75 : decode cX1_readSpot 75 = .ok (.invokevirtual 87, 3) := by decide +kernel
theorem dX1_readSpot_78 : decode cX1_readSpot 78 = .ok (.goto 4, 3) := by decide +kernel
theorem dX1_readSpot_81 : decode cX1_readSpot 81 = .ok (.iconst 0, 1) := by decide +kernel
theorem dX1_readSpot_82 : decode cX1_readSpot 82 = .ok (.istore_n 3, 1) := by decide +kernel
theorem dX1_readSpot_83 : decode cX1_readSpot 83 = .ok (.aload_n 0, 1) := by decide +kernel
theorem dX1_readSpot_84 : decode cX1_readSpot 84 = .ok (.getfield 32, 3) := by decide +kernel
theorem dX1_readSpot_87 : decode cX1_readSpot 87 = .ok (.ifCond .ne 16, 3) := by decide +kernel
theorem dX1_readSpot_90 : decode cX1_readSpot 90 = .ok (.aload_n 0, 1) := by decide +kernel
theorem dX1_readSpot_91 : decode cX1_readSpot 91 = .ok (.getfield 15, 3) := by decide +kernel
theorem dX1_readSpot_94 : decode cX1_readSpot 94 = .ok (.getfield 169, 3) := by decide +kernel
theorem dX1_readSpot_97 : decode cX1_readSpot 97 = .ok (.iload_n 1, 1) := by decide +kernel
theorem dX1_readSpot_98 : decode cX1_readSpot 98 = .ok (.iload_n 2, 1) := by decide +kernel
theorem dX1_readSpot_99 : decode cX1_readSpot 99 = .ok (.iload_n 3, 1) := by decide +kernel
theorem dX1_readSpot_100 : decode cX1_readSpot 100 = .ok (.invokevirtual 176, 3) := by decide +kernel
theorem dX1_readSpot_103 : decode cX1_readSpot 103 = .ok (.return_, 1) := by decide +kernel
theorem dX1_readBefore_0 : decode cX1_readBefore 0 = .ok (.aload_n 0, 1) := by decide +kernel
theorem dX1_readBefore_1 : decode cX1_readBefore 1 = .ok (.getfield 15, 3) := by decide +kernel
theorem dX1_readBefore_4 : decode cX1_readBefore 4 = .ok (.getfield 169, 3) := by decide +kernel
theorem dX1_readBefore_7 : decode cX1_readBefore 7 = .ok (.astore_n 1, 1) := by decide +kernel
theorem dX1_readBefore_8 : decode cX1_readBefore 8 = .ok (.aload_n 1, 1) := by decide +kernel
theorem dX1_readBefore_9 : decode cX1_readBefore 9 = .ok (.getfield 180, 3) := by decide +kernel
theorem dX1_readBefore_12 : decode cX1_readBefore 12 = .ok (.bipush 20, 2) := by decide +kernel
theorem dX1_readBefore_14 : decode cX1_readBefore 14 = .ok (.if_icmp .ne 13, 3) := by decide +kernel
theorem dX1_readBefore_17 : decode cX1_readBefore 17 = .ok (.aload_n 0, 1) := by decide +kernel
theorem dX1_readBefore_18 : decode cX1_readBefore 18 = .ok (.iconst 3, 1) := by decide +kernel
theorem dX1_readBefore_19 : decode cX1_readBefore 19 = .ok (.aload_n 0, 1) := by decide +kernel
theorem dX1_readBefore_20 : decode cX1_readBefore 20 = .ok (.getfield 60, 3) := by decide +kernel
theorem dX1_readBefore_23 : decode cX1_readBefore 23 = .ok (.invokevirtual 56, 3) := by decide +kernel
theorem dX1_readBefore_26 : decode cX1_readBefore 26 = .ok (.return_, 1) := by decide +kernel
theorem dX1_readBefore_27 : decode cX1_readBefore 27 = .ok (.aload_n 0, 1) := by decide +kernel
theorem dX1_readBefore_28 : decode cX1_readBefore 28 = .ok (.iconst 0, 1) := by decide +kernel
theorem dX1_readBefore_29 : decode cX1_readBefore 29 = .ok (.aload_n 1, 1) := by decide +kernel
theorem dX1_readBefore_30 : decode cX1_readBefore 30 = .ok (.getfield 173, 3) := by decide +kernel
theorem dX1_readBefore_33 : decode cX1_readBefore 33 = .ok (.iconst 1, 1) := by decide +kernel
theorem dX1_readBefore_34 : decode cX1_readBefore 34 = .ok (.isub, 1) := by decide +kernel
theorem dX1_readBefore_35 : decode cX1_readBefore 35 = .ok (.invokevirtual 87, 3) := by decide +kernel
theorem dX1_readBefore_38 : decode cX1_readBefore 38 = .ok (.istore_n 2, 1) := by decide +kernel
theorem dX1_readBefore_39 : decode cX1_readBefore 39 = .ok (.aload_n 0, 1) := by decide +kernel
theorem dX1_readBefore_40 : decode cX1_readBefore 40 = .ok (.getfield 32, 3) := by decide +kernel
theorem dX1_readBefore_43 : decode cX1_readBefore 43 = .ok (.ifCond .ne 17, 3) := by decide +kernel
theorem dX1_readBefore_46 : decode cX1_readBefore 46 = .ok (.aload_n 0, 1) := by decide +kernel
theorem dX1_readBefore_47 : decode cX1_readBefore 47 = .ok (.iconst 0, 1) := by decide +kernel
theorem dX1_readBefore_48 : decode cX1_readBefore 48 = .ok (.aload_n 1, 1) := by decide +kernel
theorem dX1_readBefore_49 : decode cX1_readBefore 49 = .ok (.getfield 173, 3) := by decide +kernel
theorem dX1_readBefore_52 : decode cX1_readBefore 52 = .ok (.iconst 1, 1) := by decide +kernel
theorem dX1_readBefore_53 : decode cX1_readBefore 53 = .ok (.isub, 1) := by decide +kernel
theorem dX1_readBefore_54 : decode cX1_readBefore 54 = .ok (.invokevirtual 87, 3) := by decide +kernel
theorem dX1_readBefore_57 : decode cX1_readBefore 57 = .ok (.goto 4, 3) := by decide +kernel
theorem dX1_readBefore_60 : decode cX1_readBefore 60 = .ok (.iconst 0, 1) := by decide +kernel
theorem dX1_readBefore_61 : decode cX1_readBefore 61 = .ok (.istore_n 3, 1) := by decide +kernel
theorem dX1_readBefore_62 : decode cX1_readBefore 62 = .ok (.aload_n 0, 1) := by decide +kernel
theorem dX1_readBefore_63 : decode cX1_readBefore 63 = .ok (.getfield 32, 3) := by decide +kernel
theorem dX1_readBefore_66 : decode cX1_readBefore 66 = .ok (.ifCond .eq 4, 3) := by decide +kernel
theorem dX1_readBefore_69 : decode cX1_readBefore 69 = .ok (.return_, 1) := by decide +kernel
theorem dX1_readBefore_70 : decode cX1_readBefore 70 = .ok (.aload_n 1, 1) := by decide +kernel
theorem dX1_readBefore_71 : decode cX1_readBefore 71 = .ok (.iload_n 2, 1) := by decide +kernel
theorem dX1_readBefore_72 : decode cX1_readBefore 72 = .ok (.iload_n 3, 1) := by decide +kernel
theorem dX1_readBefore_73 : decode cX1_readBefore 73 = .ok (.invokevirtual 183, 3) := by decide +kernel
theorem dX1_readBefore_76 : decode cX1_readBefore 76 = .ok (.ifCond .eq 15, 3) := by decide +kernel
theorem dX1_readBefore_79 : decode cX1_readBefore 79 = .ok (.aload_n 0, 1) := by decide +kernel
theorem dX1_readBefore_80 : decode cX1_readBefore 80 = .ok (.iconst 4, 1) := by decide +kernel
theorem dX1_readBefore_81 : decode cX1_readBefore 81 = .ok (.aload_n 0, 1) := by decide +kernel
theorem dX1_readBefore_82 : decode cX1_readBefore 82 = .ok (.getfield 72, 3) := by decide +kernel
theorem dX1_readBefore_85 : decode cX1_readBefore 85 = .ok (.invokevirtual 56, 3) := by decide +kernel
theorem dX1_readBefore_88 : decode cX1_readBefore 88 = .ok (.goto 19, 3) := by decide +kernel
theorem dX1_readBefore_91 : decode cX1_readBefore 91 = .ok (.aload_n 1, 1) := by decide +kernel
theorem dX1_readBefore_92 : decode cX1_readBefore 92 = .ok (.iload_n 2, 1) := by decide +kernel
theorem dX1_readBefore_93 : decode cX1_readBefore 93 = .ok (.iload_n 3, 1) := by decide +kernel
theorem dX1_readBefore_94 : decode cX1_readBefore 94 = .ok (.invokevirtual 187, 3) := by decide +kernel
theorem dX1_readBefore_97 : decode cX1_readBefore 97 = .ok (.iconst (-1), 1) := by decide +kernel
theorem dX1_readBefore_98 : decode cX1_readBefore 98 = .ok (.if_icmp .ne 9, 3) := by decide +kernel
theorem dX1_readBefore_101 : decode cX1_readBefore 101 = .ok (.aload_n 1, 1) := by decide +kernel
theorem dX1_readBefore_102 : decode cX1_readBefore 102 = .ok (.iload_n 2, 1) := by decide +kernel
theorem dX1_readBefore_103 : decode cX1_readBefore 103 = .ok (.iload_n 3, 1) := by decide +kernel
theorem dX1_readBefore_104 : decode cX1_readBefore 104 = .ok (.invokevirtual 190, 3) := by decide +kernel
theorem dX1_readBefore_107 : decode cX1_readBefore 107 = .ok (.return_, 1) := by decide +kernel
theorem dX2_init_0 : decode cX2_init 0 = .ok (.aload_n 0, 1) := by decide +kernel
theorem dX2_init_1 : decode cX2_init 1 = .ok (.invokespecial 3, 3) := by decide +kernel
theorem dX2_init_4 : decode cX2_init 4 = .ok (.aload_n 0, 1) := by decide +kernel
theorem dX2_init_5 : decode cX2_init 5 = .ok (.iconst 3, 1) := by decide +kernel
theorem dX2_init_6 : decode cX2_init 6 = .ok (.newarray .int, 2) := by decide +kernel
theorem dX2_init_8 : decode cX2_init 8 = .ok (.putfield 9, 3) := by decide +kernel
theorem dX2_init_11 : decode cX2_init 11 = .ok (.return_, 1) := by decide +kernel
theorem dX2_clear_0 : decode cX2_clear 0 = .ok (.aload_n 0, 1) := by decide +kernel
theorem dX2_clear_1 : decode cX2_clear 1 = .ok (.iload_n 1, 1) := by decide +kernel
theorem dX2_clear_2 : decode cX2_clear 2 = .ok (.putfield 15, 3) := by decide +kernel
theorem dX2_clear_5 : decode cX2_clear 5 = .ok (.aload_n 0, 1) := by decide +kernel
theorem dX2_clear_6 : decode cX2_clear 6 = .ok (.iload_n 2, 1) := by decide +kernel
theorem dX2_clear_7 : decode cX2_clear 7 = .ok (.putfield 19, 3) := by decide +kernel
theorem dX2_clear_10 : decode cX2_clear 10 = .ok (.aload_n 0, 1) := by decide +kernel
theorem dX2_clear_11 : decode cX2_clear 11 = .ok (.iload_n 3, 1) := by decide +kernel
theorem dX2_clear_12 : decode cX2_clear 12 = .ok (.putfield 22, 3) := by decide +kernel
theorem dX2_clear_15 : decode cX2_clear 15 = .ok (.aload_n 0, 1) := by decide +kernel
theorem dX2_clear_16 : decode cX2_clear 16 = .ok (.iload 4, 2) := by decide +kernel
theorem dX2_clear_18 : decode cX2_clear 18 = .ok (.putfield 25, 3) := by decide +kernel
theorem dX2_clear_21 : decode cX2_clear 21 = .ok (.aload_n 0, 1) := by decide +kernel
theorem dX2_clear_22 : decode cX2_clear 22 = .ok (.iconst 0, 1) := by decide +kernel
theorem dX2_clear_23 : decode cX2_clear 23 = .ok (.putfield 28, 3) := by decide +kernel
theorem dX2_clear_26 : decode cX2_clear 26 = .ok (.aload_n 0, 1) := by decide +kernel
theorem dX2_clear_27 : decode cX2_clear 27 = .ok (.iconst 0, 1) := by decide +kernel
theorem dX2_clear_28 : decode cX2_clear 28 = .ok (.putfield 31, 3) := by decide +kernel
theorem dX2_clear_31 : decode cX2_clear 31 = .ok (.aload_n 0, 1) := by decide +kernel
theorem dX2_clear_32 : decode cX2_clear 32 = .ok (.iconst 0, 1) := by decide +kernel
theorem dX2_clear_33 : decode cX2_clear 33 = .ok (.putfield 34, 3) := by decide +kernel
theorem dX2_clear_36 : decode cX2_clear 36 = .ok (.aload_n 0, 1) := by decide +kernel
theorem dX2_clear_37 : decode cX2_clear 37 = .ok (.iconst 0, 1) := by decide +kernel
theorem dX2_clear_38 : decode cX2_clear 38 = .ok (.putfield 37, 3) := by decide +kernel
theorem dX2_clear_41 : decode cX2_clear 41 = .ok (.return_, 1) := by decide +kernel
theorem dX2_copyFrom_0 : decode cX2_copyFrom 0 = .ok (.aload_n 0, 1) := by decide +kernel
theorem dX2_copyFrom_1 : decode cX2_copyFrom 1 = .ok (.aload_n 1, 1) := by decide +kernel
theorem dX2_copyFrom_2 : decode cX2_copyFrom 2 = .ok (.getfield 15, 3) := by decide +kernel
theorem dX2_copyFrom_5 : decode cX2_copyFrom 5 = .ok (.putfield 15, 3) := by decide +kernel
theorem dX2_copyFrom_8 : decode cX2_copyFrom 8 = .ok (.aload_n 0, 1) := by decide +kernel
theorem dX2_copyFrom_9 : decode cX2_copyFrom 9 = .ok (.aload_n 1, 1) := by decide +kernel
theorem dX2_copyFrom_10 : decode cX2_copyFrom 10 = .ok (.getfield 19, 3) := by decide +kernel
theorem dX2_copyFrom_13 : decode cX2_copyFrom 13 = .ok (.putfield 19, 3) := by decide +kernel
theorem dX2_copyFrom_16 : decode cX2_copyFrom 16 = .ok (.aload_n 0, 1) := by decide +kernel
theorem dX2_copyFrom_17 : decode cX2_copyFrom 17 = .ok (.aload_n 1, 1) := by decide +kernel
theorem dX2_copyFrom_18 : decode cX2_copyFrom 18 = .ok (.getfield 22, 3) := by decide +kernel
theorem dX2_copyFrom_21 : decode cX2_copyFrom 21 = .ok (.putfield 22, 3) := by decide +kernel
theorem dX2_copyFrom_24 : decode cX2_copyFrom 24 = .ok (.aload_n 0, 1) := by decide +kernel
theorem dX2_copyFrom_25 : decode cX2_copyFrom 25 = .ok (.aload_n 1, 1) := by decide +kernel
theorem dX2_copyFrom_26 : decode cX2_copyFrom 26 = .ok (.getfield 25, 3) := by decide +kernel
theorem dX2_copyFrom_29 : decode cX2_copyFrom 29 = .ok (.putfield 25, 3) := by decide +kernel
theorem dX2_copyFrom_32 : decode cX2_copyFrom 32 = .ok (.aload_n 0, 1) := by decide +kernel
theorem dX2_copyFrom_33 : decode cX2_copyFrom 33 = .ok (.aload_n 1, 1) := by decide +kernel
theorem dX2_copyFrom_34 : decode cX2_copyFrom 34 = .ok (.getfield 28, 3) := by decide +kernel
theorem dX2_copyFrom_37 : decode cX2_copyFrom 37 = .ok (.putfield 28, 3) := by decide +kernel
theorem dX2_copyFrom_40 : decode cX2_copyFrom 40 = .ok (.aload_n 1, 1) := by decide +kernel
theorem dX2_copyFrom_41 : decode cX2_copyFrom 41 = .ok (.getfield 9, 3) := by decide +kernel
theorem dX2_copyFrom_44 : decode cX2_copyFrom 44 = .ok (.iconst 0, 1) := by decide +kernel
theorem dX2_copyFrom_45 : decode cX2_copyFrom 45 = .ok (.aload_n 0, 1) := by decide +kernel
theorem dX2_copyFrom_46 : decode cX2_copyFrom 46 = .ok (.getfield 9, 3) := by decide +kernel
theorem dX2_copyFrom_49 : decode cX2_copyFrom 49 = .ok (.iconst 0, 1) := by decide +kernel
theorem dX2_copyFrom_50 : decode cX2_copyFrom 50 = .ok (.iconst 3, 1) := by decide +kernel
theorem dX2_copyFrom_51 : decode cX2_copyFrom 51 = .ok (.invokestatic 41, 3) := by decide +kernel
theorem dX2_copyFrom_54 : decode cX2_copyFrom 54 = .ok (.aload_n 0, 1) := by decide +kernel
theorem dX2_copyFrom_55 : decode cX2_copyFrom 55 = .ok (.aload_n 1, 1) := by decide +kernel
theorem dX2_copyFrom_56 : decode cX2_copyFrom 56 = .ok (.getfield 31, 3) := by decide +kernel
theorem dX2_copyFrom_59 : decode cX2_copyFrom 59 = .ok (.putfield 31, 3) := by decide +kernel
theorem dX2_copyFrom_62 : decode cX2_copyFrom 62 = .ok (.aload_n 0, 1) := by decide +kernel
theorem dX2_copyFrom_63 : decode cX2_copyFrom 63 = .ok (.aload_n 1, 1) := by decide +kernel
theorem dX2_copyFrom_64 : decode cX2_copyFrom 64 = .ok (.getfield 34, 3) := by decide +kernel
theorem dX2_copyFrom_67 : decode cX2_copyFrom 67 = .ok (.putfield 34, 3) := by decide +kernel
theorem dX2_copyFrom_70 : decode cX2_copyFrom 70 = .ok (.aload_n 0, 1) := by decide +kernel
theorem dX2_copyFrom_71 : decode cX2_copyFrom 71 = .ok (.aload_n 1, 1) := by decide +kernel
theorem dX2_copyFrom_72 : decode cX2_copyFrom 72 = .ok (.getfield 37, 3) := by decide +kernel
theorem dX2_copyFrom_75 : decode cX2_copyFrom 75 = .ok (.putfield 37, 3) := by decide +kernel
theorem dX2_copyFrom_78 : decode cX2_copyFrom 78 = .ok (.return_, 1) := by decide +kernel
theorem dX2_valueOf_0 : decode cX2_valueOf 0 = .ok (.iload_n 1, 1) := by decide +kernel
theorem dX2_valueOf_1 : decode cX2_valueOf 1 = .ok (.tableswitch 78 0 6 #[43, 48, 53, 58, 63, 68, 73], 43) := by decide +kernel
theorem dX2_valueOf_44 : decode cX2_valueOf 44 = .ok (.aload_n 0, 1) := by decide +kernel
theorem dX2_valueOf_45 : decode cX2_valueOf 45 = .ok (.getfield 15, 3) := by decide +kernel
theorem dX2_valueOf_48 : decode cX2_valueOf 48 = .ok (.ireturn, 1) := by decide +kernel
theorem dX2_valueOf_49 : decode cX2_valueOf 49 = .ok (.aload_n 0, 1) := by decide +kernel
theorem dX2_valueOf_50 : decode cX2_valueOf 50 = .ok (.getfield 19, 3) := by decide +kernel
theorem dX2_valueOf_53 : decode cX2_valueOf 53 = .ok (.ireturn, 1) := by decide +kernel
theorem dX2_valueOf_54 : decode cX2_valueOf 54 = .ok (.aload_n 0, 1) := by decide +kernel
theorem dX2_valueOf_55 : decode cX2_valueOf 55 = .ok (.getfield 22, 3) := by decide +kernel
theorem dX2_valueOf_58 : decode cX2_valueOf 58 = .ok (.ireturn, 1) := by decide +kernel
theorem dX2_valueOf_59 : decode cX2_valueOf 59 = .ok (.aload_n 0, 1) := by decide +kernel
theorem dX2_valueOf_60 : decode cX2_valueOf 60 = .ok (.getfield 25, 3) := by decide +kernel
theorem dX2_valueOf_63 : decode cX2_valueOf 63 = .ok (.ireturn, 1) := by decide +kernel
theorem dX2_valueOf_64 : decode cX2_valueOf 64 = .ok (.aload_n 0, 1) := by decide +kernel
theorem dX2_valueOf_65 : decode cX2_valueOf 65 = .ok (.getfield 28, 3) := by decide +kernel
theorem dX2_valueOf_68 : decode cX2_valueOf 68 = .ok (.ireturn, 1) := by decide +kernel
theorem dX2_valueOf_69 : decode cX2_valueOf 69 = .ok (.aload_n 0, 1) := by decide +kernel
theorem dX2_valueOf_70 : decode cX2_valueOf 70 = .ok (.getfield 31, 3) := by decide +kernel
theorem dX2_valueOf_73 : decode cX2_valueOf 73 = .ok (.ireturn, 1) := by decide +kernel
theorem dX2_valueOf_74 : decode cX2_valueOf 74 = .ok (.aload_n 0, 1) := by decide +kernel
theorem dX2_valueOf_75 : decode cX2_valueOf 75 = .ok (.getfield 34, 3) := by decide +kernel
theorem dX2_valueOf_78 : decode cX2_valueOf 78 = .ok (.ireturn, 1) := by decide +kernel
theorem dX2_valueOf_79 : decode cX2_valueOf 79 = .ok (.aload_n 0, 1) := by decide +kernel
theorem dX2_valueOf_80 : decode cX2_valueOf 80 = .ok (.getfield 37, 3) := by decide +kernel
theorem dX2_valueOf_83 : decode cX2_valueOf 83 = .ok (.ifCond .eq 7, 3) := by decide +kernel
theorem dX2_valueOf_86 : decode cX2_valueOf 86 = .ok (.iconst 1, 1) := by decide +kernel
theorem dX2_valueOf_87 : decode cX2_valueOf 87 = .ok (.goto 4, 3) := by decide +kernel
theorem dX2_valueOf_90 : decode cX2_valueOf 90 = .ok (.iconst 0, 1) := by decide +kernel
theorem dX2_valueOf_91 : decode cX2_valueOf 91 = .ok (.ireturn, 1) := by decide +kernel
theorem dX2_addReel_0 : decode cX2_addReel 0 = .ok (.aload_n 0, 1) := by decide +kernel
theorem dX2_addReel_1 : decode cX2_addReel 1 = .ok (.getfield 28, 3) := by decide +kernel
theorem dX2_addReel_4 : decode cX2_addReel 4 = .ok (.iconst 3, 1) := by decide +kernel
theorem dX2_addReel_5 : decode cX2_addReel 5 = .ok (.if_icmp .ge 23, 3) := by decide +kernel
theorem dX2_addReel_8 : decode cX2_addReel 8 = .ok (.aload_n 0, 1) := by decide +kernel
theorem dX2_addReel_9 : decode cX2_addReel 9 = .ok (.getfield 9, 3) := by decide +kernel
theorem dX2_addReel_12 : decode cX2_addReel 12 = .ok (.aload_n 0, 1) := by decide +kernel
theorem dX2_addReel_13 : decode cX2_addReel 13 = .ok (.getfield 28, 3) := by decide +kernel
theorem dX2_addReel_16 : decode cX2_addReel 16 = .ok (.iload_n 1, 1) := by decide +kernel
theorem dX2_addReel_17 : decode cX2_addReel 17 = .ok (.iastore, 1) := by decide +kernel
theorem dX2_addReel_18 : decode cX2_addReel 18 = .ok (.aload_n 0, 1) := by decide +kernel
theorem dX2_addReel_19 : decode cX2_addReel 19 = .ok (.dup, 1) := by decide +kernel
theorem dX2_addReel_20 : decode cX2_addReel 20 = .ok (.getfield 28, 3) := by decide +kernel
theorem dX2_addReel_23 : decode cX2_addReel 23 = .ok (.iconst 1, 1) := by decide +kernel
theorem dX2_addReel_24 : decode cX2_addReel 24 = .ok (.iadd, 1) := by decide +kernel
theorem dX2_addReel_25 : decode cX2_addReel 25 = .ok (.putfield 28, 3) := by decide +kernel
theorem dX2_addReel_28 : decode cX2_addReel 28 = .ok (.return_, 1) := by decide +kernel
theorem dX2_removeLastReel_0 : decode cX2_removeLastReel 0 = .ok (.aload_n 0, 1) := by decide +kernel
theorem dX2_removeLastReel_1 : decode cX2_removeLastReel 1 = .ok (.getfield 28, 3) := by decide +kernel
theorem dX2_removeLastReel_4 : decode cX2_removeLastReel 4 = .ok (.ifCond .gt 5, 3) := by decide +kernel
theorem dX2_removeLastReel_7 : decode cX2_removeLastReel 7 = .ok (.iconst 0, 1) := by decide +kernel
theorem dX2_removeLastReel_8 : decode cX2_removeLastReel 8 = .ok (.ireturn, 1) := by decide +kernel
theorem dX2_removeLastReel_9 : decode cX2_removeLastReel 9 = .ok (.aload_n 0, 1) := by decide +kernel
theorem dX2_removeLastReel_10 : decode cX2_removeLastReel 10 = .ok (.dup, 1) := by decide +kernel
theorem dX2_removeLastReel_11 : decode cX2_removeLastReel 11 = .ok (.getfield 28, 3) := by decide +kernel
theorem dX2_removeLastReel_14 : decode cX2_removeLastReel 14 = .ok (.iconst 1, 1) := by decide +kernel
theorem dX2_removeLastReel_15 : decode cX2_removeLastReel 15 = .ok (.isub, 1) := by decide +kernel
theorem dX2_removeLastReel_16 : decode cX2_removeLastReel 16 = .ok (.putfield 28, 3) := by decide +kernel
theorem dX2_removeLastReel_19 : decode cX2_removeLastReel 19 = .ok (.aload_n 0, 1) := by decide +kernel
theorem dX2_removeLastReel_20 : decode cX2_removeLastReel 20 = .ok (.getfield 9, 3) := by decide +kernel
theorem dX2_removeLastReel_23 : decode cX2_removeLastReel 23 = .ok (.aload_n 0, 1) := by decide +kernel
theorem dX2_removeLastReel_24 : decode cX2_removeLastReel 24 = .ok (.getfield 28, 3) := by decide +kernel
theorem dX2_removeLastReel_27 : decode cX2_removeLastReel 27 = .ok (.iaload, 1) := by decide +kernel
theorem dX2_removeLastReel_28 : decode cX2_removeLastReel 28 = .ok (.ireturn, 1) := by decide +kernel
theorem dX2_spliceIfEmpty_0 : decode cX2_spliceIfEmpty 0 = .ok (.iconst 0, 1) := by decide +kernel
theorem dX2_spliceIfEmpty_1 : decode cX2_spliceIfEmpty 1 = .ok (.istore_n 1, 1) := by decide +kernel
theorem dX2_spliceIfEmpty_2 : decode cX2_spliceIfEmpty 2 = .ok (.aload_n 0, 1) := by decide +kernel
theorem dX2_spliceIfEmpty_3 : decode cX2_spliceIfEmpty 3 = .ok (.getfield 22, 3) := by decide +kernel
theorem dX2_spliceIfEmpty_6 : decode cX2_spliceIfEmpty 6 = .ok (.ifCond .ne 58, 3) := by decide +kernel
theorem dX2_spliceIfEmpty_9 : decode cX2_spliceIfEmpty 9 = .ok (.aload_n 0, 1) := by decide +kernel
theorem dX2_spliceIfEmpty_10 : decode cX2_spliceIfEmpty 10 = .ok (.getfield 28, 3) := by decide +kernel
theorem dX2_spliceIfEmpty_13 : decode cX2_spliceIfEmpty 13 = .ok (.ifCond .le 51, 3) := by decide +kernel
theorem dX2_spliceIfEmpty_16 : decode cX2_spliceIfEmpty 16 = .ok (.aload_n 0, 1) := by decide +kernel
theorem dX2_spliceIfEmpty_17 : decode cX2_spliceIfEmpty 17 = .ok (.aload_n 0, 1) := by decide +kernel
theorem dX2_spliceIfEmpty_18 : decode cX2_spliceIfEmpty 18 = .ok (.getfield 9, 3) := by decide +kernel
theorem dX2_spliceIfEmpty_21 : decode cX2_spliceIfEmpty 21 = .ok (.iconst 0, 1) := by decide +kernel
theorem dX2_spliceIfEmpty_22 : decode cX2_spliceIfEmpty 22 = .ok (.iaload, 1) := by decide +kernel
theorem dX2_spliceIfEmpty_23 : decode cX2_spliceIfEmpty 23 = .ok (.putfield 22, 3) := by decide +kernel
theorem dX2_spliceIfEmpty_26 : decode cX2_spliceIfEmpty 26 = .ok (.aload_n 0, 1) := by decide +kernel
theorem dX2_spliceIfEmpty_27 : decode cX2_spliceIfEmpty 27 = .ok (.dup, 1) := by decide +kernel
theorem dX2_spliceIfEmpty_28 : decode cX2_spliceIfEmpty 28 = .ok (.getfield 28, 3) := by decide +kernel
theorem dX2_spliceIfEmpty_31 : decode cX2_spliceIfEmpty 31 = .ok (.iconst 1, 1) := by decide +kernel
theorem dX2_spliceIfEmpty_32 : decode cX2_spliceIfEmpty 32 = .ok (.isub, 1) := by decide +kernel
theorem dX2_spliceIfEmpty_33 : decode cX2_spliceIfEmpty 33 = .ok (.putfield 28, 3) := by decide +kernel
theorem dX2_spliceIfEmpty_36 : decode cX2_spliceIfEmpty 36 = .ok (.aload_n 0, 1) := by decide +kernel
theorem dX2_spliceIfEmpty_37 : decode cX2_spliceIfEmpty 37 = .ok (.getfield 9, 3) := by decide +kernel
theorem dX2_spliceIfEmpty_40 : decode cX2_spliceIfEmpty 40 = .ok (.iconst 1, 1) := by decide +kernel
theorem dX2_spliceIfEmpty_41 : decode cX2_spliceIfEmpty 41 = .ok (.aload_n 0, 1) := by decide +kernel
theorem dX2_spliceIfEmpty_42 : decode cX2_spliceIfEmpty 42 = .ok (.getfield 9, 3) := by decide +kernel
theorem dX2_spliceIfEmpty_45 : decode cX2_spliceIfEmpty 45 = .ok (.iconst 0, 1) := by decide +kernel
theorem dX2_spliceIfEmpty_46 : decode cX2_spliceIfEmpty 46 = .ok (.aload_n 0, 1) := by decide +kernel
theorem dX2_spliceIfEmpty_47 : decode cX2_spliceIfEmpty 47 = .ok (.getfield 28, 3) := by decide +kernel
theorem dX2_spliceIfEmpty_50 : decode cX2_spliceIfEmpty 50 = .ok (.invokestatic 41, 3) := by decide +kernel
theorem dX2_spliceIfEmpty_53 : decode cX2_spliceIfEmpty 53 = .ok (.aload_n 0, 1) := by decide +kernel
theorem dX2_spliceIfEmpty_54 : decode cX2_spliceIfEmpty 54 = .ok (.iconst 1, 1) := by decide +kernel
theorem dX2_spliceIfEmpty_55 : decode cX2_spliceIfEmpty 55 = .ok (.putfield 37, 3) := by decide +kernel
theorem dX2_spliceIfEmpty_58 : decode cX2_spliceIfEmpty 58 = .ok (.iinc 1 1, 3) := by decide +kernel
theorem dX2_spliceIfEmpty_61 : decode cX2_spliceIfEmpty 61 = .ok (.goto (-59), 3) := by decide +kernel
theorem dX2_spliceIfEmpty_64 : decode cX2_spliceIfEmpty 64 = .ok (.iload_n 1, 1) := by decide +kernel
theorem dX2_spliceIfEmpty_65 : decode cX2_spliceIfEmpty 65 = .ok (.ireturn, 1) := by decide +kernel
theorem dX2_allParts_0 : decode cX2_allParts 0 = .ok (.aload_n 0, 1) := by decide +kernel
theorem dX2_allParts_1 : decode cX2_allParts 1 = .ok (.getfield 22, 3) := by decide +kernel
theorem dX2_allParts_4 : decode cX2_allParts 4 = .ok (.istore_n 1, 1) := by decide +kernel
theorem dX2_allParts_5 : decode cX2_allParts 5 = .ok (.iconst 0, 1) := by decide +kernel
theorem dX2_allParts_6 : decode cX2_allParts 6 = .ok (.istore_n 2, 1) := by decide +kernel
theorem dX2_allParts_7 : decode cX2_allParts 7 = .ok (.iload_n 2, 1) := by decide +kernel
theorem dX2_allParts_8 : decode cX2_allParts 8 = .ok (.aload_n 0, 1) := by decide +kernel
theorem dX2_allParts_9 : decode cX2_allParts 9 = .ok (.getfield 28, 3) := by decide +kernel
theorem dX2_allParts_12 : decode cX2_allParts 12 = .ok (.if_icmp .ge 18, 3) := by decide +kernel
theorem dX2_allParts_15 : decode cX2_allParts 15 = .ok (.iload_n 1, 1) := by decide +kernel
theorem dX2_allParts_16 : decode cX2_allParts 16 = .ok (.aload_n 0, 1) := by decide +kernel
theorem dX2_allParts_17 : decode cX2_allParts 17 = .ok (.getfield 9, 3) := by decide +kernel
theorem dX2_allParts_20 : decode cX2_allParts 20 = .ok (.iload_n 2, 1) := by decide +kernel
theorem dX2_allParts_21 : decode cX2_allParts 21 = .ok (.iaload, 1) := by decide +kernel
theorem dX2_allParts_22 : decode cX2_allParts 22 = .ok (.iadd, 1) := by decide +kernel
theorem dX2_allParts_23 : decode cX2_allParts 23 = .ok (.istore_n 1, 1) := by decide +kernel
theorem dX2_allParts_24 : decode cX2_allParts 24 = .ok (.iinc 2 1, 3) := by decide +kernel
theorem dX2_allParts_27 : decode cX2_allParts 27 = .ok (.goto (-20), 3) := by decide +kernel
theorem dX2_allParts_30 : decode cX2_allParts 30 = .ok (.iload_n 1, 1) := by decide +kernel
theorem dX2_allParts_31 : decode cX2_allParts 31 = .ok (.ireturn, 1) := by decide +kernel
theorem dX3_init_0 : decode cX3_init 0 = .ok (.aload_n 0, 1) := by decide +kernel
theorem dX3_init_1 : decode cX3_init 1 = .ok (.invokespecial 3, 3) := by decide +kernel
theorem dX3_init_4 : decode cX3_init 4 = .ok (.aload_n 0, 1) := by decide +kernel
theorem dX3_init_5 : decode cX3_init 5 = .ok (.aload_n 1, 1) := by decide +kernel
theorem dX3_init_6 : decode cX3_init 6 = .ok (.putfield 9, 3) := by decide +kernel
theorem dX3_init_9 : decode cX3_init 9 = .ok (.aload_n 0, 1) := by decide +kernel
theorem dX3_init_10 : decode cX3_init 10 = .ok (.aload_n 2, 1) := by decide +kernel
theorem dX3_init_11 : decode cX3_init 11 = .ok (.putfield 15, 3) := by decide +kernel
theorem dX3_init_14 : decode cX3_init 14 = .ok (.aload_n 0, 1) := by decide +kernel
theorem dX3_init_15 : decode cX3_init 15 = .ok (.new 18, 3) := by decide +kernel
theorem dX3_init_18 : decode cX3_init 18 = .ok (.dup, 1) := by decide +kernel
theorem dX3_init_19 : decode cX3_init 19 = .ok (.aload_n 2, 1) := by decide +kernel
theorem dX3_init_20 : decode cX3_init 20 = .ok (.invokespecial 20, 3) := by decide +kernel
theorem dX3_init_23 : decode cX3_init 23 = .ok (.putfield 23, 3) := by decide +kernel
theorem dX3_init_26 : decode cX3_init 26 = .ok (.return_, 1) := by decide +kernel
theorem dX3_begin_0 : decode cX3_begin 0 = .ok (.aload_n 0, 1) := by decide +kernel
theorem dX3_begin_1 : decode cX3_begin 1 = .ok (.getfield 15, 3) := by decide +kernel
theorem dX3_begin_4 : decode cX3_begin 4 = .ok (.aload_n 0, 1) := by decide +kernel
theorem dX3_begin_5 : decode cX3_begin 5 = .ok (.getfield 9, 3) := by decide +kernel
theorem dX3_begin_8 : decode cX3_begin 8 = .ok (.invokevirtual 27, 3) := by decide +kernel
theorem dX3_begin_11 : decode cX3_begin 11 = .ok (.return_, 1) := by decide +kernel
theorem dX3_goOn_0 : decode cX3_goOn 0 = .ok (.aload_n 0, 1) := by decide +kernel
theorem dX3_goOn_1 : decode cX3_goOn 1 = .ok (.iconst 0, 1) := by decide +kernel
theorem dX3_goOn_2 : decode cX3_goOn 2 = .ok (.putfield 32, 3) := by decide +kernel
theorem dX3_goOn_5 : decode cX3_goOn 5 = .ok (.aload_n 0, 1) := by decide +kernel
theorem dX3_goOn_6 : decode cX3_goOn 6 = .ok (.getfield 23, 3) := by decide +kernel
theorem dX3_goOn_9 : decode cX3_goOn 9 = .ok (.invokevirtual 36, 3) := by decide +kernel
theorem dX3_goOn_12 : decode cX3_goOn 12 = .ok (.istore_n 1, 1) := by decide +kernel
theorem dX3_goOn_13 : decode cX3_goOn 13 = .ok (.iload_n 1, 1) := by decide +kernel
theorem dX3_goOn_14 : decode cX3_goOn 14 = .ok (.ifCond .eq 63, 3) := by decide +kernel
theorem dX3_goOn_17 : decode cX3_goOn 17 = .ok (.aload_n 0, 1) := by decide +kernel
theorem dX3_goOn_18 : decode cX3_goOn 18 = .ok (.getfield 32, 3) := by decide +kernel
theorem dX3_goOn_21 : decode cX3_goOn 21 = .ok (.sipush 1000, 3) := by decide +kernel
theorem dX3_goOn_24 : decode cX3_goOn 24 = .ok (.if_icmp .ge 53, 3) := by decide +kernel
theorem dX3_goOn_27 : decode cX3_goOn 27 = .ok (.aload_n 0, 1) := by decide +kernel
theorem dX3_goOn_28 : decode cX3_goOn 28 = .ok (.getfield 15, 3) := by decide +kernel
theorem dX3_goOn_31 : decode cX3_goOn 31 = .ok (.aload_n 0, 1) := by decide +kernel
theorem dX3_goOn_32 : decode cX3_goOn 32 = .ok (.getfield 23, 3) := by decide +kernel
theorem dX3_goOn_35 : decode cX3_goOn 35 = .ok (.getfield 40, 3) := by decide +kernel
theorem dX3_goOn_38 : decode cX3_goOn 38 = .ok (.aload_n 0, 1) := by decide +kernel
theorem dX3_goOn_39 : decode cX3_goOn 39 = .ok (.getfield 23, 3) := by decide +kernel
theorem dX3_goOn_42 : decode cX3_goOn 42 = .ok (.getfield 43, 3) := by decide +kernel
theorem dX3_goOn_45 : decode cX3_goOn 45 = .ok (.aload_n 0, 1) := by decide +kernel
theorem dX3_goOn_46 : decode cX3_goOn 46 = .ok (.getfield 23, 3) := by decide +kernel
theorem dX3_goOn_49 : decode cX3_goOn 49 = .ok (.getfield 46, 3) := by decide +kernel
theorem dX3_goOn_52 : decode cX3_goOn 52 = .ok (.invokevirtual 49, 3) := by decide +kernel
theorem dX3_goOn_55 : decode cX3_goOn 55 = .ok (.pop, 1) := by decide +kernel
theorem dX3_goOn_56 : decode cX3_goOn 56 = .ok (.aload_n 0, 1) := by decide +kernel
theorem dX3_goOn_57 : decode cX3_goOn 57 = .ok (.dup, 1) := by decide +kernel
theorem dX3_goOn_58 : decode cX3_goOn 58 = .ok (.getfield 32, 3) := by decide +kernel
theorem dX3_goOn_61 : decode cX3_goOn 61 = .ok (.iconst 1, 1) := by decide +kernel
theorem dX3_goOn_62 : decode cX3_goOn 62 = .ok (.iadd, 1) := by decide +kernel
theorem dX3_goOn_63 : decode cX3_goOn 63 = .ok (.putfield 32, 3) := by decide +kernel
theorem dX3_goOn_66 : decode cX3_goOn 66 = .ok (.aload_n 0, 1) := by decide +kernel
theorem dX3_goOn_67 : decode cX3_goOn 67 = .ok (.getfield 23, 3) := by decide +kernel
theorem dX3_goOn_70 : decode cX3_goOn 70 = .ok (.invokevirtual 36, 3) := by decide +kernel
theorem dX3_goOn_73 : decode cX3_goOn 73 = .ok (.istore_n 1, 1) := by decide +kernel
theorem dX3_goOn_74 : decode cX3_goOn 74 = .ok (.goto (-61), 3) := by decide +kernel
theorem dX3_goOn_77 : decode cX3_goOn 77 = .ok (.aload_n 0, 1) := by decide +kernel
theorem dX3_goOn_78 : decode cX3_goOn 78 = .ok (.iload_n 1, 1) := by decide +kernel
theorem dX3_goOn_79 : decode cX3_goOn 79 = .ok (.ifCond .eq 7, 3) := by decide +kernel
theorem dX3_goOn_82 : decode cX3_goOn 82 = .ok (.iconst (-1), 1) := by decide +kernel
theorem dX3_goOn_83 : decode cX3_goOn 83 = .ok (.goto 10, 3) := by decide +kernel
theorem dX3_goOn_86 : decode cX3_goOn 86 = .ok (.aload_n 0, 1) := by decide +kernel
theorem dX3_goOn_87 : decode cX3_goOn 87 = .ok (.getfield 15, 3) := by decide +kernel
theorem dX3_goOn_90 : decode cX3_goOn 90 = .ok (.getfield 53, 3) := by decide +kernel
theorem dX3_goOn_93 : decode cX3_goOn 93 = .ok (.putfield 56, 3) := by decide +kernel
theorem dX3_goOn_96 : decode cX3_goOn 96 = .ok (.return_, 1) := by decide +kernel
theorem dX3_actionsUntilEmpty_0 : decode cX3_actionsUntilEmpty 0 = .ok (.aload_n 0, 1) := by decide +kernel
theorem dX3_actionsUntilEmpty_1 : decode cX3_actionsUntilEmpty 1 = .ok (.getfield 15, 3) := by decide +kernel
theorem dX3_actionsUntilEmpty_4 : decode cX3_actionsUntilEmpty 4 = .ok (.getfield 59, 3) := by decide +kernel
theorem dX3_actionsUntilEmpty_7 : decode cX3_actionsUntilEmpty 7 = .ok (.iload_n 1, 1) := by decide +kernel
theorem dX3_actionsUntilEmpty_8 : decode cX3_actionsUntilEmpty 8 = .ok (.aaload, 1) := by decide +kernel
theorem dX3_actionsUntilEmpty_9 : decode cX3_actionsUntilEmpty 9 = .ok (.astore_n 2, 1) := by decide +kernel
theorem dX3_actionsUntilEmpty_10 : decode cX3_actionsUntilEmpty 10 = .ok (.iconst 0, 1) := by decide +kernel
theorem dX3_actionsUntilEmpty_11 : decode cX3_actionsUntilEmpty 11 = .ok (.istore_n 3, 1) := by decide +kernel
theorem dX3_actionsUntilEmpty_12 : decode cX3_actionsUntilEmpty 12 = .ok (.iload_n 3, 1) := by decide +kernel
theorem dX3_actionsUntilEmpty_13 : decode cX3_actionsUntilEmpty 13 = .ok (.sipush 1000, 3) := by decide +kernel
theorem dX3_actionsUntilEmpty_16 : decode cX3_actionsUntilEmpty 16 = .ok (.if_icmp .gt 66, 3) := by decide +kernel
theorem dX3_actionsUntilEmpty_19 : decode cX3_actionsUntilEmpty 19 = .ok (.aload_n 2, 1) := by decide +kernel
theorem dX3_actionsUntilEmpty_20 : decode cX3_actionsUntilEmpty 20 = .ok (.getfield 63, 3) := by decide +kernel
theorem dX3_actionsUntilEmpty_23 : decode cX3_actionsUntilEmpty 23 = .ok (.ifCond .ne 12, 3) := by decide +kernel
theorem dX3_actionsUntilEmpty_26 : decode cX3_actionsUntilEmpty 26 = .ok (.aload_n 2, 1) := by decide +kernel
theorem dX3_actionsUntilEmpty_27 : decode cX3_actionsUntilEmpty 27 = .ok (.getfield 68, 3) := by decide +kernel
theorem dX3_actionsUntilEmpty_30 : decode cX3_actionsUntilEmpty 30 = .ok (.ifCond .ne 5, 3) := by decide +kernel
theorem dX3_actionsUntilEmpty_33 : decode cX3_actionsUntilEmpty 33 = .ok (.iload_n 3, 1) := by decide +kernel
theorem dX3_actionsUntilEmpty_34 : decode cX3_actionsUntilEmpty 34 = .ok (.ireturn, 1) := by decide +kernel
theorem dX3_actionsUntilEmpty_35 : decode cX3_actionsUntilEmpty 35 = .ok (.aload_n 0, 1) := by decide +kernel
theorem dX3_actionsUntilEmpty_36 : decode cX3_actionsUntilEmpty 36 = .ok (.getfield 23, 3) := by decide +kernel
theorem dX3_actionsUntilEmpty_39 : decode cX3_actionsUntilEmpty 39 = .ok (.invokevirtual 36, 3) := by decide +kernel
theorem dX3_actionsUntilEmpty_42 : decode cX3_actionsUntilEmpty 42 = .ok (.ifCond .ne 5, 3) := by decide +kernel
theorem dX3_actionsUntilEmpty_45 : decode cX3_actionsUntilEmpty 45 = .ok (.iconst (-1), 1) := by decide +kernel
theorem dX3_actionsUntilEmpty_46 : decode cX3_actionsUntilEmpty 46 = .ok (.ireturn, 1) := by decide +kernel
theorem dX3_actionsUntilEmpty_47 : decode cX3_actionsUntilEmpty 47 = .ok (.aload_n 0, 1) := by decide +kernel
theorem dX3_actionsUntilEmpty_48 : decode cX3_actionsUntilEmpty 48 = .ok (.getfield 15, 3) := by decide +kernel
theorem dX3_actionsUntilEmpty_51 : decode cX3_actionsUntilEmpty 51 = .ok (.aload_n 0, 1) := by decide +kernel
theorem dX3_actionsUntilEmpty_52 : decode cX3_actionsUntilEmpty 52 = .ok (.getfield 23, 3) := by decide +kernel
theorem dX3_actionsUntilEmpty_55 : decode cX3_actionsUntilEmpty 55 = .ok (.getfield 40, 3) := by decide +kernel
theorem dX3_actionsUntilEmpty_58 : decode cX3_actionsUntilEmpty 58 = .ok (.aload_n 0, 1) := by decide +kernel
theorem dX3_actionsUntilEmpty_59 : decode cX3_actionsUntilEmpty 59 = .ok (.getfield 23, 3) := by decide +kernel
theorem dX3_actionsUntilEmpty_62 : decode cX3_actionsUntilEmpty 62 = .ok (.getfield 43, 3) := by decide +kernel
theorem dX3_actionsUntilEmpty_65 : decode cX3_actionsUntilEmpty 65 = .ok (.aload_n 0, 1) := by decide +kernel
theorem dX3_actionsUntilEmpty_66 : decode cX3_actionsUntilEmpty 66 = .ok (.getfield 23, 3) := by decide +kernel
theorem dX3_actionsUntilEmpty_69 : decode cX3_actionsUntilEmpty 69 = .ok (.getfield 46, 3) := by decide +kernel
theorem dX3_actionsUntilEmpty_72 : decode cX3_actionsUntilEmpty 72 = .ok (.invokevirtual 49, 3) := by decide +kernel
theorem dX3_actionsUntilEmpty_75 : decode cX3_actionsUntilEmpty 75 = .ok (.pop, 1) := by decide +kernel
theorem dX3_actionsUntilEmpty_76 : decode cX3_actionsUntilEmpty 76 = .ok (.iinc 3 1, 3) := by decide +kernel
theorem dX3_actionsUntilEmpty_79 : decode cX3_actionsUntilEmpty 79 = .ok (.goto (-67), 3) := by decide +kernel
theorem dX3_actionsUntilEmpty_82 : decode cX3_actionsUntilEmpty 82 = .ok (.iconst (-1), 1) := by decide +kernel
theorem dX3_actionsUntilEmpty_83 : decode cX3_actionsUntilEmpty 83 = .ok (.ireturn, 1) := by decide +kernel
theorem dX4_init_0 : decode cX4_init 0 = .ok (.aload_n 0, 1) := by decide +kernel
theorem dX4_init_1 : decode cX4_init 1 = .ok (.invokespecial 3, 3) := by decide +kernel
theorem dX4_init_4 : decode cX4_init 4 = .ok (.aload_n 0, 1) := by decide +kernel
theorem dX4_init_5 : decode cX4_init 5 = .ok (.bipush 40, 2) := by decide +kernel
theorem dX4_init_7 : decode cX4_init 7 = .ok (.newarray .int, 2) := by decide +kernel
theorem dX4_init_9 : decode cX4_init 9 = .ok (.putfield 9, 3) := by decide +kernel
theorem dX4_init_12 : decode cX4_init 12 = .ok (.aload_n 0, 1) := by decide +kernel
theorem dX4_init_13 : decode cX4_init 13 = .ok (.bipush 40, 2) := by decide +kernel
theorem dX4_init_15 : decode cX4_init 15 = .ok (.newarray .int, 2) := by decide +kernel
theorem dX4_init_17 : decode cX4_init 17 = .ok (.putfield 15, 3) := by decide +kernel
theorem dX4_init_20 : decode cX4_init 20 = .ok (.aload_n 0, 1) := by decide +kernel
theorem dX4_init_21 : decode cX4_init 21 = .ok (.bipush 40, 2) := by decide +kernel
theorem dX4_init_23 : decode cX4_init 23 = .ok (.newarray .int, 2) := by decide +kernel
theorem dX4_init_25 : decode cX4_init 25 = .ok (.putfield 18, 3) := by decide +kernel
theorem dX4_init_28 : decode cX4_init 28 = .ok (.aload_n 0, 1) := by decide +kernel
theorem dX4_init_29 : decode cX4_init 29 = .ok (.bipush 7, 2) := by decide +kernel
theorem dX4_init_31 : decode cX4_init 31 = .ok (.newarray .int, 2) := by decide +kernel
theorem dX4_init_33 : decode cX4_init 33 = .ok (.putfield 21, 3) := by decide +kernel
theorem dX4_init_36 : decode cX4_init 36 = .ok (.aload_n 0, 1) := by decide +kernel
theorem dX4_init_37 : decode cX4_init 37 = .ok (.bipush 7, 2) := by decide +kernel
theorem dX4_init_39 : decode cX4_init 39 = .ok (.newarray .int, 2) := by decide +kernel
theorem dX4_init_41 : decode cX4_init 41 = .ok (.putfield 24, 3) := by decide +kernel
theorem dX4_init_44 : decode cX4_init 44 = .ok (.return_, 1) := by decide +kernel
theorem dX4_clear_0 : decode cX4_clear 0 = .ok (.aload_n 0, 1) := by decide +kernel
theorem dX4_clear_1 : decode cX4_clear 1 = .ok (.iconst 0, 1) := by decide +kernel
theorem dX4_clear_2 : decode cX4_clear 2 = .ok (.putfield 27, 3) := by decide +kernel
theorem dX4_clear_5 : decode cX4_clear 5 = .ok (.aload_n 0, 1) := by decide +kernel
theorem dX4_clear_6 : decode cX4_clear 6 = .ok (.iconst 0, 1) := by decide +kernel
theorem dX4_clear_7 : decode cX4_clear 7 = .ok (.putfield 31, 3) := by decide +kernel
theorem dX4_clear_10 : decode cX4_clear 10 = .ok (.aload_n 0, 1) := by decide +kernel
theorem dX4_clear_11 : decode cX4_clear 11 = .ok (.getfield 21, 3) := by decide +kernel
theorem dX4_clear_14 : decode cX4_clear 14 = .ok (.iconst 0, 1) := by decide +kernel
theorem dX4_clear_15 : decode cX4_clear 15 = .ok (.invokestatic 34, 3) := by decide +kernel
theorem dX4_clear_18 : decode cX4_clear 18 = .ok (.aload_n 0, 1) := by decide +kernel
theorem dX4_clear_19 : decode cX4_clear 19 = .ok (.getfield 24, 3) := by decide +kernel
theorem dX4_clear_22 : decode cX4_clear 22 = .ok (.iconst 0, 1) := by decide +kernel
theorem dX4_clear_23 : decode cX4_clear 23 = .ok (.invokestatic 34, 3) := by decide +kernel
theorem dX4_clear_26 : decode cX4_clear 26 = .ok (.aload_n 0, 1) := by decide +kernel
theorem dX4_clear_27 : decode cX4_clear 27 = .ok (.iconst 0, 1) := by decide +kernel
theorem dX4_clear_28 : decode cX4_clear 28 = .ok (.putfield 40, 3) := by decide +kernel
theorem dX4_clear_31 : decode cX4_clear 31 = .ok (.aload_n 0, 1) := by decide +kernel
theorem dX4_clear_32 : decode cX4_clear 32 = .ok (.iconst 0, 1) := by decide +kernel
theorem dX4_clear_33 : decode cX4_clear 33 = .ok (.putfield 43, 3) := by decide +kernel
theorem dX4_clear_36 : decode cX4_clear 36 = .ok (.return_, 1) := by decide +kernel
theorem dX4_copyFrom_0 : decode cX4_copyFrom 0 = .ok (.aload_n 0, 1) := by decide +kernel
theorem dX4_copyFrom_1 : decode cX4_copyFrom 1 = .ok (.aload_n 1, 1) := by decide +kernel
theorem dX4_copyFrom_2 : decode cX4_copyFrom 2 = .ok (.getfield 27, 3) := by decide +kernel
theorem dX4_copyFrom_5 : decode cX4_copyFrom 5 = .ok (.putfield 27, 3) := by decide +kernel
theorem dX4_copyFrom_8 : decode cX4_copyFrom 8 = .ok (.aload_n 0, 1) := by decide +kernel
theorem dX4_copyFrom_9 : decode cX4_copyFrom 9 = .ok (.aload_n 1, 1) := by decide +kernel
theorem dX4_copyFrom_10 : decode cX4_copyFrom 10 = .ok (.getfield 31, 3) := by decide +kernel
theorem dX4_copyFrom_13 : decode cX4_copyFrom 13 = .ok (.putfield 31, 3) := by decide +kernel
theorem dX4_copyFrom_16 : decode cX4_copyFrom 16 = .ok (.aload_n 1, 1) := by decide +kernel
theorem dX4_copyFrom_17 : decode cX4_copyFrom 17 = .ok (.getfield 9, 3) := by decide +kernel
theorem dX4_copyFrom_20 : decode cX4_copyFrom 20 = .ok (.iconst 0, 1) := by decide +kernel
theorem dX4_copyFrom_21 : decode cX4_copyFrom 21 = .ok (.aload_n 0, 1) := by decide +kernel
theorem dX4_copyFrom_22 : decode cX4_copyFrom 22 = .ok (.getfield 9, 3) := by decide +kernel
theorem dX4_copyFrom_25 : decode cX4_copyFrom 25 = .ok (.iconst 0, 1) := by decide +kernel
theorem dX4_copyFrom_26 : decode cX4_copyFrom 26 = .ok (.bipush 40, 2) := by decide +kernel
theorem dX4_copyFrom_28 : decode cX4_copyFrom 28 = .ok (.invokestatic 46, 3) := by decide +kernel
theorem dX4_copyFrom_31 : decode cX4_copyFrom 31 = .ok (.aload_n 1, 1) := by decide +kernel
theorem dX4_copyFrom_32 : decode cX4_copyFrom 32 = .ok (.getfield 15, 3) := by decide +kernel
theorem dX4_copyFrom_35 : decode cX4_copyFrom 35 = .ok (.iconst 0, 1) := by decide +kernel
theorem dX4_copyFrom_36 : decode cX4_copyFrom 36 = .ok (.aload_n 0, 1) := by decide +kernel
theorem dX4_copyFrom_37 : decode cX4_copyFrom 37 = .ok (.getfield 15, 3) := by decide +kernel
theorem dX4_copyFrom_40 : decode cX4_copyFrom 40 = .ok (.iconst 0, 1) := by decide +kernel
theorem dX4_copyFrom_41 : decode cX4_copyFrom 41 = .ok (.bipush 40, 2) := by decide +kernel
theorem dX4_copyFrom_43 : decode cX4_copyFrom 43 = .ok (.invokestatic 46, 3) := by decide +kernel
theorem dX4_copyFrom_46 : decode cX4_copyFrom 46 = .ok (.aload_n 1, 1) := by decide +kernel
theorem dX4_copyFrom_47 : decode cX4_copyFrom 47 = .ok (.getfield 18, 3) := by decide +kernel
theorem dX4_copyFrom_50 : decode cX4_copyFrom 50 = .ok (.iconst 0, 1) := by decide +kernel
theorem dX4_copyFrom_51 : decode cX4_copyFrom 51 = .ok (.aload_n 0, 1) := by decide +kernel
theorem dX4_copyFrom_52 : decode cX4_copyFrom 52 = .ok (.getfield 18, 3) := by decide +kernel
theorem dX4_copyFrom_55 : decode cX4_copyFrom 55 = .ok (.iconst 0, 1) := by decide +kernel
theorem dX4_copyFrom_56 : decode cX4_copyFrom 56 = .ok (.bipush 40, 2) := by decide +kernel
theorem dX4_copyFrom_58 : decode cX4_copyFrom 58 = .ok (.invokestatic 46, 3) := by decide +kernel
theorem dX4_copyFrom_61 : decode cX4_copyFrom 61 = .ok (.aload_n 1, 1) := by decide +kernel
theorem dX4_copyFrom_62 : decode cX4_copyFrom 62 = .ok (.getfield 21, 3) := by decide +kernel
theorem dX4_copyFrom_65 : decode cX4_copyFrom 65 = .ok (.iconst 0, 1) := by decide +kernel
theorem dX4_copyFrom_66 : decode cX4_copyFrom 66 = .ok (.aload_n 0, 1) := by decide +kernel
theorem dX4_copyFrom_67 : decode cX4_copyFrom 67 = .ok (.getfield 21, 3) := by decide +kernel
theorem dX4_copyFrom_70 : decode cX4_copyFrom 70 = .ok (.iconst 0, 1) := by decide +kernel
theorem dX4_copyFrom_71 : decode cX4_copyFrom 71 = .ok (.bipush 7, 2) := by decide +kernel
theorem dX4_copyFrom_73 : decode cX4_copyFrom 73 = .ok (.invokestatic 46, 3) := by decide +kernel
theorem dX4_copyFrom_76 : decode cX4_copyFrom 76 = .ok (.aload_n 1, 1) := by decide +kernel
theorem dX4_copyFrom_77 : decode cX4_copyFrom 77 = .ok (.getfield 24, 3) := by decide +kernel
theorem dX4_copyFrom_80 : decode cX4_copyFrom 80 = .ok (.iconst 0, 1) := by decide +kernel
theorem dX4_copyFrom_81 : decode cX4_copyFrom 81 = .ok (.aload_n 0, 1) := by decide +kernel
theorem dX4_copyFrom_82 : decode cX4_copyFrom 82 = .ok (.getfield 24, 3) := by decide +kernel
theorem dX4_copyFrom_85 : decode cX4_copyFrom 85 = .ok (.iconst 0, 1) := by decide +kernel
theorem dX4_copyFrom_86 : decode cX4_copyFrom 86 = .ok (.bipush 7, 2) := by decide +kernel
theorem dX4_copyFrom_88 : decode cX4_copyFrom 88 = .ok (.invokestatic 46, 3) := by decide +kernel
theorem dX4_copyFrom_91 : decode cX4_copyFrom 91 = .ok (.aload_n 0, 1) := by decide +kernel
theorem dX4_copyFrom_92 : decode cX4_copyFrom 92 = .ok (.aload_n 1, 1) := by decide +kernel
theorem dX4_copyFrom_93 : decode cX4_copyFrom 93 = .ok (.getfield 40, 3) := by decide +kernel
theorem dX4_copyFrom_96 : decode cX4_copyFrom 96 = .ok (.putfield 40, 3) := by decide +kernel
theorem dX4_copyFrom_99 : decode cX4_copyFrom 99 = .ok (.aload_n 0, 1) := by decide +kernel
theorem dX4_copyFrom_100 : decode cX4_copyFrom 100 = .ok (.aload_n 1, 1) := by decide +kernel
theorem dX4_copyFrom_101 : decode cX4_copyFrom 101 = .ok (.getfield 43, 3) := by decide +kernel
theorem dX4_copyFrom_104 : decode cX4_copyFrom 104 = .ok (.putfield 43, 3) := by decide +kernel
theorem dX4_copyFrom_107 : decode cX4_copyFrom 107 = .ok (.return_, 1) := by decide +kernel
theorem dX4_note_0 : decode cX4_note 0 = .ok (.aload_n 0, 1) := by decide +kernel
theorem dX4_note_1 : decode cX4_note 1 = .ok (.getfield 31, 3) := by decide +kernel
theorem dX4_note_4 : decode cX4_note 4 = .ok (.aload_n 0, 1) := by decide +kernel
theorem dX4_note_5 : decode cX4_note 5 = .ok (.getfield 27, 3) := by decide +kernel
theorem dX4_note_8 : decode cX4_note 8 = .ok (.iadd, 1) := by decide +kernel
theorem dX4_note_9 : decode cX4_note 9 = .ok (.bipush 40, 2) := by decide +kernel
theorem dX4_note_11 : decode cX4_note 11 = .ok (.irem, 1) := by decide +kernel
theorem dX4_note_12 : decode cX4_note 12 = .ok (.istore 4, 2) := by decide +kernel
theorem dX4_note_14 : decode cX4_note 14 = .ok (.aload_n 0, 1) := by decide +kernel
theorem dX4_note_15 : decode cX4_note 15 = .ok (.getfield 9, 3) := by decide +kernel
theorem dX4_note_18 : decode cX4_note 18 = .ok (.iload 4, 2) := by decide +kernel
theorem dX4_note_20 : decode cX4_note 20 = .ok (.iload_n 1, 1) := by decide +kernel
theorem dX4_note_21 : decode cX4_note 21 = .ok (.iastore, 1) := by decide +kernel
theorem dX4_note_22 : decode cX4_note 22 = .ok (.aload_n 0, 1) := by decide +kernel
theorem dX4_note_23 : decode cX4_note 23 = .ok (.getfield 15, 3) := by decide +kernel
theorem dX4_note_26 : decode cX4_note 26 = .ok (.iload 4, 2) := by decide +kernel
theorem dX4_note_28 : decode cX4_note 28 = .ok (.iload_n 2, 1) := by decide +kernel
theorem dX4_note_29 : decode cX4_note 29 = .ok (.iastore, 1) := by decide +kernel
theorem dX4_note_30 : decode cX4_note 30 = .ok (.aload_n 0, 1) := by decide +kernel
theorem dX4_note_31 : decode cX4_note 31 = .ok (.getfield 18, 3) := by decide +kernel
theorem dX4_note_34 : decode cX4_note 34 = .ok (.iload 4, 2) := by decide +kernel
theorem dX4_note_36 : decode cX4_note 36 = .ok (.iload_n 3, 1) := by decide +kernel
theorem dX4_note_37 : decode cX4_note 37 = .ok (.iastore, 1) := by decide +kernel
theorem dX4_note_38 : decode cX4_note 38 = .ok (.aload_n 0, 1) := by decide +kernel
theorem dX4_note_39 : decode cX4_note 39 = .ok (.getfield 27, 3) := by decide +kernel
theorem dX4_note_42 : decode cX4_note 42 = .ok (.bipush 40, 2) := by decide +kernel
theorem dX4_note_44 : decode cX4_note 44 = .ok (.if_icmp .ge 16, 3) := by decide +kernel
theorem dX4_note_47 : decode cX4_note 47 = .ok (.aload_n 0, 1) := by decide +kernel
theorem dX4_note_48 : decode cX4_note 48 = .ok (.dup, 1) := by decide +kernel
theorem dX4_note_49 : decode cX4_note 49 = .ok (.getfield 27, 3) := by decide +kernel
theorem dX4_note_52 : decode cX4_note 52 = .ok (.iconst 1, 1) := by decide +kernel
theorem dX4_note_53 : decode cX4_note 53 = .ok (.iadd, 1) := by decide +kernel
theorem dX4_note_54 : decode cX4_note 54 = .ok (.putfield 27, 3) := by decide +kernel
theorem dX4_note_57 : decode cX4_note 57 = .ok (.goto 16, 3) := by decide +kernel
theorem dX4_note_60 : decode cX4_note 60 = .ok (.aload_n 0, 1) := by decide +kernel
theorem dX4_note_61 : decode cX4_note 61 = .ok (.aload_n 0, 1) := by decide +kernel
theorem dX4_note_62 : decode cX4_note 62 = .ok (.getfield 31, 3) := by decide +kernel
theorem dX4_note_65 : decode cX4_note 65 = .ok (.iconst 1, 1) := by decide +kernel
theorem dX4_note_66 : decode cX4_note 66 = .ok (.iadd, 1) := by decide +kernel
theorem dX4_note_67 : decode cX4_note 67 = .ok (.bipush 40, 2) := by decide +kernel
theorem dX4_note_69 : decode cX4_note 69 = .ok (.irem, 1) := by decide +kernel
theorem dX4_note_70 : decode cX4_note 70 = .ok (.putfield 31, 3) := by decide +kernel
theorem dX4_note_73 : decode cX4_note 73 = .ok (.return_, 1) := by decide +kernel
theorem dX4_entry_0 : decode cX4_entry 0 = .ok (.aload_n 0, 1) := by decide +kernel
theorem dX4_entry_1 : decode cX4_entry 1 = .ok (.getfield 31, 3) := by decide +kernel
theorem dX4_entry_4 : decode cX4_entry 4 = .ok (.iload_n 1, 1) := by decide +kernel
theorem dX4_entry_5 : decode cX4_entry 5 = .ok (.iadd, 1) := by decide +kernel
theorem dX4_entry_6 : decode cX4_entry 6 = .ok (.bipush 40, 2) := by decide +kernel
theorem dX4_entry_8 : decode cX4_entry 8 = .ok (.irem, 1) := by decide +kernel
theorem dX4_entry_9 : decode cX4_entry 9 = .ok (.istore_n 3, 1) := by decide +kernel
theorem dX4_entry_10 : decode cX4_entry 10 = .ok (.iload_n 2, 1) := by decide +kernel
theorem dX4_entry_11 : decode cX4_entry 11 = .ok (.ifCond .ne 12, 3) := by decide +kernel
theorem dX4_entry_14 : decode cX4_entry 14 = .ok (.aload_n 0, 1) := by decide +kernel
theorem dX4_entry_15 : decode cX4_entry 15 = .ok (.getfield 9, 3) := by decide +kernel
theorem dX4_entry_18 : decode cX4_entry 18 = .ok (.iload_n 3, 1) := by decide +kernel
theorem dX4_entry_19 : decode cX4_entry 19 = .ok (.iaload, 1) := by decide +kernel
theorem dX4_entry_20 : decode cX4_entry 20 = .ok (.goto 23, 3) := by decide +kernel
theorem dX4_entry_23 : decode cX4_entry 23 = .ok (.iload_n 2, 1) := by decide +kernel
theorem dX4_entry_24 : decode cX4_entry 24 = .ok (.iconst 1, 1) := by decide +kernel
theorem dX4_entry_25 : decode cX4_entry 25 = .ok (.if_icmp .ne 12, 3) := by decide +kernel
theorem dX4_entry_28 : decode cX4_entry 28 = .ok (.aload_n 0, 1) := by decide +kernel
theorem dX4_entry_29 : decode cX4_entry 29 = .ok (.getfield 15, 3) := by decide +kernel
theorem dX4_entry_32 : decode cX4_entry 32 = .ok (.iload_n 3, 1) := by decide +kernel
theorem dX4_entry_33 : decode cX4_entry 33 = .ok (.iaload, 1) := by decide +kernel
theorem dX4_entry_34 : decode cX4_entry 34 = .ok (.goto 9, 3) := by decide +kernel
theorem dX4_entry_37 : decode cX4_entry 37 = .ok (.aload_n 0, 1) := by decide +kernel
theorem dX4_entry_38 : decode cX4_entry 38 = .ok (.getfield 18, 3) := by decide +kernel
theorem dX4_entry_41 : decode cX4_entry 41 = .ok (.iload_n 3, 1) := by decide +kernel
theorem dX4_entry_42 : decode cX4_entry 42 = .ok (.iaload, 1) := by decide +kernel
theorem dX4_entry_43 : decode cX4_entry 43 = .ok (.ireturn, 1) := by decide +kernel
theorem dX5_init_0 : decode cX5_init 0 = .ok (.aload_n 0, 1) := by decide +kernel
theorem dX5_init_1 : decode cX5_init 1 = .ok (.invokespecial 3, 3) := by decide +kernel
theorem dX5_init_4 : decode cX5_init 4 = .ok (.aload_n 0, 1) := by decide +kernel
theorem dX5_init_5 : decode cX5_init 5 = .ok (.bipush 8, 2) := by decide +kernel
theorem dX5_init_7 : decode cX5_init 7 = .ok (.newarray .int, 2) := by decide +kernel
theorem dX5_init_9 : decode cX5_init 9 = .ok (.putfield 9, 3) := by decide +kernel
theorem dX5_init_12 : decode cX5_init 12 = .ok (.aload_n 0, 1) := by decide +kernel
theorem dX5_init_13 : decode cX5_init 13 = .ok (.bipush 8, 2) := by decide +kernel
theorem dX5_init_15 : decode cX5_init 15 = .ok (.newarray .int, 2) := by decide +kernel
theorem dX5_init_17 : decode cX5_init 17 = .ok (.putfield 15, 3) := by decide +kernel
theorem dX5_init_20 : decode cX5_init 20 = .ok (.aload_n 0, 1) := by decide +kernel
theorem dX5_init_21 : decode cX5_init 21 = .ok (.bipush 8, 2) := by decide +kernel
theorem dX5_init_23 : decode cX5_init 23 = .ok (.newarray .int, 2) := by decide +kernel
theorem dX5_init_25 : decode cX5_init 25 = .ok (.putfield 18, 3) := by decide +kernel
theorem dX5_init_28 : decode cX5_init 28 = .ok (.aload_n 0, 1) := by decide +kernel
theorem dX5_init_29 : decode cX5_init 29 = .ok (.bipush 8, 2) := by decide +kernel
theorem dX5_init_31 : decode cX5_init 31 = .ok (.newarray .int, 2) := by decide +kernel
theorem dX5_init_33 : decode cX5_init 33 = .ok (.putfield 21, 3) := by decide +kernel
theorem dX5_init_36 : decode cX5_init 36 = .ok (.aload_n 0, 1) := by decide +kernel
theorem dX5_init_37 : decode cX5_init 37 = .ok (.bipush 8, 2) := by decide +kernel
theorem dX5_init_39 : decode cX5_init 39 = .ok (.newarray .int, 2) := by decide +kernel
theorem dX5_init_41 : decode cX5_init 41 = .ok (.putfield 24, 3) := by decide +kernel
theorem dX5_init_44 : decode cX5_init 44 = .ok (.aload_n 0, 1) := by decide +kernel
theorem dX5_init_45 : decode cX5_init 45 = .ok (.bipush 8, 2) := by decide +kernel
theorem dX5_init_47 : decode cX5_init 47 = .ok (.newarray .int, 2) := by decide +kernel
theorem dX5_init_49 : decode cX5_init 49 = .ok (.putfield 27, 3) := by decide +kernel
theorem dX5_init_52 : decode cX5_init 52 = .ok (.return_, 1) := by decide +kernel
theorem dX5_clear_0 : decode cX5_clear 0 = .ok (.aload_n 0, 1) := by decide +kernel
theorem dX5_clear_1 : decode cX5_clear 1 = .ok (.iconst 0, 1) := by decide +kernel
theorem dX5_clear_2 : decode cX5_clear 2 = .ok (.putfield 30, 3) := by decide +kernel
theorem dX5_clear_5 : decode cX5_clear 5 = .ok (.aload_n 0, 1) := by decide +kernel
theorem dX5_clear_6 : decode cX5_clear 6 = .ok (.getfield 15, 3) := by decide +kernel
theorem dX5_clear_9 : decode cX5_clear 9 = .ok (.iconst 0, 1) := by decide +kernel
theorem dX5_clear_10 : decode cX5_clear 10 = .ok (.invokestatic 34, 3) := by decide +kernel
theorem dX5_clear_13 : decode cX5_clear 13 = .ok (.aload_n 0, 1) := by decide +kernel
theorem dX5_clear_14 : decode cX5_clear 14 = .ok (.getfield 18, 3) := by decide +kernel
theorem dX5_clear_17 : decode cX5_clear 17 = .ok (.iconst 0, 1) := by decide +kernel
theorem dX5_clear_18 : decode cX5_clear 18 = .ok (.invokestatic 34, 3) := by decide +kernel
theorem dX5_clear_21 : decode cX5_clear 21 = .ok (.aload_n 0, 1) := by decide +kernel
theorem dX5_clear_22 : decode cX5_clear 22 = .ok (.getfield 21, 3) := by decide +kernel
theorem dX5_clear_25 : decode cX5_clear 25 = .ok (.iconst 0, 1) := by decide +kernel
theorem dX5_clear_26 : decode cX5_clear 26 = .ok (.invokestatic 34, 3) := by decide +kernel
theorem dX5_clear_29 : decode cX5_clear 29 = .ok (.aload_n 0, 1) := by decide +kernel
theorem dX5_clear_30 : decode cX5_clear 30 = .ok (.getfield 24, 3) := by decide +kernel
theorem dX5_clear_33 : decode cX5_clear 33 = .ok (.iconst 0, 1) := by decide +kernel
theorem dX5_clear_34 : decode cX5_clear 34 = .ok (.invokestatic 34, 3) := by decide +kernel
theorem dX5_clear_37 : decode cX5_clear 37 = .ok (.aload_n 0, 1) := by decide +kernel
theorem dX5_clear_38 : decode cX5_clear 38 = .ok (.getfield 27, 3) := by decide +kernel
theorem dX5_clear_41 : decode cX5_clear 41 = .ok (.iconst 0, 1) := by decide +kernel
theorem dX5_clear_42 : decode cX5_clear 42 = .ok (.invokestatic 34, 3) := by decide +kernel
theorem dX5_clear_45 : decode cX5_clear 45 = .ok (.return_, 1) := by decide +kernel
theorem dX5_copyFrom_0 : decode cX5_copyFrom 0 = .ok (.aload_n 0, 1) := by decide +kernel
theorem dX5_copyFrom_1 : decode cX5_copyFrom 1 = .ok (.aload_n 1, 1) := by decide +kernel
theorem dX5_copyFrom_2 : decode cX5_copyFrom 2 = .ok (.getfield 30, 3) := by decide +kernel
theorem dX5_copyFrom_5 : decode cX5_copyFrom 5 = .ok (.putfield 30, 3) := by decide +kernel
theorem dX5_copyFrom_8 : decode cX5_copyFrom 8 = .ok (.aload_n 1, 1) := by decide +kernel
theorem dX5_copyFrom_9 : decode cX5_copyFrom 9 = .ok (.getfield 9, 3) := by decide +kernel
theorem dX5_copyFrom_12 : decode cX5_copyFrom 12 = .ok (.iconst 0, 1) := by decide +kernel
theorem dX5_copyFrom_13 : decode cX5_copyFrom 13 = .ok (.aload_n 0, 1) := by decide +kernel
theorem dX5_copyFrom_14 : decode cX5_copyFrom 14 = .ok (.getfield 9, 3) := by decide +kernel
theorem dX5_copyFrom_17 : decode cX5_copyFrom 17 = .ok (.iconst 0, 1) := by decide +kernel
theorem dX5_copyFrom_18 : decode cX5_copyFrom 18 = .ok (.bipush 8, 2) := by decide +kernel
theorem dX5_copyFrom_20 : decode cX5_copyFrom 20 = .ok (.invokestatic 40, 3) := by decide +kernel
theorem dX5_copyFrom_23 : decode cX5_copyFrom 23 = .ok (.aload_n 1, 1) := by decide +kernel
theorem dX5_copyFrom_24 : decode cX5_copyFrom 24 = .ok (.getfield 15, 3) := by decide +kernel
theorem dX5_copyFrom_27 : decode cX5_copyFrom 27 = .ok (.iconst 0, 1) := by decide +kernel
theorem dX5_copyFrom_28 : decode cX5_copyFrom 28 = .ok (.aload_n 0, 1) := by decide +kernel
theorem dX5_copyFrom_29 : decode cX5_copyFrom 29 = .ok (.getfield 15, 3) := by decide +kernel
theorem dX5_copyFrom_32 : decode cX5_copyFrom 32 = .ok (.iconst 0, 1) := by decide +kernel
theorem dX5_copyFrom_33 : decode cX5_copyFrom 33 = .ok (.bipush 8, 2) := by decide +kernel
theorem dX5_copyFrom_35 : decode cX5_copyFrom 35 = .ok (.invokestatic 40, 3) := by decide +kernel
theorem dX5_copyFrom_38 : decode cX5_copyFrom 38 = .ok (.aload_n 1, 1) := by decide +kernel
theorem dX5_copyFrom_39 : decode cX5_copyFrom 39 = .ok (.getfield 18, 3) := by decide +kernel
theorem dX5_copyFrom_42 : decode cX5_copyFrom 42 = .ok (.iconst 0, 1) := by decide +kernel
theorem dX5_copyFrom_43 : decode cX5_copyFrom 43 = .ok (.aload_n 0, 1) := by decide +kernel
theorem dX5_copyFrom_44 : decode cX5_copyFrom 44 = .ok (.getfield 18, 3) := by decide +kernel
theorem dX5_copyFrom_47 : decode cX5_copyFrom 47 = .ok (.iconst 0, 1) := by decide +kernel
theorem dX5_copyFrom_48 : decode cX5_copyFrom 48 = .ok (.bipush 8, 2) := by decide +kernel
theorem dX5_copyFrom_50 : decode cX5_copyFrom 50 = .ok (.invokestatic 40, 3) := by decide +kernel
theorem dX5_copyFrom_53 : decode cX5_copyFrom 53 = .ok (.aload_n 1, 1) := by decide +kernel
theorem dX5_copyFrom_54 : decode cX5_copyFrom 54 = .ok (.getfield 21, 3) := by decide +kernel
theorem dX5_copyFrom_57 : decode cX5_copyFrom 57 = .ok (.iconst 0, 1) := by decide +kernel
theorem dX5_copyFrom_58 : decode cX5_copyFrom 58 = .ok (.aload_n 0, 1) := by decide +kernel
theorem dX5_copyFrom_59 : decode cX5_copyFrom 59 = .ok (.getfield 21, 3) := by decide +kernel
theorem dX5_copyFrom_62 : decode cX5_copyFrom 62 = .ok (.iconst 0, 1) := by decide +kernel
theorem dX5_copyFrom_63 : decode cX5_copyFrom 63 = .ok (.bipush 8, 2) := by decide +kernel
theorem dX5_copyFrom_65 : decode cX5_copyFrom 65 = .ok (.invokestatic 40, 3) := by decide +kernel
theorem dX5_copyFrom_68 : decode cX5_copyFrom 68 = .ok (.aload_n 1, 1) := by decide +kernel
theorem dX5_copyFrom_69 : decode cX5_copyFrom 69 = .ok (.getfield 24, 3) := by decide +kernel
theorem dX5_copyFrom_72 : decode cX5_copyFrom 72 = .ok (.iconst 0, 1) := by decide +kernel
theorem dX5_copyFrom_73 : decode cX5_copyFrom 73 = .ok (.aload_n 0, 1) := by decide +kernel
theorem dX5_copyFrom_74 : decode cX5_copyFrom 74 = .ok (.getfield 24, 3) := by decide +kernel
theorem dX5_copyFrom_77 : decode cX5_copyFrom 77 = .ok (.iconst 0, 1) := by decide +kernel
theorem dX5_copyFrom_78 : decode cX5_copyFrom 78 = .ok (.bipush 8, 2) := by decide +kernel
theorem dX5_copyFrom_80 : decode cX5_copyFrom 80 = .ok (.invokestatic 40, 3) := by decide +kernel
theorem dX5_copyFrom_83 : decode cX5_copyFrom 83 = .ok (.aload_n 1, 1) := by decide +kernel
theorem dX5_copyFrom_84 : decode cX5_copyFrom 84 = .ok (.getfield 27, 3) := by decide +kernel
theorem dX5_copyFrom_87 : decode cX5_copyFrom 87 = .ok (.iconst 0, 1) := by decide +kernel
theorem dX5_copyFrom_88 : decode cX5_copyFrom 88 = .ok (.aload_n 0, 1) := by decide +kernel
theorem dX5_copyFrom_89 : decode cX5_copyFrom 89 = .ok (.getfield 27, 3) := by decide +kernel
theorem dX5_copyFrom_92 : decode cX5_copyFrom 92 = .ok (.iconst 0, 1) := by decide +kernel
theorem dX5_copyFrom_93 : decode cX5_copyFrom 93 = .ok (.bipush 8, 2) := by decide +kernel
theorem dX5_copyFrom_95 : decode cX5_copyFrom 95 = .ok (.invokestatic 40, 3) := by decide +kernel
theorem dX5_copyFrom_98 : decode cX5_copyFrom 98 = .ok (.return_, 1) := by decide +kernel
theorem dX5_add_0 : decode cX5_add 0 = .ok (.aload_n 0, 1) := by decide +kernel
theorem dX5_add_1 : decode cX5_add 1 = .ok (.getfield 30, 3) := by decide +kernel
theorem dX5_add_4 : decode cX5_add 4 = .ok (.bipush 8, 2) := by decide +kernel
theorem dX5_add_6 : decode cX5_add 6 = .ok (.if_icmp .ge 23, 3) := by decide +kernel
theorem dX5_add_9 : decode cX5_add 9 = .ok (.aload_n 0, 1) := by decide +kernel
theorem dX5_add_10 : decode cX5_add 10 = .ok (.getfield 9, 3) := by decide +kernel
theorem dX5_add_13 : decode cX5_add 13 = .ok (.aload_n 0, 1) := by decide +kernel
theorem dX5_add_14 : decode cX5_add 14 = .ok (.getfield 30, 3) := by decide +kernel
theorem dX5_add_17 : decode cX5_add 17 = .ok (.iload_n 1, 1) := by decide +kernel
theorem dX5_add_18 : decode cX5_add 18 = .ok (.iastore, 1) := by decide +kernel
theorem dX5_add_19 : decode cX5_add 19 = .ok (.aload_n 0, 1) := by decide +kernel
theorem dX5_add_20 : decode cX5_add 20 = .ok (.dup, 1) := by decide +kernel
theorem dX5_add_21 : decode cX5_add 21 = .ok (.getfield 30, 3) := by decide +kernel
theorem dX5_add_24 : decode cX5_add 24 = .ok (.iconst 1, 1) := by decide +kernel
theorem dX5_add_25 : decode cX5_add 25 = .ok (.iadd, 1) := by decide +kernel
theorem dX5_add_26 : decode cX5_add 26 = .ok (.putfield 30, 3) := by decide +kernel
theorem dX5_add_29 : decode cX5_add 29 = .ok (.return_, 1) := by decide +kernel
theorem dX6_init_0 : decode cX6_init 0 = .ok (.aload_n 0, 1) := by decide +kernel
theorem dX6_init_1 : decode cX6_init 1 = .ok (.invokespecial 3, 3) := by decide +kernel
theorem dX6_init_4 : decode cX6_init 4 = .ok (.aload_n 0, 1) := by decide +kernel
theorem dX6_init_5 : decode cX6_init 5 = .ok (.bipush 15, 2) := by decide +kernel
theorem dX6_init_7 : decode cX6_init 7 = .ok (.newarray .int, 2) := by decide +kernel
theorem dX6_init_9 : decode cX6_init 9 = .ok (.putfield 9, 3) := by decide +kernel
theorem dX6_init_12 : decode cX6_init 12 = .ok (.aload_n 0, 1) := by decide +kernel
theorem dX6_init_13 : decode cX6_init 13 = .ok (.iconst 4, 1) := by decide +kernel
theorem dX6_init_14 : decode cX6_init 14 = .ok (.anewarray 15, 3) := by decide +kernel
theorem dX6_init_17 : decode cX6_init 17 = .ok (.putfield 17, 3) := by decide +kernel
theorem dX6_init_20 : decode cX6_init 20 = .ok (.aload_n 0, 1) := by decide +kernel
theorem dX6_init_21 : decode cX6_init 21 = .ok (.bipush 6, 2) := by decide +kernel
theorem dX6_init_23 : decode cX6_init 23 = .ok (.newarray .int, 2) := by decide +kernel
theorem dX6_init_25 : decode cX6_init 25 = .ok (.putfield 21, 3) := by decide +kernel
theorem dX6_init_28 : decode cX6_init 28 = .ok (.aload_n 0, 1) := by decide +kernel
theorem dX6_init_29 : decode cX6_init 29 = .ok (.new 24, 3) := by decide +kernel
theorem dX6_init_32 : decode cX6_init 32 = .ok (.dup, 1) := by decide +kernel
theorem dX6_init_33 : decode cX6_init 33 = .ok (.invokespecial 26, 3) := by decide +kernel
theorem dX6_init_36 : decode cX6_init 36 = .ok (.putfield 27, 3) := by decide +kernel
theorem dX6_init_39 : decode cX6_init 39 = .ok (.aload_n 0, 1) := by decide +kernel
theorem dX6_init_40 : decode cX6_init 40 = .ok (.bipush 10, 2) := by decide +kernel
theorem dX6_init_42 : decode cX6_init 42 = .ok (.anewarray 31, 3) := by decide +kernel
theorem dX6_init_45 : decode cX6_init 45 = .ok (.putfield 33, 3) := by decide +kernel
theorem dX6_init_48 : decode cX6_init 48 = .ok (.aload_n 0, 1) := by decide +kernel
theorem dX6_init_49 : decode cX6_init 49 = .ok (.new 37, 3) := by decide +kernel
theorem dX6_init_52 : decode cX6_init 52 = .ok (.dup, 1) := by decide +kernel
theorem dX6_init_53 : decode cX6_init 53 = .ok (.invokespecial 39, 3) := by decide +kernel
theorem dX6_init_56 : decode cX6_init 56 = .ok (.putfield 40, 3) := by decide +kernel
theorem dX6_init_59 : decode cX6_init 59 = .ok (.aload_n 0, 1) := by decide +kernel
theorem dX6_init_60 : decode cX6_init 60 = .ok (.new 44, 3) := by decide +kernel
theorem dX6_init_63 : decode cX6_init 63 = .ok (.dup, 1) := by decide +kernel
theorem dX6_init_64 : decode cX6_init 64 = .ok (.invokespecial 46, 3) := by decide +kernel
theorem dX6_init_67 : decode cX6_init 67 = .ok (.putfield 47, 3) := by decide +kernel
theorem dX6_init_70 : decode cX6_init 70 = .ok (.iconst 0, 1) := by decide +kernel
theorem dX6_init_71 : decode cX6_init 71 = .ok (.istore_n 1, 1) := by decide +kernel
theorem dX6_init_72 : decode cX6_init 72 = .ok (.iload_n 1, 1) := by decide +kernel
theorem dX6_init_73 : decode cX6_init 73 = .ok (.iconst 4, 1) := by decide +kernel
theorem dX6_init_74 : decode cX6_init 74 = .ok (.if_icmp .ge 22, 3) := by decide +kernel
theorem dX6_init_77 : decode cX6_init 77 = .ok (.aload_n 0, 1) := by decide +kernel
theorem dX6_init_78 : decode cX6_init 78 = .ok (.getfield 17, 3) := by decide +kernel
theorem dX6_init_81 : decode cX6_init 81 = .ok (.iload_n 1, 1) := by decide +kernel
theorem dX6_init_82 : decode cX6_init 82 = .ok (.new 15, 3) := by decide +kernel
theorem dX6_init_85 : decode cX6_init 85 = .ok (.dup, 1) := by decide +kernel
theorem dX6_init_86 : decode cX6_init 86 = .ok (.invokespecial 51, 3) := by decide +kernel
theorem dX6_init_89 : decode cX6_init 89 = .ok (.aastore, 1) := by decide +kernel
theorem dX6_init_90 : decode cX6_init 90 = .ok (.iinc 1 1, 3) := by decide +kernel
theorem dX6_init_93 : decode cX6_init 93 = .ok (.goto (-21), 3) := by decide +kernel
theorem dX6_init_96 : decode cX6_init 96 = .ok (.iconst 0, 1) := by decide +kernel
theorem dX6_init_97 : decode cX6_init 97 = .ok (.istore_n 1, 1) := by decide +kernel
theorem dX6_init_98 : decode cX6_init 98 = .ok (.iload_n 1, 1) := by decide +kernel
theorem dX6_init_99 : decode cX6_init 99 = .ok (.bipush 10, 2) := by decide +kernel
theorem dX6_init_101 : decode cX6_init 101 = .ok (.if_icmp .ge 22, 3) := by decide +kernel
theorem dX6_init_104 : decode cX6_init 104 = .ok (.aload_n 0, 1) := by decide +kernel
theorem dX6_init_105 : decode cX6_init 105 = .ok (.getfield 33, 3) := by decide +kernel
theorem dX6_init_108 : decode cX6_init 108 = .ok (.iload_n 1, 1) := by decide +kernel
theorem dX6_init_109 : decode cX6_init 109 = .ok (.new 31, 3) := by decide +kernel
theorem dX6_init_112 : decode cX6_init 112 = .ok (.dup, 1) := by decide +kernel
theorem dX6_init_113 : decode cX6_init 113 = .ok (.invokespecial 52, 3) := by decide +kernel
theorem dX6_init_116 : decode cX6_init 116 = .ok (.aastore, 1) := by decide +kernel
theorem dX6_init_117 : decode cX6_init 117 = .ok (.iinc 1 1, 3) := by decide +kernel
theorem dX6_init_120 : decode cX6_init 120 = .ok (.goto (-22), 3) := by decide +kernel
theorem dX6_init_123 : decode cX6_init 123 = .ok (.aload_n 0, 1) := by decide +kernel
theorem dX6_init_124 : decode cX6_init 124 = .ok (.invokevirtual 53, 3) := by decide +kernel
theorem dX6_init_127 : decode cX6_init 127 = .ok (.return_, 1) := by decide +kernel
theorem dX6_clear_0 : decode cX6_clear 0 = .ok (.getstatic 56, 3) := by decide +kernel
theorem dX6_clear_3 : decode cX6_clear 3 = .ok (.iconst 0, 1) := by decide +kernel
theorem dX6_clear_4 : decode cX6_clear 4 = .ok (.aload_n 0, 1) := by decide +kernel
theorem dX6_clear_5 : decode cX6_clear 5 = .ok (.getfield 9, 3) := by decide +kernel
theorem dX6_clear_8 : decode cX6_clear 8 = .ok (.iconst 0, 1) := by decide +kernel
theorem dX6_clear_9 : decode cX6_clear 9 = .ok (.bipush 15, 2) := by decide +kernel
theorem dX6_clear_11 : decode cX6_clear 11 = .ok (.invokestatic 59, 3) := by decide +kernel
theorem dX6_clear_14 : decode cX6_clear 14 = .ok (.aload_n 0, 1) := by decide +kernel
theorem dX6_clear_15 : decode cX6_clear 15 = .ok (.iconst 1, 1) := by decide +kernel
theorem dX6_clear_16 : decode cX6_clear 16 = .ok (.putfield 65, 3) := by decide +kernel
theorem dX6_clear_19 : decode cX6_clear 19 = .ok (.iconst 0, 1) := by decide +kernel
theorem dX6_clear_20 : decode cX6_clear 20 = .ok (.istore_n 1, 1) := by decide +kernel
theorem dX6_clear_21 : decode cX6_clear 21 = .ok (.iload_n 1, 1) := by decide +kernel
theorem dX6_clear_22 : decode cX6_clear 22 = .ok (.iconst 4, 1) := by decide +kernel
theorem dX6_clear_23 : decode cX6_clear 23 = .ok (.if_icmp .ge 18, 3) := by decide +kernel
theorem dX6_clear_26 : decode cX6_clear 26 = .ok (.aload_n 0, 1) := by decide +kernel
theorem dX6_clear_27 : decode cX6_clear 27 = .ok (.getfield 17, 3) := by decide +kernel
theorem dX6_clear_30 : decode cX6_clear 30 = .ok (.iload_n 1, 1) := by decide +kernel
theorem dX6_clear_31 : decode cX6_clear 31 = .ok (.aaload, 1) := by decide +kernel
theorem dX6_clear_32 : decode cX6_clear 32 = .ok (.invokevirtual 69, 3) := by decide +kernel
theorem dX6_clear_35 : decode cX6_clear 35 = .ok (.iinc 1 1, 3) := by decide +kernel
theorem dX6_clear_38 : decode cX6_clear 38 = .ok (.goto (-17), 3) := by decide +kernel
theorem dX6_clear_41 : decode cX6_clear 41 = .ok (.aload_n 0, 1) := by decide +kernel
theorem dX6_clear_42 : decode cX6_clear 42 = .ok (.iconst 0, 1) := by decide +kernel
theorem dX6_clear_43 : decode cX6_clear 43 = .ok (.putfield 70, 3) := by decide +kernel
theorem dX6_clear_46 : decode cX6_clear 46 = .ok (.aload_n 0, 1) := by decide +kernel
theorem dX6_clear_47 : decode cX6_clear 47 = .ok (.getfield 27, 3) := by decide +kernel
theorem dX6_clear_50 : decode cX6_clear 50 = .ok (.invokevirtual 73, 3) := by decide +kernel
theorem dX6_clear_53 : decode cX6_clear 53 = .ok (.aload_n 0, 1) := by decide +kernel
theorem dX6_clear_54 : decode cX6_clear 54 = .ok (.iconst 0, 1) := by decide +kernel
theorem dX6_clear_55 : decode cX6_clear 55 = .ok (.putfield 74, 3) := by decide +kernel
theorem dX6_clear_58 : decode cX6_clear 58 = .ok (.aload_n 0, 1) := by decide +kernel
theorem dX6_clear_59 : decode cX6_clear 59 = .ok (.getfield 40, 3) := by decide +kernel
theorem dX6_clear_62 : decode cX6_clear 62 = .ok (.invokevirtual 77, 3) := by decide +kernel
theorem dX6_clear_65 : decode cX6_clear 65 = .ok (.aload_n 0, 1) := by decide +kernel
theorem dX6_clear_66 : decode cX6_clear 66 = .ok (.iconst 1, 1) := by decide +kernel
theorem dX6_clear_67 : decode cX6_clear 67 = .ok (.putfield 78, 3) := by decide +kernel
theorem dX6_clear_70 : decode cX6_clear 70 = .ok (.aload_n 0, 1) := by decide +kernel
theorem dX6_clear_71 : decode cX6_clear 71 = .ok (.getfield 47, 3) := by decide +kernel
theorem dX6_clear_74 : decode cX6_clear 74 = .ok (.invokevirtual 81, 3) := by decide +kernel
theorem dX6_clear_77 : decode cX6_clear 77 = .ok (.aload_n 0, 1) := by decide +kernel
theorem dX6_clear_78 : decode cX6_clear 78 = .ok (.iconst 0, 1) := by decide +kernel
theorem dX6_clear_79 : decode cX6_clear 79 = .ok (.putfield 82, 3) := by decide +kernel
theorem dX6_clear_82 : decode cX6_clear 82 = .ok (.aload_n 0, 1) := by decide +kernel
theorem dX6_clear_83 : decode cX6_clear 83 = .ok (.iconst 0, 1) := by decide +kernel
theorem dX6_clear_84 : decode cX6_clear 84 = .ok (.putfield 85, 3) := by decide +kernel
theorem dX6_clear_87 : decode cX6_clear 87 = .ok (.aload_n 0, 1) := by decide +kernel
theorem dX6_clear_88 : decode cX6_clear 88 = .ok (.iconst 0, 1) := by decide +kernel
theorem dX6_clear_89 : decode cX6_clear 89 = .ok (.putfield 88, 3) := by decide +kernel
theorem dX6_clear_92 : decode cX6_clear 92 = .ok (.aload_n 0, 1) := by decide +kernel
theorem dX6_clear_93 : decode cX6_clear 93 = .ok (.iconst 0, 1) := by decide +kernel
theorem dX6_clear_94 : decode cX6_clear 94 = .ok (.putfield 91, 3) := by decide +kernel
theorem dX6_clear_97 : decode cX6_clear 97 = .ok (.aload_n 0, 1) := by decide +kernel
theorem dX6_clear_98 : decode cX6_clear 98 = .ok (.iconst 0, 1) := by decide +kernel
theorem dX6_clear_99 : decode cX6_clear 99 = .ok (.putfield 94, 3) := by decide +kernel
theorem dX6_clear_102 : decode cX6_clear 102 = .ok (.return_, 1) := by decide +kernel
theorem dX6_copyFrom_0 : decode cX6_copyFrom 0 = .ok (.aload_n 1, 1) := by decide +kernel
theorem dX6_copyFrom_1 : decode cX6_copyFrom 1 = .ok (.getfield 9, 3) := by decide +kernel
theorem dX6_copyFrom_4 : decode cX6_copyFrom 4 = .ok (.iconst 0, 1) := by decide +kernel
theorem dX6_copyFrom_5 : decode cX6_copyFrom 5 = .ok (.aload_n 0, 1) := by decide +kernel
theorem dX6_copyFrom_6 : decode cX6_copyFrom 6 = .ok (.getfield 9, 3) := by decide +kernel
theorem dX6_copyFrom_9 : decode cX6_copyFrom 9 = .ok (.iconst 0, 1) := by decide +kernel
theorem dX6_copyFrom_10 : decode cX6_copyFrom 10 = .ok (.bipush 15, 2) := by decide +kernel
theorem dX6_copyFrom_12 : decode cX6_copyFrom 12 = .ok (.invokestatic 59, 3) := by decide +kernel
theorem dX6_copyFrom_15 : decode cX6_copyFrom 15 = .ok (.aload_n 0, 1) := by decide +kernel
theorem dX6_copyFrom_16 : decode cX6_copyFrom 16 = .ok (.aload_n 1, 1) := by decide +kernel
theorem dX6_copyFrom_17 : decode cX6_copyFrom 17 = .ok (.getfield 65, 3) := by decide +kernel
theorem dX6_copyFrom_20 : decode cX6_copyFrom 20 = .ok (.putfield 65, 3) := by decide +kernel
theorem dX6_copyFrom_23 : decode cX6_copyFrom 23 = .ok (.iconst 0, 1) := by decide +kernel
theorem dX6_copyFrom_24 : decode cX6_copyFrom 24 = .ok (.istore_n 2, 1) := by decide +kernel
theorem dX6_copyFrom_25 : decode cX6_copyFrom 25 = .ok (.iload_n 2, 1) := by decide +kernel
theorem dX6_copyFrom_26 : decode cX6_copyFrom 26 = .ok (.aload_n 0, 1) := by decide +kernel
theorem dX6_copyFrom_27 : decode cX6_copyFrom 27 = .ok (.getfield 65, 3) := by decide +kernel
theorem dX6_copyFrom_30 : decode cX6_copyFrom 30 = .ok (.if_icmp .ge 24, 3) := by decide +kernel
theorem dX6_copyFrom_33 : decode cX6_copyFrom 33 = .ok (.aload_n 0, 1) := by decide +kernel
theorem dX6_copyFrom_34 : decode cX6_copyFrom 34 = .ok (.getfield 17, 3) := by decide +kernel
theorem dX6_copyFrom_37 : decode cX6_copyFrom 37 = .ok (.iload_n 2, 1) := by decide +kernel
theorem dX6_copyFrom_38 : decode cX6_copyFrom 38 = .ok (.aaload, 1) := by decide +kernel
theorem dX6_copyFrom_39 : decode cX6_copyFrom 39 = .ok (.aload_n 1, 1) := by decide +kernel
theorem dX6_copyFrom_40 : decode cX6_copyFrom 40 = .ok (.getfield 17, 3) := by decide +kernel
theorem dX6_copyFrom_43 : decode cX6_copyFrom 43 = .ok (.iload_n 2, 1) := by decide +kernel
theorem dX6_copyFrom_44 : decode cX6_copyFrom 44 = .ok (.aaload, 1) := by decide +kernel
theorem dX6_copyFrom_45 : decode cX6_copyFrom 45 = .ok (.invokevirtual 98, 3) := by decide +kernel
theorem dX6_copyFrom_48 : decode cX6_copyFrom 48 = .ok (.iinc 2 1, 3) := by decide +kernel
theorem dX6_copyFrom_51 : decode cX6_copyFrom 51 = .ok (.goto (-26), 3) := by decide +kernel
theorem dX6_copyFrom_54 : decode cX6_copyFrom 54 = .ok (.aload_n 0, 1) := by decide +kernel
theorem dX6_copyFrom_55 : decode cX6_copyFrom 55 = .ok (.aload_n 1, 1) := by decide +kernel
theorem dX6_copyFrom_56 : decode cX6_copyFrom 56 = .ok (.getfield 70, 3) := by decide +kernel
theorem dX6_copyFrom_59 : decode cX6_copyFrom 59 = .ok (.putfield 70, 3) := by decide +kernel
theorem dX6_copyFrom_62 : decode cX6_copyFrom 62 = .ok (.aload_n 1, 1) := by decide +kernel
theorem dX6_copyFrom_63 : decode cX6_copyFrom 63 = .ok (.getfield 21, 3) := by decide +kernel
theorem dX6_copyFrom_66 : decode cX6_copyFrom 66 = .ok (.iconst 0, 1) := by decide +kernel
theorem dX6_copyFrom_67 : decode cX6_copyFrom 67 = .ok (.aload_n 0, 1) := by decide +kernel
theorem dX6_copyFrom_68 : decode cX6_copyFrom 68 = .ok (.getfield 21, 3) := by decide +kernel
theorem dX6_copyFrom_71 : decode cX6_copyFrom 71 = .ok (.iconst 0, 1) := by decide +kernel
theorem dX6_copyFrom_72 : decode cX6_copyFrom 72 = .ok (.bipush 6, 2) := by decide +kernel
theorem dX6_copyFrom_74 : decode cX6_copyFrom 74 = .ok (.invokestatic 59, 3) := by decide +kernel
theorem dX6_copyFrom_77 : decode cX6_copyFrom 77 = .ok (.aload_n 0, 1) := by decide +kernel
theorem dX6_copyFrom_78 : decode cX6_copyFrom 78 = .ok (.getfield 27, 3) := by decide +kernel
theorem dX6_copyFrom_81 : decode cX6_copyFrom 81 = .ok (.aload_n 1, 1) := by decide +kernel
theorem dX6_copyFrom_82 : decode cX6_copyFrom 82 = .ok (.getfield 27, 3) := by decide +kernel
theorem dX6_copyFrom_85 : decode cX6_copyFrom 85 = .ok (.invokevirtual 102, 3) := by decide +kernel
theorem dX6_copyFrom_88 : decode cX6_copyFrom 88 = .ok (.aload_n 0, 1) := by decide +kernel
theorem dX6_copyFrom_89 : decode cX6_copyFrom 89 = .ok (.aload_n 1, 1) := by decide +kernel
theorem dX6_copyFrom_90 : decode cX6_copyFrom 90 = .ok (.getfield 74, 3) := by decide +kernel
theorem dX6_copyFrom_93 : decode cX6_copyFrom 93 = .ok (.putfield 74, 3) := by decide +kernel
theorem dX6_copyFrom_96 : decode cX6_copyFrom 96 = .ok (.iconst 0, 1) := by decide +kernel
theorem dX6_copyFrom_97 : decode cX6_copyFrom 97 = .ok (.istore_n 2, 1) := by decide +kernel
theorem dX6_copyFrom_98 : decode cX6_copyFrom 98 = .ok (.iload_n 2, 1) := by decide +kernel
theorem dX6_copyFrom_99 : decode cX6_copyFrom 99 = .ok (.aload_n 0, 1) := by decide +kernel
theorem dX6_copyFrom_100 : decode cX6_copyFrom 100 = .ok (.getfield 74, 3) := by decide +kernel
theorem dX6_copyFrom_103 : decode cX6_copyFrom 103 = .ok (.if_icmp .ge 24, 3) := by decide +kernel
theorem dX6_copyFrom_106 : decode cX6_copyFrom 106 = .ok (.aload_n 0, 1) := by decide +kernel
theorem dX6_copyFrom_107 : decode cX6_copyFrom 107 = .ok (.getfield 33, 3) := by decide +kernel
theorem dX6_copyFrom_110 : decode cX6_copyFrom 110 = .ok (.iload_n 2, 1) := by decide +kernel
theorem dX6_copyFrom_111 : decode cX6_copyFrom 111 = .ok (.aaload, 1) := by decide +kernel
theorem dX6_copyFrom_112 : decode cX6_copyFrom 112 = .ok (.aload_n 1, 1) := by decide +kernel
theorem dX6_copyFrom_113 : decode cX6_copyFrom 113 = .ok (.getfield 33, 3) := by decide +kernel
theorem dX6_copyFrom_116 : decode cX6_copyFrom 116 = .ok (.iload_n 2, 1) := by decide +kernel
theorem dX6_copyFrom_117 : decode cX6_copyFrom 117 = .ok (.aaload, 1) := by decide +kernel
theorem dX6_copyFrom_118 : decode cX6_copyFrom 118 = .ok (.invokevirtual 105, 3) := by decide +kernel
theorem dX6_copyFrom_121 : decode cX6_copyFrom 121 = .ok (.iinc 2 1, 3) := by decide +kernel
theorem dX6_copyFrom_124 : decode cX6_copyFrom 124 = .ok (.goto (-26), 3) := by decide +kernel
theorem dX6_copyFrom_127 : decode cX6_copyFrom 127 = .ok (.aload_n 0, 1) := by decide +kernel
theorem dX6_copyFrom_128 : decode cX6_copyFrom 128 = .ok (.getfield 40, 3) := by decide +kernel
theorem dX6_copyFrom_131 : decode cX6_copyFrom 131 = .ok (.aload_n 1, 1) := by decide +kernel
theorem dX6_copyFrom_132 : decode cX6_copyFrom 132 = .ok (.getfield 40, 3) := by decide +kernel
theorem dX6_copyFrom_135 : decode cX6_copyFrom 135 = .ok (.invokevirtual 108, 3) := by decide +kernel
theorem dX6_copyFrom_138 : decode cX6_copyFrom 138 = .ok (.aload_n 0, 1) := by decide +kernel
theorem dX6_copyFrom_139 : decode cX6_copyFrom 139 = .ok (.aload_n 1, 1) := by decide +kernel
theorem dX6_copyFrom_140 : decode cX6_copyFrom 140 = .ok (.getfield 78, 3) := by decide +kernel
theorem dX6_copyFrom_143 : decode cX6_copyFrom 143 = .ok (.putfield 78, 3) := by decide +kernel
theorem dX6_copyFrom_146 : decode cX6_copyFrom 146 = .ok (.aload_n 0, 1) := by decide +kernel
theorem dX6_copyFrom_147 : decode cX6_copyFrom 147 = .ok (.getfield 47, 3) := by decide +kernel
theorem dX6_copyFrom_150 : decode cX6_copyFrom 150 = .ok (.aload_n 1, 1) := by decide +kernel
theorem dX6_copyFrom_151 : decode cX6_copyFrom 151 = .ok (.getfield 47, 3) := by decide +kernel
theorem dX6_copyFrom_154 : decode cX6_copyFrom 154 = .ok (.invokevirtual 111, 3) := by decide +kernel
theorem dX6_copyFrom_157 : decode cX6_copyFrom 157 = .ok (.aload_n 0, 1) := by decide +kernel
theorem dX6_copyFrom_158 : decode cX6_copyFrom 158 = .ok (.aload_n 1, 1) := by decide +kernel
theorem dX6_copyFrom_159 : decode cX6_copyFrom 159 = .ok (.getfield 82, 3) := by decide +kernel
theorem dX6_copyFrom_162 : decode cX6_copyFrom 162 = .ok (.putfield 82, 3) := by decide +kernel
theorem dX6_copyFrom_165 : decode cX6_copyFrom 165 = .ok (.aload_n 0, 1) := by decide +kernel
theorem dX6_copyFrom_166 : decode cX6_copyFrom 166 = .ok (.aload_n 1, 1) := by decide +kernel
theorem dX6_copyFrom_167 : decode cX6_copyFrom 167 = .ok (.getfield 85, 3) := by decide +kernel
theorem dX6_copyFrom_170 : decode cX6_copyFrom 170 = .ok (.putfield 85, 3) := by decide +kernel
theorem dX6_copyFrom_173 : decode cX6_copyFrom 173 = .ok (.aload_n 0, 1) := by decide +kernel
theorem dX6_copyFrom_174 : decode cX6_copyFrom 174 = .ok (.aload_n 1, 1) := by decide +kernel
theorem dX6_copyFrom_175 : decode cX6_copyFrom 175 = .ok (.getfield 88, 3) := by decide +kernel
theorem dX6_copyFrom_178 : decode cX6_copyFrom 178 = .ok (.putfield 88, 3) := by decide +kernel
theorem dX6_copyFrom_181 : decode cX6_copyFrom 181 = .ok (.aload_n 0, 1) := by decide +kernel
theorem dX6_copyFrom_182 : decode cX6_copyFrom 182 = .ok (.aload_n 1, 1) := by decide +kernel
theorem dX6_copyFrom_183 : decode cX6_copyFrom 183 = .ok (.getfield 91, 3) := by decide +kernel
theorem dX6_copyFrom_186 : decode cX6_copyFrom 186 = .ok (.putfield 91, 3) := by decide +kernel
theorem dX6_copyFrom_189 : decode cX6_copyFrom 189 = .ok (.aload_n 0, 1) := by decide +kernel
theorem dX6_copyFrom_190 : decode cX6_copyFrom 190 = .ok (.aload_n 1, 1) := by decide +kernel
theorem dX6_copyFrom_191 : decode cX6_copyFrom 191 = .ok (.getfield 94, 3) := by decide +kernel
theorem dX6_copyFrom_194 : decode cX6_copyFrom 194 = .ok (.putfield 94, 3) := by decide +kernel
theorem dX6_copyFrom_197 : decode cX6_copyFrom 197 = .ok (.return_, 1) := by decide +kernel
theorem dX6_addType_0 : decode cX6_addType 0 = .ok (.aload_n 0, 1) := by decide +kernel
theorem dX6_addType_1 : decode cX6_addType 1 = .ok (.getfield 70, 3) := by decide +kernel
theorem dX6_addType_4 : decode cX6_addType 4 = .ok (.bipush 6, 2) := by decide +kernel
theorem dX6_addType_6 : decode cX6_addType 6 = .ok (.if_icmp .ge 23, 3) := by decide +kernel
theorem dX6_addType_9 : decode cX6_addType 9 = .ok (.aload_n 0, 1) := by decide +kernel
theorem dX6_addType_10 : decode cX6_addType 10 = .ok (.getfield 21, 3) := by decide +kernel
theorem dX6_addType_13 : decode cX6_addType 13 = .ok (.aload_n 0, 1) := by decide +kernel
theorem dX6_addType_14 : decode cX6_addType 14 = .ok (.getfield 70, 3) := by decide +kernel
theorem dX6_addType_17 : decode cX6_addType 17 = .ok (.iload_n 1, 1) := by decide +kernel
theorem dX6_addType_18 : decode cX6_addType 18 = .ok (.iastore, 1) := by decide +kernel
theorem dX6_addType_19 : decode cX6_addType 19 = .ok (.aload_n 0, 1) := by decide +kernel
theorem dX6_addType_20 : decode cX6_addType 20 = .ok (.dup, 1) := by decide +kernel
theorem dX6_addType_21 : decode cX6_addType 21 = .ok (.getfield 70, 3) := by decide +kernel
theorem dX6_addType_24 : decode cX6_addType 24 = .ok (.iconst 1, 1) := by decide +kernel
theorem dX6_addType_25 : decode cX6_addType 25 = .ok (.iadd, 1) := by decide +kernel
theorem dX6_addType_26 : decode cX6_addType 26 = .ok (.putfield 70, 3) := by decide +kernel
theorem dX6_addType_29 : decode cX6_addType 29 = .ok (.return_, 1) := by decide +kernel
theorem dX6_addFeeder_0 : decode cX6_addFeeder 0 = .ok (.aload_n 0, 1) := by decide +kernel
theorem dX6_addFeeder_1 : decode cX6_addFeeder 1 = .ok (.getfield 74, 3) := by decide +kernel
theorem dX6_addFeeder_4 : decode cX6_addFeeder 4 = .ok (.bipush 10, 2) := by decide +kernel
theorem dX6_addFeeder_6 : decode cX6_addFeeder 6 = .ok (.if_icmp .ge 43, 3) := by decide +kernel
theorem dX6_addFeeder_9 : decode cX6_addFeeder 9 = .ok (.aload_n 0, 1) := by decide +kernel
theorem dX6_addFeeder_10 : decode cX6_addFeeder 10 = .ok (.getfield 33, 3) := by decide +kernel
theorem dX6_addFeeder_13 : decode cX6_addFeeder 13 = .ok (.aload_n 0, 1) := by decide +kernel
theorem dX6_addFeeder_14 : decode cX6_addFeeder 14 = .ok (.getfield 74, 3) := by decide +kernel
theorem dX6_addFeeder_17 : decode cX6_addFeeder 17 = .ok (.aaload, 1) := by decide +kernel
theorem dX6_addFeeder_18 : decode cX6_addFeeder 18 = .ok (.iload_n 1, 1) := by decide +kernel
theorem dX6_addFeeder_19 : decode cX6_addFeeder 19 = .ok (.iload_n 2, 1) := by decide +kernel
theorem dX6_addFeeder_20 : decode cX6_addFeeder 20 = .ok (.iload_n 3, 1) := by decide +kernel
theorem dX6_addFeeder_21 : decode cX6_addFeeder 21 = .ok (.iload 4, 2) := by decide +kernel
theorem dX6_addFeeder_23 : decode cX6_addFeeder 23 = .ok (.invokevirtual 114, 3) := by decide +kernel
theorem dX6_addFeeder_26 : decode cX6_addFeeder 26 = .ok (.aload_n 0, 1) := by decide +kernel
theorem dX6_addFeeder_27 : decode cX6_addFeeder 27 = .ok (.getfield 27, 3) := by decide +kernel
theorem dX6_addFeeder_30 : decode cX6_addFeeder 30 = .ok (.getfield 117, 3) := by decide +kernel
theorem dX6_addFeeder_33 : decode cX6_addFeeder 33 = .ok (.iload_n 1, 1) := by decide +kernel
theorem dX6_addFeeder_34 : decode cX6_addFeeder 34 = .ok (.dup2, 1) := by decide +kernel
theorem dX6_addFeeder_35 : decode cX6_addFeeder 35 = .ok (.iaload, 1) := by decide +kernel
theorem dX6_addFeeder_36 : decode cX6_addFeeder 36 = .ok (.iload_n 3, 1) := by decide +kernel
theorem dX6_addFeeder_37 : decode cX6_addFeeder 37 = .ok (.iadd, 1) := by decide +kernel
theorem dX6_addFeeder_38 : decode cX6_addFeeder 38 = .ok (.iastore, 1) := by decide +kernel
theorem dX6_addFeeder_39 : decode cX6_addFeeder 39 = .ok (.aload_n 0, 1) := by decide +kernel
theorem dX6_addFeeder_40 : decode cX6_addFeeder 40 = .ok (.dup, 1) := by decide +kernel
theorem dX6_addFeeder_41 : decode cX6_addFeeder 41 = .ok (.getfield 74, 3) := by decide +kernel
theorem dX6_addFeeder_44 : decode cX6_addFeeder 44 = .ok (.iconst 1, 1) := by decide +kernel
theorem dX6_addFeeder_45 : decode cX6_addFeeder 45 = .ok (.iadd, 1) := by decide +kernel
theorem dX6_addFeeder_46 : decode cX6_addFeeder 46 = .ok (.putfield 74, 3) := by decide +kernel
theorem dX6_addFeeder_49 : decode cX6_addFeeder 49 = .ok (.return_, 1) := by decide +kernel
theorem dX6_nearestWith_0 : decode cX6_nearestWith 0 = .ok (.iconst (-1), 1) := by decide +kernel
theorem dX6_nearestWith_1 : decode cX6_nearestWith 1 = .ok (.istore_n 2, 1) := by decide +kernel
theorem dX6_nearestWith_2 : decode cX6_nearestWith 2 = .ok (.iconst 0, 1) := by decide +kernel
theorem dX6_nearestWith_3 : decode cX6_nearestWith 3 = .ok (.istore_n 3, 1) := by decide +kernel
theorem dX6_nearestWith_4 : decode cX6_nearestWith 4 = .ok (.iconst 0, 1) := by decide +kernel
theorem dX6_nearestWith_5 : decode cX6_nearestWith 5 = .ok (.istore 4, 2) := by decide +kernel
theorem dX6_nearestWith_7 : decode cX6_nearestWith 7 = .ok (.iload 4, 2) := by decide +kernel
theorem dX6_nearestWith_9 : decode cX6_nearestWith 9 = .ok (.aload_n 0, 1) := by decide +kernel
theorem dX6_nearestWith_10 : decode cX6_nearestWith 10 = .ok (.getfield 74, 3) := by decide +kernel
theorem dX6_nearestWith_13 : decode cX6_nearestWith 13 = .ok (.if_icmp .ge 73, 3) := by decide +kernel
theorem dX6_nearestWith_16 : decode cX6_nearestWith 16 = .ok (.aload_n 0, 1) := by decide +kernel
theorem dX6_nearestWith_17 : decode cX6_nearestWith 17 = .ok (.getfield 33, 3) := by decide +kernel
theorem dX6_nearestWith_20 : decode cX6_nearestWith 20 = .ok (.iload 4, 2) := by decide +kernel
theorem dX6_nearestWith_22 : decode cX6_nearestWith 22 = .ok (.aaload, 1) := by decide +kernel
theorem dX6_nearestWith_23 : decode cX6_nearestWith 23 = .ok (.getfield 120, 3) := by decide +kernel
theorem dX6_nearestWith_26 : decode cX6_nearestWith 26 = .ok (.iload_n 1, 1) := by decide +kernel
theorem dX6_nearestWith_27 : decode cX6_nearestWith 27 = .ok (.if_icmp .ne 53, 3) := by decide +kernel
theorem dX6_nearestWith_30 : decode cX6_nearestWith 30 = .ok (.aload_n 0, 1) := by decide +kernel
theorem dX6_nearestWith_31 : decode cX6_nearestWith 31 = .ok (.getfield 33, 3) := by decide +kernel
theorem dX6_nearestWith_34 : decode cX6_nearestWith 34 = .ok (.iload 4, 2) := by decide +kernel
theorem dX6_nearestWith_36 : decode cX6_nearestWith 36 = .ok (.aaload, 1) := by decide +kernel
theorem dX6_nearestWith_37 : decode cX6_nearestWith 37 = .ok (.getfield 123, 3) := by decide +kernel
theorem dX6_nearestWith_40 : decode cX6_nearestWith 40 = .ok (.ifCond .le 40, 3) := by decide +kernel
theorem dX6_nearestWith_43 : decode cX6_nearestWith 43 = .ok (.aload_n 0, 1) := by decide +kernel
theorem dX6_nearestWith_44 : decode cX6_nearestWith 44 = .ok (.getfield 33, 3) := by decide +kernel
theorem dX6_nearestWith_47 : decode cX6_nearestWith 47 = .ok (.iload 4, 2) := by decide +kernel
theorem dX6_nearestWith_49 : decode cX6_nearestWith 49 = .ok (.aaload, 1) := by decide +kernel
theorem dX6_nearestWith_50 : decode cX6_nearestWith 50 = .ok (.getfield 126, 3) := by decide +kernel
theorem dX6_nearestWith_53 : decode cX6_nearestWith 53 = .ok (.aload_n 0, 1) := by decide +kernel
theorem dX6_nearestWith_54 : decode cX6_nearestWith 54 = .ok (.getfield 82, 3) := by decide +kernel
theorem dX6_nearestWith_57 : decode cX6_nearestWith 57 = .ok (.isub, 1) := by decide +kernel
theorem dX6_nearestWith_58 : decode cX6_nearestWith 58 = .ok (.invokestatic 127, 3) := by decide +kernel
theorem dX6_nearestWith_61 : decode cX6_nearestWith 61 = .ok (.istore 5, 2) := by decide +kernel
theorem dX6_nearestWith_63 : decode cX6_nearestWith 63 = .ok (.iload_n 2, 1) := by decide +kernel
theorem dX6_nearestWith_64 : decode cX6_nearestWith 64 = .ok (.iconst (-1), 1) := by decide +kernel
theorem dX6_nearestWith_65 : decode cX6_nearestWith 65 = .ok (.if_icmp .eq 9, 3) := by decide +kernel
theorem dX6_nearestWith_68 : decode cX6_nearestWith 68 = .ok (.iload 5, 2) := by decide +kernel
theorem dX6_nearestWith_70 : decode cX6_nearestWith 70 = .ok (.iload_n 3, 1) := by decide +kernel
theorem dX6_nearestWith_71 : decode cX6_nearestWith 71 = .ok (.if_icmp .ge 9, 3) := by decide +kernel
theorem dX6_nearestWith_74 : decode cX6_nearestWith 74 = .ok (.iload 4, 2) := by decide +kernel
theorem dX6_nearestWith_76 : decode cX6_nearestWith 76 = .ok (.istore_n 2, 1) := by decide +kernel
theorem dX6_nearestWith_77 : decode cX6_nearestWith 77 = .ok (.iload 5, 2) := by decide +kernel
theorem dX6_nearestWith_79 : decode cX6_nearestWith 79 = .ok (.istore_n 3, 1) := by decide +kernel
theorem dX6_nearestWith_80 : decode cX6_nearestWith 80 = .ok (.iinc 4 1, 3) := by decide +kernel
theorem dX6_nearestWith_83 : decode cX6_nearestWith 83 = .ok (.goto (-76), 3) := by decide +kernel
theorem dX6_nearestWith_86 : decode cX6_nearestWith 86 = .ok (.iload_n 2, 1) := by decide +kernel
theorem dX6_nearestWith_87 : decode cX6_nearestWith 87 = .ok (.ireturn, 1) := by decide +kernel
theorem dX6_heldOf_0 : decode cX6_heldOf 0 = .ok (.iconst 0, 1) := by decide +kernel
theorem dX6_heldOf_1 : decode cX6_heldOf 1 = .ok (.istore_n 2, 1) := by decide +kernel
theorem dX6_heldOf_2 : decode cX6_heldOf 2 = .ok (.iconst 0, 1) := by decide +kernel
theorem dX6_heldOf_3 : decode cX6_heldOf 3 = .ok (.istore_n 3, 1) := by decide +kernel
theorem dX6_heldOf_4 : decode cX6_heldOf 4 = .ok (.iload_n 3, 1) := by decide +kernel
theorem dX6_heldOf_5 : decode cX6_heldOf 5 = .ok (.aload_n 0, 1) := by decide +kernel
theorem dX6_heldOf_6 : decode cX6_heldOf 6 = .ok (.getfield 65, 3) := by decide +kernel
theorem dX6_heldOf_9 : decode cX6_heldOf 9 = .ok (.if_icmp .ge 25, 3) := by decide +kernel
theorem dX6_heldOf_12 : decode cX6_heldOf 12 = .ok (.aload_n 0, 1) := by decide +kernel
theorem dX6_heldOf_13 : decode cX6_heldOf 13 = .ok (.getfield 17, 3) := by decide +kernel
theorem dX6_heldOf_16 : decode cX6_heldOf 16 = .ok (.iload_n 3, 1) := by decide +kernel
theorem dX6_heldOf_17 : decode cX6_heldOf 17 = .ok (.aaload, 1) := by decide +kernel
theorem dX6_heldOf_18 : decode cX6_heldOf 18 = .ok (.getfield 133, 3) := by decide +kernel
theorem dX6_heldOf_21 : decode cX6_heldOf 21 = .ok (.iload_n 1, 1) := by decide +kernel
theorem dX6_heldOf_22 : decode cX6_heldOf 22 = .ok (.if_icmp .ne 6, 3) := by decide +kernel
theorem dX6_heldOf_25 : decode cX6_heldOf 25 = .ok (.iinc 2 1, 3) := by decide +kernel
theorem dX6_heldOf_28 : decode cX6_heldOf 28 = .ok (.iinc 3 1, 3) := by decide +kernel
theorem dX6_heldOf_31 : decode cX6_heldOf 31 = .ok (.goto (-27), 3) := by decide +kernel
theorem dX6_heldOf_34 : decode cX6_heldOf 34 = .ok (.iload_n 2, 1) := by decide +kernel
theorem dX6_heldOf_35 : decode cX6_heldOf 35 = .ok (.ireturn, 1) := by decide +kernel
theorem dX6_inReels_0 : decode cX6_inReels 0 = .ok (.iconst 0, 1) := by decide +kernel
theorem dX6_inReels_1 : decode cX6_inReels 1 = .ok (.istore_n 2, 1) := by decide +kernel
theorem dX6_inReels_2 : decode cX6_inReels 2 = .ok (.iconst 0, 1) := by decide +kernel
theorem dX6_inReels_3 : decode cX6_inReels 3 = .ok (.istore_n 3, 1) := by decide +kernel
theorem dX6_inReels_4 : decode cX6_inReels 4 = .ok (.iload_n 3, 1) := by decide +kernel
theorem dX6_inReels_5 : decode cX6_inReels 5 = .ok (.aload_n 0, 1) := by decide +kernel
theorem dX6_inReels_6 : decode cX6_inReels 6 = .ok (.getfield 74, 3) := by decide +kernel
theorem dX6_inReels_9 : decode cX6_inReels 9 = .ok (.if_icmp .ge 34, 3) := by decide +kernel
theorem dX6_inReels_12 : decode cX6_inReels 12 = .ok (.aload_n 0, 1) := by decide +kernel
theorem dX6_inReels_13 : decode cX6_inReels 13 = .ok (.getfield 33, 3) := by decide +kernel
theorem dX6_inReels_16 : decode cX6_inReels 16 = .ok (.iload_n 3, 1) := by decide +kernel
theorem dX6_inReels_17 : decode cX6_inReels 17 = .ok (.aaload, 1) := by decide +kernel
theorem dX6_inReels_18 : decode cX6_inReels 18 = .ok (.getfield 120, 3) := by decide +kernel
theorem dX6_inReels_21 : decode cX6_inReels 21 = .ok (.iload_n 1, 1) := by decide +kernel
theorem dX6_inReels_22 : decode cX6_inReels 22 = .ok (.if_icmp .ne 15, 3) := by decide +kernel
theorem dX6_inReels_25 : decode cX6_inReels 25 = .ok (.iload_n 2, 1) := by decide +kernel
theorem dX6_inReels_26 : decode cX6_inReels 26 = .ok (.aload_n 0, 1) := by decide +kernel
theorem dX6_inReels_27 : decode cX6_inReels 27 = .ok (.getfield 33, 3) := by decide +kernel
theorem dX6_inReels_30 : decode cX6_inReels 30 = .ok (.iload_n 3, 1) := by decide +kernel
theorem dX6_inReels_31 : decode cX6_inReels 31 = .ok (.aaload, 1) := by decide +kernel
theorem dX6_inReels_32 : decode cX6_inReels 32 = .ok (.invokevirtual 136, 3) := by decide +kernel
theorem dX6_inReels_35 : decode cX6_inReels 35 = .ok (.iadd, 1) := by decide +kernel
theorem dX6_inReels_36 : decode cX6_inReels 36 = .ok (.istore_n 2, 1) := by decide +kernel
theorem dX6_inReels_37 : decode cX6_inReels 37 = .ok (.iinc 3 1, 3) := by decide +kernel
theorem dX6_inReels_40 : decode cX6_inReels 40 = .ok (.goto (-36), 3) := by decide +kernel
theorem dX6_inReels_43 : decode cX6_inReels 43 = .ok (.iload_n 2, 1) := by decide +kernel
theorem dX6_inReels_44 : decode cX6_inReels 44 = .ok (.ireturn, 1) := by decide +kernel
theorem dX6_partsOf_0 : decode cX6_partsOf 0 = .ok (.iload_n 2, 1) := by decide +kernel
theorem dX6_partsOf_1 : decode cX6_partsOf 1 = .ok (.tableswitch 91 0 5 #[39, 49, 55, 61, 71, 81], 39) := by decide +kernel
theorem dX6_partsOf_40 : decode cX6_partsOf 40 = .ok (.aload_n 0, 1) := by decide +kernel
theorem dX6_partsOf_41 : decode cX6_partsOf 41 = .ok (.getfield 27, 3) := by decide +kernel
theorem dX6_partsOf_44 : decode cX6_partsOf 44 = .ok (.getfield 117, 3) := by decide +kernel
theorem dX6_partsOf_47 : decode cX6_partsOf 47 = .ok (.iload_n 1, 1) := by decide +kernel
theorem dX6_partsOf_48 : decode cX6_partsOf 48 = .ok (.iaload, 1) := by decide +kernel
theorem dX6_partsOf_49 : decode cX6_partsOf 49 = .ok (.ireturn, 1) := by decide +kernel
theorem dX6_partsOf_50 : decode cX6_partsOf 50 = .ok (.aload_n 0, 1) := by decide +kernel
theorem dX6_partsOf_51 : decode cX6_partsOf 51 = .ok (.iload_n 1, 1) := by decide +kernel
theorem dX6_partsOf_52 : decode cX6_partsOf 52 = .ok (.invokevirtual 140, 3) := by decide +kernel
theorem dX6_partsOf_55 : decode cX6_partsOf 55 = .ok (.ireturn, 1) := by decide +kernel
theorem dX6_partsOf_56 : decode cX6_partsOf 56 = .ok (.aload_n 0, 1) := by decide +kernel
theorem dX6_partsOf_57 : decode cX6_partsOf 57 = .ok (.iload_n 1, 1) := by decide +kernel
theorem dX6_partsOf_58 : decode cX6_partsOf 58 = .ok (.invokevirtual 143, 3) := by decide +kernel
theorem dX6_partsOf_61 : decode cX6_partsOf 61 = .ok (.ireturn, 1) := by decide +kernel
theorem dX6_partsOf_62 : decode cX6_partsOf 62 = .ok (.aload_n 0, 1) := by decide +kernel
theorem dX6_partsOf_63 : decode cX6_partsOf 63 = .ok (.getfield 27, 3) := by decide +kernel
theorem dX6_partsOf_66 : decode cX6_partsOf 66 = .ok (.getfield 146, 3) := by decide +kernel
theorem dX6_partsOf_69 : decode cX6_partsOf 69 = .ok (.iload_n 1, 1) := by decide +kernel
theorem dX6_partsOf_70 : decode cX6_partsOf 70 = .ok (.iaload, 1) := by decide +kernel
theorem dX6_partsOf_71 : decode cX6_partsOf 71 = .ok (.ireturn, 1) := by decide +kernel
theorem dX6_partsOf_72 : decode cX6_partsOf 72 = .ok (.aload_n 0, 1) := by decide +kernel
theorem dX6_partsOf_73 : decode cX6_partsOf 73 = .ok (.getfield 27, 3) := by decide +kernel
theorem dX6_partsOf_76 : decode cX6_partsOf 76 = .ok (.getfield 149, 3) := by decide +kernel
theorem dX6_partsOf_79 : decode cX6_partsOf 79 = .ok (.iload_n 1, 1) := by decide +kernel
theorem dX6_partsOf_80 : decode cX6_partsOf 80 = .ok (.iaload, 1) := by decide +kernel
theorem dX6_partsOf_81 : decode cX6_partsOf 81 = .ok (.ireturn, 1) := by decide +kernel
theorem dX6_partsOf_82 : decode cX6_partsOf 82 = .ok (.aload_n 0, 1) := by decide +kernel
theorem dX6_partsOf_83 : decode cX6_partsOf 83 = .ok (.getfield 27, 3) := by decide +kernel
theorem dX6_partsOf_86 : decode cX6_partsOf 86 = .ok (.getfield 152, 3) := by decide +kernel
theorem dX6_partsOf_89 : decode cX6_partsOf 89 = .ok (.iload_n 1, 1) := by decide +kernel
theorem dX6_partsOf_90 : decode cX6_partsOf 90 = .ok (.iaload, 1) := by decide +kernel
theorem dX6_partsOf_91 : decode cX6_partsOf 91 = .ok (.ireturn, 1) := by decide +kernel
theorem dX6_partsOf_92 : decode cX6_partsOf 92 = .ok (.aload_n 0, 1) := by decide +kernel
theorem dX6_partsOf_93 : decode cX6_partsOf 93 = .ok (.getfield 27, 3) := by decide +kernel
theorem dX6_partsOf_96 : decode cX6_partsOf 96 = .ok (.getfield 155, 3) := by decide +kernel
theorem dX6_partsOf_99 : decode cX6_partsOf 99 = .ok (.iload_n 1, 1) := by decide +kernel
theorem dX6_partsOf_100 : decode cX6_partsOf 100 = .ok (.iaload, 1) := by decide +kernel
theorem dX6_partsOf_101 : decode cX6_partsOf 101 = .ok (.ireturn, 1) := by decide +kernel
theorem dX6_isWorn_0 : decode cX6_isWorn 0 = .ok (.aload_n 0, 1) := by decide +kernel
theorem dX6_isWorn_1 : decode cX6_isWorn 1 = .ok (.getfield 9, 3) := by decide +kernel
theorem dX6_isWorn_4 : decode cX6_isWorn 4 = .ok (.bipush 12, 2) := by decide +kernel
theorem dX6_isWorn_6 : decode cX6_isWorn 6 = .ok (.iaload, 1) := by decide +kernel
theorem dX6_isWorn_7 : decode cX6_isWorn 7 = .ok (.ifCond .le 21, 3) := by decide +kernel
theorem dX6_isWorn_10 : decode cX6_isWorn 10 = .ok (.aload_n 1, 1) := by decide +kernel
theorem dX6_isWorn_11 : decode cX6_isWorn 11 = .ok (.getfield 174, 3) := by decide +kernel
theorem dX6_isWorn_14 : decode cX6_isWorn 14 = .ok (.aload_n 0, 1) := by decide +kernel
theorem dX6_isWorn_15 : decode cX6_isWorn 15 = .ok (.getfield 9, 3) := by decide +kernel
theorem dX6_isWorn_18 : decode cX6_isWorn 18 = .ok (.bipush 12, 2) := by decide +kernel
theorem dX6_isWorn_20 : decode cX6_isWorn 20 = .ok (.iaload, 1) := by decide +kernel
theorem dX6_isWorn_21 : decode cX6_isWorn 21 = .ok (.if_icmp .lt 7, 3) := by decide +kernel
theorem dX6_isWorn_24 : decode cX6_isWorn 24 = .ok (.iconst 1, 1) := by decide +kernel
theorem dX6_isWorn_25 : decode cX6_isWorn 25 = .ok (.goto 4, 3) := by decide +kernel
theorem dX6_isWorn_28 : decode cX6_isWorn 28 = .ok (.iconst 0, 1) := by decide +kernel
theorem dX6_isWorn_29 : decode cX6_isWorn 29 = .ok (.ireturn, 1) := by decide +kernel
theorem dX6_perform_0 : decode cX6_perform 0 = .ok (.aload_n 0, 1) := by decide +kernel
theorem dX6_perform_1 : decode cX6_perform 1 = .ok (.getfield 17, 3) := by decide +kernel
theorem dX6_perform_4 : decode cX6_perform 4 = .ok (.iload_n 2, 1) := by decide +kernel
theorem dX6_perform_5 : decode cX6_perform 5 = .ok (.aaload, 1) := by decide +kernel
theorem dX6_perform_6 : decode cX6_perform 6 = .ok (.astore 4, 2) := by decide +kernel
theorem dX6_perform_8 : decode cX6_perform 8 = .ok (.aload_n 0, 1) := by decide +kernel
theorem dX6_perform_9 : decode cX6_perform 9 = .ok (.getfield 88, 3) := by decide +kernel
theorem dX6_perform_12 : decode cX6_perform 12 = .ok (.istore 5, 2) := by decide +kernel
theorem dX6_perform_14 : decode cX6_perform 14 = .ok (.iconst 1, 1) := by decide +kernel
theorem dX6_perform_15 : decode cX6_perform 15 = .ok (.istore 6, 2) := by decide +kernel
theorem dX6_perform_17 : decode cX6_perform 17 = .ok (.iload_n 1, 1) := by decide +kernel
theorem dX6_perform_18 : decode cX6_perform 18 = .ok (.tableswitch 92 1 5 #[34, 44, 61, 72, 83], 34) := by decide +kernel
theorem dX6_perform_52 : decode cX6_perform 52 = .ok (.aload_n 0, 1) := by decide +kernel
theorem dX6_perform_53 : decode cX6_perform 53 = .ok (.aload 4, 2) := by decide +kernel
theorem dX6_perform_55 : decode cX6_perform 55 = .ok (.iload_n 3, 1) := by decide +kernel
theorem dX6_perform_56 : decode cX6_perform 56 = .ok (.invokevirtual 177, 3) := by decide +kernel
theorem dX6_perform_59 : decode cX6_perform 59 = .ok (.goto 57, 3) := by decide +kernel
theorem dX6_perform_62 : decode cX6_perform 62 = .ok (.aload_n 0, 1) := by decide +kernel
theorem dX6_perform_63 : decode cX6_perform 63 = .ok (.aload 4, 2) := by decide +kernel
theorem dX6_perform_65 : decode cX6_perform 65 = .ok (.aload_n 0, 1) := by decide +kernel
theorem dX6_perform_66 : decode cX6_perform 66 = .ok (.getfield 33, 3) := by decide +kernel
theorem dX6_perform_69 : decode cX6_perform 69 = .ok (.iload_n 3, 1) := by decide +kernel
theorem dX6_perform_70 : decode cX6_perform 70 = .ok (.aaload, 1) := by decide +kernel
theorem dX6_perform_71 : decode cX6_perform 71 = .ok (.invokevirtual 181, 3) := by decide +kernel
theorem dX6_perform_74 : decode cX6_perform 74 = .ok (.istore 6, 2) := by decide +kernel
theorem dX6_perform_76 : decode cX6_perform 76 = .ok (.goto 40, 3) := by decide +kernel
theorem dX6_perform_79 : decode cX6_perform 79 = .ok (.aload_n 0, 1) := by decide +kernel
theorem dX6_perform_80 : decode cX6_perform 80 = .ok (.aload 4, 2) := by decide +kernel
theorem dX6_perform_82 : decode cX6_perform 82 = .ok (.invokevirtual 185, 3) := by decide +kernel
theorem dX6_perform_85 : decode cX6_perform 85 = .ok (.istore 6, 2) := by decide +kernel
theorem dX6_perform_87 : decode cX6_perform 87 = .ok (.goto 29, 3) := by decide +kernel
theorem dX6_perform_90 : decode cX6_perform 90 = .ok (.aload_n 0, 1) := by decide +kernel
theorem dX6_perform_91 : decode cX6_perform 91 = .ok (.aload 4, 2) := by decide +kernel
theorem dX6_perform_93 : decode cX6_perform 93 = .ok (.iload_n 2, 1) := by decide +kernel
theorem dX6_perform_94 : decode cX6_perform 94 = .ok (.iload_n 3, 1) := by decide +kernel
theorem dX6_perform_95 : decode cX6_perform 95 = .ok (.invokevirtual 189, 3) := by decide +kernel
theorem dX6_perform_98 : decode cX6_perform 98 = .ok (.goto 18, 3) := by decide +kernel
theorem dX6_perform_101 : decode cX6_perform 101 = .ok (.aload_n 0, 1) := by decide +kernel
theorem dX6_perform_102 : decode cX6_perform 102 = .ok (.aload 4, 2) := by decide +kernel
theorem dX6_perform_104 : decode cX6_perform 104 = .ok (.invokevirtual 193, 3) := by decide +kernel
theorem dX6_perform_107 : decode cX6_perform 107 = .ok (.goto 9, 3) := by decide +kernel
theorem dX6_perform_110 : decode cX6_perform 110 = .ok (.aload_n 0, 1) := by decide +kernel
theorem dX6_perform_111 : decode cX6_perform 111 = .ok (.aload 4, 2) := by decide +kernel
theorem dX6_perform_113 : decode cX6_perform 113 = .ok (.invokevirtual 196, 3) := by decide +kernel
theorem dX6_perform_116 : decode cX6_perform 116 = .ok (.aload_n 0, 1) := by decide +kernel
theorem dX6_perform_117 : decode cX6_perform 117 = .ok (.getfield 47, 3) := by decide +kernel
theorem dX6_perform_120 : decode cX6_perform 120 = .ok (.iload_n 1, 1) := by decide +kernel
theorem dX6_perform_121 : decode cX6_perform 121 = .ok (.iload_n 2, 1) := by decide +kernel
theorem dX6_perform_122 : decode cX6_perform 122 = .ok (.iload_n 3, 1) := by decide +kernel
theorem dX6_perform_123 : decode cX6_perform 123 = .ok (.invokestatic 199, 3) := by decide +kernel
theorem dX6_perform_126 : decode cX6_perform 126 = .ok (.iload 6, 2) := by decide +kernel
theorem dX6_perform_128 : decode cX6_perform 128 = .ok (.aload_n 0, 1) := by decide +kernel
theorem dX6_perform_129 : decode cX6_perform 129 = .ok (.getfield 88, 3) := by decide +kernel
theorem dX6_perform_132 : decode cX6_perform 132 = .ok (.invokevirtual 203, 3) := by decide +kernel
theorem dX6_perform_135 : decode cX6_perform 135 = .ok (.aload_n 0, 1) := by decide +kernel
theorem dX6_perform_136 : decode cX6_perform 136 = .ok (.getfield 47, 3) := by decide +kernel
theorem dX6_perform_139 : decode cX6_perform 139 = .ok (.getfield 207, 3) := by decide +kernel
theorem dX6_perform_142 : decode cX6_perform 142 = .ok (.iload_n 1, 1) := by decide +kernel
theorem dX6_perform_143 : decode cX6_perform 143 = .ok (.dup2, 1) := by decide +kernel
theorem dX6_perform_144 : decode cX6_perform 144 = .ok (.iaload, 1) := by decide +kernel
theorem dX6_perform_145 : decode cX6_perform 145 = .ok (.iconst 1, 1) := by decide +kernel
theorem dX6_perform_146 : decode cX6_perform 146 = .ok (.iadd, 1) := by decide +kernel
theorem dX6_perform_147 : decode cX6_perform 147 = .ok (.iastore, 1) := by decide +kernel
theorem dX6_perform_148 : decode cX6_perform 148 = .ok (.aload_n 0, 1) := by decide +kernel
theorem dX6_perform_149 : decode cX6_perform 149 = .ok (.getfield 47, 3) := by decide +kernel
theorem dX6_perform_152 : decode cX6_perform 152 = .ok (.getfield 210, 3) := by decide +kernel
theorem dX6_perform_155 : decode cX6_perform 155 = .ok (.iload_n 1, 1) := by decide +kernel
theorem dX6_perform_156 : decode cX6_perform 156 = .ok (.dup2, 1) := by decide +kernel
theorem dX6_perform_157 : decode cX6_perform 157 = .ok (.iaload, 1) := by decide +kernel
theorem dX6_perform_158 : decode cX6_perform 158 = .ok (.aload_n 0, 1) := by decide +kernel
theorem dX6_perform_159 : decode cX6_perform 159 = .ok (.getfield 88, 3) := by decide +kernel
theorem dX6_perform_162 : decode cX6_perform 162 = .ok (.iload 5, 2) := by decide +kernel
theorem dX6_perform_164 : decode cX6_perform 164 = .ok (.isub, 1) := by decide +kernel
theorem dX6_perform_165 : decode cX6_perform 165 = .ok (.iadd, 1) := by decide +kernel
theorem dX6_perform_166 : decode cX6_perform 166 = .ok (.iastore, 1) := by decide +kernel
theorem dX6_perform_167 : decode cX6_perform 167 = .ok (.iload 6, 2) := by decide +kernel
theorem dX6_perform_169 : decode cX6_perform 169 = .ok (.ireturn, 1) := by decide +kernel
theorem dX6_changeTo_0 : decode cX6_changeTo 0 = .ok (.aload_n 0, 1) := by decide +kernel
theorem dX6_changeTo_1 : decode cX6_changeTo 1 = .ok (.iconst 0, 1) := by decide +kernel
theorem dX6_changeTo_2 : decode cX6_changeTo 2 = .ok (.iconst 0, 1) := by decide +kernel
theorem dX6_changeTo_3 : decode cX6_changeTo 3 = .ok (.aload_n 0, 1) := by decide +kernel
theorem dX6_changeTo_4 : decode cX6_changeTo 4 = .ok (.getfield 9, 3) := by decide +kernel
theorem dX6_changeTo_7 : decode cX6_changeTo 7 = .ok (.iconst 1, 1) := by decide +kernel
theorem dX6_changeTo_8 : decode cX6_changeTo 8 = .ok (.iaload, 1) := by decide +kernel
theorem dX6_changeTo_9 : decode cX6_changeTo 9 = .ok (.invokevirtual 213, 3) := by decide +kernel
theorem dX6_changeTo_12 : decode cX6_changeTo 12 = .ok (.aload_n 1, 1) := by decide +kernel
theorem dX6_changeTo_13 : decode cX6_changeTo 13 = .ok (.getfield 216, 3) := by decide +kernel
theorem dX6_changeTo_16 : decode cX6_changeTo 16 = .ok (.iconst (-1), 1) := by decide +kernel
theorem dX6_changeTo_17 : decode cX6_changeTo 17 = .ok (.if_icmp .eq 16, 3) := by decide +kernel
theorem dX6_changeTo_20 : decode cX6_changeTo 20 = .ok (.aload_n 0, 1) := by decide +kernel
theorem dX6_changeTo_21 : decode cX6_changeTo 21 = .ok (.getfield 21, 3) := by decide +kernel
theorem dX6_changeTo_24 : decode cX6_changeTo 24 = .ok (.aload_n 1, 1) := by decide +kernel
theorem dX6_changeTo_25 : decode cX6_changeTo 25 = .ok (.getfield 216, 3) := by decide +kernel
theorem dX6_changeTo_28 : decode cX6_changeTo 28 = .ok (.dup2, 1) := by decide +kernel
theorem dX6_changeTo_29 : decode cX6_changeTo 29 = .ok (.iaload, 1) := by decide +kernel
theorem dX6_changeTo_30 : decode cX6_changeTo 30 = .ok (.iconst 1, 1) := by decide +kernel
theorem dX6_changeTo_31 : decode cX6_changeTo 31 = .ok (.iadd, 1) := by decide +kernel
theorem dX6_changeTo_32 : decode cX6_changeTo 32 = .ok (.iastore, 1) := by decide +kernel
theorem dX6_changeTo_33 : decode cX6_changeTo 33 = .ok (.aload_n 0, 1) := by decide +kernel
theorem dX6_changeTo_34 : decode cX6_changeTo 34 = .ok (.getfield 21, 3) := by decide +kernel
theorem dX6_changeTo_37 : decode cX6_changeTo 37 = .ok (.iload_n 2, 1) := by decide +kernel
theorem dX6_changeTo_38 : decode cX6_changeTo 38 = .ok (.dup2, 1) := by decide +kernel
theorem dX6_changeTo_39 : decode cX6_changeTo 39 = .ok (.iaload, 1) := by decide +kernel
theorem dX6_changeTo_40 : decode cX6_changeTo 40 = .ok (.iconst 1, 1) := by decide +kernel
theorem dX6_changeTo_41 : decode cX6_changeTo 41 = .ok (.isub, 1) := by decide +kernel
theorem dX6_changeTo_42 : decode cX6_changeTo 42 = .ok (.iastore, 1) := by decide +kernel
theorem dX6_changeTo_43 : decode cX6_changeTo 43 = .ok (.aload_n 1, 1) := by decide +kernel
theorem dX6_changeTo_44 : decode cX6_changeTo 44 = .ok (.iload_n 2, 1) := by decide +kernel
theorem dX6_changeTo_45 : decode cX6_changeTo 45 = .ok (.putfield 216, 3) := by decide +kernel
theorem dX6_changeTo_48 : decode cX6_changeTo 48 = .ok (.aload_n 1, 1) := by decide +kernel
theorem dX6_changeTo_49 : decode cX6_changeTo 49 = .ok (.iconst 0, 1) := by decide +kernel
theorem dX6_changeTo_50 : decode cX6_changeTo 50 = .ok (.putfield 174, 3) := by decide +kernel
theorem dX6_changeTo_53 : decode cX6_changeTo 53 = .ok (.aload_n 1, 1) := by decide +kernel
theorem dX6_changeTo_54 : decode cX6_changeTo 54 = .ok (.dup, 1) := by decide +kernel
theorem dX6_changeTo_55 : decode cX6_changeTo 55 = .ok (.getfield 219, 3) := by decide +kernel
theorem dX6_changeTo_58 : decode cX6_changeTo 58 = .ok (.iconst 1, 1) := by decide +kernel
theorem dX6_changeTo_59 : decode cX6_changeTo 59 = .ok (.iadd, 1) := by decide +kernel
theorem dX6_changeTo_60 : decode cX6_changeTo 60 = .ok (.putfield 219, 3) := by decide +kernel
theorem dX6_changeTo_63 : decode cX6_changeTo 63 = .ok (.return_, 1) := by decide +kernel
theorem dX6_pickFrom_0 : decode cX6_pickFrom 0 = .ok (.aload_n 0, 1) := by decide +kernel
theorem dX6_pickFrom_1 : decode cX6_pickFrom 1 = .ok (.aload_n 2, 1) := by decide +kernel
theorem dX6_pickFrom_2 : decode cX6_pickFrom 2 = .ok (.getfield 126, 3) := by decide +kernel
theorem dX6_pickFrom_5 : decode cX6_pickFrom 5 = .ok (.iconst 0, 1) := by decide +kernel
theorem dX6_pickFrom_6 : decode cX6_pickFrom 6 = .ok (.aload_n 0, 1) := by decide +kernel
theorem dX6_pickFrom_7 : decode cX6_pickFrom 7 = .ok (.getfield 9, 3) := by decide +kernel
theorem dX6_pickFrom_10 : decode cX6_pickFrom 10 = .ok (.iconst 2, 1) := by decide +kernel
theorem dX6_pickFrom_11 : decode cX6_pickFrom 11 = .ok (.iaload, 1) := by decide +kernel
theorem dX6_pickFrom_12 : decode cX6_pickFrom 12 = .ok (.invokevirtual 213, 3) := by decide +kernel
theorem dX6_pickFrom_15 : decode cX6_pickFrom 15 = .ok (.aload_n 2, 1) := by decide +kernel
theorem dX6_pickFrom_16 : decode cX6_pickFrom 16 = .ok (.getfield 222, 3) := by decide +kernel
theorem dX6_pickFrom_19 : decode cX6_pickFrom 19 = .ok (.ifCond .eq 10, 3) := by decide +kernel
theorem dX6_pickFrom_22 : decode cX6_pickFrom 22 = .ok (.aload_n 2, 1) := by decide +kernel
theorem dX6_pickFrom_23 : decode cX6_pickFrom 23 = .ok (.iconst 0, 1) := by decide +kernel
theorem dX6_pickFrom_24 : decode cX6_pickFrom 24 = .ok (.putfield 222, 3) := by decide +kernel
theorem dX6_pickFrom_27 : decode cX6_pickFrom 27 = .ok (.iconst 0, 1) := by decide +kernel
theorem dX6_pickFrom_28 : decode cX6_pickFrom 28 = .ok (.ireturn, 1) := by decide +kernel
theorem dX6_pickFrom_29 : decode cX6_pickFrom 29 = .ok (.aload_n 0, 1) := by decide +kernel
theorem dX6_pickFrom_30 : decode cX6_pickFrom 30 = .ok (.aload_n 1, 1) := by decide +kernel
theorem dX6_pickFrom_31 : decode cX6_pickFrom 31 = .ok (.invokevirtual 225, 3) := by decide +kernel
theorem dX6_pickFrom_34 : decode cX6_pickFrom 34 = .ok (.ifCond .eq 18, 3) := by decide +kernel
theorem dX6_pickFrom_37 : decode cX6_pickFrom 37 = .ok (.aload_n 2, 1) := by decide +kernel
theorem dX6_pickFrom_38 : decode cX6_pickFrom 38 = .ok (.getfield 229, 3) := by decide +kernel
theorem dX6_pickFrom_41 : decode cX6_pickFrom 41 = .ok (.aload_n 0, 1) := by decide +kernel
theorem dX6_pickFrom_42 : decode cX6_pickFrom 42 = .ok (.getfield 9, 3) := by decide +kernel
theorem dX6_pickFrom_45 : decode cX6_pickFrom 45 = .ok (.bipush 13, 2) := by decide +kernel
theorem dX6_pickFrom_47 : decode cX6_pickFrom 47 = .ok (.iaload, 1) := by decide +kernel
theorem dX6_pickFrom_48 : decode cX6_pickFrom 48 = .ok (.iadd, 1) := by decide +kernel
theorem dX6_pickFrom_49 : decode cX6_pickFrom 49 = .ok (.goto 7, 3) := by decide +kernel
theorem dX6_pickFrom_52 : decode cX6_pickFrom 52 = .ok (.aload_n 2, 1) := by decide +kernel
theorem dX6_pickFrom_53 : decode cX6_pickFrom 53 = .ok (.getfield 229, 3) := by decide +kernel
theorem dX6_pickFrom_56 : decode cX6_pickFrom 56 = .ok (.istore_n 3, 1) := by decide +kernel
theorem dX6_pickFrom_57 : decode cX6_pickFrom 57 = .ok (.aload_n 0, 1) := by decide +kernel
theorem dX6_pickFrom_58 : decode cX6_pickFrom 58 = .ok (.invokevirtual 232, 3) := by decide +kernel
theorem dX6_pickFrom_61 : decode cX6_pickFrom 61 = .ok (.iload_n 3, 1) := by decide +kernel
theorem dX6_pickFrom_62 : decode cX6_pickFrom 62 = .ok (.if_icmp .ge 7, 3) := by decide +kernel
theorem dX6_pickFrom_65 : decode cX6_pickFrom 65 = .ok (.iconst 1, 1) := by decide +kernel
theorem dX6_pickFrom_66 : decode cX6_pickFrom 66 = .ok (.goto 4, 3) := by decide +kernel
theorem dX6_pickFrom_69 : decode cX6_pickFrom 69 = .ok (.iconst 0, 1) := by decide +kernel
theorem dX6_pickFrom_70 : decode cX6_pickFrom 70 = .ok (.istore 4, 2) := by decide +kernel
theorem dX6_pickFrom_72 : decode cX6_pickFrom 72 = .ok (.aload_n 1, 1) := by decide +kernel
theorem dX6_pickFrom_73 : decode cX6_pickFrom 73 = .ok (.dup, 1) := by decide +kernel
theorem dX6_pickFrom_74 : decode cX6_pickFrom 74 = .ok (.getfield 174, 3) := by decide +kernel
theorem dX6_pickFrom_77 : decode cX6_pickFrom 77 = .ok (.iconst 1, 1) := by decide +kernel
theorem dX6_pickFrom_78 : decode cX6_pickFrom 78 = .ok (.iadd, 1) := by decide +kernel
theorem dX6_pickFrom_79 : decode cX6_pickFrom 79 = .ok (.putfield 174, 3) := by decide +kernel
theorem dX6_pickFrom_82 : decode cX6_pickFrom 82 = .ok (.aload_n 2, 1) := by decide +kernel
theorem dX6_pickFrom_83 : decode cX6_pickFrom 83 = .ok (.dup, 1) := by decide +kernel
theorem dX6_pickFrom_84 : decode cX6_pickFrom 84 = .ok (.getfield 123, 3) := by decide +kernel
theorem dX6_pickFrom_87 : decode cX6_pickFrom 87 = .ok (.iconst 1, 1) := by decide +kernel
theorem dX6_pickFrom_88 : decode cX6_pickFrom 88 = .ok (.isub, 1) := by decide +kernel
theorem dX6_pickFrom_89 : decode cX6_pickFrom 89 = .ok (.putfield 123, 3) := by decide +kernel
theorem dX6_pickFrom_92 : decode cX6_pickFrom 92 = .ok (.iload 4, 2) := by decide +kernel
theorem dX6_pickFrom_94 : decode cX6_pickFrom 94 = .ok (.ifCond .eq 32, 3) := by decide +kernel
theorem dX6_pickFrom_97 : decode cX6_pickFrom 97 = .ok (.aload_n 2, 1) := by decide +kernel
theorem dX6_pickFrom_98 : decode cX6_pickFrom 98 = .ok (.dup, 1) := by decide +kernel
theorem dX6_pickFrom_99 : decode cX6_pickFrom 99 = .ok (.getfield 235, 3) := by decide +kernel
theorem dX6_pickFrom_102 : decode cX6_pickFrom 102 = .ok (.iconst 1, 1) := by decide +kernel
theorem dX6_pickFrom_103 : decode cX6_pickFrom 103 = .ok (.iadd, 1) := by decide +kernel
theorem dX6_pickFrom_104 : decode cX6_pickFrom 104 = .ok (.putfield 235, 3) := by decide +kernel
theorem dX6_pickFrom_107 : decode cX6_pickFrom 107 = .ok (.aload_n 0, 1) := by decide +kernel
theorem dX6_pickFrom_108 : decode cX6_pickFrom 108 = .ok (.getfield 27, 3) := by decide +kernel
theorem dX6_pickFrom_111 : decode cX6_pickFrom 111 = .ok (.getfield 152, 3) := by decide +kernel
theorem dX6_pickFrom_114 : decode cX6_pickFrom 114 = .ok (.aload_n 2, 1) := by decide +kernel
theorem dX6_pickFrom_115 : decode cX6_pickFrom 115 = .ok (.getfield 120, 3) := by decide +kernel
theorem dX6_pickFrom_118 : decode cX6_pickFrom 118 = .ok (.dup2, 1) := by decide +kernel
theorem dX6_pickFrom_119 : decode cX6_pickFrom 119 = .ok (.iaload, 1) := by decide +kernel
theorem dX6_pickFrom_120 : decode cX6_pickFrom 120 = .ok (.iconst 1, 1) := by decide +kernel
theorem dX6_pickFrom_121 : decode cX6_pickFrom 121 = .ok (.iadd, 1) := by decide +kernel
theorem dX6_pickFrom_122 : decode cX6_pickFrom 122 = .ok (.iastore, 1) := by decide +kernel
theorem dX6_pickFrom_123 : decode cX6_pickFrom 123 = .ok (.goto 21, 3) := by decide +kernel
theorem dX6_pickFrom_126 : decode cX6_pickFrom 126 = .ok (.aload_n 2, 1) := by decide +kernel
theorem dX6_pickFrom_127 : decode cX6_pickFrom 127 = .ok (.dup, 1) := by decide +kernel
theorem dX6_pickFrom_128 : decode cX6_pickFrom 128 = .ok (.getfield 237, 3) := by decide +kernel
theorem dX6_pickFrom_131 : decode cX6_pickFrom 131 = .ok (.iconst 1, 1) := by decide +kernel
theorem dX6_pickFrom_132 : decode cX6_pickFrom 132 = .ok (.iadd, 1) := by decide +kernel
theorem dX6_pickFrom_133 : decode cX6_pickFrom 133 = .ok (.putfield 237, 3) := by decide +kernel
theorem dX6_pickFrom_136 : decode cX6_pickFrom 136 = .ok (.aload_n 1, 1) := by decide +kernel
theorem dX6_pickFrom_137 : decode cX6_pickFrom 137 = .ok (.aload_n 2, 1) := by decide +kernel
theorem dX6_pickFrom_138 : decode cX6_pickFrom 138 = .ok (.getfield 120, 3) := by decide +kernel
theorem dX6_pickFrom_141 : decode cX6_pickFrom 141 = .ok (.putfield 133, 3) := by decide +kernel
theorem dX6_pickFrom_144 : decode cX6_pickFrom 144 = .ok (.aload_n 0, 1) := by decide +kernel
theorem dX6_pickFrom_145 : decode cX6_pickFrom 145 = .ok (.getfield 47, 3) := by decide +kernel
theorem dX6_pickFrom_148 : decode cX6_pickFrom 148 = .ok (.dup, 1) := by decide +kernel
theorem dX6_pickFrom_149 : decode cX6_pickFrom 149 = .ok (.getfield 240, 3) := by decide +kernel
theorem dX6_pickFrom_152 : decode cX6_pickFrom 152 = .ok (.aload_n 2, 1) := by decide +kernel
theorem dX6_pickFrom_153 : decode cX6_pickFrom 153 = .ok (.invokevirtual 243, 3) := by decide +kernel
theorem dX6_pickFrom_156 : decode cX6_pickFrom 156 = .ok (.iadd, 1) := by decide +kernel
theorem dX6_pickFrom_157 : decode cX6_pickFrom 157 = .ok (.putfield 240, 3) := by decide +kernel
theorem dX6_pickFrom_160 : decode cX6_pickFrom 160 = .ok (.iload 4, 2) := by decide +kernel
theorem dX6_pickFrom_162 : decode cX6_pickFrom 162 = .ok (.ifCond .eq 7, 3) := by decide +kernel
theorem dX6_pickFrom_165 : decode cX6_pickFrom 165 = .ok (.iconst 0, 1) := by decide +kernel
theorem dX6_pickFrom_166 : decode cX6_pickFrom 166 = .ok (.goto 4, 3) := by decide +kernel
theorem dX6_pickFrom_169 : decode cX6_pickFrom 169 = .ok (.iconst 1, 1) := by decide +kernel
theorem dX6_pickFrom_170 : decode cX6_pickFrom 170 = .ok (.ireturn, 1) := by decide +kernel
theorem dX6_lookAt_0 : decode cX6_lookAt 0 = .ok (.aload_n 0, 1) := by decide +kernel
theorem dX6_lookAt_1 : decode cX6_lookAt 1 = .ok (.aload_n 0, 1) := by decide +kernel
theorem dX6_lookAt_2 : decode cX6_lookAt 2 = .ok (.getfield 9, 3) := by decide +kernel
theorem dX6_lookAt_5 : decode cX6_lookAt 5 = .ok (.bipush 8, 2) := by decide +kernel
theorem dX6_lookAt_7 : decode cX6_lookAt 7 = .ok (.iaload, 1) := by decide +kernel
theorem dX6_lookAt_8 : decode cX6_lookAt 8 = .ok (.aload_n 0, 1) := by decide +kernel
theorem dX6_lookAt_9 : decode cX6_lookAt 9 = .ok (.getfield 9, 3) := by decide +kernel
theorem dX6_lookAt_12 : decode cX6_lookAt 12 = .ok (.bipush 9, 2) := by decide +kernel
theorem dX6_lookAt_14 : decode cX6_lookAt 14 = .ok (.iaload, 1) := by decide +kernel
theorem dX6_lookAt_15 : decode cX6_lookAt 15 = .ok (.aload_n 0, 1) := by decide +kernel
theorem dX6_lookAt_16 : decode cX6_lookAt 16 = .ok (.getfield 9, 3) := by decide +kernel
theorem dX6_lookAt_19 : decode cX6_lookAt 19 = .ok (.iconst 3, 1) := by decide +kernel
theorem dX6_lookAt_20 : decode cX6_lookAt 20 = .ok (.iaload, 1) := by decide +kernel
theorem dX6_lookAt_21 : decode cX6_lookAt 21 = .ok (.invokevirtual 213, 3) := by decide +kernel
theorem dX6_lookAt_24 : decode cX6_lookAt 24 = .ok (.aload_n 1, 1) := by decide +kernel
theorem dX6_lookAt_25 : decode cX6_lookAt 25 = .ok (.dup, 1) := by decide +kernel
theorem dX6_lookAt_26 : decode cX6_lookAt 26 = .ok (.getfield 246, 3) := by decide +kernel
theorem dX6_lookAt_29 : decode cX6_lookAt 29 = .ok (.iconst 1, 1) := by decide +kernel
theorem dX6_lookAt_30 : decode cX6_lookAt 30 = .ok (.iadd, 1) := by decide +kernel
theorem dX6_lookAt_31 : decode cX6_lookAt 31 = .ok (.putfield 246, 3) := by decide +kernel
theorem dX6_lookAt_34 : decode cX6_lookAt 34 = .ok (.aload_n 0, 1) := by decide +kernel
theorem dX6_lookAt_35 : decode cX6_lookAt 35 = .ok (.invokevirtual 232, 3) := by decide +kernel
theorem dX6_lookAt_38 : decode cX6_lookAt 38 = .ok (.istore_n 2, 1) := by decide +kernel
theorem dX6_lookAt_39 : decode cX6_lookAt 39 = .ok (.iload_n 2, 1) := by decide +kernel
theorem dX6_lookAt_40 : decode cX6_lookAt 40 = .ok (.aload_n 0, 1) := by decide +kernel
theorem dX6_lookAt_41 : decode cX6_lookAt 41 = .ok (.getfield 9, 3) := by decide +kernel
theorem dX6_lookAt_44 : decode cX6_lookAt 44 = .ok (.iconst 5, 1) := by decide +kernel
theorem dX6_lookAt_45 : decode cX6_lookAt 45 = .ok (.iaload, 1) := by decide +kernel
theorem dX6_lookAt_46 : decode cX6_lookAt 46 = .ok (.if_icmp .ge 28, 3) := by decide +kernel
theorem dX6_lookAt_49 : decode cX6_lookAt 49 = .ok (.aload_n 1, 1) := by decide +kernel
theorem dX6_lookAt_50 : decode cX6_lookAt 50 = .ok (.iconst 1, 1) := by decide +kernel
theorem dX6_lookAt_51 : decode cX6_lookAt 51 = .ok (.putfield 249, 3) := by decide +kernel
theorem dX6_lookAt_54 : decode cX6_lookAt 54 = .ok (.aload_n 0, 1) := by decide +kernel
theorem dX6_lookAt_55 : decode cX6_lookAt 55 = .ok (.getfield 47, 3) := by decide +kernel
theorem dX6_lookAt_58 : decode cX6_lookAt 58 = .ok (.dup, 1) := by decide +kernel
theorem dX6_lookAt_59 : decode cX6_lookAt 59 = .ok (.getfield 252, 3) := by decide +kernel
theorem dX6_lookAt_62 : decode cX6_lookAt 62 = .ok (.iconst 1, 1) := by decide +kernel
theorem dX6_lookAt_63 : decode cX6_lookAt 63 = .ok (.iadd, 1) := by decide +kernel
theorem dX6_lookAt_64 : decode cX6_lookAt 64 = .ok (.putfield 252, 3) := by decide +kernel
theorem dX6_lookAt_67 : decode cX6_lookAt 67 = .ok (.aload_n 0, 1) := by decide +kernel
theorem dX6_lookAt_68 : decode cX6_lookAt 68 = .ok (.iconst 0, 1) := by decide +kernel
theorem dX6_lookAt_69 : decode cX6_lookAt 69 = .ok (.putfield 91, 3) := by decide +kernel
theorem dX6_lookAt_72 : decode cX6_lookAt 72 = .ok (.iconst 1, 1) := by decide +kernel
theorem dX6_lookAt_73 : decode cX6_lookAt 73 = .ok (.ireturn, 1) := by decide +kernel
theorem dX6_lookAt_74 : decode cX6_lookAt 74 = .ok (.iload_n 2, 1) := by decide +kernel
theorem dX6_lookAt_75 : decode cX6_lookAt 75 = .ok (.aload_n 0, 1) := by decide +kernel
theorem dX6_lookAt_76 : decode cX6_lookAt 76 = .ok (.getfield 9, 3) := by decide +kernel
theorem dX6_lookAt_79 : decode cX6_lookAt 79 = .ok (.iconst 5, 1) := by decide +kernel
theorem dX6_lookAt_80 : decode cX6_lookAt 80 = .ok (.iaload, 1) := by decide +kernel
theorem dX6_lookAt_81 : decode cX6_lookAt 81 = .ok (.aload_n 0, 1) := by decide +kernel
theorem dX6_lookAt_82 : decode cX6_lookAt 82 = .ok (.getfield 9, 3) := by decide +kernel
theorem dX6_lookAt_85 : decode cX6_lookAt 85 = .ok (.bipush 6, 2) := by decide +kernel
theorem dX6_lookAt_87 : decode cX6_lookAt 87 = .ok (.iaload, 1) := by decide +kernel
theorem dX6_lookAt_88 : decode cX6_lookAt 88 = .ok (.iadd, 1) := by decide +kernel
theorem dX6_lookAt_89 : decode cX6_lookAt 89 = .ok (.if_icmp .ge 19, 3) := by decide +kernel
theorem dX6_lookAt_92 : decode cX6_lookAt 92 = .ok (.aload_n 1, 1) := by decide +kernel
theorem dX6_lookAt_93 : decode cX6_lookAt 93 = .ok (.getfield 246, 3) := by decide +kernel
theorem dX6_lookAt_96 : decode cX6_lookAt 96 = .ok (.aload_n 0, 1) := by decide +kernel
theorem dX6_lookAt_97 : decode cX6_lookAt 97 = .ok (.getfield 9, 3) := by decide +kernel
theorem dX6_lookAt_100 : decode cX6_lookAt 100 = .ok (.bipush 7, 2) := by decide +kernel
theorem dX6_lookAt_102 : decode cX6_lookAt 102 = .ok (.iaload, 1) := by decide +kernel
theorem dX6_lookAt_103 : decode cX6_lookAt 103 = .ok (.if_icmp .gt 5, 3) := by decide +kernel
theorem dX6_lookAt_106 : decode cX6_lookAt 106 = .ok (.iconst 0, 1) := by decide +kernel
theorem dX6_lookAt_107 : decode cX6_lookAt 107 = .ok (.ireturn, 1) := by decide +kernel
theorem dX6_lookAt_108 : decode cX6_lookAt 108 = .ok (.aload_n 0, 1) := by decide +kernel
theorem dX6_lookAt_109 : decode cX6_lookAt 109 = .ok (.aload_n 1, 1) := by decide +kernel
theorem dX6_lookAt_110 : decode cX6_lookAt 110 = .ok (.invokevirtual 193, 3) := by decide +kernel
theorem dX6_lookAt_113 : decode cX6_lookAt 113 = .ok (.aload_n 0, 1) := by decide +kernel
theorem dX6_lookAt_114 : decode cX6_lookAt 114 = .ok (.dup, 1) := by decide +kernel
theorem dX6_lookAt_115 : decode cX6_lookAt 115 = .ok (.getfield 91, 3) := by decide +kernel
theorem dX6_lookAt_118 : decode cX6_lookAt 118 = .ok (.iconst 1, 1) := by decide +kernel
theorem dX6_lookAt_119 : decode cX6_lookAt 119 = .ok (.iadd, 1) := by decide +kernel
theorem dX6_lookAt_120 : decode cX6_lookAt 120 = .ok (.putfield 91, 3) := by decide +kernel
theorem dX6_lookAt_123 : decode cX6_lookAt 123 = .ok (.aload_n 0, 1) := by decide +kernel
theorem dX6_lookAt_124 : decode cX6_lookAt 124 = .ok (.getfield 9, 3) := by decide +kernel
theorem dX6_lookAt_127 : decode cX6_lookAt 127 = .ok (.bipush 11, 2) := by decide +kernel
theorem dX6_lookAt_129 : decode cX6_lookAt 129 = .ok (.iaload, 1) := by decide +kernel
theorem dX6_lookAt_130 : decode cX6_lookAt 130 = .ok (.ifCond .le 22, 3) := by decide +kernel
theorem dX6_lookAt_133 : decode cX6_lookAt 133 = .ok (.aload_n 0, 1) := by decide +kernel
theorem dX6_lookAt_134 : decode cX6_lookAt 134 = .ok (.getfield 91, 3) := by decide +kernel
theorem dX6_lookAt_137 : decode cX6_lookAt 137 = .ok (.aload_n 0, 1) := by decide +kernel
theorem dX6_lookAt_138 : decode cX6_lookAt 138 = .ok (.getfield 9, 3) := by decide +kernel
theorem dX6_lookAt_141 : decode cX6_lookAt 141 = .ok (.bipush 11, 2) := by decide +kernel
theorem dX6_lookAt_143 : decode cX6_lookAt 143 = .ok (.iaload, 1) := by decide +kernel
theorem dX6_lookAt_144 : decode cX6_lookAt 144 = .ok (.if_icmp .lt 8, 3) := by decide +kernel
theorem dX6_lookAt_147 : decode cX6_lookAt 147 = .ok (.aload_n 0, 1) := by decide +kernel
theorem dX6_lookAt_148 : decode cX6_lookAt 148 = .ok (.iconst 1, 1) := by decide +kernel
theorem dX6_lookAt_149 : decode cX6_lookAt 149 = .ok (.putfield 94, 3) := by decide +kernel
theorem dX6_lookAt_152 : decode cX6_lookAt 152 = .ok (.iconst 2, 1) := by decide +kernel
theorem dX6_lookAt_153 : decode cX6_lookAt 153 = .ok (.ireturn, 1) := by decide +kernel
theorem dX6_putOn_0 : decode cX6_putOn 0 = .ok (.aload_n 0, 1) := by decide +kernel
theorem dX6_putOn_1 : decode cX6_putOn 1 = .ok (.aload_n 0, 1) := by decide +kernel
theorem dX6_putOn_2 : decode cX6_putOn 2 = .ok (.getfield 40, 3) := by decide +kernel
theorem dX6_putOn_5 : decode cX6_putOn 5 = .ok (.getfield 255, 3) := by decide +kernel
theorem dX6_putOn_8 : decode cX6_putOn 8 = .ok (.iload_n 3, 1) := by decide +kernel
theorem dX6_putOn_9 : decode cX6_putOn 9 = .ok (.iaload, 1) := by decide +kernel
theorem dX6_putOn_10 : decode cX6_putOn 10 = .ok (.aload_n 0, 1) := by decide +kernel
theorem dX6_putOn_11 : decode cX6_putOn 11 = .ok (.getfield 40, 3) := by decide +kernel
theorem dX6_putOn_14 : decode cX6_putOn 14 = .ok (.getfield 257, 3) := by decide +kernel
theorem dX6_putOn_17 : decode cX6_putOn 17 = .ok (.iload_n 3, 1) := by decide +kernel
theorem dX6_putOn_18 : decode cX6_putOn 18 = .ok (.iaload, 1) := by decide +kernel
theorem dX6_putOn_19 : decode cX6_putOn 19 = .ok (.aload_n 0, 1) := by decide +kernel
theorem dX6_putOn_20 : decode cX6_putOn 20 = .ok (.getfield 9, 3) := by decide +kernel
theorem dX6_putOn_23 : decode cX6_putOn 23 = .ok (.iconst 4, 1) := by decide +kernel
theorem dX6_putOn_24 : decode cX6_putOn 24 = .ok (.iaload, 1) := by decide +kernel
theorem dX6_putOn_25 : decode cX6_putOn 25 = .ok (.invokevirtual 213, 3) := by decide +kernel
theorem dX6_putOn_28 : decode cX6_putOn 28 = .ok (.aload_n 0, 1) := by decide +kernel
theorem dX6_putOn_29 : decode cX6_putOn 29 = .ok (.getfield 40, 3) := by decide +kernel
theorem dX6_putOn_32 : decode cX6_putOn 32 = .ok (.iload_n 3, 1) := by decide +kernel
theorem dX6_putOn_33 : decode cX6_putOn 33 = .ok (.iload_n 2, 1) := by decide +kernel
theorem dX6_putOn_34 : decode cX6_putOn 34 = .ok (.aload_n 0, 1) := by decide +kernel
theorem dX6_putOn_35 : decode cX6_putOn 35 = .ok (.getfield 88, 3) := by decide +kernel
theorem dX6_putOn_38 : decode cX6_putOn 38 = .ok (.invokevirtual 259, 3) := by decide +kernel
theorem dX6_putOn_41 : decode cX6_putOn 41 = .ok (.aload_n 0, 1) := by decide +kernel
theorem dX6_putOn_42 : decode cX6_putOn 42 = .ok (.getfield 27, 3) := by decide +kernel
theorem dX6_putOn_45 : decode cX6_putOn 45 = .ok (.getfield 146, 3) := by decide +kernel
theorem dX6_putOn_48 : decode cX6_putOn 48 = .ok (.aload_n 1, 1) := by decide +kernel
theorem dX6_putOn_49 : decode cX6_putOn 49 = .ok (.getfield 133, 3) := by decide +kernel
theorem dX6_putOn_52 : decode cX6_putOn 52 = .ok (.dup2, 1) := by decide +kernel
theorem dX6_putOn_53 : decode cX6_putOn 53 = .ok (.iaload, 1) := by decide +kernel
theorem dX6_putOn_54 : decode cX6_putOn 54 = .ok (.iconst 1, 1) := by decide +kernel
theorem dX6_putOn_55 : decode cX6_putOn 55 = .ok (.iadd, 1) := by decide +kernel
theorem dX6_putOn_56 : decode cX6_putOn 56 = .ok (.iastore, 1) := by decide +kernel
theorem dX6_putOn_57 : decode cX6_putOn 57 = .ok (.aload_n 1, 1) := by decide +kernel
theorem dX6_putOn_58 : decode cX6_putOn 58 = .ok (.dup, 1) := by decide +kernel
theorem dX6_putOn_59 : decode cX6_putOn 59 = .ok (.getfield 262, 3) := by decide +kernel
theorem dX6_putOn_62 : decode cX6_putOn 62 = .ok (.iconst 1, 1) := by decide +kernel
theorem dX6_putOn_63 : decode cX6_putOn 63 = .ok (.iadd, 1) := by decide +kernel
theorem dX6_putOn_64 : decode cX6_putOn 64 = .ok (.putfield 262, 3) := by decide +kernel
theorem dX6_putOn_67 : decode cX6_putOn 67 = .ok (.aload_n 1, 1) := by decide +kernel
theorem dX6_putOn_68 : decode cX6_putOn 68 = .ok (.invokevirtual 264, 3) := by decide +kernel
theorem dX6_putOn_71 : decode cX6_putOn 71 = .ok (.return_, 1) := by decide +kernel
theorem dX6_cleanOf_0 : decode cX6_cleanOf 0 = .ok (.aload_n 0, 1) := by decide +kernel
theorem dX6_cleanOf_1 : decode cX6_cleanOf 1 = .ok (.iconst 0, 1) := by decide +kernel
theorem dX6_cleanOf_2 : decode cX6_cleanOf 2 = .ok (.iconst 0, 1) := by decide +kernel
theorem dX6_cleanOf_3 : decode cX6_cleanOf 3 = .ok (.aload_n 0, 1) := by decide +kernel
theorem dX6_cleanOf_4 : decode cX6_cleanOf 4 = .ok (.getfield 9, 3) := by decide +kernel
theorem dX6_cleanOf_7 : decode cX6_cleanOf 7 = .ok (.bipush 14, 2) := by decide +kernel
theorem dX6_cleanOf_9 : decode cX6_cleanOf 9 = .ok (.iaload, 1) := by decide +kernel
theorem dX6_cleanOf_10 : decode cX6_cleanOf 10 = .ok (.invokevirtual 213, 3) := by decide +kernel
theorem dX6_cleanOf_13 : decode cX6_cleanOf 13 = .ok (.aload_n 1, 1) := by decide +kernel
theorem dX6_cleanOf_14 : decode cX6_cleanOf 14 = .ok (.iconst 0, 1) := by decide +kernel
theorem dX6_cleanOf_15 : decode cX6_cleanOf 15 = .ok (.putfield 174, 3) := by decide +kernel
theorem dX6_cleanOf_18 : decode cX6_cleanOf 18 = .ok (.return_, 1) := by decide +kernel
theorem dX6_reject_0 : decode cX6_reject 0 = .ok (.aload_n 0, 1) := by decide +kernel
theorem dX6_reject_1 : decode cX6_reject 1 = .ok (.getfield 27, 3) := by decide +kernel
theorem dX6_reject_4 : decode cX6_reject 4 = .ok (.getfield 149, 3) := by decide +kernel
theorem dX6_reject_7 : decode cX6_reject 7 = .ok (.aload_n 1, 1) := by decide +kernel
theorem dX6_reject_8 : decode cX6_reject 8 = .ok (.getfield 133, 3) := by decide +kernel
theorem dX6_reject_11 : decode cX6_reject 11 = .ok (.dup2, 1) := by decide +kernel
theorem dX6_reject_12 : decode cX6_reject 12 = .ok (.iaload, 1) := by decide +kernel
theorem dX6_reject_13 : decode cX6_reject 13 = .ok (.iconst 1, 1) := by decide +kernel
theorem dX6_reject_14 : decode cX6_reject 14 = .ok (.iadd, 1) := by decide +kernel
theorem dX6_reject_15 : decode cX6_reject 15 = .ok (.iastore, 1) := by decide +kernel
theorem dX6_reject_16 : decode cX6_reject 16 = .ok (.aload_n 1, 1) := by decide +kernel
theorem dX6_reject_17 : decode cX6_reject 17 = .ok (.dup, 1) := by decide +kernel
theorem dX6_reject_18 : decode cX6_reject 18 = .ok (.getfield 267, 3) := by decide +kernel
theorem dX6_reject_21 : decode cX6_reject 21 = .ok (.iconst 1, 1) := by decide +kernel
theorem dX6_reject_22 : decode cX6_reject 22 = .ok (.iadd, 1) := by decide +kernel
theorem dX6_reject_23 : decode cX6_reject 23 = .ok (.putfield 267, 3) := by decide +kernel
theorem dX6_reject_26 : decode cX6_reject 26 = .ok (.aload_n 1, 1) := by decide +kernel
theorem dX6_reject_27 : decode cX6_reject 27 = .ok (.invokevirtual 264, 3) := by decide +kernel
theorem dX6_reject_30 : decode cX6_reject 30 = .ok (.return_, 1) := by decide +kernel
theorem dX6_goTo_0 : decode cX6_goTo 0 = .ok (.aload_n 0, 1) := by decide +kernel
theorem dX6_goTo_1 : decode cX6_goTo 1 = .ok (.dup, 1) := by decide +kernel
theorem dX6_goTo_2 : decode cX6_goTo 2 = .ok (.getfield 88, 3) := by decide +kernel
theorem dX6_goTo_5 : decode cX6_goTo 5 = .ok (.aload_n 0, 1) := by decide +kernel
theorem dX6_goTo_6 : decode cX6_goTo 6 = .ok (.iload_n 1, 1) := by decide +kernel
theorem dX6_goTo_7 : decode cX6_goTo 7 = .ok (.iload_n 2, 1) := by decide +kernel
theorem dX6_goTo_8 : decode cX6_goTo 8 = .ok (.invokevirtual 269, 3) := by decide +kernel
theorem dX6_goTo_11 : decode cX6_goTo 11 = .ok (.iload_n 3, 1) := by decide +kernel
theorem dX6_goTo_12 : decode cX6_goTo 12 = .ok (.iadd, 1) := by decide +kernel
theorem dX6_goTo_13 : decode cX6_goTo 13 = .ok (.iadd, 1) := by decide +kernel
theorem dX6_goTo_14 : decode cX6_goTo 14 = .ok (.putfield 88, 3) := by decide +kernel
theorem dX6_goTo_17 : decode cX6_goTo 17 = .ok (.aload_n 0, 1) := by decide +kernel
theorem dX6_goTo_18 : decode cX6_goTo 18 = .ok (.iload_n 1, 1) := by decide +kernel
theorem dX6_goTo_19 : decode cX6_goTo 19 = .ok (.putfield 82, 3) := by decide +kernel
theorem dX6_goTo_22 : decode cX6_goTo 22 = .ok (.aload_n 0, 1) := by decide +kernel
theorem dX6_goTo_23 : decode cX6_goTo 23 = .ok (.iload_n 2, 1) := by decide +kernel
theorem dX6_goTo_24 : decode cX6_goTo 24 = .ok (.putfield 85, 3) := by decide +kernel
theorem dX6_goTo_27 : decode cX6_goTo 27 = .ok (.return_, 1) := by decide +kernel
theorem dX6_wayTo_0 : decode cX6_wayTo 0 = .ok (.iload_n 1, 1) := by decide +kernel
theorem dX6_wayTo_1 : decode cX6_wayTo 1 = .ok (.aload_n 0, 1) := by decide +kernel
theorem dX6_wayTo_2 : decode cX6_wayTo 2 = .ok (.getfield 82, 3) := by decide +kernel
theorem dX6_wayTo_5 : decode cX6_wayTo 5 = .ok (.isub, 1) := by decide +kernel
theorem dX6_wayTo_6 : decode cX6_wayTo 6 = .ok (.invokestatic 127, 3) := by decide +kernel
theorem dX6_wayTo_9 : decode cX6_wayTo 9 = .ok (.iload_n 2, 1) := by decide +kernel
theorem dX6_wayTo_10 : decode cX6_wayTo 10 = .ok (.aload_n 0, 1) := by decide +kernel
theorem dX6_wayTo_11 : decode cX6_wayTo 11 = .ok (.getfield 85, 3) := by decide +kernel
theorem dX6_wayTo_14 : decode cX6_wayTo 14 = .ok (.isub, 1) := by decide +kernel
theorem dX6_wayTo_15 : decode cX6_wayTo 15 = .ok (.invokestatic 127, 3) := by decide +kernel
theorem dX6_wayTo_18 : decode cX6_wayTo 18 = .ok (.invokestatic 164, 3) := by decide +kernel
theorem dX6_wayTo_21 : decode cX6_wayTo 21 = .ok (.istore_n 3, 1) := by decide +kernel
theorem dX6_wayTo_22 : decode cX6_wayTo 22 = .ok (.aload_n 0, 1) := by decide +kernel
theorem dX6_wayTo_23 : decode cX6_wayTo 23 = .ok (.getfield 9, 3) := by decide +kernel
theorem dX6_wayTo_26 : decode cX6_wayTo 26 = .ok (.iconst 0, 1) := by decide +kernel
theorem dX6_wayTo_27 : decode cX6_wayTo 27 = .ok (.iaload, 1) := by decide +kernel
theorem dX6_wayTo_28 : decode cX6_wayTo 28 = .ok (.istore 4, 2) := by decide +kernel
theorem dX6_wayTo_30 : decode cX6_wayTo 30 = .ok (.iload 4, 2) := by decide +kernel
theorem dX6_wayTo_32 : decode cX6_wayTo 32 = .ok (.iconst 1, 1) := by decide +kernel
theorem dX6_wayTo_33 : decode cX6_wayTo 33 = .ok (.if_icmp .ge 7, 3) := by decide +kernel
theorem dX6_wayTo_36 : decode cX6_wayTo 36 = .ok (.iload_n 3, 1) := by decide +kernel
theorem dX6_wayTo_37 : decode cX6_wayTo 37 = .ok (.goto 12, 3) := by decide +kernel
theorem dX6_wayTo_40 : decode cX6_wayTo 40 = .ok (.iload_n 3, 1) := by decide +kernel
theorem dX6_wayTo_41 : decode cX6_wayTo 41 = .ok (.iload 4, 2) := by decide +kernel
theorem dX6_wayTo_43 : decode cX6_wayTo 43 = .ok (.iadd, 1) := by decide +kernel
theorem dX6_wayTo_44 : decode cX6_wayTo 44 = .ok (.iconst 1, 1) := by decide +kernel
theorem dX6_wayTo_45 : decode cX6_wayTo 45 = .ok (.isub, 1) := by decide +kernel
theorem dX6_wayTo_46 : decode cX6_wayTo 46 = .ok (.iload 4, 2) := by decide +kernel
theorem dX6_wayTo_48 : decode cX6_wayTo 48 = .ok (.idiv, 1) := by decide +kernel
theorem dX6_wayTo_49 : decode cX6_wayTo 49 = .ok (.ireturn, 1) := by decide +kernel
theorem dX6_draw_0 : decode cX6_draw 0 = .ok (.aload_n 0, 1) := by decide +kernel
theorem dX6_draw_1 : decode cX6_draw 1 = .ok (.getfield 9, 3) := by decide +kernel
theorem dX6_draw_4 : decode cX6_draw 4 = .ok (.bipush 10, 2) := by decide +kernel
theorem dX6_draw_6 : decode cX6_draw 6 = .ok (.aload_n 0, 1) := by decide +kernel
theorem dX6_draw_7 : decode cX6_draw 7 = .ok (.getfield 9, 3) := by decide +kernel
theorem dX6_draw_10 : decode cX6_draw 10 = .ok (.bipush 10, 2) := by decide +kernel
theorem dX6_draw_12 : decode cX6_draw 12 = .ok (.iaload, 1) := by decide +kernel
theorem dX6_draw_13 : decode cX6_draw 13 = .ok (.i2l, 1) := by decide +kernel
theorem dX6_draw_14 : decode cX6_draw 14 = .ok (.ldc2_w 272, 3) := by decide +kernel
theorem dX6_draw_17 : decode cX6_draw 17 = .ok (.lmul, 1) := by decide +kernel
theorem dX6_draw_18 : decode cX6_draw 18 = .ok (.ldc2_w 274, 3) := by decide +kernel
theorem dX6_draw_21 : decode cX6_draw 21 = .ok (.ladd, 1) := by decide +kernel
theorem dX6_draw_22 : decode cX6_draw 22 = .ok (.ldc2_w 276, 3) := by decide +kernel
theorem dX6_draw_25 : decode cX6_draw 25 = .ok (.lrem, 1) := by decide +kernel
theorem dX6_draw_26 : decode cX6_draw 26 = .ok (.l2i, 1) := by decide +kernel
theorem dX6_draw_27 : decode cX6_draw 27 = .ok (.iastore, 1) := by decide +kernel
theorem dX6_draw_28 : decode cX6_draw 28 = .ok (.aload_n 0, 1) := by decide +kernel
theorem dX6_draw_29 : decode cX6_draw 29 = .ok (.getfield 9, 3) := by decide +kernel
theorem dX6_draw_32 : decode cX6_draw 32 = .ok (.bipush 10, 2) := by decide +kernel
theorem dX6_draw_34 : decode cX6_draw 34 = .ok (.iaload, 1) := by decide +kernel
theorem dX6_draw_35 : decode cX6_draw 35 = .ok (.ldc_w 278, 3) := by decide +kernel
theorem dX6_draw_38 : decode cX6_draw 38 = .ok (.idiv, 1) := by decide +kernel
theorem dX6_draw_39 : decode cX6_draw 39 = .ok (.bipush 100, 2) := by decide +kernel
theorem dX6_draw_41 : decode cX6_draw 41 = .ok (.irem, 1) := by decide +kernel
theorem dX6_draw_42 : decode cX6_draw 42 = .ok (.ireturn, 1) := by decide +kernel
theorem dX7_init_0 : decode cX7_init 0 = .ok (.aload_n 0, 1) := by decide +kernel
theorem dX7_init_1 : decode cX7_init 1 = .ok (.invokespecial 3, 3) := by decide +kernel
theorem dX7_init_4 : decode cX7_init 4 = .ok (.aload_n 0, 1) := by decide +kernel
theorem dX7_init_5 : decode cX7_init 5 = .ok (.aload_n 1, 1) := by decide +kernel
theorem dX7_init_6 : decode cX7_init 6 = .ok (.putfield 9, 3) := by decide +kernel
theorem dX7_init_9 : decode cX7_init 9 = .ok (.return_, 1) := by decide +kernel
theorem dX7_next_0 : decode cX7_next 0 = .ok (.aload_n 0, 1) := by decide +kernel
theorem dX7_next_1 : decode cX7_next 1 = .ok (.getfield 9, 3) := by decide +kernel
theorem dX7_next_4 : decode cX7_next 4 = .ok (.getfield 15, 3) := by decide +kernel
theorem dX7_next_7 : decode cX7_next 7 = .ok (.ifCond .eq 5, 3) := by decide +kernel
theorem dX7_next_10 : decode cX7_next 10 = .ok (.iconst 0, 1) := by decide +kernel
theorem dX7_next_11 : decode cX7_next 11 = .ok (.ireturn, 1) := by decide +kernel
theorem dX7_next_12 : decode cX7_next 12 = .ok (.aload_n 0, 1) := by decide +kernel
theorem dX7_next_13 : decode cX7_next 13 = .ok (.getfield 9, 3) := by decide +kernel
theorem dX7_next_16 : decode cX7_next 16 = .ok (.getfield 21, 3) := by decide +kernel
theorem dX7_next_19 : decode cX7_next 19 = .ok (.invokevirtual 25, 3) := by decide +kernel
theorem dX7_next_22 : decode cX7_next 22 = .ok (.lstore_n 1, 1) := by decide +kernel
theorem dX7_next_23 : decode cX7_next 23 = .ok (.aload_n 0, 1) := by decide +kernel
theorem dX7_next_24 : decode cX7_next 24 = .ok (.lload_n 1, 1) := by decide +kernel
theorem dX7_next_25 : decode cX7_next 25 = .ok (.invokevirtual 31, 3) := by decide +kernel
theorem dX7_next_28 : decode cX7_next 28 = .ok (.ifCond .ne 18, 3) := by decide +kernel
theorem dX7_next_31 : decode cX7_next 31 = .ok (.aload_n 0, 1) := by decide +kernel
theorem dX7_next_32 : decode cX7_next 32 = .ok (.invokevirtual 35, 3) := by decide +kernel
theorem dX7_next_35 : decode cX7_next 35 = .ok (.ifCond .ne 11, 3) := by decide +kernel
theorem dX7_next_38 : decode cX7_next 38 = .ok (.aload_n 0, 1) := by decide +kernel
theorem dX7_next_39 : decode cX7_next 39 = .ok (.lload_n 1, 1) := by decide +kernel
theorem dX7_next_40 : decode cX7_next 40 = .ok (.invokevirtual 39, 3) := by decide +kernel
theorem dX7_next_43 : decode cX7_next 43 = .ok (.ifCond .eq 7, 3) := by decide +kernel
theorem dX7_next_46 : decode cX7_next 46 = .ok (.iconst 1, 1) := by decide +kernel
theorem dX7_next_47 : decode cX7_next 47 = .ok (.goto 4, 3) := by decide +kernel
theorem dX7_next_50 : decode cX7_next 50 = .ok (.iconst 0, 1) := by decide +kernel
theorem dX7_next_51 : decode cX7_next 51 = .ok (.ireturn, 1) := by decide +kernel
theorem dX7_follow_0 : decode cX7_follow 0 = .ok (.aload_n 0, 1) := by decide +kernel
theorem dX7_follow_1 : decode cX7_follow 1 = .ok (.invokevirtual 42, 3) := by decide +kernel
theorem dX7_follow_4 : decode cX7_follow 4 = .ok (.ifCond .eq 25, 3) := by decide +kernel
theorem dX7_follow_7 : decode cX7_follow 7 = .ok (.aload_n 0, 1) := by decide +kernel
theorem dX7_follow_8 : decode cX7_follow 8 = .ok (.getfield 9, 3) := by decide +kernel
theorem dX7_follow_11 : decode cX7_follow 11 = .ok (.aload_n 0, 1) := by decide +kernel
theorem dX7_follow_12 : decode cX7_follow 12 = .ok (.getfield 45, 3) := by decide +kernel
theorem dX7_follow_15 : decode cX7_follow 15 = .ok (.aload_n 0, 1) := by decide +kernel
theorem dX7_follow_16 : decode cX7_follow 16 = .ok (.getfield 49, 3) := by decide +kernel
theorem dX7_follow_19 : decode cX7_follow 19 = .ok (.aload_n 0, 1) := by decide +kernel
theorem dX7_follow_20 : decode cX7_follow 20 = .ok (.getfield 52, 3) := by decide +kernel
theorem dX7_follow_23 : decode cX7_follow 23 = .ok (.invokevirtual 55, 3) := by decide +kernel
theorem dX7_follow_26 : decode cX7_follow 26 = .ok (.goto 4, 3) := by decide +kernel
theorem dX7_follow_29 : decode cX7_follow 29 = .ok (.iconst (-1), 1) := by decide +kernel
theorem dX7_follow_30 : decode cX7_follow 30 = .ok (.ireturn, 1) := by decide +kernel
