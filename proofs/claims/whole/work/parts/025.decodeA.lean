/-! decode rows -/
theorem dX0_init_0 : decode cX0_init 0 = .ok (.aload_n 0, 1) := by decide +kernel
theorem dX0_init_1 : decode cX0_init 1 = .ok (.invokespecial 3, 3) := by decide +kernel
theorem dX0_init_4 : decode cX0_init 4 = .ok (.aload_n 0, 1) := by decide +kernel
theorem dX0_init_5 : decode cX0_init 5 = .ok (.bipush 40, 2) := by decide +kernel
theorem dX0_init_7 : decode cX0_init 7 = .ok (.newarray .int, 2) := by decide +kernel
theorem dX0_init_9 : decode cX0_init 9 = .ok (.putfield 9, 3) := by decide +kernel
theorem dX0_init_12 : decode cX0_init 12 = .ok (.aload_n 0, 1) := by decide +kernel
theorem dX0_init_13 : decode cX0_init 13 = .ok (.bipush 40, 2) := by decide +kernel
theorem dX0_init_15 : decode cX0_init 15 = .ok (.newarray .int, 2) := by decide +kernel
theorem dX0_init_17 : decode cX0_init 17 = .ok (.putfield 15, 3) := by decide +kernel
theorem dX0_init_20 : decode cX0_init 20 = .ok (.aload_n 0, 1) := by decide +kernel
theorem dX0_init_21 : decode cX0_init 21 = .ok (.bipush 40, 2) := by decide +kernel
theorem dX0_init_23 : decode cX0_init 23 = .ok (.newarray .int, 2) := by decide +kernel
theorem dX0_init_25 : decode cX0_init 25 = .ok (.putfield 18, 3) := by decide +kernel
theorem dX0_init_28 : decode cX0_init 28 = .ok (.aload_n 0, 1) := by decide +kernel
theorem dX0_init_29 : decode cX0_init 29 = .ok (.bipush 40, 2) := by decide +kernel
theorem dX0_init_31 : decode cX0_init 31 = .ok (.newarray .int, 2) := by decide +kernel
theorem dX0_init_33 : decode cX0_init 33 = .ok (.putfield 21, 3) := by decide +kernel
theorem dX0_init_36 : decode cX0_init 36 = .ok (.aload_n 0, 1) := by decide +kernel
theorem dX0_init_37 : decode cX0_init 37 = .ok (.bipush 40, 2) := by decide +kernel
theorem dX0_init_39 : decode cX0_init 39 = .ok (.newarray .int, 2) := by decide +kernel
theorem dX0_init_41 : decode cX0_init 41 = .ok (.putfield 24, 3) := by decide +kernel
theorem dX0_init_44 : decode cX0_init 44 = .ok (.aload_n 0, 1) := by decide +kernel
theorem dX0_init_45 : decode cX0_init 45 = .ok (.bipush 8, 2) := by decide +kernel
theorem dX0_init_47 : decode cX0_init 47 = .ok (.newarray .long, 2) := by decide +kernel
theorem dX0_init_49 : decode cX0_init 49 = .ok (.putfield 27, 3) := by decide +kernel
theorem dX0_init_52 : decode cX0_init 52 = .ok (.aload_n 0, 1) := by decide +kernel
theorem dX0_init_53 : decode cX0_init 53 = .ok (.bipush 20, 2) := by decide +kernel
theorem dX0_init_55 : decode cX0_init 55 = .ok (.newarray .int, 2) := by decide +kernel
theorem dX0_init_57 : decode cX0_init 57 = .ok (.putfield 31, 3) := by decide +kernel
theorem dX0_init_60 : decode cX0_init 60 = .ok (.aload_n 0, 1) := by decide +kernel
theorem dX0_init_61 : decode cX0_init 61 = .ok (.bipush 20, 2) := by decide +kernel
theorem dX0_init_63 : decode cX0_init 63 = .ok (.newarray .int, 2) := by decide +kernel
theorem dX0_init_65 : decode cX0_init 65 = .ok (.putfield 34, 3) := by decide +kernel
theorem dX0_init_68 : decode cX0_init 68 = .ok (.return_, 1) := by decide +kernel
theorem dX0_clear_0 : decode cX0_clear 0 = .ok (.aload_n 0, 1) := by decide +kernel
theorem dX0_clear_1 : decode cX0_clear 1 = .ok (.iconst 0, 1) := by decide +kernel
theorem dX0_clear_2 : decode cX0_clear 2 = .ok (.putfield 37, 3) := by decide +kernel
theorem dX0_clear_5 : decode cX0_clear 5 = .ok (.aload_n 0, 1) := by decide +kernel
theorem dX0_clear_6 : decode cX0_clear 6 = .ok (.getfield 27, 3) := by decide +kernel
theorem dX0_clear_9 : decode cX0_clear 9 = .ok (.lconst 0, 1) := by decide +kernel
theorem dX0_clear_10 : decode cX0_clear 10 = .ok (.invokestatic 41, 3) := by decide +kernel
theorem dX0_clear_13 : decode cX0_clear 13 = .ok (.aload_n 0, 1) := by decide +kernel
theorem dX0_clear_14 : decode cX0_clear 14 = .ok (.lconst 0, 1) := by decide +kernel
theorem dX0_clear_15 : decode cX0_clear 15 = .ok (.putfield 47, 3) := by decide +kernel
theorem dX0_clear_18 : decode cX0_clear 18 = .ok (.aload_n 0, 1) := by decide +kernel
theorem dX0_clear_19 : decode cX0_clear 19 = .ok (.lconst 0, 1) := by decide +kernel
theorem dX0_clear_20 : decode cX0_clear 20 = .ok (.putfield 51, 3) := by decide +kernel
theorem dX0_clear_23 : decode cX0_clear 23 = .ok (.aload_n 0, 1) := by decide +kernel
theorem dX0_clear_24 : decode cX0_clear 24 = .ok (.iconst 0, 1) := by decide +kernel
theorem dX0_clear_25 : decode cX0_clear 25 = .ok (.putfield 54, 3) := by decide +kernel
theorem dX0_clear_28 : decode cX0_clear 28 = .ok (.return_, 1) := by decide +kernel
theorem dX0_copyFrom_0 : decode cX0_copyFrom 0 = .ok (.aload_n 0, 1) := by decide +kernel
theorem dX0_copyFrom_1 : decode cX0_copyFrom 1 = .ok (.aload_n 1, 1) := by decide +kernel
theorem dX0_copyFrom_2 : decode cX0_copyFrom 2 = .ok (.getfield 37, 3) := by decide +kernel
theorem dX0_copyFrom_5 : decode cX0_copyFrom 5 = .ok (.putfield 37, 3) := by decide +kernel
theorem dX0_copyFrom_8 : decode cX0_copyFrom 8 = .ok (.aload_n 1, 1) := by decide +kernel
theorem dX0_copyFrom_9 : decode cX0_copyFrom 9 = .ok (.getfield 9, 3) := by decide +kernel
theorem dX0_copyFrom_12 : decode cX0_copyFrom 12 = .ok (.iconst 0, 1) := by decide +kernel
theorem dX0_copyFrom_13 : decode cX0_copyFrom 13 = .ok (.aload_n 0, 1) := by decide +kernel
theorem dX0_copyFrom_14 : decode cX0_copyFrom 14 = .ok (.getfield 9, 3) := by decide +kernel
theorem dX0_copyFrom_17 : decode cX0_copyFrom 17 = .ok (.iconst 0, 1) := by decide +kernel
theorem dX0_copyFrom_18 : decode cX0_copyFrom 18 = .ok (.aload_n 0, 1) := by decide +kernel
theorem dX0_copyFrom_19 : decode cX0_copyFrom 19 = .ok (.getfield 37, 3) := by decide +kernel
theorem dX0_copyFrom_22 : decode cX0_copyFrom 22 = .ok (.invokestatic 57, 3) := by decide +kernel
theorem dX0_copyFrom_25 : decode cX0_copyFrom 25 = .ok (.aload_n 1, 1) := by decide +kernel
theorem dX0_copyFrom_26 : decode cX0_copyFrom 26 = .ok (.getfield 15, 3) := by decide +kernel
theorem dX0_copyFrom_29 : decode cX0_copyFrom 29 = .ok (.iconst 0, 1) := by decide +kernel
theorem dX0_copyFrom_30 : decode cX0_copyFrom 30 = .ok (.aload_n 0, 1) := by decide +kernel
theorem dX0_copyFrom_31 : decode cX0_copyFrom 31 = .ok (.getfield 15, 3) := by decide +kernel
theorem dX0_copyFrom_34 : decode cX0_copyFrom 34 = .ok (.iconst 0, 1) := by decide +kernel
theorem dX0_copyFrom_35 : decode cX0_copyFrom 35 = .ok (.aload_n 0, 1) := by decide +kernel
theorem dX0_copyFrom_36 : decode cX0_copyFrom 36 = .ok (.getfield 37, 3) := by decide +kernel
theorem dX0_copyFrom_39 : decode cX0_copyFrom 39 = .ok (.invokestatic 57, 3) := by decide +kernel
theorem dX0_copyFrom_42 : decode cX0_copyFrom 42 = .ok (.aload_n 1, 1) := by decide +kernel
theorem dX0_copyFrom_43 : decode cX0_copyFrom 43 = .ok (.getfield 18, 3) := by decide +kernel
theorem dX0_copyFrom_46 : decode cX0_copyFrom 46 = .ok (.iconst 0, 1) := by decide +kernel
theorem dX0_copyFrom_47 : decode cX0_copyFrom 47 = .ok (.aload_n 0, 1) := by decide +kernel
theorem dX0_copyFrom_48 : decode cX0_copyFrom 48 = .ok (.getfield 18, 3) := by decide +kernel
theorem dX0_copyFrom_51 : decode cX0_copyFrom 51 = .ok (.iconst 0, 1) := by decide +kernel
theorem dX0_copyFrom_52 : decode cX0_copyFrom 52 = .ok (.aload_n 0, 1) := by decide +kernel
theorem dX0_copyFrom_53 : decode cX0_copyFrom 53 = .ok (.getfield 37, 3) := by decide +kernel
theorem dX0_copyFrom_56 : decode cX0_copyFrom 56 = .ok (.invokestatic 57, 3) := by decide +kernel
theorem dX0_copyFrom_59 : decode cX0_copyFrom 59 = .ok (.aload_n 1, 1) := by decide +kernel
theorem dX0_copyFrom_60 : decode cX0_copyFrom 60 = .ok (.getfield 21, 3) := by decide +kernel
theorem dX0_copyFrom_63 : decode cX0_copyFrom 63 = .ok (.iconst 0, 1) := by decide +kernel
theorem dX0_copyFrom_64 : decode cX0_copyFrom 64 = .ok (.aload_n 0, 1) := by decide +kernel
theorem dX0_copyFrom_65 : decode cX0_copyFrom 65 = .ok (.getfield 21, 3) := by decide +kernel
theorem dX0_copyFrom_68 : decode cX0_copyFrom 68 = .ok (.iconst 0, 1) := by decide +kernel
theorem dX0_copyFrom_69 : decode cX0_copyFrom 69 = .ok (.aload_n 0, 1) := by decide +kernel
theorem dX0_copyFrom_70 : decode cX0_copyFrom 70 = .ok (.getfield 37, 3) := by decide +kernel
theorem dX0_copyFrom_73 : decode cX0_copyFrom 73 = .ok (.invokestatic 57, 3) := by decide +kernel
theorem dX0_copyFrom_76 : decode cX0_copyFrom 76 = .ok (.aload_n 1, 1) := by decide +kernel
theorem dX0_copyFrom_77 : decode cX0_copyFrom 77 = .ok (.getfield 24, 3) := by decide +kernel
theorem dX0_copyFrom_80 : decode cX0_copyFrom 80 = .ok (.iconst 0, 1) := by decide +kernel
theorem dX0_copyFrom_81 : decode cX0_copyFrom 81 = .ok (.aload_n 0, 1) := by decide +kernel
theorem dX0_copyFrom_82 : decode cX0_copyFrom 82 = .ok (.getfield 24, 3) := by decide +kernel
theorem dX0_copyFrom_85 : decode cX0_copyFrom 85 = .ok (.iconst 0, 1) := by decide +kernel
theorem dX0_copyFrom_86 : decode cX0_copyFrom 86 = .ok (.aload_n 0, 1) := by decide +kernel
theorem dX0_copyFrom_87 : decode cX0_copyFrom 87 = .ok (.getfield 37, 3) := by decide +kernel
theorem dX0_copyFrom_90 : decode cX0_copyFrom 90 = .ok (.invokestatic 57, 3) := by decide +kernel
theorem dX0_copyFrom_93 : decode cX0_copyFrom 93 = .ok (.aload_n 1, 1) := by decide +kernel
theorem dX0_copyFrom_94 : decode cX0_copyFrom 94 = .ok (.getfield 27, 3) := by decide +kernel
theorem dX0_copyFrom_97 : decode cX0_copyFrom 97 = .ok (.iconst 0, 1) := by decide +kernel
theorem dX0_copyFrom_98 : decode cX0_copyFrom 98 = .ok (.aload_n 0, 1) := by decide +kernel
theorem dX0_copyFrom_99 : decode cX0_copyFrom 99 = .ok (.getfield 27, 3) := by decide +kernel
theorem dX0_copyFrom_102 : decode cX0_copyFrom 102 = .ok (.iconst 0, 1) := by decide +kernel
theorem dX0_copyFrom_103 : decode cX0_copyFrom 103 = .ok (.bipush 8, 2) := by decide +kernel
theorem dX0_copyFrom_105 : decode cX0_copyFrom 105 = .ok (.invokestatic 57, 3) := by decide +kernel
theorem dX0_copyFrom_108 : decode cX0_copyFrom 108 = .ok (.aload_n 0, 1) := by decide +kernel
theorem dX0_copyFrom_109 : decode cX0_copyFrom 109 = .ok (.aload_n 1, 1) := by decide +kernel
theorem dX0_copyFrom_110 : decode cX0_copyFrom 110 = .ok (.getfield 47, 3) := by decide +kernel
theorem dX0_copyFrom_113 : decode cX0_copyFrom 113 = .ok (.putfield 47, 3) := by decide +kernel
theorem dX0_copyFrom_116 : decode cX0_copyFrom 116 = .ok (.aload_n 0, 1) := by decide +kernel
theorem dX0_copyFrom_117 : decode cX0_copyFrom 117 = .ok (.aload_n 1, 1) := by decide +kernel
theorem dX0_copyFrom_118 : decode cX0_copyFrom 118 = .ok (.getfield 51, 3) := by decide +kernel
theorem dX0_copyFrom_121 : decode cX0_copyFrom 121 = .ok (.putfield 51, 3) := by decide +kernel
theorem dX0_copyFrom_124 : decode cX0_copyFrom 124 = .ok (.aload_n 0, 1) := by decide +kernel
theorem dX0_copyFrom_125 : decode cX0_copyFrom 125 = .ok (.aload_n 1, 1) := by decide +kernel
theorem dX0_copyFrom_126 : decode cX0_copyFrom 126 = .ok (.getfield 54, 3) := by decide +kernel
theorem dX0_copyFrom_129 : decode cX0_copyFrom 129 = .ok (.putfield 54, 3) := by decide +kernel
theorem dX0_copyFrom_132 : decode cX0_copyFrom 132 = .ok (.aload_n 1, 1) := by decide +kernel
theorem dX0_copyFrom_133 : decode cX0_copyFrom 133 = .ok (.getfield 31, 3) := by decide +kernel
theorem dX0_copyFrom_136 : decode cX0_copyFrom 136 = .ok (.iconst 0, 1) := by decide +kernel
theorem dX0_copyFrom_137 : decode cX0_copyFrom 137 = .ok (.aload_n 0, 1) := by decide +kernel
theorem dX0_copyFrom_138 : decode cX0_copyFrom 138 = .ok (.getfield 31, 3) := by decide +kernel
theorem dX0_copyFrom_141 : decode cX0_copyFrom 141 = .ok (.iconst 0, 1) := by decide +kernel
theorem dX0_copyFrom_142 : decode cX0_copyFrom 142 = .ok (.aload_n 0, 1) := by decide +kernel
theorem dX0_copyFrom_143 : decode cX0_copyFrom 143 = .ok (.getfield 54, 3) := by decide +kernel
theorem dX0_copyFrom_146 : decode cX0_copyFrom 146 = .ok (.invokestatic 57, 3) := by decide +kernel
theorem dX0_copyFrom_149 : decode cX0_copyFrom 149 = .ok (.aload_n 1, 1) := by decide +kernel
theorem dX0_copyFrom_150 : decode cX0_copyFrom 150 = .ok (.getfield 34, 3) := by decide +kernel
theorem dX0_copyFrom_153 : decode cX0_copyFrom 153 = .ok (.iconst 0, 1) := by decide +kernel
theorem dX0_copyFrom_154 : decode cX0_copyFrom 154 = .ok (.aload_n 0, 1) := by decide +kernel
theorem dX0_copyFrom_155 : decode cX0_copyFrom 155 = .ok (.getfield 34, 3) := by decide +kernel
theorem dX0_copyFrom_158 : decode cX0_copyFrom 158 = .ok (.iconst 0, 1) := by decide +kernel
theorem dX0_copyFrom_159 : decode cX0_copyFrom 159 = .ok (.aload_n 0, 1) := by decide +kernel
theorem dX0_copyFrom_160 : decode cX0_copyFrom 160 = .ok (.getfield 54, 3) := by decide +kernel
theorem dX0_copyFrom_163 : decode cX0_copyFrom 163 = .ok (.invokestatic 57, 3) := by decide +kernel
theorem dX0_copyFrom_166 : decode cX0_copyFrom 166 = .ok (.return_, 1) := by decide +kernel
theorem dX0_addSpot_0 : decode cX0_addSpot 0 = .ok (.aload_n 0, 1) := by decide +kernel
theorem dX0_addSpot_1 : decode cX0_addSpot 1 = .ok (.getfield 37, 3) := by decide +kernel
theorem dX0_addSpot_4 : decode cX0_addSpot 4 = .ok (.bipush 40, 2) := by decide +kernel
theorem dX0_addSpot_6 : decode cX0_addSpot 6 = .ok (.if_icmp .ge 73, 3) := by decide +kernel
theorem dX0_addSpot_9 : decode cX0_addSpot 9 = .ok (.aload_n 0, 1) := by decide +kernel
theorem dX0_addSpot_10 : decode cX0_addSpot 10 = .ok (.getfield 9, 3) := by decide +kernel
theorem dX0_addSpot_13 : decode cX0_addSpot 13 = .ok (.aload_n 0, 1) := by decide +kernel
theorem dX0_addSpot_14 : decode cX0_addSpot 14 = .ok (.getfield 37, 3) := by decide +kernel
theorem dX0_addSpot_17 : decode cX0_addSpot 17 = .ok (.iload_n 1, 1) := by decide +kernel
theorem dX0_addSpot_18 : decode cX0_addSpot 18 = .ok (.iastore, 1) := by decide +kernel
theorem dX0_addSpot_19 : decode cX0_addSpot 19 = .ok (.aload_n 0, 1) := by decide +kernel
theorem dX0_addSpot_20 : decode cX0_addSpot 20 = .ok (.getfield 15, 3) := by decide +kernel
theorem dX0_addSpot_23 : decode cX0_addSpot 23 = .ok (.aload_n 0, 1) := by decide +kernel
theorem dX0_addSpot_24 : decode cX0_addSpot 24 = .ok (.getfield 37, 3) := by decide +kernel
theorem dX0_addSpot_27 : decode cX0_addSpot 27 = .ok (.iload_n 2, 1) := by decide +kernel
theorem dX0_addSpot_28 : decode cX0_addSpot 28 = .ok (.iastore, 1) := by decide +kernel
theorem dX0_addSpot_29 : decode cX0_addSpot 29 = .ok (.aload_n 0, 1) := by decide +kernel
theorem dX0_addSpot_30 : decode cX0_addSpot 30 = .ok (.getfield 18, 3) := by decide +kernel
theorem dX0_addSpot_33 : decode cX0_addSpot 33 = .ok (.aload_n 0, 1) := by decide +kernel
theorem dX0_addSpot_34 : decode cX0_addSpot 34 = .ok (.getfield 37, 3) := by decide +kernel
theorem dX0_addSpot_37 : decode cX0_addSpot 37 = .ok (.iload_n 3, 1) := by decide +kernel
theorem dX0_addSpot_38 : decode cX0_addSpot 38 = .ok (.iastore, 1) := by decide +kernel
theorem dX0_addSpot_39 : decode cX0_addSpot 39 = .ok (.aload_n 0, 1) := by decide +kernel
theorem dX0_addSpot_40 : decode cX0_addSpot 40 = .ok (.getfield 27, 3) := by decide +kernel
theorem dX0_addSpot_43 : decode cX0_addSpot 43 = .ok (.iload_n 1, 1) := by decide +kernel
theorem dX0_addSpot_44 : decode cX0_addSpot 44 = .ok (.dup2, 1) := by decide +kernel
theorem dX0_addSpot_45 : decode cX0_addSpot 45 = .ok (.laload, 1) := by decide +kernel
theorem dX0_addSpot_46 : decode cX0_addSpot 46 = .ok (.lconst 1, 1) := by decide +kernel
theorem dX0_addSpot_47 : decode cX0_addSpot 47 = .ok (.aload_n 0, 1) := by decide +kernel
theorem dX0_addSpot_48 : decode cX0_addSpot 48 = .ok (.getfield 37, 3) := by decide +kernel
theorem dX0_addSpot_51 : decode cX0_addSpot 51 = .ok (.lshl, 1) := by decide +kernel
theorem dX0_addSpot_52 : decode cX0_addSpot 52 = .ok (.lor, 1) := by decide +kernel
theorem dX0_addSpot_53 : decode cX0_addSpot 53 = .ok (.lastore, 1) := by decide +kernel
theorem dX0_addSpot_54 : decode cX0_addSpot 54 = .ok (.aload_n 0, 1) := by decide +kernel
theorem dX0_addSpot_55 : decode cX0_addSpot 55 = .ok (.dup, 1) := by decide +kernel
theorem dX0_addSpot_56 : decode cX0_addSpot 56 = .ok (.getfield 47, 3) := by decide +kernel
theorem dX0_addSpot_59 : decode cX0_addSpot 59 = .ok (.lconst 1, 1) := by decide +kernel
theorem dX0_addSpot_60 : decode cX0_addSpot 60 = .ok (.aload_n 0, 1) := by decide +kernel
theorem dX0_addSpot_61 : decode cX0_addSpot 61 = .ok (.getfield 37, 3) := by decide +kernel
theorem dX0_addSpot_64 : decode cX0_addSpot 64 = .ok (.lshl, 1) := by decide +kernel
theorem dX0_addSpot_65 : decode cX0_addSpot 65 = .ok (.lor, 1) := by decide +kernel
theorem dX0_addSpot_66 : decode cX0_addSpot 66 = .ok (.putfield 47, 3) := by decide +kernel
theorem dX0_addSpot_69 : decode cX0_addSpot 69 = .ok (.aload_n 0, 1) := by decide +kernel
theorem dX0_addSpot_70 : decode cX0_addSpot 70 = .ok (.dup, 1) := by decide +kernel
theorem dX0_addSpot_71 : decode cX0_addSpot 71 = .ok (.getfield 37, 3) := by decide +kernel
theorem dX0_addSpot_74 : decode cX0_addSpot 74 = .ok (.iconst 1, 1) := by decide +kernel
theorem dX0_addSpot_75 : decode cX0_addSpot 75 = .ok (.iadd, 1) := by decide +kernel
theorem dX0_addSpot_76 : decode cX0_addSpot 76 = .ok (.putfield 37, 3) := by decide +kernel
theorem dX0_addSpot_79 : decode cX0_addSpot 79 = .ok (.return_, 1) := by decide +kernel
theorem dX0_valueOf_0 : decode cX0_valueOf 0 = .ok (.iload_n 2, 1) := by decide +kernel
theorem dX0_valueOf_1 : decode cX0_valueOf 1 = .ok (.tableswitch 101 0 4 #[35, 42, 49, 56, 82], 35) := by decide +kernel
theorem dX0_valueOf_36 : decode cX0_valueOf 36 = .ok (.aload_n 0, 1) := by decide +kernel
theorem dX0_valueOf_37 : decode cX0_valueOf 37 = .ok (.getfield 9, 3) := by decide +kernel
theorem dX0_valueOf_40 : decode cX0_valueOf 40 = .ok (.iload_n 1, 1) := by decide +kernel
theorem dX0_valueOf_41 : decode cX0_valueOf 41 = .ok (.iaload, 1) := by decide +kernel
theorem dX0_valueOf_42 : decode cX0_valueOf 42 = .ok (.ireturn, 1) := by decide +kernel
theorem dX0_valueOf_43 : decode cX0_valueOf 43 = .ok (.aload_n 0, 1) := by decide +kernel
theorem dX0_valueOf_44 : decode cX0_valueOf 44 = .ok (.getfield 15, 3) := by decide +kernel
theorem dX0_valueOf_47 : decode cX0_valueOf 47 = .ok (.iload_n 1, 1) := by decide +kernel
theorem dX0_valueOf_48 : decode cX0_valueOf 48 = .ok (.iaload, 1) := by decide +kernel
theorem dX0_valueOf_49 : decode cX0_valueOf 49 = .ok (.ireturn, 1) := by decide +kernel
theorem dX0_valueOf_50 : decode cX0_valueOf 50 = .ok (.aload_n 0, 1) := by decide +kernel
theorem dX0_valueOf_51 : decode cX0_valueOf 51 = .ok (.getfield 18, 3) := by decide +kernel
theorem dX0_valueOf_54 : decode cX0_valueOf 54 = .ok (.iload_n 1, 1) := by decide +kernel
theorem dX0_valueOf_55 : decode cX0_valueOf 55 = .ok (.iaload, 1) := by decide +kernel
theorem dX0_valueOf_56 : decode cX0_valueOf 56 = .ok (.ireturn, 1) := by decide +kernel
theorem dX0_valueOf_57 : decode cX0_valueOf 57 = .ok (.aload_n 0, 1) := by decide +kernel
theorem dX0_valueOf_58 : decode cX0_valueOf 58 = .ok (.iload_n 1, 1) := by decide +kernel
theorem dX0_valueOf_59 : decode cX0_valueOf 59 = .ok (.invokevirtual 63, 3) := by decide +kernel
theorem dX0_valueOf_62 : decode cX0_valueOf 62 = .ok (.ifCond .eq 7, 3) := by decide +kernel
theorem dX0_valueOf_65 : decode cX0_valueOf 65 = .ok (.iconst 0, 1) := by decide +kernel
theorem dX0_valueOf_66 : decode cX0_valueOf 66 = .ok (.goto 16, 3) := by decide +kernel
theorem dX0_valueOf_69 : decode cX0_valueOf 69 = .ok (.aload_n 0, 1) := by decide +kernel
theorem dX0_valueOf_70 : decode cX0_valueOf 70 = .ok (.iload_n 1, 1) := by decide +kernel
theorem dX0_valueOf_71 : decode cX0_valueOf 71 = .ok (.invokevirtual 67, 3) := by decide +kernel
theorem dX0_valueOf_74 : decode cX0_valueOf 74 = .ok (.ifCond .eq 7, 3) := by decide +kernel
theorem dX0_valueOf_77 : decode cX0_valueOf 77 = .ok (.iconst 1, 1) := by decide +kernel
theorem dX0_valueOf_78 : decode cX0_valueOf 78 = .ok (.goto 4, 3) := by decide +kernel
theorem dX0_valueOf_81 : decode cX0_valueOf 81 = .ok (.iconst 2, 1) := by decide +kernel
theorem dX0_valueOf_82 : decode cX0_valueOf 82 = .ok (.ireturn, 1) := by decide +kernel
theorem dX0_valueOf_83 : decode cX0_valueOf 83 = .ok (.aload_n 0, 1) := by decide +kernel
theorem dX0_valueOf_84 : decode cX0_valueOf 84 = .ok (.iload_n 1, 1) := by decide +kernel
theorem dX0_valueOf_85 : decode cX0_valueOf 85 = .ok (.invokevirtual 67, 3) := by decide +kernel
theorem dX0_valueOf_88 : decode cX0_valueOf 88 = .ok (.ifCond .eq 12, 3) := by decide +kernel
theorem dX0_valueOf_91 : decode cX0_valueOf 91 = .ok (.aload_n 0, 1) := by decide +kernel
theorem dX0_valueOf_92 : decode cX0_valueOf 92 = .ok (.getfield 21, 3) := by decide +kernel
theorem dX0_valueOf_95 : decode cX0_valueOf 95 = .ok (.iload_n 1, 1) := by decide +kernel
theorem dX0_valueOf_96 : decode cX0_valueOf 96 = .ok (.iaload, 1) := by decide +kernel
theorem dX0_valueOf_97 : decode cX0_valueOf 97 = .ok (.goto 4, 3) := by decide +kernel
theorem dX0_valueOf_100 : decode cX0_valueOf 100 = .ok (.iconst (-1), 1) := by decide +kernel
theorem dX0_valueOf_101 : decode cX0_valueOf 101 = .ok (.ireturn, 1) := by decide +kernel
theorem dX0_valueOf_102 : decode cX0_valueOf 102 = .ok (.aload_n 0, 1) := by decide +kernel
theorem dX0_valueOf_103 : decode cX0_valueOf 103 = .ok (.iload_n 1, 1) := by decide +kernel
theorem dX0_valueOf_104 : decode cX0_valueOf 104 = .ok (.invokevirtual 67, 3) := by decide +kernel
theorem dX0_valueOf_107 : decode cX0_valueOf 107 = .ok (.ifCond .eq 12, 3) := by decide +kernel
theorem dX0_valueOf_110 : decode cX0_valueOf 110 = .ok (.aload_n 0, 1) := by decide +kernel
theorem dX0_valueOf_111 : decode cX0_valueOf 111 = .ok (.getfield 24, 3) := by decide +kernel
theorem dX0_valueOf_114 : decode cX0_valueOf 114 = .ok (.iload_n 1, 1) := by decide +kernel
theorem dX0_valueOf_115 : decode cX0_valueOf 115 = .ok (.iaload, 1) := by decide +kernel
theorem dX0_valueOf_116 : decode cX0_valueOf 116 = .ok (.goto 4, 3) := by decide +kernel
theorem dX0_valueOf_119 : decode cX0_valueOf 119 = .ok (.iconst (-1), 1) := by decide +kernel
theorem dX0_valueOf_120 : decode cX0_valueOf 120 = .ok (.ireturn, 1) := by decide +kernel
theorem dX0_isOpen_0 : decode cX0_isOpen 0 = .ok (.aload_n 0, 1) := by decide +kernel
theorem dX0_isOpen_1 : decode cX0_isOpen 1 = .ok (.getfield 47, 3) := by decide +kernel
theorem dX0_isOpen_4 : decode cX0_isOpen 4 = .ok (.lconst 1, 1) := by decide +kernel
theorem dX0_isOpen_5 : decode cX0_isOpen 5 = .ok (.iload_n 1, 1) := by decide +kernel
theorem dX0_isOpen_6 : decode cX0_isOpen 6 = .ok (.lshl, 1) := by decide +kernel
theorem dX0_isOpen_7 : decode cX0_isOpen 7 = .ok (.land, 1) := by decide +kernel
theorem dX0_isOpen_8 : decode cX0_isOpen 8 = .ok (.lconst 0, 1) := by decide +kernel
theorem dX0_isOpen_9 : decode cX0_isOpen 9 = .ok (.lcmp, 1) := by decide +kernel
theorem dX0_isOpen_10 : decode cX0_isOpen 10 = .ok (.ifCond .eq 7, 3) := by decide +kernel
theorem dX0_isOpen_13 : decode cX0_isOpen 13 = .ok (.iconst 1, 1) := by decide +kernel
theorem dX0_isOpen_14 : decode cX0_isOpen 14 = .ok (.goto 4, 3) := by decide +kernel
theorem dX0_isOpen_17 : decode cX0_isOpen 17 = .ok (.iconst 0, 1) := by decide +kernel
theorem dX0_isOpen_18 : decode cX0_isOpen 18 = .ok (.ireturn, 1) := by decide +kernel
theorem dX0_isFilled_0 : decode cX0_isFilled 0 = .ok (.aload_n 0, 1) := by decide +kernel
theorem dX0_isFilled_1 : decode cX0_isFilled 1 = .ok (.getfield 51, 3) := by decide +kernel
theorem dX0_isFilled_4 : decode cX0_isFilled 4 = .ok (.lconst 1, 1) := by decide +kernel
theorem dX0_isFilled_5 : decode cX0_isFilled 5 = .ok (.iload_n 1, 1) := by decide +kernel
theorem dX0_isFilled_6 : decode cX0_isFilled 6 = .ok (.lshl, 1) := by decide +kernel
theorem dX0_isFilled_7 : decode cX0_isFilled 7 = .ok (.land, 1) := by decide +kernel
theorem dX0_isFilled_8 : decode cX0_isFilled 8 = .ok (.lconst 0, 1) := by decide +kernel
theorem dX0_isFilled_9 : decode cX0_isFilled 9 = .ok (.lcmp, 1) := by decide +kernel
theorem dX0_isFilled_10 : decode cX0_isFilled 10 = .ok (.ifCond .eq 7, 3) := by decide +kernel
theorem dX0_isFilled_13 : decode cX0_isFilled 13 = .ok (.iconst 1, 1) := by decide +kernel
theorem dX0_isFilled_14 : decode cX0_isFilled 14 = .ok (.goto 4, 3) := by decide +kernel
theorem dX0_isFilled_17 : decode cX0_isFilled 17 = .ok (.iconst 0, 1) := by decide +kernel
theorem dX0_isFilled_18 : decode cX0_isFilled 18 = .ok (.ireturn, 1) := by decide +kernel
theorem dX0_close_0 : decode cX0_close 0 = .ok (.aload_n 0, 1) := by decide +kernel
theorem dX0_close_1 : decode cX0_close 1 = .ok (.iload_n 1, 1) := by decide +kernel
theorem dX0_close_2 : decode cX0_close 2 = .ok (.invokevirtual 63, 3) := by decide +kernel
theorem dX0_close_5 : decode cX0_close 5 = .ok (.ifCond .ne 5, 3) := by decide +kernel
theorem dX0_close_8 : decode cX0_close 8 = .ok (.iconst 0, 1) := by decide +kernel
theorem dX0_close_9 : decode cX0_close 9 = .ok (.ireturn, 1) := by decide +kernel
theorem dX0_close_10 : decode cX0_close 10 = .ok (.aload_n 0, 1) := by decide +kernel
theorem dX0_close_11 : decode cX0_close 11 = .ok (.dup, 1) := by decide +kernel
theorem dX0_close_12 : decode cX0_close 12 = .ok (.getfield 47, 3) := by decide +kernel
theorem dX0_close_15 : decode cX0_close 15 = .ok (.lconst 1, 1) := by decide +kernel
theorem dX0_close_16 : decode cX0_close 16 = .ok (.iload_n 1, 1) := by decide +kernel
theorem dX0_close_17 : decode cX0_close 17 = .ok (.lshl, 1) := by decide +kernel
theorem dX0_close_18 : decode cX0_close 18 = .ok (.ldc2_w 70, 3) := by decide +kernel
theorem dX0_close_21 : decode cX0_close 21 = .ok (.lxor, 1) := by decide +kernel
theorem dX0_close_22 : decode cX0_close 22 = .ok (.land, 1) := by decide +kernel
theorem dX0_close_23 : decode cX0_close 23 = .ok (.putfield 47, 3) := by decide +kernel
theorem dX0_close_26 : decode cX0_close 26 = .ok (.iconst 1, 1) := by decide +kernel
theorem dX0_close_27 : decode cX0_close 27 = .ok (.ireturn, 1) := by decide +kernel
theorem dX0_reopen_0 : decode cX0_reopen 0 = .ok (.aload_n 0, 1) := by decide +kernel
theorem dX0_reopen_1 : decode cX0_reopen 1 = .ok (.iload_n 1, 1) := by decide +kernel
theorem dX0_reopen_2 : decode cX0_reopen 2 = .ok (.invokevirtual 63, 3) := by decide +kernel
theorem dX0_reopen_5 : decode cX0_reopen 5 = .ok (.ifCond .ne 11, 3) := by decide +kernel
theorem dX0_reopen_8 : decode cX0_reopen 8 = .ok (.aload_n 0, 1) := by decide +kernel
theorem dX0_reopen_9 : decode cX0_reopen 9 = .ok (.iload_n 1, 1) := by decide +kernel
theorem dX0_reopen_10 : decode cX0_reopen 10 = .ok (.invokevirtual 67, 3) := by decide +kernel
theorem dX0_reopen_13 : decode cX0_reopen 13 = .ok (.ifCond .eq 5, 3) := by decide +kernel
theorem dX0_reopen_16 : decode cX0_reopen 16 = .ok (.iconst 0, 1) := by decide +kernel
theorem dX0_reopen_17 : decode cX0_reopen 17 = .ok (.ireturn, 1) := by decide +kernel
theorem dX0_reopen_18 : decode cX0_reopen 18 = .ok (.aload_n 0, 1) := by decide +kernel
theorem dX0_reopen_19 : decode cX0_reopen 19 = .ok (.dup, 1) := by decide +kernel
theorem dX0_reopen_20 : decode cX0_reopen 20 = .ok (.getfield 47, 3) := by decide +kernel
theorem dX0_reopen_23 : decode cX0_reopen 23 = .ok (.lconst 1, 1) := by decide +kernel
theorem dX0_reopen_24 : decode cX0_reopen 24 = .ok (.iload_n 1, 1) := by decide +kernel
theorem dX0_reopen_25 : decode cX0_reopen 25 = .ok (.lshl, 1) := by decide +kernel
theorem dX0_reopen_26 : decode cX0_reopen 26 = .ok (.lor, 1) := by decide +kernel
theorem dX0_reopen_27 : decode cX0_reopen 27 = .ok (.putfield 47, 3) := by decide +kernel
theorem dX0_reopen_30 : decode cX0_reopen 30 = .ok (.iconst 1, 1) := by decide +kernel
theorem dX0_reopen_31 : decode cX0_reopen 31 = .ok (.ireturn, 1) := by decide +kernel
theorem dX0_fill_0 : decode cX0_fill 0 = .ok (.aload_n 0, 1) := by decide +kernel
theorem dX0_fill_1 : decode cX0_fill 1 = .ok (.dup, 1) := by decide +kernel
theorem dX0_fill_2 : decode cX0_fill 2 = .ok (.getfield 47, 3) := by decide +kernel
theorem dX0_fill_5 : decode cX0_fill 5 = .ok (.lconst 1, 1) := by decide +kernel
theorem dX0_fill_6 : decode cX0_fill 6 = .ok (.iload_n 1, 1) := by decide +kernel
theorem dX0_fill_7 : decode cX0_fill 7 = .ok (.lshl, 1) := by decide +kernel
theorem dX0_fill_8 : decode cX0_fill 8 = .ok (.ldc2_w 70, 3) := by decide +kernel
theorem dX0_fill_11 : decode cX0_fill 11 = .ok (.lxor, 1) := by decide +kernel
theorem dX0_fill_12 : decode cX0_fill 12 = .ok (.land, 1) := by decide +kernel
theorem dX0_fill_13 : decode cX0_fill 13 = .ok (.putfield 47, 3) := by decide +kernel
theorem dX0_fill_16 : decode cX0_fill 16 = .ok (.aload_n 0, 1) := by decide +kernel
theorem dX0_fill_17 : decode cX0_fill 17 = .ok (.dup, 1) := by decide +kernel
theorem dX0_fill_18 : decode cX0_fill 18 = .ok (.getfield 51, 3) := by decide +kernel
theorem dX0_fill_21 : decode cX0_fill 21 = .ok (.lconst 1, 1) := by decide +kernel
theorem dX0_fill_22 : decode cX0_fill 22 = .ok (.iload_n 1, 1) := by decide +kernel
theorem dX0_fill_23 : decode cX0_fill 23 = .ok (.lshl, 1) := by decide +kernel
theorem dX0_fill_24 : decode cX0_fill 24 = .ok (.lor, 1) := by decide +kernel
theorem dX0_fill_25 : decode cX0_fill 25 = .ok (.putfield 51, 3) := by decide +kernel
theorem dX0_fill_28 : decode cX0_fill 28 = .ok (.aload_n 0, 1) := by decide +kernel
theorem dX0_fill_29 : decode cX0_fill 29 = .ok (.getfield 21, 3) := by decide +kernel
theorem dX0_fill_32 : decode cX0_fill 32 = .ok (.iload_n 1, 1) := by decide +kernel
theorem dX0_fill_33 : decode cX0_fill 33 = .ok (.iload_n 3, 1) := by decide +kernel
theorem dX0_fill_34 : decode cX0_fill 34 = .ok (.iastore, 1) := by decide +kernel
theorem dX0_fill_35 : decode cX0_fill 35 = .ok (.aload_n 0, 1) := by decide +kernel
theorem dX0_fill_36 : decode cX0_fill 36 = .ok (.getfield 24, 3) := by decide +kernel
theorem dX0_fill_39 : decode cX0_fill 39 = .ok (.iload_n 1, 1) := by decide +kernel
theorem dX0_fill_40 : decode cX0_fill 40 = .ok (.iload_n 2, 1) := by decide +kernel
theorem dX0_fill_41 : decode cX0_fill 41 = .ok (.iastore, 1) := by decide +kernel
theorem dX0_fill_42 : decode cX0_fill 42 = .ok (.return_, 1) := by decide +kernel
theorem dX0_reopenFilled_0 : decode cX0_reopenFilled 0 = .ok (.aload_n 0, 1) := by decide +kernel
theorem dX0_reopenFilled_1 : decode cX0_reopenFilled 1 = .ok (.getfield 51, 3) := by decide +kernel
theorem dX0_reopenFilled_4 : decode cX0_reopenFilled 4 = .ok (.invokestatic 72, 3) := by decide +kernel
theorem dX0_reopenFilled_7 : decode cX0_reopenFilled 7 = .ok (.istore_n 1, 1) := by decide +kernel
theorem dX0_reopenFilled_8 : decode cX0_reopenFilled 8 = .ok (.aload_n 0, 1) := by decide +kernel
theorem dX0_reopenFilled_9 : decode cX0_reopenFilled 9 = .ok (.dup, 1) := by decide +kernel
theorem dX0_reopenFilled_10 : decode cX0_reopenFilled 10 = .ok (.getfield 47, 3) := by decide +kernel
theorem dX0_reopenFilled_13 : decode cX0_reopenFilled 13 = .ok (.aload_n 0, 1) := by decide +kernel
theorem dX0_reopenFilled_14 : decode cX0_reopenFilled 14 = .ok (.getfield 51, 3) := by decide +kernel
theorem dX0_reopenFilled_17 : decode cX0_reopenFilled 17 = .ok (.lor, 1) := by decide +kernel
theorem dX0_reopenFilled_18 : decode cX0_reopenFilled 18 = .ok (.putfield 47, 3) := by decide +kernel
theorem dX0_reopenFilled_21 : decode cX0_reopenFilled 21 = .ok (.aload_n 0, 1) := by decide +kernel
theorem dX0_reopenFilled_22 : decode cX0_reopenFilled 22 = .ok (.lconst 0, 1) := by decide +kernel
theorem dX0_reopenFilled_23 : decode cX0_reopenFilled 23 = .ok (.putfield 51, 3) := by decide +kernel
theorem dX0_reopenFilled_26 : decode cX0_reopenFilled 26 = .ok (.iload_n 1, 1) := by decide +kernel
theorem dX0_reopenFilled_27 : decode cX0_reopenFilled 27 = .ok (.ireturn, 1) := by decide +kernel
theorem dX0_openOf_0 : decode cX0_openOf 0 = .ok (.aload_n 0, 1) := by decide +kernel
theorem dX0_openOf_1 : decode cX0_openOf 1 = .ok (.getfield 47, 3) := by decide +kernel
theorem dX0_openOf_4 : decode cX0_openOf 4 = .ok (.aload_n 0, 1) := by decide +kernel
theorem dX0_openOf_5 : decode cX0_openOf 5 = .ok (.getfield 27, 3) := by decide +kernel
theorem dX0_openOf_8 : decode cX0_openOf 8 = .ok (.iload_n 1, 1) := by decide +kernel
theorem dX0_openOf_9 : decode cX0_openOf 9 = .ok (.laload, 1) := by decide +kernel
theorem dX0_openOf_10 : decode cX0_openOf 10 = .ok (.land, 1) := by decide +kernel
theorem dX0_openOf_11 : decode cX0_openOf 11 = .ok (.invokestatic 72, 3) := by decide +kernel
theorem dX0_openOf_14 : decode cX0_openOf 14 = .ok (.ireturn, 1) := by decide +kernel
theorem dX0_boardNeeds_0 : decode cX0_boardNeeds 0 = .ok (.aload_n 0, 1) := by decide +kernel
theorem dX0_boardNeeds_1 : decode cX0_boardNeeds 1 = .ok (.getfield 47, 3) := by decide +kernel
theorem dX0_boardNeeds_4 : decode cX0_boardNeeds 4 = .ok (.aload_n 0, 1) := by decide +kernel
theorem dX0_boardNeeds_5 : decode cX0_boardNeeds 5 = .ok (.getfield 51, 3) := by decide +kernel
theorem dX0_boardNeeds_8 : decode cX0_boardNeeds 8 = .ok (.lor, 1) := by decide +kernel
theorem dX0_boardNeeds_9 : decode cX0_boardNeeds 9 = .ok (.aload_n 0, 1) := by decide +kernel
theorem dX0_boardNeeds_10 : decode cX0_boardNeeds 10 = .ok (.getfield 27, 3) := by decide +kernel
theorem dX0_boardNeeds_13 : decode cX0_boardNeeds 13 = .ok (.iload_n 1, 1) := by decide +kernel
theorem dX0_boardNeeds_14 : decode cX0_boardNeeds 14 = .ok (.laload, 1) := by decide +kernel
theorem dX0_boardNeeds_15 : decode cX0_boardNeeds 15 = .ok (.land, 1) := by decide +kernel
theorem dX0_boardNeeds_16 : decode cX0_boardNeeds 16 = .ok (.invokestatic 72, 3) := by decide +kernel
theorem dX0_boardNeeds_19 : decode cX0_boardNeeds 19 = .ok (.ireturn, 1) := by decide +kernel
theorem dX0_fillable_0 : decode cX0_fillable 0 = .ok (.aload_n 0, 1) := by decide +kernel
theorem dX0_fillable_1 : decode cX0_fillable 1 = .ok (.getfield 47, 3) := by decide +kernel
theorem dX0_fillable_4 : decode cX0_fillable 4 = .ok (.lstore_n 1, 1) := by decide +kernel
theorem dX0_fillable_5 : decode cX0_fillable 5 = .ok (.iconst 0, 1) := by decide +kernel
theorem dX0_fillable_6 : decode cX0_fillable 6 = .ok (.istore_n 3, 1) := by decide +kernel
theorem dX0_fillable_7 : decode cX0_fillable 7 = .ok (.iload_n 3, 1) := by decide +kernel
theorem dX0_fillable_8 : decode cX0_fillable 8 = .ok (.aload_n 0, 1) := by decide +kernel
theorem dX0_fillable_9 : decode cX0_fillable 9 = .ok (.getfield 54, 3) := by decide +kernel
theorem dX0_fillable_12 : decode cX0_fillable 12 = .ok (.if_icmp .ge 37, 3) := by decide +kernel
theorem dX0_fillable_15 : decode cX0_fillable 15 = .ok (.aload_n 0, 1) := by decide +kernel
theorem dX0_fillable_16 : decode cX0_fillable 16 = .ok (.aload_n 0, 1) := by decide +kernel
theorem dX0_fillable_17 : decode cX0_fillable 17 = .ok (.getfield 31, 3) := by decide +kernel
theorem dX0_fillable_20 : decode cX0_fillable 20 = .ok (.iload_n 3, 1) := by decide +kernel
theorem dX0_fillable_21 : decode cX0_fillable 21 = .ok (.iaload, 1) := by decide +kernel
theorem dX0_fillable_22 : decode cX0_fillable 22 = .ok (.invokevirtual 63, 3) := by decide +kernel
theorem dX0_fillable_25 : decode cX0_fillable 25 = .ok (.ifCond .eq 18, 3) := by decide +kernel
theorem dX0_fillable_28 : decode cX0_fillable 28 = .ok (.lload_n 1, 1) := by decide +kernel
theorem dX0_fillable_29 : decode cX0_fillable 29 = .ok (.lconst 1, 1) := by decide +kernel
theorem dX0_fillable_30 : decode cX0_fillable 30 = .ok (.aload_n 0, 1) := by decide +kernel
theorem dX0_fillable_31 : decode cX0_fillable 31 = .ok (.getfield 34, 3) := by decide +kernel
theorem dX0_fillable_34 : decode cX0_fillable 34 = .ok (.iload_n 3, 1) := by decide +kernel
theorem dX0_fillable_35 : decode cX0_fillable 35 = .ok (.iaload, 1) := by decide +kernel
theorem dX0_fillable_36 : decode cX0_fillable 36 = .ok (.lshl, 1) := by decide +kernel
theorem dX0_fillable_37 : decode cX0_fillable 37 = .ok (.ldc2_w 70, 3) := by decide +kernel
theorem dX0_fillable_40 : decode cX0_fillable 40 = .ok (.lxor, 1) := by decide +kernel
theorem dX0_fillable_41 : decode cX0_fillable 41 = .ok (.land, 1) := by decide +kernel
theorem dX0_fillable_42 : decode cX0_fillable 42 = .ok (.lstore_n 1, 1) := by decide +kernel
theorem dX0_fillable_43 : decode cX0_fillable 43 = .ok (.iinc 3 1, 3) := by decide +kernel
theorem dX0_fillable_46 : decode cX0_fillable 46 = .ok (.goto (-39), 3) := by decide +kernel
theorem dX0_fillable_49 : decode cX0_fillable 49 = .ok (.lload_n 1, 1) := by decide +kernel
theorem dX0_fillable_50 : decode cX0_fillable 50 = .ok (.lreturn, 1) := by decide +kernel
theorem dX0_pairIndex_0 : decode cX0_pairIndex 0 = .ok (.iconst 0, 1) := by decide +kernel
theorem dX0_pairIndex_1 : decode cX0_pairIndex 1 = .ok (.istore_n 3, 1) := by decide +kernel
theorem dX0_pairIndex_2 : decode cX0_pairIndex 2 = .ok (.iload_n 3, 1) := by decide +kernel
theorem dX0_pairIndex_3 : decode cX0_pairIndex 3 = .ok (.aload_n 0, 1) := by decide +kernel
theorem dX0_pairIndex_4 : decode cX0_pairIndex 4 = .ok (.getfield 54, 3) := by decide +kernel
theorem dX0_pairIndex_7 : decode cX0_pairIndex 7 = .ok (.if_icmp .ge 31, 3) := by decide +kernel
theorem dX0_pairIndex_10 : decode cX0_pairIndex 10 = .ok (.aload_n 0, 1) := by decide +kernel
theorem dX0_pairIndex_11 : decode cX0_pairIndex 11 = .ok (.getfield 31, 3) := by decide +kernel
theorem dX0_pairIndex_14 : decode cX0_pairIndex 14 = .ok (.iload_n 3, 1) := by decide +kernel
theorem dX0_pairIndex_15 : decode cX0_pairIndex 15 = .ok (.iaload, 1) := by decide +kernel
theorem dX0_pairIndex_16 : decode cX0_pairIndex 16 = .ok (.iload_n 1, 1) := by decide +kernel
theorem dX0_pairIndex_17 : decode cX0_pairIndex 17 = .ok (.if_icmp .ne 15, 3) := by decide +kernel
theorem dX0_pairIndex_20 : decode cX0_pairIndex 20 = .ok (.aload_n 0, 1) := by decide +kernel
theorem dX0_pairIndex_21 : decode cX0_pairIndex 21 = .ok (.getfield 34, 3) := by decide +kernel
theorem dX0_pairIndex_24 : decode cX0_pairIndex 24 = .ok (.iload_n 3, 1) := by decide +kernel
theorem dX0_pairIndex_25 : decode cX0_pairIndex 25 = .ok (.iaload, 1) := by decide +kernel
theorem dX0_pairIndex_26 : decode cX0_pairIndex 26 = .ok (.iload_n 2, 1) := by decide +kernel
theorem dX0_pairIndex_27 : decode cX0_pairIndex 27 = .ok (.if_icmp .ne 5, 3) := by decide +kernel
theorem dX0_pairIndex_30 : decode cX0_pairIndex 30 = .ok (.iload_n 3, 1) := by decide +kernel
theorem dX0_pairIndex_31 : decode cX0_pairIndex 31 = .ok (.ireturn, 1) := by decide +kernel
theorem dX0_pairIndex_32 : decode cX0_pairIndex 32 = .ok (.iinc 3 1, 3) := by decide +kernel
theorem dX0_pairIndex_35 : decode cX0_pairIndex 35 = .ok (.goto (-33), 3) := by decide +kernel
theorem dX0_pairIndex_38 : decode cX0_pairIndex 38 = .ok (.iconst (-1), 1) := by decide +kernel
theorem dX0_pairIndex_39 : decode cX0_pairIndex 39 = .ok (.ireturn, 1) := by decide +kernel
theorem dX0_addPair_0 : decode cX0_addPair 0 = .ok (.aload_n 0, 1) := by decide +kernel
theorem dX0_addPair_1 : decode cX0_addPair 1 = .ok (.getfield 54, 3) := by decide +kernel
theorem dX0_addPair_4 : decode cX0_addPair 4 = .ok (.bipush 20, 2) := by decide +kernel
theorem dX0_addPair_6 : decode cX0_addPair 6 = .ok (.if_icmp .ge 33, 3) := by decide +kernel
theorem dX0_addPair_9 : decode cX0_addPair 9 = .ok (.aload_n 0, 1) := by decide +kernel
theorem dX0_addPair_10 : decode cX0_addPair 10 = .ok (.getfield 31, 3) := by decide +kernel
theorem dX0_addPair_13 : decode cX0_addPair 13 = .ok (.aload_n 0, 1) := by decide +kernel
theorem dX0_addPair_14 : decode cX0_addPair 14 = .ok (.getfield 54, 3) := by decide +kernel
theorem dX0_addPair_17 : decode cX0_addPair 17 = .ok (.iload_n 1, 1) := by decide +kernel
theorem dX0_addPair_18 : decode cX0_addPair 18 = .ok (.iastore, 1) := by decide +kernel
theorem dX0_addPair_19 : decode cX0_addPair 19 = .ok (.aload_n 0, 1) := by decide +kernel
theorem dX0_addPair_20 : decode cX0_addPair 20 = .ok (.getfield 34, 3) := by decide +kernel
theorem dX0_addPair_23 : decode cX0_addPair 23 = .ok (.aload_n 0, 1) := by decide +kernel
theorem dX0_addPair_24 : decode cX0_addPair 24 = .ok (.getfield 54, 3) := by decide +kernel
theorem dX0_addPair_27 : decode cX0_addPair 27 = .ok (.iload_n 2, 1) := by decide +kernel
theorem dX0_addPair_28 : decode cX0_addPair 28 = .ok (.iastore, 1) := by decide +kernel
theorem dX0_addPair_29 : decode cX0_addPair 29 = .ok (.aload_n 0, 1) := by decide +kernel
theorem dX0_addPair_30 : decode cX0_addPair 30 = .ok (.dup, 1) := by decide +kernel
theorem dX0_addPair_31 : decode cX0_addPair 31 = .ok (.getfield 54, 3) := by decide +kernel
theorem dX0_addPair_34 : decode cX0_addPair 34 = .ok (.iconst 1, 1) := by decide +kernel
theorem dX0_addPair_35 : decode cX0_addPair 35 = .ok (.iadd, 1) := by decide +kernel
theorem dX0_addPair_36 : decode cX0_addPair 36 = .ok (.putfield 54, 3) := by decide +kernel
theorem dX0_addPair_39 : decode cX0_addPair 39 = .ok (.return_, 1) := by decide +kernel
theorem dX0_removePair_0 : decode cX0_removePair 0 = .ok (.aload_n 0, 1) := by decide +kernel
theorem dX0_removePair_1 : decode cX0_removePair 1 = .ok (.dup, 1) := by decide +kernel
theorem dX0_removePair_2 : decode cX0_removePair 2 = .ok (.getfield 54, 3) := by decide +kernel
theorem dX0_removePair_5 : decode cX0_removePair 5 = .ok (.iconst 1, 1) := by decide +kernel
theorem dX0_removePair_6 : decode cX0_removePair 6 = .ok (.isub, 1) := by decide +kernel
theorem dX0_removePair_7 : decode cX0_removePair 7 = .ok (.putfield 54, 3) := by decide +kernel
theorem dX0_removePair_10 : decode cX0_removePair 10 = .ok (.aload_n 0, 1) := by decide +kernel
theorem dX0_removePair_11 : decode cX0_removePair 11 = .ok (.getfield 31, 3) := by decide +kernel
theorem dX0_removePair_14 : decode cX0_removePair 14 = .ok (.iload_n 1, 1) := by decide +kernel
theorem dX0_removePair_15 : decode cX0_removePair 15 = .ok (.aload_n 0, 1) := by decide +kernel
theorem dX0_removePair_16 : decode cX0_removePair 16 = .ok (.getfield 31, 3) := by decide +kernel
theorem dX0_removePair_19 : decode cX0_removePair 19 = .ok (.aload_n 0, 1) := by decide +kernel
theorem dX0_removePair_20 : decode cX0_removePair 20 = .ok (.getfield 54, 3) := by decide +kernel
theorem dX0_removePair_23 : decode cX0_removePair 23 = .ok (.iaload, 1) := by decide +kernel
theorem dX0_removePair_24 : decode cX0_removePair 24 = .ok (.iastore, 1) := by decide +kernel
theorem dX0_removePair_25 : decode cX0_removePair 25 = .ok (.aload_n 0, 1) := by decide +kernel
theorem dX0_removePair_26 : decode cX0_removePair 26 = .ok (.getfield 34, 3) := by decide +kernel
theorem dX0_removePair_29 : decode cX0_removePair 29 = .ok (.iload_n 1, 1) := by decide +kernel
theorem dX0_removePair_30 : decode cX0_removePair 30 = .ok (.aload_n 0, 1) := by decide +kernel
theorem dX0_removePair_31 : decode cX0_removePair 31 = .ok (.getfield 34, 3) := by decide +kernel
theorem dX0_removePair_34 : decode cX0_removePair 34 = .ok (.aload_n 0, 1) := by decide +kernel
theorem dX0_removePair_35 : decode cX0_removePair 35 = .ok (.getfield 54, 3) := by decide +kernel
theorem dX0_removePair_38 : decode cX0_removePair 38 = .ok (.iaload, 1) := by decide +kernel
theorem dX0_removePair_39 : decode cX0_removePair 39 = .ok (.iastore, 1) := by decide +kernel
theorem dX0_removePair_40 : decode cX0_removePair 40 = .ok (.return_, 1) := by decide +kernel
theorem dX0_firstsOf_0 : decode cX0_firstsOf 0 = .ok (.lconst 0, 1) := by decide +kernel
theorem dX0_firstsOf_1 : decode cX0_firstsOf 1 = .ok (.lstore_n 3, 1) := by decide +kernel
theorem dX0_firstsOf_2 : decode cX0_firstsOf 2 = .ok (.iconst 0, 1) := by decide +kernel
theorem dX0_firstsOf_3 : decode cX0_firstsOf 3 = .ok (.istore 5, 2) := by decide +kernel
theorem dX0_firstsOf_5 : decode cX0_firstsOf 5 = .ok (.iload 5, 2) := by decide +kernel
theorem dX0_firstsOf_7 : decode cX0_firstsOf 7 = .ok (.aload_n 0, 1) := by decide +kernel
theorem dX0_firstsOf_8 : decode cX0_firstsOf 8 = .ok (.getfield 54, 3) := by decide +kernel
theorem dX0_firstsOf_11 : decode cX0_firstsOf 11 = .ok (.if_icmp .ge 37, 3) := by decide +kernel
theorem dX0_firstsOf_14 : decode cX0_firstsOf 14 = .ok (.lload_n 1, 1) := by decide +kernel
theorem dX0_firstsOf_15 : decode cX0_firstsOf 15 = .ok (.lconst 1, 1) := by decide +kernel
theorem dX0_firstsOf_16 : decode cX0_firstsOf 16 = .ok (.aload_n 0, 1) := by decide +kernel
theorem dX0_firstsOf_17 : decode cX0_firstsOf 17 = .ok (.getfield 34, 3) := by decide +kernel
theorem dX0_firstsOf_20 : decode cX0_firstsOf 20 = .ok (.iload 5, 2) := by decide +kernel
theorem dX0_firstsOf_22 : decode cX0_firstsOf 22 = .ok (.iaload, 1) := by decide +kernel
theorem dX0_firstsOf_23 : decode cX0_firstsOf 23 = .ok (.lshl, 1) := by decide +kernel
theorem dX0_firstsOf_24 : decode cX0_firstsOf 24 = .ok (.land, 1) := by decide +kernel
theorem dX0_firstsOf_25 : decode cX0_firstsOf 25 = .ok (.lconst 0, 1) := by decide +kernel
theorem dX0_firstsOf_26 : decode cX0_firstsOf 26 = .ok (.lcmp, 1) := by decide +kernel
theorem dX0_firstsOf_27 : decode cX0_firstsOf 27 = .ok (.ifCond .eq 15, 3) := by decide +kernel
theorem dX0_firstsOf_30 : decode cX0_firstsOf 30 = .ok (.lload_n 3, 1) := by decide +kernel
theorem dX0_firstsOf_31 : decode cX0_firstsOf 31 = .ok (.lconst 1, 1) := by decide +kernel
theorem dX0_firstsOf_32 : decode cX0_firstsOf 32 = .ok (.aload_n 0, 1) := by decide +kernel
theorem dX0_firstsOf_33 : decode cX0_firstsOf 33 = .ok (.getfield 31, 3) := by decide +kernel
theorem dX0_firstsOf_36 : decode cX0_firstsOf 36 = .ok (.iload 5, 2) := by decide +kernel
theorem dX0_firstsOf_38 : decode cX0_firstsOf 38 = .ok (.iaload, 1) := by decide +kernel
theorem dX0_firstsOf_39 : decode cX0_firstsOf 39 = .ok (.lshl, 1) := by decide +kernel
theorem dX0_firstsOf_40 : decode cX0_firstsOf 40 = .ok (.lor, 1) := by decide +kernel
theorem dX0_firstsOf_41 : decode cX0_firstsOf 41 = .ok (.lstore_n 3, 1) := by decide +kernel
theorem dX0_firstsOf_42 : decode cX0_firstsOf 42 = .ok (.iinc 5 1, 3) := by decide +kernel
theorem dX0_firstsOf_45 : decode cX0_firstsOf 45 = .ok (.goto (-40), 3) := by decide +kernel
theorem dX0_firstsOf_48 : decode cX0_firstsOf 48 = .ok (.lload_n 3, 1) := by decide +kernel
theorem dX0_firstsOf_49 : decode cX0_firstsOf 49 = .ok (.lreturn, 1) := by decide +kernel
theorem dX0_wouldCircle_0 : decode cX0_wouldCircle 0 = .ok (.lconst 1, 1) := by decide +kernel
theorem dX0_wouldCircle_1 : decode cX0_wouldCircle 1 = .ok (.iload_n 1, 1) := by decide +kernel
theorem dX0_wouldCircle_2 : decode cX0_wouldCircle 2 = .ok (.lshl, 1) := by decide +kernel
theorem dX0_wouldCircle_3 : decode cX0_wouldCircle 3 = .ok (.lstore_n 3, 1) := by decide +kernel
theorem dX0_wouldCircle_4 : decode cX0_wouldCircle 4 = .ok (.iconst 0, 1) := by decide +kernel
theorem dX0_wouldCircle_5 : decode cX0_wouldCircle 5 = .ok (.istore 5, 2) := by decide +kernel
theorem dX0_wouldCircle_7 : decode cX0_wouldCircle 7 = .ok (.iload 5, 2) := by decide +kernel
theorem dX0_wouldCircle_9 : decode cX0_wouldCircle 9 = .ok (.aload_n 0, 1) := by decide +kernel
theorem dX0_wouldCircle_10 : decode cX0_wouldCircle 10 = .ok (.getfield 54, 3) := by decide +kernel
theorem dX0_wouldCircle_13 : decode cX0_wouldCircle 13 = .ok (.if_icmp .ge 17, 3) := by decide +kernel
theorem dX0_wouldCircle_16 : decode cX0_wouldCircle 16 = .ok (.lload_n 3, 1) := by decide +kernel
theorem dX0_wouldCircle_17 : decode cX0_wouldCircle 17 = .ok (.aload_n 0, 1) := by decide +kernel
theorem dX0_wouldCircle_18 : decode cX0_wouldCircle 18 = .ok (.lload_n 3, 1) := by decide +kernel
theorem dX0_wouldCircle_19 : decode cX0_wouldCircle 19 = .ok (.invokevirtual 78, 3) := by decide +kernel
theorem dX0_wouldCircle_22 : decode cX0_wouldCircle 22 = .ok (.lor, 1) := by decide +kernel
theorem dX0_wouldCircle_23 : decode cX0_wouldCircle 23 = .ok (.lstore_n 3, 1) := by decide +kernel
theorem dX0_wouldCircle_24 : decode cX0_wouldCircle 24 = .ok (.iinc 5 1, 3) := by decide +kernel
theorem dX0_wouldCircle_27 : decode cX0_wouldCircle 27 = .ok (.goto (-20), 3) := by decide +kernel
theorem dX0_wouldCircle_30 : decode cX0_wouldCircle 30 = .ok (.lload_n 3, 1) := by decide +kernel
theorem dX0_wouldCircle_31 : decode cX0_wouldCircle 31 = .ok (.lconst 1, 1) := by decide +kernel
theorem dX0_wouldCircle_32 : decode cX0_wouldCircle 32 = .ok (.iload_n 2, 1) := by decide +kernel
theorem dX0_wouldCircle_33 : decode cX0_wouldCircle 33 = .ok (.lshl, 1) := by decide +kernel
theorem dX0_wouldCircle_34 : decode cX0_wouldCircle 34 = .ok (.land, 1) := by decide +kernel
theorem dX0_wouldCircle_35 : decode cX0_wouldCircle 35 = .ok (.lconst 0, 1) := by decide +kernel
theorem dX0_wouldCircle_36 : decode cX0_wouldCircle 36 = .ok (.lcmp, 1) := by decide +kernel
theorem dX0_wouldCircle_37 : decode cX0_wouldCircle 37 = .ok (.ifCond .eq 7, 3) := by decide +kernel
theorem dX0_wouldCircle_40 : decode cX0_wouldCircle 40 = .ok (.iconst 1, 1) := by decide +kernel
theorem dX0_wouldCircle_41 : decode cX0_wouldCircle 41 = .ok (.goto 4, 3) := by decide +kernel
theorem dX0_wouldCircle_44 : decode cX0_wouldCircle 44 = .ok (.iconst 0, 1) := by decide +kernel
theorem dX0_wouldCircle_45 : decode cX0_wouldCircle 45 = .ok (.ireturn, 1) := by decide +kernel
theorem dX0_longestChain_0 : decode cX0_longestChain 0 = .ok (.aload_n 0, 1) := by decide +kernel
theorem dX0_longestChain_1 : decode cX0_longestChain 1 = .ok (.lconst 1, 1) := by decide +kernel
theorem dX0_longestChain_2 : decode cX0_longestChain 2 = .ok (.iload_n 1, 1) := by decide +kernel
theorem dX0_longestChain_3 : decode cX0_longestChain 3 = .ok (.lshl, 1) := by decide +kernel
theorem dX0_longestChain_4 : decode cX0_longestChain 4 = .ok (.invokevirtual 78, 3) := by decide +kernel
theorem dX0_longestChain_7 : decode cX0_longestChain 7 = .ok (.lstore_n 2, 1) := by decide +kernel
theorem dX0_longestChain_8 : decode cX0_longestChain 8 = .ok (.iconst 0, 1) := by decide +kernel
theorem dX0_longestChain_9 : decode cX0_longestChain 9 = .ok (.istore 4, 2) := by decide +kernel
theorem dX0_longestChain_11 : decode cX0_longestChain 11 = .ok (.lload_n 2, 1) := by decide +kernel
theorem dX0_longestChain_12 : decode cX0_longestChain 12 = .ok (.lconst 0, 1) := by decide +kernel
theorem dX0_longestChain_13 : decode cX0_longestChain 13 = .ok (.lcmp, 1) := by decide +kernel
theorem dX0_longestChain_14 : decode cX0_longestChain 14 = .ok (.ifCond .eq 22, 3) := by decide +kernel
theorem dX0_longestChain_17 : decode cX0_longestChain 17 = .ok (.iload 4, 2) := by decide +kernel
theorem dX0_longestChain_19 : decode cX0_longestChain 19 = .ok (.bipush 20, 2) := by decide +kernel
theorem dX0_longestChain_21 : decode cX0_longestChain 21 = .ok (.if_icmp .ge 15, 3) := by decide +kernel
theorem dX0_longestChain_24 : decode cX0_longestChain 24 = .ok (.iinc 4 1, 3) := by decide +kernel
theorem dX0_longestChain_27 : decode cX0_longestChain 27 = .ok (.aload_n 0, 1) := by decide +kernel
theorem dX0_longestChain_28 : decode cX0_longestChain 28 = .ok (.lload_n 2, 1) := by decide +kernel
theorem dX0_longestChain_29 : decode cX0_longestChain 29 = .ok (.invokevirtual 78, 3) := by decide +kernel
theorem dX0_longestChain_32 : decode cX0_longestChain 32 = .ok (.lstore_n 2, 1) := by decide +kernel
theorem dX0_longestChain_33 : decode cX0_longestChain 33 = .ok (.goto (-22), 3) := by decide +kernel
theorem dX0_longestChain_36 : decode cX0_longestChain 36 = .ok (.iload 4, 2) := by decide +kernel
theorem dX0_longestChain_38 : decode cX0_longestChain 38 = .ok (.ireturn, 1) := by decide +kernel
theorem dX1_init_0 : decode cX1_init 0 = .ok (.aload_n 0, 1) := by decide +kernel
theorem dX1_init_1 : decode cX1_init 1 = .ok (.invokespecial 3, 3) := by decide +kernel
theorem dX1_init_4 : decode cX1_init 4 = .ok (.aload_n 0, 1) := by decide +kernel
theorem dX1_init_5 : decode cX1_init 5 = .ok (.aload_n 1, 1) := by decide +kernel
theorem dX1_init_6 : decode cX1_init 6 = .ok (.putfield 9, 3) := by decide +kernel
theorem dX1_init_9 : decode cX1_init 9 = .ok (.aload_n 0, 1) := by decide +kernel
theorem dX1_init_10 : decode cX1_init 10 = .ok (.aload_n 2, 1) := by decide +kernel
theorem dX1_init_11 : decode cX1_init 11 = .ok (.putfield 15, 3) := by decide +kernel
theorem dX1_init_14 : decode cX1_init 14 = .ok (.return_, 1) := by decide +kernel
theorem dX1_readText_0 : decode cX1_readText 0 = .ok (.aload_n 0, 1) := by decide +kernel
theorem dX1_readText_1 : decode cX1_readText 1 = .ok (.iload_n 1, 1) := by decide +kernel
theorem dX1_readText_2 : decode cX1_readText 2 = .ok (.aload_n 0, 1) := by decide +kernel
theorem dX1_readText_3 : decode cX1_readText 3 = .ok (.getfield 9, 3) := by decide +kernel
theorem dX1_readText_6 : decode cX1_readText 6 = .ok (.arraylength, 1) := by decide +kernel
theorem dX1_readText_7 : decode cX1_readText 7 = .ok (.invokestatic 19, 3) := by decide +kernel
theorem dX1_readText_10 : decode cX1_readText 10 = .ok (.putfield 25, 3) := by decide +kernel
theorem dX1_readText_13 : decode cX1_readText 13 = .ok (.aload_n 0, 1) := by decide +kernel
theorem dX1_readText_14 : decode cX1_readText 14 = .ok (.iconst 0, 1) := by decide +kernel
theorem dX1_readText_15 : decode cX1_readText 15 = .ok (.putfield 29, 3) := by decide +kernel
theorem dX1_readText_18 : decode cX1_readText 18 = .ok (.aload_n 0, 1) := by decide +kernel
theorem dX1_readText_19 : decode cX1_readText 19 = .ok (.iconst 0, 1) := by decide +kernel
theorem dX1_readText_20 : decode cX1_readText 20 = .ok (.putfield 32, 3) := by decide +kernel
theorem dX1_readText_23 : decode cX1_readText 23 = .ok (.aload_n 0, 1) := by decide +kernel
theorem dX1_readText_24 : decode cX1_readText 24 = .ok (.iconst 0, 1) := by decide +kernel
theorem dX1_readText_25 : decode cX1_readText 25 = .ok (.putfield 35, 3) := by decide +kernel
theorem dX1_readText_28 : decode cX1_readText 28 = .ok (.aload_n 0, 1) := by decide +kernel
theorem dX1_readText_29 : decode cX1_readText 29 = .ok (.getfield 15, 3) := by decide +kernel
theorem dX1_readText_32 : decode cX1_readText 32 = .ok (.invokevirtual 38, 3) := by decide +kernel
theorem dX1_readText_35 : decode cX1_readText 35 = .ok (.aload_n 0, 1) := by decide +kernel
theorem dX1_readText_36 : decode cX1_readText 36 = .ok (.invokevirtual 43, 3) := by decide +kernel
theorem dX1_readText_39 : decode cX1_readText 39 = .ok (.iconst 0, 1) := by decide +kernel
theorem dX1_readText_40 : decode cX1_readText 40 = .ok (.istore_n 2, 1) := by decide +kernel
theorem dX1_readText_41 : decode cX1_readText 41 = .ok (.iload_n 2, 1) := by decide +kernel
theorem dX1_readText_42 : decode cX1_readText 42 = .ok (.aload_n 0, 1) := by decide +kernel
theorem dX1_readText_43 : decode cX1_readText 43 = .ok (.getfield 25, 3) := by decide +kernel
theorem dX1_readText_46 : decode cX1_readText 46 = .ok (.if_icmp .ge 31, 3) := by decide +kernel
theorem dX1_readText_49 : decode cX1_readText 49 = .ok (.aload_n 0, 1) := by decide +kernel
theorem dX1_readText_50 : decode cX1_readText 50 = .ok (.getfield 32, 3) := by decide +kernel
theorem dX1_readText_53 : decode cX1_readText 53 = .ok (.ifCond .ne 24, 3) := by decide +kernel
theorem dX1_readText_56 : decode cX1_readText 56 = .ok (.aload_n 0, 1) := by decide +kernel
theorem dX1_readText_57 : decode cX1_readText 57 = .ok (.invokevirtual 46, 3) := by decide +kernel
theorem dX1_readText_60 : decode cX1_readText 60 = .ok (.ifCond .ne 17, 3) := by decide +kernel
theorem dX1_readText_63 : decode cX1_readText 63 = .ok (.aload_n 0, 1) := by decide +kernel
theorem dX1_readText_64 : decode cX1_readText 64 = .ok (.invokevirtual 50, 3) := by decide +kernel
theorem dX1_readText_67 : decode cX1_readText 67 = .ok (.aload_n 0, 1) := by decide +kernel
theorem dX1_readText_68 : decode cX1_readText 68 = .ok (.invokevirtual 53, 3) := by decide +kernel
theorem dX1_readText_71 : decode cX1_readText 71 = .ok (.iinc 2 1, 3) := by decide +kernel
theorem dX1_readText_74 : decode cX1_readText 74 = .ok (.goto (-33), 3) := by decide +kernel
theorem dX1_readText_77 : decode cX1_readText 77 = .ok (.return_, 1) := by decide +kernel
theorem dX1_fail_0 : decode cX1_fail 0 = .ok (.aload_n 0, 1) := by decide +kernel
theorem dX1_fail_1 : decode cX1_fail 1 = .ok (.getfield 32, 3) := by decide +kernel
theorem dX1_fail_4 : decode cX1_fail 4 = .ok (.ifCond .ne 13, 3) := by decide +kernel
theorem dX1_fail_7 : decode cX1_fail 7 = .ok (.aload_n 0, 1) := by decide +kernel
theorem dX1_fail_8 : decode cX1_fail 8 = .ok (.iload_n 1, 1) := by decide +kernel
theorem dX1_fail_9 : decode cX1_fail 9 = .ok (.putfield 32, 3) := by decide +kernel
theorem dX1_fail_12 : decode cX1_fail 12 = .ok (.aload_n 0, 1) := by decide +kernel
theorem dX1_fail_13 : decode cX1_fail 13 = .ok (.iload_n 2, 1) := by decide +kernel
theorem dX1_fail_14 : decode cX1_fail 14 = .ok (.putfield 35, 3) := by decide +kernel
theorem dX1_fail_17 : decode cX1_fail 17 = .ok (.return_, 1) := by decide +kernel
theorem dX1_isAtEnd_0 : decode cX1_isAtEnd 0 = .ok (.aload_n 0, 1) := by decide +kernel
theorem dX1_isAtEnd_1 : decode cX1_isAtEnd 1 = .ok (.getfield 29, 3) := by decide +kernel
theorem dX1_isAtEnd_4 : decode cX1_isAtEnd 4 = .ok (.aload_n 0, 1) := by decide +kernel
theorem dX1_isAtEnd_5 : decode cX1_isAtEnd 5 = .ok (.getfield 25, 3) := by decide +kernel
theorem dX1_isAtEnd_8 : decode cX1_isAtEnd 8 = .ok (.if_icmp .ge 30, 3) := by decide +kernel
theorem dX1_isAtEnd_11 : decode cX1_isAtEnd 11 = .ok (.aload_n 0, 1) := by decide +kernel
theorem dX1_isAtEnd_12 : decode cX1_isAtEnd 12 = .ok (.getfield 9, 3) := by decide +kernel
theorem dX1_isAtEnd_15 : decode cX1_isAtEnd 15 = .ok (.aload_n 0, 1) := by decide +kernel
theorem dX1_isAtEnd_16 : decode cX1_isAtEnd 16 = .ok (.getfield 29, 3) := by decide +kernel
theorem dX1_isAtEnd_19 : decode cX1_isAtEnd 19 = .ok (.baload, 1) := by decide +kernel
theorem dX1_isAtEnd_20 : decode cX1_isAtEnd 20 = .ok (.bipush 32, 2) := by decide +kernel
theorem dX1_isAtEnd_22 : decode cX1_isAtEnd 22 = .ok (.if_icmp .ne 16, 3) := by decide +kernel
theorem dX1_isAtEnd_25 : decode cX1_isAtEnd 25 = .ok (.aload_n 0, 1) := by decide +kernel
theorem dX1_isAtEnd_26 : decode cX1_isAtEnd 26 = .ok (.dup, 1) := by decide +kernel
theorem dX1_isAtEnd_27 : decode cX1_isAtEnd 27 = .ok (.getfield 29, 3) := by decide +kernel
theorem dX1_isAtEnd_30 : decode cX1_isAtEnd 30 = .ok (.iconst 1, 1) := by decide +kernel
theorem dX1_isAtEnd_31 : decode cX1_isAtEnd 31 = .ok (.iadd, 1) := by decide +kernel
theorem dX1_isAtEnd_32 : decode cX1_isAtEnd 32 = .ok (.putfield 29, 3) := by decide +kernel
theorem dX1_isAtEnd_35 : decode cX1_isAtEnd 35 = .ok (.goto (-35), 3) := by decide +kernel
theorem dX1_isAtEnd_38 : decode cX1_isAtEnd 38 = .ok (.aload_n 0, 1) := by decide +kernel
theorem dX1_isAtEnd_39 : decode cX1_isAtEnd 39 = .ok (.getfield 29, 3) := by decide +kernel
theorem dX1_isAtEnd_42 : decode cX1_isAtEnd 42 = .ok (.aload_n 0, 1) := by decide +kernel
theorem dX1_isAtEnd_43 : decode cX1_isAtEnd 43 = .ok (.getfield 25, 3) := by decide +kernel
theorem dX1_isAtEnd_46 : decode cX1_isAtEnd 46 = .ok (.if_icmp .lt 7, 3) := by decide +kernel
theorem dX1_isAtEnd_49 : decode cX1_isAtEnd 49 = .ok (.iconst 1, 1) := by decide +kernel
theorem dX1_isAtEnd_50 : decode cX1_isAtEnd 50 = .ok (.goto 4, 3) := by decide +kernel
theorem dX1_isAtEnd_53 : decode cX1_isAtEnd 53 = .ok (.iconst 0, 1) := by decide +kernel
theorem dX1_isAtEnd_54 : decode cX1_isAtEnd 54 = .ok (.ireturn, 1) := by decide +kernel
theorem dX1_isAtDigit_0 : decode cX1_isAtDigit 0 = .ok (.aload_n 0, 1) := by decide +kernel
theorem dX1_isAtDigit_1 : decode cX1_isAtDigit 1 = .ok (.invokevirtual 46, 3) := by decide +kernel
theorem dX1_isAtDigit_4 : decode cX1_isAtDigit 4 = .ok (.ifCond .ne 35, 3) := by decide +kernel
theorem dX1_isAtDigit_7 : decode cX1_isAtDigit 7 = .ok (.aload_n 0, 1) := by decide +kernel
theorem dX1_isAtDigit_8 : decode cX1_isAtDigit 8 = .ok (.getfield 9, 3) := by decide +kernel
theorem dX1_isAtDigit_11 : decode cX1_isAtDigit 11 = .ok (.aload_n 0, 1) := by decide +kernel
theorem dX1_isAtDigit_12 : decode cX1_isAtDigit 12 = .ok (.getfield 29, 3) := by decide +kernel
theorem dX1_isAtDigit_15 : decode cX1_isAtDigit 15 = .ok (.baload, 1) := by decide +kernel
theorem dX1_isAtDigit_16 : decode cX1_isAtDigit 16 = .ok (.bipush 48, 2) := by decide +kernel
theorem dX1_isAtDigit_18 : decode cX1_isAtDigit 18 = .ok (.if_icmp .lt 21, 3) := by decide +kernel
theorem dX1_isAtDigit_21 : decode cX1_isAtDigit 21 = .ok (.aload_n 0, 1) := by decide +kernel
theorem dX1_isAtDigit_22 : decode cX1_isAtDigit 22 = .ok (.getfield 9, 3) := by decide +kernel
theorem dX1_isAtDigit_25 : decode cX1_isAtDigit 25 = .ok (.aload_n 0, 1) := by decide +kernel
theorem dX1_isAtDigit_26 : decode cX1_isAtDigit 26 = .ok (.getfield 29, 3) := by decide +kernel
theorem dX1_isAtDigit_29 : decode cX1_isAtDigit 29 = .ok (.baload, 1) := by decide +kernel
theorem dX1_isAtDigit_30 : decode cX1_isAtDigit 30 = .ok (.bipush 57, 2) := by decide +kernel
theorem dX1_isAtDigit_32 : decode cX1_isAtDigit 32 = .ok (.if_icmp .gt 7, 3) := by decide +kernel
theorem dX1_isAtDigit_35 : decode cX1_isAtDigit 35 = .ok (.iconst 1, 1) := by decide +kernel
theorem dX1_isAtDigit_36 : decode cX1_isAtDigit 36 = .ok (.goto 4, 3) := by decide +kernel
theorem dX1_isAtDigit_39 : decode cX1_isAtDigit 39 = .ok (.iconst 0, 1) := by decide +kernel
theorem dX1_isAtDigit_40 : decode cX1_isAtDigit 40 = .ok (.ireturn, 1) := by decide +kernel
theorem dX1_readSemicolon_0 : decode cX1_readSemicolon 0 = .ok (.aload_n 0, 1) := by decide +kernel
theorem dX1_readSemicolon_1 : decode cX1_readSemicolon 1 = .ok (.invokevirtual 46, 3) := by decide +kernel
theorem dX1_readSemicolon_4 : decode cX1_readSemicolon 4 = .ok (.ifCond .ne 17, 3) := by decide +kernel
theorem dX1_readSemicolon_7 : decode cX1_readSemicolon 7 = .ok (.aload_n 0, 1) := by decide +kernel
theorem dX1_readSemicolon_8 : decode cX1_readSemicolon 8 = .ok (.getfield 9, 3) := by decide +kernel
theorem dX1_readSemicolon_11 : decode cX1_readSemicolon 11 = .ok (.aload_n 0, 1) := by decide +kernel
theorem dX1_readSemicolon_12 : decode cX1_readSemicolon 12 = .ok (.getfield 29, 3) := by decide +kernel
theorem dX1_readSemicolon_15 : decode cX1_readSemicolon 15 = .ok (.baload, 1) := by decide +kernel
theorem dX1_readSemicolon_16 : decode cX1_readSemicolon 16 = .ok (.bipush 59, 2) := by decide +kernel
theorem dX1_readSemicolon_18 : decode cX1_readSemicolon 18 = .ok (.if_icmp .eq 15, 3) := by decide +kernel
theorem dX1_readSemicolon_21 : decode cX1_readSemicolon 21 = .ok (.aload_n 0, 1) := by decide +kernel
theorem dX1_readSemicolon_22 : decode cX1_readSemicolon 22 = .ok (.iconst 1, 1) := by decide +kernel
theorem dX1_readSemicolon_23 : decode cX1_readSemicolon 23 = .ok (.aload_n 0, 1) := by decide +kernel
theorem dX1_readSemicolon_24 : decode cX1_readSemicolon 24 = .ok (.getfield 29, 3) := by decide +kernel
theorem dX1_readSemicolon_27 : decode cX1_readSemicolon 27 = .ok (.invokevirtual 56, 3) := by decide +kernel
theorem dX1_readSemicolon_30 : decode cX1_readSemicolon 30 = .ok (.goto 13, 3) := by decide +kernel
theorem dX1_readSemicolon_33 : decode cX1_readSemicolon 33 = .ok (.aload_n 0, 1) := by decide +kernel
theorem dX1_readSemicolon_34 : decode cX1_readSemicolon 34 = .ok (.dup, 1) := by decide +kernel
theorem dX1_readSemicolon_35 : decode cX1_readSemicolon 35 = .ok (.getfield 29, 3) := by decide +kernel
theorem dX1_readSemicolon_38 : decode cX1_readSemicolon 38 = .ok (.iconst 1, 1) := by decide +kernel
theorem dX1_readSemicolon_39 : decode cX1_readSemicolon 39 = .ok (.iadd, 1) := by decide +kernel
theorem dX1_readSemicolon_40 : decode cX1_readSemicolon 40 = .ok (.putfield 29, 3) := by decide +kernel
theorem dX1_readSemicolon_43 : decode cX1_readSemicolon 43 = .ok (.return_, 1) := by decide +kernel
theorem dX1_readWord_0 : decode cX1_readWord 0 = .ok (.aload_n 0, 1) := by decide +kernel
theorem dX1_readWord_1 : decode cX1_readWord 1 = .ok (.aload_n 0, 1) := by decide +kernel
theorem dX1_readWord_2 : decode cX1_readWord 2 = .ok (.invokevirtual 46, 3) := by decide +kernel
theorem dX1_readWord_5 : decode cX1_readWord 5 = .ok (.ifCond .eq 10, 3) := by decide +kernel
theorem dX1_readWord_8 : decode cX1_readWord 8 = .ok (.aload_n 0, 1) := by decide +kernel
theorem dX1_readWord_9 : decode cX1_readWord 9 = .ok (.getfield 25, 3) := by decide +kernel
theorem dX1_readWord_12 : decode cX1_readWord 12 = .ok (.goto 7, 3) := by decide +kernel
theorem dX1_readWord_15 : decode cX1_readWord 15 = .ok (.aload_n 0, 1) := by decide +kernel
theorem dX1_readWord_16 : decode cX1_readWord 16 = .ok (.getfield 29, 3) := by decide +kernel
theorem dX1_readWord_19 : decode cX1_readWord 19 = .ok (.putfield 60, 3) := by decide +kernel
theorem dX1_readWord_22 : decode cX1_readWord 22 = .ok (.aload_n 0, 1) := by decide +kernel
theorem dX1_readWord_23 : decode cX1_readWord 23 = .ok (.getfield 29, 3) := by decide +kernel
theorem dX1_readWord_26 : decode cX1_readWord 26 = .ok (.aload_n 0, 1) := by decide +kernel
theorem dX1_readWord_27 : decode cX1_readWord 27 = .ok (.getfield 25, 3) := by decide +kernel
theorem dX1_readWord_30 : decode cX1_readWord 30 = .ok (.if_icmp .ge 44, 3) := by decide +kernel
theorem dX1_readWord_33 : decode cX1_readWord 33 = .ok (.aload_n 0, 1) := by decide +kernel
theorem dX1_readWord_34 : decode cX1_readWord 34 = .ok (.getfield 9, 3) := by decide +kernel
theorem dX1_readWord_37 : decode cX1_readWord 37 = .ok (.aload_n 0, 1) := by decide +kernel
theorem dX1_readWord_38 : decode cX1_readWord 38 = .ok (.getfield 29, 3) := by decide +kernel
theorem dX1_readWord_41 : decode cX1_readWord 41 = .ok (.baload, 1) := by decide +kernel
theorem dX1_readWord_42 : decode cX1_readWord 42 = .ok (.bipush 97, 2) := by decide +kernel
theorem dX1_readWord_44 : decode cX1_readWord 44 = .ok (.if_icmp .lt 30, 3) := by decide +kernel
theorem dX1_readWord_47 : decode cX1_readWord 47 = .ok (.aload_n 0, 1) := by decide +kernel
theorem dX1_readWord_48 : decode cX1_readWord 48 = .ok (.getfield 9, 3) := by decide +kernel
theorem dX1_readWord_51 : decode cX1_readWord 51 = .ok (.aload_n 0, 1) := by decide +kernel
theorem dX1_readWord_52 : decode cX1_readWord 52 = .ok (.getfield 29, 3) := by decide +kernel
theorem dX1_readWord_55 : decode cX1_readWord 55 = .ok (.baload, 1) := by decide +kernel
theorem dX1_readWord_56 : decode cX1_readWord 56 = .ok (.bipush 122, 2) := by decide +kernel
theorem dX1_readWord_58 : decode cX1_readWord 58 = .ok (.if_icmp .gt 16, 3) := by decide +kernel
theorem dX1_readWord_61 : decode cX1_readWord 61 = .ok (.aload_n 0, 1) := by decide +kernel
theorem dX1_readWord_62 : decode cX1_readWord 62 = .ok (.dup, 1) := by decide +kernel
theorem dX1_readWord_63 : decode cX1_readWord 63 = .ok (.getfield 29, 3) := by decide +kernel
theorem dX1_readWord_66 : decode cX1_readWord 66 = .ok (.iconst 1, 1) := by decide +kernel
theorem dX1_readWord_67 : decode cX1_readWord 67 = .ok (.iadd, 1) := by decide +kernel
theorem dX1_readWord_68 : decode cX1_readWord 68 = .ok (.putfield 29, 3) := by decide +kernel
theorem dX1_readWord_71 : decode cX1_readWord 71 = .ok (.goto (-49), 3) := by decide +kernel
theorem dX1_readWord_74 : decode cX1_readWord 74 = .ok (.return_, 1) := by decide +kernel
theorem dX1_isWord_0 : decode cX1_isWord 0 = .ok (.aload_n 0, 1) := by decide +kernel
theorem dX1_isWord_1 : decode cX1_isWord 1 = .ok (.getfield 29, 3) := by decide +kernel
theorem dX1_isWord_4 : decode cX1_isWord 4 = .ok (.aload_n 0, 1) := by decide +kernel
theorem dX1_isWord_5 : decode cX1_isWord 5 = .ok (.getfield 60, 3) := by decide +kernel
theorem dX1_isWord_8 : decode cX1_isWord 8 = .ok (.isub, 1) := by decide +kernel
theorem dX1_isWord_9 : decode cX1_isWord 9 = .ok (.aload_n 1, 1) := by decide +kernel
theorem dX1_isWord_10 : decode cX1_isWord 10 = .ok (.invokevirtual 63, 3) := by decide +kernel
theorem dX1_isWord_13 : decode cX1_isWord 13 = .ok (.if_icmp .eq 5, 3) := by decide +kernel
theorem dX1_isWord_16 : decode cX1_isWord 16 = .ok (.iconst 0, 1) := by decide +kernel
theorem dX1_isWord_17 : decode cX1_isWord 17 = .ok (.ireturn, 1) := by decide +kernel
theorem dX1_isWord_18 : decode cX1_isWord 18 = .ok (.iconst 0, 1) := by decide +kernel
theorem dX1_isWord_19 : decode cX1_isWord 19 = .ok (.istore_n 2, 1) := by decide +kernel
theorem dX1_isWord_20 : decode cX1_isWord 20 = .ok (.iload_n 2, 1) := by decide +kernel
theorem dX1_isWord_21 : decode cX1_isWord 21 = .ok (.aload_n 1, 1) := by decide +kernel
theorem dX1_isWord_22 : decode cX1_isWord 22 = .ok (.invokevirtual 63, 3) := by decide +kernel
theorem dX1_isWord_25 : decode cX1_isWord 25 = .ok (.if_icmp .ge 30, 3) := by decide +kernel
theorem dX1_isWord_28 : decode cX1_isWord 28 = .ok (.aload_n 0, 1) := by decide +kernel
theorem dX1_isWord_29 : decode cX1_isWord 29 = .ok (.getfield 9, 3) := by decide +kernel
theorem dX1_isWord_32 : decode cX1_isWord 32 = .ok (.aload_n 0, 1) := by decide +kernel
theorem dX1_isWord_33 : decode cX1_isWord 33 = .ok (.getfield 60, 3) := by decide +kernel
theorem dX1_isWord_36 : decode cX1_isWord 36 = .ok (.iload_n 2, 1) := by decide +kernel
theorem dX1_isWord_37 : decode cX1_isWord 37 = .ok (.iadd, 1) := by decide +kernel
theorem dX1_isWord_38 : decode cX1_isWord 38 = .ok (.baload, 1) := by decide +kernel
theorem dX1_isWord_39 : decode cX1_isWord 39 = .ok (.aload_n 1, 1) := by decide +kernel
theorem dX1_isWord_40 : decode cX1_isWord 40 = .ok (.iload_n 2, 1) := by decide +kernel
theorem dX1_isWord_41 : decode cX1_isWord 41 = .ok (.invokevirtual 68, 3) := by decide +kernel
theorem dX1_isWord_44 : decode cX1_isWord 44 = .ok (.if_icmp .eq 5, 3) := by decide +kernel
theorem dX1_isWord_47 : decode cX1_isWord 47 = .ok (.iconst 0, 1) := by decide +kernel
theorem dX1_isWord_48 : decode cX1_isWord 48 = .ok (.ireturn, 1) := by decide +kernel
theorem dX1_isWord_49 : decode cX1_isWord 49 = .ok (.iinc 2 1, 3) := by decide +kernel
theorem dX1_isWord_52 : decode cX1_isWord 52 = .ok (.goto (-32), 3) := by decide +kernel
theorem dX1_isWord_55 : decode cX1_isWord 55 = .ok (.iconst 1, 1) := by decide +kernel
theorem dX1_isWord_56 : decode cX1_isWord 56 = .ok (.ireturn, 1) := by decide +kernel
theorem dX1_readNumber_0 : decode cX1_readNumber 0 = .ok (.aload_n 0, 1) := by decide +kernel
theorem dX1_readNumber_1 : decode cX1_readNumber 1 = .ok (.aload_n 0, 1) := by decide +kernel
theorem dX1_readNumber_2 : decode cX1_readNumber 2 = .ok (.invokevirtual 46, 3) := by decide +kernel
theorem dX1_readNumber_5 : decode cX1_readNumber 5 = .ok (.ifCond .eq 10, 3) := by decide +kernel
theorem dX1_readNumber_8 : decode cX1_readNumber 8 = .ok (.aload_n 0, 1) := by decide +kernel
theorem dX1_readNumber_9 : decode cX1_readNumber 9 = .ok (.getfield 25, 3) := by decide +kernel
theorem dX1_readNumber_12 : decode cX1_readNumber 12 = .ok (.goto 7, 3) := by decide +kernel
theorem dX1_readNumber_15 : decode cX1_readNumber 15 = .ok (.aload_n 0, 1) := by decide +kernel
theorem dX1_readNumber_16 : decode cX1_readNumber 16 = .ok (.getfield 29, 3) := by decide +kernel
theorem dX1_readNumber_19 : decode cX1_readNumber 19 = .ok (.putfield 72, 3) := by decide +kernel
theorem dX1_readNumber_22 : decode cX1_readNumber 22 = .ok (.aload_n 0, 1) := by decide +kernel
theorem dX1_readNumber_23 : decode cX1_readNumber 23 = .ok (.invokevirtual 75, 3) := by decide +kernel
theorem dX1_readNumber_26 : decode cX1_readNumber 26 = .ok (.ifCond .ne 14, 3) := by decide +kernel
theorem dX1_readNumber_29 : decode cX1_readNumber 29 = .ok (.aload_n 0, 1) := by decide +kernel
theorem dX1_readNumber_30 : decode cX1_readNumber 30 = .ok (.iconst 1, 1) := by decide +kernel
theorem dX1_readNumber_31 : decode cX1_readNumber 31 = .ok (.aload_n 0, 1) := by decide +kernel
theorem dX1_readNumber_32 : decode cX1_readNumber 32 = .ok (.getfield 72, 3) := by decide +kernel
theorem dX1_readNumber_35 : decode cX1_readNumber 35 = .ok (.invokevirtual 56, 3) := by decide +kernel
theorem dX1_readNumber_38 : decode cX1_readNumber 38 = .ok (.iload_n 1, 1) := by decide +kernel
theorem dX1_readNumber_39 : decode cX1_readNumber 39 = .ok (.ireturn, 1) := by decide +kernel
theorem dX1_readNumber_40 : decode cX1_readNumber 40 = .ok (.iconst 0, 1) := by decide +kernel
theorem dX1_readNumber_41 : decode cX1_readNumber 41 = .ok (.istore_n 3, 1) := by decide +kernel
theorem dX1_readNumber_42 : decode cX1_readNumber 42 = .ok (.aload_n 0, 1) := by decide +kernel
theorem dX1_readNumber_43 : decode cX1_readNumber 43 = .ok (.getfield 29, 3) := by decide +kernel
theorem dX1_readNumber_46 : decode cX1_readNumber 46 = .ok (.aload_n 0, 1) := by decide +kernel
theorem dX1_readNumber_47 : decode cX1_readNumber 47 = .ok (.getfield 25, 3) := by decide +kernel
theorem dX1_readNumber_50 : decode cX1_readNumber 50 = .ok (.if_icmp .ge 67, 3) := by decide +kernel
theorem dX1_readNumber_53 : decode cX1_readNumber 53 = .ok (.aload_n 0, 1) := by decide +kernel
theorem dX1_readNumber_54 : decode cX1_readNumber 54 = .ok (.getfield 9, 3) := by decide +kernel
theorem dX1_readNumber_57 : decode cX1_readNumber 57 = .ok (.aload_n 0, 1) := by decide +kernel
theorem dX1_readNumber_58 : decode cX1_readNumber 58 = .ok (.getfield 29, 3) := by decide +kernel
theorem dX1_readNumber_61 : decode cX1_readNumber 61 = .ok (.baload, 1) := by decide +kernel
theorem dX1_readNumber_62 : decode cX1_readNumber 62 = .ok (.bipush 48, 2) := by decide +kernel
theorem dX1_readNumber_64 : decode cX1_readNumber 64 = .ok (.if_icmp .lt 53, 3) := by decide +kernel
theorem dX1_readNumber_67 : decode cX1_readNumber 67 = .ok (.aload_n 0, 1) := by decide +kernel
theorem dX1_readNumber_68 : decode cX1_readNumber 68 = .ok (.getfield 9, 3) := by decide +kernel
theorem dX1_readNumber_71 : decode cX1_readNumber 71 = .ok (.aload_n 0, 1) := by decide +kernel
theorem dX1_readNumber_72 : decode cX1_readNumber 72 = .ok (.getfield 29, 3) := by decide +kernel
theorem dX1_readNumber_75 : decode cX1_readNumber 75 = .ok (.baload, 1) := by decide +kernel
theorem dX1_readNumber_76 : decode cX1_readNumber 76 = .ok (.bipush 57, 2) := by decide +kernel
theorem dX1_readNumber_78 : decode cX1_readNumber 78 = .ok (.if_icmp .gt 39, 3) := by decide +kernel
theorem dX1_readNumber_81 : decode cX1_readNumber 81 = .ok (.bipush 10, 2) := by decide +kernel
theorem dX1_readNumber_83 : decode cX1_readNumber 83 = .ok (.iload_n 3, 1) := by decide +kernel
theorem dX1_readNumber_84 : decode cX1_readNumber 84 = .ok (.imul, 1) := by decide +kernel
theorem dX1_readNumber_85 : decode cX1_readNumber 85 = .ok (.aload_n 0, 1) := by decide +kernel
theorem dX1_readNumber_86 : decode cX1_readNumber 86 = .ok (.getfield 9, 3) := by decide +kernel
theorem dX1_readNumber_89 : decode cX1_readNumber 89 = .ok (.aload_n 0, 1) := by decide +kernel
theorem dX1_readNumber_90 : decode cX1_readNumber 90 = .ok (.getfield 29, 3) := by decide +kernel
theorem dX1_readNumber_93 : decode cX1_readNumber 93 = .ok (.baload, 1) := by decide +kernel
theorem dX1_readNumber_94 : decode cX1_readNumber 94 = .ok (.iadd, 1) := by decide +kernel
theorem dX1_readNumber_95 : decode cX1_readNumber 95 = .ok (.bipush 48, 2) := by decide +kernel
theorem dX1_readNumber_97 : decode cX1_readNumber 97 = .ok (.isub, 1) := by decide +kernel
theorem dX1_readNumber_98 : decode cX1_readNumber 98 = .ok (.ldc 78, 2) := by decide +kernel
theorem dX1_readNumber_100 : decode cX1_readNumber 100 = .ok (.invokestatic 19, 3) := by decide +kernel
theorem dX1_readNumber_103 : decode cX1_readNumber 103 = .ok (.istore_n 3, 1) := by decide +kernel
theorem dX1_readNumber_104 : decode cX1_readNumber 104 = .ok (.aload_n 0, 1) := by decide +kernel
theorem dX1_readNumber_105 : decode cX1_readNumber 105 = .ok (.dup, 1) := by decide +kernel
theorem dX1_readNumber_106 : decode cX1_readNumber 106 = .ok (.getfield 29, 3) := by decide +kernel
theorem dX1_readNumber_109 : decode cX1_readNumber 109 = .ok (.iconst 1, 1) := by decide +kernel
theorem dX1_readNumber_110 : decode cX1_readNumber 110 = .ok (.iadd, 1) := by decide +kernel
theorem dX1_readNumber_111 : decode cX1_readNumber 111 = .ok (.putfield 29, 3) := by decide +kernel
theorem dX1_readNumber_114 : decode cX1_readNumber 114 = .ok (.goto (-72), 3) := by decide +kernel
theorem dX1_readNumber_117 : decode cX1_readNumber 117 = .ok (.iload_n 3, 1) := by decide +kernel
theorem dX1_readNumber_118 : decode cX1_readNumber 118 = .ok (.iload_n 1, 1) := by decide +kernel
theorem dX1_readNumber_119 : decode cX1_readNumber 119 = .ok (.if_icmp .lt 8, 3) := by decide +kernel
theorem dX1_readNumber_122 : decode cX1_readNumber 122 = .ok (.iload_n 3, 1) := by decide +kernel
theorem dX1_readNumber_123 : decode cX1_readNumber 123 = .ok (.iload_n 2, 1) := by decide +kernel
theorem dX1_readNumber_124 : decode cX1_readNumber 124 = .ok (.if_icmp .le 12, 3) := by decide +kernel
theorem dX1_readNumber_127 : decode cX1_readNumber 127 = .ok (.aload_n 0, 1) := by decide +kernel
theorem dX1_readNumber_128 : decode cX1_readNumber 128 = .ok (.iconst 2, 1) := by decide +kernel
theorem dX1_readNumber_129 : decode cX1_readNumber 129 = .ok (.aload_n 0, 1) := by decide +kernel
theorem dX1_readNumber_130 : decode cX1_readNumber 130 = .ok (.getfield 72, 3) := by decide +kernel
theorem dX1_readNumber_133 : decode cX1_readNumber 133 = .ok (.invokevirtual 56, 3) := by decide +kernel
theorem dX1_readNumber_136 : decode cX1_readNumber 136 = .ok (.iload_n 3, 1) := by decide +kernel
theorem dX1_readNumber_137 : decode cX1_readNumber 137 = .ok (.ireturn, 1) := by decide +kernel
theorem dX1_readMachine_0 : decode cX1_readMachine 0 = .ok (.aload_n 0, 1) := by decide +kernel
theorem dX1_readMachine_1 : decode cX1_readMachine 1 = .ok (.invokevirtual 79, 3) := by decide +kernel
theorem dX1_readMachine_4 : decode cX1_readMachine 4 = .ok (.aload_n 0, 1) := by decide +kernel
theorem dX1_readMachine_5 : decode cX1_readMachine 5 = .ok (.ldc 82, 2) := by decide +kernel
theorem dX1_readMachine_7 : decode cX1_readMachine 7 = .ok (.invokevirtual 83, 3) := by decide +kernel
theorem dX1_readMachine_10 : decode cX1_readMachine 10 = .ok (.ifCond .ne 13, 3) := by decide +kernel
theorem dX1_readMachine_13 : decode cX1_readMachine 13 = .ok (.aload_n 0, 1) := by decide +kernel
theorem dX1_readMachine_14 : decode cX1_readMachine 14 = .ok (.iconst 1, 1) := by decide +kernel
theorem dX1_readMachine_15 : decode cX1_readMachine 15 = .ok (.aload_n 0, 1) := by decide +kernel
theorem dX1_readMachine_16 : decode cX1_readMachine 16 = .ok (.getfield 60, 3) := by decide +kernel
theorem dX1_readMachine_19 : decode cX1_readMachine 19 = .ok (.invokevirtual 56, 3) := by decide +kernel
theorem dX1_readMachine_22 : decode cX1_readMachine 22 = .ok (.return_, 1) := by decide +kernel
theorem dX1_readMachine_23 : decode cX1_readMachine 23 = .ok (.aload_n 0, 1) := by decide +kernel
theorem dX1_readMachine_24 : decode cX1_readMachine 24 = .ok (.iconst 1, 1) := by decide +kernel
theorem dX1_readMachine_25 : decode cX1_readMachine 25 = .ok (.iconst 4, 1) := by decide +kernel
theorem dX1_readMachine_26 : decode cX1_readMachine 26 = .ok (.invokevirtual 87, 3) := by decide +kernel
theorem dX1_readMachine_29 : decode cX1_readMachine 29 = .ok (.istore_n 1, 1) := by decide +kernel
theorem dX1_readMachine_30 : decode cX1_readMachine 30 = .ok (.aload_n 0, 1) := by decide +kernel
theorem dX1_readMachine_31 : decode cX1_readMachine 31 = .ok (.getfield 32, 3) := by decide +kernel
theorem dX1_readMachine_34 : decode cX1_readMachine 34 = .ok (.ifCond .ne 17, 3) := by decide +kernel
theorem dX1_readMachine_37 : decode cX1_readMachine 37 = .ok (.aload_n 0, 1) := by decide +kernel
theorem dX1_readMachine_38 : decode cX1_readMachine 38 = .ok (.getfield 15, 3) := by decide +kernel
theorem dX1_readMachine_41 : decode cX1_readMachine 41 = .ok (.iload_n 1, 1) := by decide +kernel
theorem dX1_readMachine_42 : decode cX1_readMachine 42 = .ok (.putfield 90, 3) := by decide +kernel
theorem dX1_readMachine_45 : decode cX1_readMachine 45 = .ok (.aload_n 0, 1) := by decide +kernel
theorem dX1_readMachine_46 : decode cX1_readMachine 46 = .ok (.iconst 0, 1) := by decide +kernel
theorem dX1_readMachine_47 : decode cX1_readMachine 47 = .ok (.iconst 0, 1) := by decide +kernel
theorem dX1_readMachine_48 : decode cX1_readMachine 48 = .ok (.invokevirtual 93, 3) := by decide +kernel
theorem dX1_readMachine_51 : decode cX1_readMachine 51 = .ok (.return_, 1) := by decide +kernel
theorem dX1_readStatement_0 : decode cX1_readStatement 0 = .ok (.aload_n 0, 1) := by decide +kernel
theorem dX1_readStatement_1 : decode cX1_readStatement 1 = .ok (.getfield 32, 3) := by decide +kernel
theorem dX1_readStatement_4 : decode cX1_readStatement 4 = .ok (.ifCond .eq 4, 3) := by decide +kernel
theorem dX1_readStatement_7 : decode cX1_readStatement 7 = .ok (.return_, 1) := by decide +kernel
theorem dX1_readStatement_8 : decode cX1_readStatement 8 = .ok (.aload_n 0, 1) := by decide +kernel
theorem dX1_readStatement_9 : decode cX1_readStatement 9 = .ok (.invokevirtual 79, 3) := by decide +kernel
theorem dX1_readStatement_12 : decode cX1_readStatement 12 = .ok (.aload_n 0, 1) := by decide +kernel
theorem dX1_readStatement_13 : decode cX1_readStatement 13 = .ok (.ldc 96, 2) := by decide +kernel
theorem dX1_readStatement_15 : decode cX1_readStatement 15 = .ok (.invokevirtual 83, 3) := by decide +kernel
theorem dX1_readStatement_18 : decode cX1_readStatement 18 = .ok (.ifCond .eq 12, 3) := by decide +kernel
theorem dX1_readStatement_21 : decode cX1_readStatement 21 = .ok (.aload_n 0, 1) := by decide +kernel
theorem dX1_readStatement_22 : decode cX1_readStatement 22 = .ok (.iconst 1, 1) := by decide +kernel
theorem dX1_readStatement_23 : decode cX1_readStatement 23 = .ok (.iconst 4, 1) := by decide +kernel
theorem dX1_readStatement_24 : decode cX1_readStatement 24 = .ok (.invokevirtual 93, 3) := by decide +kernel
theorem dX1_readStatement_27 : decode cX1_readStatement 27 = .ok (.goto 191, 3) := by decide +kernel
theorem dX1_readStatement_30 : decode cX1_readStatement 30 = .ok (.aload_n 0, 1) := by decide +kernel
theorem dX1_readStatement_31 : decode cX1_readStatement 31 = .ok (.ldc 98, 2) := by decide +kernel
theorem dX1_readStatement_33 : decode cX1_readStatement 33 = .ok (.invokevirtual 83, 3) := by decide +kernel
theorem dX1_readStatement_36 : decode cX1_readStatement 36 = .ok (.ifCond .eq 13, 3) := by decide +kernel
theorem dX1_readStatement_39 : decode cX1_readStatement 39 = .ok (.aload_n 0, 1) := by decide +kernel
theorem dX1_readStatement_40 : decode cX1_readStatement 40 = .ok (.iconst 5, 1) := by decide +kernel
theorem dX1_readStatement_41 : decode cX1_readStatement 41 = .ok (.bipush 7, 2) := by decide +kernel
theorem dX1_readStatement_43 : decode cX1_readStatement 43 = .ok (.invokevirtual 93, 3) := by decide +kernel
theorem dX1_readStatement_46 : decode cX1_readStatement 46 = .ok (.goto 172, 3) := by decide +kernel
theorem dX1_readStatement_49 : decode cX1_readStatement 49 = .ok (.aload_n 0, 1) := by decide +kernel
theorem dX1_readStatement_50 : decode cX1_readStatement 50 = .ok (.ldc 100, 2) := by decide +kernel
theorem dX1_readStatement_52 : decode cX1_readStatement 52 = .ok (.invokevirtual 83, 3) := by decide +kernel
theorem dX1_readStatement_55 : decode cX1_readStatement 55 = .ok (.ifCond .eq 14, 3) := by decide +kernel
theorem dX1_readStatement_58 : decode cX1_readStatement 58 = .ok (.aload_n 0, 1) := by decide +kernel
theorem dX1_readStatement_59 : decode cX1_readStatement 59 = .ok (.bipush 8, 2) := by decide +kernel
theorem dX1_readStatement_61 : decode cX1_readStatement 61 = .ok (.bipush 9, 2) := by decide +kernel
theorem dX1_readStatement_63 : decode cX1_readStatement 63 = .ok (.invokevirtual 93, 3) := by decide +kernel
theorem dX1_readStatement_66 : decode cX1_readStatement 66 = .ok (.goto 152, 3) := by decide +kernel
theorem dX1_readStatement_69 : decode cX1_readStatement 69 = .ok (.aload_n 0, 1) := by decide +kernel
theorem dX1_readStatement_70 : decode cX1_readStatement 70 = .ok (.ldc 102, 2) := by decide +kernel
theorem dX1_readStatement_72 : decode cX1_readStatement 72 = .ok (.invokevirtual 83, 3) := by decide +kernel
theorem dX1_readStatement_75 : decode cX1_readStatement 75 = .ok (.ifCond .eq 14, 3) := by decide +kernel
theorem dX1_readStatement_78 : decode cX1_readStatement 78 = .ok (.aload_n 0, 1) := by decide +kernel
theorem dX1_readStatement_79 : decode cX1_readStatement 79 = .ok (.bipush 10, 2) := by decide +kernel
theorem dX1_readStatement_81 : decode cX1_readStatement 81 = .ok (.bipush 10, 2) := by decide +kernel
theorem dX1_readStatement_83 : decode cX1_readStatement 83 = .ok (.invokevirtual 93, 3) := by decide +kernel
theorem dX1_readStatement_86 : decode cX1_readStatement 86 = .ok (.goto 132, 3) := by decide +kernel
theorem dX1_readStatement_89 : decode cX1_readStatement 89 = .ok (.aload_n 0, 1) := by decide +kernel
theorem dX1_readStatement_90 : decode cX1_readStatement 90 = .ok (.ldc 104, 2) := by decide +kernel
theorem dX1_readStatement_92 : decode cX1_readStatement 92 = .ok (.invokevirtual 83, 3) := by decide +kernel
theorem dX1_readStatement_95 : decode cX1_readStatement 95 = .ok (.ifCond .eq 14, 3) := by decide +kernel
theorem dX1_readStatement_98 : decode cX1_readStatement 98 = .ok (.aload_n 0, 1) := by decide +kernel
theorem dX1_readStatement_99 : decode cX1_readStatement 99 = .ok (.bipush 11, 2) := by decide +kernel
theorem dX1_readStatement_101 : decode cX1_readStatement 101 = .ok (.bipush 11, 2) := by decide +kernel
theorem dX1_readStatement_103 : decode cX1_readStatement 103 = .ok (.invokevirtual 93, 3) := by decide +kernel
theorem dX1_readStatement_106 : decode cX1_readStatement 106 = .ok (.goto 112, 3) := by decide +kernel
theorem dX1_readStatement_109 : decode cX1_readStatement 109 = .ok (.aload_n 0, 1) := by decide +kernel
theorem dX1_readStatement_110 : decode cX1_readStatement 110 = .ok (.ldc 106, 2) := by decide +kernel
theorem dX1_readStatement_112 : decode cX1_readStatement 112 = .ok (.invokevirtual 83, 3) := by decide +kernel
theorem dX1_readStatement_115 : decode cX1_readStatement 115 = .ok (.ifCond .eq 14, 3) := by decide +kernel
theorem dX1_readStatement_118 : decode cX1_readStatement 118 = .ok (.aload_n 0, 1) := by decide +kernel
theorem dX1_readStatement_119 : decode cX1_readStatement 119 = .ok (.bipush 12, 2) := by decide +kernel
theorem dX1_readStatement_121 : decode cX1_readStatement 121 = .ok (.bipush 14, 2) := by decide +kernel
theorem dX1_readStatement_123 : decode cX1_readStatement 123 = .ok (.invokevirtual 93, 3) := by decide +kernel
theorem dX1_readStatement_126 : decode cX1_readStatement 126 = .ok (.goto 92, 3) := by decide +kernel
theorem dX1_readStatement_129 : decode cX1_readStatement 129 = .ok (.aload_n 0, 1) := by decide +kernel
theorem dX1_readStatement_130 : decode cX1_readStatement 130 = .ok (.ldc 108, 2) := by decide +kernel
theorem dX1_readStatement_132 : decode cX1_readStatement 132 = .ok (.invokevirtual 83, 3) := by decide +kernel
theorem dX1_readStatement_135 : decode cX1_readStatement 135 = .ok (.ifCond .eq 10, 3) := by decide +kernel
theorem dX1_readStatement_138 : decode cX1_readStatement 138 = .ok (.aload_n 0, 1) := by decide +kernel
theorem dX1_readStatement_139 : decode cX1_readStatement 139 = .ok (.invokevirtual 110, 3) := by decide +kernel
theorem dX1_readStatement_142 : decode cX1_readStatement 142 = .ok (.goto 76, 3) := by decide +kernel
theorem dX1_readStatement_145 : decode cX1_readStatement 145 = .ok (.aload_n 0, 1) := by decide +kernel
theorem dX1_readStatement_146 : decode cX1_readStatement 146 = .ok (.ldc 113, 2) := by decide +kernel
theorem dX1_readStatement_148 : decode cX1_readStatement 148 = .ok (.invokevirtual 83, 3) := by decide +kernel
theorem dX1_readStatement_151 : decode cX1_readStatement 151 = .ok (.ifCond .eq 10, 3) := by decide +kernel
theorem dX1_readStatement_154 : decode cX1_readStatement 154 = .ok (.aload_n 0, 1) := by decide +kernel
theorem dX1_readStatement_155 : decode cX1_readStatement 155 = .ok (.invokevirtual 115, 3) := by decide +kernel
theorem dX1_readStatement_158 : decode cX1_readStatement 158 = .ok (.goto 60, 3) := by decide +kernel
theorem dX1_readStatement_161 : decode cX1_readStatement 161 = .ok (.aload_n 0, 1) := by decide +kernel
theorem dX1_readStatement_162 : decode cX1_readStatement 162 = .ok (.ldc 118, 2) := by decide +kernel
theorem dX1_readStatement_164 : decode cX1_readStatement 164 = .ok (.invokevirtual 83, 3) := by decide +kernel
theorem dX1_readStatement_167 : decode cX1_readStatement 167 = .ok (.ifCond .eq 10, 3) := by decide +kernel
theorem dX1_readStatement_170 : decode cX1_readStatement 170 = .ok (.aload_n 0, 1) := by decide +kernel
theorem dX1_readStatement_171 : decode cX1_readStatement 171 = .ok (.invokevirtual 120, 3) := by decide +kernel
theorem dX1_readStatement_174 : decode cX1_readStatement 174 = .ok (.goto 44, 3) := by decide +kernel
theorem dX1_readStatement_177 : decode cX1_readStatement 177 = .ok (.aload_n 0, 1) := by decide +kernel
theorem dX1_readStatement_178 : decode cX1_readStatement 178 = .ok (.ldc 123, 2) := by decide +kernel
theorem dX1_readStatement_180 : decode cX1_readStatement 180 = .ok (.invokevirtual 83, 3) := by decide +kernel
theorem dX1_readStatement_183 : decode cX1_readStatement 183 = .ok (.ifCond .eq 10, 3) := by decide +kernel
theorem dX1_readStatement_186 : decode cX1_readStatement 186 = .ok (.aload_n 0, 1) := by decide +kernel
theorem dX1_readStatement_187 : decode cX1_readStatement 187 = .ok (.invokevirtual 125, 3) := by decide +kernel
theorem dX1_readStatement_190 : decode cX1_readStatement 190 = .ok (.goto 28, 3) := by decide +kernel
theorem dX1_readStatement_193 : decode cX1_readStatement 193 = .ok (.aload_n 0, 1) := by decide +kernel
theorem dX1_readStatement_194 : decode cX1_readStatement 194 = .ok (.ldc 128, 2) := by decide +kernel
theorem dX1_readStatement_196 : decode cX1_readStatement 196 = .ok (.invokevirtual 83, 3) := by decide +kernel
theorem dX1_readStatement_199 : decode cX1_readStatement 199 = .ok (.ifCond .eq 10, 3) := by decide +kernel
theorem dX1_readStatement_202 : decode cX1_readStatement 202 = .ok (.aload_n 0, 1) := by decide +kernel
theorem dX1_readStatement_203 : decode cX1_readStatement 203 = .ok (.invokevirtual 130, 3) := by decide +kernel
theorem dX1_readStatement_206 : decode cX1_readStatement 206 = .ok (.goto 12, 3) := by decide +kernel
theorem dX1_readStatement_209 : decode cX1_readStatement 209 = .ok (.aload_n 0, 1) := by decide +kernel
theorem dX1_readStatement_210 : decode cX1_readStatement 210 = .ok (.iconst 1, 1) := by decide +kernel
theorem dX1_readStatement_211 : decode cX1_readStatement 211 = .ok (.aload_n 0, 1) := by decide +kernel
theorem dX1_readStatement_212 : decode cX1_readStatement 212 = .ok (.getfield 60, 3) := by decide +kernel
theorem dX1_readStatement_215 : decode cX1_readStatement 215 = .ok (.invokevirtual 56, 3) := by decide +kernel
theorem dX1_readStatement_218 : decode cX1_readStatement 218 = .ok (.return_, 1) := by decide +kernel
theorem dX1_readSettings_0 : decode cX1_readSettings 0 = .ok (.iload_n 1, 1) := by decide +kernel
theorem dX1_readSettings_1 : decode cX1_readSettings 1 = .ok (.istore_n 3, 1) := by decide +kernel
theorem dX1_readSettings_2 : decode cX1_readSettings 2 = .ok (.iload_n 3, 1) := by decide +kernel
theorem dX1_readSettings_3 : decode cX1_readSettings 3 = .ok (.iload_n 2, 1) := by decide +kernel
theorem dX1_readSettings_4 : decode cX1_readSettings 4 = .ok (.if_icmp .gt 64, 3) := by decide +kernel
theorem dX1_readSettings_7 : decode cX1_readSettings 7 = .ok (.aload_n 0, 1) := by decide +kernel
theorem dX1_readSettings_8 : decode cX1_readSettings 8 = .ok (.getfield 32, 3) := by decide +kernel
theorem dX1_readSettings_11 : decode cX1_readSettings 11 = .ok (.ifCond .ne 57, 3) := by decide +kernel
theorem dX1_readSettings_14 : decode cX1_readSettings 14 = .ok (.iload_n 3, 1) := by decide +kernel
theorem dX1_readSettings_15 : decode cX1_readSettings 15 = .ok (.bipush 6, 2) := by decide +kernel
theorem dX1_readSettings_17 : decode cX1_readSettings 17 = .ok (.if_icmp .ne 18, 3) := by decide +kernel
theorem dX1_readSettings_20 : decode cX1_readSettings 20 = .ok (.bipush 100, 2) := by decide +kernel
theorem dX1_readSettings_22 : decode cX1_readSettings 22 = .ok (.aload_n 0, 1) := by decide +kernel
theorem dX1_readSettings_23 : decode cX1_readSettings 23 = .ok (.getfield 15, 3) := by decide +kernel
theorem dX1_readSettings_26 : decode cX1_readSettings 26 = .ok (.getfield 133, 3) := by decide +kernel
theorem dX1_readSettings_29 : decode cX1_readSettings 29 = .ok (.iconst 5, 1) := by decide +kernel
theorem dX1_readSettings_30 : decode cX1_readSettings 30 = .ok (.iaload, 1) := by decide +kernel
theorem dX1_readSettings_31 : decode cX1_readSettings 31 = .ok (.isub, 1) := by decide +kernel
theorem dX1_readSettings_32 : decode cX1_readSettings 32 = .ok (.goto 8, 3) := by decide +kernel
theorem dX1_readSettings_35 : decode cX1_readSettings 35 = .ok (.getstatic 137, 3) := by decide +kernel
theorem dX1_readSettings_38 : decode cX1_readSettings 38 = .ok (.iload_n 3, 1) := by decide +kernel
theorem dX1_readSettings_39 : decode cX1_readSettings 39 = .ok (.iaload, 1) := by decide +kernel
theorem dX1_readSettings_40 : decode cX1_readSettings 40 = .ok (.istore 4, 2) := by decide +kernel
theorem dX1_readSettings_42 : decode cX1_readSettings 42 = .ok (.aload_n 0, 1) := by decide +kernel
theorem dX1_readSettings_43 : decode cX1_readSettings 43 = .ok (.getfield 15, 3) := by decide +kernel
theorem dX1_readSettings_46 : decode cX1_readSettings 46 = .ok (.getfield 133, 3) := by decide +kernel
theorem dX1_readSettings_49 : decode cX1_readSettings 49 = .ok (.iload_n 3, 1) := by decide +kernel
theorem dX1_readSettings_50 : decode cX1_readSettings 50 = .ok (.aload_n 0, 1) := by decide +kernel
theorem dX1_readSettings_51 : decode cX1_readSettings 51 = .ok (.getstatic 140, 3) := by decide +kernel
theorem dX1_readSettings_54 : decode cX1_readSettings 54 = .ok (.iload_n 3, 1) := by decide +kernel
theorem dX1_readSettings_55 : decode cX1_readSettings 55 = .ok (.iaload, 1) := by decide +kernel
theorem dX1_readSettings_56 : decode cX1_readSettings 56 = .ok (.iload 4, 2) := by decide +kernel
theorem dX1_readSettings_58 : decode cX1_readSettings 58 = .ok (.invokevirtual 87, 3) := by decide +kernel
theorem dX1_readSettings_61 : decode cX1_readSettings 61 = .ok (.iastore, 1) := by decide +kernel
theorem dX1_readSettings_62 : decode cX1_readSettings 62 = .ok (.iinc 3 1, 3) := by decide +kernel
theorem dX1_readSettings_65 : decode cX1_readSettings 65 = .ok (.goto (-63), 3) := by decide +kernel
theorem dX1_readSettings_68 : decode cX1_readSettings 68 = .ok (.return_, 1) := by decide +kernel
theorem dX1_readNozzles_0 : decode cX1_readNozzles 0 = .ok (.iconst 0, 1) := by decide +kernel
theorem dX1_readNozzles_1 : decode cX1_readNozzles 1 = .ok (.istore_n 1, 1) := by decide +kernel
theorem dX1_readNozzles_2 : decode cX1_readNozzles 2 = .ok (.iload_n 1, 1) := by decide +kernel
theorem dX1_readNozzles_3 : decode cX1_readNozzles 3 = .ok (.bipush 6, 2) := by decide +kernel
theorem dX1_readNozzles_5 : decode cX1_readNozzles 5 = .ok (.if_icmp .gt 78, 3) := by decide +kernel
theorem dX1_readNozzles_8 : decode cX1_readNozzles 8 = .ok (.aload_n 0, 1) := by decide +kernel
theorem dX1_readNozzles_9 : decode cX1_readNozzles 9 = .ok (.getfield 32, 3) := by decide +kernel
theorem dX1_readNozzles_12 : decode cX1_readNozzles 12 = .ok (.ifCond .ne 71, 3) := by decide +kernel
theorem dX1_readNozzles_15 : decode cX1_readNozzles 15 = .ok (.iload_n 1, 1) := by decide +kernel
theorem dX1_readNozzles_16 : decode cX1_readNozzles 16 = .ok (.ifCond .eq 10, 3) := by decide +kernel
theorem dX1_readNozzles_19 : decode cX1_readNozzles 19 = .ok (.aload_n 0, 1) := by decide +kernel
theorem dX1_readNozzles_20 : decode cX1_readNozzles 20 = .ok (.invokevirtual 75, 3) := by decide +kernel
theorem dX1_readNozzles_23 : decode cX1_readNozzles 23 = .ok (.ifCond .eq 60, 3) := by decide +kernel
theorem dX1_readNozzles_26 : decode cX1_readNozzles 26 = .ok (.aload_n 0, 1) := by decide +kernel
theorem dX1_readNozzles_27 : decode cX1_readNozzles 27 = .ok (.invokevirtual 75, 3) := by decide +kernel
theorem dX1_readNozzles_30 : decode cX1_readNozzles 30 = .ok (.ifCond .eq 25, 3) := by decide +kernel
theorem dX1_readNozzles_33 : decode cX1_readNozzles 33 = .ok (.aload_n 0, 1) := by decide +kernel
theorem dX1_readNozzles_34 : decode cX1_readNozzles 34 = .ok (.getfield 15, 3) := by decide +kernel
theorem dX1_readNozzles_37 : decode cX1_readNozzles 37 = .ok (.getfield 143, 3) := by decide +kernel
theorem dX1_readNozzles_40 : decode cX1_readNozzles 40 = .ok (.bipush 6, 2) := by decide +kernel
theorem dX1_readNozzles_42 : decode cX1_readNozzles 42 = .ok (.if_icmp .ne 13, 3) := by decide +kernel
theorem dX1_readNozzles_45 : decode cX1_readNozzles 45 = .ok (.aload_n 0, 1) := by decide +kernel
theorem dX1_readNozzles_46 : decode cX1_readNozzles 46 = .ok (.iconst 3, 1) := by decide +kernel
theorem dX1_readNozzles_47 : decode cX1_readNozzles 47 = .ok (.aload_n 0, 1) := by decide +kernel
theorem dX1_readNozzles_48 : decode cX1_readNozzles 48 = .ok (.getfield 29, 3) := by decide +kernel
theorem dX1_readNozzles_51 : decode cX1_readNozzles 51 = .ok (.invokevirtual 56, 3) := by decide +kernel
theorem dX1_readNozzles_54 : decode cX1_readNozzles 54 = .ok (.return_, 1) := by decide +kernel
theorem dX1_readNozzles_55 : decode cX1_readNozzles 55 = .ok (.aload_n 0, 1) := by decide +kernel
theorem dX1_readNozzles_56 : decode cX1_readNozzles 56 = .ok (.iconst 1, 1) := by decide +kernel
theorem dX1_readNozzles_57 : decode cX1_readNozzles 57 = .ok (.iconst 4, 1) := by decide +kernel
theorem dX1_readNozzles_58 : decode cX1_readNozzles 58 = .ok (.invokevirtual 87, 3) := by decide +kernel
theorem dX1_readNozzles_61 : decode cX1_readNozzles 61 = .ok (.istore_n 2, 1) := by decide +kernel
theorem dX1_readNozzles_62 : decode cX1_readNozzles 62 = .ok (.aload_n 0, 1) := by decide +kernel
theorem dX1_readNozzles_63 : decode cX1_readNozzles 63 = .ok (.getfield 32, 3) := by decide +kernel
theorem dX1_readNozzles_66 : decode cX1_readNozzles 66 = .ok (.ifCond .ne 11, 3) := by decide +kernel
theorem dX1_readNozzles_69 : decode cX1_readNozzles 69 = .ok (.aload_n 0, 1) := by decide +kernel
theorem dX1_readNozzles_70 : decode cX1_readNozzles 70 = .ok (.getfield 15, 3) := by decide +kernel
theorem dX1_readNozzles_73 : decode cX1_readNozzles 73 = .ok (.iload_n 2, 1) := by decide +kernel
theorem dX1_readNozzles_74 : decode cX1_readNozzles 74 = .ok (.invokevirtual 146, 3) := by decide +kernel
theorem dX1_readNozzles_77 : decode cX1_readNozzles 77 = .ok (.iinc 1 1, 3) := by decide +kernel
theorem dX1_readNozzles_80 : decode cX1_readNozzles 80 = .ok (.goto (-78), 3) := by decide +kernel
theorem dX1_readNozzles_83 : decode cX1_readNozzles 83 = .ok (.return_, 1) := by decide +kernel
theorem dX1_readKind_0 : decode cX1_readKind 0 = .ok (.aload_n 0, 1) := by decide +kernel
theorem dX1_readKind_1 : decode cX1_readKind 1 = .ok (.getfield 15, 3) := by decide +kernel
theorem dX1_readKind_4 : decode cX1_readKind 4 = .ok (.getfield 150, 3) := by decide +kernel
theorem dX1_readKind_7 : decode cX1_readKind 7 = .ok (.getfield 154, 3) := by decide +kernel
theorem dX1_readKind_10 : decode cX1_readKind 10 = .ok (.bipush 8, 2) := by decide +kernel
theorem dX1_readKind_12 : decode cX1_readKind 12 = .ok (.if_icmp .ne 13, 3) := by decide +kernel
theorem dX1_readKind_15 : decode cX1_readKind 15 = .ok (.aload_n 0, 1) := by decide +kernel
theorem dX1_readKind_16 : decode cX1_readKind 16 = .ok (.iconst 3, 1) := by decide +kernel
theorem dX1_readKind_17 : decode cX1_readKind 17 = .ok (.aload_n 0, 1) := by decide +kernel
theorem dX1_readKind_18 : decode cX1_readKind 18 = .ok (.getfield 60, 3) := by decide +kernel
theorem dX1_readKind_21 : decode cX1_readKind 21 = .ok (.invokevirtual 56, 3) := by decide +kernel
theorem dX1_readKind_24 : decode cX1_readKind 24 = .ok (.return_, 1) := by decide +kernel
theorem dX1_readKind_25 : decode cX1_readKind 25 = .ok (.aload_n 0, 1) := by decide +kernel
theorem dX1_readKind_26 : decode cX1_readKind 26 = .ok (.iconst 0, 1) := by decide +kernel
theorem dX1_readKind_27 : decode cX1_readKind 27 = .ok (.aload_n 0, 1) := by decide +kernel
theorem dX1_readKind_28 : decode cX1_readKind 28 = .ok (.getfield 15, 3) := by decide +kernel
theorem dX1_readKind_31 : decode cX1_readKind 31 = .ok (.getfield 143, 3) := by decide +kernel
theorem dX1_readKind_34 : decode cX1_readKind 34 = .ok (.iconst 1, 1) := by decide +kernel
theorem dX1_readKind_35 : decode cX1_readKind 35 = .ok (.isub, 1) := by decide +kernel
theorem dX1_readKind_36 : decode cX1_readKind 36 = .ok (.invokevirtual 87, 3) := by decide +kernel
theorem dX1_readKind_39 : decode cX1_readKind 39 = .ok (.istore_n 1, 1) := by decide +kernel
theorem dX1_readKind_40 : decode cX1_readKind 40 = .ok (.aload_n 0, 1) := by decide +kernel
theorem dX1_readKind_41 : decode cX1_readKind 41 = .ok (.getfield 32, 3) := by decide +kernel
theorem dX1_readKind_44 : decode cX1_readKind 44 = .ok (.ifCond .ne 14, 3) := by decide +kernel
theorem dX1_readKind_47 : decode cX1_readKind 47 = .ok (.aload_n 0, 1) := by decide +kernel
theorem dX1_readKind_48 : decode cX1_readKind 48 = .ok (.getfield 15, 3) := by decide +kernel
theorem dX1_readKind_51 : decode cX1_readKind 51 = .ok (.getfield 150, 3) := by decide +kernel
theorem dX1_readKind_54 : decode cX1_readKind 54 = .ok (.iload_n 1, 1) := by decide +kernel
theorem dX1_readKind_55 : decode cX1_readKind 55 = .ok (.invokevirtual 159, 3) := by decide +kernel
theorem dX1_readKind_58 : decode cX1_readKind 58 = .ok (.return_, 1) := by decide +kernel
theorem dX1_readFeeder_0 : decode cX1_readFeeder 0 = .ok (.aload_n 0, 1) := by decide +kernel
theorem dX1_readFeeder_1 : decode cX1_readFeeder 1 = .ok (.getfield 15, 3) := by decide +kernel
theorem dX1_readFeeder_4 : decode cX1_readFeeder 4 = .ok (.getfield 162, 3) := by decide +kernel
theorem dX1_readFeeder_7 : decode cX1_readFeeder 7 = .ok (.bipush 10, 2) := by decide +kernel
theorem dX1_readFeeder_9 : decode cX1_readFeeder 9 = .ok (.if_icmp .ne 13, 3) := by decide +kernel
theorem dX1_readFeeder_12 : decode cX1_readFeeder 12 = .ok (.aload_n 0, 1) := by decide +kernel
theorem dX1_readFeeder_13 : decode cX1_readFeeder 13 = .ok (.iconst 3, 1) := by decide +kernel
theorem dX1_readFeeder_14 : decode cX1_readFeeder 14 = .ok (.aload_n 0, 1) := by decide +kernel
theorem dX1_readFeeder_15 : decode cX1_readFeeder 15 = .ok (.getfield 60, 3) := by decide +kernel
theorem dX1_readFeeder_18 : decode cX1_readFeeder 18 = .ok (.invokevirtual 56, 3) := by decide +kernel
theorem dX1_readFeeder_21 : decode cX1_readFeeder 21 = .ok (.return_, 1) := by decide +kernel
theorem dX1_readFeeder_22 : decode cX1_readFeeder 22 = .ok (.aload_n 0, 1) := by decide +kernel
theorem dX1_readFeeder_23 : decode cX1_readFeeder 23 = .ok (.iconst 0, 1) := by decide +kernel
theorem dX1_readFeeder_24 : decode cX1_readFeeder 24 = .ok (.aload_n 0, 1) := by decide +kernel
theorem dX1_readFeeder_25 : decode cX1_readFeeder 25 = .ok (.getfield 15, 3) := by decide +kernel
theorem dX1_readFeeder_28 : decode cX1_readFeeder 28 = .ok (.getfield 150, 3) := by decide +kernel
theorem dX1_readFeeder_31 : decode cX1_readFeeder 31 = .ok (.getfield 154, 3) := by decide +kernel
theorem dX1_readFeeder_34 : decode cX1_readFeeder 34 = .ok (.iconst 1, 1) := by decide +kernel
theorem dX1_readFeeder_35 : decode cX1_readFeeder 35 = .ok (.isub, 1) := by decide +kernel
theorem dX1_readFeeder_36 : decode cX1_readFeeder 36 = .ok (.invokevirtual 87, 3) := by decide +kernel
theorem dX1_readFeeder_39 : decode cX1_readFeeder 39 = .ok (.istore_n 1, 1) := by decide +kernel
theorem dX1_readFeeder_40 : decode cX1_readFeeder 40 = .ok (.aload_n 0, 1) := by decide +kernel
theorem dX1_readFeeder_41 : decode cX1_readFeeder 41 = .ok (.getfield 32, 3) := by decide +kernel
theorem dX1_readFeeder_44 : decode cX1_readFeeder 44 = .ok (.ifCond .ne 14, 3) := by decide +kernel
theorem dX1_readFeeder_47 : decode cX1_readFeeder 47 = .ok (.aload_n 0, 1) := by decide +kernel
theorem dX1_readFeeder_48 : decode cX1_readFeeder 48 = .ok (.iconst 0, 1) := by decide +kernel
theorem dX1_readFeeder_49 : decode cX1_readFeeder 49 = .ok (.sipush 999, 3) := by decide +kernel
theorem dX1_readFeeder_52 : decode cX1_readFeeder 52 = .ok (.invokevirtual 87, 3) := by decide +kernel
theorem dX1_readFeeder_55 : decode cX1_readFeeder 55 = .ok (.goto 4, 3) := by decide +kernel
theorem dX1_readFeeder_58 : decode cX1_readFeeder 58 = .ok (.iconst 0, 1) := by decide +kernel
theorem dX1_readFeeder_59 : decode cX1_readFeeder 59 = .ok (.istore_n 2, 1) := by decide +kernel
theorem dX1_readFeeder_60 : decode cX1_readFeeder 60 = .ok (.aload_n 0, 1) := by decide +kernel
theorem dX1_readFeeder_61 : decode cX1_readFeeder 61 = .ok (.getfield 32, 3) := by decide +kernel
theorem dX1_readFeeder_64 : decode cX1_readFeeder 64 = .ok (.ifCond .ne 14, 3) := by decide +kernel
theorem dX1_readFeeder_67 : decode cX1_readFeeder 67 = .ok (.aload_n 0, 1) := by decide +kernel
theorem dX1_readFeeder_68 : decode cX1_readFeeder 68 = .ok (.iconst 0, 1) := by decide +kernel
theorem dX1_readFeeder_69 : decode cX1_readFeeder 69 = .ok (.sipush 500, 3) := by decide +kernel
theorem dX1_readFeeder_72 : decode cX1_readFeeder 72 = .ok (.invokevirtual 87, 3) := by decide +kernel
theorem dX1_readFeeder_75 : decode cX1_readFeeder 75 = .ok (.goto 4, 3) := by decide +kernel
theorem dX1_readFeeder_78 : decode cX1_readFeeder 78 = .ok (.iconst 0, 1) := by decide +kernel
theorem dX1_readFeeder_79 : decode cX1_readFeeder 79 = .ok (.istore_n 3, 1) := by decide +kernel
theorem dX1_readFeeder_80 : decode cX1_readFeeder 80 = .ok (.aload_n 0, 1) := by decide +kernel
theorem dX1_readFeeder_81 : decode cX1_readFeeder 81 = .ok (.getfield 32, 3) := by decide +kernel
theorem dX1_readFeeder_84 : decode cX1_readFeeder 84 = .ok (.ifCond .ne 13, 3) := by decide +kernel
theorem dX1_readFeeder_87 : decode cX1_readFeeder 87 = .ok (.aload_n 0, 1) := by decide +kernel
theorem dX1_readFeeder_88 : decode cX1_readFeeder 88 = .ok (.iconst 0, 1) := by decide +kernel
theorem dX1_readFeeder_89 : decode cX1_readFeeder 89 = .ok (.bipush 100, 2) := by decide +kernel
theorem dX1_readFeeder_91 : decode cX1_readFeeder 91 = .ok (.invokevirtual 87, 3) := by decide +kernel
theorem dX1_readFeeder_94 : decode cX1_readFeeder 94 = .ok (.goto 4, 3) := by decide +kernel
theorem dX1_readFeeder_97 : decode cX1_readFeeder 97 = .ok (.iconst 0, 1) := by decide +kernel
theorem dX1_readFeeder_98 : decode cX1_readFeeder 98 = .ok (.istore 4, 2) := by decide +kernel
theorem dX1_readFeeder_100 : decode cX1_readFeeder 100 = .ok (.aload_n 0, 1) := by decide +kernel
theorem dX1_readFeeder_101 : decode cX1_readFeeder 101 = .ok (.getfield 32, 3) := by decide +kernel
theorem dX1_readFeeder_104 : decode cX1_readFeeder 104 = .ok (.ifCond .ne 15, 3) := by decide +kernel
theorem dX1_readFeeder_107 : decode cX1_readFeeder 107 = .ok (.aload_n 0, 1) := by decide +kernel
theorem dX1_readFeeder_108 : decode cX1_readFeeder 108 = .ok (.getfield 15, 3) := by decide +kernel
theorem dX1_readFeeder_111 : decode cX1_readFeeder 111 = .ok (.iload_n 1, 1) := by decide +kernel
theorem dX1_readFeeder_112 : decode cX1_readFeeder 112 = .ok (.iload_n 2, 1) := by decide +kernel
theorem dX1_readFeeder_113 : decode cX1_readFeeder 113 = .ok (.iload_n 3, 1) := by decide +kernel
theorem dX1_readFeeder_114 : decode cX1_readFeeder 114 = .ok (.iload 4, 2) := by decide +kernel
theorem dX1_readFeeder_116 : decode cX1_readFeeder 116 = .ok (.invokevirtual 165, 3) := by decide +kernel
theorem dX1_readFeeder_119 : decode cX1_readFeeder 119 = .ok (.return_, 1) := by decide +kernel
theorem dX1_readSpot_0 : decode cX1_readSpot 0 = .ok (.aload_n 0, 1) := by decide +kernel
theorem dX1_readSpot_1 : decode cX1_readSpot 1 = .ok (.getfield 15, 3) := by decide +kernel
theorem dX1_readSpot_4 : decode cX1_readSpot 4 = .ok (.getfield 169, 3) := by decide +kernel
theorem dX1_readSpot_7 : decode cX1_readSpot 7 = .ok (.getfield 173, 3) := by decide +kernel
theorem dX1_readSpot_10 : decode cX1_readSpot 10 = .ok (.bipush 40, 2) := by decide +kernel
theorem dX1_readSpot_12 : decode cX1_readSpot 12 = .ok (.if_icmp .ne 13, 3) := by decide +kernel
theorem dX1_readSpot_15 : decode cX1_readSpot 15 = .ok (.aload_n 0, 1) := by decide +kernel
theorem dX1_readSpot_16 : decode cX1_readSpot 16 = .ok (.iconst 3, 1) := by decide +kernel
theorem dX1_readSpot_17 : decode cX1_readSpot 17 = .ok (.aload_n 0, 1) := by decide +kernel
theorem dX1_readSpot_18 : decode cX1_readSpot 18 = .ok (.getfield 60, 3) := by decide +kernel
theorem dX1_readSpot_21 : decode cX1_readSpot 21 = .ok (.invokevirtual 56, 3) := by decide +kernel
theorem dX1_readSpot_24 : decode cX1_readSpot 24 = .ok (.return_, 1) := by decide +kernel
theorem dX1_readSpot_25 : decode cX1_readSpot 25 = .ok (.aload_n 0, 1) := by decide +kernel
theorem dX1_readSpot_26 : decode cX1_readSpot 26 = .ok (.iconst 0, 1) := by decide +kernel
theorem dX1_readSpot_27 : decode cX1_readSpot 27 = .ok (.aload_n 0, 1) := by decide +kernel
theorem dX1_readSpot_28 : decode cX1_readSpot 28 = .ok (.getfield 15, 3) := by decide +kernel
theorem dX1_readSpot_31 : decode cX1_readSpot 31 = .ok (.getfield 150, 3) := by decide +kernel
theorem dX1_readSpot_34 : decode cX1_readSpot 34 = .ok (.getfield 154, 3) := by decide +kernel
theorem dX1_readSpot_37 : decode cX1_readSpot 37 = .ok (.iconst 1, 1) := by decide +kernel
theorem dX1_readSpot_38 : decode cX1_readSpot 38 = .ok (.isub, 1) := by decide +kernel
theorem dX1_readSpot_39 : decode cX1_readSpot 39 = .ok (.invokevirtual 87, 3) := by decide +kernel
theorem dX1_readSpot_42 : decode cX1_readSpot 42 = .ok (.istore_n 1, 1) := by decide +kernel
theorem dX1_readSpot_43 : decode cX1_readSpot 43 = .ok (.aload_n 0, 1) := by decide +kernel
theorem dX1_readSpot_44 : decode cX1_readSpot 44 = .ok (.getfield 32, 3) := by decide +kernel
theorem dX1_readSpot_47 : decode cX1_readSpot 47 = .ok (.ifCond .ne 14, 3) := by decide +kernel
theorem dX1_readSpot_50 : decode cX1_readSpot 50 = .ok (.aload_n 0, 1) := by decide +kernel
theorem dX1_readSpot_51 : decode cX1_readSpot 51 = .ok (.iconst 0, 1) := by decide +kernel
theorem dX1_readSpot_52 : decode cX1_readSpot 52 = .ok (.sipush 999, 3) := by decide +kernel
theorem dX1_readSpot_55 : decode cX1_readSpot 55 = .ok (.invokevirtual 87, 3) := by decide +kernel
theorem dX1_readSpot_58 : decode cX1_readSpot 58 = .ok (.goto 4, 3) := by decide +kernel
theorem dX1_readSpot_61 : decode cX1_readSpot 61 = .ok (.iconst 0, 1) := by decide +kernel
theorem dX1_readSpot_62 : decode cX1_readSpot 62 = .ok (.istore_n 2, 1) := by decide +kernel
theorem dX1_readSpot_63 : decode cX1_readSpot 63 = .ok (.aload_n 0, 1) := by decide +kernel
theorem dX1_readSpot_64 : decode cX1_readSpot 64 = .ok (.getfield 32, 3) := by decide +kernel
theorem dX1_readSpot_67 : decode cX1_readSpot 67 = .ok (.ifCond .ne 14, 3) := by decide +kernel
theorem dX1_readSpot_70 : decode cX1_readSpot 70 = .ok (.aload_n 0, 1) := by decide +kernel
theorem dX1_readSpot_71 : decode cX1_readSpot 71 = .ok (.iconst 0, 1) := by decide +kernel
theorem dX1_readSpot_72 : decode cX1_readSpot 72 = .ok (.sipush 999, 3) := by decide +kernel
theorem dX1_readSpot_75 : decode cX1_readSpot 75 = .ok (.invokevirtual 87, 3) := by decide +kernel
theorem dX1_readSpot_78 : decode cX1_readSpot 78 = .ok (.goto 4, 3) := by decide +kernel
theorem dX1_readSpot_81 : decode cX1_readSpot 81 = .ok (.iconst 0, 1) := by decide +kernel
theorem dX1_readSpot_82 : decode cX1_readSpot 82 = .ok (.istore_n 3, 1) := by decide +kernel
theorem dX1_readSpot_83 : decode cX1_readSpot 83 = .ok (.aload_n 0, 1) := by decide +kernel
theorem dX1_readSpot_84 : decode cX1_readSpot 84 = .ok (.getfield 32, 3) := by decide +kernel
theorem dX1_readSpot_87 : decode cX1_readSpot 87 = .ok (.ifCond .ne 16, 3) := by decide +kernel
theorem dX1_readSpot_90 : decode cX1_readSpot 90 = .ok (.aload_n 0, 1) := by decide +kernel
theorem dX1_readSpot_91 : decode cX1_readSpot 91 = .ok (.getfield 15, 3) := by decide +kernel
theorem dX1_readSpot_94 : decode cX1_readSpot 94 = .ok (.getfield 169, 3) := by decide +kernel
theorem dX1_readSpot_97 : decode cX1_readSpot 97 = .ok (.iload_n 1, 1) := by decide +kernel
theorem dX1_readSpot_98 : decode cX1_readSpot 98 = .ok (.iload_n 2, 1) := by decide +kernel
theorem dX1_readSpot_99 : decode cX1_readSpot 99 = .ok (.iload_n 3, 1) := by decide +kernel
theorem dX1_readSpot_100 : decode cX1_readSpot 100 = .ok (.invokevirtual 176, 3) := by decide +kernel
theorem dX1_readSpot_103 : decode cX1_readSpot 103 = .ok (.return_, 1) := by decide +kernel
theorem dX1_readBefore_0 : decode cX1_readBefore 0 = .ok (.aload_n 0, 1) := by decide +kernel
theorem dX1_readBefore_1 : decode cX1_readBefore 1 = .ok (.getfield 15, 3) := by decide +kernel
theorem dX1_readBefore_4 : decode cX1_readBefore 4 = .ok (.getfield 169, 3) := by decide +kernel
theorem dX1_readBefore_7 : decode cX1_readBefore 7 = .ok (.astore_n 1, 1) := by decide +kernel
theorem dX1_readBefore_8 : decode cX1_readBefore 8 = .ok (.aload_n 1, 1) := by decide +kernel
theorem dX1_readBefore_9 : decode cX1_readBefore 9 = .ok (.getfield 180, 3) := by decide +kernel
theorem dX1_readBefore_12 : decode cX1_readBefore 12 = .ok (.bipush 20, 2) := by decide +kernel
theorem dX1_readBefore_14 : decode cX1_readBefore 14 = .ok (.if_icmp .ne 13, 3) := by decide +kernel
theorem dX1_readBefore_17 : decode cX1_readBefore 17 = .ok (.aload_n 0, 1) := by decide +kernel
theorem dX1_readBefore_18 : decode cX1_readBefore 18 = .ok (.iconst 3, 1) := by decide +kernel
theorem dX1_readBefore_19 : decode cX1_readBefore 19 = .ok (.aload_n 0, 1) := by decide +kernel
theorem dX1_readBefore_20 : decode cX1_readBefore 20 = .ok (.getfield 60, 3) := by decide +kernel
theorem dX1_readBefore_23 : decode cX1_readBefore 23 = .ok (.invokevirtual 56, 3) := by decide +kernel
theorem dX1_readBefore_26 : decode cX1_readBefore 26 = .ok (.return_, 1) := by decide +kernel
theorem dX1_readBefore_27 : decode cX1_readBefore 27 = .ok (.aload_n 0, 1) := by decide +kernel
theorem dX1_readBefore_28 : decode cX1_readBefore 28 = .ok (.iconst 0, 1) := by decide +kernel
theorem dX1_readBefore_29 : decode cX1_readBefore 29 = .ok (.aload_n 1, 1) := by decide +kernel
theorem dX1_readBefore_30 : decode cX1_readBefore 30 = .ok (.getfield 173, 3) := by decide +kernel
theorem dX1_readBefore_33 : decode cX1_readBefore 33 = .ok (.iconst 1, 1) := by decide +kernel
theorem dX1_readBefore_34 : decode cX1_readBefore 34 = .ok (.isub, 1) := by decide +kernel
theorem dX1_readBefore_35 : decode cX1_readBefore 35 = .ok (.invokevirtual 87, 3) := by decide +kernel
theorem dX1_readBefore_38 : decode cX1_readBefore 38 = .ok (.istore_n 2, 1) := by decide +kernel
theorem dX1_readBefore_39 : decode cX1_readBefore 39 = .ok (.aload_n 0, 1) := by decide +kernel
theorem dX1_readBefore_40 : decode cX1_readBefore 40 = .ok (.getfield 32, 3) := by decide +kernel
theorem dX1_readBefore_43 : decode cX1_readBefore 43 = .ok (.ifCond .ne 17, 3) := by decide +kernel
theorem dX1_readBefore_46 : decode cX1_readBefore 46 = .ok (.aload_n 0, 1) := by decide +kernel
theorem dX1_readBefore_47 : decode cX1_readBefore 47 = .ok (.iconst 0, 1) := by decide +kernel
theorem dX1_readBefore_48 : decode cX1_readBefore 48 = .ok (.aload_n 1, 1) := by decide +kernel
theorem dX1_readBefore_49 : decode cX1_readBefore 49 = .ok (.getfield 173, 3) := by decide +kernel
theorem dX1_readBefore_52 : decode cX1_readBefore 52 = .ok (.iconst 1, 1) := by decide +kernel
theorem dX1_readBefore_53 : decode cX1_readBefore 53 = .ok (.isub, 1) := by decide +kernel
theorem dX1_readBefore_54 : decode cX1_readBefore 54 = .ok (.invokevirtual 87, 3) := by decide +kernel
theorem dX1_readBefore_57 : decode cX1_readBefore 57 = .ok (.goto 4, 3) := by decide +kernel
theorem dX1_readBefore_60 : decode cX1_readBefore 60 = .ok (.iconst 0, 1) := by decide +kernel
theorem dX1_readBefore_61 : decode cX1_readBefore 61 = .ok (.istore_n 3, 1) := by decide +kernel
theorem dX1_readBefore_62 : decode cX1_readBefore 62 = .ok (.aload_n 0, 1) := by decide +kernel
theorem dX1_readBefore_63 : decode cX1_readBefore 63 = .ok (.getfield 32, 3) := by decide +kernel
theorem dX1_readBefore_66 : decode cX1_readBefore 66 = .ok (.ifCond .eq 4, 3) := by decide +kernel
theorem dX1_readBefore_69 : decode cX1_readBefore 69 = .ok (.return_, 1) := by decide +kernel
theorem dX1_readBefore_70 : decode cX1_readBefore 70 = .ok (.aload_n 1, 1) := by decide +kernel
theorem dX1_readBefore_71 : decode cX1_readBefore 71 = .ok (.iload_n 2, 1) := by decide +kernel
theorem dX1_readBefore_72 : decode cX1_readBefore 72 = .ok (.iload_n 3, 1) := by decide +kernel
theorem dX1_readBefore_73 : decode cX1_readBefore 73 = .ok (.invokevirtual 183, 3) := by decide +kernel
theorem dX1_readBefore_76 : decode cX1_readBefore 76 = .ok (.ifCond .eq 15, 3) := by decide +kernel
theorem dX1_readBefore_79 : decode cX1_readBefore 79 = .ok (.aload_n 0, 1) := by decide +kernel
theorem dX1_readBefore_80 : decode cX1_readBefore 80 = .ok (.iconst 4, 1) := by decide +kernel
theorem dX1_readBefore_81 : decode cX1_readBefore 81 = .ok (.aload_n 0, 1) := by decide +kernel
theorem dX1_readBefore_82 : decode cX1_readBefore 82 = .ok (.getfield 72, 3) := by decide +kernel
theorem dX1_readBefore_85 : decode cX1_readBefore 85 = .ok (.invokevirtual 56, 3) := by decide +kernel
theorem dX1_readBefore_88 : decode cX1_readBefore 88 = .ok (.goto 19, 3) := by decide +kernel
theorem dX1_readBefore_91 : decode cX1_readBefore 91 = .ok (.aload_n 1, 1) := by decide +kernel
theorem dX1_readBefore_92 : decode cX1_readBefore 92 = .ok (.iload_n 2, 1) := by decide +kernel
theorem dX1_readBefore_93 : decode cX1_readBefore 93 = .ok (.iload_n 3, 1) := by decide +kernel
theorem dX1_readBefore_94 : decode cX1_readBefore 94 = .ok (.invokevirtual 187, 3) := by decide +kernel
theorem dX1_readBefore_97 : decode cX1_readBefore 97 = .ok (.iconst (-1), 1) := by decide +kernel
theorem dX1_readBefore_98 : decode cX1_readBefore 98 = .ok (.if_icmp .ne 9, 3) := by decide +kernel
theorem dX1_readBefore_101 : decode cX1_readBefore 101 = .ok (.aload_n 1, 1) := by decide +kernel
theorem dX1_readBefore_102 : decode cX1_readBefore 102 = .ok (.iload_n 2, 1) := by decide +kernel
theorem dX1_readBefore_103 : decode cX1_readBefore 103 = .ok (.iload_n 3, 1) := by decide +kernel
theorem dX1_readBefore_104 : decode cX1_readBefore 104 = .ok (.invokevirtual 190, 3) := by decide +kernel
theorem dX1_readBefore_107 : decode cX1_readBefore 107 = .ok (.return_, 1) := by decide +kernel
theorem dX2_init_0 : decode cX2_init 0 = .ok (.aload_n 0, 1) := by decide +kernel
theorem dX2_init_1 : decode cX2_init 1 = .ok (.invokespecial 3, 3) := by decide +kernel
theorem dX2_init_4 : decode cX2_init 4 = .ok (.aload_n 0, 1) := by decide +kernel
theorem dX2_init_5 : decode cX2_init 5 = .ok (.iconst 3, 1) := by decide +kernel
theorem dX2_init_6 : decode cX2_init 6 = .ok (.newarray .int, 2) := by decide +kernel
theorem dX2_init_8 : decode cX2_init 8 = .ok (.putfield 9, 3) := by decide +kernel
theorem dX2_init_11 : decode cX2_init 11 = .ok (.return_, 1) := by decide +kernel
theorem dX2_clear_0 : decode cX2_clear 0 = .ok (.aload_n 0, 1) := by decide +kernel
theorem dX2_clear_1 : decode cX2_clear 1 = .ok (.iload_n 1, 1) := by decide +kernel
theorem dX2_clear_2 : decode cX2_clear 2 = .ok (.putfield 15, 3) := by decide +kernel
theorem dX2_clear_5 : decode cX2_clear 5 = .ok (.aload_n 0, 1) := by decide +kernel
theorem dX2_clear_6 : decode cX2_clear 6 = .ok (.iload_n 2, 1) := by decide +kernel
theorem dX2_clear_7 : decode cX2_clear 7 = .ok (.putfield 19, 3) := by decide +kernel
theorem dX2_clear_10 : decode cX2_clear 10 = .ok (.aload_n 0, 1) := by decide +kernel
theorem dX2_clear_11 : decode cX2_clear 11 = .ok (.iload_n 3, 1) := by decide +kernel
theorem dX2_clear_12 : decode cX2_clear 12 = .ok (.putfield 22, 3) := by decide +kernel
theorem dX2_clear_15 : decode cX2_clear 15 = .ok (.aload_n 0, 1) := by decide +kernel
theorem dX2_clear_16 : decode cX2_clear 16 = .ok (.iload 4, 2) := by decide +kernel
theorem dX2_clear_18 : decode cX2_clear 18 = .ok (.putfield 25, 3) := by decide +kernel
theorem dX2_clear_21 : decode cX2_clear 21 = .ok (.aload_n 0, 1) := by decide +kernel
theorem dX2_clear_22 : decode cX2_clear 22 = .ok (.iconst 0, 1) := by decide +kernel
theorem dX2_clear_23 : decode cX2_clear 23 = .ok (.putfield 28, 3) := by decide +kernel
theorem dX2_clear_26 : decode cX2_clear 26 = .ok (.aload_n 0, 1) := by decide +kernel
theorem dX2_clear_27 : decode cX2_clear 27 = .ok (.iconst 0, 1) := by decide +kernel
theorem dX2_clear_28 : decode cX2_clear 28 = .ok (.putfield 31, 3) := by decide +kernel
theorem dX2_clear_31 : decode cX2_clear 31 = .ok (.aload_n 0, 1) := by decide +kernel
theorem dX2_clear_32 : decode cX2_clear 32 = .ok (.iconst 0, 1) := by decide +kernel
theorem dX2_clear_33 : decode cX2_clear 33 = .ok (.putfield 34, 3) := by decide +kernel
theorem dX2_clear_36 : decode cX2_clear 36 = .ok (.aload_n 0, 1) := by decide +kernel
theorem dX2_clear_37 : decode cX2_clear 37 = .ok (.iconst 0, 1) := by decide +kernel
theorem dX2_clear_38 : decode cX2_clear 38 = .ok (.putfield 37, 3) := by decide +kernel
theorem dX2_clear_41 : decode cX2_clear 41 = .ok (.return_, 1) := by decide +kernel
theorem dX2_copyFrom_0 : decode cX2_copyFrom 0 = .ok (.aload_n 0, 1) := by decide +kernel
theorem dX2_copyFrom_1 : decode cX2_copyFrom 1 = .ok (.aload_n 1, 1) := by decide +kernel
theorem dX2_copyFrom_2 : decode cX2_copyFrom 2 = .ok (.getfield 15, 3) := by decide +kernel
theorem dX2_copyFrom_5 : decode cX2_copyFrom 5 = .ok (.putfield 15, 3) := by decide +kernel
theorem dX2_copyFrom_8 : decode cX2_copyFrom 8 = .ok (.aload_n 0, 1) := by decide +kernel
theorem dX2_copyFrom_9 : decode cX2_copyFrom 9 = .ok (.aload_n 1, 1) := by decide +kernel
theorem dX2_copyFrom_10 : decode cX2_copyFrom 10 = .ok (.getfield 19, 3) := by decide +kernel
theorem dX2_copyFrom_13 : decode cX2_copyFrom 13 = .ok (.putfield 19, 3) := by decide +kernel
theorem dX2_copyFrom_16 : decode cX2_copyFrom 16 = .ok (.aload_n 0, 1) := by decide +kernel
theorem dX2_copyFrom_17 : decode cX2_copyFrom 17 = .ok (.aload_n 1, 1) := by decide +kernel
theorem dX2_copyFrom_18 : decode cX2_copyFrom 18 = .ok (.getfield 22, 3) := by decide +kernel
theorem dX2_copyFrom_21 : decode cX2_copyFrom 21 = .ok (.putfield 22, 3) := by decide +kernel
theorem dX2_copyFrom_24 : decode cX2_copyFrom 24 = .ok (.aload_n 0, 1) := by decide +kernel
theorem dX2_copyFrom_25 : decode cX2_copyFrom 25 = .ok (.aload_n 1, 1) := by decide +kernel
theorem dX2_copyFrom_26 : decode cX2_copyFrom 26 = .ok (.getfield 25, 3) := by decide +kernel
theorem dX2_copyFrom_29 : decode cX2_copyFrom 29 = .ok (.putfield 25, 3) := by decide +kernel
theorem dX2_copyFrom_32 : decode cX2_copyFrom 32 = .ok (.aload_n 0, 1) := by decide +kernel
theorem dX2_copyFrom_33 : decode cX2_copyFrom 33 = .ok (.aload_n 1, 1) := by decide +kernel
theorem dX2_copyFrom_34 : decode cX2_copyFrom 34 = .ok (.getfield 28, 3) := by decide +kernel
theorem dX2_copyFrom_37 : decode cX2_copyFrom 37 = .ok (.putfield 28, 3) := by decide +kernel
theorem dX2_copyFrom_40 : decode cX2_copyFrom 40 = .ok (.aload_n 1, 1) := by decide +kernel
theorem dX2_copyFrom_41 : decode cX2_copyFrom 41 = .ok (.getfield 9, 3) := by decide +kernel
theorem dX2_copyFrom_44 : decode cX2_copyFrom 44 = .ok (.iconst 0, 1) := by decide +kernel
theorem dX2_copyFrom_45 : decode cX2_copyFrom 45 = .ok (.aload_n 0, 1) := by decide +kernel
theorem dX2_copyFrom_46 : decode cX2_copyFrom 46 = .ok (.getfield 9, 3) := by decide +kernel
theorem dX2_copyFrom_49 : decode cX2_copyFrom 49 = .ok (.iconst 0, 1) := by decide +kernel
theorem dX2_copyFrom_50 : decode cX2_copyFrom 50 = .ok (.iconst 3, 1) := by decide +kernel
theorem dX2_copyFrom_51 : decode cX2_copyFrom 51 = .ok (.invokestatic 41, 3) := by decide +kernel
theorem dX2_copyFrom_54 : decode cX2_copyFrom 54 = .ok (.aload_n 0, 1) := by decide +kernel
theorem dX2_copyFrom_55 : decode cX2_copyFrom 55 = .ok (.aload_n 1, 1) := by decide +kernel
theorem dX2_copyFrom_56 : decode cX2_copyFrom 56 = .ok (.getfield 31, 3) := by decide +kernel
theorem dX2_copyFrom_59 : decode cX2_copyFrom 59 = .ok (.putfield 31, 3) := by decide +kernel
theorem dX2_copyFrom_62 : decode cX2_copyFrom 62 = .ok (.aload_n 0, 1) := by decide +kernel
theorem dX2_copyFrom_63 : decode cX2_copyFrom 63 = .ok (.aload_n 1, 1) := by decide +kernel
theorem dX2_copyFrom_64 : decode cX2_copyFrom 64 = .ok (.getfield 34, 3) := by decide +kernel
theorem dX2_copyFrom_67 : decode cX2_copyFrom 67 = .ok (.putfield 34, 3) := by decide +kernel
theorem dX2_copyFrom_70 : decode cX2_copyFrom 70 = .ok (.aload_n 0, 1) := by decide +kernel
theorem dX2_copyFrom_71 : decode cX2_copyFrom 71 = .ok (.aload_n 1, 1) := by decide +kernel
theorem dX2_copyFrom_72 : decode cX2_copyFrom 72 = .ok (.getfield 37, 3) := by decide +kernel
theorem dX2_copyFrom_75 : decode cX2_copyFrom 75 = .ok (.putfield 37, 3) := by decide +kernel
theorem dX2_copyFrom_78 : decode cX2_copyFrom 78 = .ok (.return_, 1) := by decide +kernel
theorem dX2_valueOf_0 : decode cX2_valueOf 0 = .ok (.iload_n 1, 1) := by decide +kernel
theorem dX2_valueOf_1 : decode cX2_valueOf 1 = .ok (.tableswitch 78 0 6 #[43, 48, 53, 58, 63, 68, 73], 43) := by decide +kernel
theorem dX2_valueOf_44 : decode cX2_valueOf 44 = .ok (.aload_n 0, 1) := by decide +kernel
theorem dX2_valueOf_45 : decode cX2_valueOf 45 = .ok (.getfield 15, 3) := by decide +kernel
theorem dX2_valueOf_48 : decode cX2_valueOf 48 = .ok (.ireturn, 1) := by decide +kernel
theorem dX2_valueOf_49 : decode cX2_valueOf 49 = .ok (.aload_n 0, 1) := by decide +kernel
theorem dX2_valueOf_50 : decode cX2_valueOf 50 = .ok (.getfield 19, 3) := by decide +kernel
theorem dX2_valueOf_53 : decode cX2_valueOf 53 = .ok (.ireturn, 1) := by decide +kernel
theorem dX2_valueOf_54 : decode cX2_valueOf 54 = .ok (.aload_n 0, 1) := by decide +kernel
theorem dX2_valueOf_55 : decode cX2_valueOf 55 = .ok (.getfield 22, 3) := by decide +kernel
theorem dX2_valueOf_58 : decode cX2_valueOf 58 = .ok (.ireturn, 1) := by decide +kernel
theorem dX2_valueOf_59 : decode cX2_valueOf 59 = .ok (.aload_n 0, 1) := by decide +kernel
theorem dX2_valueOf_60 : decode cX2_valueOf 60 = .ok (.getfield 25, 3) := by decide +kernel
theorem dX2_valueOf_63 : decode cX2_valueOf 63 = .ok (.ireturn, 1) := by decide +kernel
theorem dX2_valueOf_64 : decode cX2_valueOf 64 = .ok (.aload_n 0, 1) := by decide +kernel
theorem dX2_valueOf_65 : decode cX2_valueOf 65 = .ok (.getfield 28, 3) := by decide +kernel
theorem dX2_valueOf_68 : decode cX2_valueOf 68 = .ok (.ireturn, 1) := by decide +kernel
theorem dX2_valueOf_69 : decode cX2_valueOf 69 = .ok (.aload_n 0, 1) := by decide +kernel
theorem dX2_valueOf_70 : decode cX2_valueOf 70 = .ok (.getfield 31, 3) := by decide +kernel
theorem dX2_valueOf_73 : decode cX2_valueOf 73 = .ok (.ireturn, 1) := by decide +kernel
theorem dX2_valueOf_74 : decode cX2_valueOf 74 = .ok (.aload_n 0, 1) := by decide +kernel
theorem dX2_valueOf_75 : decode cX2_valueOf 75 = .ok (.getfield 34, 3) := by decide +kernel
theorem dX2_valueOf_78 : decode cX2_valueOf 78 = .ok (.ireturn, 1) := by decide +kernel
theorem dX2_valueOf_79 : decode cX2_valueOf 79 = .ok (.aload_n 0, 1) := by decide +kernel
theorem dX2_valueOf_80 : decode cX2_valueOf 80 = .ok (.getfield 37, 3) := by decide +kernel
theorem dX2_valueOf_83 : decode cX2_valueOf 83 = .ok (.ifCond .eq 7, 3) := by decide +kernel
theorem dX2_valueOf_86 : decode cX2_valueOf 86 = .ok (.iconst 1, 1) := by decide +kernel
theorem dX2_valueOf_87 : decode cX2_valueOf 87 = .ok (.goto 4, 3) := by decide +kernel
theorem dX2_valueOf_90 : decode cX2_valueOf 90 = .ok (.iconst 0, 1) := by decide +kernel
theorem dX2_valueOf_91 : decode cX2_valueOf 91 = .ok (.ireturn, 1) := by decide +kernel
theorem dX2_addReel_0 : decode cX2_addReel 0 = .ok (.aload_n 0, 1) := by decide +kernel
theorem dX2_addReel_1 : decode cX2_addReel 1 = .ok (.getfield 28, 3) := by decide +kernel
theorem dX2_addReel_4 : decode cX2_addReel 4 = .ok (.iconst 3, 1) := by decide +kernel
theorem dX2_addReel_5 : decode cX2_addReel 5 = .ok (.if_icmp .ge 23, 3) := by decide +kernel
theorem dX2_addReel_8 : decode cX2_addReel 8 = .ok (.aload_n 0, 1) := by decide +kernel
theorem dX2_addReel_9 : decode cX2_addReel 9 = .ok (.getfield 9, 3) := by decide +kernel
theorem dX2_addReel_12 : decode cX2_addReel 12 = .ok (.aload_n 0, 1) := by decide +kernel
theorem dX2_addReel_13 : decode cX2_addReel 13 = .ok (.getfield 28, 3) := by decide +kernel
theorem dX2_addReel_16 : decode cX2_addReel 16 = .ok (.iload_n 1, 1) := by decide +kernel
theorem dX2_addReel_17 : decode cX2_addReel 17 = .ok (.iastore, 1) := by decide +kernel
theorem dX2_addReel_18 : decode cX2_addReel 18 = .ok (.aload_n 0, 1) := by decide +kernel
theorem dX2_addReel_19 : decode cX2_addReel 19 = .ok (.dup, 1) := by decide +kernel
theorem dX2_addReel_20 : decode cX2_addReel 20 = .ok (.getfield 28, 3) := by decide +kernel
theorem dX2_addReel_23 : decode cX2_addReel 23 = .ok (.iconst 1, 1) := by decide +kernel
theorem dX2_addReel_24 : decode cX2_addReel 24 = .ok (.iadd, 1) := by decide +kernel
theorem dX2_addReel_25 : decode cX2_addReel 25 = .ok (.putfield 28, 3) := by decide +kernel
theorem dX2_addReel_28 : decode cX2_addReel 28 = .ok (.return_, 1) := by decide +kernel
theorem dX2_removeLastReel_0 : decode cX2_removeLastReel 0 = .ok (.aload_n 0, 1) := by decide +kernel
theorem dX2_removeLastReel_1 : decode cX2_removeLastReel 1 = .ok (.getfield 28, 3) := by decide +kernel
theorem dX2_removeLastReel_4 : decode cX2_removeLastReel 4 = .ok (.ifCond .gt 5, 3) := by decide +kernel
theorem dX2_removeLastReel_7 : decode cX2_removeLastReel 7 = .ok (.iconst 0, 1) := by decide +kernel
theorem dX2_removeLastReel_8 : decode cX2_removeLastReel 8 = .ok (.ireturn, 1) := by decide +kernel
theorem dX2_removeLastReel_9 : decode cX2_removeLastReel 9 = .ok (.aload_n 0, 1) := by decide +kernel
theorem dX2_removeLastReel_10 : decode cX2_removeLastReel 10 = .ok (.dup, 1) := by decide +kernel
theorem dX2_removeLastReel_11 : decode cX2_removeLastReel 11 = .ok (.getfield 28, 3) := by decide +kernel
theorem dX2_removeLastReel_14 : decode cX2_removeLastReel 14 = .ok (.iconst 1, 1) := by decide +kernel
theorem dX2_removeLastReel_15 : decode cX2_removeLastReel 15 = .ok (.isub, 1) := by decide +kernel
theorem dX2_removeLastReel_16 : decode cX2_removeLastReel 16 = .ok (.putfield 28, 3) := by decide +kernel
theorem dX2_removeLastReel_19 : decode cX2_removeLastReel 19 = .ok (.aload_n 0, 1) := by decide +kernel
theorem dX2_removeLastReel_20 : decode cX2_removeLastReel 20 = .ok (.getfield 9, 3) := by decide +kernel
theorem dX2_removeLastReel_23 : decode cX2_removeLastReel 23 = .ok (.aload_n 0, 1) := by decide +kernel
theorem dX2_removeLastReel_24 : decode cX2_removeLastReel 24 = .ok (.getfield 28, 3) := by decide +kernel
theorem dX2_removeLastReel_27 : decode cX2_removeLastReel 27 = .ok (.iaload, 1) := by decide +kernel
theorem dX2_removeLastReel_28 : decode cX2_removeLastReel 28 = .ok (.ireturn, 1) := by decide +kernel
theorem dX2_spliceIfEmpty_0 : decode cX2_spliceIfEmpty 0 = .ok (.iconst 0, 1) := by decide +kernel
theorem dX2_spliceIfEmpty_1 : decode cX2_spliceIfEmpty 1 = .ok (.istore_n 1, 1) := by decide +kernel
theorem dX2_spliceIfEmpty_2 : decode cX2_spliceIfEmpty 2 = .ok (.aload_n 0, 1) := by decide +kernel
theorem dX2_spliceIfEmpty_3 : decode cX2_spliceIfEmpty 3 = .ok (.getfield 22, 3) := by decide +kernel
theorem dX2_spliceIfEmpty_6 : decode cX2_spliceIfEmpty 6 = .ok (.ifCond .ne 58, 3) := by decide +kernel
theorem dX2_spliceIfEmpty_9 : decode cX2_spliceIfEmpty 9 = .ok (.aload_n 0, 1) := by decide +kernel
theorem dX2_spliceIfEmpty_10 : decode cX2_spliceIfEmpty 10 = .ok (.getfield 28, 3) := by decide +kernel
theorem dX2_spliceIfEmpty_13 : decode cX2_spliceIfEmpty 13 = .ok (.ifCond .le 51, 3) := by decide +kernel
theorem dX2_spliceIfEmpty_16 : decode cX2_spliceIfEmpty 16 = .ok (.aload_n 0, 1) := by decide +kernel
theorem dX2_spliceIfEmpty_17 : decode cX2_spliceIfEmpty 17 = .ok (.aload_n 0, 1) := by decide +kernel
theorem dX2_spliceIfEmpty_18 : decode cX2_spliceIfEmpty 18 = .ok (.getfield 9, 3) := by decide +kernel
theorem dX2_spliceIfEmpty_21 : decode cX2_spliceIfEmpty 21 = .ok (.iconst 0, 1) := by decide +kernel
theorem dX2_spliceIfEmpty_22 : decode cX2_spliceIfEmpty 22 = .ok (.iaload, 1) := by decide +kernel
theorem dX2_spliceIfEmpty_23 : decode cX2_spliceIfEmpty 23 = .ok (.putfield 22, 3) := by decide +kernel
theorem dX2_spliceIfEmpty_26 : decode cX2_spliceIfEmpty 26 = .ok (.aload_n 0, 1) := by decide +kernel
theorem dX2_spliceIfEmpty_27 : decode cX2_spliceIfEmpty 27 = .ok (.dup, 1) := by decide +kernel
theorem dX2_spliceIfEmpty_28 : decode cX2_spliceIfEmpty 28 = .ok (.getfield 28, 3) := by decide +kernel
theorem dX2_spliceIfEmpty_31 : decode cX2_spliceIfEmpty 31 = .ok (.iconst 1, 1) := by decide +kernel
theorem dX2_spliceIfEmpty_32 : decode cX2_spliceIfEmpty 32 = .ok (.isub, 1) := by decide +kernel
theorem dX2_spliceIfEmpty_33 : decode cX2_spliceIfEmpty 33 = .ok (.putfield 28, 3) := by decide +kernel
theorem dX2_spliceIfEmpty_36 : decode cX2_spliceIfEmpty 36 = .ok (.aload_n 0, 1) := by decide +kernel
theorem dX2_spliceIfEmpty_37 : decode cX2_spliceIfEmpty 37 = .ok (.getfield 9, 3) := by decide +kernel
theorem dX2_spliceIfEmpty_40 : decode cX2_spliceIfEmpty 40 = .ok (.iconst 1, 1) := by decide +kernel
theorem dX2_spliceIfEmpty_41 : decode cX2_spliceIfEmpty 41 = .ok (.aload_n 0, 1) := by decide +kernel
theorem dX2_spliceIfEmpty_42 : decode cX2_spliceIfEmpty 42 = .ok (.getfield 9, 3) := by decide +kernel
theorem dX2_spliceIfEmpty_45 : decode cX2_spliceIfEmpty 45 = .ok (.iconst 0, 1) := by decide +kernel
theorem dX2_spliceIfEmpty_46 : decode cX2_spliceIfEmpty 46 = .ok (.aload_n 0, 1) := by decide +kernel
theorem dX2_spliceIfEmpty_47 : decode cX2_spliceIfEmpty 47 = .ok (.getfield 28, 3) := by decide +kernel
theorem dX2_spliceIfEmpty_50 : decode cX2_spliceIfEmpty 50 = .ok (.invokestatic 41, 3) := by decide +kernel
theorem dX2_spliceIfEmpty_53 : decode cX2_spliceIfEmpty 53 = .ok (.aload_n 0, 1) := by decide +kernel
theorem dX2_spliceIfEmpty_54 : decode cX2_spliceIfEmpty 54 = .ok (.iconst 1, 1) := by decide +kernel
theorem dX2_spliceIfEmpty_55 : decode cX2_spliceIfEmpty 55 = .ok (.putfield 37, 3) := by decide +kernel
theorem dX2_spliceIfEmpty_58 : decode cX2_spliceIfEmpty 58 = .ok (.iinc 1 1, 3) := by decide +kernel
theorem dX2_spliceIfEmpty_61 : decode cX2_spliceIfEmpty 61 = .ok (.goto (-59), 3) := by decide +kernel
theorem dX2_spliceIfEmpty_64 : decode cX2_spliceIfEmpty 64 = .ok (.iload_n 1, 1) := by decide +kernel
theorem dX2_spliceIfEmpty_65 : decode cX2_spliceIfEmpty 65 = .ok (.ireturn, 1) := by decide +kernel
theorem dX2_allParts_0 : decode cX2_allParts 0 = .ok (.aload_n 0, 1) := by decide +kernel
theorem dX2_allParts_1 : decode cX2_allParts 1 = .ok (.getfield 22, 3) := by decide +kernel
theorem dX2_allParts_4 : decode cX2_allParts 4 = .ok (.istore_n 1, 1) := by decide +kernel
theorem dX2_allParts_5 : decode cX2_allParts 5 = .ok (.iconst 0, 1) := by decide +kernel
theorem dX2_allParts_6 : decode cX2_allParts 6 = .ok (.istore_n 2, 1) := by decide +kernel
theorem dX2_allParts_7 : decode cX2_allParts 7 = .ok (.iload_n 2, 1) := by decide +kernel
theorem dX2_allParts_8 : decode cX2_allParts 8 = .ok (.aload_n 0, 1) := by decide +kernel
theorem dX2_allParts_9 : decode cX2_allParts 9 = .ok (.getfield 28, 3) := by decide +kernel
theorem dX2_allParts_12 : decode cX2_allParts 12 = .ok (.if_icmp .ge 18, 3) := by decide +kernel
theorem dX2_allParts_15 : decode cX2_allParts 15 = .ok (.iload_n 1, 1) := by decide +kernel
theorem dX2_allParts_16 : decode cX2_allParts 16 = .ok (.aload_n 0, 1) := by decide +kernel
theorem dX2_allParts_17 : decode cX2_allParts 17 = .ok (.getfield 9, 3) := by decide +kernel
theorem dX2_allParts_20 : decode cX2_allParts 20 = .ok (.iload_n 2, 1) := by decide +kernel
theorem dX2_allParts_21 : decode cX2_allParts 21 = .ok (.iaload, 1) := by decide +kernel
theorem dX2_allParts_22 : decode cX2_allParts 22 = .ok (.iadd, 1) := by decide +kernel
theorem dX2_allParts_23 : decode cX2_allParts 23 = .ok (.istore_n 1, 1) := by decide +kernel
theorem dX2_allParts_24 : decode cX2_allParts 24 = .ok (.iinc 2 1, 3) := by decide +kernel
theorem dX2_allParts_27 : decode cX2_allParts 27 = .ok (.goto (-20), 3) := by decide +kernel
theorem dX2_allParts_30 : decode cX2_allParts 30 = .ok (.iload_n 1, 1) := by decide +kernel
theorem dX2_allParts_31 : decode cX2_allParts 31 = .ok (.ireturn, 1) := by decide +kernel
theorem dX3_init_0 : decode cX3_init 0 = .ok (.aload_n 0, 1) := by decide +kernel
theorem dX3_init_1 : decode cX3_init 1 = .ok (.invokespecial 3, 3) := by decide +kernel
theorem dX3_init_4 : decode cX3_init 4 = .ok (.aload_n 0, 1) := by decide +kernel
theorem dX3_init_5 : decode cX3_init 5 = .ok (.aload_n 1, 1) := by decide +kernel
theorem dX3_init_6 : decode cX3_init 6 = .ok (.putfield 9, 3) := by decide +kernel
theorem dX3_init_9 : decode cX3_init 9 = .ok (.aload_n 0, 1) := by decide +kernel
theorem dX3_init_10 : decode cX3_init 10 = .ok (.aload_n 2, 1) := by decide +kernel
theorem dX3_init_11 : decode cX3_init 11 = .ok (.putfield 15, 3) := by decide +kernel
theorem dX3_init_14 : decode cX3_init 14 = .ok (.aload_n 0, 1) := by decide +kernel
theorem dX3_init_15 : decode cX3_init 15 = .ok (.new 18, 3) := by decide +kernel
theorem dX3_init_18 : decode cX3_init 18 = .ok (.dup, 1) := by decide +kernel
theorem dX3_init_19 : decode cX3_init 19 = .ok (.aload_n 2, 1) := by decide +kernel
theorem dX3_init_20 : decode cX3_init 20 = .ok (.invokespecial 20, 3) := by decide +kernel
theorem dX3_init_23 : decode cX3_init 23 = .ok (.putfield 23, 3) := by decide +kernel
theorem dX3_init_26 : decode cX3_init 26 = .ok (.return_, 1) := by decide +kernel
theorem dX3_begin_0 : decode cX3_begin 0 = .ok (.aload_n 0, 1) := by decide +kernel
theorem dX3_begin_1 : decode cX3_begin 1 = .ok (.getfield 15, 3) := by decide +kernel
theorem dX3_begin_4 : decode cX3_begin 4 = .ok (.aload_n 0, 1) := by decide +kernel
theorem dX3_begin_5 : decode cX3_begin 5 = .ok (.getfield 9, 3) := by decide +kernel
theorem dX3_begin_8 : decode cX3_begin 8 = .ok (.invokevirtual 27, 3) := by decide +kernel
theorem dX3_begin_11 : decode cX3_begin 11 = .ok (.return_, 1) := by decide +kernel
theorem dX3_goOn_0 : decode cX3_goOn 0 = .ok (.aload_n 0, 1) := by decide +kernel
theorem dX3_goOn_1 : decode cX3_goOn 1 = .ok (.iconst 0, 1) := by decide +kernel
theorem dX3_goOn_2 : decode cX3_goOn 2 = .ok (.putfield 32, 3) := by decide +kernel
theorem dX3_goOn_5 : decode cX3_goOn 5 = .ok (.aload_n 0, 1) := by decide +kernel
theorem dX3_goOn_6 : decode cX3_goOn 6 = .ok (.getfield 23, 3) := by decide +kernel
theorem dX3_goOn_9 : decode cX3_goOn 9 = .ok (.invokevirtual 36, 3) := by decide +kernel
theorem dX3_goOn_12 : decode cX3_goOn 12 = .ok (.istore_n 1, 1) := by decide +kernel
theorem dX3_goOn_13 : decode cX3_goOn 13 = .ok (.iload_n 1, 1) := by decide +kernel
theorem dX3_goOn_14 : decode cX3_goOn 14 = .ok (.ifCond .eq 63, 3) := by decide +kernel
theorem dX3_goOn_17 : decode cX3_goOn 17 = .ok (.aload_n 0, 1) := by decide +kernel
theorem dX3_goOn_18 : decode cX3_goOn 18 = .ok (.getfield 32, 3) := by decide +kernel
theorem dX3_goOn_21 : decode cX3_goOn 21 = .ok (.sipush 1000, 3) := by decide +kernel
theorem dX3_goOn_24 : decode cX3_goOn 24 = .ok (.if_icmp .ge 53, 3) := by decide +kernel
theorem dX3_goOn_27 : decode cX3_goOn 27 = .ok (.aload_n 0, 1) := by decide +kernel
theorem dX3_goOn_28 : decode cX3_goOn 28 = .ok (.getfield 15, 3) := by decide +kernel
theorem dX3_goOn_31 : decode cX3_goOn 31 = .ok (.aload_n 0, 1) := by decide +kernel
theorem dX3_goOn_32 : decode cX3_goOn 32 = .ok (.getfield 23, 3) := by decide +kernel
theorem dX3_goOn_35 : decode cX3_goOn 35 = .ok (.getfield 40, 3) := by decide +kernel
theorem dX3_goOn_38 : decode cX3_goOn 38 = .ok (.aload_n 0, 1) := by decide +kernel
theorem dX3_goOn_39 : decode cX3_goOn 39 = .ok (.getfield 23, 3) := by decide +kernel
theorem dX3_goOn_42 : decode cX3_goOn 42 = .ok (.getfield 43, 3) := by decide +kernel
theorem dX3_goOn_45 : decode cX3_goOn 45 = .ok (.aload_n 0, 1) := by decide +kernel
theorem dX3_goOn_46 : decode cX3_goOn 46 = .ok (.getfield 23, 3) := by decide +kernel
theorem dX3_goOn_49 : decode cX3_goOn 49 = .ok (.getfield 46, 3) := by decide +kernel
theorem dX3_goOn_52 : decode cX3_goOn 52 = .ok (.invokevirtual 49, 3) := by decide +kernel
theorem dX3_goOn_55 : decode cX3_goOn 55 = .ok (.pop, 1) := by decide +kernel
theorem dX3_goOn_56 : decode cX3_goOn 56 = .ok (.aload_n 0, 1) := by decide +kernel
theorem dX3_goOn_57 : decode cX3_goOn 57 = .ok (.dup, 1) := by decide +kernel
theorem dX3_goOn_58 : decode cX3_goOn 58 = .ok (.getfield 32, 3) := by decide +kernel
theorem dX3_goOn_61 : decode cX3_goOn 61 = .ok (.iconst 1, 1) := by decide +kernel
theorem dX3_goOn_62 : decode cX3_goOn 62 = .ok (.iadd, 1) := by decide +kernel
theorem dX3_goOn_63 : decode cX3_goOn 63 = .ok (.putfield 32, 3) := by decide +kernel
theorem dX3_goOn_66 : decode cX3_goOn 66 = .ok (.aload_n 0, 1) := by decide +kernel
theorem dX3_goOn_67 : decode cX3_goOn 67 = .ok (.getfield 23, 3) := by decide +kernel
theorem dX3_goOn_70 : decode cX3_goOn 70 = .ok (.invokevirtual 36, 3) := by decide +kernel
theorem dX3_goOn_73 : decode cX3_goOn 73 = .ok (.istore_n 1, 1) := by decide +kernel
theorem dX3_goOn_74 : decode cX3_goOn 74 = .ok (.goto (-61), 3) := by decide +kernel
theorem dX3_goOn_77 : decode cX3_goOn 77 = .ok (.aload_n 0, 1) := by decide +kernel
theorem dX3_goOn_78 : decode cX3_goOn 78 = .ok (.iload_n 1, 1) := by decide +kernel
theorem dX3_goOn_79 : decode cX3_goOn 79 = .ok (.ifCond .eq 7, 3) := by decide +kernel
theorem dX3_goOn_82 : decode cX3_goOn 82 = .ok (.iconst (-1), 1) := by decide +kernel
theorem dX3_goOn_83 : decode cX3_goOn 83 = .ok (.goto 10, 3) := by decide +kernel
theorem dX3_goOn_86 : decode cX3_goOn 86 = .ok (.aload_n 0, 1) := by decide +kernel
theorem dX3_goOn_87 : decode cX3_goOn 87 = .ok (.getfield 15, 3) := by decide +kernel
theorem dX3_goOn_90 : decode cX3_goOn 90 = .ok (.getfield 53, 3) := by decide +kernel
theorem dX3_goOn_93 : decode cX3_goOn 93 = .ok (.putfield 56, 3) := by decide +kernel
theorem dX3_goOn_96 : decode cX3_goOn 96 = .ok (.return_, 1) := by decide +kernel
theorem dX3_actionsUntilEmpty_0 : decode cX3_actionsUntilEmpty 0 = .ok (.aload_n 0, 1) := by decide +kernel
theorem dX3_actionsUntilEmpty_1 : decode cX3_actionsUntilEmpty 1 = .ok (.getfield 15, 3) := by decide +kernel
theorem dX3_actionsUntilEmpty_4 : decode cX3_actionsUntilEmpty 4 = .ok (.getfield 59, 3) := by decide +kernel
theorem dX3_actionsUntilEmpty_7 : decode cX3_actionsUntilEmpty 7 = .ok (.iload_n 1, 1) := by decide +kernel
theorem dX3_actionsUntilEmpty_8 : decode cX3_actionsUntilEmpty 8 = .ok (.aaload, 1) := by decide +kernel
theorem dX3_actionsUntilEmpty_9 : decode cX3_actionsUntilEmpty 9 = .ok (.astore_n 2, 1) := by decide +kernel
theorem dX3_actionsUntilEmpty_10 : decode cX3_actionsUntilEmpty 10 = .ok (.iconst 0, 1) := by decide +kernel
theorem dX3_actionsUntilEmpty_11 : decode cX3_actionsUntilEmpty 11 = .ok (.istore_n 3, 1) := by decide +kernel
theorem dX3_actionsUntilEmpty_12 : decode cX3_actionsUntilEmpty 12 = .ok (.iload_n 3, 1) := by decide +kernel
theorem dX3_actionsUntilEmpty_13 : decode cX3_actionsUntilEmpty 13 = .ok (.sipush 1000, 3) := by decide +kernel
theorem dX3_actionsUntilEmpty_16 : decode cX3_actionsUntilEmpty 16 = .ok (.if_icmp .gt 66, 3) := by decide +kernel
theorem dX3_actionsUntilEmpty_19 : decode cX3_actionsUntilEmpty 19 = .ok (.aload_n 2, 1) := by decide +kernel
theorem dX3_actionsUntilEmpty_20 : decode cX3_actionsUntilEmpty 20 = .ok (.getfield 63, 3) := by decide +kernel
theorem dX3_actionsUntilEmpty_23 : decode cX3_actionsUntilEmpty 23 = .ok (.ifCond .ne 12, 3) := by decide +kernel
theorem dX3_actionsUntilEmpty_26 : decode cX3_actionsUntilEmpty 26 = .ok (.aload_n 2, 1) := by decide +kernel
theorem dX3_actionsUntilEmpty_27 : decode cX3_actionsUntilEmpty 27 = .ok (.getfield 68, 3) := by decide +kernel
theorem dX3_actionsUntilEmpty_30 : decode cX3_actionsUntilEmpty 30 = .ok (.ifCond .ne 5, 3) := by decide +kernel
theorem dX3_actionsUntilEmpty_33 : decode cX3_actionsUntilEmpty 33 = .ok (.iload_n 3, 1) := by decide +kernel
theorem dX3_actionsUntilEmpty_34 : decode cX3_actionsUntilEmpty 34 = .ok (.ireturn, 1) := by decide +kernel
theorem dX3_actionsUntilEmpty_35 : decode cX3_actionsUntilEmpty 35 = .ok (.aload_n 0, 1) := by decide +kernel
theorem dX3_actionsUntilEmpty_36 : decode cX3_actionsUntilEmpty 36 = .ok (.getfield 23, 3) := by decide +kernel
theorem dX3_actionsUntilEmpty_39 : decode cX3_actionsUntilEmpty 39 = .ok (.invokevirtual 36, 3) := by decide +kernel
theorem dX3_actionsUntilEmpty_42 : decode cX3_actionsUntilEmpty 42 = .ok (.ifCond .ne 5, 3) := by decide +kernel
theorem dX3_actionsUntilEmpty_45 : decode cX3_actionsUntilEmpty 45 = .ok (.iconst (-1), 1) := by decide +kernel
theorem dX3_actionsUntilEmpty_46 : decode cX3_actionsUntilEmpty 46 = .ok (.ireturn, 1) := by decide +kernel
theorem dX3_actionsUntilEmpty_47 : decode cX3_actionsUntilEmpty 47 = .ok (.aload_n 0, 1) := by decide +kernel
theorem dX3_actionsUntilEmpty_48 : decode cX3_actionsUntilEmpty 48 = .ok (.getfield 15, 3) := by decide +kernel
theorem dX3_actionsUntilEmpty_51 : decode cX3_actionsUntilEmpty 51 = .ok (.aload_n 0, 1) := by decide +kernel
theorem dX3_actionsUntilEmpty_52 : decode cX3_actionsUntilEmpty 52 = .ok (.getfield 23, 3) := by decide +kernel
theorem dX3_actionsUntilEmpty_55 : decode cX3_actionsUntilEmpty 55 = .ok (.getfield 40, 3) := by decide +kernel
theorem dX3_actionsUntilEmpty_58 : decode cX3_actionsUntilEmpty 58 = .ok (.aload_n 0, 1) := by decide +kernel
theorem dX3_actionsUntilEmpty_59 : decode cX3_actionsUntilEmpty 59 = .ok (.getfield 23, 3) := by decide +kernel
theorem dX3_actionsUntilEmpty_62 : decode cX3_actionsUntilEmpty 62 = .ok (.getfield 43, 3) := by decide +kernel
theorem dX3_actionsUntilEmpty_65 : decode cX3_actionsUntilEmpty 65 = .ok (.aload_n 0, 1) := by decide +kernel
theorem dX3_actionsUntilEmpty_66 : decode cX3_actionsUntilEmpty 66 = .ok (.getfield 23, 3) := by decide +kernel
theorem dX3_actionsUntilEmpty_69 : decode cX3_actionsUntilEmpty 69 = .ok (.getfield 46, 3) := by decide +kernel
theorem dX3_actionsUntilEmpty_72 : decode cX3_actionsUntilEmpty 72 = .ok (.invokevirtual 49, 3) := by decide +kernel
theorem dX3_actionsUntilEmpty_75 : decode cX3_actionsUntilEmpty 75 = .ok (.pop, 1) := by decide +kernel
theorem dX3_actionsUntilEmpty_76 : decode cX3_actionsUntilEmpty 76 = .ok (.iinc 3 1, 3) := by decide +kernel
theorem dX3_actionsUntilEmpty_79 : decode cX3_actionsUntilEmpty 79 = .ok (.goto (-67), 3) := by decide +kernel
theorem dX3_actionsUntilEmpty_82 : decode cX3_actionsUntilEmpty 82 = .ok (.iconst (-1), 1) := by decide +kernel
theorem dX3_actionsUntilEmpty_83 : decode cX3_actionsUntilEmpty 83 = .ok (.ireturn, 1) := by decide +kernel
theorem dX4_init_0 : decode cX4_init 0 = .ok (.aload_n 0, 1) := by decide +kernel
theorem dX4_init_1 : decode cX4_init 1 = .ok (.invokespecial 3, 3) := by decide +kernel
theorem dX4_init_4 : decode cX4_init 4 = .ok (.aload_n 0, 1) := by decide +kernel
theorem dX4_init_5 : decode cX4_init 5 = .ok (.bipush 40, 2) := by decide +kernel
theorem dX4_init_7 : decode cX4_init 7 = .ok (.newarray .int, 2) := by decide +kernel
theorem dX4_init_9 : decode cX4_init 9 = .ok (.putfield 9, 3) := by decide +kernel
theorem dX4_init_12 : decode cX4_init 12 = .ok (.aload_n 0, 1) := by decide +kernel
theorem dX4_init_13 : decode cX4_init 13 = .ok (.bipush 40, 2) := by decide +kernel
theorem dX4_init_15 : decode cX4_init 15 = .ok (.newarray .int, 2) := by decide +kernel
theorem dX4_init_17 : decode cX4_init 17 = .ok (.putfield 15, 3) := by decide +kernel
theorem dX4_init_20 : decode cX4_init 20 = .ok (.aload_n 0, 1) := by decide +kernel
theorem dX4_init_21 : decode cX4_init 21 = .ok (.bipush 40, 2) := by decide +kernel
theorem dX4_init_23 : decode cX4_init 23 = .ok (.newarray .int, 2) := by decide +kernel
theorem dX4_init_25 : decode cX4_init 25 = .ok (.putfield 18, 3) := by decide +kernel
theorem dX4_init_28 : decode cX4_init 28 = .ok (.aload_n 0, 1) := by decide +kernel
theorem dX4_init_29 : decode cX4_init 29 = .ok (.bipush 7, 2) := by decide +kernel
theorem dX4_init_31 : decode cX4_init 31 = .ok (.newarray .int, 2) := by decide +kernel
theorem dX4_init_33 : decode cX4_init 33 = .ok (.putfield 21, 3) := by decide +kernel
theorem dX4_init_36 : decode cX4_init 36 = .ok (.aload_n 0, 1) := by decide +kernel
theorem dX4_init_37 : decode cX4_init 37 = .ok (.bipush 7, 2) := by decide +kernel
theorem dX4_init_39 : decode cX4_init 39 = .ok (.newarray .int, 2) := by decide +kernel
theorem dX4_init_41 : decode cX4_init 41 = .ok (.putfield 24, 3) := by decide +kernel
theorem dX4_init_44 : decode cX4_init 44 = .ok (.return_, 1) := by decide +kernel
theorem dX4_clear_0 : decode cX4_clear 0 = .ok (.aload_n 0, 1) := by decide +kernel
theorem dX4_clear_1 : decode cX4_clear 1 = .ok (.iconst 0, 1) := by decide +kernel
theorem dX4_clear_2 : decode cX4_clear 2 = .ok (.putfield 27, 3) := by decide +kernel
theorem dX4_clear_5 : decode cX4_clear 5 = .ok (.aload_n 0, 1) := by decide +kernel
theorem dX4_clear_6 : decode cX4_clear 6 = .ok (.iconst 0, 1) := by decide +kernel
theorem dX4_clear_7 : decode cX4_clear 7 = .ok (.putfield 31, 3) := by decide +kernel
theorem dX4_clear_10 : decode cX4_clear 10 = .ok (.aload_n 0, 1) := by decide +kernel
theorem dX4_clear_11 : decode cX4_clear 11 = .ok (.getfield 21, 3) := by decide +kernel
theorem dX4_clear_14 : decode cX4_clear 14 = .ok (.iconst 0, 1) := by decide +kernel
theorem dX4_clear_15 : decode cX4_clear 15 = .ok (.invokestatic 34, 3) := by decide +kernel
theorem dX4_clear_18 : decode cX4_clear 18 = .ok (.aload_n 0, 1) := by decide +kernel
theorem dX4_clear_19 : decode cX4_clear 19 = .ok (.getfield 24, 3) := by decide +kernel
theorem dX4_clear_22 : decode cX4_clear 22 = .ok (.iconst 0, 1) := by decide +kernel
theorem dX4_clear_23 : decode cX4_clear 23 = .ok (.invokestatic 34, 3) := by decide +kernel
theorem dX4_clear_26 : decode cX4_clear 26 = .ok (.aload_n 0, 1) := by decide +kernel
theorem dX4_clear_27 : decode cX4_clear 27 = .ok (.iconst 0, 1) := by decide +kernel
theorem dX4_clear_28 : decode cX4_clear 28 = .ok (.putfield 40, 3) := by decide +kernel
theorem dX4_clear_31 : decode cX4_clear 31 = .ok (.aload_n 0, 1) := by decide +kernel
theorem dX4_clear_32 : decode cX4_clear 32 = .ok (.iconst 0, 1) := by decide +kernel
theorem dX4_clear_33 : decode cX4_clear 33 = .ok (.putfield 43, 3) := by decide +kernel
theorem dX4_clear_36 : decode cX4_clear 36 = .ok (.return_, 1) := by decide +kernel
theorem dX4_copyFrom_0 : decode cX4_copyFrom 0 = .ok (.aload_n 0, 1) := by decide +kernel
theorem dX4_copyFrom_1 : decode cX4_copyFrom 1 = .ok (.aload_n 1, 1) := by decide +kernel
theorem dX4_copyFrom_2 : decode cX4_copyFrom 2 = .ok (.getfield 27, 3) := by decide +kernel
theorem dX4_copyFrom_5 : decode cX4_copyFrom 5 = .ok (.putfield 27, 3) := by decide +kernel
theorem dX4_copyFrom_8 : decode cX4_copyFrom 8 = .ok (.aload_n 0, 1) := by decide +kernel
theorem dX4_copyFrom_9 : decode cX4_copyFrom 9 = .ok (.aload_n 1, 1) := by decide +kernel
theorem dX4_copyFrom_10 : decode cX4_copyFrom 10 = .ok (.getfield 31, 3) := by decide +kernel
theorem dX4_copyFrom_13 : decode cX4_copyFrom 13 = .ok (.putfield 31, 3) := by decide +kernel
theorem dX4_copyFrom_16 : decode cX4_copyFrom 16 = .ok (.aload_n 1, 1) := by decide +kernel
theorem dX4_copyFrom_17 : decode cX4_copyFrom 17 = .ok (.getfield 9, 3) := by decide +kernel
theorem dX4_copyFrom_20 : decode cX4_copyFrom 20 = .ok (.iconst 0, 1) := by decide +kernel
theorem dX4_copyFrom_21 : decode cX4_copyFrom 21 = .ok (.aload_n 0, 1) := by decide +kernel
theorem dX4_copyFrom_22 : decode cX4_copyFrom 22 = .ok (.getfield 9, 3) := by decide +kernel
theorem dX4_copyFrom_25 : decode cX4_copyFrom 25 = .ok (.iconst 0, 1) := by decide +kernel
theorem dX4_copyFrom_26 : decode cX4_copyFrom 26 = .ok (.bipush 40, 2) := by decide +kernel
theorem dX4_copyFrom_28 : decode cX4_copyFrom 28 = .ok (.invokestatic 46, 3) := by decide +kernel
theorem dX4_copyFrom_31 : decode cX4_copyFrom 31 = .ok (.aload_n 1, 1) := by decide +kernel
theorem dX4_copyFrom_32 : decode cX4_copyFrom 32 = .ok (.getfield 15, 3) := by decide +kernel
theorem dX4_copyFrom_35 : decode cX4_copyFrom 35 = .ok (.iconst 0, 1) := by decide +kernel
theorem dX4_copyFrom_36 : decode cX4_copyFrom 36 = .ok (.aload_n 0, 1) := by decide +kernel
theorem dX4_copyFrom_37 : decode cX4_copyFrom 37 = .ok (.getfield 15, 3) := by decide +kernel
theorem dX4_copyFrom_40 : decode cX4_copyFrom 40 = .ok (.iconst 0, 1) := by decide +kernel
theorem dX4_copyFrom_41 : decode cX4_copyFrom 41 = .ok (.bipush 40, 2) := by decide +kernel
theorem dX4_copyFrom_43 : decode cX4_copyFrom 43 = .ok (.invokestatic 46, 3) := by decide +kernel
theorem dX4_copyFrom_46 : decode cX4_copyFrom 46 = .ok (.aload_n 1, 1) := by decide +kernel
theorem dX4_copyFrom_47 : decode cX4_copyFrom 47 = .ok (.getfield 18, 3) := by decide +kernel
theorem dX4_copyFrom_50 : decode cX4_copyFrom 50 = .ok (.iconst 0, 1) := by decide +kernel
theorem dX4_copyFrom_51 : decode cX4_copyFrom 51 = .ok (.aload_n 0, 1) := by decide +kernel
theorem dX4_copyFrom_52 : decode cX4_copyFrom 52 = .ok (.getfield 18, 3) := by decide +kernel
theorem dX4_copyFrom_55 : decode cX4_copyFrom 55 = .ok (.iconst 0, 1) := by decide +kernel
theorem dX4_copyFrom_56 : decode cX4_copyFrom 56 = .ok (.bipush 40, 2) := by decide +kernel
theorem dX4_copyFrom_58 : decode cX4_copyFrom 58 = .ok (.invokestatic 46, 3) := by decide +kernel
theorem dX4_copyFrom_61 : decode cX4_copyFrom 61 = .ok (.aload_n 1, 1) := by decide +kernel
theorem dX4_copyFrom_62 : decode cX4_copyFrom 62 = .ok (.getfield 21, 3) := by decide +kernel
theorem dX4_copyFrom_65 : decode cX4_copyFrom 65 = .ok (.iconst 0, 1) := by decide +kernel
theorem dX4_copyFrom_66 : decode cX4_copyFrom 66 = .ok (.aload_n 0, 1) := by decide +kernel
theorem dX4_copyFrom_67 : decode cX4_copyFrom 67 = .ok (.getfield 21, 3) := by decide +kernel
theorem dX4_copyFrom_70 : decode cX4_copyFrom 70 = .ok (.iconst 0, 1) := by decide +kernel
theorem dX4_copyFrom_71 : decode cX4_copyFrom 71 = .ok (.bipush 7, 2) := by decide +kernel
theorem dX4_copyFrom_73 : decode cX4_copyFrom 73 = .ok (.invokestatic 46, 3) := by decide +kernel
theorem dX4_copyFrom_76 : decode cX4_copyFrom 76 = .ok (.aload_n 1, 1) := by decide +kernel
theorem dX4_copyFrom_77 : decode cX4_copyFrom 77 = .ok (.getfield 24, 3) := by decide +kernel
theorem dX4_copyFrom_80 : decode cX4_copyFrom 80 = .ok (.iconst 0, 1) := by decide +kernel
theorem dX4_copyFrom_81 : decode cX4_copyFrom 81 = .ok (.aload_n 0, 1) := by decide +kernel
theorem dX4_copyFrom_82 : decode cX4_copyFrom 82 = .ok (.getfield 24, 3) := by decide +kernel
theorem dX4_copyFrom_85 : decode cX4_copyFrom 85 = .ok (.iconst 0, 1) := by decide +kernel
theorem dX4_copyFrom_86 : decode cX4_copyFrom 86 = .ok (.bipush 7, 2) := by decide +kernel
theorem dX4_copyFrom_88 : decode cX4_copyFrom 88 = .ok (.invokestatic 46, 3) := by decide +kernel
theorem dX4_copyFrom_91 : decode cX4_copyFrom 91 = .ok (.aload_n 0, 1) := by decide +kernel
theorem dX4_copyFrom_92 : decode cX4_copyFrom 92 = .ok (.aload_n 1, 1) := by decide +kernel
theorem dX4_copyFrom_93 : decode cX4_copyFrom 93 = .ok (.getfield 40, 3) := by decide +kernel
theorem dX4_copyFrom_96 : decode cX4_copyFrom 96 = .ok (.putfield 40, 3) := by decide +kernel
theorem dX4_copyFrom_99 : decode cX4_copyFrom 99 = .ok (.aload_n 0, 1) := by decide +kernel
theorem dX4_copyFrom_100 : decode cX4_copyFrom 100 = .ok (.aload_n 1, 1) := by decide +kernel
theorem dX4_copyFrom_101 : decode cX4_copyFrom 101 = .ok (.getfield 43, 3) := by decide +kernel
theorem dX4_copyFrom_104 : decode cX4_copyFrom 104 = .ok (.putfield 43, 3) := by decide +kernel
theorem dX4_copyFrom_107 : decode cX4_copyFrom 107 = .ok (.return_, 1) := by decide +kernel
theorem dX4_note_0 : decode cX4_note 0 = .ok (.aload_n 0, 1) := by decide +kernel
theorem dX4_note_1 : decode cX4_note 1 = .ok (.getfield 31, 3) := by decide +kernel
theorem dX4_note_4 : decode cX4_note 4 = .ok (.aload_n 0, 1) := by decide +kernel
theorem dX4_note_5 : decode cX4_note 5 = .ok (.getfield 27, 3) := by decide +kernel
theorem dX4_note_8 : decode cX4_note 8 = .ok (.iadd, 1) := by decide +kernel
theorem dX4_note_9 : decode cX4_note 9 = .ok (.bipush 40, 2) := by decide +kernel
theorem dX4_note_11 : decode cX4_note 11 = .ok (.irem, 1) := by decide +kernel
theorem dX4_note_12 : decode cX4_note 12 = .ok (.istore 4, 2) := by decide +kernel
theorem dX4_note_14 : decode cX4_note 14 = .ok (.aload_n 0, 1) := by decide +kernel
theorem dX4_note_15 : decode cX4_note 15 = .ok (.getfield 9, 3) := by decide +kernel
theorem dX4_note_18 : decode cX4_note 18 = .ok (.iload 4, 2) := by decide +kernel
theorem dX4_note_20 : decode cX4_note 20 = .ok (.iload_n 1, 1) := by decide +kernel
theorem dX4_note_21 : decode cX4_note 21 = .ok (.iastore, 1) := by decide +kernel
theorem dX4_note_22 : decode cX4_note 22 = .ok (.aload_n 0, 1) := by decide +kernel
theorem dX4_note_23 : decode cX4_note 23 = .ok (.getfield 15, 3) := by decide +kernel
theorem dX4_note_26 : decode cX4_note 26 = .ok (.iload 4, 2) := by decide +kernel
theorem dX4_note_28 : decode cX4_note 28 = .ok (.iload_n 2, 1) := by decide +kernel
theorem dX4_note_29 : decode cX4_note 29 = .ok (.iastore, 1) := by decide +kernel
theorem dX4_note_30 : decode cX4_note 30 = .ok (.aload_n 0, 1) := by decide +kernel
theorem dX4_note_31 : decode cX4_note 31 = .ok (.getfield 18, 3) := by decide +kernel
theorem dX4_note_34 : decode cX4_note 34 = .ok (.iload 4, 2) := by decide +kernel
theorem dX4_note_36 : decode cX4_note 36 = .ok (.iload_n 3, 1) := by decide +kernel
theorem dX4_note_37 : decode cX4_note 37 = .ok (.iastore, 1) := by decide +kernel
theorem dX4_note_38 : decode cX4_note 38 = .ok (.aload_n 0, 1) := by decide +kernel
theorem dX4_note_39 : decode cX4_note 39 = .ok (.getfield 27, 3) := by decide +kernel
theorem dX4_note_42 : decode cX4_note 42 = .ok (.bipush 40, 2) := by decide +kernel
theorem dX4_note_44 : decode cX4_note 44 = .ok (.if_icmp .ge 16, 3) := by decide +kernel
theorem dX4_note_47 : decode cX4_note 47 = .ok (.aload_n 0, 1) := by decide +kernel
theorem dX4_note_48 : decode cX4_note 48 = .ok (.dup, 1) := by decide +kernel
theorem dX4_note_49 : decode cX4_note 49 = .ok (.getfield 27, 3) := by decide +kernel
theorem dX4_note_52 : decode cX4_note 52 = .ok (.iconst 1, 1) := by decide +kernel
theorem dX4_note_53 : decode cX4_note 53 = .ok (.iadd, 1) := by decide +kernel
theorem dX4_note_54 : decode cX4_note 54 = .ok (.putfield 27, 3) := by decide +kernel
theorem dX4_note_57 : decode cX4_note 57 = .ok (.goto 16, 3) := by decide +kernel
theorem dX4_note_60 : decode cX4_note 60 = .ok (.aload_n 0, 1) := by decide +kernel
theorem dX4_note_61 : decode cX4_note 61 = .ok (.aload_n 0, 1) := by decide +kernel
theorem dX4_note_62 : decode cX4_note 62 = .ok (.getfield 31, 3) := by decide +kernel
theorem dX4_note_65 : decode cX4_note 65 = .ok (.iconst 1, 1) := by decide +kernel
theorem dX4_note_66 : decode cX4_note 66 = .ok (.iadd, 1) := by decide +kernel
theorem dX4_note_67 : decode cX4_note 67 = .ok (.bipush 40, 2) := by decide +kernel
theorem dX4_note_69 : decode cX4_note 69 = .ok (.irem, 1) := by decide +kernel
theorem dX4_note_70 : decode cX4_note 70 = .ok (.putfield 31, 3) := by decide +kernel
theorem dX4_note_73 : decode cX4_note 73 = .ok (.return_, 1) := by decide +kernel
theorem dX4_entry_0 : decode cX4_entry 0 = .ok (.aload_n 0, 1) := by decide +kernel
theorem dX4_entry_1 : decode cX4_entry 1 = .ok (.getfield 31, 3) := by decide +kernel
theorem dX4_entry_4 : decode cX4_entry 4 = .ok (.iload_n 1, 1) := by decide +kernel
theorem dX4_entry_5 : decode cX4_entry 5 = .ok (.iadd, 1) := by decide +kernel
theorem dX4_entry_6 : decode cX4_entry 6 = .ok (.bipush 40, 2) := by decide +kernel
theorem dX4_entry_8 : decode cX4_entry 8 = .ok (.irem, 1) := by decide +kernel
theorem dX4_entry_9 : decode cX4_entry 9 = .ok (.istore_n 3, 1) := by decide +kernel
theorem dX4_entry_10 : decode cX4_entry 10 = .ok (.iload_n 2, 1) := by decide +kernel
theorem dX4_entry_11 : decode cX4_entry 11 = .ok (.ifCond .ne 12, 3) := by decide +kernel
theorem dX4_entry_14 : decode cX4_entry 14 = .ok (.aload_n 0, 1) := by decide +kernel
theorem dX4_entry_15 : decode cX4_entry 15 = .ok (.getfield 9, 3) := by decide +kernel
theorem dX4_entry_18 : decode cX4_entry 18 = .ok (.iload_n 3, 1) := by decide +kernel
theorem dX4_entry_19 : decode cX4_entry 19 = .ok (.iaload, 1) := by decide +kernel
theorem dX4_entry_20 : decode cX4_entry 20 = .ok (.goto 23, 3) := by decide +kernel
theorem dX4_entry_23 : decode cX4_entry 23 = .ok (.iload_n 2, 1) := by decide +kernel
theorem dX4_entry_24 : decode cX4_entry 24 = .ok (.iconst 1, 1) := by decide +kernel
theorem dX4_entry_25 : decode cX4_entry 25 = .ok (.if_icmp .ne 12, 3) := by decide +kernel
theorem dX4_entry_28 : decode cX4_entry 28 = .ok (.aload_n 0, 1) := by decide +kernel
theorem dX4_entry_29 : decode cX4_entry 29 = .ok (.getfield 15, 3) := by decide +kernel
theorem dX4_entry_32 : decode cX4_entry 32 = .ok (.iload_n 3, 1) := by decide +kernel
theorem dX4_entry_33 : decode cX4_entry 33 = .ok (.iaload, 1) := by decide +kernel
theorem dX4_entry_34 : decode cX4_entry 34 = .ok (.goto 9, 3) := by decide +kernel
theorem dX4_entry_37 : decode cX4_entry 37 = .ok (.aload_n 0, 1) := by decide +kernel
theorem dX4_entry_38 : decode cX4_entry 38 = .ok (.getfield 18, 3) := by decide +kernel
theorem dX4_entry_41 : decode cX4_entry 41 = .ok (.iload_n 3, 1) := by decide +kernel
theorem dX4_entry_42 : decode cX4_entry 42 = .ok (.iaload, 1) := by decide +kernel
theorem dX4_entry_43 : decode cX4_entry 43 = .ok (.ireturn, 1) := by decide +kernel
theorem dX5_init_0 : decode cX5_init 0 = .ok (.aload_n 0, 1) := by decide +kernel
theorem dX5_init_1 : decode cX5_init 1 = .ok (.invokespecial 3, 3) := by decide +kernel
theorem dX5_init_4 : decode cX5_init 4 = .ok (.aload_n 0, 1) := by decide +kernel
theorem dX5_init_5 : decode cX5_init 5 = .ok (.bipush 8, 2) := by decide +kernel
theorem dX5_init_7 : decode cX5_init 7 = .ok (.newarray .int, 2) := by decide +kernel
theorem dX5_init_9 : decode cX5_init 9 = .ok (.putfield 9, 3) := by decide +kernel
theorem dX5_init_12 : decode cX5_init 12 = .ok (.aload_n 0, 1) := by decide +kernel
theorem dX5_init_13 : decode cX5_init 13 = .ok (.bipush 8, 2) := by decide +kernel
theorem dX5_init_15 : decode cX5_init 15 = .ok (.newarray .int, 2) := by decide +kernel
theorem dX5_init_17 : decode cX5_init 17 = .ok (.putfield 15, 3) := by decide +kernel
theorem dX5_init_20 : decode cX5_init 20 = .ok (.aload_n 0, 1) := by decide +kernel
theorem dX5_init_21 : decode cX5_init 21 = .ok (.bipush 8, 2) := by decide +kernel
theorem dX5_init_23 : decode cX5_init 23 = .ok (.newarray .int, 2) := by decide +kernel
theorem dX5_init_25 : decode cX5_init 25 = .ok (.putfield 18, 3) := by decide +kernel
theorem dX5_init_28 : decode cX5_init 28 = .ok (.aload_n 0, 1) := by decide +kernel
theorem dX5_init_29 : decode cX5_init 29 = .ok (.bipush 8, 2) := by decide +kernel
theorem dX5_init_31 : decode cX5_init 31 = .ok (.newarray .int, 2) := by decide +kernel
theorem dX5_init_33 : decode cX5_init 33 = .ok (.putfield 21, 3) := by decide +kernel
theorem dX5_init_36 : decode cX5_init 36 = .ok (.aload_n 0, 1) := by decide +kernel
theorem dX5_init_37 : decode cX5_init 37 = .ok (.bipush 8, 2) := by decide +kernel
theorem dX5_init_39 : decode cX5_init 39 = .ok (.newarray .int, 2) := by decide +kernel
theorem dX5_init_41 : decode cX5_init 41 = .ok (.putfield 24, 3) := by decide +kernel
theorem dX5_init_44 : decode cX5_init 44 = .ok (.aload_n 0, 1) := by decide +kernel
theorem dX5_init_45 : decode cX5_init 45 = .ok (.bipush 8, 2) := by decide +kernel
theorem dX5_init_47 : decode cX5_init 47 = .ok (.newarray .int, 2) := by decide +kernel
theorem dX5_init_49 : decode cX5_init 49 = .ok (.putfield 27, 3) := by decide +kernel
theorem dX5_init_52 : decode cX5_init 52 = .ok (.return_, 1) := by decide +kernel
theorem dX5_clear_0 : decode cX5_clear 0 = .ok (.aload_n 0, 1) := by decide +kernel
theorem dX5_clear_1 : decode cX5_clear 1 = .ok (.iconst 0, 1) := by decide +kernel
theorem dX5_clear_2 : decode cX5_clear 2 = .ok (.putfield 30, 3) := by decide +kernel
theorem dX5_clear_5 : decode cX5_clear 5 = .ok (.aload_n 0, 1) := by decide +kernel
theorem dX5_clear_6 : decode cX5_clear 6 = .ok (.getfield 15, 3) := by decide +kernel
theorem dX5_clear_9 : decode cX5_clear 9 = .ok (.iconst 0, 1) := by decide +kernel
theorem dX5_clear_10 : decode cX5_clear 10 = .ok (.invokestatic 34, 3) := by decide +kernel
theorem dX5_clear_13 : decode cX5_clear 13 = .ok (.aload_n 0, 1) := by decide +kernel
theorem dX5_clear_14 : decode cX5_clear 14 = .ok (.getfield 18, 3) := by decide +kernel
theorem dX5_clear_17 : decode cX5_clear 17 = .ok (.iconst 0, 1) := by decide +kernel
theorem dX5_clear_18 : decode cX5_clear 18 = .ok (.invokestatic 34, 3) := by decide +kernel
theorem dX5_clear_21 : decode cX5_clear 21 = .ok (.aload_n 0, 1) := by decide +kernel
theorem dX5_clear_22 : decode cX5_clear 22 = .ok (.getfield 21, 3) := by decide +kernel
theorem dX5_clear_25 : decode cX5_clear 25 = .ok (.iconst 0, 1) := by decide +kernel
theorem dX5_clear_26 : decode cX5_clear 26 = .ok (.invokestatic 34, 3) := by decide +kernel
theorem dX5_clear_29 : decode cX5_clear 29 = .ok (.aload_n 0, 1) := by decide +kernel
theorem dX5_clear_30 : decode cX5_clear 30 = .ok (.getfield 24, 3) := by decide +kernel
theorem dX5_clear_33 : decode cX5_clear 33 = .ok (.iconst 0, 1) := by decide +kernel
theorem dX5_clear_34 : decode cX5_clear 34 = .ok (.invokestatic 34, 3) := by decide +kernel
theorem dX5_clear_37 : decode cX5_clear 37 = .ok (.aload_n 0, 1) := by decide +kernel
theorem dX5_clear_38 : decode cX5_clear 38 = .ok (.getfield 27, 3) := by decide +kernel
theorem dX5_clear_41 : decode cX5_clear 41 = .ok (.iconst 0, 1) := by decide +kernel
theorem dX5_clear_42 : decode cX5_clear 42 = .ok (.invokestatic 34, 3) := by decide +kernel
theorem dX5_clear_45 : decode cX5_clear 45 = .ok (.return_, 1) := by decide +kernel
theorem dX5_copyFrom_0 : decode cX5_copyFrom 0 = .ok (.aload_n 0, 1) := by decide +kernel
theorem dX5_copyFrom_1 : decode cX5_copyFrom 1 = .ok (.aload_n 1, 1) := by decide +kernel
theorem dX5_copyFrom_2 : decode cX5_copyFrom 2 = .ok (.getfield 30, 3) := by decide +kernel
theorem dX5_copyFrom_5 : decode cX5_copyFrom 5 = .ok (.putfield 30, 3) := by decide +kernel
theorem dX5_copyFrom_8 : decode cX5_copyFrom 8 = .ok (.aload_n 1, 1) := by decide +kernel
theorem dX5_copyFrom_9 : decode cX5_copyFrom 9 = .ok (.getfield 9, 3) := by decide +kernel
theorem dX5_copyFrom_12 : decode cX5_copyFrom 12 = .ok (.iconst 0, 1) := by decide +kernel
theorem dX5_copyFrom_13 : decode cX5_copyFrom 13 = .ok (.aload_n 0, 1) := by decide +kernel
theorem dX5_copyFrom_14 : decode cX5_copyFrom 14 = .ok (.getfield 9, 3) := by decide +kernel
theorem dX5_copyFrom_17 : decode cX5_copyFrom 17 = .ok (.iconst 0, 1) := by decide +kernel
theorem dX5_copyFrom_18 : decode cX5_copyFrom 18 = .ok (.bipush 8, 2) := by decide +kernel
theorem dX5_copyFrom_20 : decode cX5_copyFrom 20 = .ok (.invokestatic 40, 3) := by decide +kernel
theorem dX5_copyFrom_23 : decode cX5_copyFrom 23 = .ok (.aload_n 1, 1) := by decide +kernel
theorem dX5_copyFrom_24 : decode cX5_copyFrom 24 = .ok (.getfield 15, 3) := by decide +kernel
theorem dX5_copyFrom_27 : decode cX5_copyFrom 27 = .ok (.iconst 0, 1) := by decide +kernel
theorem dX5_copyFrom_28 : decode cX5_copyFrom 28 = .ok (.aload_n 0, 1) := by decide +kernel
theorem dX5_copyFrom_29 : decode cX5_copyFrom 29 = .ok (.getfield 15, 3) := by decide +kernel
theorem dX5_copyFrom_32 : decode cX5_copyFrom 32 = .ok (.iconst 0, 1) := by decide +kernel
theorem dX5_copyFrom_33 : decode cX5_copyFrom 33 = .ok (.bipush 8, 2) := by decide +kernel
theorem dX5_copyFrom_35 : decode cX5_copyFrom 35 = .ok (.invokestatic 40, 3) := by decide +kernel
theorem dX5_copyFrom_38 : decode cX5_copyFrom 38 = .ok (.aload_n 1, 1) := by decide +kernel
theorem dX5_copyFrom_39 : decode cX5_copyFrom 39 = .ok (.getfield 18, 3) := by decide +kernel
theorem dX5_copyFrom_42 : decode cX5_copyFrom 42 = .ok (.iconst 0, 1) := by decide +kernel
theorem dX5_copyFrom_43 : decode cX5_copyFrom 43 = .ok (.aload_n 0, 1) := by decide +kernel
theorem dX5_copyFrom_44 : decode cX5_copyFrom 44 = .ok (.getfield 18, 3) := by decide +kernel
theorem dX5_copyFrom_47 : decode cX5_copyFrom 47 = .ok (.iconst 0, 1) := by decide +kernel
theorem dX5_copyFrom_48 : decode cX5_copyFrom 48 = .ok (.bipush 8, 2) := by decide +kernel
theorem dX5_copyFrom_50 : decode cX5_copyFrom 50 = .ok (.invokestatic 40, 3) := by decide +kernel
theorem dX5_copyFrom_53 : decode cX5_copyFrom 53 = .ok (.aload_n 1, 1) := by decide +kernel
theorem dX5_copyFrom_54 : decode cX5_copyFrom 54 = .ok (.getfield 21, 3) := by decide +kernel
theorem dX5_copyFrom_57 : decode cX5_copyFrom 57 = .ok (.iconst 0, 1) := by decide +kernel
theorem dX5_copyFrom_58 : decode cX5_copyFrom 58 = .ok (.aload_n 0, 1) := by decide +kernel
theorem dX5_copyFrom_59 : decode cX5_copyFrom 59 = .ok (.getfield 21, 3) := by decide +kernel
theorem dX5_copyFrom_62 : decode cX5_copyFrom 62 = .ok (.iconst 0, 1) := by decide +kernel
theorem dX5_copyFrom_63 : decode cX5_copyFrom 63 = .ok (.bipush 8, 2) := by decide +kernel
theorem dX5_copyFrom_65 : decode cX5_copyFrom 65 = .ok (.invokestatic 40, 3) := by decide +kernel
theorem dX5_copyFrom_68 : decode cX5_copyFrom 68 = .ok (.aload_n 1, 1) := by decide +kernel
theorem dX5_copyFrom_69 : decode cX5_copyFrom 69 = .ok (.getfield 24, 3) := by decide +kernel
theorem dX5_copyFrom_72 : decode cX5_copyFrom 72 = .ok (.iconst 0, 1) := by decide +kernel
theorem dX5_copyFrom_73 : decode cX5_copyFrom 73 = .ok (.aload_n 0, 1) := by decide +kernel
theorem dX5_copyFrom_74 : decode cX5_copyFrom 74 = .ok (.getfield 24, 3) := by decide +kernel
theorem dX5_copyFrom_77 : decode cX5_copyFrom 77 = .ok (.iconst 0, 1) := by decide +kernel
theorem dX5_copyFrom_78 : decode cX5_copyFrom 78 = .ok (.bipush 8, 2) := by decide +kernel
theorem dX5_copyFrom_80 : decode cX5_copyFrom 80 = .ok (.invokestatic 40, 3) := by decide +kernel
theorem dX5_copyFrom_83 : decode cX5_copyFrom 83 = .ok (.aload_n 1, 1) := by decide +kernel
theorem dX5_copyFrom_84 : decode cX5_copyFrom 84 = .ok (.getfield 27, 3) := by decide +kernel
theorem dX5_copyFrom_87 : decode cX5_copyFrom 87 = .ok (.iconst 0, 1) := by decide +kernel
theorem dX5_copyFrom_88 : decode cX5_copyFrom 88 = .ok (.aload_n 0, 1) := by decide +kernel
theorem dX5_copyFrom_89 : decode cX5_copyFrom 89 = .ok (.getfield 27, 3) := by decide +kernel
theorem dX5_copyFrom_92 : decode cX5_copyFrom 92 = .ok (.iconst 0, 1) := by decide +kernel
theorem dX5_copyFrom_93 : decode cX5_copyFrom 93 = .ok (.bipush 8, 2) := by decide +kernel
theorem dX5_copyFrom_95 : decode cX5_copyFrom 95 = .ok (.invokestatic 40, 3) := by decide +kernel
theorem dX5_copyFrom_98 : decode cX5_copyFrom 98 = .ok (.return_, 1) := by decide +kernel
theorem dX5_add_0 : decode cX5_add 0 = .ok (.aload_n 0, 1) := by decide +kernel
theorem dX5_add_1 : decode cX5_add 1 = .ok (.getfield 30, 3) := by decide +kernel
theorem dX5_add_4 : decode cX5_add 4 = .ok (.bipush 8, 2) := by decide +kernel
theorem dX5_add_6 : decode cX5_add 6 = .ok (.if_icmp .ge 23, 3) := by decide +kernel
theorem dX5_add_9 : decode cX5_add 9 = .ok (.aload_n 0, 1) := by decide +kernel
theorem dX5_add_10 : decode cX5_add 10 = .ok (.getfield 9, 3) := by decide +kernel
theorem dX5_add_13 : decode cX5_add 13 = .ok (.aload_n 0, 1) := by decide +kernel
theorem dX5_add_14 : decode cX5_add 14 = .ok (.getfield 30, 3) := by decide +kernel
theorem dX5_add_17 : decode cX5_add 17 = .ok (.iload_n 1, 1) := by decide +kernel
theorem dX5_add_18 : decode cX5_add 18 = .ok (.iastore, 1) := by decide +kernel
theorem dX5_add_19 : decode cX5_add 19 = .ok (.aload_n 0, 1) := by decide +kernel
theorem dX5_add_20 : decode cX5_add 20 = .ok (.dup, 1) := by decide +kernel
theorem dX5_add_21 : decode cX5_add 21 = .ok (.getfield 30, 3) := by decide +kernel
theorem dX5_add_24 : decode cX5_add 24 = .ok (.iconst 1, 1) := by decide +kernel
theorem dX5_add_25 : decode cX5_add 25 = .ok (.iadd, 1) := by decide +kernel
theorem dX5_add_26 : decode cX5_add 26 = .ok (.putfield 30, 3) := by decide +kernel
theorem dX5_add_29 : decode cX5_add 29 = .ok (.return_, 1) := by decide +kernel
theorem dX6_init_0 : decode cX6_init 0 = .ok (.aload_n 0, 1) := by decide +kernel
theorem dX6_init_1 : decode cX6_init 1 = .ok (.invokespecial 3, 3) := by decide +kernel
theorem dX6_init_4 : decode cX6_init 4 = .ok (.aload_n 0, 1) := by decide +kernel
theorem dX6_init_5 : decode cX6_init 5 = .ok (.bipush 15, 2) := by decide +kernel
theorem dX6_init_7 : decode cX6_init 7 = .ok (.newarray .int, 2) := by decide +kernel
theorem dX6_init_9 : decode cX6_init 9 = .ok (.putfield 9, 3) := by decide +kernel
theorem dX6_init_12 : decode cX6_init 12 = .ok (.aload_n 0, 1) := by decide +kernel
theorem dX6_init_13 : decode cX6_init 13 = .ok (.iconst 4, 1) := by decide +kernel
theorem dX6_init_14 : decode cX6_init 14 = .ok (.anewarray 15, 3) := by decide +kernel
theorem dX6_init_17 : decode cX6_init 17 = .ok (.putfield 17, 3) := by decide +kernel
theorem dX6_init_20 : decode cX6_init 20 = .ok (.aload_n 0, 1) := by decide +kernel
theorem dX6_init_21 : decode cX6_init 21 = .ok (.bipush 6, 2) := by decide +kernel
theorem dX6_init_23 : decode cX6_init 23 = .ok (.newarray .int, 2) := by decide +kernel
theorem dX6_init_25 : decode cX6_init 25 = .ok (.putfield 21, 3) := by decide +kernel
theorem dX6_init_28 : decode cX6_init 28 = .ok (.aload_n 0, 1) := by decide +kernel
theorem dX6_init_29 : decode cX6_init 29 = .ok (.new 24, 3) := by decide +kernel
theorem dX6_init_32 : decode cX6_init 32 = .ok (.dup, 1) := by decide +kernel
theorem dX6_init_33 : decode cX6_init 33 = .ok (.invokespecial 26, 3) := by decide +kernel
theorem dX6_init_36 : decode cX6_init 36 = .ok (.putfield 27, 3) := by decide +kernel
theorem dX6_init_39 : decode cX6_init 39 = .ok (.aload_n 0, 1) := by decide +kernel
theorem dX6_init_40 : decode cX6_init 40 = .ok (.bipush 10, 2) := by decide +kernel
theorem dX6_init_42 : decode cX6_init 42 = .ok (.anewarray 31, 3) := by decide +kernel
theorem dX6_init_45 : decode cX6_init 45 = .ok (.putfield 33, 3) := by decide +kernel
theorem dX6_init_48 : decode cX6_init 48 = .ok (.aload_n 0, 1) := by decide +kernel
theorem dX6_init_49 : decode cX6_init 49 = .ok (.new 37, 3) := by decide +kernel
theorem dX6_init_52 : decode cX6_init 52 = .ok (.dup, 1) := by decide +kernel
theorem dX6_init_53 : decode cX6_init 53 = .ok (.invokespecial 39, 3) := by decide +kernel
theorem dX6_init_56 : decode cX6_init 56 = .ok (.putfield 40, 3) := by decide +kernel
theorem dX6_init_59 : decode cX6_init 59 = .ok (.aload_n 0, 1) := by decide +kernel
theorem dX6_init_60 : decode cX6_init 60 = .ok (.new 44, 3) := by decide +kernel
theorem dX6_init_63 : decode cX6_init 63 = .ok (.dup, 1) := by decide +kernel
theorem dX6_init_64 : decode cX6_init 64 = .ok (.invokespecial 46, 3) := by decide +kernel
theorem dX6_init_67 : decode cX6_init 67 = .ok (.putfield 47, 3) := by decide +kernel
theorem dX6_init_70 : decode cX6_init 70 = .ok (.iconst 0, 1) := by decide +kernel
theorem dX6_init_71 : decode cX6_init 71 = .ok (.istore_n 1, 1) := by decide +kernel
theorem dX6_init_72 : decode cX6_init 72 = .ok (.iload_n 1, 1) := by decide +kernel
theorem dX6_init_73 : decode cX6_init 73 = .ok (.iconst 4, 1) := by decide +kernel
theorem dX6_init_74 : decode cX6_init 74 = .ok (.if_icmp .ge 22, 3) := by decide +kernel
theorem dX6_init_77 : decode cX6_init 77 = .ok (.aload_n 0, 1) := by decide +kernel
theorem dX6_init_78 : decode cX6_init 78 = .ok (.getfield 17, 3) := by decide +kernel
theorem dX6_init_81 : decode cX6_init 81 = .ok (.iload_n 1, 1) := by decide +kernel
theorem dX6_init_82 : decode cX6_init 82 = .ok (.new 15, 3) := by decide +kernel
theorem dX6_init_85 : decode cX6_init 85 = .ok (.dup, 1) := by decide +kernel
theorem dX6_init_86 : decode cX6_init 86 = .ok (.invokespecial 51, 3) := by decide +kernel
theorem dX6_init_89 : decode cX6_init 89 = .ok (.aastore, 1) := by decide +kernel
theorem dX6_init_90 : decode cX6_init 90 = .ok (.iinc 1 1, 3) := by decide +kernel
theorem dX6_init_93 : decode cX6_init 93 = .ok (.goto (-21), 3) := by decide +kernel
theorem dX6_init_96 : decode cX6_init 96 = .ok (.iconst 0, 1) := by decide +kernel
theorem dX6_init_97 : decode cX6_init 97 = .ok (.istore_n 1, 1) := by decide +kernel
theorem dX6_init_98 : decode cX6_init 98 = .ok (.iload_n 1, 1) := by decide +kernel
theorem dX6_init_99 : decode cX6_init 99 = .ok (.bipush 10, 2) := by decide +kernel
theorem dX6_init_101 : decode cX6_init 101 = .ok (.if_icmp .ge 22, 3) := by decide +kernel
theorem dX6_init_104 : decode cX6_init 104 = .ok (.aload_n 0, 1) := by decide +kernel
theorem dX6_init_105 : decode cX6_init 105 = .ok (.getfield 33, 3) := by decide +kernel
theorem dX6_init_108 : decode cX6_init 108 = .ok (.iload_n 1, 1) := by decide +kernel
theorem dX6_init_109 : decode cX6_init 109 = .ok (.new 31, 3) := by decide +kernel
theorem dX6_init_112 : decode cX6_init 112 = .ok (.dup, 1) := by decide +kernel
theorem dX6_init_113 : decode cX6_init 113 = .ok (.invokespecial 52, 3) := by decide +kernel
theorem dX6_init_116 : decode cX6_init 116 = .ok (.aastore, 1) := by decide +kernel
theorem dX6_init_117 : decode cX6_init 117 = .ok (.iinc 1 1, 3) := by decide +kernel
theorem dX6_init_120 : decode cX6_init 120 = .ok (.goto (-22), 3) := by decide +kernel
theorem dX6_init_123 : decode cX6_init 123 = .ok (.aload_n 0, 1) := by decide +kernel
theorem dX6_init_124 : decode cX6_init 124 = .ok (.invokevirtual 53, 3) := by decide +kernel
theorem dX6_init_127 : decode cX6_init 127 = .ok (.return_, 1) := by decide +kernel
theorem dX6_clear_0 : decode cX6_clear 0 = .ok (.getstatic 56, 3) := by decide +kernel
theorem dX6_clear_3 : decode cX6_clear 3 = .ok (.iconst 0, 1) := by decide +kernel
theorem dX6_clear_4 : decode cX6_clear 4 = .ok (.aload_n 0, 1) := by decide +kernel
theorem dX6_clear_5 : decode cX6_clear 5 = .ok (.getfield 9, 3) := by decide +kernel
theorem dX6_clear_8 : decode cX6_clear 8 = .ok (.iconst 0, 1) := by decide +kernel
theorem dX6_clear_9 : decode cX6_clear 9 = .ok (.bipush 15, 2) := by decide +kernel
theorem dX6_clear_11 : decode cX6_clear 11 = .ok (.invokestatic 59, 3) := by decide +kernel
theorem dX6_clear_14 : decode cX6_clear 14 = .ok (.aload_n 0, 1) := by decide +kernel
theorem dX6_clear_15 : decode cX6_clear 15 = .ok (.iconst 1, 1) := by decide +kernel
theorem dX6_clear_16 : decode cX6_clear 16 = .ok (.putfield 65, 3) := by decide +kernel
theorem dX6_clear_19 : decode cX6_clear 19 = .ok (.iconst 0, 1) := by decide +kernel
theorem dX6_clear_20 : decode cX6_clear 20 = .ok (.istore_n 1, 1) := by decide +kernel
theorem dX6_clear_21 : decode cX6_clear 21 = .ok (.iload_n 1, 1) := by decide +kernel
theorem dX6_clear_22 : decode cX6_clear 22 = .ok (.iconst 4, 1) := by decide +kernel
theorem dX6_clear_23 : decode cX6_clear 23 = .ok (.if_icmp .ge 18, 3) := by decide +kernel
theorem dX6_clear_26 : decode cX6_clear 26 = .ok (.aload_n 0, 1) := by decide +kernel
theorem dX6_clear_27 : decode cX6_clear 27 = .ok (.getfield 17, 3) := by decide +kernel
theorem dX6_clear_30 : decode cX6_clear 30 = .ok (.iload_n 1, 1) := by decide +kernel
theorem dX6_clear_31 : decode cX6_clear 31 = .ok (.aaload, 1) := by decide +kernel
theorem dX6_clear_32 : decode cX6_clear 32 = .ok (.invokevirtual 69, 3) := by decide +kernel
theorem dX6_clear_35 : decode cX6_clear 35 = .ok (.iinc 1 1, 3) := by decide +kernel
theorem dX6_clear_38 : decode cX6_clear 38 = .ok (.goto (-17), 3) := by decide +kernel
theorem dX6_clear_41 : decode cX6_clear 41 = .ok (.aload_n 0, 1) := by decide +kernel
theorem dX6_clear_42 : decode cX6_clear 42 = .ok (.iconst 0, 1) := by decide +kernel
theorem dX6_clear_43 : decode cX6_clear 43 = .ok (.putfield 70, 3) := by decide +kernel
theorem dX6_clear_46 : decode cX6_clear 46 = .ok (.aload_n 0, 1) := by decide +kernel
theorem dX6_clear_47 : decode cX6_clear 47 = .ok (.getfield 27, 3) := by decide +kernel
theorem dX6_clear_50 : decode cX6_clear 50 = .ok (.invokevirtual 73, 3) := by decide +kernel
theorem dX6_clear_53 : decode cX6_clear 53 = .ok (.aload_n 0, 1) := by decide +kernel
theorem dX6_clear_54 : decode cX6_clear 54 = .ok (.iconst 0, 1) := by decide +kernel
theorem dX6_clear_55 : decode cX6_clear 55 = .ok (.putfield 74, 3) := by decide +kernel
theorem dX6_clear_58 : decode cX6_clear 58 = .ok (.aload_n 0, 1) := by decide +kernel
theorem dX6_clear_59 : decode cX6_clear 59 = .ok (.getfield 40, 3) := by decide +kernel
theorem dX6_clear_62 : decode cX6_clear 62 = .ok (.invokevirtual 77, 3) := by decide +kernel
theorem dX6_clear_65 : decode cX6_clear 65 = .ok (.aload_n 0, 1) := by decide +kernel
theorem dX6_clear_66 : decode cX6_clear 66 = .ok (.iconst 1, 1) := by decide +kernel
theorem dX6_clear_67 : decode cX6_clear 67 = .ok (.putfield 78, 3) := by decide +kernel
theorem dX6_clear_70 : decode cX6_clear 70 = .ok (.aload_n 0, 1) := by decide +kernel
theorem dX6_clear_71 : decode cX6_clear 71 = .ok (.getfield 47, 3) := by decide +kernel
theorem dX6_clear_74 : decode cX6_clear 74 = .ok (.invokevirtual 81, 3) := by decide +kernel
theorem dX6_clear_77 : decode cX6_clear 77 = .ok (.aload_n 0, 1) := by decide +kernel
theorem dX6_clear_78 : decode cX6_clear 78 = .ok (.iconst 0, 1) := by decide +kernel
theorem dX6_clear_79 : decode cX6_clear 79 = .ok (.putfield 82, 3) := by decide +kernel
theorem dX6_clear_82 : decode cX6_clear 82 = .ok (.aload_n 0, 1) := by decide +kernel
theorem dX6_clear_83 : decode cX6_clear 83 = .ok (.iconst 0, 1) := by decide +kernel
theorem dX6_clear_84 : decode cX6_clear 84 = .ok (.putfield 85, 3) := by decide +kernel
theorem dX6_clear_87 : decode cX6_clear 87 = .ok (.aload_n 0, 1) := by decide +kernel
theorem dX6_clear_88 : decode cX6_clear 88 = .ok (.iconst 0, 1) := by decide +kernel
theorem dX6_clear_89 : decode cX6_clear 89 = .ok (.putfield 88, 3) := by decide +kernel
theorem dX6_clear_92 : decode cX6_clear 92 = .ok (.aload_n 0, 1) := by decide +kernel
theorem dX6_clear_93 : decode cX6_clear 93 = .ok (.iconst 0, 1) := by decide +kernel
theorem dX6_clear_94 : decode cX6_clear 94 = .ok (.putfield 91, 3) := by decide +kernel
theorem dX6_clear_97 : decode cX6_clear 97 = .ok (.aload_n 0, 1) := by decide +kernel
theorem dX6_clear_98 : decode cX6_clear 98 = .ok (.iconst 0, 1) := by decide +kernel
theorem dX6_clear_99 : decode cX6_clear 99 = .ok (.putfield 94, 3) := by decide +kernel
theorem dX6_clear_102 : decode cX6_clear 102 = .ok (.return_, 1) := by decide +kernel
theorem dX6_copyFrom_0 : decode cX6_copyFrom 0 = .ok (.aload_n 1, 1) := by decide +kernel
theorem dX6_copyFrom_1 : decode cX6_copyFrom 1 = .ok (.getfield 9, 3) := by decide +kernel
theorem dX6_copyFrom_4 : decode cX6_copyFrom 4 = .ok (.iconst 0, 1) := by decide +kernel
theorem dX6_copyFrom_5 : decode cX6_copyFrom 5 = .ok (.aload_n 0, 1) := by decide +kernel
theorem dX6_copyFrom_6 : decode cX6_copyFrom 6 = .ok (.getfield 9, 3) := by decide +kernel
theorem dX6_copyFrom_9 : decode cX6_copyFrom 9 = .ok (.iconst 0, 1) := by decide +kernel
theorem dX6_copyFrom_10 : decode cX6_copyFrom 10 = .ok (.bipush 15, 2) := by decide +kernel
theorem dX6_copyFrom_12 : decode cX6_copyFrom 12 = .ok (.invokestatic 59, 3) := by decide +kernel
theorem dX6_copyFrom_15 : decode cX6_copyFrom 15 = .ok (.aload_n 0, 1) := by decide +kernel
theorem dX6_copyFrom_16 : decode cX6_copyFrom 16 = .ok (.aload_n 1, 1) := by decide +kernel
theorem dX6_copyFrom_17 : decode cX6_copyFrom 17 = .ok (.getfield 65, 3) := by decide +kernel
theorem dX6_copyFrom_20 : decode cX6_copyFrom 20 = .ok (.putfield 65, 3) := by decide +kernel
theorem dX6_copyFrom_23 : decode cX6_copyFrom 23 = .ok (.iconst 0, 1) := by decide +kernel
theorem dX6_copyFrom_24 : decode cX6_copyFrom 24 = .ok (.istore_n 2, 1) := by decide +kernel
theorem dX6_copyFrom_25 : decode cX6_copyFrom 25 = .ok (.iload_n 2, 1) := by decide +kernel
theorem dX6_copyFrom_26 : decode cX6_copyFrom 26 = .ok (.aload_n 0, 1) := by decide +kernel
theorem dX6_copyFrom_27 : decode cX6_copyFrom 27 = .ok (.getfield 65, 3) := by decide +kernel
theorem dX6_copyFrom_30 : decode cX6_copyFrom 30 = .ok (.if_icmp .ge 24, 3) := by decide +kernel
theorem dX6_copyFrom_33 : decode cX6_copyFrom 33 = .ok (.aload_n 0, 1) := by decide +kernel
theorem dX6_copyFrom_34 : decode cX6_copyFrom 34 = .ok (.getfield 17, 3) := by decide +kernel
theorem dX6_copyFrom_37 : decode cX6_copyFrom 37 = .ok (.iload_n 2, 1) := by decide +kernel
theorem dX6_copyFrom_38 : decode cX6_copyFrom 38 = .ok (.aaload, 1) := by decide +kernel
theorem dX6_copyFrom_39 : decode cX6_copyFrom 39 = .ok (.aload_n 1, 1) := by decide +kernel
theorem dX6_copyFrom_40 : decode cX6_copyFrom 40 = .ok (.getfield 17, 3) := by decide +kernel
theorem dX6_copyFrom_43 : decode cX6_copyFrom 43 = .ok (.iload_n 2, 1) := by decide +kernel
theorem dX6_copyFrom_44 : decode cX6_copyFrom 44 = .ok (.aaload, 1) := by decide +kernel
theorem dX6_copyFrom_45 : decode cX6_copyFrom 45 = .ok (.invokevirtual 98, 3) := by decide +kernel
theorem dX6_copyFrom_48 : decode cX6_copyFrom 48 = .ok (.iinc 2 1, 3) := by decide +kernel
theorem dX6_copyFrom_51 : decode cX6_copyFrom 51 = .ok (.goto (-26), 3) := by decide +kernel
theorem dX6_copyFrom_54 : decode cX6_copyFrom 54 = .ok (.aload_n 0, 1) := by decide +kernel
theorem dX6_copyFrom_55 : decode cX6_copyFrom 55 = .ok (.aload_n 1, 1) := by decide +kernel
theorem dX6_copyFrom_56 : decode cX6_copyFrom 56 = .ok (.getfield 70, 3) := by decide +kernel
theorem dX6_copyFrom_59 : decode cX6_copyFrom 59 = .ok (.putfield 70, 3) := by decide +kernel
theorem dX6_copyFrom_62 : decode cX6_copyFrom 62 = .ok (.aload_n 1, 1) := by decide +kernel
theorem dX6_copyFrom_63 : decode cX6_copyFrom 63 = .ok (.getfield 21, 3) := by decide +kernel
theorem dX6_copyFrom_66 : decode cX6_copyFrom 66 = .ok (.iconst 0, 1) := by decide +kernel
theorem dX6_copyFrom_67 : decode cX6_copyFrom 67 = .ok (.aload_n 0, 1) := by decide +kernel
theorem dX6_copyFrom_68 : decode cX6_copyFrom 68 = .ok (.getfield 21, 3) := by decide +kernel
theorem dX6_copyFrom_71 : decode cX6_copyFrom 71 = .ok (.iconst 0, 1) := by decide +kernel
theorem dX6_copyFrom_72 : decode cX6_copyFrom 72 = .ok (.bipush 6, 2) := by decide +kernel
theorem dX6_copyFrom_74 : decode cX6_copyFrom 74 = .ok (.invokestatic 59, 3) := by decide +kernel
theorem dX6_copyFrom_77 : decode cX6_copyFrom 77 = .ok (.aload_n 0, 1) := by decide +kernel
theorem dX6_copyFrom_78 : decode cX6_copyFrom 78 = .ok (.getfield 27, 3) := by decide +kernel
theorem dX6_copyFrom_81 : decode cX6_copyFrom 81 = .ok (.aload_n 1, 1) := by decide +kernel
theorem dX6_copyFrom_82 : decode cX6_copyFrom 82 = .ok (.getfield 27, 3) := by decide +kernel
theorem dX6_copyFrom_85 : decode cX6_copyFrom 85 = .ok (.invokevirtual 102, 3) := by decide +kernel
theorem dX6_copyFrom_88 : decode cX6_copyFrom 88 = .ok (.aload_n 0, 1) := by decide +kernel
theorem dX6_copyFrom_89 : decode cX6_copyFrom 89 = .ok (.aload_n 1, 1) := by decide +kernel
theorem dX6_copyFrom_90 : decode cX6_copyFrom 90 = .ok (.getfield 74, 3) := by decide +kernel
theorem dX6_copyFrom_93 : decode cX6_copyFrom 93 = .ok (.putfield 74, 3) := by decide +kernel
theorem dX6_copyFrom_96 : decode cX6_copyFrom 96 = .ok (.iconst 0, 1) := by decide +kernel
theorem dX6_copyFrom_97 : decode cX6_copyFrom 97 = .ok (.istore_n 2, 1) := by decide +kernel
theorem dX6_copyFrom_98 : decode cX6_copyFrom 98 = .ok (.iload_n 2, 1) := by decide +kernel
theorem dX6_copyFrom_99 : decode cX6_copyFrom 99 = .ok (.aload_n 0, 1) := by decide +kernel
theorem dX6_copyFrom_100 : decode cX6_copyFrom 100 = .ok (.getfield 74, 3) := by decide +kernel
theorem dX6_copyFrom_103 : decode cX6_copyFrom 103 = .ok (.if_icmp .ge 24, 3) := by decide +kernel
theorem dX6_copyFrom_106 : decode cX6_copyFrom 106 = .ok (.aload_n 0, 1) := by decide +kernel
theorem dX6_copyFrom_107 : decode cX6_copyFrom 107 = .ok (.getfield 33, 3) := by decide +kernel
theorem dX6_copyFrom_110 : decode cX6_copyFrom 110 = .ok (.iload_n 2, 1) := by decide +kernel
theorem dX6_copyFrom_111 : decode cX6_copyFrom 111 = .ok (.aaload, 1) := by decide +kernel
theorem dX6_copyFrom_112 : decode cX6_copyFrom 112 = .ok (.aload_n 1, 1) := by decide +kernel
theorem dX6_copyFrom_113 : decode cX6_copyFrom 113 = .ok (.getfield 33, 3) := by decide +kernel
theorem dX6_copyFrom_116 : decode cX6_copyFrom 116 = .ok (.iload_n 2, 1) := by decide +kernel
theorem dX6_copyFrom_117 : decode cX6_copyFrom 117 = .ok (.aaload, 1) := by decide +kernel
theorem dX6_copyFrom_118 : decode cX6_copyFrom 118 = .ok (.invokevirtual 105, 3) := by decide +kernel
theorem dX6_copyFrom_121 : decode cX6_copyFrom 121 = .ok (.iinc 2 1, 3) := by decide +kernel
theorem dX6_copyFrom_124 : decode cX6_copyFrom 124 = .ok (.goto (-26), 3) := by decide +kernel
theorem dX6_copyFrom_127 : decode cX6_copyFrom 127 = .ok (.aload_n 0, 1) := by decide +kernel
theorem dX6_copyFrom_128 : decode cX6_copyFrom 128 = .ok (.getfield 40, 3) := by decide +kernel
theorem dX6_copyFrom_131 : decode cX6_copyFrom 131 = .ok (.aload_n 1, 1) := by decide +kernel
theorem dX6_copyFrom_132 : decode cX6_copyFrom 132 = .ok (.getfield 40, 3) := by decide +kernel
theorem dX6_copyFrom_135 : decode cX6_copyFrom 135 = .ok (.invokevirtual 108, 3) := by decide +kernel
theorem dX6_copyFrom_138 : decode cX6_copyFrom 138 = .ok (.aload_n 0, 1) := by decide +kernel
theorem dX6_copyFrom_139 : decode cX6_copyFrom 139 = .ok (.aload_n 1, 1) := by decide +kernel
theorem dX6_copyFrom_140 : decode cX6_copyFrom 140 = .ok (.getfield 78, 3) := by decide +kernel
theorem dX6_copyFrom_143 : decode cX6_copyFrom 143 = .ok (.putfield 78, 3) := by decide +kernel
theorem dX6_copyFrom_146 : decode cX6_copyFrom 146 = .ok (.aload_n 0, 1) := by decide +kernel
theorem dX6_copyFrom_147 : decode cX6_copyFrom 147 = .ok (.getfield 47, 3) := by decide +kernel
theorem dX6_copyFrom_150 : decode cX6_copyFrom 150 = .ok (.aload_n 1, 1) := by decide +kernel
theorem dX6_copyFrom_151 : decode cX6_copyFrom 151 = .ok (.getfield 47, 3) := by decide +kernel
theorem dX6_copyFrom_154 : decode cX6_copyFrom 154 = .ok (.invokevirtual 111, 3) := by decide +kernel
theorem dX6_copyFrom_157 : decode cX6_copyFrom 157 = .ok (.aload_n 0, 1) := by decide +kernel
theorem dX6_copyFrom_158 : decode cX6_copyFrom 158 = .ok (.aload_n 1, 1) := by decide +kernel
theorem dX6_copyFrom_159 : decode cX6_copyFrom 159 = .ok (.getfield 82, 3) := by decide +kernel
theorem dX6_copyFrom_162 : decode cX6_copyFrom 162 = .ok (.putfield 82, 3) := by decide +kernel
theorem dX6_copyFrom_165 : decode cX6_copyFrom 165 = .ok (.aload_n 0, 1) := by decide +kernel
theorem dX6_copyFrom_166 : decode cX6_copyFrom 166 = .ok (.aload_n 1, 1) := by decide +kernel
theorem dX6_copyFrom_167 : decode cX6_copyFrom 167 = .ok (.getfield 85, 3) := by decide +kernel
theorem dX6_copyFrom_170 : decode cX6_copyFrom 170 = .ok (.putfield 85, 3) := by decide +kernel
theorem dX6_copyFrom_173 : decode cX6_copyFrom 173 = .ok (.aload_n 0, 1) := by decide +kernel
theorem dX6_copyFrom_174 : decode cX6_copyFrom 174 = .ok (.aload_n 1, 1) := by decide +kernel
theorem dX6_copyFrom_175 : decode cX6_copyFrom 175 = .ok (.getfield 88, 3) := by decide +kernel
theorem dX6_copyFrom_178 : decode cX6_copyFrom 178 = .ok (.putfield 88, 3) := by decide +kernel
theorem dX6_copyFrom_181 : decode cX6_copyFrom 181 = .ok (.aload_n 0, 1) := by decide +kernel
theorem dX6_copyFrom_182 : decode cX6_copyFrom 182 = .ok (.aload_n 1, 1) := by decide +kernel
theorem dX6_copyFrom_183 : decode cX6_copyFrom 183 = .ok (.getfield 91, 3) := by decide +kernel
theorem dX6_copyFrom_186 : decode cX6_copyFrom 186 = .ok (.putfield 91, 3) := by decide +kernel
theorem dX6_copyFrom_189 : decode cX6_copyFrom 189 = .ok (.aload_n 0, 1) := by decide +kernel
theorem dX6_copyFrom_190 : decode cX6_copyFrom 190 = .ok (.aload_n 1, 1) := by decide +kernel
theorem dX6_copyFrom_191 : decode cX6_copyFrom 191 = .ok (.getfield 94, 3) := by decide +kernel
theorem dX6_copyFrom_194 : decode cX6_copyFrom 194 = .ok (.putfield 94, 3) := by decide +kernel
theorem dX6_copyFrom_197 : decode cX6_copyFrom 197 = .ok (.return_, 1) := by decide +kernel
theorem dX6_addType_0 : decode cX6_addType 0 = .ok (.aload_n 0, 1) := by decide +kernel
theorem dX6_addType_1 : decode cX6_addType 1 = .ok (.getfield 70, 3) := by decide +kernel
theorem dX6_addType_4 : decode cX6_addType 4 = .ok (.bipush 6, 2) := by decide +kernel
theorem dX6_addType_6 : decode cX6_addType 6 = .ok (.if_icmp .ge 23, 3) := by decide +kernel
theorem dX6_addType_9 : decode cX6_addType 9 = .ok (.aload_n 0, 1) := by decide +kernel
theorem dX6_addType_10 : decode cX6_addType 10 = .ok (.getfield 21, 3) := by decide +kernel
theorem dX6_addType_13 : decode cX6_addType 13 = .ok (.aload_n 0, 1) := by decide +kernel
theorem dX6_addType_14 : decode cX6_addType 14 = .ok (.getfield 70, 3) := by decide +kernel
theorem dX6_addType_17 : decode cX6_addType 17 = .ok (.iload_n 1, 1) := by decide +kernel
theorem dX6_addType_18 : decode cX6_addType 18 = .ok (.iastore, 1) := by decide +kernel
theorem dX6_addType_19 : decode cX6_addType 19 = .ok (.aload_n 0, 1) := by decide +kernel
theorem dX6_addType_20 : decode cX6_addType 20 = .ok (.dup, 1) := by decide +kernel
theorem dX6_addType_21 : decode cX6_addType 21 = .ok (.getfield 70, 3) := by decide +kernel
theorem dX6_addType_24 : decode cX6_addType 24 = .ok (.iconst 1, 1) := by decide +kernel
theorem dX6_addType_25 : decode cX6_addType 25 = .ok (.iadd, 1) := by decide +kernel
theorem dX6_addType_26 : decode cX6_addType 26 = .ok (.putfield 70, 3) := by decide +kernel
theorem dX6_addType_29 : decode cX6_addType 29 = .ok (.return_, 1) := by decide +kernel
theorem dX6_addFeeder_0 : decode cX6_addFeeder 0 = .ok (.aload_n 0, 1) := by decide +kernel
theorem dX6_addFeeder_1 : decode cX6_addFeeder 1 = .ok (.getfield 74, 3) := by decide +kernel
theorem dX6_addFeeder_4 : decode cX6_addFeeder 4 = .ok (.bipush 10, 2) := by decide +kernel
theorem dX6_addFeeder_6 : decode cX6_addFeeder 6 = .ok (.if_icmp .ge 43, 3) := by decide +kernel
theorem dX6_addFeeder_9 : decode cX6_addFeeder 9 = .ok (.aload_n 0, 1) := by decide +kernel
theorem dX6_addFeeder_10 : decode cX6_addFeeder 10 = .ok (.getfield 33, 3) := by decide +kernel
theorem dX6_addFeeder_13 : decode cX6_addFeeder 13 = .ok (.aload_n 0, 1) := by decide +kernel
theorem dX6_addFeeder_14 : decode cX6_addFeeder 14 = .ok (.getfield 74, 3) := by decide +kernel
theorem dX6_addFeeder_17 : decode cX6_addFeeder 17 = .ok (.aaload, 1) := by decide +kernel
theorem dX6_addFeeder_18 : decode cX6_addFeeder 18 = .ok (.iload_n 1, 1) := by decide +kernel
theorem dX6_addFeeder_19 : decode cX6_addFeeder 19 = .ok (.iload_n 2, 1) := by decide +kernel
theorem dX6_addFeeder_20 : decode cX6_addFeeder 20 = .ok (.iload_n 3, 1) := by decide +kernel
theorem dX6_addFeeder_21 : decode cX6_addFeeder 21 = .ok (.iload 4, 2) := by decide +kernel
theorem dX6_addFeeder_23 : decode cX6_addFeeder 23 = .ok (.invokevirtual 114, 3) := by decide +kernel
theorem dX6_addFeeder_26 : decode cX6_addFeeder 26 = .ok (.aload_n 0, 1) := by decide +kernel
theorem dX6_addFeeder_27 : decode cX6_addFeeder 27 = .ok (.getfield 27, 3) := by decide +kernel
theorem dX6_addFeeder_30 : decode cX6_addFeeder 30 = .ok (.getfield 117, 3) := by decide +kernel
theorem dX6_addFeeder_33 : decode cX6_addFeeder 33 = .ok (.iload_n 1, 1) := by decide +kernel
theorem dX6_addFeeder_34 : decode cX6_addFeeder 34 = .ok (.dup2, 1) := by decide +kernel
theorem dX6_addFeeder_35 : decode cX6_addFeeder 35 = .ok (.iaload, 1) := by decide +kernel
theorem dX6_addFeeder_36 : decode cX6_addFeeder 36 = .ok (.iload_n 3, 1) := by decide +kernel
theorem dX6_addFeeder_37 : decode cX6_addFeeder 37 = .ok (.iadd, 1) := by decide +kernel
theorem dX6_addFeeder_38 : decode cX6_addFeeder 38 = .ok (.iastore, 1) := by decide +kernel
theorem dX6_addFeeder_39 : decode cX6_addFeeder 39 = .ok (.aload_n 0, 1) := by decide +kernel
theorem dX6_addFeeder_40 : decode cX6_addFeeder 40 = .ok (.dup, 1) := by decide +kernel
theorem dX6_addFeeder_41 : decode cX6_addFeeder 41 = .ok (.getfield 74, 3) := by decide +kernel
theorem dX6_addFeeder_44 : decode cX6_addFeeder 44 = .ok (.iconst 1, 1) := by decide +kernel
theorem dX6_addFeeder_45 : decode cX6_addFeeder 45 = .ok (.iadd, 1) := by decide +kernel
theorem dX6_addFeeder_46 : decode cX6_addFeeder 46 = .ok (.putfield 74, 3) := by decide +kernel
theorem dX6_addFeeder_49 : decode cX6_addFeeder 49 = .ok (.return_, 1) := by decide +kernel
theorem dX6_nearestWith_0 : decode cX6_nearestWith 0 = .ok (.iconst (-1), 1) := by decide +kernel
theorem dX6_nearestWith_1 : decode cX6_nearestWith 1 = .ok (.istore_n 2, 1) := by decide +kernel
theorem dX6_nearestWith_2 : decode cX6_nearestWith 2 = .ok (.iconst 0, 1) := by decide +kernel
theorem dX6_nearestWith_3 : decode cX6_nearestWith 3 = .ok (.istore_n 3, 1) := by decide +kernel
theorem dX6_nearestWith_4 : decode cX6_nearestWith 4 = .ok (.iconst 0, 1) := by decide +kernel
theorem dX6_nearestWith_5 : decode cX6_nearestWith 5 = .ok (.istore 4, 2) := by decide +kernel
theorem dX6_nearestWith_7 : decode cX6_nearestWith 7 = .ok (.iload 4, 2) := by decide +kernel
theorem dX6_nearestWith_9 : decode cX6_nearestWith 9 = .ok (.aload_n 0, 1) := by decide +kernel
theorem dX6_nearestWith_10 : decode cX6_nearestWith 10 = .ok (.getfield 74, 3) := by decide +kernel
theorem dX6_nearestWith_13 : decode cX6_nearestWith 13 = .ok (.if_icmp .ge 73, 3) := by decide +kernel
theorem dX6_nearestWith_16 : decode cX6_nearestWith 16 = .ok (.aload_n 0, 1) := by decide +kernel
theorem dX6_nearestWith_17 : decode cX6_nearestWith 17 = .ok (.getfield 33, 3) := by decide +kernel
theorem dX6_nearestWith_20 : decode cX6_nearestWith 20 = .ok (.iload 4, 2) := by decide +kernel
theorem dX6_nearestWith_22 : decode cX6_nearestWith 22 = .ok (.aaload, 1) := by decide +kernel
theorem dX6_nearestWith_23 : decode cX6_nearestWith 23 = .ok (.getfield 120, 3) := by decide +kernel
theorem dX6_nearestWith_26 : decode cX6_nearestWith 26 = .ok (.iload_n 1, 1) := by decide +kernel
theorem dX6_nearestWith_27 : decode cX6_nearestWith 27 = .ok (.if_icmp .ne 53, 3) := by decide +kernel
theorem dX6_nearestWith_30 : decode cX6_nearestWith 30 = .ok (.aload_n 0, 1) := by decide +kernel
theorem dX6_nearestWith_31 : decode cX6_nearestWith 31 = .ok (.getfield 33, 3) := by decide +kernel
theorem dX6_nearestWith_34 : decode cX6_nearestWith 34 = .ok (.iload 4, 2) := by decide +kernel
theorem dX6_nearestWith_36 : decode cX6_nearestWith 36 = .ok (.aaload, 1) := by decide +kernel
theorem dX6_nearestWith_37 : decode cX6_nearestWith 37 = .ok (.getfield 123, 3) := by decide +kernel
theorem dX6_nearestWith_40 : decode cX6_nearestWith 40 = .ok (.ifCond .le 40, 3) := by decide +kernel
theorem dX6_nearestWith_43 : decode cX6_nearestWith 43 = .ok (.aload_n 0, 1) := by decide +kernel
theorem dX6_nearestWith_44 : decode cX6_nearestWith 44 = .ok (.getfield 33, 3) := by decide +kernel
theorem dX6_nearestWith_47 : decode cX6_nearestWith 47 = .ok (.iload 4, 2) := by decide +kernel
theorem dX6_nearestWith_49 : decode cX6_nearestWith 49 = .ok (.aaload, 1) := by decide +kernel
theorem dX6_nearestWith_50 : decode cX6_nearestWith 50 = .ok (.getfield 126, 3) := by decide +kernel
theorem dX6_nearestWith_53 : decode cX6_nearestWith 53 = .ok (.aload_n 0, 1) := by decide +kernel
theorem dX6_nearestWith_54 : decode cX6_nearestWith 54 = .ok (.getfield 82, 3) := by decide +kernel
theorem dX6_nearestWith_57 : decode cX6_nearestWith 57 = .ok (.isub, 1) := by decide +kernel
theorem dX6_nearestWith_58 : decode cX6_nearestWith 58 = .ok (.invokestatic 127, 3) := by decide +kernel
theorem dX6_nearestWith_61 : decode cX6_nearestWith 61 = .ok (.istore 5, 2) := by decide +kernel
theorem dX6_nearestWith_63 : decode cX6_nearestWith 63 = .ok (.iload_n 2, 1) := by decide +kernel
theorem dX6_nearestWith_64 : decode cX6_nearestWith 64 = .ok (.iconst (-1), 1) := by decide +kernel
theorem dX6_nearestWith_65 : decode cX6_nearestWith 65 = .ok (.if_icmp .eq 9, 3) := by decide +kernel
theorem dX6_nearestWith_68 : decode cX6_nearestWith 68 = .ok (.iload 5, 2) := by decide +kernel
theorem dX6_nearestWith_70 : decode cX6_nearestWith 70 = .ok (.iload_n 3, 1) := by decide +kernel
theorem dX6_nearestWith_71 : decode cX6_nearestWith 71 = .ok (.if_icmp .ge 9, 3) := by decide +kernel
theorem dX6_nearestWith_74 : decode cX6_nearestWith 74 = .ok (.iload 4, 2) := by decide +kernel
theorem dX6_nearestWith_76 : decode cX6_nearestWith 76 = .ok (.istore_n 2, 1) := by decide +kernel
theorem dX6_nearestWith_77 : decode cX6_nearestWith 77 = .ok (.iload 5, 2) := by decide +kernel
theorem dX6_nearestWith_79 : decode cX6_nearestWith 79 = .ok (.istore_n 3, 1) := by decide +kernel
theorem dX6_nearestWith_80 : decode cX6_nearestWith 80 = .ok (.iinc 4 1, 3) := by decide +kernel
theorem dX6_nearestWith_83 : decode cX6_nearestWith 83 = .ok (.goto (-76), 3) := by decide +kernel
theorem dX6_nearestWith_86 : decode cX6_nearestWith 86 = .ok (.iload_n 2, 1) := by decide +kernel
theorem dX6_nearestWith_87 : decode cX6_nearestWith 87 = .ok (.ireturn, 1) := by decide +kernel
theorem dX6_heldOf_0 : decode cX6_heldOf 0 = .ok (.iconst 0, 1) := by decide +kernel
theorem dX6_heldOf_1 : decode cX6_heldOf 1 = .ok (.istore_n 2, 1) := by decide +kernel
theorem dX6_heldOf_2 : decode cX6_heldOf 2 = .ok (.iconst 0, 1) := by decide +kernel
theorem dX6_heldOf_3 : decode cX6_heldOf 3 = .ok (.istore_n 3, 1) := by decide +kernel
theorem dX6_heldOf_4 : decode cX6_heldOf 4 = .ok (.iload_n 3, 1) := by decide +kernel
theorem dX6_heldOf_5 : decode cX6_heldOf 5 = .ok (.aload_n 0, 1) := by decide +kernel
theorem dX6_heldOf_6 : decode cX6_heldOf 6 = .ok (.getfield 65, 3) := by decide +kernel
theorem dX6_heldOf_9 : decode cX6_heldOf 9 = .ok (.if_icmp .ge 25, 3) := by decide +kernel
theorem dX6_heldOf_12 : decode cX6_heldOf 12 = .ok (.aload_n 0, 1) := by decide +kernel
theorem dX6_heldOf_13 : decode cX6_heldOf 13 = .ok (.getfield 17, 3) := by decide +kernel
theorem dX6_heldOf_16 : decode cX6_heldOf 16 = .ok (.iload_n 3, 1) := by decide +kernel
theorem dX6_heldOf_17 : decode cX6_heldOf 17 = .ok (.aaload, 1) := by decide +kernel
theorem dX6_heldOf_18 : decode cX6_heldOf 18 = .ok (.getfield 133, 3) := by decide +kernel
theorem dX6_heldOf_21 : decode cX6_heldOf 21 = .ok (.iload_n 1, 1) := by decide +kernel
theorem dX6_heldOf_22 : decode cX6_heldOf 22 = .ok (.if_icmp .ne 6, 3) := by decide +kernel
theorem dX6_heldOf_25 : decode cX6_heldOf 25 = .ok (.iinc 2 1, 3) := by decide +kernel
theorem dX6_heldOf_28 : decode cX6_heldOf 28 = .ok (.iinc 3 1, 3) := by decide +kernel
theorem dX6_heldOf_31 : decode cX6_heldOf 31 = .ok (.goto (-27), 3) := by decide +kernel
theorem dX6_heldOf_34 : decode cX6_heldOf 34 = .ok (.iload_n 2, 1) := by decide +kernel
theorem dX6_heldOf_35 : decode cX6_heldOf 35 = .ok (.ireturn, 1) := by decide +kernel
theorem dX6_inReels_0 : decode cX6_inReels 0 = .ok (.iconst 0, 1) := by decide +kernel
theorem dX6_inReels_1 : decode cX6_inReels 1 = .ok (.istore_n 2, 1) := by decide +kernel
theorem dX6_inReels_2 : decode cX6_inReels 2 = .ok (.iconst 0, 1) := by decide +kernel
theorem dX6_inReels_3 : decode cX6_inReels 3 = .ok (.istore_n 3, 1) := by decide +kernel
theorem dX6_inReels_4 : decode cX6_inReels 4 = .ok (.iload_n 3, 1) := by decide +kernel
theorem dX6_inReels_5 : decode cX6_inReels 5 = .ok (.aload_n 0, 1) := by decide +kernel
theorem dX6_inReels_6 : decode cX6_inReels 6 = .ok (.getfield 74, 3) := by decide +kernel
theorem dX6_inReels_9 : decode cX6_inReels 9 = .ok (.if_icmp .ge 34, 3) := by decide +kernel
theorem dX6_inReels_12 : decode cX6_inReels 12 = .ok (.aload_n 0, 1) := by decide +kernel
theorem dX6_inReels_13 : decode cX6_inReels 13 = .ok (.getfield 33, 3) := by decide +kernel
theorem dX6_inReels_16 : decode cX6_inReels 16 = .ok (.iload_n 3, 1) := by decide +kernel
theorem dX6_inReels_17 : decode cX6_inReels 17 = .ok (.aaload, 1) := by decide +kernel
theorem dX6_inReels_18 : decode cX6_inReels 18 = .ok (.getfield 120, 3) := by decide +kernel
theorem dX6_inReels_21 : decode cX6_inReels 21 = .ok (.iload_n 1, 1) := by decide +kernel
theorem dX6_inReels_22 : decode cX6_inReels 22 = .ok (.if_icmp .ne 15, 3) := by decide +kernel
theorem dX6_inReels_25 : decode cX6_inReels 25 = .ok (.iload_n 2, 1) := by decide +kernel
theorem dX6_inReels_26 : decode cX6_inReels 26 = .ok (.aload_n 0, 1) := by decide +kernel
theorem dX6_inReels_27 : decode cX6_inReels 27 = .ok (.getfield 33, 3) := by decide +kernel
theorem dX6_inReels_30 : decode cX6_inReels 30 = .ok (.iload_n 3, 1) := by decide +kernel
theorem dX6_inReels_31 : decode cX6_inReels 31 = .ok (.aaload, 1) := by decide +kernel
theorem dX6_inReels_32 : decode cX6_inReels 32 = .ok (.invokevirtual 136, 3) := by decide +kernel
theorem dX6_inReels_35 : decode cX6_inReels 35 = .ok (.iadd, 1) := by decide +kernel
theorem dX6_inReels_36 : decode cX6_inReels 36 = .ok (.istore_n 2, 1) := by decide +kernel
theorem dX6_inReels_37 : decode cX6_inReels 37 = .ok (.iinc 3 1, 3) := by decide +kernel
theorem dX6_inReels_40 : decode cX6_inReels 40 = .ok (.goto (-36), 3) := by decide +kernel
theorem dX6_inReels_43 : decode cX6_inReels 43 = .ok (.iload_n 2, 1) := by decide +kernel
theorem dX6_inReels_44 : decode cX6_inReels 44 = .ok (.ireturn, 1) := by decide +kernel
theorem dX6_partsOf_0 : decode cX6_partsOf 0 = .ok (.iload_n 2, 1) := by decide +kernel
theorem dX6_partsOf_1 : decode cX6_partsOf 1 = .ok (.tableswitch 91 0 5 #[39, 49, 55, 61, 71, 81], 39) := by decide +kernel
theorem dX6_partsOf_40 : decode cX6_partsOf 40 = .ok (.aload_n 0, 1) := by decide +kernel
theorem dX6_partsOf_41 : decode cX6_partsOf 41 = .ok (.getfield 27, 3) := by decide +kernel
theorem dX6_partsOf_44 : decode cX6_partsOf 44 = .ok (.getfield 117, 3) := by decide +kernel
theorem dX6_partsOf_47 : decode cX6_partsOf 47 = .ok (.iload_n 1, 1) := by decide +kernel
theorem dX6_partsOf_48 : decode cX6_partsOf 48 = .ok (.iaload, 1) := by decide +kernel
theorem dX6_partsOf_49 : decode cX6_partsOf 49 = .ok (.ireturn, 1) := by decide +kernel
theorem dX6_partsOf_50 : decode cX6_partsOf 50 = .ok (.aload_n 0, 1) := by decide +kernel
theorem dX6_partsOf_51 : decode cX6_partsOf 51 = .ok (.iload_n 1, 1) := by decide +kernel
theorem dX6_partsOf_52 : decode cX6_partsOf 52 = .ok (.invokevirtual 140, 3) := by decide +kernel
theorem dX6_partsOf_55 : decode cX6_partsOf 55 = .ok (.ireturn, 1) := by decide +kernel
theorem dX6_partsOf_56 : decode cX6_partsOf 56 = .ok (.aload_n 0, 1) := by decide +kernel
theorem dX6_partsOf_57 : decode cX6_partsOf 57 = .ok (.iload_n 1, 1) := by decide +kernel
theorem dX6_partsOf_58 : decode cX6_partsOf 58 = .ok (.invokevirtual 143, 3) := by decide +kernel
theorem dX6_partsOf_61 : decode cX6_partsOf 61 = .ok (.ireturn, 1) := by decide +kernel
theorem dX6_partsOf_62 : decode cX6_partsOf 62 = .ok (.aload_n 0, 1) := by decide +kernel
theorem dX6_partsOf_63 : decode cX6_partsOf 63 = .ok (.getfield 27, 3) := by decide +kernel
theorem dX6_partsOf_66 : decode cX6_partsOf 66 = .ok (.getfield 146, 3) := by decide +kernel
theorem dX6_partsOf_69 : decode cX6_partsOf 69 = .ok (.iload_n 1, 1) := by decide +kernel
theorem dX6_partsOf_70 : decode cX6_partsOf 70 = .ok (.iaload, 1) := by decide +kernel
theorem dX6_partsOf_71 : decode cX6_partsOf 71 = .ok (.ireturn, 1) := by decide +kernel
theorem dX6_partsOf_72 : decode cX6_partsOf 72 = .ok (.aload_n 0, 1) := by decide +kernel
theorem dX6_partsOf_73 : decode cX6_partsOf 73 = .ok (.getfield 27, 3) := by decide +kernel
theorem dX6_partsOf_76 : decode cX6_partsOf 76 = .ok (.getfield 149, 3) := by decide +kernel
theorem dX6_partsOf_79 : decode cX6_partsOf 79 = .ok (.iload_n 1, 1) := by decide +kernel
theorem dX6_partsOf_80 : decode cX6_partsOf 80 = .ok (.iaload, 1) := by decide +kernel
theorem dX6_partsOf_81 : decode cX6_partsOf 81 = .ok (.ireturn, 1) := by decide +kernel
theorem dX6_partsOf_82 : decode cX6_partsOf 82 = .ok (.aload_n 0, 1) := by decide +kernel
theorem dX6_partsOf_83 : decode cX6_partsOf 83 = .ok (.getfield 27, 3) := by decide +kernel
theorem dX6_partsOf_86 : decode cX6_partsOf 86 = .ok (.getfield 152, 3) := by decide +kernel
theorem dX6_partsOf_89 : decode cX6_partsOf 89 = .ok (.iload_n 1, 1) := by decide +kernel
theorem dX6_partsOf_90 : decode cX6_partsOf 90 = .ok (.iaload, 1) := by decide +kernel
theorem dX6_partsOf_91 : decode cX6_partsOf 91 = .ok (.ireturn, 1) := by decide +kernel
theorem dX6_partsOf_92 : decode cX6_partsOf 92 = .ok (.aload_n 0, 1) := by decide +kernel
theorem dX6_partsOf_93 : decode cX6_partsOf 93 = .ok (.getfield 27, 3) := by decide +kernel
theorem dX6_partsOf_96 : decode cX6_partsOf 96 = .ok (.getfield 155, 3) := by decide +kernel
theorem dX6_partsOf_99 : decode cX6_partsOf 99 = .ok (.iload_n 1, 1) := by decide +kernel
theorem dX6_partsOf_100 : decode cX6_partsOf 100 = .ok (.iaload, 1) := by decide +kernel
theorem dX6_partsOf_101 : decode cX6_partsOf 101 = .ok (.ireturn, 1) := by decide +kernel
theorem dX6_missing_0 : decode cX6_missing 0 = .ok (.aload_n 0, 1) := by decide +kernel
theorem dX6_missing_1 : decode cX6_missing 1 = .ok (.getfield 40, 3) := by decide +kernel
theorem dX6_missing_4 : decode cX6_missing 4 = .ok (.iload_n 1, 1) := by decide +kernel
theorem dX6_missing_5 : decode cX6_missing 5 = .ok (.invokevirtual 158, 3) := by decide +kernel
theorem dX6_missing_8 : decode cX6_missing 8 = .ok (.iload_n 2, 1) := by decide +kernel
theorem dX6_missing_9 : decode cX6_missing 9 = .ok (.iconst 1, 1) := by decide +kernel
theorem dX6_missing_10 : decode cX6_missing 10 = .ok (.isub, 1) := by decide +kernel
theorem dX6_missing_11 : decode cX6_missing 11 = .ok (.aload_n 0, 1) := by decide +kernel
theorem dX6_missing_12 : decode cX6_missing 12 = .ok (.getfield 40, 3) := by decide +kernel
theorem dX6_missing_15 : decode cX6_missing 15 = .ok (.iload_n 1, 1) := by decide +kernel
theorem dX6_missing_16 : decode cX6_missing 16 = .ok (.invokevirtual 161, 3) := by decide +kernel
theorem dX6_missing_19 : decode cX6_missing 19 = .ok (.imul, 1) := by decide +kernel
theorem dX6_missing_20 : decode cX6_missing 20 = .ok (.iadd, 1) := by decide +kernel
theorem dX6_missing_21 : decode cX6_missing 21 = .ok (.istore_n 3, 1) := by decide +kernel
theorem dX6_missing_22 : decode cX6_missing 22 = .ok (.iconst 0, 1) := by decide +kernel
theorem dX6_missing_23 : decode cX6_missing 23 = .ok (.iload_n 3, 1) := by decide +kernel
theorem dX6_missing_24 : decode cX6_missing 24 = .ok (.aload_n 0, 1) := by decide +kernel
theorem dX6_missing_25 : decode cX6_missing 25 = .ok (.iload_n 1, 1) := by decide +kernel
theorem dX6_missing_26 : decode cX6_missing 26 = .ok (.invokevirtual 140, 3) := by decide +kernel
theorem dX6_missing_29 : decode cX6_missing 29 = .ok (.isub, 1) := by decide +kernel
theorem dX6_missing_30 : decode cX6_missing 30 = .ok (.aload_n 0, 1) := by decide +kernel
theorem dX6_missing_31 : decode cX6_missing 31 = .ok (.iload_n 1, 1) := by decide +kernel
theorem dX6_missing_32 : decode cX6_missing 32 = .ok (.invokevirtual 143, 3) := by decide +kernel
theorem dX6_missing_35 : decode cX6_missing 35 = .ok (.isub, 1) := by decide +kernel
theorem dX6_missing_36 : decode cX6_missing 36 = .ok (.invokestatic 164, 3) := by decide +kernel
theorem dX6_missing_39 : decode cX6_missing 39 = .ok (.ireturn, 1) := by decide +kernel
theorem dX6_boardsFor_0 : decode cX6_boardsFor 0 = .ok (.aload_n 0, 1) := by decide +kernel
theorem dX6_boardsFor_1 : decode cX6_boardsFor 1 = .ok (.iload_n 1, 1) := by decide +kernel
theorem dX6_boardsFor_2 : decode cX6_boardsFor 2 = .ok (.iconst 1, 1) := by decide +kernel
theorem dX6_boardsFor_3 : decode cX6_boardsFor 3 = .ok (.invokevirtual 168, 3) := by decide +kernel
theorem dX6_boardsFor_6 : decode cX6_boardsFor 6 = .ok (.ifCond .le 5, 3) := by decide +kernel
theorem dX6_boardsFor_9 : decode cX6_boardsFor 9 = .ok (.iconst 0, 1) := by decide +kernel
theorem dX6_boardsFor_10 : decode cX6_boardsFor 10 = .ok (.ireturn, 1) := by decide +kernel
theorem dX6_boardsFor_11 : decode cX6_boardsFor 11 = .ok (.aload_n 0, 1) := by decide +kernel
theorem dX6_boardsFor_12 : decode cX6_boardsFor 12 = .ok (.getfield 40, 3) := by decide +kernel
theorem dX6_boardsFor_15 : decode cX6_boardsFor 15 = .ok (.iload_n 1, 1) := by decide +kernel
theorem dX6_boardsFor_16 : decode cX6_boardsFor 16 = .ok (.invokevirtual 161, 3) := by decide +kernel
theorem dX6_boardsFor_19 : decode cX6_boardsFor 19 = .ok (.istore_n 2, 1) := by decide +kernel
theorem dX6_boardsFor_20 : decode cX6_boardsFor 20 = .ok (.aload_n 0, 1) := by decide +kernel
theorem dX6_boardsFor_21 : decode cX6_boardsFor 21 = .ok (.iload_n 1, 1) := by decide +kernel
theorem dX6_boardsFor_22 : decode cX6_boardsFor 22 = .ok (.invokevirtual 140, 3) := by decide +kernel
theorem dX6_boardsFor_25 : decode cX6_boardsFor 25 = .ok (.aload_n 0, 1) := by decide +kernel
theorem dX6_boardsFor_26 : decode cX6_boardsFor 26 = .ok (.iload_n 1, 1) := by decide +kernel
theorem dX6_boardsFor_27 : decode cX6_boardsFor 27 = .ok (.invokevirtual 143, 3) := by decide +kernel
theorem dX6_boardsFor_30 : decode cX6_boardsFor 30 = .ok (.iadd, 1) := by decide +kernel
theorem dX6_boardsFor_31 : decode cX6_boardsFor 31 = .ok (.aload_n 0, 1) := by decide +kernel
theorem dX6_boardsFor_32 : decode cX6_boardsFor 32 = .ok (.getfield 40, 3) := by decide +kernel
theorem dX6_boardsFor_35 : decode cX6_boardsFor 35 = .ok (.iload_n 1, 1) := by decide +kernel
theorem dX6_boardsFor_36 : decode cX6_boardsFor 36 = .ok (.invokevirtual 158, 3) := by decide +kernel
theorem dX6_boardsFor_39 : decode cX6_boardsFor 39 = .ok (.isub, 1) := by decide +kernel
theorem dX6_boardsFor_40 : decode cX6_boardsFor 40 = .ok (.istore_n 3, 1) := by decide +kernel
theorem dX6_boardsFor_41 : decode cX6_boardsFor 41 = .ok (.iload_n 2, 1) := by decide +kernel
theorem dX6_boardsFor_42 : decode cX6_boardsFor 42 = .ok (.iconst 1, 1) := by decide +kernel
theorem dX6_boardsFor_43 : decode cX6_boardsFor 43 = .ok (.if_icmp .ge 9, 3) := by decide +kernel
theorem dX6_boardsFor_46 : decode cX6_boardsFor 46 = .ok (.sipush 1000, 3) := by decide +kernel
theorem dX6_boardsFor_49 : decode cX6_boardsFor 49 = .ok (.goto 14, 3) := by decide +kernel
theorem dX6_boardsFor_52 : decode cX6_boardsFor 52 = .ok (.sipush 1000, 3) := by decide +kernel
theorem dX6_boardsFor_55 : decode cX6_boardsFor 55 = .ok (.iconst 1, 1) := by decide +kernel
theorem dX6_boardsFor_56 : decode cX6_boardsFor 56 = .ok (.iload_n 3, 1) := by decide +kernel
theorem dX6_boardsFor_57 : decode cX6_boardsFor 57 = .ok (.iload_n 2, 1) := by decide +kernel
theorem dX6_boardsFor_58 : decode cX6_boardsFor 58 = .ok (.idiv, 1) := by decide +kernel
theorem dX6_boardsFor_59 : decode cX6_boardsFor 59 = .ok (.iadd, 1) := by decide +kernel
theorem dX6_boardsFor_60 : decode cX6_boardsFor 60 = .ok (.invokestatic 171, 3) := by decide +kernel
theorem dX6_boardsFor_63 : decode cX6_boardsFor 63 = .ok (.ireturn, 1) := by decide +kernel
theorem dX6_isWorn_0 : decode cX6_isWorn 0 = .ok (.aload_n 0, 1) := by decide +kernel
theorem dX6_isWorn_1 : decode cX6_isWorn 1 = .ok (.getfield 9, 3) := by decide +kernel
theorem dX6_isWorn_4 : decode cX6_isWorn 4 = .ok (.bipush 12, 2) := by decide +kernel
theorem dX6_isWorn_6 : decode cX6_isWorn 6 = .ok (.iaload, 1) := by decide +kernel
theorem dX6_isWorn_7 : decode cX6_isWorn 7 = .ok (.ifCond .le 21, 3) := by decide +kernel
theorem dX6_isWorn_10 : decode cX6_isWorn 10 = .ok (.aload_n 1, 1) := by decide +kernel
theorem dX6_isWorn_11 : decode cX6_isWorn 11 = .ok (.getfield 174, 3) := by decide +kernel
theorem dX6_isWorn_14 : decode cX6_isWorn 14 = .ok (.aload_n 0, 1) := by decide +kernel
theorem dX6_isWorn_15 : decode cX6_isWorn 15 = .ok (.getfield 9, 3) := by decide +kernel
theorem dX6_isWorn_18 : decode cX6_isWorn 18 = .ok (.bipush 12, 2) := by decide +kernel
theorem dX6_isWorn_20 : decode cX6_isWorn 20 = .ok (.iaload, 1) := by decide +kernel
theorem dX6_isWorn_21 : decode cX6_isWorn 21 = .ok (.if_icmp .lt 7, 3) := by decide +kernel
theorem dX6_isWorn_24 : decode cX6_isWorn 24 = .ok (.iconst 1, 1) := by decide +kernel
theorem dX6_isWorn_25 : decode cX6_isWorn 25 = .ok (.goto 4, 3) := by decide +kernel
theorem dX6_isWorn_28 : decode cX6_isWorn 28 = .ok (.iconst 0, 1) := by decide +kernel
theorem dX6_isWorn_29 : decode cX6_isWorn 29 = .ok (.ireturn, 1) := by decide +kernel
theorem dX6_perform_0 : decode cX6_perform 0 = .ok (.aload_n 0, 1) := by decide +kernel
theorem dX6_perform_1 : decode cX6_perform 1 = .ok (.getfield 17, 3) := by decide +kernel
theorem dX6_perform_4 : decode cX6_perform 4 = .ok (.iload_n 2, 1) := by decide +kernel
theorem dX6_perform_5 : decode cX6_perform 5 = .ok (.aaload, 1) := by decide +kernel
theorem dX6_perform_6 : decode cX6_perform 6 = .ok (.astore 4, 2) := by decide +kernel
theorem dX6_perform_8 : decode cX6_perform 8 = .ok (.aload_n 0, 1) := by decide +kernel
theorem dX6_perform_9 : decode cX6_perform 9 = .ok (.getfield 88, 3) := by decide +kernel
theorem dX6_perform_12 : decode cX6_perform 12 = .ok (.istore 5, 2) := by decide +kernel
theorem dX6_perform_14 : decode cX6_perform 14 = .ok (.iconst 1, 1) := by decide +kernel
theorem dX6_perform_15 : decode cX6_perform 15 = .ok (.istore 6, 2) := by decide +kernel
theorem dX6_perform_17 : decode cX6_perform 17 = .ok (.iload_n 1, 1) := by decide +kernel
theorem dX6_perform_18 : decode cX6_perform 18 = .ok (.tableswitch 92 1 5 #[34, 44, 61, 72, 83], 34) := by decide +kernel
theorem dX6_perform_52 : decode cX6_perform 52 = .ok (.aload_n 0, 1) := by decide +kernel
theorem dX6_perform_53 : decode cX6_perform 53 = .ok (.aload 4, 2) := by decide +kernel
theorem dX6_perform_55 : decode cX6_perform 55 = .ok (.iload_n 3, 1) := by decide +kernel
theorem dX6_perform_56 : decode cX6_perform 56 = .ok (.invokevirtual 177, 3) := by decide +kernel
theorem dX6_perform_59 : decode cX6_perform 59 = .ok (.goto 57, 3) := by decide +kernel
theorem dX6_perform_62 : decode cX6_perform 62 = .ok (.aload_n 0, 1) := by decide +kernel
theorem dX6_perform_63 : decode cX6_perform 63 = .ok (.aload 4, 2) := by decide +kernel
theorem dX6_perform_65 : decode cX6_perform 65 = .ok (.aload_n 0, 1) := by decide +kernel
theorem dX6_perform_66 : decode cX6_perform 66 = .ok (.getfield 33, 3) := by decide +kernel
theorem dX6_perform_69 : decode cX6_perform 69 = .ok (.iload_n 3, 1) := by decide +kernel
theorem dX6_perform_70 : decode cX6_perform 70 = .ok (.aaload, 1) := by decide +kernel
theorem dX6_perform_71 : decode cX6_perform 71 = .ok (.invokevirtual 181, 3) := by decide +kernel
theorem dX6_perform_74 : decode cX6_perform 74 = .ok (.istore 6, 2) := by decide +kernel
theorem dX6_perform_76 : decode cX6_perform 76 = .ok (.goto 40, 3) := by decide +kernel
theorem dX6_perform_79 : decode cX6_perform 79 = .ok (.aload_n 0, 1) := by decide +kernel
theorem dX6_perform_80 : decode cX6_perform 80 = .ok (.aload 4, 2) := by decide +kernel
theorem dX6_perform_82 : decode cX6_perform 82 = .ok (.invokevirtual 185, 3) := by decide +kernel
theorem dX6_perform_85 : decode cX6_perform 85 = .ok (.istore 6, 2) := by decide +kernel
theorem dX6_perform_87 : decode cX6_perform 87 = .ok (.goto 29, 3) := by decide +kernel
theorem dX6_perform_90 : decode cX6_perform 90 = .ok (.aload_n 0, 1) := by decide +kernel
theorem dX6_perform_91 : decode cX6_perform 91 = .ok (.aload 4, 2) := by decide +kernel
theorem dX6_perform_93 : decode cX6_perform 93 = .ok (.iload_n 2, 1) := by decide +kernel
theorem dX6_perform_94 : decode cX6_perform 94 = .ok (.iload_n 3, 1) := by decide +kernel
theorem dX6_perform_95 : decode cX6_perform 95 = .ok (.invokevirtual 189, 3) := by decide +kernel
theorem dX6_perform_98 : decode cX6_perform 98 = .ok (.goto 18, 3) := by decide +kernel
theorem dX6_perform_101 : decode cX6_perform 101 = .ok (.aload_n 0, 1) := by decide +kernel
theorem dX6_perform_102 : decode cX6_perform 102 = .ok (.aload 4, 2) := by decide +kernel
theorem dX6_perform_104 : decode cX6_perform 104 = .ok (.invokevirtual 193, 3) := by decide +kernel
theorem dX6_perform_107 : decode cX6_perform 107 = .ok (.goto 9, 3) := by decide +kernel
theorem dX6_perform_110 : decode cX6_perform 110 = .ok (.aload_n 0, 1) := by decide +kernel
theorem dX6_perform_111 : decode cX6_perform 111 = .ok (.aload 4, 2) := by decide +kernel
theorem dX6_perform_113 : decode cX6_perform 113 = .ok (.invokevirtual 196, 3) := by decide +kernel
theorem dX6_perform_116 : decode cX6_perform 116 = .ok (.aload_n 0, 1) := by decide +kernel
theorem dX6_perform_117 : decode cX6_perform 117 = .ok (.getfield 47, 3) := by decide +kernel
theorem dX6_perform_120 : decode cX6_perform 120 = .ok (.iload_n 1, 1) := by decide +kernel
theorem dX6_perform_121 : decode cX6_perform 121 = .ok (.iload_n 2, 1) := by decide +kernel
theorem dX6_perform_122 : decode cX6_perform 122 = .ok (.iload_n 3, 1) := by decide +kernel
theorem dX6_perform_123 : decode cX6_perform 123 = .ok (.invokestatic 199, 3) := by decide +kernel
theorem dX6_perform_126 : decode cX6_perform 126 = .ok (.iload 6, 2) := by decide +kernel
theorem dX6_perform_128 : decode cX6_perform 128 = .ok (.aload_n 0, 1) := by decide +kernel
theorem dX6_perform_129 : decode cX6_perform 129 = .ok (.getfield 88, 3) := by decide +kernel
theorem dX6_perform_132 : decode cX6_perform 132 = .ok (.invokevirtual 203, 3) := by decide +kernel
theorem dX6_perform_135 : decode cX6_perform 135 = .ok (.aload_n 0, 1) := by decide +kernel
theorem dX6_perform_136 : decode cX6_perform 136 = .ok (.getfield 47, 3) := by decide +kernel
theorem dX6_perform_139 : decode cX6_perform 139 = .ok (.getfield 207, 3) := by decide +kernel
theorem dX6_perform_142 : decode cX6_perform 142 = .ok (.iload_n 1, 1) := by decide +kernel
theorem dX6_perform_143 : decode cX6_perform 143 = .ok (.dup2, 1) := by decide +kernel
theorem dX6_perform_144 : decode cX6_perform 144 = .ok (.iaload, 1) := by decide +kernel
theorem dX6_perform_145 : decode cX6_perform 145 = .ok (.iconst 1, 1) := by decide +kernel
theorem dX6_perform_146 : decode cX6_perform 146 = .ok (.iadd, 1) := by decide +kernel
theorem dX6_perform_147 : decode cX6_perform 147 = .ok (.iastore, 1) := by decide +kernel
theorem dX6_perform_148 : decode cX6_perform 148 = .ok (.aload_n 0, 1) := by decide +kernel
theorem dX6_perform_149 : decode cX6_perform 149 = .ok (.getfield 47, 3) := by decide +kernel
theorem dX6_perform_152 : decode cX6_perform 152 = .ok (.getfield 210, 3) := by decide +kernel
theorem dX6_perform_155 : decode cX6_perform 155 = .ok (.iload_n 1, 1) := by decide +kernel
theorem dX6_perform_156 : decode cX6_perform 156 = .ok (.dup2, 1) := by decide +kernel
theorem dX6_perform_157 : decode cX6_perform 157 = .ok (.iaload, 1) := by decide +kernel
theorem dX6_perform_158 : decode cX6_perform 158 = .ok (.aload_n 0, 1) := by decide +kernel
theorem dX6_perform_159 : decode cX6_perform 159 = .ok (.getfield 88, 3) := by decide +kernel
theorem dX6_perform_162 : decode cX6_perform 162 = .ok (.iload 5, 2) := by decide +kernel
theorem dX6_perform_164 : decode cX6_perform 164 = .ok (.isub, 1) := by decide +kernel
theorem dX6_perform_165 : decode cX6_perform 165 = .ok (.iadd, 1) := by decide +kernel
theorem dX6_perform_166 : decode cX6_perform 166 = .ok (.iastore, 1) := by decide +kernel
theorem dX6_perform_167 : decode cX6_perform 167 = .ok (.iload 6, 2) := by decide +kernel
theorem dX6_perform_169 : decode cX6_perform 169 = .ok (.ireturn, 1) := by decide +kernel
theorem dX6_changeTo_0 : decode cX6_changeTo 0 = .ok (.aload_n 0, 1) := by decide +kernel
theorem dX6_changeTo_1 : decode cX6_changeTo 1 = .ok (.iconst 0, 1) := by decide +kernel
theorem dX6_changeTo_2 : decode cX6_changeTo 2 = .ok (.iconst 0, 1) := by decide +kernel
theorem dX6_changeTo_3 : decode cX6_changeTo 3 = .ok (.aload_n 0, 1) := by decide +kernel
theorem dX6_changeTo_4 : decode cX6_changeTo 4 = .ok (.getfield 9, 3) := by decide +kernel
theorem dX6_changeTo_7 : decode cX6_changeTo 7 = .ok (.iconst 1, 1) := by decide +kernel
theorem dX6_changeTo_8 : decode cX6_changeTo 8 = .ok (.iaload, 1) := by decide +kernel
theorem dX6_changeTo_9 : decode cX6_changeTo 9 = .ok (.invokevirtual 213, 3) := by decide +kernel
theorem dX6_changeTo_12 : decode cX6_changeTo 12 = .ok (.aload_n 1, 1) := by decide +kernel
theorem dX6_changeTo_13 : decode cX6_changeTo 13 = .ok (.getfield 216, 3) := by decide +kernel
theorem dX6_changeTo_16 : decode cX6_changeTo 16 = .ok (.iconst (-1), 1) := by decide +kernel
theorem dX6_changeTo_17 : decode cX6_changeTo 17 = .ok (.if_icmp .eq 16, 3) := by decide +kernel
theorem dX6_changeTo_20 : decode cX6_changeTo 20 = .ok (.aload_n 0, 1) := by decide +kernel
theorem dX6_changeTo_21 : decode cX6_changeTo 21 = .ok (.getfield 21, 3) := by decide +kernel
theorem dX6_changeTo_24 : decode cX6_changeTo 24 = .ok (.aload_n 1, 1) := by decide +kernel
theorem dX6_changeTo_25 : decode cX6_changeTo 25 = .ok (.getfield 216, 3) := by decide +kernel
theorem dX6_changeTo_28 : decode cX6_changeTo 28 = .ok (.dup2, 1) := by decide +kernel
theorem dX6_changeTo_29 : decode cX6_changeTo 29 = .ok (.iaload, 1) := by decide +kernel
theorem dX6_changeTo_30 : decode cX6_changeTo 30 = .ok (.iconst 1, 1) := by decide +kernel
theorem dX6_changeTo_31 : decode cX6_changeTo 31 = .ok (.iadd, 1) := by decide +kernel
theorem dX6_changeTo_32 : decode cX6_changeTo 32 = .ok (.iastore, 1) := by decide +kernel
theorem dX6_changeTo_33 : decode cX6_changeTo 33 = .ok (.aload_n 0, 1) := by decide +kernel
theorem dX6_changeTo_34 : decode cX6_changeTo 34 = .ok (.getfield 21, 3) := by decide +kernel
theorem dX6_changeTo_37 : decode cX6_changeTo 37 = .ok (.iload_n 2, 1) := by decide +kernel
theorem dX6_changeTo_38 : decode cX6_changeTo 38 = .ok (.dup2, 1) := by decide +kernel
theorem dX6_changeTo_39 : decode cX6_changeTo 39 = .ok (.iaload, 1) := by decide +kernel
theorem dX6_changeTo_40 : decode cX6_changeTo 40 = .ok (.iconst 1, 1) := by decide +kernel
theorem dX6_changeTo_41 : decode cX6_changeTo 41 = .ok (.isub, 1) := by decide +kernel
theorem dX6_changeTo_42 : decode cX6_changeTo 42 = .ok (.iastore, 1) := by decide +kernel
theorem dX6_changeTo_43 : decode cX6_changeTo 43 = .ok (.aload_n 1, 1) := by decide +kernel
theorem dX6_changeTo_44 : decode cX6_changeTo 44 = .ok (.iload_n 2, 1) := by decide +kernel
theorem dX6_changeTo_45 : decode cX6_changeTo 45 = .ok (.putfield 216, 3) := by decide +kernel
theorem dX6_changeTo_48 : decode cX6_changeTo 48 = .ok (.aload_n 1, 1) := by decide +kernel
theorem dX6_changeTo_49 : decode cX6_changeTo 49 = .ok (.iconst 0, 1) := by decide +kernel
theorem dX6_changeTo_50 : decode cX6_changeTo 50 = .ok (.putfield 174, 3) := by decide +kernel
theorem dX6_changeTo_53 : decode cX6_changeTo 53 = .ok (.aload_n 1, 1) := by decide +kernel
theorem dX6_changeTo_54 : decode cX6_changeTo 54 = .ok (.dup, 1) := by decide +kernel
theorem dX6_changeTo_55 : decode cX6_changeTo 55 = .ok (.getfield 219, 3) := by decide +kernel
theorem dX6_changeTo_58 : decode cX6_changeTo 58 = .ok (.iconst 1, 1) := by decide +kernel
theorem dX6_changeTo_59 : decode cX6_changeTo 59 = .ok (.iadd, 1) := by decide +kernel
theorem dX6_changeTo_60 : decode cX6_changeTo 60 = .ok (.putfield 219, 3) := by decide +kernel
theorem dX6_changeTo_63 : decode cX6_changeTo 63 = .ok (.return_, 1) := by decide +kernel
theorem dX6_pickFrom_0 : decode cX6_pickFrom 0 = .ok (.aload_n 0, 1) := by decide +kernel
theorem dX6_pickFrom_1 : decode cX6_pickFrom 1 = .ok (.aload_n 2, 1) := by decide +kernel
theorem dX6_pickFrom_2 : decode cX6_pickFrom 2 = .ok (.getfield 126, 3) := by decide +kernel
theorem dX6_pickFrom_5 : decode cX6_pickFrom 5 = .ok (.iconst 0, 1) := by decide +kernel
theorem dX6_pickFrom_6 : decode cX6_pickFrom 6 = .ok (.aload_n 0, 1) := by decide +kernel
theorem dX6_pickFrom_7 : decode cX6_pickFrom 7 = .ok (.getfield 9, 3) := by decide +kernel
theorem dX6_pickFrom_10 : decode cX6_pickFrom 10 = .ok (.iconst 2, 1) := by decide +kernel
theorem dX6_pickFrom_11 : decode cX6_pickFrom 11 = .ok (.iaload, 1) := by decide +kernel
theorem dX6_pickFrom_12 : decode cX6_pickFrom 12 = .ok (.invokevirtual 213, 3) := by decide +kernel
theorem dX6_pickFrom_15 : decode cX6_pickFrom 15 = .ok (.aload_n 2, 1) := by decide +kernel
theorem dX6_pickFrom_16 : decode cX6_pickFrom 16 = .ok (.getfield 222, 3) := by decide +kernel
theorem dX6_pickFrom_19 : decode cX6_pickFrom 19 = .ok (.ifCond .eq 10, 3) := by decide +kernel
theorem dX6_pickFrom_22 : decode cX6_pickFrom 22 = .ok (.aload_n 2, 1) := by decide +kernel
theorem dX6_pickFrom_23 : decode cX6_pickFrom 23 = .ok (.iconst 0, 1) := by decide +kernel
theorem dX6_pickFrom_24 : decode cX6_pickFrom 24 = .ok (.putfield 222, 3) := by decide +kernel
theorem dX6_pickFrom_27 : decode cX6_pickFrom 27 = .ok (.iconst 0, 1) := by decide +kernel
theorem dX6_pickFrom_28 : decode cX6_pickFrom 28 = .ok (.ireturn, 1) := by decide +kernel
theorem dX6_pickFrom_29 : decode cX6_pickFrom 29 = .ok (.aload_n 0, 1) := by decide +kernel
theorem dX6_pickFrom_30 : decode cX6_pickFrom 30 = .ok (.aload_n 1, 1) := by decide +kernel
theorem dX6_pickFrom_31 : decode cX6_pickFrom 31 = .ok (.invokevirtual 225, 3) := by decide +kernel
theorem dX6_pickFrom_34 : decode cX6_pickFrom 34 = .ok (.ifCond .eq 18, 3) := by decide +kernel
theorem dX6_pickFrom_37 : decode cX6_pickFrom 37 = .ok (.aload_n 2, 1) := by decide +kernel
theorem dX6_pickFrom_38 : decode cX6_pickFrom 38 = .ok (.getfield 229, 3) := by decide +kernel
theorem dX6_pickFrom_41 : decode cX6_pickFrom 41 = .ok (.aload_n 0, 1) := by decide +kernel
theorem dX6_pickFrom_42 : decode cX6_pickFrom 42 = .ok (.getfield 9, 3) := by decide +kernel
theorem dX6_pickFrom_45 : decode cX6_pickFrom 45 = .ok (.bipush 13, 2) := by decide +kernel
theorem dX6_pickFrom_47 : decode cX6_pickFrom 47 = .ok (.iaload, 1) := by decide +kernel
theorem dX6_pickFrom_48 : decode cX6_pickFrom 48 = .ok (.iadd, 1) := by decide +kernel
theorem dX6_pickFrom_49 : decode cX6_pickFrom 49 = .ok (.goto 7, 3) := by decide +kernel
theorem dX6_pickFrom_52 : decode cX6_pickFrom 52 = .ok (.aload_n 2, 1) := by decide +kernel
theorem dX6_pickFrom_53 : decode cX6_pickFrom 53 = .ok (.getfield 229, 3) := by decide +kernel
theorem dX6_pickFrom_56 : decode cX6_pickFrom 56 = .ok (.istore_n 3, 1) := by decide +kernel
theorem dX6_pickFrom_57 : decode cX6_pickFrom 57 = .ok (.aload_n 0, 1) := by decide +kernel
theorem dX6_pickFrom_58 : decode cX6_pickFrom 58 = .ok (.invokevirtual 232, 3) := by decide +kernel
theorem dX6_pickFrom_61 : decode cX6_pickFrom 61 = .ok (.iload_n 3, 1) := by decide +kernel
theorem dX6_pickFrom_62 : decode cX6_pickFrom 62 = .ok (.if_icmp .ge 7, 3) := by decide +kernel
theorem dX6_pickFrom_65 : decode cX6_pickFrom 65 = .ok (.iconst 1, 1) := by decide +kernel
theorem dX6_pickFrom_66 : decode cX6_pickFrom 66 = .ok (.goto 4, 3) := by decide +kernel
theorem dX6_pickFrom_69 : decode cX6_pickFrom 69 = .ok (.iconst 0, 1) := by decide +kernel
theorem dX6_pickFrom_70 : decode cX6_pickFrom 70 = .ok (.istore 4, 2) := by decide +kernel
theorem dX6_pickFrom_72 : decode cX6_pickFrom 72 = .ok (.aload_n 1, 1) := by decide +kernel
theorem dX6_pickFrom_73 : decode cX6_pickFrom 73 = .ok (.dup, 1) := by decide +kernel
theorem dX6_pickFrom_74 : decode cX6_pickFrom 74 = .ok (.getfield 174, 3) := by decide +kernel
theorem dX6_pickFrom_77 : decode cX6_pickFrom 77 = .ok (.iconst 1, 1) := by decide +kernel
theorem dX6_pickFrom_78 : decode cX6_pickFrom 78 = .ok (.iadd, 1) := by decide +kernel
theorem dX6_pickFrom_79 : decode cX6_pickFrom 79 = .ok (.putfield 174, 3) := by decide +kernel
theorem dX6_pickFrom_82 : decode cX6_pickFrom 82 = .ok (.aload_n 2, 1) := by decide +kernel
theorem dX6_pickFrom_83 : decode cX6_pickFrom 83 = .ok (.dup, 1) := by decide +kernel
theorem dX6_pickFrom_84 : decode cX6_pickFrom 84 = .ok (.getfield 123, 3) := by decide +kernel
theorem dX6_pickFrom_87 : decode cX6_pickFrom 87 = .ok (.iconst 1, 1) := by decide +kernel
theorem dX6_pickFrom_88 : decode cX6_pickFrom 88 = .ok (.isub, 1) := by decide +kernel
theorem dX6_pickFrom_89 : decode cX6_pickFrom 89 = .ok (.putfield 123, 3) := by decide +kernel
theorem dX6_pickFrom_92 : decode cX6_pickFrom 92 = .ok (.iload 4, 2) := by decide +kernel
theorem dX6_pickFrom_94 : decode cX6_pickFrom 94 = .ok (.ifCond .eq 32, 3) := by decide +kernel
theorem dX6_pickFrom_97 : decode cX6_pickFrom 97 = .ok (.aload_n 2, 1) := by decide +kernel
theorem dX6_pickFrom_98 : decode cX6_pickFrom 98 = .ok (.dup, 1) := by decide +kernel
theorem dX6_pickFrom_99 : decode cX6_pickFrom 99 = .ok (.getfield 235, 3) := by decide +kernel
theorem dX6_pickFrom_102 : decode cX6_pickFrom 102 = .ok (.iconst 1, 1) := by decide +kernel
theorem dX6_pickFrom_103 : decode cX6_pickFrom 103 = .ok (.iadd, 1) := by decide +kernel
theorem dX6_pickFrom_104 : decode cX6_pickFrom 104 = .ok (.putfield 235, 3) := by decide +kernel
theorem dX6_pickFrom_107 : decode cX6_pickFrom 107 = .ok (.aload_n 0, 1) := by decide +kernel
theorem dX6_pickFrom_108 : decode cX6_pickFrom 108 = .ok (.getfield 27, 3) := by decide +kernel
theorem dX6_pickFrom_111 : decode cX6_pickFrom 111 = .ok (.getfield 152, 3) := by decide +kernel
theorem dX6_pickFrom_114 : decode cX6_pickFrom 114 = .ok (.aload_n 2, 1) := by decide +kernel
theorem dX6_pickFrom_115 : decode cX6_pickFrom 115 = .ok (.getfield 120, 3) := by decide +kernel
theorem dX6_pickFrom_118 : decode cX6_pickFrom 118 = .ok (.dup2, 1) := by decide +kernel
theorem dX6_pickFrom_119 : decode cX6_pickFrom 119 = .ok (.iaload, 1) := by decide +kernel
theorem dX6_pickFrom_120 : decode cX6_pickFrom 120 = .ok (.iconst 1, 1) := by decide +kernel
theorem dX6_pickFrom_121 : decode cX6_pickFrom 121 = .ok (.iadd, 1) := by decide +kernel
theorem dX6_pickFrom_122 : decode cX6_pickFrom 122 = .ok (.iastore, 1) := by decide +kernel
theorem dX6_pickFrom_123 : decode cX6_pickFrom 123 = .ok (.goto 21, 3) := by decide +kernel
theorem dX6_pickFrom_126 : decode cX6_pickFrom 126 = .ok (.aload_n 2, 1) := by decide +kernel
theorem dX6_pickFrom_127 : decode cX6_pickFrom 127 = .ok (.dup, 1) := by decide +kernel
theorem dX6_pickFrom_128 : decode cX6_pickFrom 128 = .ok (.getfield 237, 3) := by decide +kernel
theorem dX6_pickFrom_131 : decode cX6_pickFrom 131 = .ok (.iconst 1, 1) := by decide +kernel
theorem dX6_pickFrom_132 : decode cX6_pickFrom 132 = .ok (.iadd, 1) := by decide +kernel
theorem dX6_pickFrom_133 : decode cX6_pickFrom 133 = .ok (.putfield 237, 3) := by decide +kernel
theorem dX6_pickFrom_136 : decode cX6_pickFrom 136 = .ok (.aload_n 1, 1) := by decide +kernel
theorem dX6_pickFrom_137 : decode cX6_pickFrom 137 = .ok (.aload_n 2, 1) := by decide +kernel
theorem dX6_pickFrom_138 : decode cX6_pickFrom 138 = .ok (.getfield 120, 3) := by decide +kernel
theorem dX6_pickFrom_141 : decode cX6_pickFrom 141 = .ok (.putfield 133, 3) := by decide +kernel
theorem dX6_pickFrom_144 : decode cX6_pickFrom 144 = .ok (.aload_n 0, 1) := by decide +kernel
theorem dX6_pickFrom_145 : decode cX6_pickFrom 145 = .ok (.getfield 47, 3) := by decide +kernel
theorem dX6_pickFrom_148 : decode cX6_pickFrom 148 = .ok (.dup, 1) := by decide +kernel
theorem dX6_pickFrom_149 : decode cX6_pickFrom 149 = .ok (.getfield 240, 3) := by decide +kernel
theorem dX6_pickFrom_152 : decode cX6_pickFrom 152 = .ok (.aload_n 2, 1) := by decide +kernel
theorem dX6_pickFrom_153 : decode cX6_pickFrom 153 = .ok (.invokevirtual 243, 3) := by decide +kernel
theorem dX6_pickFrom_156 : decode cX6_pickFrom 156 = .ok (.iadd, 1) := by decide +kernel
theorem dX6_pickFrom_157 : decode cX6_pickFrom 157 = .ok (.putfield 240, 3) := by decide +kernel
theorem dX6_pickFrom_160 : decode cX6_pickFrom 160 = .ok (.iload 4, 2) := by decide +kernel
theorem dX6_pickFrom_162 : decode cX6_pickFrom 162 = .ok (.ifCond .eq 7, 3) := by decide +kernel
theorem dX6_pickFrom_165 : decode cX6_pickFrom 165 = .ok (.iconst 0, 1) := by decide +kernel
theorem dX6_pickFrom_166 : decode cX6_pickFrom 166 = .ok (.goto 4, 3) := by decide +kernel
theorem dX6_pickFrom_169 : decode cX6_pickFrom 169 = .ok (.iconst 1, 1) := by decide +kernel
theorem dX6_pickFrom_170 : decode cX6_pickFrom 170 = .ok (.ireturn, 1) := by decide +kernel
theorem dX6_lookAt_0 : decode cX6_lookAt 0 = .ok (.aload_n 0, 1) := by decide +kernel
theorem dX6_lookAt_1 : decode cX6_lookAt 1 = .ok (.aload_n 0, 1) := by decide +kernel
theorem dX6_lookAt_2 : decode cX6_lookAt 2 = .ok (.getfield 9, 3) := by decide +kernel
theorem dX6_lookAt_5 : decode cX6_lookAt 5 = .ok (.bipush 8, 2) := by decide +kernel
theorem dX6_lookAt_7 : decode cX6_lookAt 7 = .ok (.iaload, 1) := by decide +kernel
theorem dX6_lookAt_8 : decode cX6_lookAt 8 = .ok (.aload_n 0, 1) := by decide +kernel
theorem dX6_lookAt_9 : decode cX6_lookAt 9 = .ok (.getfield 9, 3) := by decide +kernel
theorem dX6_lookAt_12 : decode cX6_lookAt 12 = .ok (.bipush 9, 2) := by decide +kernel
theorem dX6_lookAt_14 : decode cX6_lookAt 14 = .ok (.iaload, 1) := by decide +kernel
theorem dX6_lookAt_15 : decode cX6_lookAt 15 = .ok (.aload_n 0, 1) := by decide +kernel
theorem dX6_lookAt_16 : decode cX6_lookAt 16 = .ok (.getfield 9, 3) := by decide +kernel
theorem dX6_lookAt_19 : decode cX6_lookAt 19 = .ok (.iconst 3, 1) := by decide +kernel
theorem dX6_lookAt_20 : decode cX6_lookAt 20 = .ok (.iaload, 1) := by decide +kernel
theorem dX6_lookAt_21 : decode cX6_lookAt 21 = .ok (.invokevirtual 213, 3) := by decide +kernel
theorem dX6_lookAt_24 : decode cX6_lookAt 24 = .ok (.aload_n 1, 1) := by decide +kernel
theorem dX6_lookAt_25 : decode cX6_lookAt 25 = .ok (.dup, 1) := by decide +kernel
theorem dX6_lookAt_26 : decode cX6_lookAt 26 = .ok (.getfield 246, 3) := by decide +kernel
theorem dX6_lookAt_29 : decode cX6_lookAt 29 = .ok (.iconst 1, 1) := by decide +kernel
theorem dX6_lookAt_30 : decode cX6_lookAt 30 = .ok (.iadd, 1) := by decide +kernel
theorem dX6_lookAt_31 : decode cX6_lookAt 31 = .ok (.putfield 246, 3) := by decide +kernel
theorem dX6_lookAt_34 : decode cX6_lookAt 34 = .ok (.aload_n 0, 1) := by decide +kernel
theorem dX6_lookAt_35 : decode cX6_lookAt 35 = .ok (.invokevirtual 232, 3) := by decide +kernel
theorem dX6_lookAt_38 : decode cX6_lookAt 38 = .ok (.istore_n 2, 1) := by decide +kernel
theorem dX6_lookAt_39 : decode cX6_lookAt 39 = .ok (.iload_n 2, 1) := by decide +kernel
theorem dX6_lookAt_40 : decode cX6_lookAt 40 = .ok (.aload_n 0, 1) := by decide +kernel
theorem dX6_lookAt_41 : decode cX6_lookAt 41 = .ok (.getfield 9, 3) := by decide +kernel
theorem dX6_lookAt_44 : decode cX6_lookAt 44 = .ok (.iconst 5, 1) := by decide +kernel
theorem dX6_lookAt_45 : decode cX6_lookAt 45 = .ok (.iaload, 1) := by decide +kernel
theorem dX6_lookAt_46 : decode cX6_lookAt 46 = .ok (.if_icmp .ge 28, 3) := by decide +kernel
theorem dX6_lookAt_49 : decode cX6_lookAt 49 = .ok (.aload_n 1, 1) := by decide +kernel
theorem dX6_lookAt_50 : decode cX6_lookAt 50 = .ok (.iconst 1, 1) := by decide +kernel
theorem dX6_lookAt_51 : decode cX6_lookAt 51 = .ok (.putfield 249, 3) := by decide +kernel
theorem dX6_lookAt_54 : decode cX6_lookAt 54 = .ok (.aload_n 0, 1) := by decide +kernel
theorem dX6_lookAt_55 : decode cX6_lookAt 55 = .ok (.getfield 47, 3) := by decide +kernel
theorem dX6_lookAt_58 : decode cX6_lookAt 58 = .ok (.dup, 1) := by decide +kernel
theorem dX6_lookAt_59 : decode cX6_lookAt 59 = .ok (.getfield 252, 3) := by decide +kernel
theorem dX6_lookAt_62 : decode cX6_lookAt 62 = .ok (.iconst 1, 1) := by decide +kernel
theorem dX6_lookAt_63 : decode cX6_lookAt 63 = .ok (.iadd, 1) := by decide +kernel
theorem dX6_lookAt_64 : decode cX6_lookAt 64 = .ok (.putfield 252, 3) := by decide +kernel
theorem dX6_lookAt_67 : decode cX6_lookAt 67 = .ok (.aload_n 0, 1) := by decide +kernel
theorem dX6_lookAt_68 : decode cX6_lookAt 68 = .ok (.iconst 0, 1) := by decide +kernel
theorem dX6_lookAt_69 : decode cX6_lookAt 69 = .ok (.putfield 91, 3) := by decide +kernel
theorem dX6_lookAt_72 : decode cX6_lookAt 72 = .ok (.iconst 1, 1) := by decide +kernel
theorem dX6_lookAt_73 : decode cX6_lookAt 73 = .ok (.ireturn, 1) := by decide +kernel
theorem dX6_lookAt_74 : decode cX6_lookAt 74 = .ok (.iload_n 2, 1) := by decide +kernel
theorem dX6_lookAt_75 : decode cX6_lookAt 75 = .ok (.aload_n 0, 1) := by decide +kernel
theorem dX6_lookAt_76 : decode cX6_lookAt 76 = .ok (.getfield 9, 3) := by decide +kernel
theorem dX6_lookAt_79 : decode cX6_lookAt 79 = .ok (.iconst 5, 1) := by decide +kernel
theorem dX6_lookAt_80 : decode cX6_lookAt 80 = .ok (.iaload, 1) := by decide +kernel
theorem dX6_lookAt_81 : decode cX6_lookAt 81 = .ok (.aload_n 0, 1) := by decide +kernel
theorem dX6_lookAt_82 : decode cX6_lookAt 82 = .ok (.getfield 9, 3) := by decide +kernel
theorem dX6_lookAt_85 : decode cX6_lookAt 85 = .ok (.bipush 6, 2) := by decide +kernel
theorem dX6_lookAt_87 : decode cX6_lookAt 87 = .ok (.iaload, 1) := by decide +kernel
theorem dX6_lookAt_88 : decode cX6_lookAt 88 = .ok (.iadd, 1) := by decide +kernel
theorem dX6_lookAt_89 : decode cX6_lookAt 89 = .ok (.if_icmp .ge 19, 3) := by decide +kernel
theorem dX6_lookAt_92 : decode cX6_lookAt 92 = .ok (.aload_n 1, 1) := by decide +kernel
theorem dX6_lookAt_93 : decode cX6_lookAt 93 = .ok (.getfield 246, 3) := by decide +kernel
theorem dX6_lookAt_96 : decode cX6_lookAt 96 = .ok (.aload_n 0, 1) := by decide +kernel
theorem dX6_lookAt_97 : decode cX6_lookAt 97 = .ok (.getfield 9, 3) := by decide +kernel
theorem dX6_lookAt_100 : decode cX6_lookAt 100 = .ok (.bipush 7, 2) := by decide +kernel
theorem dX6_lookAt_102 : decode cX6_lookAt 102 = .ok (.iaload, 1) := by decide +kernel
theorem dX6_lookAt_103 : decode cX6_lookAt 103 = .ok (.if_icmp .gt 5, 3) := by decide +kernel
theorem dX6_lookAt_106 : decode cX6_lookAt 106 = .ok (.iconst 0, 1) := by decide +kernel
theorem dX6_lookAt_107 : decode cX6_lookAt 107 = .ok (.ireturn, 1) := by decide +kernel
theorem dX6_lookAt_108 : decode cX6_lookAt 108 = .ok (.aload_n 0, 1) := by decide +kernel
theorem dX6_lookAt_109 : decode cX6_lookAt 109 = .ok (.aload_n 1, 1) := by decide +kernel
theorem dX6_lookAt_110 : decode cX6_lookAt 110 = .ok (.invokevirtual 193, 3) := by decide +kernel
theorem dX6_lookAt_113 : decode cX6_lookAt 113 = .ok (.aload_n 0, 1) := by decide +kernel
theorem dX6_lookAt_114 : decode cX6_lookAt 114 = .ok (.dup, 1) := by decide +kernel
theorem dX6_lookAt_115 : decode cX6_lookAt 115 = .ok (.getfield 91, 3) := by decide +kernel
theorem dX6_lookAt_118 : decode cX6_lookAt 118 = .ok (.iconst 1, 1) := by decide +kernel
theorem dX6_lookAt_119 : decode cX6_lookAt 119 = .ok (.iadd, 1) := by decide +kernel
theorem dX6_lookAt_120 : decode cX6_lookAt 120 = .ok (.putfield 91, 3) := by decide +kernel
theorem dX6_lookAt_123 : decode cX6_lookAt 123 = .ok (.aload_n 0, 1) := by decide +kernel
theorem dX6_lookAt_124 : decode cX6_lookAt 124 = .ok (.getfield 9, 3) := by decide +kernel
theorem dX6_lookAt_127 : decode cX6_lookAt 127 = .ok (.bipush 11, 2) := by decide +kernel
theorem dX6_lookAt_129 : decode cX6_lookAt 129 = .ok (.iaload, 1) := by decide +kernel
theorem dX6_lookAt_130 : decode cX6_lookAt 130 = .ok (.ifCond .le 22, 3) := by decide +kernel
theorem dX6_lookAt_133 : decode cX6_lookAt 133 = .ok (.aload_n 0, 1) := by decide +kernel
theorem dX6_lookAt_134 : decode cX6_lookAt 134 = .ok (.getfield 91, 3) := by decide +kernel
theorem dX6_lookAt_137 : decode cX6_lookAt 137 = .ok (.aload_n 0, 1) := by decide +kernel
theorem dX6_lookAt_138 : decode cX6_lookAt 138 = .ok (.getfield 9, 3) := by decide +kernel
theorem dX6_lookAt_141 : decode cX6_lookAt 141 = .ok (.bipush 11, 2) := by decide +kernel
theorem dX6_lookAt_143 : decode cX6_lookAt 143 = .ok (.iaload, 1) := by decide +kernel
theorem dX6_lookAt_144 : decode cX6_lookAt 144 = .ok (.if_icmp .lt 8, 3) := by decide +kernel
theorem dX6_lookAt_147 : decode cX6_lookAt 147 = .ok (.aload_n 0, 1) := by decide +kernel
theorem dX6_lookAt_148 : decode cX6_lookAt 148 = .ok (.iconst 1, 1) := by decide +kernel
theorem dX6_lookAt_149 : decode cX6_lookAt 149 = .ok (.putfield 94, 3) := by decide +kernel
theorem dX6_lookAt_152 : decode cX6_lookAt 152 = .ok (.iconst 2, 1) := by decide +kernel
theorem dX6_lookAt_153 : decode cX6_lookAt 153 = .ok (.ireturn, 1) := by decide +kernel
theorem dX6_putOn_0 : decode cX6_putOn 0 = .ok (.aload_n 0, 1) := by decide +kernel
theorem dX6_putOn_1 : decode cX6_putOn 1 = .ok (.aload_n 0, 1) := by decide +kernel
theorem dX6_putOn_2 : decode cX6_putOn 2 = .ok (.getfield 40, 3) := by decide +kernel
theorem dX6_putOn_5 : decode cX6_putOn 5 = .ok (.getfield 255, 3) := by decide +kernel
theorem dX6_putOn_8 : decode cX6_putOn 8 = .ok (.iload_n 3, 1) := by decide +kernel
theorem dX6_putOn_9 : decode cX6_putOn 9 = .ok (.iaload, 1) := by decide +kernel
theorem dX6_putOn_10 : decode cX6_putOn 10 = .ok (.aload_n 0, 1) := by decide +kernel
theorem dX6_putOn_11 : decode cX6_putOn 11 = .ok (.getfield 40, 3) := by decide +kernel
theorem dX6_putOn_14 : decode cX6_putOn 14 = .ok (.getfield 257, 3) := by decide +kernel
theorem dX6_putOn_17 : decode cX6_putOn 17 = .ok (.iload_n 3, 1) := by decide +kernel
theorem dX6_putOn_18 : decode cX6_putOn 18 = .ok (.iaload, 1) := by decide +kernel
theorem dX6_putOn_19 : decode cX6_putOn 19 = .ok (.aload_n 0, 1) := by decide +kernel
theorem dX6_putOn_20 : decode cX6_putOn 20 = .ok (.getfield 9, 3) := by decide +kernel
theorem dX6_putOn_23 : decode cX6_putOn 23 = .ok (.iconst 4, 1) := by decide +kernel
theorem dX6_putOn_24 : decode cX6_putOn 24 = .ok (.iaload, 1) := by decide +kernel
theorem dX6_putOn_25 : decode cX6_putOn 25 = .ok (.invokevirtual 213, 3) := by decide +kernel
theorem dX6_putOn_28 : decode cX6_putOn 28 = .ok (.aload_n 0, 1) := by decide +kernel
theorem dX6_putOn_29 : decode cX6_putOn 29 = .ok (.getfield 40, 3) := by decide +kernel
theorem dX6_putOn_32 : decode cX6_putOn 32 = .ok (.iload_n 3, 1) := by decide +kernel
theorem dX6_putOn_33 : decode cX6_putOn 33 = .ok (.iload_n 2, 1) := by decide +kernel
theorem dX6_putOn_34 : decode cX6_putOn 34 = .ok (.aload_n 0, 1) := by decide +kernel
theorem dX6_putOn_35 : decode cX6_putOn 35 = .ok (.getfield 88, 3) := by decide +kernel
theorem dX6_putOn_38 : decode cX6_putOn 38 = .ok (.invokevirtual 259, 3) := by decide +kernel
theorem dX6_putOn_41 : decode cX6_putOn 41 = .ok (.aload_n 0, 1) := by decide +kernel
theorem dX6_putOn_42 : decode cX6_putOn 42 = .ok (.getfield 27, 3) := by decide +kernel
theorem dX6_putOn_45 : decode cX6_putOn 45 = .ok (.getfield 146, 3) := by decide +kernel
theorem dX6_putOn_48 : decode cX6_putOn 48 = .ok (.aload_n 1, 1) := by decide +kernel
theorem dX6_putOn_49 : decode cX6_putOn 49 = .ok (.getfield 133, 3) := by decide +kernel
theorem dX6_putOn_52 : decode cX6_putOn 52 = .ok (.dup2, 1) := by decide +kernel
theorem dX6_putOn_53 : decode cX6_putOn 53 = .ok (.iaload, 1) := by decide +kernel
theorem dX6_putOn_54 : decode cX6_putOn 54 = .ok (.iconst 1, 1) := by decide +kernel
theorem dX6_putOn_55 : decode cX6_putOn 55 = .ok (.iadd, 1) := by decide +kernel
theorem dX6_putOn_56 : decode cX6_putOn 56 = .ok (.iastore, 1) := by decide +kernel
theorem dX6_putOn_57 : decode cX6_putOn 57 = .ok (.aload_n 1, 1) := by decide +kernel
theorem dX6_putOn_58 : decode cX6_putOn 58 = .ok (.dup, 1) := by decide +kernel
theorem dX6_putOn_59 : decode cX6_putOn 59 = .ok (.getfield 262, 3) := by decide +kernel
theorem dX6_putOn_62 : decode cX6_putOn 62 = .ok (.iconst 1, 1) := by decide +kernel
theorem dX6_putOn_63 : decode cX6_putOn 63 = .ok (.iadd, 1) := by decide +kernel
theorem dX6_putOn_64 : decode cX6_putOn 64 = .ok (.putfield 262, 3) := by decide +kernel
theorem dX6_putOn_67 : decode cX6_putOn 67 = .ok (.aload_n 1, 1) := by decide +kernel
theorem dX6_putOn_68 : decode cX6_putOn 68 = .ok (.invokevirtual 264, 3) := by decide +kernel
theorem dX6_putOn_71 : decode cX6_putOn 71 = .ok (.return_, 1) := by decide +kernel
theorem dX6_cleanOf_0 : decode cX6_cleanOf 0 = .ok (.aload_n 0, 1) := by decide +kernel
theorem dX6_cleanOf_1 : decode cX6_cleanOf 1 = .ok (.iconst 0, 1) := by decide +kernel
theorem dX6_cleanOf_2 : decode cX6_cleanOf 2 = .ok (.iconst 0, 1) := by decide +kernel
theorem dX6_cleanOf_3 : decode cX6_cleanOf 3 = .ok (.aload_n 0, 1) := by decide +kernel
theorem dX6_cleanOf_4 : decode cX6_cleanOf 4 = .ok (.getfield 9, 3) := by decide +kernel
theorem dX6_cleanOf_7 : decode cX6_cleanOf 7 = .ok (.bipush 14, 2) := by decide +kernel
theorem dX6_cleanOf_9 : decode cX6_cleanOf 9 = .ok (.iaload, 1) := by decide +kernel
theorem dX6_cleanOf_10 : decode cX6_cleanOf 10 = .ok (.invokevirtual 213, 3) := by decide +kernel
theorem dX6_cleanOf_13 : decode cX6_cleanOf 13 = .ok (.aload_n 1, 1) := by decide +kernel
theorem dX6_cleanOf_14 : decode cX6_cleanOf 14 = .ok (.iconst 0, 1) := by decide +kernel
theorem dX6_cleanOf_15 : decode cX6_cleanOf 15 = .ok (.putfield 174, 3) := by decide +kernel
theorem dX6_cleanOf_18 : decode cX6_cleanOf 18 = .ok (.return_, 1) := by decide +kernel
theorem dX6_reject_0 : decode cX6_reject 0 = .ok (.aload_n 0, 1) := by decide +kernel
theorem dX6_reject_1 : decode cX6_reject 1 = .ok (.getfield 27, 3) := by decide +kernel
theorem dX6_reject_4 : decode cX6_reject 4 = .ok (.getfield 149, 3) := by decide +kernel
theorem dX6_reject_7 : decode cX6_reject 7 = .ok (.aload_n 1, 1) := by decide +kernel
theorem dX6_reject_8 : decode cX6_reject 8 = .ok (.getfield 133, 3) := by decide +kernel
theorem dX6_reject_11 : decode cX6_reject 11 = .ok (.dup2, 1) := by decide +kernel
theorem dX6_reject_12 : decode cX6_reject 12 = .ok (.iaload, 1) := by decide +kernel
theorem dX6_reject_13 : decode cX6_reject 13 = .ok (.iconst 1, 1) := by decide +kernel
theorem dX6_reject_14 : decode cX6_reject 14 = .ok (.iadd, 1) := by decide +kernel
theorem dX6_reject_15 : decode cX6_reject 15 = .ok (.iastore, 1) := by decide +kernel
theorem dX6_reject_16 : decode cX6_reject 16 = .ok (.aload_n 1, 1) := by decide +kernel
theorem dX6_reject_17 : decode cX6_reject 17 = .ok (.dup, 1) := by decide +kernel
theorem dX6_reject_18 : decode cX6_reject 18 = .ok (.getfield 267, 3) := by decide +kernel
theorem dX6_reject_21 : decode cX6_reject 21 = .ok (.iconst 1, 1) := by decide +kernel
theorem dX6_reject_22 : decode cX6_reject 22 = .ok (.iadd, 1) := by decide +kernel
theorem dX6_reject_23 : decode cX6_reject 23 = .ok (.putfield 267, 3) := by decide +kernel
theorem dX6_reject_26 : decode cX6_reject 26 = .ok (.aload_n 1, 1) := by decide +kernel
theorem dX6_reject_27 : decode cX6_reject 27 = .ok (.invokevirtual 264, 3) := by decide +kernel
theorem dX6_reject_30 : decode cX6_reject 30 = .ok (.return_, 1) := by decide +kernel
theorem dX6_goTo_0 : decode cX6_goTo 0 = .ok (.aload_n 0, 1) := by decide +kernel
theorem dX6_goTo_1 : decode cX6_goTo 1 = .ok (.dup, 1) := by decide +kernel
theorem dX6_goTo_2 : decode cX6_goTo 2 = .ok (.getfield 88, 3) := by decide +kernel
theorem dX6_goTo_5 : decode cX6_goTo 5 = .ok (.aload_n 0, 1) := by decide +kernel
theorem dX6_goTo_6 : decode cX6_goTo 6 = .ok (.iload_n 1, 1) := by decide +kernel
theorem dX6_goTo_7 : decode cX6_goTo 7 = .ok (.iload_n 2, 1) := by decide +kernel
theorem dX6_goTo_8 : decode cX6_goTo 8 = .ok (.invokevirtual 269, 3) := by decide +kernel
theorem dX6_goTo_11 : decode cX6_goTo 11 = .ok (.iload_n 3, 1) := by decide +kernel
theorem dX6_goTo_12 : decode cX6_goTo 12 = .ok (.iadd, 1) := by decide +kernel
theorem dX6_goTo_13 : decode cX6_goTo 13 = .ok (.iadd, 1) := by decide +kernel
theorem dX6_goTo_14 : decode cX6_goTo 14 = .ok (.putfield 88, 3) := by decide +kernel
theorem dX6_goTo_17 : decode cX6_goTo 17 = .ok (.aload_n 0, 1) := by decide +kernel
theorem dX6_goTo_18 : decode cX6_goTo 18 = .ok (.iload_n 1, 1) := by decide +kernel
theorem dX6_goTo_19 : decode cX6_goTo 19 = .ok (.putfield 82, 3) := by decide +kernel
theorem dX6_goTo_22 : decode cX6_goTo 22 = .ok (.aload_n 0, 1) := by decide +kernel
theorem dX6_goTo_23 : decode cX6_goTo 23 = .ok (.iload_n 2, 1) := by decide +kernel
theorem dX6_goTo_24 : decode cX6_goTo 24 = .ok (.putfield 85, 3) := by decide +kernel
theorem dX6_goTo_27 : decode cX6_goTo 27 = .ok (.return_, 1) := by decide +kernel
theorem dX6_wayTo_0 : decode cX6_wayTo 0 = .ok (.iload_n 1, 1) := by decide +kernel
theorem dX6_wayTo_1 : decode cX6_wayTo 1 = .ok (.aload_n 0, 1) := by decide +kernel
theorem dX6_wayTo_2 : decode cX6_wayTo 2 = .ok (.getfield 82, 3) := by decide +kernel
theorem dX6_wayTo_5 : decode cX6_wayTo 5 = .ok (.isub, 1) := by decide +kernel
theorem dX6_wayTo_6 : decode cX6_wayTo 6 = .ok (.invokestatic 127, 3) := by decide +kernel
theorem dX6_wayTo_9 : decode cX6_wayTo 9 = .ok (.iload_n 2, 1) := by decide +kernel
theorem dX6_wayTo_10 : decode cX6_wayTo 10 = .ok (.aload_n 0, 1) := by decide +kernel
theorem dX6_wayTo_11 : decode cX6_wayTo 11 = .ok (.getfield 85, 3) := by decide +kernel
theorem dX6_wayTo_14 : decode cX6_wayTo 14 = .ok (.isub, 1) := by decide +kernel
theorem dX6_wayTo_15 : decode cX6_wayTo 15 = .ok (.invokestatic 127, 3) := by decide +kernel
theorem dX6_wayTo_18 : decode cX6_wayTo 18 = .ok (.invokestatic 164, 3) := by decide +kernel
theorem dX6_wayTo_21 : decode cX6_wayTo 21 = .ok (.istore_n 3, 1) := by decide +kernel
theorem dX6_wayTo_22 : decode cX6_wayTo 22 = .ok (.aload_n 0, 1) := by decide +kernel
theorem dX6_wayTo_23 : decode cX6_wayTo 23 = .ok (.getfield 9, 3) := by decide +kernel
theorem dX6_wayTo_26 : decode cX6_wayTo 26 = .ok (.iconst 0, 1) := by decide +kernel
theorem dX6_wayTo_27 : decode cX6_wayTo 27 = .ok (.iaload, 1) := by decide +kernel
theorem dX6_wayTo_28 : decode cX6_wayTo 28 = .ok (.istore 4, 2) := by decide +kernel
theorem dX6_wayTo_30 : decode cX6_wayTo 30 = .ok (.iload 4, 2) := by decide +kernel
theorem dX6_wayTo_32 : decode cX6_wayTo 32 = .ok (.iconst 1, 1) := by decide +kernel
theorem dX6_wayTo_33 : decode cX6_wayTo 33 = .ok (.if_icmp .ge 7, 3) := by decide +kernel
theorem dX6_wayTo_36 : decode cX6_wayTo 36 = .ok (.iload_n 3, 1) := by decide +kernel
theorem dX6_wayTo_37 : decode cX6_wayTo 37 = .ok (.goto 12, 3) := by decide +kernel
theorem dX6_wayTo_40 : decode cX6_wayTo 40 = .ok (.iload_n 3, 1) := by decide +kernel
theorem dX6_wayTo_41 : decode cX6_wayTo 41 = .ok (.iload 4, 2) := by decide +kernel
theorem dX6_wayTo_43 : decode cX6_wayTo 43 = .ok (.iadd, 1) := by decide +kernel
theorem dX6_wayTo_44 : decode cX6_wayTo 44 = .ok (.iconst 1, 1) := by decide +kernel
theorem dX6_wayTo_45 : decode cX6_wayTo 45 = .ok (.isub, 1) := by decide +kernel
theorem dX6_wayTo_46 : decode cX6_wayTo 46 = .ok (.iload 4, 2) := by decide +kernel
theorem dX6_wayTo_48 : decode cX6_wayTo 48 = .ok (.idiv, 1) := by decide +kernel
theorem dX6_wayTo_49 : decode cX6_wayTo 49 = .ok (.ireturn, 1) := by decide +kernel
theorem dX6_draw_0 : decode cX6_draw 0 = .ok (.aload_n 0, 1) := by decide +kernel
theorem dX6_draw_1 : decode cX6_draw 1 = .ok (.getfield 9, 3) := by decide +kernel
theorem dX6_draw_4 : decode cX6_draw 4 = .ok (.bipush 10, 2) := by decide +kernel
theorem dX6_draw_6 : decode cX6_draw 6 = .ok (.aload_n 0, 1) := by decide +kernel
theorem dX6_draw_7 : decode cX6_draw 7 = .ok (.getfield 9, 3) := by decide +kernel
theorem dX6_draw_10 : decode cX6_draw 10 = .ok (.bipush 10, 2) := by decide +kernel
theorem dX6_draw_12 : decode cX6_draw 12 = .ok (.iaload, 1) := by decide +kernel
theorem dX6_draw_13 : decode cX6_draw 13 = .ok (.i2l, 1) := by decide +kernel
theorem dX6_draw_14 : decode cX6_draw 14 = .ok (.ldc2_w 272, 3) := by decide +kernel
theorem dX6_draw_17 : decode cX6_draw 17 = .ok (.lmul, 1) := by decide +kernel
theorem dX6_draw_18 : decode cX6_draw 18 = .ok (.ldc2_w 274, 3) := by decide +kernel
theorem dX6_draw_21 : decode cX6_draw 21 = .ok (.ladd, 1) := by decide +kernel
theorem dX6_draw_22 : decode cX6_draw 22 = .ok (.ldc2_w 276, 3) := by decide +kernel
theorem dX6_draw_25 : decode cX6_draw 25 = .ok (.lrem, 1) := by decide +kernel
theorem dX6_draw_26 : decode cX6_draw 26 = .ok (.l2i, 1) := by decide +kernel
theorem dX6_draw_27 : decode cX6_draw 27 = .ok (.iastore, 1) := by decide +kernel
theorem dX6_draw_28 : decode cX6_draw 28 = .ok (.aload_n 0, 1) := by decide +kernel
theorem dX6_draw_29 : decode cX6_draw 29 = .ok (.getfield 9, 3) := by decide +kernel
theorem dX6_draw_32 : decode cX6_draw 32 = .ok (.bipush 10, 2) := by decide +kernel
theorem dX6_draw_34 : decode cX6_draw 34 = .ok (.iaload, 1) := by decide +kernel
theorem dX6_draw_35 : decode cX6_draw 35 = .ok (.ldc_w 278, 3) := by decide +kernel
theorem dX6_draw_38 : decode cX6_draw 38 = .ok (.idiv, 1) := by decide +kernel
theorem dX6_draw_39 : decode cX6_draw 39 = .ok (.bipush 100, 2) := by decide +kernel
theorem dX6_draw_41 : decode cX6_draw 41 = .ok (.irem, 1) := by decide +kernel
theorem dX6_draw_42 : decode cX6_draw 42 = .ok (.ireturn, 1) := by decide +kernel
theorem dX7_init_0 : decode cX7_init 0 = .ok (.aload_n 0, 1) := by decide +kernel
theorem dX7_init_1 : decode cX7_init 1 = .ok (.invokespecial 3, 3) := by decide +kernel
theorem dX7_init_4 : decode cX7_init 4 = .ok (.aload_n 0, 1) := by decide +kernel
theorem dX7_init_5 : decode cX7_init 5 = .ok (.aload_n 1, 1) := by decide +kernel
theorem dX7_init_6 : decode cX7_init 6 = .ok (.putfield 9, 3) := by decide +kernel
theorem dX7_init_9 : decode cX7_init 9 = .ok (.return_, 1) := by decide +kernel
theorem dX7_next_0 : decode cX7_next 0 = .ok (.aload_n 0, 1) := by decide +kernel
theorem dX7_next_1 : decode cX7_next 1 = .ok (.getfield 9, 3) := by decide +kernel
theorem dX7_next_4 : decode cX7_next 4 = .ok (.getfield 15, 3) := by decide +kernel
theorem dX7_next_7 : decode cX7_next 7 = .ok (.ifCond .eq 5, 3) := by decide +kernel
theorem dX7_next_10 : decode cX7_next 10 = .ok (.iconst 0, 1) := by decide +kernel
theorem dX7_next_11 : decode cX7_next 11 = .ok (.ireturn, 1) := by decide +kernel
theorem dX7_next_12 : decode cX7_next 12 = .ok (.aload_n 0, 1) := by decide +kernel
theorem dX7_next_13 : decode cX7_next 13 = .ok (.getfield 9, 3) := by decide +kernel
theorem dX7_next_16 : decode cX7_next 16 = .ok (.getfield 21, 3) := by decide +kernel
theorem dX7_next_19 : decode cX7_next 19 = .ok (.invokevirtual 25, 3) := by decide +kernel
theorem dX7_next_22 : decode cX7_next 22 = .ok (.lstore_n 1, 1) := by decide +kernel
theorem dX7_next_23 : decode cX7_next 23 = .ok (.aload_n 0, 1) := by decide +kernel
theorem dX7_next_24 : decode cX7_next 24 = .ok (.lload_n 1, 1) := by decide +kernel
theorem dX7_next_25 : decode cX7_next 25 = .ok (.invokevirtual 31, 3) := by decide +kernel
theorem dX7_next_28 : decode cX7_next 28 = .ok (.ifCond .ne 18, 3) := by decide +kernel
theorem dX7_next_31 : decode cX7_next 31 = .ok (.aload_n 0, 1) := by decide +kernel
theorem dX7_next_32 : decode cX7_next 32 = .ok (.invokevirtual 35, 3) := by decide +kernel
theorem dX7_next_35 : decode cX7_next 35 = .ok (.ifCond .ne 11, 3) := by decide +kernel
theorem dX7_next_38 : decode cX7_next 38 = .ok (.aload_n 0, 1) := by decide +kernel
theorem dX7_next_39 : decode cX7_next 39 = .ok (.lload_n 1, 1) := by decide +kernel
theorem dX7_next_40 : decode cX7_next 40 = .ok (.invokevirtual 39, 3) := by decide +kernel
theorem dX7_next_43 : decode cX7_next 43 = .ok (.ifCond .eq 7, 3) := by decide +kernel
theorem dX7_next_46 : decode cX7_next 46 = .ok (.iconst 1, 1) := by decide +kernel
theorem dX7_next_47 : decode cX7_next 47 = .ok (.goto 4, 3) := by decide +kernel
theorem dX7_next_50 : decode cX7_next 50 = .ok (.iconst 0, 1) := by decide +kernel
theorem dX7_next_51 : decode cX7_next 51 = .ok (.ireturn, 1) := by decide +kernel
theorem dX7_follow_0 : decode cX7_follow 0 = .ok (.aload_n 0, 1) := by decide +kernel
theorem dX7_follow_1 : decode cX7_follow 1 = .ok (.invokevirtual 42, 3) := by decide +kernel
theorem dX7_follow_4 : decode cX7_follow 4 = .ok (.ifCond .eq 25, 3) := by decide +kernel
theorem dX7_follow_7 : decode cX7_follow 7 = .ok (.aload_n 0, 1) := by decide +kernel
theorem dX7_follow_8 : decode cX7_follow 8 = .ok (.getfield 9, 3) := by decide +kernel
theorem dX7_follow_11 : decode cX7_follow 11 = .ok (.aload_n 0, 1) := by decide +kernel
theorem dX7_follow_12 : decode cX7_follow 12 = .ok (.getfield 45, 3) := by decide +kernel
theorem dX7_follow_15 : decode cX7_follow 15 = .ok (.aload_n 0, 1) := by decide +kernel
theorem dX7_follow_16 : decode cX7_follow 16 = .ok (.getfield 49, 3) := by decide +kernel
theorem dX7_follow_19 : decode cX7_follow 19 = .ok (.aload_n 0, 1) := by decide +kernel
theorem dX7_follow_20 : decode cX7_follow 20 = .ok (.getfield 52, 3) := by decide +kernel
theorem dX7_follow_23 : decode cX7_follow 23 = .ok (.invokevirtual 55, 3) := by decide +kernel
theorem dX7_follow_26 : decode cX7_follow 26 = .ok (.goto 4, 3) := by decide +kernel
theorem dX7_follow_29 : decode cX7_follow 29 = .ok (.iconst (-1), 1) := by decide +kernel
theorem dX7_follow_30 : decode cX7_follow 30 = .ok (.ireturn, 1) := by decide +kernel
theorem dX7_decide_0 : decode cX7_decide 0 = .ok (.aload_n 0, 1) := by decide +kernel
theorem dX7_decide_1 : decode cX7_decide 1 = .ok (.iload_n 1, 1) := by decide +kernel
theorem dX7_decide_2 : decode cX7_decide 2 = .ok (.putfield 45, 3) := by decide +kernel
theorem dX7_decide_5 : decode cX7_decide 5 = .ok (.aload_n 0, 1) := by decide +kernel
theorem dX7_decide_6 : decode cX7_decide 6 = .ok (.iload_n 2, 1) := by decide +kernel
theorem dX7_decide_7 : decode cX7_decide 7 = .ok (.putfield 49, 3) := by decide +kernel
theorem dX7_decide_10 : decode cX7_decide 10 = .ok (.aload_n 0, 1) := by decide +kernel
theorem dX7_decide_11 : decode cX7_decide 11 = .ok (.iload_n 3, 1) := by decide +kernel
theorem dX7_decide_12 : decode cX7_decide 12 = .ok (.putfield 52, 3) := by decide +kernel
theorem dX7_decide_15 : decode cX7_decide 15 = .ok (.iconst 1, 1) := by decide +kernel
theorem dX7_decide_16 : decode cX7_decide 16 = .ok (.ireturn, 1) := by decide +kernel
theorem dX7_findLoad_0 : decode cX7_findLoad 0 = .ok (.aload_n 0, 1) := by decide +kernel
theorem dX7_findLoad_1 : decode cX7_findLoad 1 = .ok (.lload_n 1, 1) := by decide +kernel
theorem dX7_findLoad_2 : decode cX7_findLoad 2 = .ok (.invokevirtual 59, 3) := by decide +kernel
theorem dX7_findLoad_5 : decode cX7_findLoad 5 = .ok (.istore_n 3, 1) := by decide +kernel
theorem dX7_findLoad_6 : decode cX7_findLoad 6 = .ok (.iconst 0, 1) := by decide +kernel
theorem dX7_findLoad_7 : decode cX7_findLoad 7 = .ok (.istore 4, 2) := by decide +kernel
theorem dX7_findLoad_9 : decode cX7_findLoad 9 = .ok (.iload 4, 2) := by decide +kernel
theorem dX7_findLoad_11 : decode cX7_findLoad 11 = .ok (.aload_n 0, 1) := by decide +kernel
theorem dX7_findLoad_12 : decode cX7_findLoad 12 = .ok (.getfield 9, 3) := by decide +kernel
theorem dX7_findLoad_15 : decode cX7_findLoad 15 = .ok (.getfield 63, 3) := by decide +kernel
theorem dX7_findLoad_18 : decode cX7_findLoad 18 = .ok (.if_icmp .ge 42, 3) := by decide +kernel
theorem dX7_findLoad_21 : decode cX7_findLoad 21 = .ok (.iload_n 3, 1) := by decide +kernel
theorem dX7_findLoad_22 : decode cX7_findLoad 22 = .ok (.ifCond .eq 38, 3) := by decide +kernel
theorem dX7_findLoad_25 : decode cX7_findLoad 25 = .ok (.aload_n 0, 1) := by decide +kernel
theorem dX7_findLoad_26 : decode cX7_findLoad 26 = .ok (.getfield 9, 3) := by decide +kernel
theorem dX7_findLoad_29 : decode cX7_findLoad 29 = .ok (.getfield 66, 3) := by decide +kernel
theorem dX7_findLoad_32 : decode cX7_findLoad 32 = .ok (.iload 4, 2) := by decide +kernel
theorem dX7_findLoad_34 : decode cX7_findLoad 34 = .ok (.aaload, 1) := by decide +kernel
theorem dX7_findLoad_35 : decode cX7_findLoad 35 = .ok (.getfield 70, 3) := by decide +kernel
theorem dX7_findLoad_38 : decode cX7_findLoad 38 = .ok (.iconst (-1), 1) := by decide +kernel
theorem dX7_findLoad_39 : decode cX7_findLoad 39 = .ok (.if_icmp .ne 15, 3) := by decide +kernel
theorem dX7_findLoad_42 : decode cX7_findLoad 42 = .ok (.aload_n 0, 1) := by decide +kernel
theorem dX7_findLoad_43 : decode cX7_findLoad 43 = .ok (.iload 4, 2) := by decide +kernel
theorem dX7_findLoad_45 : decode cX7_findLoad 45 = .ok (.iload_n 3, 1) := by decide +kernel
theorem dX7_findLoad_46 : decode cX7_findLoad 46 = .ok (.invokevirtual 75, 3) := by decide +kernel
theorem dX7_findLoad_49 : decode cX7_findLoad 49 = .ok (.ifCond .eq 5, 3) := by decide +kernel
theorem dX7_findLoad_52 : decode cX7_findLoad 52 = .ok (.iconst 1, 1) := by decide +kernel
theorem dX7_findLoad_53 : decode cX7_findLoad 53 = .ok (.ireturn, 1) := by decide +kernel
theorem dX7_findLoad_54 : decode cX7_findLoad 54 = .ok (.iinc 4 1, 3) := by decide +kernel
theorem dX7_findLoad_57 : decode cX7_findLoad 57 = .ok (.goto (-48), 3) := by decide +kernel
theorem dX7_findLoad_60 : decode cX7_findLoad 60 = .ok (.iconst 0, 1) := by decide +kernel
theorem dX7_findLoad_61 : decode cX7_findLoad 61 = .ok (.ireturn, 1) := by decide +kernel
theorem dX7_kindsToLoad_0 : decode cX7_kindsToLoad 0 = .ok (.iconst 0, 1) := by decide +kernel
theorem dX7_kindsToLoad_1 : decode cX7_kindsToLoad 1 = .ok (.istore_n 3, 1) := by decide +kernel
theorem dX7_kindsToLoad_2 : decode cX7_kindsToLoad 2 = .ok (.iconst 0, 1) := by decide +kernel
theorem dX7_kindsToLoad_3 : decode cX7_kindsToLoad 3 = .ok (.istore 4, 2) := by decide +kernel
theorem dX7_kindsToLoad_5 : decode cX7_kindsToLoad 5 = .ok (.iload 4, 2) := by decide +kernel
theorem dX7_kindsToLoad_7 : decode cX7_kindsToLoad 7 = .ok (.aload_n 0, 1) := by decide +kernel
theorem dX7_kindsToLoad_8 : decode cX7_kindsToLoad 8 = .ok (.getfield 9, 3) := by decide +kernel
theorem dX7_kindsToLoad_11 : decode cX7_kindsToLoad 11 = .ok (.getfield 79, 3) := by decide +kernel
theorem dX7_kindsToLoad_14 : decode cX7_kindsToLoad 14 = .ok (.if_icmp .ge 81, 3) := by decide +kernel
theorem dX7_kindsToLoad_17 : decode cX7_kindsToLoad 17 = .ok (.aload_n 0, 1) := by decide +kernel
theorem dX7_kindsToLoad_18 : decode cX7_kindsToLoad 18 = .ok (.getfield 9, 3) := by decide +kernel
theorem dX7_kindsToLoad_21 : decode cX7_kindsToLoad 21 = .ok (.getfield 82, 3) := by decide +kernel
theorem dX7_kindsToLoad_24 : decode cX7_kindsToLoad 24 = .ok (.iload 4, 2) := by decide +kernel
theorem dX7_kindsToLoad_26 : decode cX7_kindsToLoad 26 = .ok (.aaload, 1) := by decide +kernel
theorem dX7_kindsToLoad_27 : decode cX7_kindsToLoad 27 = .ok (.getfield 86, 3) := by decide +kernel
theorem dX7_kindsToLoad_30 : decode cX7_kindsToLoad 30 = .ok (.istore 5, 2) := by decide +kernel
theorem dX7_kindsToLoad_32 : decode cX7_kindsToLoad 32 = .ok (.lload_n 1, 1) := by decide +kernel
theorem dX7_kindsToLoad_33 : decode cX7_kindsToLoad 33 = .ok (.aload_n 0, 1) := by decide +kernel
theorem dX7_kindsToLoad_34 : decode cX7_kindsToLoad 34 = .ok (.getfield 9, 3) := by decide +kernel
theorem dX7_kindsToLoad_37 : decode cX7_kindsToLoad 37 = .ok (.getfield 21, 3) := by decide +kernel
theorem dX7_kindsToLoad_40 : decode cX7_kindsToLoad 40 = .ok (.getfield 91, 3) := by decide +kernel
theorem dX7_kindsToLoad_43 : decode cX7_kindsToLoad 43 = .ok (.iload 5, 2) := by decide +kernel
theorem dX7_kindsToLoad_45 : decode cX7_kindsToLoad 45 = .ok (.laload, 1) := by decide +kernel
theorem dX7_kindsToLoad_46 : decode cX7_kindsToLoad 46 = .ok (.land, 1) := by decide +kernel
theorem dX7_kindsToLoad_47 : decode cX7_kindsToLoad 47 = .ok (.invokestatic 95, 3) := by decide +kernel
theorem dX7_kindsToLoad_50 : decode cX7_kindsToLoad 50 = .ok (.istore 6, 2) := by decide +kernel
theorem dX7_kindsToLoad_52 : decode cX7_kindsToLoad 52 = .ok (.aload_n 0, 1) := by decide +kernel
theorem dX7_kindsToLoad_53 : decode cX7_kindsToLoad 53 = .ok (.getfield 9, 3) := by decide +kernel
theorem dX7_kindsToLoad_56 : decode cX7_kindsToLoad 56 = .ok (.getfield 82, 3) := by decide +kernel
theorem dX7_kindsToLoad_59 : decode cX7_kindsToLoad 59 = .ok (.iload 4, 2) := by decide +kernel
theorem dX7_kindsToLoad_61 : decode cX7_kindsToLoad 61 = .ok (.aaload, 1) := by decide +kernel
theorem dX7_kindsToLoad_62 : decode cX7_kindsToLoad 62 = .ok (.getfield 100, 3) := by decide +kernel
theorem dX7_kindsToLoad_65 : decode cX7_kindsToLoad 65 = .ok (.ifCond .le 24, 3) := by decide +kernel
theorem dX7_kindsToLoad_68 : decode cX7_kindsToLoad 68 = .ok (.iload 6, 2) := by decide +kernel
theorem dX7_kindsToLoad_70 : decode cX7_kindsToLoad 70 = .ok (.aload_n 0, 1) := by decide +kernel
theorem dX7_kindsToLoad_71 : decode cX7_kindsToLoad 71 = .ok (.getfield 9, 3) := by decide +kernel
theorem dX7_kindsToLoad_74 : decode cX7_kindsToLoad 74 = .ok (.iload 5, 2) := by decide +kernel
theorem dX7_kindsToLoad_76 : decode cX7_kindsToLoad 76 = .ok (.invokevirtual 103, 3) := by decide +kernel
theorem dX7_kindsToLoad_79 : decode cX7_kindsToLoad 79 = .ok (.if_icmp .le 10, 3) := by decide +kernel
theorem dX7_kindsToLoad_82 : decode cX7_kindsToLoad 82 = .ok (.iload_n 3, 1) := by decide +kernel
theorem dX7_kindsToLoad_83 : decode cX7_kindsToLoad 83 = .ok (.iconst 1, 1) := by decide +kernel
theorem dX7_kindsToLoad_84 : decode cX7_kindsToLoad 84 = .ok (.iload 5, 2) := by decide +kernel
theorem dX7_kindsToLoad_86 : decode cX7_kindsToLoad 86 = .ok (.ishl, 1) := by decide +kernel
theorem dX7_kindsToLoad_87 : decode cX7_kindsToLoad 87 = .ok (.ior, 1) := by decide +kernel
theorem dX7_kindsToLoad_88 : decode cX7_kindsToLoad 88 = .ok (.istore_n 3, 1) := by decide +kernel
theorem dX7_kindsToLoad_89 : decode cX7_kindsToLoad 89 = .ok (.iinc 4 1, 3) := by decide +kernel
theorem dX7_kindsToLoad_92 : decode cX7_kindsToLoad 92 = .ok (.goto (-87), 3) := by decide +kernel
theorem dX7_kindsToLoad_95 : decode cX7_kindsToLoad 95 = .ok (.iload_n 3, 1) := by decide +kernel
theorem dX7_kindsToLoad_96 : decode cX7_kindsToLoad 96 = .ok (.ireturn, 1) := by decide +kernel
theorem dX7_findLoadOf_0 : decode cX7_findLoadOf 0 = .ok (.aload_n 0, 1) := by decide +kernel
theorem dX7_findLoadOf_1 : decode cX7_findLoadOf 1 = .ok (.getfield 9, 3) := by decide +kernel
theorem dX7_findLoadOf_4 : decode cX7_findLoadOf 4 = .ok (.getfield 66, 3) := by decide +kernel
theorem dX7_findLoadOf_7 : decode cX7_findLoadOf 7 = .ok (.iload_n 1, 1) := by decide +kernel
theorem dX7_findLoadOf_8 : decode cX7_findLoadOf 8 = .ok (.aaload, 1) := by decide +kernel
theorem dX7_findLoadOf_9 : decode cX7_findLoadOf 9 = .ok (.astore_n 3, 1) := by decide +kernel
theorem dX7_findLoadOf_10 : decode cX7_findLoadOf 10 = .ok (.aload_n 0, 1) := by decide +kernel
theorem dX7_findLoadOf_11 : decode cX7_findLoadOf 11 = .ok (.getfield 9, 3) := by decide +kernel
theorem dX7_findLoadOf_14 : decode cX7_findLoadOf 14 = .ok (.getfield 107, 3) := by decide +kernel
theorem dX7_findLoadOf_17 : decode cX7_findLoadOf 17 = .ok (.getfield 111, 3) := by decide +kernel
theorem dX7_findLoadOf_20 : decode cX7_findLoadOf 20 = .ok (.astore 4, 2) := by decide +kernel
theorem dX7_findLoadOf_22 : decode cX7_findLoadOf 22 = .ok (.iconst 0, 1) := by decide +kernel
theorem dX7_findLoadOf_23 : decode cX7_findLoadOf 23 = .ok (.istore 5, 2) := by decide +kernel
theorem dX7_findLoadOf_25 : decode cX7_findLoadOf 25 = .ok (.iload 5, 2) := by decide +kernel
theorem dX7_findLoadOf_27 : decode cX7_findLoadOf 27 = .ok (.aload_n 0, 1) := by decide +kernel
theorem dX7_findLoadOf_28 : decode cX7_findLoadOf 28 = .ok (.getfield 9, 3) := by decide +kernel
theorem dX7_findLoadOf_31 : decode cX7_findLoadOf 31 = .ok (.getfield 107, 3) := by decide +kernel
theorem dX7_findLoadOf_34 : decode cX7_findLoadOf 34 = .ok (.getfield 117, 3) := by decide +kernel
theorem dX7_findLoadOf_37 : decode cX7_findLoadOf 37 = .ok (.if_icmp .ge 68, 3) := by decide +kernel
theorem dX7_findLoadOf_40 : decode cX7_findLoadOf 40 = .ok (.iload_n 2, 1) := by decide +kernel
theorem dX7_findLoadOf_41 : decode cX7_findLoadOf 41 = .ok (.iconst 1, 1) := by decide +kernel
theorem dX7_findLoadOf_42 : decode cX7_findLoadOf 42 = .ok (.iload 5, 2) := by decide +kernel
theorem dX7_findLoadOf_44 : decode cX7_findLoadOf 44 = .ok (.ishl, 1) := by decide +kernel
theorem dX7_findLoadOf_45 : decode cX7_findLoadOf 45 = .ok (.iand, 1) := by decide +kernel
theorem dX7_findLoadOf_46 : decode cX7_findLoadOf 46 = .ok (.ifCond .eq 53, 3) := by decide +kernel
theorem dX7_findLoadOf_49 : decode cX7_findLoadOf 49 = .ok (.aload 4, 2) := by decide +kernel
theorem dX7_findLoadOf_51 : decode cX7_findLoadOf 51 = .ok (.iload 5, 2) := by decide +kernel
theorem dX7_findLoadOf_53 : decode cX7_findLoadOf 53 = .ok (.iaload, 1) := by decide +kernel
theorem dX7_findLoadOf_54 : decode cX7_findLoadOf 54 = .ok (.aload_n 3, 1) := by decide +kernel
theorem dX7_findLoadOf_55 : decode cX7_findLoadOf 55 = .ok (.getfield 120, 3) := by decide +kernel
theorem dX7_findLoadOf_58 : decode cX7_findLoadOf 58 = .ok (.if_icmp .ne 41, 3) := by decide +kernel
theorem dX7_findLoadOf_61 : decode cX7_findLoadOf 61 = .ok (.aload_n 0, 1) := by decide +kernel
theorem dX7_findLoadOf_62 : decode cX7_findLoadOf 62 = .ok (.getfield 9, 3) := by decide +kernel
theorem dX7_findLoadOf_65 : decode cX7_findLoadOf 65 = .ok (.aload_n 3, 1) := by decide +kernel
theorem dX7_findLoadOf_66 : decode cX7_findLoadOf 66 = .ok (.invokevirtual 122, 3) := by decide +kernel
theorem dX7_findLoadOf_69 : decode cX7_findLoadOf 69 = .ok (.ifCond .eq 14, 3) := by decide +kernel
theorem dX7_findLoadOf_72 : decode cX7_findLoadOf 72 = .ok (.aload_n 0, 1) := by decide +kernel
theorem dX7_findLoadOf_73 : decode cX7_findLoadOf 73 = .ok (.bipush 6, 2) := by decide +kernel
theorem dX7_findLoadOf_75 : decode cX7_findLoadOf 75 = .ok (.iload_n 1, 1) := by decide +kernel
theorem dX7_findLoadOf_76 : decode cX7_findLoadOf 76 = .ok (.iconst 0, 1) := by decide +kernel
theorem dX7_findLoadOf_77 : decode cX7_findLoadOf 77 = .ok (.invokevirtual 126, 3) := by decide +kernel
theorem dX7_findLoadOf_80 : decode cX7_findLoadOf 80 = .ok (.goto 18, 3) := by decide +kernel
theorem dX7_findLoadOf_83 : decode cX7_findLoadOf 83 = .ok (.aload_n 0, 1) := by decide +kernel
theorem dX7_findLoadOf_84 : decode cX7_findLoadOf 84 = .ok (.iconst 2, 1) := by decide +kernel
theorem dX7_findLoadOf_85 : decode cX7_findLoadOf 85 = .ok (.iload_n 1, 1) := by decide +kernel
theorem dX7_findLoadOf_86 : decode cX7_findLoadOf 86 = .ok (.aload_n 0, 1) := by decide +kernel
theorem dX7_findLoadOf_87 : decode cX7_findLoadOf 87 = .ok (.getfield 9, 3) := by decide +kernel
theorem dX7_findLoadOf_90 : decode cX7_findLoadOf 90 = .ok (.iload 5, 2) := by decide +kernel
theorem dX7_findLoadOf_92 : decode cX7_findLoadOf 92 = .ok (.invokevirtual 130, 3) := by decide +kernel
theorem dX7_findLoadOf_95 : decode cX7_findLoadOf 95 = .ok (.invokevirtual 126, 3) := by decide +kernel
theorem dX7_findLoadOf_98 : decode cX7_findLoadOf 98 = .ok (.ireturn, 1) := by decide +kernel
theorem dX7_findLoadOf_99 : decode cX7_findLoadOf 99 = .ok (.iinc 5 1, 3) := by decide +kernel
theorem dX7_findLoadOf_102 : decode cX7_findLoadOf 102 = .ok (.goto (-77), 3) := by decide +kernel
theorem dX7_findLoadOf_105 : decode cX7_findLoadOf 105 = .ok (.iconst 0, 1) := by decide +kernel
theorem dX7_findLoadOf_106 : decode cX7_findLoadOf 106 = .ok (.istore 5, 2) := by decide +kernel
theorem dX7_findLoadOf_108 : decode cX7_findLoadOf 108 = .ok (.iload 5, 2) := by decide +kernel
theorem dX7_findLoadOf_110 : decode cX7_findLoadOf 110 = .ok (.aload_n 0, 1) := by decide +kernel
theorem dX7_findLoadOf_111 : decode cX7_findLoadOf 111 = .ok (.getfield 9, 3) := by decide +kernel
theorem dX7_findLoadOf_114 : decode cX7_findLoadOf 114 = .ok (.getfield 107, 3) := by decide +kernel
theorem dX7_findLoadOf_117 : decode cX7_findLoadOf 117 = .ok (.getfield 117, 3) := by decide +kernel
theorem dX7_findLoadOf_120 : decode cX7_findLoadOf 120 = .ok (.if_icmp .ge 46, 3) := by decide +kernel
theorem dX7_findLoadOf_123 : decode cX7_findLoadOf 123 = .ok (.iload_n 2, 1) := by decide +kernel
theorem dX7_findLoadOf_124 : decode cX7_findLoadOf 124 = .ok (.iconst 1, 1) := by decide +kernel
theorem dX7_findLoadOf_125 : decode cX7_findLoadOf 125 = .ok (.iload 5, 2) := by decide +kernel
theorem dX7_findLoadOf_127 : decode cX7_findLoadOf 127 = .ok (.ishl, 1) := by decide +kernel
theorem dX7_findLoadOf_128 : decode cX7_findLoadOf 128 = .ok (.iand, 1) := by decide +kernel
theorem dX7_findLoadOf_129 : decode cX7_findLoadOf 129 = .ok (.ifCond .eq 31, 3) := by decide +kernel
theorem dX7_findLoadOf_132 : decode cX7_findLoadOf 132 = .ok (.aload_n 0, 1) := by decide +kernel
theorem dX7_findLoadOf_133 : decode cX7_findLoadOf 133 = .ok (.getfield 9, 3) := by decide +kernel
theorem dX7_findLoadOf_136 : decode cX7_findLoadOf 136 = .ok (.getfield 133, 3) := by decide +kernel
theorem dX7_findLoadOf_139 : decode cX7_findLoadOf 139 = .ok (.aload 4, 2) := by decide +kernel
theorem dX7_findLoadOf_141 : decode cX7_findLoadOf 141 = .ok (.iload 5, 2) := by decide +kernel
theorem dX7_findLoadOf_143 : decode cX7_findLoadOf 143 = .ok (.iaload, 1) := by decide +kernel
theorem dX7_findLoadOf_144 : decode cX7_findLoadOf 144 = .ok (.iaload, 1) := by decide +kernel
theorem dX7_findLoadOf_145 : decode cX7_findLoadOf 145 = .ok (.ifCond .le 15, 3) := by decide +kernel
theorem dX7_findLoadOf_148 : decode cX7_findLoadOf 148 = .ok (.aload_n 0, 1) := by decide +kernel
theorem dX7_findLoadOf_149 : decode cX7_findLoadOf 149 = .ok (.iconst 1, 1) := by decide +kernel
theorem dX7_findLoadOf_150 : decode cX7_findLoadOf 150 = .ok (.iload_n 1, 1) := by decide +kernel
theorem dX7_findLoadOf_151 : decode cX7_findLoadOf 151 = .ok (.aload 4, 2) := by decide +kernel
theorem dX7_findLoadOf_153 : decode cX7_findLoadOf 153 = .ok (.iload 5, 2) := by decide +kernel
theorem dX7_findLoadOf_155 : decode cX7_findLoadOf 155 = .ok (.iaload, 1) := by decide +kernel
theorem dX7_findLoadOf_156 : decode cX7_findLoadOf 156 = .ok (.invokevirtual 126, 3) := by decide +kernel
theorem dX7_findLoadOf_159 : decode cX7_findLoadOf 159 = .ok (.ireturn, 1) := by decide +kernel
theorem dX7_findLoadOf_160 : decode cX7_findLoadOf 160 = .ok (.iinc 5 1, 3) := by decide +kernel
theorem dX7_findLoadOf_163 : decode cX7_findLoadOf 163 = .ok (.goto (-55), 3) := by decide +kernel
theorem dX7_findLoadOf_166 : decode cX7_findLoadOf 166 = .ok (.iconst 0, 1) := by decide +kernel
theorem dX7_findLoadOf_167 : decode cX7_findLoadOf 167 = .ok (.ireturn, 1) := by decide +kernel
theorem dX7_findLook_0 : decode cX7_findLook 0 = .ok (.iconst 0, 1) := by decide +kernel
theorem dX7_findLook_1 : decode cX7_findLook 1 = .ok (.istore_n 1, 1) := by decide +kernel
theorem dX7_findLook_2 : decode cX7_findLook 2 = .ok (.iload_n 1, 1) := by decide +kernel
theorem dX7_findLook_3 : decode cX7_findLook 3 = .ok (.aload_n 0, 1) := by decide +kernel
theorem dX7_findLook_4 : decode cX7_findLook 4 = .ok (.getfield 9, 3) := by decide +kernel
theorem dX7_findLook_7 : decode cX7_findLook 7 = .ok (.getfield 63, 3) := by decide +kernel
theorem dX7_findLook_10 : decode cX7_findLook 10 = .ok (.if_icmp .ge 42, 3) := by decide +kernel
theorem dX7_findLook_13 : decode cX7_findLook 13 = .ok (.aload_n 0, 1) := by decide +kernel
theorem dX7_findLook_14 : decode cX7_findLook 14 = .ok (.getfield 9, 3) := by decide +kernel
theorem dX7_findLook_17 : decode cX7_findLook 17 = .ok (.getfield 66, 3) := by decide +kernel
theorem dX7_findLook_20 : decode cX7_findLook 20 = .ok (.iload_n 1, 1) := by decide +kernel
theorem dX7_findLook_21 : decode cX7_findLook 21 = .ok (.aaload, 1) := by decide +kernel
theorem dX7_findLook_22 : decode cX7_findLook 22 = .ok (.astore_n 2, 1) := by decide +kernel
theorem dX7_findLook_23 : decode cX7_findLook 23 = .ok (.aload_n 2, 1) := by decide +kernel
theorem dX7_findLook_24 : decode cX7_findLook 24 = .ok (.getfield 70, 3) := by decide +kernel
theorem dX7_findLook_27 : decode cX7_findLook 27 = .ok (.iconst (-1), 1) := by decide +kernel
theorem dX7_findLook_28 : decode cX7_findLook 28 = .ok (.if_icmp .eq 18, 3) := by decide +kernel
theorem dX7_findLook_31 : decode cX7_findLook 31 = .ok (.aload_n 2, 1) := by decide +kernel
theorem dX7_findLook_32 : decode cX7_findLook 32 = .ok (.getfield 136, 3) := by decide +kernel
theorem dX7_findLook_35 : decode cX7_findLook 35 = .ok (.ifCond .ne 11, 3) := by decide +kernel
theorem dX7_findLook_38 : decode cX7_findLook 38 = .ok (.aload_n 0, 1) := by decide +kernel
theorem dX7_findLook_39 : decode cX7_findLook 39 = .ok (.iconst 3, 1) := by decide +kernel
theorem dX7_findLook_40 : decode cX7_findLook 40 = .ok (.iload_n 1, 1) := by decide +kernel
theorem dX7_findLook_41 : decode cX7_findLook 41 = .ok (.iconst 0, 1) := by decide +kernel
theorem dX7_findLook_42 : decode cX7_findLook 42 = .ok (.invokevirtual 126, 3) := by decide +kernel
theorem dX7_findLook_45 : decode cX7_findLook 45 = .ok (.ireturn, 1) := by decide +kernel
theorem dX7_findLook_46 : decode cX7_findLook 46 = .ok (.iinc 1 1, 3) := by decide +kernel
theorem dX7_findLook_49 : decode cX7_findLook 49 = .ok (.goto (-47), 3) := by decide +kernel
theorem dX7_findLook_52 : decode cX7_findLook 52 = .ok (.iconst 0, 1) := by decide +kernel
theorem dX7_findLook_53 : decode cX7_findLook 53 = .ok (.ireturn, 1) := by decide +kernel
theorem dX7_findPlace_0 : decode cX7_findPlace 0 = .ok (.iconst 0, 1) := by decide +kernel
theorem dX7_findPlace_1 : decode cX7_findPlace 1 = .ok (.istore_n 3, 1) := by decide +kernel
theorem dX7_findPlace_2 : decode cX7_findPlace 2 = .ok (.iload_n 3, 1) := by decide +kernel
theorem dX7_findPlace_3 : decode cX7_findPlace 3 = .ok (.aload_n 0, 1) := by decide +kernel
theorem dX7_findPlace_4 : decode cX7_findPlace 4 = .ok (.getfield 9, 3) := by decide +kernel
theorem dX7_findPlace_7 : decode cX7_findPlace 7 = .ok (.getfield 63, 3) := by decide +kernel
theorem dX7_findPlace_10 : decode cX7_findPlace 10 = .ok (.if_icmp .ge 75, 3) := by decide +kernel
theorem dX7_findPlace_13 : decode cX7_findPlace 13 = .ok (.aload_n 0, 1) := by decide +kernel
theorem dX7_findPlace_14 : decode cX7_findPlace 14 = .ok (.getfield 9, 3) := by decide +kernel
theorem dX7_findPlace_17 : decode cX7_findPlace 17 = .ok (.getfield 66, 3) := by decide +kernel
theorem dX7_findPlace_20 : decode cX7_findPlace 20 = .ok (.iload_n 3, 1) := by decide +kernel
theorem dX7_findPlace_21 : decode cX7_findPlace 21 = .ok (.aaload, 1) := by decide +kernel
theorem dX7_findPlace_22 : decode cX7_findPlace 22 = .ok (.getfield 70, 3) := by decide +kernel
theorem dX7_findPlace_25 : decode cX7_findPlace 25 = .ok (.istore 4, 2) := by decide +kernel
theorem dX7_findPlace_27 : decode cX7_findPlace 27 = .ok (.iload 4, 2) := by decide +kernel
theorem dX7_findPlace_29 : decode cX7_findPlace 29 = .ok (.iconst (-1), 1) := by decide +kernel
theorem dX7_findPlace_30 : decode cX7_findPlace 30 = .ok (.if_icmp .eq 49, 3) := by decide +kernel
theorem dX7_findPlace_33 : decode cX7_findPlace 33 = .ok (.aload_n 0, 1) := by decide +kernel
theorem dX7_findPlace_34 : decode cX7_findPlace 34 = .ok (.lload_n 1, 1) := by decide +kernel
theorem dX7_findPlace_35 : decode cX7_findPlace 35 = .ok (.aload_n 0, 1) := by decide +kernel
theorem dX7_findPlace_36 : decode cX7_findPlace 36 = .ok (.getfield 9, 3) := by decide +kernel
theorem dX7_findPlace_39 : decode cX7_findPlace 39 = .ok (.getfield 21, 3) := by decide +kernel
theorem dX7_findPlace_42 : decode cX7_findPlace 42 = .ok (.getfield 91, 3) := by decide +kernel
theorem dX7_findPlace_45 : decode cX7_findPlace 45 = .ok (.iload 4, 2) := by decide +kernel
theorem dX7_findPlace_47 : decode cX7_findPlace 47 = .ok (.laload, 1) := by decide +kernel
theorem dX7_findPlace_48 : decode cX7_findPlace 48 = .ok (.land, 1) := by decide +kernel
theorem dX7_findPlace_49 : decode cX7_findPlace 49 = .ok (.invokevirtual 139, 3) := by decide +kernel
theorem dX7_findPlace_52 : decode cX7_findPlace 52 = .ok (.istore 5, 2) := by decide +kernel
theorem dX7_findPlace_54 : decode cX7_findPlace 54 = .ok (.iload 5, 2) := by decide +kernel
theorem dX7_findPlace_56 : decode cX7_findPlace 56 = .ok (.iconst (-1), 1) := by decide +kernel
theorem dX7_findPlace_57 : decode cX7_findPlace 57 = .ok (.if_icmp .ne 13, 3) := by decide +kernel
theorem dX7_findPlace_60 : decode cX7_findPlace 60 = .ok (.aload_n 0, 1) := by decide +kernel
theorem dX7_findPlace_61 : decode cX7_findPlace 61 = .ok (.iconst 5, 1) := by decide +kernel
theorem dX7_findPlace_62 : decode cX7_findPlace 62 = .ok (.iload_n 3, 1) := by decide +kernel
theorem dX7_findPlace_63 : decode cX7_findPlace 63 = .ok (.iconst 0, 1) := by decide +kernel
theorem dX7_findPlace_64 : decode cX7_findPlace 64 = .ok (.invokevirtual 126, 3) := by decide +kernel
theorem dX7_findPlace_67 : decode cX7_findPlace 67 = .ok (.goto 11, 3) := by decide +kernel
theorem dX7_findPlace_70 : decode cX7_findPlace 70 = .ok (.aload_n 0, 1) := by decide +kernel
theorem dX7_findPlace_71 : decode cX7_findPlace 71 = .ok (.iconst 4, 1) := by decide +kernel
theorem dX7_findPlace_72 : decode cX7_findPlace 72 = .ok (.iload_n 3, 1) := by decide +kernel
theorem dX7_findPlace_73 : decode cX7_findPlace 73 = .ok (.iload 5, 2) := by decide +kernel
theorem dX7_findPlace_75 : decode cX7_findPlace 75 = .ok (.invokevirtual 126, 3) := by decide +kernel
theorem dX7_findPlace_78 : decode cX7_findPlace 78 = .ok (.ireturn, 1) := by decide +kernel
theorem dX7_findPlace_79 : decode cX7_findPlace 79 = .ok (.iinc 3 1, 3) := by decide +kernel
theorem dX7_findPlace_82 : decode cX7_findPlace 82 = .ok (.goto (-80), 3) := by decide +kernel
theorem dX7_findPlace_85 : decode cX7_findPlace 85 = .ok (.iconst 0, 1) := by decide +kernel
theorem dX7_findPlace_86 : decode cX7_findPlace 86 = .ok (.ireturn, 1) := by decide +kernel
theorem dX7_nearestSpot_0 : decode cX7_nearestSpot 0 = .ok (.iconst (-1), 1) := by decide +kernel
theorem dX7_nearestSpot_1 : decode cX7_nearestSpot 1 = .ok (.istore_n 3, 1) := by decide +kernel
theorem dX7_nearestSpot_2 : decode cX7_nearestSpot 2 = .ok (.iconst 0, 1) := by decide +kernel
theorem dX7_nearestSpot_3 : decode cX7_nearestSpot 3 = .ok (.istore 4, 2) := by decide +kernel
theorem dX7_nearestSpot_5 : decode cX7_nearestSpot 5 = .ok (.iconst 0, 1) := by decide +kernel
theorem dX7_nearestSpot_6 : decode cX7_nearestSpot 6 = .ok (.istore 5, 2) := by decide +kernel
theorem dX7_nearestSpot_8 : decode cX7_nearestSpot 8 = .ok (.iload 5, 2) := by decide +kernel
theorem dX7_nearestSpot_10 : decode cX7_nearestSpot 10 = .ok (.aload_n 0, 1) := by decide +kernel
theorem dX7_nearestSpot_11 : decode cX7_nearestSpot 11 = .ok (.getfield 9, 3) := by decide +kernel
theorem dX7_nearestSpot_14 : decode cX7_nearestSpot 14 = .ok (.getfield 21, 3) := by decide +kernel
theorem dX7_nearestSpot_17 : decode cX7_nearestSpot 17 = .ok (.getfield 142, 3) := by decide +kernel
theorem dX7_nearestSpot_20 : decode cX7_nearestSpot 20 = .ok (.if_icmp .ge 74, 3) := by decide +kernel
theorem dX7_nearestSpot_23 : decode cX7_nearestSpot 23 = .ok (.lload_n 1, 1) := by decide +kernel
theorem dX7_nearestSpot_24 : decode cX7_nearestSpot 24 = .ok (.lconst 1, 1) := by decide +kernel
theorem dX7_nearestSpot_25 : decode cX7_nearestSpot 25 = .ok (.iload 5, 2) := by decide +kernel
theorem dX7_nearestSpot_27 : decode cX7_nearestSpot 27 = .ok (.lshl, 1) := by decide +kernel
theorem dX7_nearestSpot_28 : decode cX7_nearestSpot 28 = .ok (.land, 1) := by decide +kernel
theorem dX7_nearestSpot_29 : decode cX7_nearestSpot 29 = .ok (.lconst 0, 1) := by decide +kernel
theorem dX7_nearestSpot_30 : decode cX7_nearestSpot 30 = .ok (.lcmp, 1) := by decide +kernel
theorem dX7_nearestSpot_31 : decode cX7_nearestSpot 31 = .ok (.ifCond .eq 57, 3) := by decide +kernel
theorem dX7_nearestSpot_34 : decode cX7_nearestSpot 34 = .ok (.aload_n 0, 1) := by decide +kernel
theorem dX7_nearestSpot_35 : decode cX7_nearestSpot 35 = .ok (.getfield 9, 3) := by decide +kernel
theorem dX7_nearestSpot_38 : decode cX7_nearestSpot 38 = .ok (.aload_n 0, 1) := by decide +kernel
theorem dX7_nearestSpot_39 : decode cX7_nearestSpot 39 = .ok (.getfield 9, 3) := by decide +kernel
theorem dX7_nearestSpot_42 : decode cX7_nearestSpot 42 = .ok (.getfield 21, 3) := by decide +kernel
theorem dX7_nearestSpot_45 : decode cX7_nearestSpot 45 = .ok (.getfield 143, 3) := by decide +kernel
theorem dX7_nearestSpot_48 : decode cX7_nearestSpot 48 = .ok (.iload 5, 2) := by decide +kernel
theorem dX7_nearestSpot_50 : decode cX7_nearestSpot 50 = .ok (.iaload, 1) := by decide +kernel
theorem dX7_nearestSpot_51 : decode cX7_nearestSpot 51 = .ok (.aload_n 0, 1) := by decide +kernel
theorem dX7_nearestSpot_52 : decode cX7_nearestSpot 52 = .ok (.getfield 9, 3) := by decide +kernel
theorem dX7_nearestSpot_55 : decode cX7_nearestSpot 55 = .ok (.getfield 21, 3) := by decide +kernel
theorem dX7_nearestSpot_58 : decode cX7_nearestSpot 58 = .ok (.getfield 146, 3) := by decide +kernel
theorem dX7_nearestSpot_61 : decode cX7_nearestSpot 61 = .ok (.iload 5, 2) := by decide +kernel
theorem dX7_nearestSpot_63 : decode cX7_nearestSpot 63 = .ok (.iaload, 1) := by decide +kernel
theorem dX7_nearestSpot_64 : decode cX7_nearestSpot 64 = .ok (.invokevirtual 149, 3) := by decide +kernel
theorem dX7_nearestSpot_67 : decode cX7_nearestSpot 67 = .ok (.istore 6, 2) := by decide +kernel
theorem dX7_nearestSpot_69 : decode cX7_nearestSpot 69 = .ok (.iload_n 3, 1) := by decide +kernel
theorem dX7_nearestSpot_70 : decode cX7_nearestSpot 70 = .ok (.iconst (-1), 1) := by decide +kernel
theorem dX7_nearestSpot_71 : decode cX7_nearestSpot 71 = .ok (.if_icmp .eq 10, 3) := by decide +kernel
theorem dX7_nearestSpot_74 : decode cX7_nearestSpot 74 = .ok (.iload 6, 2) := by decide +kernel
theorem dX7_nearestSpot_76 : decode cX7_nearestSpot 76 = .ok (.iload 4, 2) := by decide +kernel
theorem dX7_nearestSpot_78 : decode cX7_nearestSpot 78 = .ok (.if_icmp .ge 10, 3) := by decide +kernel
theorem dX7_nearestSpot_81 : decode cX7_nearestSpot 81 = .ok (.iload 5, 2) := by decide +kernel
theorem dX7_nearestSpot_83 : decode cX7_nearestSpot 83 = .ok (.istore_n 3, 1) := by decide +kernel
theorem dX7_nearestSpot_84 : decode cX7_nearestSpot 84 = .ok (.iload 6, 2) := by decide +kernel
theorem dX7_nearestSpot_86 : decode cX7_nearestSpot 86 = .ok (.istore 4, 2) := by decide +kernel
theorem dX7_nearestSpot_88 : decode cX7_nearestSpot 88 = .ok (.iinc 5 1, 3) := by decide +kernel
theorem dX7_nearestSpot_91 : decode cX7_nearestSpot 91 = .ok (.goto (-83), 3) := by decide +kernel
theorem dX7_nearestSpot_94 : decode cX7_nearestSpot 94 = .ok (.iload_n 3, 1) := by decide +kernel
theorem dX7_nearestSpot_95 : decode cX7_nearestSpot 95 = .ok (.ireturn, 1) := by decide +kernel
theorem dX8_init_0 : decode cX8_init 0 = .ok (.aload_n 0, 1) := by decide +kernel
theorem dX8_init_1 : decode cX8_init 1 = .ok (.invokespecial 3, 3) := by decide +kernel
theorem dX8_init_4 : decode cX8_init 4 = .ok (.return_, 1) := by decide +kernel
theorem dX8_clear_0 : decode cX8_clear 0 = .ok (.aload_n 0, 1) := by decide +kernel
theorem dX8_clear_1 : decode cX8_clear 1 = .ok (.iconst (-1), 1) := by decide +kernel
theorem dX8_clear_2 : decode cX8_clear 2 = .ok (.putfield 9, 3) := by decide +kernel
theorem dX8_clear_5 : decode cX8_clear 5 = .ok (.aload_n 0, 1) := by decide +kernel
theorem dX8_clear_6 : decode cX8_clear 6 = .ok (.invokevirtual 15, 3) := by decide +kernel
theorem dX8_clear_9 : decode cX8_clear 9 = .ok (.aload_n 0, 1) := by decide +kernel
theorem dX8_clear_10 : decode cX8_clear 10 = .ok (.iconst 0, 1) := by decide +kernel
theorem dX8_clear_11 : decode cX8_clear 11 = .ok (.putfield 18, 3) := by decide +kernel
theorem dX8_clear_14 : decode cX8_clear 14 = .ok (.aload_n 0, 1) := by decide +kernel
theorem dX8_clear_15 : decode cX8_clear 15 = .ok (.iconst 0, 1) := by decide +kernel
theorem dX8_clear_16 : decode cX8_clear 16 = .ok (.putfield 21, 3) := by decide +kernel
theorem dX8_clear_19 : decode cX8_clear 19 = .ok (.aload_n 0, 1) := by decide +kernel
theorem dX8_clear_20 : decode cX8_clear 20 = .ok (.iconst 0, 1) := by decide +kernel
theorem dX8_clear_21 : decode cX8_clear 21 = .ok (.putfield 24, 3) := by decide +kernel
theorem dX8_clear_24 : decode cX8_clear 24 = .ok (.aload_n 0, 1) := by decide +kernel
theorem dX8_clear_25 : decode cX8_clear 25 = .ok (.iconst 0, 1) := by decide +kernel
theorem dX8_clear_26 : decode cX8_clear 26 = .ok (.putfield 27, 3) := by decide +kernel
theorem dX8_clear_29 : decode cX8_clear 29 = .ok (.return_, 1) := by decide +kernel
theorem dX8_dropPart_0 : decode cX8_dropPart 0 = .ok (.aload_n 0, 1) := by decide +kernel
theorem dX8_dropPart_1 : decode cX8_dropPart 1 = .ok (.iconst (-1), 1) := by decide +kernel
theorem dX8_dropPart_2 : decode cX8_dropPart 2 = .ok (.putfield 30, 3) := by decide +kernel
theorem dX8_dropPart_5 : decode cX8_dropPart 5 = .ok (.aload_n 0, 1) := by decide +kernel
theorem dX8_dropPart_6 : decode cX8_dropPart 6 = .ok (.iconst 0, 1) := by decide +kernel
theorem dX8_dropPart_7 : decode cX8_dropPart 7 = .ok (.putfield 33, 3) := by decide +kernel
theorem dX8_dropPart_10 : decode cX8_dropPart 10 = .ok (.aload_n 0, 1) := by decide +kernel
theorem dX8_dropPart_11 : decode cX8_dropPart 11 = .ok (.iconst 0, 1) := by decide +kernel
theorem dX8_dropPart_12 : decode cX8_dropPart 12 = .ok (.putfield 37, 3) := by decide +kernel
theorem dX8_dropPart_15 : decode cX8_dropPart 15 = .ok (.return_, 1) := by decide +kernel
theorem dX8_copyFrom_0 : decode cX8_copyFrom 0 = .ok (.aload_n 0, 1) := by decide +kernel
theorem dX8_copyFrom_1 : decode cX8_copyFrom 1 = .ok (.aload_n 1, 1) := by decide +kernel
theorem dX8_copyFrom_2 : decode cX8_copyFrom 2 = .ok (.getfield 9, 3) := by decide +kernel
theorem dX8_copyFrom_5 : decode cX8_copyFrom 5 = .ok (.putfield 9, 3) := by decide +kernel
theorem dX8_copyFrom_8 : decode cX8_copyFrom 8 = .ok (.aload_n 0, 1) := by decide +kernel
theorem dX8_copyFrom_9 : decode cX8_copyFrom 9 = .ok (.aload_n 1, 1) := by decide +kernel
theorem dX8_copyFrom_10 : decode cX8_copyFrom 10 = .ok (.getfield 30, 3) := by decide +kernel
theorem dX8_copyFrom_13 : decode cX8_copyFrom 13 = .ok (.putfield 30, 3) := by decide +kernel
theorem dX8_copyFrom_16 : decode cX8_copyFrom 16 = .ok (.aload_n 0, 1) := by decide +kernel
theorem dX8_copyFrom_17 : decode cX8_copyFrom 17 = .ok (.aload_n 1, 1) := by decide +kernel
theorem dX8_copyFrom_18 : decode cX8_copyFrom 18 = .ok (.getfield 33, 3) := by decide +kernel
theorem dX8_copyFrom_21 : decode cX8_copyFrom 21 = .ok (.putfield 33, 3) := by decide +kernel
theorem dX8_copyFrom_24 : decode cX8_copyFrom 24 = .ok (.aload_n 0, 1) := by decide +kernel
theorem dX8_copyFrom_25 : decode cX8_copyFrom 25 = .ok (.aload_n 1, 1) := by decide +kernel
theorem dX8_copyFrom_26 : decode cX8_copyFrom 26 = .ok (.getfield 37, 3) := by decide +kernel
theorem dX8_copyFrom_29 : decode cX8_copyFrom 29 = .ok (.putfield 37, 3) := by decide +kernel
theorem dX8_copyFrom_32 : decode cX8_copyFrom 32 = .ok (.aload_n 0, 1) := by decide +kernel
theorem dX8_copyFrom_33 : decode cX8_copyFrom 33 = .ok (.aload_n 1, 1) := by decide +kernel
theorem dX8_copyFrom_34 : decode cX8_copyFrom 34 = .ok (.getfield 18, 3) := by decide +kernel
theorem dX8_copyFrom_37 : decode cX8_copyFrom 37 = .ok (.putfield 18, 3) := by decide +kernel
theorem dX8_copyFrom_40 : decode cX8_copyFrom 40 = .ok (.aload_n 0, 1) := by decide +kernel
theorem dX8_copyFrom_41 : decode cX8_copyFrom 41 = .ok (.aload_n 1, 1) := by decide +kernel
theorem dX8_copyFrom_42 : decode cX8_copyFrom 42 = .ok (.getfield 21, 3) := by decide +kernel
theorem dX8_copyFrom_45 : decode cX8_copyFrom 45 = .ok (.putfield 21, 3) := by decide +kernel
theorem dX8_copyFrom_48 : decode cX8_copyFrom 48 = .ok (.aload_n 0, 1) := by decide +kernel
theorem dX8_copyFrom_49 : decode cX8_copyFrom 49 = .ok (.aload_n 1, 1) := by decide +kernel
theorem dX8_copyFrom_50 : decode cX8_copyFrom 50 = .ok (.getfield 24, 3) := by decide +kernel
theorem dX8_copyFrom_53 : decode cX8_copyFrom 53 = .ok (.putfield 24, 3) := by decide +kernel
theorem dX8_copyFrom_56 : decode cX8_copyFrom 56 = .ok (.aload_n 0, 1) := by decide +kernel
theorem dX8_copyFrom_57 : decode cX8_copyFrom 57 = .ok (.aload_n 1, 1) := by decide +kernel
theorem dX8_copyFrom_58 : decode cX8_copyFrom 58 = .ok (.getfield 27, 3) := by decide +kernel
theorem dX8_copyFrom_61 : decode cX8_copyFrom 61 = .ok (.putfield 27, 3) := by decide +kernel
theorem dX8_copyFrom_64 : decode cX8_copyFrom 64 = .ok (.return_, 1) := by decide +kernel
theorem dX8_valueOf_0 : decode cX8_valueOf 0 = .ok (.iload_n 1, 1) := by decide +kernel
theorem dX8_valueOf_1 : decode cX8_valueOf 1 = .ok (.tableswitch 86 0 6 #[43, 48, 53, 66, 71, 76, 81], 43) := by decide +kernel
theorem dX8_valueOf_44 : decode cX8_valueOf 44 = .ok (.aload_n 0, 1) := by decide +kernel
theorem dX8_valueOf_45 : decode cX8_valueOf 45 = .ok (.getfield 9, 3) := by decide +kernel
theorem dX8_valueOf_48 : decode cX8_valueOf 48 = .ok (.ireturn, 1) := by decide +kernel
theorem dX8_valueOf_49 : decode cX8_valueOf 49 = .ok (.aload_n 0, 1) := by decide +kernel
theorem dX8_valueOf_50 : decode cX8_valueOf 50 = .ok (.getfield 30, 3) := by decide +kernel
theorem dX8_valueOf_53 : decode cX8_valueOf 53 = .ok (.ireturn, 1) := by decide +kernel
theorem dX8_valueOf_54 : decode cX8_valueOf 54 = .ok (.aload_n 0, 1) := by decide +kernel
theorem dX8_valueOf_55 : decode cX8_valueOf 55 = .ok (.getfield 33, 3) := by decide +kernel
theorem dX8_valueOf_58 : decode cX8_valueOf 58 = .ok (.ifCond .eq 7, 3) := by decide +kernel
theorem dX8_valueOf_61 : decode cX8_valueOf 61 = .ok (.iconst 1, 1) := by decide +kernel
theorem dX8_valueOf_62 : decode cX8_valueOf 62 = .ok (.goto 4, 3) := by decide +kernel
theorem dX8_valueOf_65 : decode cX8_valueOf 65 = .ok (.iconst 0, 1) := by decide +kernel
theorem dX8_valueOf_66 : decode cX8_valueOf 66 = .ok (.ireturn, 1) := by decide +kernel
theorem dX8_valueOf_67 : decode cX8_valueOf 67 = .ok (.aload_n 0, 1) := by decide +kernel
theorem dX8_valueOf_68 : decode cX8_valueOf 68 = .ok (.getfield 37, 3) := by decide +kernel
theorem dX8_valueOf_71 : decode cX8_valueOf 71 = .ok (.ireturn, 1) := by decide +kernel
theorem dX8_valueOf_72 : decode cX8_valueOf 72 = .ok (.aload_n 0, 1) := by decide +kernel
theorem dX8_valueOf_73 : decode cX8_valueOf 73 = .ok (.getfield 18, 3) := by decide +kernel
theorem dX8_valueOf_76 : decode cX8_valueOf 76 = .ok (.ireturn, 1) := by decide +kernel
theorem dX8_valueOf_77 : decode cX8_valueOf 77 = .ok (.aload_n 0, 1) := by decide +kernel
theorem dX8_valueOf_78 : decode cX8_valueOf 78 = .ok (.getfield 21, 3) := by decide +kernel
theorem dX8_valueOf_81 : decode cX8_valueOf 81 = .ok (.ireturn, 1) := by decide +kernel
theorem dX8_valueOf_82 : decode cX8_valueOf 82 = .ok (.aload_n 0, 1) := by decide +kernel
theorem dX8_valueOf_83 : decode cX8_valueOf 83 = .ok (.getfield 24, 3) := by decide +kernel
theorem dX8_valueOf_86 : decode cX8_valueOf 86 = .ok (.ireturn, 1) := by decide +kernel
theorem dX8_valueOf_87 : decode cX8_valueOf 87 = .ok (.aload_n 0, 1) := by decide +kernel
theorem dX8_valueOf_88 : decode cX8_valueOf 88 = .ok (.getfield 27, 3) := by decide +kernel
theorem dX8_valueOf_91 : decode cX8_valueOf 91 = .ok (.ireturn, 1) := by decide +kernel
theorem dX9_init_0 : decode cX9_init 0 = .ok (.aload_n 0, 1) := by decide +kernel
theorem dX9_init_1 : decode cX9_init 1 = .ok (.invokespecial 1, 3) := by decide +kernel
theorem dX9_init_4 : decode cX9_init 4 = .ok (.aload_n 0, 1) := by decide +kernel
theorem dX9_init_5 : decode cX9_init 5 = .ok (.sipush 900, 3) := by decide +kernel
theorem dX9_init_8 : decode cX9_init 8 = .ok (.newarray .byte, 2) := by decide +kernel
theorem dX9_init_10 : decode cX9_init 10 = .ok (.putfield 9, 3) := by decide +kernel
theorem dX9_init_13 : decode cX9_init 13 = .ok (.aload_n 0, 1) := by decide +kernel
theorem dX9_init_14 : decode cX9_init 14 = .ok (.new 13, 3) := by decide +kernel
theorem dX9_init_17 : decode cX9_init 17 = .ok (.dup, 1) := by decide +kernel
theorem dX9_init_18 : decode cX9_init 18 = .ok (.invokespecial 15, 3) := by decide +kernel
theorem dX9_init_21 : decode cX9_init 21 = .ok (.putfield 16, 3) := by decide +kernel
theorem dX9_init_24 : decode cX9_init 24 = .ok (.aload_n 0, 1) := by decide +kernel
theorem dX9_init_25 : decode cX9_init 25 = .ok (.new 20, 3) := by decide +kernel
theorem dX9_init_28 : decode cX9_init 28 = .ok (.dup, 1) := by decide +kernel
theorem dX9_init_29 : decode cX9_init 29 = .ok (.aload_n 0, 1) := by decide +kernel
theorem dX9_init_30 : decode cX9_init 30 = .ok (.getfield 16, 3) := by decide +kernel
theorem dX9_init_33 : decode cX9_init 33 = .ok (.invokespecial 22, 3) := by decide +kernel
theorem dX9_init_36 : decode cX9_init 36 = .ok (.putfield 25, 3) := by decide +kernel
theorem dX9_init_39 : decode cX9_init 39 = .ok (.aload_n 0, 1) := by decide +kernel
theorem dX9_init_40 : decode cX9_init 40 = .ok (.new 13, 3) := by decide +kernel
theorem dX9_init_43 : decode cX9_init 43 = .ok (.dup, 1) := by decide +kernel
theorem dX9_init_44 : decode cX9_init 44 = .ok (.invokespecial 15, 3) := by decide +kernel
theorem dX9_init_47 : decode cX9_init 47 = .ok (.putfield 29, 3) := by decide +kernel
theorem dX9_init_50 : decode cX9_init 50 = .ok (.aload_n 0, 1) := by decide +kernel
theorem dX9_init_51 : decode cX9_init 51 = .ok (.new 32, 3) := by decide +kernel
theorem dX9_init_54 : decode cX9_init 54 = .ok (.dup, 1) := by decide +kernel
theorem dX9_init_55 : decode cX9_init 55 = .ok (.aload_n 0, 1) := by decide +kernel
theorem dX9_init_56 : decode cX9_init 56 = .ok (.getfield 16, 3) := by decide +kernel
theorem dX9_init_59 : decode cX9_init 59 = .ok (.aload_n 0, 1) := by decide +kernel
theorem dX9_init_60 : decode cX9_init 60 = .ok (.getfield 29, 3) := by decide +kernel
theorem dX9_init_63 : decode cX9_init 63 = .ok (.invokespecial 34, 3) := by decide +kernel
theorem dX9_init_66 : decode cX9_init 66 = .ok (.putfield 37, 3) := by decide +kernel
theorem dX9_init_69 : decode cX9_init 69 = .ok (.aload_n 0, 1) := by decide +kernel
theorem dX9_init_70 : decode cX9_init 70 = .ok (.new 41, 3) := by decide +kernel
theorem dX9_init_73 : decode cX9_init 73 = .ok (.dup, 1) := by decide +kernel
theorem dX9_init_74 : decode cX9_init 74 = .ok (.aload_n 0, 1) := by decide +kernel
theorem dX9_init_75 : decode cX9_init 75 = .ok (.getfield 9, 3) := by decide +kernel
theorem dX9_init_78 : decode cX9_init 78 = .ok (.aload_n 0, 1) := by decide +kernel
theorem dX9_init_79 : decode cX9_init 79 = .ok (.getfield 29, 3) := by decide +kernel
theorem dX9_init_82 : decode cX9_init 82 = .ok (.invokespecial 43, 3) := by decide +kernel
theorem dX9_init_85 : decode cX9_init 85 = .ok (.putfield 46, 3) := by decide +kernel
theorem dX9_init_88 : decode cX9_init 88 = .ok (.aload_n 0, 1) := by decide +kernel
theorem dX9_init_89 : decode cX9_init 89 = .ok (.iconst 2, 1) := by decide +kernel
theorem dX9_init_90 : decode cX9_init 90 = .ok (.anewarray 13, 3) := by decide +kernel
theorem dX9_init_93 : decode cX9_init 93 = .ok (.putfield 50, 3) := by decide +kernel
theorem dX9_init_96 : decode cX9_init 96 = .ok (.iconst 0, 1) := by decide +kernel
theorem dX9_init_97 : decode cX9_init 97 = .ok (.istore_n 1, 1) := by decide +kernel
theorem dX9_init_98 : decode cX9_init 98 = .ok (.iload_n 1, 1) := by decide +kernel
theorem dX9_init_99 : decode cX9_init 99 = .ok (.iconst 2, 1) := by decide +kernel
theorem dX9_init_100 : decode cX9_init 100 = .ok (.if_icmp .ge 22, 3) := by decide +kernel
theorem dX9_init_103 : decode cX9_init 103 = .ok (.aload_n 0, 1) := by decide +kernel
theorem dX9_init_104 : decode cX9_init 104 = .ok (.getfield 50, 3) := by decide +kernel
theorem dX9_init_107 : decode cX9_init 107 = .ok (.iload_n 1, 1) := by decide +kernel
theorem dX9_init_108 : decode cX9_init 108 = .ok (.new 13, 3) := by decide +kernel
theorem dX9_init_111 : decode cX9_init 111 = .ok (.dup, 1) := by decide +kernel
theorem dX9_init_112 : decode cX9_init 112 = .ok (.invokespecial 15, 3) := by decide +kernel
theorem dX9_init_115 : decode cX9_init 115 = .ok (.aastore, 1) := by decide +kernel
theorem dX9_init_116 : decode cX9_init 116 = .ok (.iinc 1 1, 3) := by decide +kernel
theorem dX9_init_119 : decode cX9_init 119 = .ok (.goto (-21), 3) := by decide +kernel
theorem dX9_init_122 : decode cX9_init 122 = .ok (.aload_n 0, 1) := by decide +kernel
theorem dX9_init_123 : decode cX9_init 123 = .ok (.iconst 2, 1) := by decide +kernel
theorem dX9_init_124 : decode cX9_init 124 = .ok (.newarray .boolean, 2) := by decide +kernel
theorem dX9_init_126 : decode cX9_init 126 = .ok (.putfield 54, 3) := by decide +kernel
theorem dX9_init_129 : decode cX9_init 129 = .ok (.return_, 1) := by decide +kernel
theorem dX9_append_0 : decode cX9_append 0 = .ok (.iconst 0, 1) := by decide +kernel
theorem dX9_append_1 : decode cX9_append 1 = .ok (.istore_n 3, 1) := by decide +kernel
theorem dX9_append_2 : decode cX9_append 2 = .ok (.bipush 56, 2) := by decide +kernel
theorem dX9_append_4 : decode cX9_append 4 = .ok (.istore 4, 2) := by decide +kernel
theorem dX9_append_6 : decode cX9_append 6 = .ok (.iload 4, 2) := by decide +kernel
theorem dX9_append_8 : decode cX9_append 8 = .ok (.ifCond .lt 21, 3) := by decide +kernel
theorem dX9_append_11 : decode cX9_append 11 = .ok (.lload_n 1, 1) := by decide +kernel
theorem dX9_append_12 : decode cX9_append 12 = .ok (.iload 4, 2) := by decide +kernel
theorem dX9_append_14 : decode cX9_append 14 = .ok (.lushr, 1) := by decide +kernel
theorem dX9_append_15 : decode cX9_append 15 = .ok (.l2i, 1) := by decide +kernel
theorem dX9_append_16 : decode cX9_append 16 = .ok (.i2b, 1) := by decide +kernel
theorem dX9_append_17 : decode cX9_append 17 = .ok (.ifCond .eq 6, 3) := by decide +kernel
theorem dX9_append_20 : decode cX9_append 20 = .ok (.iinc 3 1, 3) := by decide +kernel
theorem dX9_append_23 : decode cX9_append 23 = .ok (.iinc 4 (-8), 3) := by decide +kernel
theorem dX9_append_26 : decode cX9_append 26 = .ok (.goto (-20), 3) := by decide +kernel
theorem dX9_append_29 : decode cX9_append 29 = .ok (.aload_n 0, 1) := by decide +kernel
theorem dX9_append_30 : decode cX9_append 30 = .ok (.getfield 58, 3) := by decide +kernel
theorem dX9_append_33 : decode cX9_append 33 = .ok (.iload_n 3, 1) := by decide +kernel
theorem dX9_append_34 : decode cX9_append 34 = .ok (.iadd, 1) := by decide +kernel
theorem dX9_append_35 : decode cX9_append 35 = .ok (.sipush 900, 3) := by decide +kernel
theorem dX9_append_38 : decode cX9_append 38 = .ok (.if_icmp .le 6, 3) := by decide +kernel
theorem dX9_append_41 : decode cX9_append 41 = .ok (.bipush (-2), 2) := by decide +kernel
theorem dX9_append_43 : decode cX9_append 43 = .ok (.ireturn, 1) := by decide +kernel
theorem dX9_append_44 : decode cX9_append 44 = .ok (.bipush 56, 2) := by decide +kernel
theorem dX9_append_46 : decode cX9_append 46 = .ok (.istore 4, 2) := by decide +kernel
theorem dX9_append_48 : decode cX9_append 48 = .ok (.iload 4, 2) := by decide +kernel
theorem dX9_append_50 : decode cX9_append 50 = .ok (.ifCond .lt 53, 3) := by decide +kernel
theorem dX9_append_53 : decode cX9_append 53 = .ok (.lload_n 1, 1) := by decide +kernel
theorem dX9_append_54 : decode cX9_append 54 = .ok (.iload 4, 2) := by decide +kernel
theorem dX9_append_56 : decode cX9_append 56 = .ok (.lushr, 1) := by decide +kernel
theorem dX9_append_57 : decode cX9_append 57 = .ok (.l2i, 1) := by decide +kernel
theorem dX9_append_58 : decode cX9_append 58 = .ok (.i2b, 1) := by decide +kernel
theorem dX9_append_59 : decode cX9_append 59 = .ok (.istore 5, 2) := by decide +kernel
theorem dX9_append_61 : decode cX9_append 61 = .ok (.iload 5, 2) := by decide +kernel
theorem dX9_append_63 : decode cX9_append 63 = .ok (.ifCond .eq 34, 3) := by decide +kernel
theorem dX9_append_66 : decode cX9_append 66 = .ok (.aload_n 0, 1) := by decide +kernel
theorem dX9_append_67 : decode cX9_append 67 = .ok (.getfield 58, 3) := by decide +kernel
theorem dX9_append_70 : decode cX9_append 70 = .ok (.sipush 900, 3) := by decide +kernel
theorem dX9_append_73 : decode cX9_append 73 = .ok (.if_icmp .ge 24, 3) := by decide +kernel
theorem dX9_append_76 : decode cX9_append 76 = .ok (.aload_n 0, 1) := by decide +kernel
theorem dX9_append_77 : decode cX9_append 77 = .ok (.getfield 9, 3) := by decide +kernel
theorem dX9_append_80 : decode cX9_append 80 = .ok (.aload_n 0, 1) := by decide +kernel
theorem dX9_append_81 : decode cX9_append 81 = .ok (.getfield 58, 3) := by decide +kernel
theorem dX9_append_84 : decode cX9_append 84 = .ok (.iload 5, 2) := by decide +kernel
theorem dX9_append_86 : decode cX9_append 86 = .ok (.bastore, 1) := by decide +kernel
theorem dX9_append_87 : decode cX9_append 87 = .ok (.aload_n 0, 1) := by decide +kernel
theorem dX9_append_88 : decode cX9_append 88 = .ok (.dup, 1) := by decide +kernel
theorem dX9_append_89 : decode cX9_append 89 = .ok (.getfield 58, 3) := by decide +kernel
theorem dX9_append_92 : decode cX9_append 92 = .ok (.iconst 1, 1) := by decide +kernel
theorem dX9_append_93 : decode cX9_append 93 = .ok (.iadd, 1) := by decide +kernel
theorem dX9_append_94 : decode cX9_append 94 = .ok (.putfield 58, 3) := by decide +kernel
theorem dX9_append_97 : decode cX9_append 97 = .ok (.iinc 4 (-8), 3) := by decide +kernel
theorem dX9_append_100 : decode cX9_append 100 = .ok (.goto (-52), 3) := by decide +kernel
theorem dX9_append_103 : decode cX9_append 103 = .ok (.aload_n 0, 1) := by decide +kernel
theorem dX9_append_104 : decode cX9_append 104 = .ok (.getfield 58, 3) := by decide +kernel
theorem dX9_append_107 : decode cX9_append 107 = .ok (.ireturn, 1) := by decide +kernel
theorem dX9_load_0 : decode cX9_load 0 = .ok (.aload_n 0, 1) := by decide +kernel
theorem dX9_load_1 : decode cX9_load 1 = .ok (.getfield 58, 3) := by decide +kernel
theorem dX9_load_4 : decode cX9_load 4 = .ok (.istore_n 1, 1) := by decide +kernel
theorem dX9_load_5 : decode cX9_load 5 = .ok (.aload_n 0, 1) := by decide +kernel
theorem dX9_load_6 : decode cX9_load 6 = .ok (.iconst 0, 1) := by decide +kernel
theorem dX9_load_7 : decode cX9_load 7 = .ok (.putfield 58, 3) := by decide +kernel
theorem dX9_load_10 : decode cX9_load 10 = .ok (.aload_n 0, 1) := by decide +kernel
theorem dX9_load_11 : decode cX9_load 11 = .ok (.getfield 46, 3) := by decide +kernel
theorem dX9_load_14 : decode cX9_load 14 = .ok (.iload_n 1, 1) := by decide +kernel
theorem dX9_load_15 : decode cX9_load 15 = .ok (.invokevirtual 62, 3) := by decide +kernel
theorem dX9_load_18 : decode cX9_load 18 = .ok (.aload_n 0, 1) := by decide +kernel
theorem dX9_load_19 : decode cX9_load 19 = .ok (.aload_n 0, 1) := by decide +kernel
theorem dX9_load_20 : decode cX9_load 20 = .ok (.getfield 46, 3) := by decide +kernel
theorem dX9_load_23 : decode cX9_load 23 = .ok (.getfield 66, 3) := by decide +kernel
theorem dX9_load_26 : decode cX9_load 26 = .ok (.putfield 69, 3) := by decide +kernel
theorem dX9_load_29 : decode cX9_load 29 = .ok (.aload_n 0, 1) := by decide +kernel
theorem dX9_load_30 : decode cX9_load 30 = .ok (.getfield 69, 3) := by decide +kernel
theorem dX9_load_33 : decode cX9_load 33 = .ok (.ifCond .eq 14, 3) := by decide +kernel
theorem dX9_load_36 : decode cX9_load 36 = .ok (.bipush (-100), 2) := by decide +kernel
theorem dX9_load_38 : decode cX9_load 38 = .ok (.aload_n 0, 1) := by decide +kernel
theorem dX9_load_39 : decode cX9_load 39 = .ok (.getfield 46, 3) := by decide +kernel
theorem dX9_load_42 : decode cX9_load 42 = .ok (.getfield 72, 3) := by decide +kernel
theorem dX9_load_45 : decode cX9_load 45 = .ok (.isub, 1) := by decide +kernel
theorem dX9_load_46 : decode cX9_load 46 = .ok (.ireturn, 1) := by decide +kernel
theorem dX9_load_47 : decode cX9_load 47 = .ok (.aload_n 0, 1) := by decide +kernel
theorem dX9_load_48 : decode cX9_load 48 = .ok (.getfield 16, 3) := by decide +kernel
theorem dX9_load_51 : decode cX9_load 51 = .ok (.aload_n 0, 1) := by decide +kernel
theorem dX9_load_52 : decode cX9_load 52 = .ok (.getfield 29, 3) := by decide +kernel
theorem dX9_load_55 : decode cX9_load 55 = .ok (.invokevirtual 75, 3) := by decide +kernel
theorem dX9_load_58 : decode cX9_load 58 = .ok (.aload_n 0, 1) := by decide +kernel
theorem dX9_load_59 : decode cX9_load 59 = .ok (.getfield 16, 3) := by decide +kernel
theorem dX9_load_62 : decode cX9_load 62 = .ok (.getfield 78, 3) := by decide +kernel
theorem dX9_load_65 : decode cX9_load 65 = .ok (.getfield 82, 3) := by decide +kernel
theorem dX9_load_68 : decode cX9_load 68 = .ok (.ireturn, 1) := by decide +kernel
theorem dX9_loadError_0 : decode cX9_loadError 0 = .ok (.aload_n 0, 1) := by decide +kernel
theorem dX9_loadError_1 : decode cX9_loadError 1 = .ok (.getfield 69, 3) := by decide +kernel
theorem dX9_loadError_4 : decode cX9_loadError 4 = .ok (.ireturn, 1) := by decide +kernel
theorem dX9_count_0 : decode cX9_count 0 = .ok (.iload_n 1, 1) := by decide +kernel
theorem dX9_count_1 : decode cX9_count 1 = .ok (.tableswitch 96 0 5 #[39, 47, 55, 66, 74, 85], 39) := by decide +kernel
theorem dX9_count_40 : decode cX9_count 40 = .ok (.aload_n 0, 1) := by decide +kernel
theorem dX9_count_41 : decode cX9_count 41 = .ok (.getfield 16, 3) := by decide +kernel
theorem dX9_count_44 : decode cX9_count 44 = .ok (.getfield 87, 3) := by decide +kernel
theorem dX9_count_47 : decode cX9_count 47 = .ok (.ireturn, 1) := by decide +kernel
theorem dX9_count_48 : decode cX9_count 48 = .ok (.aload_n 0, 1) := by decide +kernel
theorem dX9_count_49 : decode cX9_count 49 = .ok (.getfield 16, 3) := by decide +kernel
theorem dX9_count_52 : decode cX9_count 52 = .ok (.getfield 90, 3) := by decide +kernel
theorem dX9_count_55 : decode cX9_count 55 = .ok (.ireturn, 1) := by decide +kernel
theorem dX9_count_56 : decode cX9_count 56 = .ok (.aload_n 0, 1) := by decide +kernel
theorem dX9_count_57 : decode cX9_count 57 = .ok (.getfield 16, 3) := by decide +kernel
theorem dX9_count_60 : decode cX9_count 60 = .ok (.getfield 93, 3) := by decide +kernel
theorem dX9_count_63 : decode cX9_count 63 = .ok (.getfield 97, 3) := by decide +kernel
theorem dX9_count_66 : decode cX9_count 66 = .ok (.ireturn, 1) := by decide +kernel
theorem dX9_count_67 : decode cX9_count 67 = .ok (.aload_n 0, 1) := by decide +kernel
theorem dX9_count_68 : decode cX9_count 68 = .ok (.getfield 16, 3) := by decide +kernel
theorem dX9_count_71 : decode cX9_count 71 = .ok (.getfield 100, 3) := by decide +kernel
theorem dX9_count_74 : decode cX9_count 74 = .ok (.ireturn, 1) := by decide +kernel
theorem dX9_count_75 : decode cX9_count 75 = .ok (.aload_n 0, 1) := by decide +kernel
theorem dX9_count_76 : decode cX9_count 76 = .ok (.getfield 16, 3) := by decide +kernel
theorem dX9_count_79 : decode cX9_count 79 = .ok (.getfield 78, 3) := by decide +kernel
theorem dX9_count_82 : decode cX9_count 82 = .ok (.getfield 82, 3) := by decide +kernel
theorem dX9_count_85 : decode cX9_count 85 = .ok (.ireturn, 1) := by decide +kernel
theorem dX9_count_86 : decode cX9_count 86 = .ok (.aload_n 0, 1) := by decide +kernel
theorem dX9_count_87 : decode cX9_count 87 = .ok (.getfield 16, 3) := by decide +kernel
theorem dX9_count_90 : decode cX9_count 90 = .ok (.getfield 78, 3) := by decide +kernel
theorem dX9_count_93 : decode cX9_count 93 = .ok (.getfield 103, 3) := by decide +kernel
theorem dX9_count_96 : decode cX9_count 96 = .ok (.ireturn, 1) := by decide +kernel
theorem dX9_count_97 : decode cX9_count 97 = .ok (.new 106, 3) := by decide +kernel
theorem dX9_count_100 : decode cX9_count 100 = .ok (.dup, 1) := by decide +kernel
theorem dX9_count_101 : decode cX9_count 101 = .ok (.ldc 108, 2) := by decide +kernel
theorem dX9_count_103 : decode cX9_count 103 = .ok (.invokespecial 110, 3) := by decide +kernel
theorem dX9_count_106 : decode cX9_count 106 = .ok (.athrow, 1) := by decide +kernel
theorem dX9_setting_0 : decode cX9_setting 0 = .ok (.iload_n 1, 1) := by decide +kernel
theorem dX9_setting_1 : decode cX9_setting 1 = .ok (.iconst 0, 1) := by decide +kernel
theorem dX9_setting_2 : decode cX9_setting 2 = .ok (.bipush 14, 2) := by decide +kernel
theorem dX9_setting_4 : decode cX9_setting 4 = .ok (.invokestatic 113, 3) := by decide +kernel
theorem dX9_setting_7 : decode cX9_setting 7 = .ok (.aload_n 0, 1) := by decide +kernel
theorem dX9_setting_8 : decode cX9_setting 8 = .ok (.getfield 16, 3) := by decide +kernel
theorem dX9_setting_11 : decode cX9_setting 11 = .ok (.getfield 117, 3) := by decide +kernel
theorem dX9_setting_14 : decode cX9_setting 14 = .ok (.iload_n 1, 1) := by decide +kernel
theorem dX9_setting_15 : decode cX9_setting 15 = .ok (.iaload, 1) := by decide +kernel
theorem dX9_setting_16 : decode cX9_setting 16 = .ok (.ireturn, 1) := by decide +kernel
theorem dX9_set_0 : decode cX9_set 0 = .ok (.iload_n 1, 1) := by decide +kernel
theorem dX9_set_1 : decode cX9_set 1 = .ok (.iconst 0, 1) := by decide +kernel
theorem dX9_set_2 : decode cX9_set 2 = .ok (.bipush 14, 2) := by decide +kernel
theorem dX9_set_4 : decode cX9_set 4 = .ok (.invokestatic 113, 3) := by decide +kernel
theorem dX9_set_7 : decode cX9_set 7 = .ok (.iload_n 1, 1) := by decide +kernel
theorem dX9_set_8 : decode cX9_set 8 = .ok (.bipush 8, 2) := by decide +kernel
theorem dX9_set_10 : decode cX9_set 10 = .ok (.if_icmp .eq 15, 3) := by decide +kernel
theorem dX9_set_13 : decode cX9_set 13 = .ok (.iload_n 1, 1) := by decide +kernel
theorem dX9_set_14 : decode cX9_set 14 = .ok (.bipush 9, 2) := by decide +kernel
theorem dX9_set_16 : decode cX9_set 16 = .ok (.if_icmp .eq 9, 3) := by decide +kernel
theorem dX9_set_19 : decode cX9_set 19 = .ok (.iload_n 1, 1) := by decide +kernel
theorem dX9_set_20 : decode cX9_set 20 = .ok (.bipush 10, 2) := by decide +kernel
theorem dX9_set_22 : decode cX9_set 22 = .ok (.if_icmp .ne 13, 3) := by decide +kernel
theorem dX9_set_25 : decode cX9_set 25 = .ok (.new 106, 3) := by decide +kernel
theorem dX9_set_28 : decode cX9_set 28 = .ok (.dup, 1) := by decide +kernel
theorem dX9_set_29 : decode cX9_set 29 = .ok (.ldc 121, 2) := by decide +kernel
theorem dX9_set_31 : decode cX9_set 31 = .ok (.invokespecial 110, 3) := by decide +kernel
theorem dX9_set_34 : decode cX9_set 34 = .ok (.athrow, 1) := by decide +kernel
theorem dX9_set_35 : decode cX9_set 35 = .ok (.getstatic 123, 3) := by decide +kernel
theorem dX9_set_38 : decode cX9_set 38 = .ok (.iload_n 1, 1) := by decide +kernel
theorem dX9_set_39 : decode cX9_set 39 = .ok (.iaload, 1) := by decide +kernel
theorem dX9_set_40 : decode cX9_set 40 = .ok (.istore_n 3, 1) := by decide +kernel
theorem dX9_set_41 : decode cX9_set 41 = .ok (.iload_n 1, 1) := by decide +kernel
theorem dX9_set_42 : decode cX9_set 42 = .ok (.iconst 5, 1) := by decide +kernel
theorem dX9_set_43 : decode cX9_set 43 = .ok (.if_icmp .ne 20, 3) := by decide +kernel
theorem dX9_set_46 : decode cX9_set 46 = .ok (.bipush 100, 2) := by decide +kernel
theorem dX9_set_48 : decode cX9_set 48 = .ok (.aload_n 0, 1) := by decide +kernel
theorem dX9_set_49 : decode cX9_set 49 = .ok (.getfield 16, 3) := by decide +kernel
theorem dX9_set_52 : decode cX9_set 52 = .ok (.getfield 117, 3) := by decide +kernel
theorem dX9_set_55 : decode cX9_set 55 = .ok (.bipush 6, 2) := by decide +kernel
theorem dX9_set_57 : decode cX9_set 57 = .ok (.iaload, 1) := by decide +kernel
theorem dX9_set_58 : decode cX9_set 58 = .ok (.isub, 1) := by decide +kernel
theorem dX9_set_59 : decode cX9_set 59 = .ok (.istore_n 3, 1) := by decide +kernel
theorem dX9_set_60 : decode cX9_set 60 = .ok (.goto 22, 3) := by decide +kernel
theorem dX9_set_63 : decode cX9_set 63 = .ok (.iload_n 1, 1) := by decide +kernel
theorem dX9_set_64 : decode cX9_set 64 = .ok (.bipush 6, 2) := by decide +kernel
theorem dX9_set_66 : decode cX9_set 66 = .ok (.if_icmp .ne 16, 3) := by decide +kernel
theorem dX9_set_69 : decode cX9_set 69 = .ok (.bipush 100, 2) := by decide +kernel
theorem dX9_set_71 : decode cX9_set 71 = .ok (.aload_n 0, 1) := by decide +kernel
theorem dX9_set_72 : decode cX9_set 72 = .ok (.getfield 16, 3) := by decide +kernel
theorem dX9_set_75 : decode cX9_set 75 = .ok (.getfield 117, 3) := by decide +kernel
theorem dX9_set_78 : decode cX9_set 78 = .ok (.iconst 5, 1) := by decide +kernel
theorem dX9_set_79 : decode cX9_set 79 = .ok (.iaload, 1) := by decide +kernel
theorem dX9_set_80 : decode cX9_set 80 = .ok (.isub, 1) := by decide +kernel
theorem dX9_set_81 : decode cX9_set 81 = .ok (.istore_n 3, 1) := by decide +kernel
theorem dX9_set_82 : decode cX9_set 82 = .ok (.iload_n 2, 1) := by decide +kernel
theorem dX9_set_83 : decode cX9_set 83 = .ok (.getstatic 126, 3) := by decide +kernel
theorem dX9_set_86 : decode cX9_set 86 = .ok (.iload_n 1, 1) := by decide +kernel
theorem dX9_set_87 : decode cX9_set 87 = .ok (.iaload, 1) := by decide +kernel
theorem dX9_set_88 : decode cX9_set 88 = .ok (.iload_n 3, 1) := by decide +kernel
theorem dX9_set_89 : decode cX9_set 89 = .ok (.invokestatic 113, 3) := by decide +kernel
theorem dX9_set_92 : decode cX9_set 92 = .ok (.aload_n 0, 1) := by decide +kernel
theorem dX9_set_93 : decode cX9_set 93 = .ok (.getfield 16, 3) := by decide +kernel
theorem dX9_set_96 : decode cX9_set 96 = .ok (.getfield 117, 3) := by decide +kernel
theorem dX9_set_99 : decode cX9_set 99 = .ok (.iload_n 1, 1) := by decide +kernel
theorem dX9_set_100 : decode cX9_set 100 = .ok (.iaload, 1) := by decide +kernel
theorem dX9_set_101 : decode cX9_set 101 = .ok (.istore 4, 2) := by decide +kernel
theorem dX9_set_103 : decode cX9_set 103 = .ok (.aload_n 0, 1) := by decide +kernel
theorem dX9_set_104 : decode cX9_set 104 = .ok (.getfield 16, 3) := by decide +kernel
theorem dX9_set_107 : decode cX9_set 107 = .ok (.getfield 117, 3) := by decide +kernel
theorem dX9_set_110 : decode cX9_set 110 = .ok (.iload_n 1, 1) := by decide +kernel
theorem dX9_set_111 : decode cX9_set 111 = .ok (.iload_n 2, 1) := by decide +kernel
theorem dX9_set_112 : decode cX9_set 112 = .ok (.iastore, 1) := by decide +kernel
theorem dX9_set_113 : decode cX9_set 113 = .ok (.iload 4, 2) := by decide +kernel
theorem dX9_set_115 : decode cX9_set 115 = .ok (.ireturn, 1) := by decide +kernel
theorem dX9_spindleValue_0 : decode cX9_spindleValue 0 = .ok (.iload_n 1, 1) := by decide +kernel
theorem dX9_spindleValue_1 : decode cX9_spindleValue 1 = .ok (.aload_n 0, 1) := by decide +kernel
theorem dX9_spindleValue_2 : decode cX9_spindleValue 2 = .ok (.getfield 16, 3) := by decide +kernel
theorem dX9_spindleValue_5 : decode cX9_spindleValue 5 = .ok (.getfield 87, 3) := by decide +kernel
theorem dX9_spindleValue_8 : decode cX9_spindleValue 8 = .ok (.invokestatic 129, 3) := by decide +kernel
theorem dX9_spindleValue_11 : decode cX9_spindleValue 11 = .ok (.iload_n 2, 1) := by decide +kernel
theorem dX9_spindleValue_12 : decode cX9_spindleValue 12 = .ok (.iconst 0, 1) := by decide +kernel
theorem dX9_spindleValue_13 : decode cX9_spindleValue 13 = .ok (.bipush 7, 2) := by decide +kernel
theorem dX9_spindleValue_15 : decode cX9_spindleValue 15 = .ok (.invokestatic 113, 3) := by decide +kernel
theorem dX9_spindleValue_18 : decode cX9_spindleValue 18 = .ok (.aload_n 0, 1) := by decide +kernel
theorem dX9_spindleValue_19 : decode cX9_spindleValue 19 = .ok (.getfield 16, 3) := by decide +kernel
theorem dX9_spindleValue_22 : decode cX9_spindleValue 22 = .ok (.getfield 133, 3) := by decide +kernel
theorem dX9_spindleValue_25 : decode cX9_spindleValue 25 = .ok (.iload_n 1, 1) := by decide +kernel
theorem dX9_spindleValue_26 : decode cX9_spindleValue 26 = .ok (.aaload, 1) := by decide +kernel
theorem dX9_spindleValue_27 : decode cX9_spindleValue 27 = .ok (.iload_n 2, 1) := by decide +kernel
theorem dX9_spindleValue_28 : decode cX9_spindleValue 28 = .ok (.invokevirtual 137, 3) := by decide +kernel
theorem dX9_spindleValue_31 : decode cX9_spindleValue 31 = .ok (.ireturn, 1) := by decide +kernel
theorem dX9_freeNozzles_0 : decode cX9_freeNozzles 0 = .ok (.iload_n 1, 1) := by decide +kernel
theorem dX9_freeNozzles_1 : decode cX9_freeNozzles 1 = .ok (.aload_n 0, 1) := by decide +kernel
theorem dX9_freeNozzles_2 : decode cX9_freeNozzles 2 = .ok (.getfield 16, 3) := by decide +kernel
theorem dX9_freeNozzles_5 : decode cX9_freeNozzles 5 = .ok (.getfield 90, 3) := by decide +kernel
theorem dX9_freeNozzles_8 : decode cX9_freeNozzles 8 = .ok (.invokestatic 129, 3) := by decide +kernel
theorem dX9_freeNozzles_11 : decode cX9_freeNozzles 11 = .ok (.aload_n 0, 1) := by decide +kernel
theorem dX9_freeNozzles_12 : decode cX9_freeNozzles 12 = .ok (.getfield 16, 3) := by decide +kernel
theorem dX9_freeNozzles_15 : decode cX9_freeNozzles 15 = .ok (.getfield 143, 3) := by decide +kernel
theorem dX9_freeNozzles_18 : decode cX9_freeNozzles 18 = .ok (.iload_n 1, 1) := by decide +kernel
theorem dX9_freeNozzles_19 : decode cX9_freeNozzles 19 = .ok (.iaload, 1) := by decide +kernel
theorem dX9_freeNozzles_20 : decode cX9_freeNozzles 20 = .ok (.ireturn, 1) := by decide +kernel
theorem dX9_nozzleFor_0 : decode cX9_nozzleFor 0 = .ok (.iload_n 1, 1) := by decide +kernel
theorem dX9_nozzleFor_1 : decode cX9_nozzleFor 1 = .ok (.aload_n 0, 1) := by decide +kernel
theorem dX9_nozzleFor_2 : decode cX9_nozzleFor 2 = .ok (.getfield 16, 3) := by decide +kernel
theorem dX9_nozzleFor_5 : decode cX9_nozzleFor 5 = .ok (.getfield 93, 3) := by decide +kernel
theorem dX9_nozzleFor_8 : decode cX9_nozzleFor 8 = .ok (.getfield 97, 3) := by decide +kernel
theorem dX9_nozzleFor_11 : decode cX9_nozzleFor 11 = .ok (.invokestatic 129, 3) := by decide +kernel
theorem dX9_nozzleFor_14 : decode cX9_nozzleFor 14 = .ok (.aload_n 0, 1) := by decide +kernel
theorem dX9_nozzleFor_15 : decode cX9_nozzleFor 15 = .ok (.getfield 16, 3) := by decide +kernel
theorem dX9_nozzleFor_18 : decode cX9_nozzleFor 18 = .ok (.getfield 93, 3) := by decide +kernel
theorem dX9_nozzleFor_21 : decode cX9_nozzleFor 21 = .ok (.getfield 146, 3) := by decide +kernel
theorem dX9_nozzleFor_24 : decode cX9_nozzleFor 24 = .ok (.iload_n 1, 1) := by decide +kernel
theorem dX9_nozzleFor_25 : decode cX9_nozzleFor 25 = .ok (.iaload, 1) := by decide +kernel
theorem dX9_nozzleFor_26 : decode cX9_nozzleFor 26 = .ok (.ireturn, 1) := by decide +kernel
theorem dX9_feederValue_0 : decode cX9_feederValue 0 = .ok (.iload_n 1, 1) := by decide +kernel
theorem dX9_feederValue_1 : decode cX9_feederValue 1 = .ok (.aload_n 0, 1) := by decide +kernel
theorem dX9_feederValue_2 : decode cX9_feederValue 2 = .ok (.getfield 16, 3) := by decide +kernel
theorem dX9_feederValue_5 : decode cX9_feederValue 5 = .ok (.getfield 100, 3) := by decide +kernel
theorem dX9_feederValue_8 : decode cX9_feederValue 8 = .ok (.invokestatic 129, 3) := by decide +kernel
theorem dX9_feederValue_11 : decode cX9_feederValue 11 = .ok (.iload_n 2, 1) := by decide +kernel
theorem dX9_feederValue_12 : decode cX9_feederValue 12 = .ok (.iconst 0, 1) := by decide +kernel
theorem dX9_feederValue_13 : decode cX9_feederValue 13 = .ok (.bipush 7, 2) := by decide +kernel
theorem dX9_feederValue_15 : decode cX9_feederValue 15 = .ok (.invokestatic 113, 3) := by decide +kernel
theorem dX9_feederValue_18 : decode cX9_feederValue 18 = .ok (.aload_n 0, 1) := by decide +kernel
theorem dX9_feederValue_19 : decode cX9_feederValue 19 = .ok (.getfield 16, 3) := by decide +kernel
theorem dX9_feederValue_22 : decode cX9_feederValue 22 = .ok (.getfield 149, 3) := by decide +kernel
theorem dX9_feederValue_25 : decode cX9_feederValue 25 = .ok (.iload_n 1, 1) := by decide +kernel
theorem dX9_feederValue_26 : decode cX9_feederValue 26 = .ok (.aaload, 1) := by decide +kernel
theorem dX9_feederValue_27 : decode cX9_feederValue 27 = .ok (.iload_n 2, 1) := by decide +kernel
theorem dX9_feederValue_28 : decode cX9_feederValue 28 = .ok (.invokevirtual 153, 3) := by decide +kernel
theorem dX9_feederValue_31 : decode cX9_feederValue 31 = .ok (.ireturn, 1) := by decide +kernel
theorem dX9_splice_0 : decode cX9_splice 0 = .ok (.iload_n 1, 1) := by decide +kernel
theorem dX9_splice_1 : decode cX9_splice 1 = .ok (.aload_n 0, 1) := by decide +kernel
theorem dX9_splice_2 : decode cX9_splice 2 = .ok (.getfield 16, 3) := by decide +kernel
theorem dX9_splice_5 : decode cX9_splice 5 = .ok (.getfield 100, 3) := by decide +kernel
theorem dX9_splice_8 : decode cX9_splice 8 = .ok (.invokestatic 129, 3) := by decide +kernel
theorem dX9_splice_11 : decode cX9_splice 11 = .ok (.iload_n 2, 1) := by decide +kernel
theorem dX9_splice_12 : decode cX9_splice 12 = .ok (.iconst 0, 1) := by decide +kernel
theorem dX9_splice_13 : decode cX9_splice 13 = .ok (.sipush 500, 3) := by decide +kernel
theorem dX9_splice_16 : decode cX9_splice 16 = .ok (.invokestatic 113, 3) := by decide +kernel
theorem dX9_splice_19 : decode cX9_splice 19 = .ok (.aload_n 0, 1) := by decide +kernel
theorem dX9_splice_20 : decode cX9_splice 20 = .ok (.getfield 16, 3) := by decide +kernel
theorem dX9_splice_23 : decode cX9_splice 23 = .ok (.getfield 149, 3) := by decide +kernel
theorem dX9_splice_26 : decode cX9_splice 26 = .ok (.iload_n 1, 1) := by decide +kernel
theorem dX9_splice_27 : decode cX9_splice 27 = .ok (.aaload, 1) := by decide +kernel
theorem dX9_splice_28 : decode cX9_splice 28 = .ok (.astore_n 3, 1) := by decide +kernel
theorem dX9_splice_29 : decode cX9_splice 29 = .ok (.aload_n 3, 1) := by decide +kernel
theorem dX9_splice_30 : decode cX9_splice 30 = .ok (.getfield 156, 3) := by decide +kernel
theorem dX9_splice_33 : decode cX9_splice 33 = .ok (.iconst 3, 1) := by decide +kernel
theorem dX9_splice_34 : decode cX9_splice 34 = .ok (.if_icmp .lt 6, 3) := by decide +kernel
theorem dX9_splice_37 : decode cX9_splice 37 = .ok (.bipush (-2), 2) := by decide +kernel
theorem dX9_splice_39 : decode cX9_splice 39 = .ok (.ireturn, 1) := by decide +kernel
theorem dX9_splice_40 : decode cX9_splice 40 = .ok (.aload_n 3, 1) := by decide +kernel
theorem dX9_splice_41 : decode cX9_splice 41 = .ok (.iload_n 2, 1) := by decide +kernel
theorem dX9_splice_42 : decode cX9_splice 42 = .ok (.invokevirtual 159, 3) := by decide +kernel
theorem dX9_splice_45 : decode cX9_splice 45 = .ok (.aload_n 0, 1) := by decide +kernel
theorem dX9_splice_46 : decode cX9_splice 46 = .ok (.getfield 16, 3) := by decide +kernel
theorem dX9_splice_49 : decode cX9_splice 49 = .ok (.getfield 93, 3) := by decide +kernel
theorem dX9_splice_52 : decode cX9_splice 52 = .ok (.getfield 162, 3) := by decide +kernel
theorem dX9_splice_55 : decode cX9_splice 55 = .ok (.aload_n 3, 1) := by decide +kernel
theorem dX9_splice_56 : decode cX9_splice 56 = .ok (.getfield 165, 3) := by decide +kernel
theorem dX9_splice_59 : decode cX9_splice 59 = .ok (.dup2, 1) := by decide +kernel
theorem dX9_splice_60 : decode cX9_splice 60 = .ok (.iaload, 1) := by decide +kernel
theorem dX9_splice_61 : decode cX9_splice 61 = .ok (.iload_n 2, 1) := by decide +kernel
theorem dX9_splice_62 : decode cX9_splice 62 = .ok (.iadd, 1) := by decide +kernel
theorem dX9_splice_63 : decode cX9_splice 63 = .ok (.iastore, 1) := by decide +kernel
theorem dX9_splice_64 : decode cX9_splice 64 = .ok (.aload_n 0, 1) := by decide +kernel
theorem dX9_splice_65 : decode cX9_splice 65 = .ok (.getfield 16, 3) := by decide +kernel
theorem dX9_splice_68 : decode cX9_splice 68 = .ok (.getfield 168, 3) := by decide +kernel
theorem dX9_splice_71 : decode cX9_splice 71 = .ok (.dup, 1) := by decide +kernel
theorem dX9_splice_72 : decode cX9_splice 72 = .ok (.getfield 172, 3) := by decide +kernel
theorem dX9_splice_75 : decode cX9_splice 75 = .ok (.aload_n 3, 1) := by decide +kernel
theorem dX9_splice_76 : decode cX9_splice 76 = .ok (.invokevirtual 177, 3) := by decide +kernel
theorem dX9_splice_79 : decode cX9_splice 79 = .ok (.iadd, 1) := by decide +kernel
theorem dX9_splice_80 : decode cX9_splice 80 = .ok (.putfield 172, 3) := by decide +kernel
theorem dX9_splice_83 : decode cX9_splice 83 = .ok (.aload_n 3, 1) := by decide +kernel
theorem dX9_splice_84 : decode cX9_splice 84 = .ok (.getfield 156, 3) := by decide +kernel
theorem dX9_splice_87 : decode cX9_splice 87 = .ok (.ireturn, 1) := by decide +kernel
theorem dX9_takeReel_0 : decode cX9_takeReel 0 = .ok (.iload_n 1, 1) := by decide +kernel
theorem dX9_takeReel_1 : decode cX9_takeReel 1 = .ok (.aload_n 0, 1) := by decide +kernel
theorem dX9_takeReel_2 : decode cX9_takeReel 2 = .ok (.getfield 16, 3) := by decide +kernel
theorem dX9_takeReel_5 : decode cX9_takeReel 5 = .ok (.getfield 100, 3) := by decide +kernel
theorem dX9_takeReel_8 : decode cX9_takeReel 8 = .ok (.invokestatic 129, 3) := by decide +kernel
theorem dX9_takeReel_11 : decode cX9_takeReel 11 = .ok (.aload_n 0, 1) := by decide +kernel
theorem dX9_takeReel_12 : decode cX9_takeReel 12 = .ok (.getfield 16, 3) := by decide +kernel
theorem dX9_takeReel_15 : decode cX9_takeReel 15 = .ok (.getfield 149, 3) := by decide +kernel
theorem dX9_takeReel_18 : decode cX9_takeReel 18 = .ok (.iload_n 1, 1) := by decide +kernel
theorem dX9_takeReel_19 : decode cX9_takeReel 19 = .ok (.aaload, 1) := by decide +kernel
theorem dX9_takeReel_20 : decode cX9_takeReel 20 = .ok (.astore_n 2, 1) := by decide +kernel
theorem dX9_takeReel_21 : decode cX9_takeReel 21 = .ok (.aload_n 2, 1) := by decide +kernel
theorem dX9_takeReel_22 : decode cX9_takeReel 22 = .ok (.getfield 156, 3) := by decide +kernel
theorem dX9_takeReel_25 : decode cX9_takeReel 25 = .ok (.ifCond .ne 5, 3) := by decide +kernel
theorem dX9_takeReel_28 : decode cX9_takeReel 28 = .ok (.iconst (-1), 1) := by decide +kernel
theorem dX9_takeReel_29 : decode cX9_takeReel 29 = .ok (.ireturn, 1) := by decide +kernel
theorem dX9_takeReel_30 : decode cX9_takeReel 30 = .ok (.aload_n 2, 1) := by decide +kernel
theorem dX9_takeReel_31 : decode cX9_takeReel 31 = .ok (.invokevirtual 181, 3) := by decide +kernel
theorem dX9_takeReel_34 : decode cX9_takeReel 34 = .ok (.istore_n 3, 1) := by decide +kernel
theorem dX9_takeReel_35 : decode cX9_takeReel 35 = .ok (.aload_n 0, 1) := by decide +kernel
theorem dX9_takeReel_36 : decode cX9_takeReel 36 = .ok (.getfield 16, 3) := by decide +kernel
theorem dX9_takeReel_39 : decode cX9_takeReel 39 = .ok (.getfield 93, 3) := by decide +kernel
theorem dX9_takeReel_42 : decode cX9_takeReel 42 = .ok (.getfield 184, 3) := by decide +kernel
theorem dX9_takeReel_45 : decode cX9_takeReel 45 = .ok (.aload_n 2, 1) := by decide +kernel
theorem dX9_takeReel_46 : decode cX9_takeReel 46 = .ok (.getfield 165, 3) := by decide +kernel
theorem dX9_takeReel_49 : decode cX9_takeReel 49 = .ok (.dup2, 1) := by decide +kernel
theorem dX9_takeReel_50 : decode cX9_takeReel 50 = .ok (.iaload, 1) := by decide +kernel
theorem dX9_takeReel_51 : decode cX9_takeReel 51 = .ok (.iload_n 3, 1) := by decide +kernel
theorem dX9_takeReel_52 : decode cX9_takeReel 52 = .ok (.iadd, 1) := by decide +kernel
theorem dX9_takeReel_53 : decode cX9_takeReel 53 = .ok (.iastore, 1) := by decide +kernel
theorem dX9_takeReel_54 : decode cX9_takeReel 54 = .ok (.iload_n 3, 1) := by decide +kernel
theorem dX9_takeReel_55 : decode cX9_takeReel 55 = .ok (.ireturn, 1) := by decide +kernel
theorem dX9_setMiss_0 : decode cX9_setMiss 0 = .ok (.iload_n 1, 1) := by decide +kernel
theorem dX9_setMiss_1 : decode cX9_setMiss 1 = .ok (.aload_n 0, 1) := by decide +kernel
theorem dX9_setMiss_2 : decode cX9_setMiss 2 = .ok (.getfield 16, 3) := by decide +kernel
theorem dX9_setMiss_5 : decode cX9_setMiss 5 = .ok (.getfield 100, 3) := by decide +kernel
theorem dX9_setMiss_8 : decode cX9_setMiss 8 = .ok (.invokestatic 129, 3) := by decide +kernel
theorem dX9_setMiss_11 : decode cX9_setMiss 11 = .ok (.iload_n 2, 1) := by decide +kernel
theorem dX9_setMiss_12 : decode cX9_setMiss 12 = .ok (.iconst 0, 1) := by decide +kernel
theorem dX9_setMiss_13 : decode cX9_setMiss 13 = .ok (.bipush 100, 2) := by decide +kernel
theorem dX9_setMiss_15 : decode cX9_setMiss 15 = .ok (.invokestatic 113, 3) := by decide +kernel
theorem dX9_setMiss_18 : decode cX9_setMiss 18 = .ok (.aload_n 0, 1) := by decide +kernel
theorem dX9_setMiss_19 : decode cX9_setMiss 19 = .ok (.getfield 16, 3) := by decide +kernel
theorem dX9_setMiss_22 : decode cX9_setMiss 22 = .ok (.getfield 149, 3) := by decide +kernel
theorem dX9_setMiss_25 : decode cX9_setMiss 25 = .ok (.iload_n 1, 1) := by decide +kernel
theorem dX9_setMiss_26 : decode cX9_setMiss 26 = .ok (.aaload, 1) := by decide +kernel
theorem dX9_setMiss_27 : decode cX9_setMiss 27 = .ok (.getfield 187, 3) := by decide +kernel
theorem dX9_setMiss_30 : decode cX9_setMiss 30 = .ok (.istore_n 3, 1) := by decide +kernel
theorem dX9_setMiss_31 : decode cX9_setMiss 31 = .ok (.aload_n 0, 1) := by decide +kernel
theorem dX9_setMiss_32 : decode cX9_setMiss 32 = .ok (.getfield 16, 3) := by decide +kernel
theorem dX9_setMiss_35 : decode cX9_setMiss 35 = .ok (.getfield 149, 3) := by decide +kernel
theorem dX9_setMiss_38 : decode cX9_setMiss 38 = .ok (.iload_n 1, 1) := by decide +kernel
theorem dX9_setMiss_39 : decode cX9_setMiss 39 = .ok (.aaload, 1) := by decide +kernel
theorem dX9_setMiss_40 : decode cX9_setMiss 40 = .ok (.iload_n 2, 1) := by decide +kernel
theorem dX9_setMiss_41 : decode cX9_setMiss 41 = .ok (.putfield 187, 3) := by decide +kernel
theorem dX9_setMiss_44 : decode cX9_setMiss 44 = .ok (.iload_n 3, 1) := by decide +kernel
theorem dX9_setMiss_45 : decode cX9_setMiss 45 = .ok (.ireturn, 1) := by decide +kernel
theorem dX9_moveFeeder_0 : decode cX9_moveFeeder 0 = .ok (.iload_n 1, 1) := by decide +kernel
theorem dX9_moveFeeder_1 : decode cX9_moveFeeder 1 = .ok (.aload_n 0, 1) := by decide +kernel
theorem dX9_moveFeeder_2 : decode cX9_moveFeeder 2 = .ok (.getfield 16, 3) := by decide +kernel
theorem dX9_moveFeeder_5 : decode cX9_moveFeeder 5 = .ok (.getfield 100, 3) := by decide +kernel
theorem dX9_moveFeeder_8 : decode cX9_moveFeeder 8 = .ok (.invokestatic 129, 3) := by decide +kernel
theorem dX9_moveFeeder_11 : decode cX9_moveFeeder 11 = .ok (.iload_n 2, 1) := by decide +kernel
theorem dX9_moveFeeder_12 : decode cX9_moveFeeder 12 = .ok (.iconst 0, 1) := by decide +kernel
theorem dX9_moveFeeder_13 : decode cX9_moveFeeder 13 = .ok (.sipush 999, 3) := by decide +kernel
theorem dX9_moveFeeder_16 : decode cX9_moveFeeder 16 = .ok (.invokestatic 113, 3) := by decide +kernel
theorem dX9_moveFeeder_19 : decode cX9_moveFeeder 19 = .ok (.aload_n 0, 1) := by decide +kernel
theorem dX9_moveFeeder_20 : decode cX9_moveFeeder 20 = .ok (.getfield 16, 3) := by decide +kernel
theorem dX9_moveFeeder_23 : decode cX9_moveFeeder 23 = .ok (.getfield 149, 3) := by decide +kernel
theorem dX9_moveFeeder_26 : decode cX9_moveFeeder 26 = .ok (.iload_n 1, 1) := by decide +kernel
theorem dX9_moveFeeder_27 : decode cX9_moveFeeder 27 = .ok (.aaload, 1) := by decide +kernel
theorem dX9_moveFeeder_28 : decode cX9_moveFeeder 28 = .ok (.getfield 190, 3) := by decide +kernel
theorem dX9_moveFeeder_31 : decode cX9_moveFeeder 31 = .ok (.istore_n 3, 1) := by decide +kernel
theorem dX9_moveFeeder_32 : decode cX9_moveFeeder 32 = .ok (.aload_n 0, 1) := by decide +kernel
theorem dX9_moveFeeder_33 : decode cX9_moveFeeder 33 = .ok (.getfield 16, 3) := by decide +kernel
theorem dX9_moveFeeder_36 : decode cX9_moveFeeder 36 = .ok (.getfield 149, 3) := by decide +kernel
theorem dX9_moveFeeder_39 : decode cX9_moveFeeder 39 = .ok (.iload_n 1, 1) := by decide +kernel
theorem dX9_moveFeeder_40 : decode cX9_moveFeeder 40 = .ok (.aaload, 1) := by decide +kernel
theorem dX9_moveFeeder_41 : decode cX9_moveFeeder 41 = .ok (.iload_n 2, 1) := by decide +kernel
theorem dX9_moveFeeder_42 : decode cX9_moveFeeder 42 = .ok (.putfield 190, 3) := by decide +kernel
theorem dX9_moveFeeder_45 : decode cX9_moveFeeder 45 = .ok (.iload_n 3, 1) := by decide +kernel
theorem dX9_moveFeeder_46 : decode cX9_moveFeeder 46 = .ok (.ireturn, 1) := by decide +kernel
theorem dX9_nearestFeeder_0 : decode cX9_nearestFeeder 0 = .ok (.iload_n 1, 1) := by decide +kernel
theorem dX9_nearestFeeder_1 : decode cX9_nearestFeeder 1 = .ok (.aload_n 0, 1) := by decide +kernel
theorem dX9_nearestFeeder_2 : decode cX9_nearestFeeder 2 = .ok (.getfield 16, 3) := by decide +kernel
theorem dX9_nearestFeeder_5 : decode cX9_nearestFeeder 5 = .ok (.getfield 93, 3) := by decide +kernel
theorem dX9_nearestFeeder_8 : decode cX9_nearestFeeder 8 = .ok (.getfield 97, 3) := by decide +kernel
theorem dX9_nearestFeeder_11 : decode cX9_nearestFeeder 11 = .ok (.invokestatic 129, 3) := by decide +kernel
theorem dX9_nearestFeeder_14 : decode cX9_nearestFeeder 14 = .ok (.aload_n 0, 1) := by decide +kernel
theorem dX9_nearestFeeder_15 : decode cX9_nearestFeeder 15 = .ok (.getfield 16, 3) := by decide +kernel
theorem dX9_nearestFeeder_18 : decode cX9_nearestFeeder 18 = .ok (.iload_n 1, 1) := by decide +kernel
theorem dX9_nearestFeeder_19 : decode cX9_nearestFeeder 19 = .ok (.invokevirtual 193, 3) := by decide +kernel
theorem dX9_nearestFeeder_22 : decode cX9_nearestFeeder 22 = .ok (.ireturn, 1) := by decide +kernel
theorem dX9_spotValue_0 : decode cX9_spotValue 0 = .ok (.iload_n 1, 1) := by decide +kernel
theorem dX9_spotValue_1 : decode cX9_spotValue 1 = .ok (.aload_n 0, 1) := by decide +kernel
theorem dX9_spotValue_2 : decode cX9_spotValue 2 = .ok (.getfield 16, 3) := by decide +kernel
theorem dX9_spotValue_5 : decode cX9_spotValue 5 = .ok (.getfield 78, 3) := by decide +kernel
theorem dX9_spotValue_8 : decode cX9_spotValue 8 = .ok (.getfield 82, 3) := by decide +kernel
theorem dX9_spotValue_11 : decode cX9_spotValue 11 = .ok (.invokestatic 129, 3) := by decide +kernel
theorem dX9_spotValue_14 : decode cX9_spotValue 14 = .ok (.iload_n 2, 1) := by decide +kernel
theorem dX9_spotValue_15 : decode cX9_spotValue 15 = .ok (.iconst 0, 1) := by decide +kernel
theorem dX9_spotValue_16 : decode cX9_spotValue 16 = .ok (.iconst 5, 1) := by decide +kernel
theorem dX9_spotValue_17 : decode cX9_spotValue 17 = .ok (.invokestatic 113, 3) := by decide +kernel
theorem dX9_spotValue_20 : decode cX9_spotValue 20 = .ok (.aload_n 0, 1) := by decide +kernel
theorem dX9_spotValue_21 : decode cX9_spotValue 21 = .ok (.getfield 16, 3) := by decide +kernel
theorem dX9_spotValue_24 : decode cX9_spotValue 24 = .ok (.getfield 78, 3) := by decide +kernel
theorem dX9_spotValue_27 : decode cX9_spotValue 27 = .ok (.iload_n 1, 1) := by decide +kernel
theorem dX9_spotValue_28 : decode cX9_spotValue 28 = .ok (.iload_n 2, 1) := by decide +kernel
theorem dX9_spotValue_29 : decode cX9_spotValue 29 = .ok (.invokevirtual 196, 3) := by decide +kernel
theorem dX9_spotValue_32 : decode cX9_spotValue 32 = .ok (.ireturn, 1) := by decide +kernel
theorem dX9_leaveOut_0 : decode cX9_leaveOut 0 = .ok (.iload_n 1, 1) := by decide +kernel
theorem dX9_leaveOut_1 : decode cX9_leaveOut 1 = .ok (.aload_n 0, 1) := by decide +kernel
theorem dX9_leaveOut_2 : decode cX9_leaveOut 2 = .ok (.getfield 16, 3) := by decide +kernel
theorem dX9_leaveOut_5 : decode cX9_leaveOut 5 = .ok (.getfield 78, 3) := by decide +kernel
theorem dX9_leaveOut_8 : decode cX9_leaveOut 8 = .ok (.getfield 82, 3) := by decide +kernel
theorem dX9_leaveOut_11 : decode cX9_leaveOut 11 = .ok (.invokestatic 129, 3) := by decide +kernel
theorem dX9_leaveOut_14 : decode cX9_leaveOut 14 = .ok (.iload_n 2, 1) := by decide +kernel
theorem dX9_leaveOut_15 : decode cX9_leaveOut 15 = .ok (.ifCond .eq 17, 3) := by decide +kernel
theorem dX9_leaveOut_18 : decode cX9_leaveOut 18 = .ok (.aload_n 0, 1) := by decide +kernel
theorem dX9_leaveOut_19 : decode cX9_leaveOut 19 = .ok (.getfield 16, 3) := by decide +kernel
theorem dX9_leaveOut_22 : decode cX9_leaveOut 22 = .ok (.getfield 78, 3) := by decide +kernel
theorem dX9_leaveOut_25 : decode cX9_leaveOut 25 = .ok (.iload_n 1, 1) := by decide +kernel
theorem dX9_leaveOut_26 : decode cX9_leaveOut 26 = .ok (.invokevirtual 199, 3) := by decide +kernel
theorem dX9_leaveOut_29 : decode cX9_leaveOut 29 = .ok (.goto 14, 3) := by decide +kernel
theorem dX9_leaveOut_32 : decode cX9_leaveOut 32 = .ok (.aload_n 0, 1) := by decide +kernel
theorem dX9_leaveOut_33 : decode cX9_leaveOut 33 = .ok (.getfield 16, 3) := by decide +kernel
theorem dX9_leaveOut_36 : decode cX9_leaveOut 36 = .ok (.getfield 78, 3) := by decide +kernel
theorem dX9_leaveOut_39 : decode cX9_leaveOut 39 = .ok (.iload_n 1, 1) := by decide +kernel
theorem dX9_leaveOut_40 : decode cX9_leaveOut 40 = .ok (.invokevirtual 203, 3) := by decide +kernel
theorem dX9_leaveOut_43 : decode cX9_leaveOut 43 = .ok (.ireturn, 1) := by decide +kernel
theorem dX9_openSpots_0 : decode cX9_openSpots 0 = .ok (.iload_n 1, 1) := by decide +kernel
theorem dX9_openSpots_1 : decode cX9_openSpots 1 = .ok (.aload_n 0, 1) := by decide +kernel
theorem dX9_openSpots_2 : decode cX9_openSpots 2 = .ok (.getfield 16, 3) := by decide +kernel
theorem dX9_openSpots_5 : decode cX9_openSpots 5 = .ok (.getfield 93, 3) := by decide +kernel
theorem dX9_openSpots_8 : decode cX9_openSpots 8 = .ok (.getfield 97, 3) := by decide +kernel
theorem dX9_openSpots_11 : decode cX9_openSpots 11 = .ok (.invokestatic 129, 3) := by decide +kernel
theorem dX9_openSpots_14 : decode cX9_openSpots 14 = .ok (.aload_n 0, 1) := by decide +kernel
theorem dX9_openSpots_15 : decode cX9_openSpots 15 = .ok (.getfield 16, 3) := by decide +kernel
theorem dX9_openSpots_18 : decode cX9_openSpots 18 = .ok (.getfield 78, 3) := by decide +kernel
theorem dX9_openSpots_21 : decode cX9_openSpots 21 = .ok (.iload_n 1, 1) := by decide +kernel
theorem dX9_openSpots_22 : decode cX9_openSpots 22 = .ok (.invokevirtual 206, 3) := by decide +kernel
theorem dX9_openSpots_25 : decode cX9_openSpots 25 = .ok (.ireturn, 1) := by decide +kernel
theorem dX9_addBefore_0 : decode cX9_addBefore 0 = .ok (.iload_n 1, 1) := by decide +kernel
theorem dX9_addBefore_1 : decode cX9_addBefore 1 = .ok (.aload_n 0, 1) := by decide +kernel
theorem dX9_addBefore_2 : decode cX9_addBefore 2 = .ok (.getfield 16, 3) := by decide +kernel
theorem dX9_addBefore_5 : decode cX9_addBefore 5 = .ok (.getfield 78, 3) := by decide +kernel
theorem dX9_addBefore_8 : decode cX9_addBefore 8 = .ok (.getfield 82, 3) := by decide +kernel
theorem dX9_addBefore_11 : decode cX9_addBefore 11 = .ok (.invokestatic 129, 3) := by decide +kernel
theorem dX9_addBefore_14 : decode cX9_addBefore 14 = .ok (.iload_n 2, 1) := by decide +kernel
theorem dX9_addBefore_15 : decode cX9_addBefore 15 = .ok (.aload_n 0, 1) := by decide +kernel
theorem dX9_addBefore_16 : decode cX9_addBefore 16 = .ok (.getfield 16, 3) := by decide +kernel
theorem dX9_addBefore_19 : decode cX9_addBefore 19 = .ok (.getfield 78, 3) := by decide +kernel
theorem dX9_addBefore_22 : decode cX9_addBefore 22 = .ok (.getfield 82, 3) := by decide +kernel
theorem dX9_addBefore_25 : decode cX9_addBefore 25 = .ok (.invokestatic 129, 3) := by decide +kernel
theorem dX9_addBefore_28 : decode cX9_addBefore 28 = .ok (.aload_n 0, 1) := by decide +kernel
theorem dX9_addBefore_29 : decode cX9_addBefore 29 = .ok (.getfield 16, 3) := by decide +kernel
theorem dX9_addBefore_32 : decode cX9_addBefore 32 = .ok (.getfield 78, 3) := by decide +kernel
theorem dX9_addBefore_35 : decode cX9_addBefore 35 = .ok (.astore_n 3, 1) := by decide +kernel
theorem dX9_addBefore_36 : decode cX9_addBefore 36 = .ok (.aload_n 3, 1) := by decide +kernel
theorem dX9_addBefore_37 : decode cX9_addBefore 37 = .ok (.iload_n 1, 1) := by decide +kernel
theorem dX9_addBefore_38 : decode cX9_addBefore 38 = .ok (.iload_n 2, 1) := by decide +kernel
theorem dX9_addBefore_39 : decode cX9_addBefore 39 = .ok (.invokevirtual 209, 3) := by decide +kernel
theorem dX9_addBefore_42 : decode cX9_addBefore 42 = .ok (.ifCond .eq 6, 3) := by decide +kernel
theorem dX9_addBefore_45 : decode cX9_addBefore 45 = .ok (.bipush (-7), 2) := by decide +kernel
theorem dX9_addBefore_47 : decode cX9_addBefore 47 = .ok (.ireturn, 1) := by decide +kernel
theorem dX9_addBefore_48 : decode cX9_addBefore 48 = .ok (.aload_n 3, 1) := by decide +kernel
theorem dX9_addBefore_49 : decode cX9_addBefore 49 = .ok (.iload_n 1, 1) := by decide +kernel
theorem dX9_addBefore_50 : decode cX9_addBefore 50 = .ok (.iload_n 2, 1) := by decide +kernel
theorem dX9_addBefore_51 : decode cX9_addBefore 51 = .ok (.invokevirtual 213, 3) := by decide +kernel
theorem dX9_addBefore_54 : decode cX9_addBefore 54 = .ok (.iconst (-1), 1) := by decide +kernel
theorem dX9_addBefore_55 : decode cX9_addBefore 55 = .ok (.if_icmp .ne 21, 3) := by decide +kernel
theorem dX9_addBefore_58 : decode cX9_addBefore 58 = .ok (.aload_n 3, 1) := by decide +kernel
theorem dX9_addBefore_59 : decode cX9_addBefore 59 = .ok (.getfield 103, 3) := by decide +kernel
theorem dX9_addBefore_62 : decode cX9_addBefore 62 = .ok (.bipush 20, 2) := by decide +kernel
theorem dX9_addBefore_64 : decode cX9_addBefore 64 = .ok (.if_icmp .lt 6, 3) := by decide +kernel
theorem dX9_addBefore_67 : decode cX9_addBefore 67 = .ok (.bipush (-2), 2) := by decide +kernel
theorem dX9_addBefore_69 : decode cX9_addBefore 69 = .ok (.ireturn, 1) := by decide +kernel
theorem dX9_addBefore_70 : decode cX9_addBefore 70 = .ok (.aload_n 3, 1) := by decide +kernel
theorem dX9_addBefore_71 : decode cX9_addBefore 71 = .ok (.iload_n 1, 1) := by decide +kernel
theorem dX9_addBefore_72 : decode cX9_addBefore 72 = .ok (.iload_n 2, 1) := by decide +kernel
theorem dX9_addBefore_73 : decode cX9_addBefore 73 = .ok (.invokevirtual 216, 3) := by decide +kernel
theorem dX9_addBefore_76 : decode cX9_addBefore 76 = .ok (.aload_n 3, 1) := by decide +kernel
theorem dX9_addBefore_77 : decode cX9_addBefore 77 = .ok (.getfield 103, 3) := by decide +kernel
theorem dX9_addBefore_80 : decode cX9_addBefore 80 = .ok (.ireturn, 1) := by decide +kernel
theorem dX9_dropBefore_0 : decode cX9_dropBefore 0 = .ok (.iload_n 1, 1) := by decide +kernel
theorem dX9_dropBefore_1 : decode cX9_dropBefore 1 = .ok (.aload_n 0, 1) := by decide +kernel
theorem dX9_dropBefore_2 : decode cX9_dropBefore 2 = .ok (.getfield 16, 3) := by decide +kernel
theorem dX9_dropBefore_5 : decode cX9_dropBefore 5 = .ok (.getfield 78, 3) := by decide +kernel
theorem dX9_dropBefore_8 : decode cX9_dropBefore 8 = .ok (.getfield 82, 3) := by decide +kernel
theorem dX9_dropBefore_11 : decode cX9_dropBefore 11 = .ok (.invokestatic 129, 3) := by decide +kernel
theorem dX9_dropBefore_14 : decode cX9_dropBefore 14 = .ok (.iload_n 2, 1) := by decide +kernel
theorem dX9_dropBefore_15 : decode cX9_dropBefore 15 = .ok (.aload_n 0, 1) := by decide +kernel
theorem dX9_dropBefore_16 : decode cX9_dropBefore 16 = .ok (.getfield 16, 3) := by decide +kernel
theorem dX9_dropBefore_19 : decode cX9_dropBefore 19 = .ok (.getfield 78, 3) := by decide +kernel
theorem dX9_dropBefore_22 : decode cX9_dropBefore 22 = .ok (.getfield 82, 3) := by decide +kernel
theorem dX9_dropBefore_25 : decode cX9_dropBefore 25 = .ok (.invokestatic 129, 3) := by decide +kernel
theorem dX9_dropBefore_28 : decode cX9_dropBefore 28 = .ok (.aload_n 0, 1) := by decide +kernel
theorem dX9_dropBefore_29 : decode cX9_dropBefore 29 = .ok (.getfield 16, 3) := by decide +kernel
theorem dX9_dropBefore_32 : decode cX9_dropBefore 32 = .ok (.getfield 78, 3) := by decide +kernel
theorem dX9_dropBefore_35 : decode cX9_dropBefore 35 = .ok (.iload_n 1, 1) := by decide +kernel
theorem dX9_dropBefore_36 : decode cX9_dropBefore 36 = .ok (.iload_n 2, 1) := by decide +kernel
theorem dX9_dropBefore_37 : decode cX9_dropBefore 37 = .ok (.invokevirtual 213, 3) := by decide +kernel
theorem dX9_dropBefore_40 : decode cX9_dropBefore 40 = .ok (.istore_n 3, 1) := by decide +kernel
theorem dX9_dropBefore_41 : decode cX9_dropBefore 41 = .ok (.iload_n 3, 1) := by decide +kernel
theorem dX9_dropBefore_42 : decode cX9_dropBefore 42 = .ok (.iconst (-1), 1) := by decide +kernel
theorem dX9_dropBefore_43 : decode cX9_dropBefore 43 = .ok (.if_icmp .ne 5, 3) := by decide +kernel
theorem dX9_dropBefore_46 : decode cX9_dropBefore 46 = .ok (.iconst 0, 1) := by decide +kernel
theorem dX9_dropBefore_47 : decode cX9_dropBefore 47 = .ok (.ireturn, 1) := by decide +kernel
theorem dX9_dropBefore_48 : decode cX9_dropBefore 48 = .ok (.aload_n 0, 1) := by decide +kernel
theorem dX9_dropBefore_49 : decode cX9_dropBefore 49 = .ok (.getfield 16, 3) := by decide +kernel
theorem dX9_dropBefore_52 : decode cX9_dropBefore 52 = .ok (.getfield 78, 3) := by decide +kernel
theorem dX9_dropBefore_55 : decode cX9_dropBefore 55 = .ok (.iload_n 3, 1) := by decide +kernel
theorem dX9_dropBefore_56 : decode cX9_dropBefore 56 = .ok (.invokevirtual 219, 3) := by decide +kernel
theorem dX9_dropBefore_59 : decode cX9_dropBefore 59 = .ok (.iconst 1, 1) := by decide +kernel
theorem dX9_dropBefore_60 : decode cX9_dropBefore 60 = .ok (.ireturn, 1) := by decide +kernel
theorem dX9_blockedBy_0 : decode cX9_blockedBy 0 = .ok (.iload_n 1, 1) := by decide +kernel
theorem dX9_blockedBy_1 : decode cX9_blockedBy 1 = .ok (.aload_n 0, 1) := by decide +kernel
theorem dX9_blockedBy_2 : decode cX9_blockedBy 2 = .ok (.getfield 16, 3) := by decide +kernel
theorem dX9_blockedBy_5 : decode cX9_blockedBy 5 = .ok (.getfield 78, 3) := by decide +kernel
theorem dX9_blockedBy_8 : decode cX9_blockedBy 8 = .ok (.getfield 82, 3) := by decide +kernel
theorem dX9_blockedBy_11 : decode cX9_blockedBy 11 = .ok (.invokestatic 129, 3) := by decide +kernel
theorem dX9_blockedBy_14 : decode cX9_blockedBy 14 = .ok (.aload_n 0, 1) := by decide +kernel
theorem dX9_blockedBy_15 : decode cX9_blockedBy 15 = .ok (.getfield 16, 3) := by decide +kernel
theorem dX9_blockedBy_18 : decode cX9_blockedBy 18 = .ok (.getfield 78, 3) := by decide +kernel
theorem dX9_blockedBy_21 : decode cX9_blockedBy 21 = .ok (.lconst 1, 1) := by decide +kernel
theorem dX9_blockedBy_22 : decode cX9_blockedBy 22 = .ok (.iload_n 1, 1) := by decide +kernel
theorem dX9_blockedBy_23 : decode cX9_blockedBy 23 = .ok (.lshl, 1) := by decide +kernel
theorem dX9_blockedBy_24 : decode cX9_blockedBy 24 = .ok (.invokevirtual 222, 3) := by decide +kernel
theorem dX9_blockedBy_27 : decode cX9_blockedBy 27 = .ok (.aload_n 0, 1) := by decide +kernel
theorem dX9_blockedBy_28 : decode cX9_blockedBy 28 = .ok (.getfield 16, 3) := by decide +kernel
theorem dX9_blockedBy_31 : decode cX9_blockedBy 31 = .ok (.getfield 78, 3) := by decide +kernel
theorem dX9_blockedBy_34 : decode cX9_blockedBy 34 = .ok (.getfield 226, 3) := by decide +kernel
theorem dX9_blockedBy_37 : decode cX9_blockedBy 37 = .ok (.land, 1) := by decide +kernel
theorem dX9_blockedBy_38 : decode cX9_blockedBy 38 = .ok (.lreturn, 1) := by decide +kernel
theorem dX9_chain_0 : decode cX9_chain 0 = .ok (.iload_n 1, 1) := by decide +kernel
theorem dX9_chain_1 : decode cX9_chain 1 = .ok (.aload_n 0, 1) := by decide +kernel
theorem dX9_chain_2 : decode cX9_chain 2 = .ok (.getfield 16, 3) := by decide +kernel
theorem dX9_chain_5 : decode cX9_chain 5 = .ok (.getfield 78, 3) := by decide +kernel
theorem dX9_chain_8 : decode cX9_chain 8 = .ok (.getfield 82, 3) := by decide +kernel
theorem dX9_chain_11 : decode cX9_chain 11 = .ok (.invokestatic 129, 3) := by decide +kernel
theorem dX9_chain_14 : decode cX9_chain 14 = .ok (.aload_n 0, 1) := by decide +kernel
theorem dX9_chain_15 : decode cX9_chain 15 = .ok (.getfield 16, 3) := by decide +kernel
theorem dX9_chain_18 : decode cX9_chain 18 = .ok (.getfield 78, 3) := by decide +kernel
theorem dX9_chain_21 : decode cX9_chain 21 = .ok (.iload_n 1, 1) := by decide +kernel
theorem dX9_chain_22 : decode cX9_chain 22 = .ok (.invokevirtual 230, 3) := by decide +kernel
theorem dX9_chain_25 : decode cX9_chain 25 = .ok (.ireturn, 1) := by decide +kernel
theorem dX9_fillableSet_0 : decode cX9_fillableSet 0 = .ok (.aload_n 0, 1) := by decide +kernel
theorem dX9_fillableSet_1 : decode cX9_fillableSet 1 = .ok (.getfield 16, 3) := by decide +kernel
theorem dX9_fillableSet_4 : decode cX9_fillableSet 4 = .ok (.getfield 78, 3) := by decide +kernel
theorem dX9_fillableSet_7 : decode cX9_fillableSet 7 = .ok (.invokevirtual 233, 3) := by decide +kernel
theorem dX9_fillableSet_10 : decode cX9_fillableSet 10 = .ok (.lreturn, 1) := by decide +kernel
theorem dX9_filledSet_0 : decode cX9_filledSet 0 = .ok (.aload_n 0, 1) := by decide +kernel
theorem dX9_filledSet_1 : decode cX9_filledSet 1 = .ok (.getfield 16, 3) := by decide +kernel
theorem dX9_filledSet_4 : decode cX9_filledSet 4 = .ok (.getfield 78, 3) := by decide +kernel
theorem dX9_filledSet_7 : decode cX9_filledSet 7 = .ok (.getfield 237, 3) := by decide +kernel
theorem dX9_filledSet_10 : decode cX9_filledSet 10 = .ok (.lreturn, 1) := by decide +kernel
theorem dX9_newBoard_0 : decode cX9_newBoard 0 = .ok (.aload_n 0, 1) := by decide +kernel
theorem dX9_newBoard_1 : decode cX9_newBoard 1 = .ok (.getfield 16, 3) := by decide +kernel
theorem dX9_newBoard_4 : decode cX9_newBoard 4 = .ok (.dup, 1) := by decide +kernel
theorem dX9_newBoard_5 : decode cX9_newBoard 5 = .ok (.getfield 240, 3) := by decide +kernel
theorem dX9_newBoard_8 : decode cX9_newBoard 8 = .ok (.iconst 1, 1) := by decide +kernel
theorem dX9_newBoard_9 : decode cX9_newBoard 9 = .ok (.iadd, 1) := by decide +kernel
theorem dX9_newBoard_10 : decode cX9_newBoard 10 = .ok (.putfield 240, 3) := by decide +kernel
theorem dX9_newBoard_13 : decode cX9_newBoard 13 = .ok (.aload_n 0, 1) := by decide +kernel
theorem dX9_newBoard_14 : decode cX9_newBoard 14 = .ok (.getfield 16, 3) := by decide +kernel
theorem dX9_newBoard_17 : decode cX9_newBoard 17 = .ok (.getfield 78, 3) := by decide +kernel
theorem dX9_newBoard_20 : decode cX9_newBoard 20 = .ok (.invokevirtual 243, 3) := by decide +kernel
theorem dX9_newBoard_23 : decode cX9_newBoard 23 = .ok (.ireturn, 1) := by decide +kernel
theorem dX9_boards_0 : decode cX9_boards 0 = .ok (.aload_n 0, 1) := by decide +kernel
theorem dX9_boards_1 : decode cX9_boards 1 = .ok (.getfield 16, 3) := by decide +kernel
theorem dX9_boards_4 : decode cX9_boards 4 = .ok (.getfield 240, 3) := by decide +kernel
theorem dX9_boards_7 : decode cX9_boards 7 = .ok (.ireturn, 1) := by decide +kernel
theorem dX9_changeNozzle_0 : decode cX9_changeNozzle 0 = .ok (.iload_n 1, 1) := by decide +kernel
theorem dX9_changeNozzle_1 : decode cX9_changeNozzle 1 = .ok (.aload_n 0, 1) := by decide +kernel
theorem dX9_changeNozzle_2 : decode cX9_changeNozzle 2 = .ok (.getfield 16, 3) := by decide +kernel
theorem dX9_changeNozzle_5 : decode cX9_changeNozzle 5 = .ok (.getfield 87, 3) := by decide +kernel
theorem dX9_changeNozzle_8 : decode cX9_changeNozzle 8 = .ok (.invokestatic 129, 3) := by decide +kernel
theorem dX9_changeNozzle_11 : decode cX9_changeNozzle 11 = .ok (.iload_n 2, 1) := by decide +kernel
theorem dX9_changeNozzle_12 : decode cX9_changeNozzle 12 = .ok (.aload_n 0, 1) := by decide +kernel
theorem dX9_changeNozzle_13 : decode cX9_changeNozzle 13 = .ok (.getfield 16, 3) := by decide +kernel
theorem dX9_changeNozzle_16 : decode cX9_changeNozzle 16 = .ok (.getfield 90, 3) := by decide +kernel
theorem dX9_changeNozzle_19 : decode cX9_changeNozzle 19 = .ok (.invokestatic 129, 3) := by decide +kernel
theorem dX9_changeNozzle_22 : decode cX9_changeNozzle 22 = .ok (.aload_n 0, 1) := by decide +kernel
theorem dX9_changeNozzle_23 : decode cX9_changeNozzle 23 = .ok (.getfield 16, 3) := by decide +kernel
theorem dX9_changeNozzle_26 : decode cX9_changeNozzle 26 = .ok (.getfield 133, 3) := by decide +kernel
theorem dX9_changeNozzle_29 : decode cX9_changeNozzle 29 = .ok (.iload_n 1, 1) := by decide +kernel
theorem dX9_changeNozzle_30 : decode cX9_changeNozzle 30 = .ok (.aaload, 1) := by decide +kernel
theorem dX9_changeNozzle_31 : decode cX9_changeNozzle 31 = .ok (.astore_n 3, 1) := by decide +kernel
theorem dX9_changeNozzle_32 : decode cX9_changeNozzle 32 = .ok (.aload_n 3, 1) := by decide +kernel
theorem dX9_changeNozzle_33 : decode cX9_changeNozzle 33 = .ok (.getfield 246, 3) := by decide +kernel
theorem dX9_changeNozzle_36 : decode cX9_changeNozzle 36 = .ok (.iconst (-1), 1) := by decide +kernel
theorem dX9_changeNozzle_37 : decode cX9_changeNozzle 37 = .ok (.if_icmp .eq 6, 3) := by decide +kernel
theorem dX9_changeNozzle_40 : decode cX9_changeNozzle 40 = .ok (.bipush (-3), 2) := by decide +kernel
theorem dX9_changeNozzle_42 : decode cX9_changeNozzle 42 = .ok (.ireturn, 1) := by decide +kernel
theorem dX9_changeNozzle_43 : decode cX9_changeNozzle 43 = .ok (.aload_n 3, 1) := by decide +kernel
theorem dX9_changeNozzle_44 : decode cX9_changeNozzle 44 = .ok (.getfield 249, 3) := by decide +kernel
theorem dX9_changeNozzle_47 : decode cX9_changeNozzle 47 = .ok (.iload_n 2, 1) := by decide +kernel
theorem dX9_changeNozzle_48 : decode cX9_changeNozzle 48 = .ok (.if_icmp .ne 6, 3) := by decide +kernel
theorem dX9_changeNozzle_51 : decode cX9_changeNozzle 51 = .ok (.bipush (-5), 2) := by decide +kernel
theorem dX9_changeNozzle_53 : decode cX9_changeNozzle 53 = .ok (.ireturn, 1) := by decide +kernel
theorem dX9_changeNozzle_54 : decode cX9_changeNozzle 54 = .ok (.aload_n 0, 1) := by decide +kernel
theorem dX9_changeNozzle_55 : decode cX9_changeNozzle 55 = .ok (.getfield 16, 3) := by decide +kernel
theorem dX9_changeNozzle_58 : decode cX9_changeNozzle 58 = .ok (.getfield 143, 3) := by decide +kernel
theorem dX9_changeNozzle_61 : decode cX9_changeNozzle 61 = .ok (.iload_n 2, 1) := by decide +kernel
theorem dX9_changeNozzle_62 : decode cX9_changeNozzle 62 = .ok (.iaload, 1) := by decide +kernel
theorem dX9_changeNozzle_63 : decode cX9_changeNozzle 63 = .ok (.ifCond .ne 6, 3) := by decide +kernel
theorem dX9_changeNozzle_66 : decode cX9_changeNozzle 66 = .ok (.bipush (-4), 2) := by decide +kernel
theorem dX9_changeNozzle_68 : decode cX9_changeNozzle 68 = .ok (.ireturn, 1) := by decide +kernel
theorem dX9_changeNozzle_69 : decode cX9_changeNozzle 69 = .ok (.aload_n 0, 1) := by decide +kernel
theorem dX9_changeNozzle_70 : decode cX9_changeNozzle 70 = .ok (.getfield 16, 3) := by decide +kernel
theorem dX9_changeNozzle_73 : decode cX9_changeNozzle 73 = .ok (.iconst 1, 1) := by decide +kernel
theorem dX9_changeNozzle_74 : decode cX9_changeNozzle 74 = .ok (.iload_n 1, 1) := by decide +kernel
theorem dX9_changeNozzle_75 : decode cX9_changeNozzle 75 = .ok (.iload_n 2, 1) := by decide +kernel
theorem dX9_changeNozzle_76 : decode cX9_changeNozzle 76 = .ok (.invokevirtual 251, 3) := by decide +kernel
theorem dX9_changeNozzle_79 : decode cX9_changeNozzle 79 = .ok (.ireturn, 1) := by decide +kernel
theorem dX9_pick_0 : decode cX9_pick 0 = .ok (.iload_n 1, 1) := by decide +kernel
theorem dX9_pick_1 : decode cX9_pick 1 = .ok (.aload_n 0, 1) := by decide +kernel
theorem dX9_pick_2 : decode cX9_pick 2 = .ok (.getfield 16, 3) := by decide +kernel
theorem dX9_pick_5 : decode cX9_pick 5 = .ok (.getfield 87, 3) := by decide +kernel
theorem dX9_pick_8 : decode cX9_pick 8 = .ok (.invokestatic 129, 3) := by decide +kernel
theorem dX9_pick_11 : decode cX9_pick 11 = .ok (.iload_n 2, 1) := by decide +kernel
theorem dX9_pick_12 : decode cX9_pick 12 = .ok (.aload_n 0, 1) := by decide +kernel
theorem dX9_pick_13 : decode cX9_pick 13 = .ok (.getfield 16, 3) := by decide +kernel
theorem dX9_pick_16 : decode cX9_pick 16 = .ok (.getfield 100, 3) := by decide +kernel
theorem dX9_pick_19 : decode cX9_pick 19 = .ok (.invokestatic 129, 3) := by decide +kernel
theorem dX9_pick_22 : decode cX9_pick 22 = .ok (.aload_n 0, 1) := by decide +kernel
theorem dX9_pick_23 : decode cX9_pick 23 = .ok (.getfield 16, 3) := by decide +kernel
theorem dX9_pick_26 : decode cX9_pick 26 = .ok (.getfield 133, 3) := by decide +kernel
theorem dX9_pick_29 : decode cX9_pick 29 = .ok (.iload_n 1, 1) := by decide +kernel
theorem dX9_pick_30 : decode cX9_pick 30 = .ok (.aaload, 1) := by decide +kernel
theorem dX9_pick_31 : decode cX9_pick 31 = .ok (.astore_n 3, 1) := by decide +kernel
theorem dX9_pick_32 : decode cX9_pick 32 = .ok (.aload_n 0, 1) := by decide +kernel
theorem dX9_pick_33 : decode cX9_pick 33 = .ok (.getfield 16, 3) := by decide +kernel
theorem dX9_pick_36 : decode cX9_pick 36 = .ok (.getfield 149, 3) := by decide +kernel
theorem dX9_pick_39 : decode cX9_pick 39 = .ok (.iload_n 2, 1) := by decide +kernel
theorem dX9_pick_40 : decode cX9_pick 40 = .ok (.aaload, 1) := by decide +kernel
theorem dX9_pick_41 : decode cX9_pick 41 = .ok (.astore 4, 2) := by decide +kernel
theorem dX9_pick_43 : decode cX9_pick 43 = .ok (.aload_n 3, 1) := by decide +kernel
theorem dX9_pick_44 : decode cX9_pick 44 = .ok (.getfield 246, 3) := by decide +kernel
theorem dX9_pick_47 : decode cX9_pick 47 = .ok (.iconst (-1), 1) := by decide +kernel
theorem dX9_pick_48 : decode cX9_pick 48 = .ok (.if_icmp .eq 6, 3) := by decide +kernel
theorem dX9_pick_51 : decode cX9_pick 51 = .ok (.bipush (-3), 2) := by decide +kernel
theorem dX9_pick_53 : decode cX9_pick 53 = .ok (.ireturn, 1) := by decide +kernel
theorem dX9_pick_54 : decode cX9_pick 54 = .ok (.aload_n 3, 1) := by decide +kernel
theorem dX9_pick_55 : decode cX9_pick 55 = .ok (.getfield 249, 3) := by decide +kernel
theorem dX9_pick_58 : decode cX9_pick 58 = .ok (.aload_n 0, 1) := by decide +kernel
theorem dX9_pick_59 : decode cX9_pick 59 = .ok (.getfield 16, 3) := by decide +kernel
theorem dX9_pick_62 : decode cX9_pick 62 = .ok (.getfield 93, 3) := by decide +kernel
theorem dX9_pick_65 : decode cX9_pick 65 = .ok (.getfield 146, 3) := by decide +kernel
theorem dX9_pick_68 : decode cX9_pick 68 = .ok (.aload 4, 2) := by decide +kernel
theorem dX9_pick_70 : decode cX9_pick 70 = .ok (.getfield 165, 3) := by decide +kernel
theorem dX9_pick_73 : decode cX9_pick 73 = .ok (.iaload, 1) := by decide +kernel
theorem dX9_pick_74 : decode cX9_pick 74 = .ok (.if_icmp .eq 6, 3) := by decide +kernel
theorem dX9_pick_77 : decode cX9_pick 77 = .ok (.bipush (-5), 2) := by decide +kernel
theorem dX9_pick_79 : decode cX9_pick 79 = .ok (.ireturn, 1) := by decide +kernel
theorem dX9_pick_80 : decode cX9_pick 80 = .ok (.aload 4, 2) := by decide +kernel
theorem dX9_pick_82 : decode cX9_pick 82 = .ok (.getfield 255, 3) := by decide +kernel
theorem dX9_pick_85 : decode cX9_pick 85 = .ok (.ifCond .ne 6, 3) := by decide +kernel
theorem dX9_pick_88 : decode cX9_pick 88 = .ok (.bipush (-4), 2) := by decide +kernel
theorem dX9_pick_90 : decode cX9_pick 90 = .ok (.ireturn, 1) := by decide +kernel
theorem dX9_pick_91 : decode cX9_pick 91 = .ok (.aload_n 0, 1) := by decide +kernel
theorem dX9_pick_92 : decode cX9_pick 92 = .ok (.getfield 16, 3) := by decide +kernel
theorem dX9_pick_95 : decode cX9_pick 95 = .ok (.iconst 2, 1) := by decide +kernel
theorem dX9_pick_96 : decode cX9_pick 96 = .ok (.iload_n 1, 1) := by decide +kernel
theorem dX9_pick_97 : decode cX9_pick 97 = .ok (.iload_n 2, 1) := by decide +kernel
theorem dX9_pick_98 : decode cX9_pick 98 = .ok (.invokevirtual 251, 3) := by decide +kernel
theorem dX9_pick_101 : decode cX9_pick 101 = .ok (.ireturn, 1) := by decide +kernel
theorem dX9_look_0 : decode cX9_look 0 = .ok (.iload_n 1, 1) := by decide +kernel
theorem dX9_look_1 : decode cX9_look 1 = .ok (.aload_n 0, 1) := by decide +kernel
theorem dX9_look_2 : decode cX9_look 2 = .ok (.getfield 16, 3) := by decide +kernel
theorem dX9_look_5 : decode cX9_look 5 = .ok (.getfield 87, 3) := by decide +kernel
theorem dX9_look_8 : decode cX9_look 8 = .ok (.invokestatic 129, 3) := by decide +kernel
theorem dX9_look_11 : decode cX9_look 11 = .ok (.aload_n 0, 1) := by decide +kernel
theorem dX9_look_12 : decode cX9_look 12 = .ok (.getfield 16, 3) := by decide +kernel
theorem dX9_look_15 : decode cX9_look 15 = .ok (.getfield 133, 3) := by decide +kernel
theorem dX9_look_18 : decode cX9_look 18 = .ok (.iload_n 1, 1) := by decide +kernel
theorem dX9_look_19 : decode cX9_look 19 = .ok (.aaload, 1) := by decide +kernel
theorem dX9_look_20 : decode cX9_look 20 = .ok (.astore_n 2, 1) := by decide +kernel
theorem dX9_look_21 : decode cX9_look 21 = .ok (.aload_n 2, 1) := by decide +kernel
theorem dX9_look_22 : decode cX9_look 22 = .ok (.getfield 246, 3) := by decide +kernel
theorem dX9_look_25 : decode cX9_look 25 = .ok (.iconst (-1), 1) := by decide +kernel
theorem dX9_look_26 : decode cX9_look 26 = .ok (.if_icmp .eq 10, 3) := by decide +kernel
theorem dX9_look_29 : decode cX9_look 29 = .ok (.aload_n 2, 1) := by decide +kernel
theorem dX9_look_30 : decode cX9_look 30 = .ok (.getfield 258, 3) := by decide +kernel
theorem dX9_look_33 : decode cX9_look 33 = .ok (.ifCond .eq 6, 3) := by decide +kernel
theorem dX9_look_36 : decode cX9_look 36 = .ok (.bipush (-3), 2) := by decide +kernel
theorem dX9_look_38 : decode cX9_look 38 = .ok (.ireturn, 1) := by decide +kernel
theorem dX9_look_39 : decode cX9_look 39 = .ok (.aload_n 0, 1) := by decide +kernel
theorem dX9_look_40 : decode cX9_look 40 = .ok (.getfield 16, 3) := by decide +kernel
theorem dX9_look_43 : decode cX9_look 43 = .ok (.iconst 3, 1) := by decide +kernel
theorem dX9_look_44 : decode cX9_look 44 = .ok (.iload_n 1, 1) := by decide +kernel
theorem dX9_look_45 : decode cX9_look 45 = .ok (.iconst 0, 1) := by decide +kernel
theorem dX9_look_46 : decode cX9_look 46 = .ok (.invokevirtual 251, 3) := by decide +kernel
theorem dX9_look_49 : decode cX9_look 49 = .ok (.ireturn, 1) := by decide +kernel
theorem dX9_place_0 : decode cX9_place 0 = .ok (.iload_n 1, 1) := by decide +kernel
theorem dX9_place_1 : decode cX9_place 1 = .ok (.aload_n 0, 1) := by decide +kernel
theorem dX9_place_2 : decode cX9_place 2 = .ok (.getfield 16, 3) := by decide +kernel
theorem dX9_place_5 : decode cX9_place 5 = .ok (.getfield 87, 3) := by decide +kernel
theorem dX9_place_8 : decode cX9_place 8 = .ok (.invokestatic 129, 3) := by decide +kernel
theorem dX9_place_11 : decode cX9_place 11 = .ok (.iload_n 2, 1) := by decide +kernel
theorem dX9_place_12 : decode cX9_place 12 = .ok (.aload_n 0, 1) := by decide +kernel
theorem dX9_place_13 : decode cX9_place 13 = .ok (.getfield 16, 3) := by decide +kernel
theorem dX9_place_16 : decode cX9_place 16 = .ok (.getfield 78, 3) := by decide +kernel
theorem dX9_place_19 : decode cX9_place 19 = .ok (.getfield 82, 3) := by decide +kernel
theorem dX9_place_22 : decode cX9_place 22 = .ok (.invokestatic 129, 3) := by decide +kernel
theorem dX9_place_25 : decode cX9_place 25 = .ok (.aload_n 0, 1) := by decide +kernel
theorem dX9_place_26 : decode cX9_place 26 = .ok (.getfield 16, 3) := by decide +kernel
theorem dX9_place_29 : decode cX9_place 29 = .ok (.getfield 133, 3) := by decide +kernel
theorem dX9_place_32 : decode cX9_place 32 = .ok (.iload_n 1, 1) := by decide +kernel
theorem dX9_place_33 : decode cX9_place 33 = .ok (.aaload, 1) := by decide +kernel
theorem dX9_place_34 : decode cX9_place 34 = .ok (.astore_n 3, 1) := by decide +kernel
theorem dX9_place_35 : decode cX9_place 35 = .ok (.aload_n 0, 1) := by decide +kernel
theorem dX9_place_36 : decode cX9_place 36 = .ok (.getfield 16, 3) := by decide +kernel
theorem dX9_place_39 : decode cX9_place 39 = .ok (.getfield 78, 3) := by decide +kernel
theorem dX9_place_42 : decode cX9_place 42 = .ok (.astore 4, 2) := by decide +kernel
theorem dX9_place_44 : decode cX9_place 44 = .ok (.aload_n 3, 1) := by decide +kernel
theorem dX9_place_45 : decode cX9_place 45 = .ok (.getfield 246, 3) := by decide +kernel
theorem dX9_place_48 : decode cX9_place 48 = .ok (.iconst (-1), 1) := by decide +kernel
theorem dX9_place_49 : decode cX9_place 49 = .ok (.if_icmp .eq 19, 3) := by decide +kernel
theorem dX9_place_52 : decode cX9_place 52 = .ok (.aload_n 3, 1) := by decide +kernel
theorem dX9_place_53 : decode cX9_place 53 = .ok (.getfield 258, 3) := by decide +kernel
theorem dX9_place_56 : decode cX9_place 56 = .ok (.ifCond .eq 12, 3) := by decide +kernel
theorem dX9_place_59 : decode cX9_place 59 = .ok (.aload 4, 2) := by decide +kernel
theorem dX9_place_61 : decode cX9_place 61 = .ok (.iload_n 2, 1) := by decide +kernel
theorem dX9_place_62 : decode cX9_place 62 = .ok (.invokevirtual 262, 3) := by decide +kernel
theorem dX9_place_65 : decode cX9_place 65 = .ok (.ifCond .ne 6, 3) := by decide +kernel
theorem dX9_place_68 : decode cX9_place 68 = .ok (.bipush (-3), 2) := by decide +kernel
theorem dX9_place_70 : decode cX9_place 70 = .ok (.ireturn, 1) := by decide +kernel
theorem dX9_place_71 : decode cX9_place 71 = .ok (.aload_n 3, 1) := by decide +kernel
theorem dX9_place_72 : decode cX9_place 72 = .ok (.getfield 246, 3) := by decide +kernel
theorem dX9_place_75 : decode cX9_place 75 = .ok (.aload 4, 2) := by decide +kernel
theorem dX9_place_77 : decode cX9_place 77 = .ok (.getfield 265, 3) := by decide +kernel
theorem dX9_place_80 : decode cX9_place 80 = .ok (.iload_n 2, 1) := by decide +kernel
theorem dX9_place_81 : decode cX9_place 81 = .ok (.iaload, 1) := by decide +kernel
theorem dX9_place_82 : decode cX9_place 82 = .ok (.if_icmp .eq 6, 3) := by decide +kernel
theorem dX9_place_85 : decode cX9_place 85 = .ok (.bipush (-5), 2) := by decide +kernel
theorem dX9_place_87 : decode cX9_place 87 = .ok (.ireturn, 1) := by decide +kernel
theorem dX9_place_88 : decode cX9_place 88 = .ok (.aload 4, 2) := by decide +kernel
theorem dX9_place_90 : decode cX9_place 90 = .ok (.lconst 1, 1) := by decide +kernel
theorem dX9_place_91 : decode cX9_place 91 = .ok (.iload_n 2, 1) := by decide +kernel
theorem dX9_place_92 : decode cX9_place 92 = .ok (.lshl, 1) := by decide +kernel
theorem dX9_place_93 : decode cX9_place 93 = .ok (.invokevirtual 222, 3) := by decide +kernel
theorem dX9_place_96 : decode cX9_place 96 = .ok (.aload 4, 2) := by decide +kernel
theorem dX9_place_98 : decode cX9_place 98 = .ok (.getfield 226, 3) := by decide +kernel
theorem dX9_place_101 : decode cX9_place 101 = .ok (.land, 1) := by decide +kernel
theorem dX9_place_102 : decode cX9_place 102 = .ok (.lconst 0, 1) := by decide +kernel
theorem dX9_place_103 : decode cX9_place 103 = .ok (.lcmp, 1) := by decide +kernel
theorem dX9_place_104 : decode cX9_place 104 = .ok (.ifCond .eq 6, 3) := by decide +kernel
theorem dX9_place_107 : decode cX9_place 107 = .ok (.bipush (-6), 2) := by decide +kernel
theorem dX9_place_109 : decode cX9_place 109 = .ok (.ireturn, 1) := by decide +kernel
theorem dX9_place_110 : decode cX9_place 110 = .ok (.aload_n 0, 1) := by decide +kernel
theorem dX9_place_111 : decode cX9_place 111 = .ok (.getfield 16, 3) := by decide +kernel
theorem dX9_place_114 : decode cX9_place 114 = .ok (.iconst 4, 1) := by decide +kernel
theorem dX9_place_115 : decode cX9_place 115 = .ok (.iload_n 1, 1) := by decide +kernel
theorem dX9_place_116 : decode cX9_place 116 = .ok (.iload_n 2, 1) := by decide +kernel
theorem dX9_place_117 : decode cX9_place 117 = .ok (.invokevirtual 251, 3) := by decide +kernel
theorem dX9_place_120 : decode cX9_place 120 = .ok (.ireturn, 1) := by decide +kernel
theorem dX9_discard_0 : decode cX9_discard 0 = .ok (.iload_n 1, 1) := by decide +kernel
theorem dX9_discard_1 : decode cX9_discard 1 = .ok (.aload_n 0, 1) := by decide +kernel
theorem dX9_discard_2 : decode cX9_discard 2 = .ok (.getfield 16, 3) := by decide +kernel
theorem dX9_discard_5 : decode cX9_discard 5 = .ok (.getfield 87, 3) := by decide +kernel
theorem dX9_discard_8 : decode cX9_discard 8 = .ok (.invokestatic 129, 3) := by decide +kernel
theorem dX9_discard_11 : decode cX9_discard 11 = .ok (.aload_n 0, 1) := by decide +kernel
theorem dX9_discard_12 : decode cX9_discard 12 = .ok (.getfield 16, 3) := by decide +kernel
theorem dX9_discard_15 : decode cX9_discard 15 = .ok (.getfield 133, 3) := by decide +kernel
theorem dX9_discard_18 : decode cX9_discard 18 = .ok (.iload_n 1, 1) := by decide +kernel
theorem dX9_discard_19 : decode cX9_discard 19 = .ok (.aaload, 1) := by decide +kernel
theorem dX9_discard_20 : decode cX9_discard 20 = .ok (.getfield 246, 3) := by decide +kernel
theorem dX9_discard_23 : decode cX9_discard 23 = .ok (.iconst (-1), 1) := by decide +kernel
theorem dX9_discard_24 : decode cX9_discard 24 = .ok (.if_icmp .ne 6, 3) := by decide +kernel
theorem dX9_discard_27 : decode cX9_discard 27 = .ok (.bipush (-3), 2) := by decide +kernel
theorem dX9_discard_29 : decode cX9_discard 29 = .ok (.ireturn, 1) := by decide +kernel
theorem dX9_discard_30 : decode cX9_discard 30 = .ok (.aload_n 0, 1) := by decide +kernel
theorem dX9_discard_31 : decode cX9_discard 31 = .ok (.getfield 16, 3) := by decide +kernel
theorem dX9_discard_34 : decode cX9_discard 34 = .ok (.iconst 5, 1) := by decide +kernel
theorem dX9_discard_35 : decode cX9_discard 35 = .ok (.iload_n 1, 1) := by decide +kernel
theorem dX9_discard_36 : decode cX9_discard 36 = .ok (.iconst 0, 1) := by decide +kernel
theorem dX9_discard_37 : decode cX9_discard 37 = .ok (.invokevirtual 251, 3) := by decide +kernel
theorem dX9_discard_40 : decode cX9_discard 40 = .ok (.ireturn, 1) := by decide +kernel
theorem dX9_clean_0 : decode cX9_clean 0 = .ok (.iload_n 1, 1) := by decide +kernel
theorem dX9_clean_1 : decode cX9_clean 1 = .ok (.aload_n 0, 1) := by decide +kernel
theorem dX9_clean_2 : decode cX9_clean 2 = .ok (.getfield 16, 3) := by decide +kernel
theorem dX9_clean_5 : decode cX9_clean 5 = .ok (.getfield 87, 3) := by decide +kernel
theorem dX9_clean_8 : decode cX9_clean 8 = .ok (.invokestatic 129, 3) := by decide +kernel
theorem dX9_clean_11 : decode cX9_clean 11 = .ok (.aload_n 0, 1) := by decide +kernel
theorem dX9_clean_12 : decode cX9_clean 12 = .ok (.getfield 16, 3) := by decide +kernel
theorem dX9_clean_15 : decode cX9_clean 15 = .ok (.getfield 133, 3) := by decide +kernel
theorem dX9_clean_18 : decode cX9_clean 18 = .ok (.iload_n 1, 1) := by decide +kernel
theorem dX9_clean_19 : decode cX9_clean 19 = .ok (.aaload, 1) := by decide +kernel
theorem dX9_clean_20 : decode cX9_clean 20 = .ok (.astore_n 2, 1) := by decide +kernel
theorem dX9_clean_21 : decode cX9_clean 21 = .ok (.aload_n 2, 1) := by decide +kernel
theorem dX9_clean_22 : decode cX9_clean 22 = .ok (.getfield 246, 3) := by decide +kernel
theorem dX9_clean_25 : decode cX9_clean 25 = .ok (.iconst (-1), 1) := by decide +kernel
theorem dX9_clean_26 : decode cX9_clean 26 = .ok (.if_icmp .eq 6, 3) := by decide +kernel
theorem dX9_clean_29 : decode cX9_clean 29 = .ok (.bipush (-3), 2) := by decide +kernel
theorem dX9_clean_31 : decode cX9_clean 31 = .ok (.ireturn, 1) := by decide +kernel
theorem dX9_clean_32 : decode cX9_clean 32 = .ok (.aload_n 2, 1) := by decide +kernel
theorem dX9_clean_33 : decode cX9_clean 33 = .ok (.getfield 249, 3) := by decide +kernel
theorem dX9_clean_36 : decode cX9_clean 36 = .ok (.iconst (-1), 1) := by decide +kernel
theorem dX9_clean_37 : decode cX9_clean 37 = .ok (.if_icmp .ne 6, 3) := by decide +kernel
theorem dX9_clean_40 : decode cX9_clean 40 = .ok (.bipush (-4), 2) := by decide +kernel
theorem dX9_clean_42 : decode cX9_clean 42 = .ok (.ireturn, 1) := by decide +kernel
theorem dX9_clean_43 : decode cX9_clean 43 = .ok (.aload_n 0, 1) := by decide +kernel
theorem dX9_clean_44 : decode cX9_clean 44 = .ok (.getfield 16, 3) := by decide +kernel
theorem dX9_clean_47 : decode cX9_clean 47 = .ok (.bipush 6, 2) := by decide +kernel
theorem dX9_clean_49 : decode cX9_clean 49 = .ok (.iload_n 1, 1) := by decide +kernel
theorem dX9_clean_50 : decode cX9_clean 50 = .ok (.iconst 0, 1) := by decide +kernel
theorem dX9_clean_51 : decode cX9_clean 51 = .ok (.invokevirtual 251, 3) := by decide +kernel
theorem dX9_clean_54 : decode cX9_clean 54 = .ok (.ireturn, 1) := by decide +kernel
theorem dX9_nextAction_0 : decode cX9_nextAction 0 = .ok (.aload_n 0, 1) := by decide +kernel
theorem dX9_nextAction_1 : decode cX9_nextAction 1 = .ok (.getfield 25, 3) := by decide +kernel
theorem dX9_nextAction_4 : decode cX9_nextAction 4 = .ok (.invokevirtual 267, 3) := by decide +kernel
theorem dX9_nextAction_7 : decode cX9_nextAction 7 = .ok (.ifCond .eq 30, 3) := by decide +kernel
theorem dX9_nextAction_10 : decode cX9_nextAction 10 = .ok (.aload_n 0, 1) := by decide +kernel
theorem dX9_nextAction_11 : decode cX9_nextAction 11 = .ok (.getfield 25, 3) := by decide +kernel
theorem dX9_nextAction_14 : decode cX9_nextAction 14 = .ok (.getfield 271, 3) := by decide +kernel
theorem dX9_nextAction_17 : decode cX9_nextAction 17 = .ok (.aload_n 0, 1) := by decide +kernel
theorem dX9_nextAction_18 : decode cX9_nextAction 18 = .ok (.getfield 25, 3) := by decide +kernel
theorem dX9_nextAction_21 : decode cX9_nextAction 21 = .ok (.getfield 274, 3) := by decide +kernel
theorem dX9_nextAction_24 : decode cX9_nextAction 24 = .ok (.aload_n 0, 1) := by decide +kernel
theorem dX9_nextAction_25 : decode cX9_nextAction 25 = .ok (.getfield 25, 3) := by decide +kernel
theorem dX9_nextAction_28 : decode cX9_nextAction 28 = .ok (.getfield 277, 3) := by decide +kernel
theorem dX9_nextAction_31 : decode cX9_nextAction 31 = .ok (.invokestatic 280, 3) := by decide +kernel
theorem dX9_nextAction_34 : decode cX9_nextAction 34 = .ok (.goto 4, 3) := by decide +kernel
theorem dX9_nextAction_37 : decode cX9_nextAction 37 = .ok (.iconst (-1), 1) := by decide +kernel
theorem dX9_nextAction_38 : decode cX9_nextAction 38 = .ok (.ireturn, 1) := by decide +kernel
theorem dX9_step_0 : decode cX9_step 0 = .ok (.aload_n 0, 1) := by decide +kernel
theorem dX9_step_1 : decode cX9_step 1 = .ok (.getfield 25, 3) := by decide +kernel
theorem dX9_step_4 : decode cX9_step 4 = .ok (.invokevirtual 283, 3) := by decide +kernel
theorem dX9_step_7 : decode cX9_step 7 = .ok (.ireturn, 1) := by decide +kernel
theorem dX9_run_0 : decode cX9_run 0 = .ok (.iload_n 1, 1) := by decide +kernel
theorem dX9_run_1 : decode cX9_run 1 = .ok (.iconst 1, 1) := by decide +kernel
theorem dX9_run_2 : decode cX9_run 2 = .ok (.sipush 500, 3) := by decide +kernel
theorem dX9_run_5 : decode cX9_run 5 = .ok (.invokestatic 113, 3) := by decide +kernel
theorem dX9_run_8 : decode cX9_run 8 = .ok (.iconst 0, 1) := by decide +kernel
theorem dX9_run_9 : decode cX9_run 9 = .ok (.istore_n 2, 1) := by decide +kernel
theorem dX9_run_10 : decode cX9_run 10 = .ok (.iload_n 2, 1) := by decide +kernel
theorem dX9_run_11 : decode cX9_run 11 = .ok (.iload_n 1, 1) := by decide +kernel
theorem dX9_run_12 : decode cX9_run 12 = .ok (.if_icmp .ge 22, 3) := by decide +kernel
theorem dX9_run_15 : decode cX9_run 15 = .ok (.aload_n 0, 1) := by decide +kernel
theorem dX9_run_16 : decode cX9_run 16 = .ok (.getfield 25, 3) := by decide +kernel
theorem dX9_run_19 : decode cX9_run 19 = .ok (.invokevirtual 283, 3) := by decide +kernel
theorem dX9_run_22 : decode cX9_run 22 = .ok (.iconst (-1), 1) := by decide +kernel
theorem dX9_run_23 : decode cX9_run 23 = .ok (.if_icmp .ne 5, 3) := by decide +kernel
theorem dX9_run_26 : decode cX9_run 26 = .ok (.iload_n 2, 1) := by decide +kernel
theorem dX9_run_27 : decode cX9_run 27 = .ok (.ireturn, 1) := by decide +kernel
theorem dX9_run_28 : decode cX9_run 28 = .ok (.iinc 2 1, 3) := by decide +kernel
theorem dX9_run_31 : decode cX9_run 31 = .ok (.goto (-21), 3) := by decide +kernel
theorem dX9_run_34 : decode cX9_run 34 = .ok (.iload_n 1, 1) := by decide +kernel
theorem dX9_run_35 : decode cX9_run 35 = .ok (.ireturn, 1) := by decide +kernel
theorem dX9_isHalted_0 : decode cX9_isHalted 0 = .ok (.aload_n 0, 1) := by decide +kernel
theorem dX9_isHalted_1 : decode cX9_isHalted 1 = .ok (.getfield 16, 3) := by decide +kernel
theorem dX9_isHalted_4 : decode cX9_isHalted 4 = .ok (.getfield 286, 3) := by decide +kernel
theorem dX9_isHalted_7 : decode cX9_isHalted 7 = .ok (.ireturn, 1) := by decide +kernel
theorem dX9_resume_0 : decode cX9_resume 0 = .ok (.aload_n 0, 1) := by decide +kernel
theorem dX9_resume_1 : decode cX9_resume 1 = .ok (.getfield 16, 3) := by decide +kernel
theorem dX9_resume_4 : decode cX9_resume 4 = .ok (.getfield 286, 3) := by decide +kernel
theorem dX9_resume_7 : decode cX9_resume 7 = .ok (.istore_n 1, 1) := by decide +kernel
theorem dX9_resume_8 : decode cX9_resume 8 = .ok (.aload_n 0, 1) := by decide +kernel
theorem dX9_resume_9 : decode cX9_resume 9 = .ok (.getfield 16, 3) := by decide +kernel
theorem dX9_resume_12 : decode cX9_resume 12 = .ok (.iconst 0, 1) := by decide +kernel
theorem dX9_resume_13 : decode cX9_resume 13 = .ok (.putfield 286, 3) := by decide +kernel
theorem dX9_resume_16 : decode cX9_resume 16 = .ok (.aload_n 0, 1) := by decide +kernel
theorem dX9_resume_17 : decode cX9_resume 17 = .ok (.getfield 16, 3) := by decide +kernel
theorem dX9_resume_20 : decode cX9_resume 20 = .ok (.iconst 0, 1) := by decide +kernel
theorem dX9_resume_21 : decode cX9_resume 21 = .ok (.putfield 289, 3) := by decide +kernel
theorem dX9_resume_24 : decode cX9_resume 24 = .ok (.iload_n 1, 1) := by decide +kernel
theorem dX9_resume_25 : decode cX9_resume 25 = .ok (.ireturn, 1) := by decide +kernel
theorem dX9_ledger_0 : decode cX9_ledger 0 = .ok (.iload_n 1, 1) := by decide +kernel
theorem dX9_ledger_1 : decode cX9_ledger 1 = .ok (.aload_n 0, 1) := by decide +kernel
theorem dX9_ledger_2 : decode cX9_ledger 2 = .ok (.getfield 16, 3) := by decide +kernel
theorem dX9_ledger_5 : decode cX9_ledger 5 = .ok (.getfield 93, 3) := by decide +kernel
theorem dX9_ledger_8 : decode cX9_ledger 8 = .ok (.getfield 97, 3) := by decide +kernel
theorem dX9_ledger_11 : decode cX9_ledger 11 = .ok (.invokestatic 129, 3) := by decide +kernel
theorem dX9_ledger_14 : decode cX9_ledger 14 = .ok (.iload_n 2, 1) := by decide +kernel
theorem dX9_ledger_15 : decode cX9_ledger 15 = .ok (.iconst 0, 1) := by decide +kernel
theorem dX9_ledger_16 : decode cX9_ledger 16 = .ok (.bipush 6, 2) := by decide +kernel
theorem dX9_ledger_18 : decode cX9_ledger 18 = .ok (.invokestatic 113, 3) := by decide +kernel
theorem dX9_ledger_21 : decode cX9_ledger 21 = .ok (.aload_n 0, 1) := by decide +kernel
theorem dX9_ledger_22 : decode cX9_ledger 22 = .ok (.getfield 16, 3) := by decide +kernel
theorem dX9_ledger_25 : decode cX9_ledger 25 = .ok (.iload_n 1, 1) := by decide +kernel
theorem dX9_ledger_26 : decode cX9_ledger 26 = .ok (.iload_n 2, 1) := by decide +kernel
theorem dX9_ledger_27 : decode cX9_ledger 27 = .ok (.invokevirtual 292, 3) := by decide +kernel
theorem dX9_ledger_30 : decode cX9_ledger 30 = .ok (.ireturn, 1) := by decide +kernel
theorem dX9_isBalanced_0 : decode cX9_isBalanced 0 = .ok (.iconst 0, 1) := by decide +kernel
theorem dX9_isBalanced_1 : decode cX9_isBalanced 1 = .ok (.istore_n 1, 1) := by decide +kernel
theorem dX9_isBalanced_2 : decode cX9_isBalanced 2 = .ok (.iload_n 1, 1) := by decide +kernel
theorem dX9_isBalanced_3 : decode cX9_isBalanced 3 = .ok (.aload_n 0, 1) := by decide +kernel
theorem dX9_isBalanced_4 : decode cX9_isBalanced 4 = .ok (.getfield 16, 3) := by decide +kernel
theorem dX9_isBalanced_7 : decode cX9_isBalanced 7 = .ok (.getfield 93, 3) := by decide +kernel
theorem dX9_isBalanced_10 : decode cX9_isBalanced 10 = .ok (.getfield 97, 3) := by decide +kernel
theorem dX9_isBalanced_13 : decode cX9_isBalanced 13 = .ok (.if_icmp .ge 52, 3) := by decide +kernel
theorem dX9_isBalanced_16 : decode cX9_isBalanced 16 = .ok (.iconst 0, 1) := by decide +kernel
theorem dX9_isBalanced_17 : decode cX9_isBalanced 17 = .ok (.istore_n 2, 1) := by decide +kernel
theorem dX9_isBalanced_18 : decode cX9_isBalanced 18 = .ok (.iconst 1, 1) := by decide +kernel
theorem dX9_isBalanced_19 : decode cX9_isBalanced 19 = .ok (.istore_n 3, 1) := by decide +kernel
theorem dX9_isBalanced_20 : decode cX9_isBalanced 20 = .ok (.iload_n 3, 1) := by decide +kernel
theorem dX9_isBalanced_21 : decode cX9_isBalanced 21 = .ok (.bipush 6, 2) := by decide +kernel
theorem dX9_isBalanced_23 : decode cX9_isBalanced 23 = .ok (.if_icmp .gt 21, 3) := by decide +kernel
theorem dX9_isBalanced_26 : decode cX9_isBalanced 26 = .ok (.iload_n 2, 1) := by decide +kernel
theorem dX9_isBalanced_27 : decode cX9_isBalanced 27 = .ok (.aload_n 0, 1) := by decide +kernel
theorem dX9_isBalanced_28 : decode cX9_isBalanced 28 = .ok (.getfield 16, 3) := by decide +kernel
theorem dX9_isBalanced_31 : decode cX9_isBalanced 31 = .ok (.iload_n 1, 1) := by decide +kernel
theorem dX9_isBalanced_32 : decode cX9_isBalanced 32 = .ok (.iload_n 3, 1) := by decide +kernel
theorem dX9_isBalanced_33 : decode cX9_isBalanced 33 = .ok (.invokevirtual 292, 3) := by decide +kernel
theorem dX9_isBalanced_36 : decode cX9_isBalanced 36 = .ok (.iadd, 1) := by decide +kernel
theorem dX9_isBalanced_37 : decode cX9_isBalanced 37 = .ok (.istore_n 2, 1) := by decide +kernel
theorem dX9_isBalanced_38 : decode cX9_isBalanced 38 = .ok (.iinc 3 1, 3) := by decide +kernel
theorem dX9_isBalanced_41 : decode cX9_isBalanced 41 = .ok (.goto (-21), 3) := by decide +kernel
theorem dX9_isBalanced_44 : decode cX9_isBalanced 44 = .ok (.iload_n 2, 1) := by decide +kernel
theorem dX9_isBalanced_45 : decode cX9_isBalanced 45 = .ok (.aload_n 0, 1) := by decide +kernel
theorem dX9_isBalanced_46 : decode cX9_isBalanced 46 = .ok (.getfield 16, 3) := by decide +kernel
theorem dX9_isBalanced_49 : decode cX9_isBalanced 49 = .ok (.iload_n 1, 1) := by decide +kernel
theorem dX9_isBalanced_50 : decode cX9_isBalanced 50 = .ok (.iconst 0, 1) := by decide +kernel
theorem dX9_isBalanced_51 : decode cX9_isBalanced 51 = .ok (.invokevirtual 292, 3) := by decide +kernel
theorem dX9_isBalanced_54 : decode cX9_isBalanced 54 = .ok (.if_icmp .eq 5, 3) := by decide +kernel
theorem dX9_isBalanced_57 : decode cX9_isBalanced 57 = .ok (.iconst 0, 1) := by decide +kernel
theorem dX9_isBalanced_58 : decode cX9_isBalanced 58 = .ok (.ireturn, 1) := by decide +kernel
theorem dX9_isBalanced_59 : decode cX9_isBalanced 59 = .ok (.iinc 1 1, 3) := by decide +kernel
theorem dX9_isBalanced_62 : decode cX9_isBalanced 62 = .ok (.goto (-60), 3) := by decide +kernel
theorem dX9_isBalanced_65 : decode cX9_isBalanced 65 = .ok (.iconst 1, 1) := by decide +kernel
theorem dX9_isBalanced_66 : decode cX9_isBalanced 66 = .ok (.ireturn, 1) := by decide +kernel
theorem dX9_now_0 : decode cX9_now 0 = .ok (.aload_n 0, 1) := by decide +kernel
theorem dX9_now_1 : decode cX9_now 1 = .ok (.getfield 16, 3) := by decide +kernel
theorem dX9_now_4 : decode cX9_now 4 = .ok (.getfield 295, 3) := by decide +kernel
theorem dX9_now_7 : decode cX9_now 7 = .ok (.ireturn, 1) := by decide +kernel
theorem dX9_head_0 : decode cX9_head 0 = .ok (.iload_n 1, 1) := by decide +kernel
theorem dX9_head_1 : decode cX9_head 1 = .ok (.iconst 0, 1) := by decide +kernel
theorem dX9_head_2 : decode cX9_head 2 = .ok (.iconst 1, 1) := by decide +kernel
theorem dX9_head_3 : decode cX9_head 3 = .ok (.invokestatic 113, 3) := by decide +kernel
theorem dX9_head_6 : decode cX9_head 6 = .ok (.iload_n 1, 1) := by decide +kernel
theorem dX9_head_7 : decode cX9_head 7 = .ok (.ifCond .ne 13, 3) := by decide +kernel
theorem dX9_head_10 : decode cX9_head 10 = .ok (.aload_n 0, 1) := by decide +kernel
theorem dX9_head_11 : decode cX9_head 11 = .ok (.getfield 16, 3) := by decide +kernel
theorem dX9_head_14 : decode cX9_head 14 = .ok (.getfield 298, 3) := by decide +kernel
theorem dX9_head_17 : decode cX9_head 17 = .ok (.goto 10, 3) := by decide +kernel
theorem dX9_head_20 : decode cX9_head 20 = .ok (.aload_n 0, 1) := by decide +kernel
theorem dX9_head_21 : decode cX9_head 21 = .ok (.getfield 16, 3) := by decide +kernel
theorem dX9_head_24 : decode cX9_head 24 = .ok (.getfield 299, 3) := by decide +kernel
theorem dX9_head_27 : decode cX9_head 27 = .ok (.ireturn, 1) := by decide +kernel
theorem dX9_done_0 : decode cX9_done 0 = .ok (.iload_n 1, 1) := by decide +kernel
theorem dX9_done_1 : decode cX9_done 1 = .ok (.iconst 1, 1) := by decide +kernel
theorem dX9_done_2 : decode cX9_done 2 = .ok (.bipush 6, 2) := by decide +kernel
theorem dX9_done_4 : decode cX9_done 4 = .ok (.invokestatic 113, 3) := by decide +kernel
theorem dX9_done_7 : decode cX9_done 7 = .ok (.aload_n 0, 1) := by decide +kernel
theorem dX9_done_8 : decode cX9_done 8 = .ok (.getfield 16, 3) := by decide +kernel
theorem dX9_done_11 : decode cX9_done 11 = .ok (.getfield 168, 3) := by decide +kernel
theorem dX9_done_14 : decode cX9_done 14 = .ok (.getfield 302, 3) := by decide +kernel
theorem dX9_done_17 : decode cX9_done 17 = .ok (.iload_n 1, 1) := by decide +kernel
theorem dX9_done_18 : decode cX9_done 18 = .ok (.iaload, 1) := by decide +kernel
theorem dX9_done_19 : decode cX9_done 19 = .ok (.ireturn, 1) := by decide +kernel
theorem dX9_timeOf_0 : decode cX9_timeOf 0 = .ok (.iload_n 1, 1) := by decide +kernel
theorem dX9_timeOf_1 : decode cX9_timeOf 1 = .ok (.iconst 1, 1) := by decide +kernel
theorem dX9_timeOf_2 : decode cX9_timeOf 2 = .ok (.bipush 6, 2) := by decide +kernel
theorem dX9_timeOf_4 : decode cX9_timeOf 4 = .ok (.invokestatic 113, 3) := by decide +kernel
theorem dX9_timeOf_7 : decode cX9_timeOf 7 = .ok (.aload_n 0, 1) := by decide +kernel
theorem dX9_timeOf_8 : decode cX9_timeOf 8 = .ok (.getfield 16, 3) := by decide +kernel
theorem dX9_timeOf_11 : decode cX9_timeOf 11 = .ok (.getfield 168, 3) := by decide +kernel
theorem dX9_timeOf_14 : decode cX9_timeOf 14 = .ok (.getfield 305, 3) := by decide +kernel
theorem dX9_timeOf_17 : decode cX9_timeOf 17 = .ok (.iload_n 1, 1) := by decide +kernel
theorem dX9_timeOf_18 : decode cX9_timeOf 18 = .ok (.iaload, 1) := by decide +kernel
theorem dX9_timeOf_19 : decode cX9_timeOf 19 = .ok (.ireturn, 1) := by decide +kernel
theorem dX9_shareOf_0 : decode cX9_shareOf 0 = .ok (.iload_n 1, 1) := by decide +kernel
theorem dX9_shareOf_1 : decode cX9_shareOf 1 = .ok (.iconst 1, 1) := by decide +kernel
theorem dX9_shareOf_2 : decode cX9_shareOf 2 = .ok (.bipush 6, 2) := by decide +kernel
theorem dX9_shareOf_4 : decode cX9_shareOf 4 = .ok (.invokestatic 113, 3) := by decide +kernel
theorem dX9_shareOf_7 : decode cX9_shareOf 7 = .ok (.aload_n 0, 1) := by decide +kernel
theorem dX9_shareOf_8 : decode cX9_shareOf 8 = .ok (.getfield 16, 3) := by decide +kernel
theorem dX9_shareOf_11 : decode cX9_shareOf 11 = .ok (.getfield 168, 3) := by decide +kernel
theorem dX9_shareOf_14 : decode cX9_shareOf 14 = .ok (.getfield 305, 3) := by decide +kernel
theorem dX9_shareOf_17 : decode cX9_shareOf 17 = .ok (.iload_n 1, 1) := by decide +kernel
theorem dX9_shareOf_18 : decode cX9_shareOf 18 = .ok (.iaload, 1) := by decide +kernel
theorem dX9_shareOf_19 : decode cX9_shareOf 19 = .ok (.aload_n 0, 1) := by decide +kernel
theorem dX9_shareOf_20 : decode cX9_shareOf 20 = .ok (.getfield 16, 3) := by decide +kernel
theorem dX9_shareOf_23 : decode cX9_shareOf 23 = .ok (.getfield 295, 3) := by decide +kernel
theorem dX9_shareOf_26 : decode cX9_shareOf 26 = .ok (.invokestatic 308, 3) := by decide +kernel
theorem dX9_shareOf_29 : decode cX9_shareOf 29 = .ok (.ireturn, 1) := by decide +kernel
theorem dX9_lookRate_0 : decode cX9_lookRate 0 = .ok (.aload_n 0, 1) := by decide +kernel
theorem dX9_lookRate_1 : decode cX9_lookRate 1 = .ok (.getfield 16, 3) := by decide +kernel
theorem dX9_lookRate_4 : decode cX9_lookRate 4 = .ok (.getfield 168, 3) := by decide +kernel
theorem dX9_lookRate_7 : decode cX9_lookRate 7 = .ok (.getfield 311, 3) := by decide +kernel
theorem dX9_lookRate_10 : decode cX9_lookRate 10 = .ok (.aload_n 0, 1) := by decide +kernel
theorem dX9_lookRate_11 : decode cX9_lookRate 11 = .ok (.getfield 16, 3) := by decide +kernel
theorem dX9_lookRate_14 : decode cX9_lookRate 14 = .ok (.getfield 168, 3) := by decide +kernel
theorem dX9_lookRate_17 : decode cX9_lookRate 17 = .ok (.getfield 302, 3) := by decide +kernel
theorem dX9_lookRate_20 : decode cX9_lookRate 20 = .ok (.iconst 3, 1) := by decide +kernel
theorem dX9_lookRate_21 : decode cX9_lookRate 21 = .ok (.iaload, 1) := by decide +kernel
theorem dX9_lookRate_22 : decode cX9_lookRate 22 = .ok (.invokestatic 308, 3) := by decide +kernel
theorem dX9_lookRate_25 : decode cX9_lookRate 25 = .ok (.ireturn, 1) := by decide +kernel
theorem dX9_logSize_0 : decode cX9_logSize 0 = .ok (.aload_n 0, 1) := by decide +kernel
theorem dX9_logSize_1 : decode cX9_logSize 1 = .ok (.getfield 16, 3) := by decide +kernel
theorem dX9_logSize_4 : decode cX9_logSize 4 = .ok (.getfield 168, 3) := by decide +kernel
theorem dX9_logSize_7 : decode cX9_logSize 7 = .ok (.getfield 314, 3) := by decide +kernel
theorem dX9_logSize_10 : decode cX9_logSize 10 = .ok (.ireturn, 1) := by decide +kernel
theorem dX9_logEntry_0 : decode cX9_logEntry 0 = .ok (.iload_n 2, 1) := by decide +kernel
theorem dX9_logEntry_1 : decode cX9_logEntry 1 = .ok (.iconst 0, 1) := by decide +kernel
theorem dX9_logEntry_2 : decode cX9_logEntry 2 = .ok (.iconst 2, 1) := by decide +kernel
theorem dX9_logEntry_3 : decode cX9_logEntry 3 = .ok (.invokestatic 113, 3) := by decide +kernel
theorem dX9_logEntry_6 : decode cX9_logEntry 6 = .ok (.iload_n 1, 1) := by decide +kernel
theorem dX9_logEntry_7 : decode cX9_logEntry 7 = .ok (.ifCond .lt 17, 3) := by decide +kernel
theorem dX9_logEntry_10 : decode cX9_logEntry 10 = .ok (.iload_n 1, 1) := by decide +kernel
theorem dX9_logEntry_11 : decode cX9_logEntry 11 = .ok (.aload_n 0, 1) := by decide +kernel
theorem dX9_logEntry_12 : decode cX9_logEntry 12 = .ok (.getfield 16, 3) := by decide +kernel
theorem dX9_logEntry_15 : decode cX9_logEntry 15 = .ok (.getfield 168, 3) := by decide +kernel
theorem dX9_logEntry_18 : decode cX9_logEntry 18 = .ok (.getfield 314, 3) := by decide +kernel
theorem dX9_logEntry_21 : decode cX9_logEntry 21 = .ok (.if_icmp .lt 5, 3) := by decide +kernel
theorem dX9_logEntry_24 : decode cX9_logEntry 24 = .ok (.iconst (-1), 1) := by decide +kernel
theorem dX9_logEntry_25 : decode cX9_logEntry 25 = .ok (.ireturn, 1) := by decide +kernel
theorem dX9_logEntry_26 : decode cX9_logEntry 26 = .ok (.aload_n 0, 1) := by decide +kernel
theorem dX9_logEntry_27 : decode cX9_logEntry 27 = .ok (.getfield 16, 3) := by decide +kernel
theorem dX9_logEntry_30 : decode cX9_logEntry 30 = .ok (.getfield 168, 3) := by decide +kernel
theorem dX9_logEntry_33 : decode cX9_logEntry 33 = .ok (.iload_n 1, 1) := by decide +kernel
theorem dX9_logEntry_34 : decode cX9_logEntry 34 = .ok (.iload_n 2, 1) := by decide +kernel
theorem dX9_logEntry_35 : decode cX9_logEntry 35 = .ok (.invokevirtual 315, 3) := by decide +kernel
theorem dX9_logEntry_38 : decode cX9_logEntry 38 = .ok (.ireturn, 1) := by decide +kernel
theorem dX9_actionsToEnd_0 : decode cX9_actionsToEnd 0 = .ok (.aload_n 0, 1) := by decide +kernel
theorem dX9_actionsToEnd_1 : decode cX9_actionsToEnd 1 = .ok (.getfield 37, 3) := by decide +kernel
theorem dX9_actionsToEnd_4 : decode cX9_actionsToEnd 4 = .ok (.invokevirtual 318, 3) := by decide +kernel
theorem dX9_actionsToEnd_7 : decode cX9_actionsToEnd 7 = .ok (.aload_n 0, 1) := by decide +kernel
theorem dX9_actionsToEnd_8 : decode cX9_actionsToEnd 8 = .ok (.getfield 37, 3) := by decide +kernel
theorem dX9_actionsToEnd_11 : decode cX9_actionsToEnd 11 = .ok (.invokevirtual 321, 3) := by decide +kernel
theorem dX9_actionsToEnd_14 : decode cX9_actionsToEnd 14 = .ok (.aload_n 0, 1) := by decide +kernel
theorem dX9_actionsToEnd_15 : decode cX9_actionsToEnd 15 = .ok (.getfield 37, 3) := by decide +kernel
theorem dX9_actionsToEnd_18 : decode cX9_actionsToEnd 18 = .ok (.getfield 324, 3) := by decide +kernel
theorem dX9_actionsToEnd_21 : decode cX9_actionsToEnd 21 = .ok (.iconst (-1), 1) := by decide +kernel
theorem dX9_actionsToEnd_22 : decode cX9_actionsToEnd 22 = .ok (.if_icmp .ne 7, 3) := by decide +kernel
theorem dX9_actionsToEnd_25 : decode cX9_actionsToEnd 25 = .ok (.iconst (-1), 1) := by decide +kernel
theorem dX9_actionsToEnd_26 : decode cX9_actionsToEnd 26 = .ok (.goto 10, 3) := by decide +kernel
theorem dX9_actionsToEnd_29 : decode cX9_actionsToEnd 29 = .ok (.aload_n 0, 1) := by decide +kernel
theorem dX9_actionsToEnd_30 : decode cX9_actionsToEnd 30 = .ok (.getfield 37, 3) := by decide +kernel
theorem dX9_actionsToEnd_33 : decode cX9_actionsToEnd 33 = .ok (.getfield 327, 3) := by decide +kernel
theorem dX9_actionsToEnd_36 : decode cX9_actionsToEnd 36 = .ok (.ireturn, 1) := by decide +kernel
theorem dX9_timeAtEnd_0 : decode cX9_timeAtEnd 0 = .ok (.aload_n 0, 1) := by decide +kernel
theorem dX9_timeAtEnd_1 : decode cX9_timeAtEnd 1 = .ok (.getfield 37, 3) := by decide +kernel
theorem dX9_timeAtEnd_4 : decode cX9_timeAtEnd 4 = .ok (.invokevirtual 318, 3) := by decide +kernel
theorem dX9_timeAtEnd_7 : decode cX9_timeAtEnd 7 = .ok (.aload_n 0, 1) := by decide +kernel
theorem dX9_timeAtEnd_8 : decode cX9_timeAtEnd 8 = .ok (.getfield 37, 3) := by decide +kernel
theorem dX9_timeAtEnd_11 : decode cX9_timeAtEnd 11 = .ok (.invokevirtual 321, 3) := by decide +kernel
theorem dX9_timeAtEnd_14 : decode cX9_timeAtEnd 14 = .ok (.aload_n 0, 1) := by decide +kernel
theorem dX9_timeAtEnd_15 : decode cX9_timeAtEnd 15 = .ok (.getfield 37, 3) := by decide +kernel
theorem dX9_timeAtEnd_18 : decode cX9_timeAtEnd 18 = .ok (.getfield 324, 3) := by decide +kernel
theorem dX9_timeAtEnd_21 : decode cX9_timeAtEnd 21 = .ok (.ireturn, 1) := by decide +kernel
theorem dX9_filledAtEnd_0 : decode cX9_filledAtEnd 0 = .ok (.aload_n 0, 1) := by decide +kernel
theorem dX9_filledAtEnd_1 : decode cX9_filledAtEnd 1 = .ok (.getfield 37, 3) := by decide +kernel
theorem dX9_filledAtEnd_4 : decode cX9_filledAtEnd 4 = .ok (.invokevirtual 318, 3) := by decide +kernel
theorem dX9_filledAtEnd_7 : decode cX9_filledAtEnd 7 = .ok (.aload_n 0, 1) := by decide +kernel
theorem dX9_filledAtEnd_8 : decode cX9_filledAtEnd 8 = .ok (.getfield 37, 3) := by decide +kernel
theorem dX9_filledAtEnd_11 : decode cX9_filledAtEnd 11 = .ok (.invokevirtual 321, 3) := by decide +kernel
theorem dX9_filledAtEnd_14 : decode cX9_filledAtEnd 14 = .ok (.aload_n 0, 1) := by decide +kernel
theorem dX9_filledAtEnd_15 : decode cX9_filledAtEnd 15 = .ok (.getfield 29, 3) := by decide +kernel
theorem dX9_filledAtEnd_18 : decode cX9_filledAtEnd 18 = .ok (.getfield 78, 3) := by decide +kernel
theorem dX9_filledAtEnd_21 : decode cX9_filledAtEnd 21 = .ok (.getfield 237, 3) := by decide +kernel
theorem dX9_filledAtEnd_24 : decode cX9_filledAtEnd 24 = .ok (.invokestatic 330, 3) := by decide +kernel
theorem dX9_filledAtEnd_27 : decode cX9_filledAtEnd 27 = .ok (.ireturn, 1) := by decide +kernel
theorem dX9_shortage_0 : decode cX9_shortage 0 = .ok (.iload_n 1, 1) := by decide +kernel
theorem dX9_shortage_1 : decode cX9_shortage 1 = .ok (.aload_n 0, 1) := by decide +kernel
theorem dX9_shortage_2 : decode cX9_shortage 2 = .ok (.getfield 16, 3) := by decide +kernel
theorem dX9_shortage_5 : decode cX9_shortage 5 = .ok (.getfield 93, 3) := by decide +kernel
theorem dX9_shortage_8 : decode cX9_shortage 8 = .ok (.getfield 97, 3) := by decide +kernel
theorem dX9_shortage_11 : decode cX9_shortage 11 = .ok (.invokestatic 129, 3) := by decide +kernel
theorem dX9_shortage_14 : decode cX9_shortage 14 = .ok (.aload_n 0, 1) := by decide +kernel
theorem dX9_shortage_15 : decode cX9_shortage 15 = .ok (.getfield 16, 3) := by decide +kernel
theorem dX9_shortage_18 : decode cX9_shortage 18 = .ok (.iload_n 1, 1) := by decide +kernel
theorem dX9_shortage_19 : decode cX9_shortage 19 = .ok (.iconst 1, 1) := by decide +kernel
theorem dX9_shortage_20 : decode cX9_shortage 20 = .ok (.invokevirtual 336, 3) := by decide +kernel
theorem dX9_shortage_23 : decode cX9_shortage 23 = .ok (.ireturn, 1) := by decide +kernel
theorem dX9_shortageFor_0 : decode cX9_shortageFor 0 = .ok (.iload_n 1, 1) := by decide +kernel
theorem dX9_shortageFor_1 : decode cX9_shortageFor 1 = .ok (.aload_n 0, 1) := by decide +kernel
theorem dX9_shortageFor_2 : decode cX9_shortageFor 2 = .ok (.getfield 16, 3) := by decide +kernel
theorem dX9_shortageFor_5 : decode cX9_shortageFor 5 = .ok (.getfield 93, 3) := by decide +kernel
theorem dX9_shortageFor_8 : decode cX9_shortageFor 8 = .ok (.getfield 97, 3) := by decide +kernel
theorem dX9_shortageFor_11 : decode cX9_shortageFor 11 = .ok (.invokestatic 129, 3) := by decide +kernel
theorem dX9_shortageFor_14 : decode cX9_shortageFor 14 = .ok (.iload_n 2, 1) := by decide +kernel
theorem dX9_shortageFor_15 : decode cX9_shortageFor 15 = .ok (.iconst 1, 1) := by decide +kernel
theorem dX9_shortageFor_16 : decode cX9_shortageFor 16 = .ok (.sipush 1000, 3) := by decide +kernel
theorem dX9_shortageFor_19 : decode cX9_shortageFor 19 = .ok (.invokestatic 113, 3) := by decide +kernel
theorem dX9_shortageFor_22 : decode cX9_shortageFor 22 = .ok (.aload_n 0, 1) := by decide +kernel
theorem dX9_shortageFor_23 : decode cX9_shortageFor 23 = .ok (.getfield 16, 3) := by decide +kernel
theorem dX9_shortageFor_26 : decode cX9_shortageFor 26 = .ok (.iload_n 1, 1) := by decide +kernel
theorem dX9_shortageFor_27 : decode cX9_shortageFor 27 = .ok (.iload_n 2, 1) := by decide +kernel
theorem dX9_shortageFor_28 : decode cX9_shortageFor 28 = .ok (.invokevirtual 336, 3) := by decide +kernel
theorem dX9_shortageFor_31 : decode cX9_shortageFor 31 = .ok (.ireturn, 1) := by decide +kernel
theorem dX9_boardsPossible_0 : decode cX9_boardsPossible 0 = .ok (.sipush 1000, 3) := by decide +kernel
theorem dX9_boardsPossible_3 : decode cX9_boardsPossible 3 = .ok (.istore_n 1, 1) := by decide +kernel
theorem dX9_boardsPossible_4 : decode cX9_boardsPossible 4 = .ok (.iconst 0, 1) := by decide +kernel
theorem dX9_boardsPossible_5 : decode cX9_boardsPossible 5 = .ok (.istore_n 2, 1) := by decide +kernel
theorem dX9_boardsPossible_6 : decode cX9_boardsPossible 6 = .ok (.iload_n 2, 1) := by decide +kernel
theorem dX9_boardsPossible_7 : decode cX9_boardsPossible 7 = .ok (.aload_n 0, 1) := by decide +kernel
theorem dX9_boardsPossible_8 : decode cX9_boardsPossible 8 = .ok (.getfield 16, 3) := by decide +kernel
theorem dX9_boardsPossible_11 : decode cX9_boardsPossible 11 = .ok (.getfield 93, 3) := by decide +kernel
theorem dX9_boardsPossible_14 : decode cX9_boardsPossible 14 = .ok (.getfield 97, 3) := by decide +kernel
theorem dX9_boardsPossible_17 : decode cX9_boardsPossible 17 = .ok (.if_icmp .ge 22, 3) := by decide +kernel
theorem dX9_boardsPossible_20 : decode cX9_boardsPossible 20 = .ok (.iload_n 1, 1) := by decide +kernel
theorem dX9_boardsPossible_21 : decode cX9_boardsPossible 21 = .ok (.aload_n 0, 1) := by decide +kernel
theorem dX9_boardsPossible_22 : decode cX9_boardsPossible 22 = .ok (.getfield 16, 3) := by decide +kernel
theorem dX9_boardsPossible_25 : decode cX9_boardsPossible 25 = .ok (.iload_n 2, 1) := by decide +kernel
theorem dX9_boardsPossible_26 : decode cX9_boardsPossible 26 = .ok (.invokevirtual 339, 3) := by decide +kernel
theorem dX9_boardsPossible_29 : decode cX9_boardsPossible 29 = .ok (.invokestatic 342, 3) := by decide +kernel
theorem dX9_boardsPossible_32 : decode cX9_boardsPossible 32 = .ok (.istore_n 1, 1) := by decide +kernel
theorem dX9_boardsPossible_33 : decode cX9_boardsPossible 33 = .ok (.iinc 2 1, 3) := by decide +kernel
theorem dX9_boardsPossible_36 : decode cX9_boardsPossible 36 = .ok (.goto (-30), 3) := by decide +kernel
theorem dX9_boardsPossible_39 : decode cX9_boardsPossible 39 = .ok (.iload_n 1, 1) := by decide +kernel
theorem dX9_boardsPossible_40 : decode cX9_boardsPossible 40 = .ok (.ireturn, 1) := by decide +kernel
theorem dX9_runsOut_0 : decode cX9_runsOut 0 = .ok (.iload_n 1, 1) := by decide +kernel
theorem dX9_runsOut_1 : decode cX9_runsOut 1 = .ok (.aload_n 0, 1) := by decide +kernel
theorem dX9_runsOut_2 : decode cX9_runsOut 2 = .ok (.getfield 16, 3) := by decide +kernel
theorem dX9_runsOut_5 : decode cX9_runsOut 5 = .ok (.getfield 100, 3) := by decide +kernel
theorem dX9_runsOut_8 : decode cX9_runsOut 8 = .ok (.invokestatic 129, 3) := by decide +kernel
theorem dX9_runsOut_11 : decode cX9_runsOut 11 = .ok (.aload_n 0, 1) := by decide +kernel
theorem dX9_runsOut_12 : decode cX9_runsOut 12 = .ok (.getfield 37, 3) := by decide +kernel
theorem dX9_runsOut_15 : decode cX9_runsOut 15 = .ok (.invokevirtual 318, 3) := by decide +kernel
theorem dX9_runsOut_18 : decode cX9_runsOut 18 = .ok (.aload_n 0, 1) := by decide +kernel
theorem dX9_runsOut_19 : decode cX9_runsOut 19 = .ok (.getfield 37, 3) := by decide +kernel
theorem dX9_runsOut_22 : decode cX9_runsOut 22 = .ok (.iload_n 1, 1) := by decide +kernel
theorem dX9_runsOut_23 : decode cX9_runsOut 23 = .ok (.invokevirtual 347, 3) := by decide +kernel
theorem dX9_runsOut_26 : decode cX9_runsOut 26 = .ok (.ireturn, 1) := by decide +kernel
theorem dX9_splicesAhead_0 : decode cX9_splicesAhead 0 = .ok (.aload_n 0, 1) := by decide +kernel
theorem dX9_splicesAhead_1 : decode cX9_splicesAhead 1 = .ok (.getfield 37, 3) := by decide +kernel
theorem dX9_splicesAhead_4 : decode cX9_splicesAhead 4 = .ok (.invokevirtual 318, 3) := by decide +kernel
theorem dX9_splicesAhead_7 : decode cX9_splicesAhead 7 = .ok (.aload_n 0, 1) := by decide +kernel
theorem dX9_splicesAhead_8 : decode cX9_splicesAhead 8 = .ok (.getfield 37, 3) := by decide +kernel
theorem dX9_splicesAhead_11 : decode cX9_splicesAhead 11 = .ok (.invokevirtual 321, 3) := by decide +kernel
theorem dX9_splicesAhead_14 : decode cX9_splicesAhead 14 = .ok (.aload_n 0, 1) := by decide +kernel
theorem dX9_splicesAhead_15 : decode cX9_splicesAhead 15 = .ok (.getfield 29, 3) := by decide +kernel
theorem dX9_splicesAhead_18 : decode cX9_splicesAhead 18 = .ok (.getfield 168, 3) := by decide +kernel
theorem dX9_splicesAhead_21 : decode cX9_splicesAhead 21 = .ok (.getfield 172, 3) := by decide +kernel
theorem dX9_splicesAhead_24 : decode cX9_splicesAhead 24 = .ok (.aload_n 0, 1) := by decide +kernel
theorem dX9_splicesAhead_25 : decode cX9_splicesAhead 25 = .ok (.getfield 16, 3) := by decide +kernel
theorem dX9_splicesAhead_28 : decode cX9_splicesAhead 28 = .ok (.getfield 168, 3) := by decide +kernel
theorem dX9_splicesAhead_31 : decode cX9_splicesAhead 31 = .ok (.getfield 172, 3) := by decide +kernel
theorem dX9_splicesAhead_34 : decode cX9_splicesAhead 34 = .ok (.isub, 1) := by decide +kernel
theorem dX9_splicesAhead_35 : decode cX9_splicesAhead 35 = .ok (.ireturn, 1) := by decide +kernel
theorem dX9_bestRetries_0 : decode cX9_bestRetries 0 = .ok (.iconst 0, 1) := by decide +kernel
theorem dX9_bestRetries_1 : decode cX9_bestRetries 1 = .ok (.istore_n 1, 1) := by decide +kernel
theorem dX9_bestRetries_2 : decode cX9_bestRetries 2 = .ok (.iconst (-1), 1) := by decide +kernel
theorem dX9_bestRetries_3 : decode cX9_bestRetries 3 = .ok (.istore_n 2, 1) := by decide +kernel
theorem dX9_bestRetries_4 : decode cX9_bestRetries 4 = .ok (.iconst 0, 1) := by decide +kernel
theorem dX9_bestRetries_5 : decode cX9_bestRetries 5 = .ok (.istore_n 3, 1) := by decide +kernel
theorem dX9_bestRetries_6 : decode cX9_bestRetries 6 = .ok (.getstatic 126, 3) := by decide +kernel
theorem dX9_bestRetries_9 : decode cX9_bestRetries 9 = .ok (.bipush 7, 2) := by decide +kernel
theorem dX9_bestRetries_11 : decode cX9_bestRetries 11 = .ok (.iaload, 1) := by decide +kernel
theorem dX9_bestRetries_12 : decode cX9_bestRetries 12 = .ok (.istore 4, 2) := by decide +kernel
theorem dX9_bestRetries_14 : decode cX9_bestRetries 14 = .ok (.iload 4, 2) := by decide +kernel
theorem dX9_bestRetries_16 : decode cX9_bestRetries 16 = .ok (.getstatic 123, 3) := by decide +kernel
theorem dX9_bestRetries_19 : decode cX9_bestRetries 19 = .ok (.bipush 7, 2) := by decide +kernel
theorem dX9_bestRetries_21 : decode cX9_bestRetries 21 = .ok (.iaload, 1) := by decide +kernel
theorem dX9_bestRetries_22 : decode cX9_bestRetries 22 = .ok (.if_icmp .gt 87, 3) := by decide +kernel
theorem dX9_bestRetries_25 : decode cX9_bestRetries 25 = .ok (.aload_n 0, 1) := by decide +kernel
theorem dX9_bestRetries_26 : decode cX9_bestRetries 26 = .ok (.getfield 37, 3) := by decide +kernel
theorem dX9_bestRetries_29 : decode cX9_bestRetries 29 = .ok (.invokevirtual 318, 3) := by decide +kernel
theorem dX9_bestRetries_32 : decode cX9_bestRetries 32 = .ok (.aload_n 0, 1) := by decide +kernel
theorem dX9_bestRetries_33 : decode cX9_bestRetries 33 = .ok (.getfield 29, 3) := by decide +kernel
theorem dX9_bestRetries_36 : decode cX9_bestRetries 36 = .ok (.getfield 117, 3) := by decide +kernel
theorem dX9_bestRetries_39 : decode cX9_bestRetries 39 = .ok (.bipush 7, 2) := by decide +kernel
theorem dX9_bestRetries_41 : decode cX9_bestRetries 41 = .ok (.iload 4, 2) := by decide +kernel
theorem dX9_bestRetries_43 : decode cX9_bestRetries 43 = .ok (.iastore, 1) := by decide +kernel
theorem dX9_bestRetries_44 : decode cX9_bestRetries 44 = .ok (.aload_n 0, 1) := by decide +kernel
theorem dX9_bestRetries_45 : decode cX9_bestRetries 45 = .ok (.getfield 37, 3) := by decide +kernel
theorem dX9_bestRetries_48 : decode cX9_bestRetries 48 = .ok (.invokevirtual 321, 3) := by decide +kernel
theorem dX9_bestRetries_51 : decode cX9_bestRetries 51 = .ok (.aload_n 0, 1) := by decide +kernel
theorem dX9_bestRetries_52 : decode cX9_bestRetries 52 = .ok (.getfield 29, 3) := by decide +kernel
theorem dX9_bestRetries_55 : decode cX9_bestRetries 55 = .ok (.getfield 78, 3) := by decide +kernel
theorem dX9_bestRetries_58 : decode cX9_bestRetries 58 = .ok (.getfield 237, 3) := by decide +kernel
theorem dX9_bestRetries_61 : decode cX9_bestRetries 61 = .ok (.invokestatic 330, 3) := by decide +kernel
theorem dX9_bestRetries_64 : decode cX9_bestRetries 64 = .ok (.istore 5, 2) := by decide +kernel
theorem dX9_bestRetries_66 : decode cX9_bestRetries 66 = .ok (.iload 5, 2) := by decide +kernel
theorem dX9_bestRetries_68 : decode cX9_bestRetries 68 = .ok (.iload_n 2, 1) := by decide +kernel
theorem dX9_bestRetries_69 : decode cX9_bestRetries 69 = .ok (.if_icmp .gt 20, 3) := by decide +kernel
theorem dX9_bestRetries_72 : decode cX9_bestRetries 72 = .ok (.iload 5, 2) := by decide +kernel
theorem dX9_bestRetries_74 : decode cX9_bestRetries 74 = .ok (.iload_n 2, 1) := by decide +kernel
theorem dX9_bestRetries_75 : decode cX9_bestRetries 75 = .ok (.if_icmp .ne 28, 3) := by decide +kernel
theorem dX9_bestRetries_78 : decode cX9_bestRetries 78 = .ok (.aload_n 0, 1) := by decide +kernel
theorem dX9_bestRetries_79 : decode cX9_bestRetries 79 = .ok (.getfield 29, 3) := by decide +kernel
theorem dX9_bestRetries_82 : decode cX9_bestRetries 82 = .ok (.getfield 295, 3) := by decide +kernel
theorem dX9_bestRetries_85 : decode cX9_bestRetries 85 = .ok (.iload_n 3, 1) := by decide +kernel
theorem dX9_bestRetries_86 : decode cX9_bestRetries 86 = .ok (.if_icmp .ge 17, 3) := by decide +kernel
theorem dX9_bestRetries_89 : decode cX9_bestRetries 89 = .ok (.iload 4, 2) := by decide +kernel
theorem dX9_bestRetries_91 : decode cX9_bestRetries 91 = .ok (.istore_n 1, 1) := by decide +kernel
theorem dX9_bestRetries_92 : decode cX9_bestRetries 92 = .ok (.iload 5, 2) := by decide +kernel
theorem dX9_bestRetries_94 : decode cX9_bestRetries 94 = .ok (.istore_n 2, 1) := by decide +kernel
theorem dX9_bestRetries_95 : decode cX9_bestRetries 95 = .ok (.aload_n 0, 1) := by decide +kernel
theorem dX9_bestRetries_96 : decode cX9_bestRetries 96 = .ok (.getfield 29, 3) := by decide +kernel
theorem dX9_bestRetries_99 : decode cX9_bestRetries 99 = .ok (.getfield 295, 3) := by decide +kernel
theorem dX9_bestRetries_102 : decode cX9_bestRetries 102 = .ok (.istore_n 3, 1) := by decide +kernel
theorem dX9_bestRetries_103 : decode cX9_bestRetries 103 = .ok (.iinc 4 1, 3) := by decide +kernel
theorem dX9_bestRetries_106 : decode cX9_bestRetries 106 = .ok (.goto (-92), 3) := by decide +kernel
theorem dX9_bestRetries_109 : decode cX9_bestRetries 109 = .ok (.iload_n 1, 1) := by decide +kernel
theorem dX9_bestRetries_110 : decode cX9_bestRetries 110 = .ok (.ireturn, 1) := by decide +kernel
theorem dX9_dearestSpot_0 : decode cX9_dearestSpot 0 = .ok (.iconst (-1), 1) := by decide +kernel
theorem dX9_dearestSpot_1 : decode cX9_dearestSpot 1 = .ok (.istore_n 1, 1) := by decide +kernel
theorem dX9_dearestSpot_2 : decode cX9_dearestSpot 2 = .ok (.iconst (-1), 1) := by decide +kernel
theorem dX9_dearestSpot_3 : decode cX9_dearestSpot 3 = .ok (.istore_n 2, 1) := by decide +kernel
theorem dX9_dearestSpot_4 : decode cX9_dearestSpot 4 = .ok (.iconst 0, 1) := by decide +kernel
theorem dX9_dearestSpot_5 : decode cX9_dearestSpot 5 = .ok (.istore_n 3, 1) := by decide +kernel
theorem dX9_dearestSpot_6 : decode cX9_dearestSpot 6 = .ok (.iload_n 3, 1) := by decide +kernel
theorem dX9_dearestSpot_7 : decode cX9_dearestSpot 7 = .ok (.aload_n 0, 1) := by decide +kernel
theorem dX9_dearestSpot_8 : decode cX9_dearestSpot 8 = .ok (.getfield 16, 3) := by decide +kernel
theorem dX9_dearestSpot_11 : decode cX9_dearestSpot 11 = .ok (.getfield 78, 3) := by decide +kernel
theorem dX9_dearestSpot_14 : decode cX9_dearestSpot 14 = .ok (.getfield 82, 3) := by decide +kernel
theorem dX9_dearestSpot_17 : decode cX9_dearestSpot 17 = .ok (.if_icmp .ge 86, 3) := by decide +kernel
theorem dX9_dearestSpot_20 : decode cX9_dearestSpot 20 = .ok (.aload_n 0, 1) := by decide +kernel
theorem dX9_dearestSpot_21 : decode cX9_dearestSpot 21 = .ok (.getfield 16, 3) := by decide +kernel
theorem dX9_dearestSpot_24 : decode cX9_dearestSpot 24 = .ok (.getfield 78, 3) := by decide +kernel
theorem dX9_dearestSpot_27 : decode cX9_dearestSpot 27 = .ok (.iload_n 3, 1) := by decide +kernel
theorem dX9_dearestSpot_28 : decode cX9_dearestSpot 28 = .ok (.invokevirtual 262, 3) := by decide +kernel
theorem dX9_dearestSpot_31 : decode cX9_dearestSpot 31 = .ok (.ifCond .eq 66, 3) := by decide +kernel
theorem dX9_dearestSpot_34 : decode cX9_dearestSpot 34 = .ok (.aload_n 0, 1) := by decide +kernel
theorem dX9_dearestSpot_35 : decode cX9_dearestSpot 35 = .ok (.getfield 37, 3) := by decide +kernel
theorem dX9_dearestSpot_38 : decode cX9_dearestSpot 38 = .ok (.invokevirtual 318, 3) := by decide +kernel
theorem dX9_dearestSpot_41 : decode cX9_dearestSpot 41 = .ok (.aload_n 0, 1) := by decide +kernel
theorem dX9_dearestSpot_42 : decode cX9_dearestSpot 42 = .ok (.getfield 29, 3) := by decide +kernel
theorem dX9_dearestSpot_45 : decode cX9_dearestSpot 45 = .ok (.getfield 78, 3) := by decide +kernel
theorem dX9_dearestSpot_48 : decode cX9_dearestSpot 48 = .ok (.iload_n 3, 1) := by decide +kernel
theorem dX9_dearestSpot_49 : decode cX9_dearestSpot 49 = .ok (.invokevirtual 199, 3) := by decide +kernel
theorem dX9_dearestSpot_52 : decode cX9_dearestSpot 52 = .ok (.pop, 1) := by decide +kernel
theorem dX9_dearestSpot_53 : decode cX9_dearestSpot 53 = .ok (.aload_n 0, 1) := by decide +kernel
theorem dX9_dearestSpot_54 : decode cX9_dearestSpot 54 = .ok (.getfield 37, 3) := by decide +kernel
theorem dX9_dearestSpot_57 : decode cX9_dearestSpot 57 = .ok (.invokevirtual 321, 3) := by decide +kernel
theorem dX9_dearestSpot_60 : decode cX9_dearestSpot 60 = .ok (.aload_n 0, 1) := by decide +kernel
theorem dX9_dearestSpot_61 : decode cX9_dearestSpot 61 = .ok (.getfield 37, 3) := by decide +kernel
theorem dX9_dearestSpot_64 : decode cX9_dearestSpot 64 = .ok (.getfield 324, 3) := by decide +kernel
theorem dX9_dearestSpot_67 : decode cX9_dearestSpot 67 = .ok (.iconst (-1), 1) := by decide +kernel
theorem dX9_dearestSpot_68 : decode cX9_dearestSpot 68 = .ok (.if_icmp .eq 29, 3) := by decide +kernel
theorem dX9_dearestSpot_71 : decode cX9_dearestSpot 71 = .ok (.iload_n 2, 1) := by decide +kernel
theorem dX9_dearestSpot_72 : decode cX9_dearestSpot 72 = .ok (.iconst (-1), 1) := by decide +kernel
theorem dX9_dearestSpot_73 : decode cX9_dearestSpot 73 = .ok (.if_icmp .eq 14, 3) := by decide +kernel
theorem dX9_dearestSpot_76 : decode cX9_dearestSpot 76 = .ok (.aload_n 0, 1) := by decide +kernel
theorem dX9_dearestSpot_77 : decode cX9_dearestSpot 77 = .ok (.getfield 37, 3) := by decide +kernel
theorem dX9_dearestSpot_80 : decode cX9_dearestSpot 80 = .ok (.getfield 324, 3) := by decide +kernel
theorem dX9_dearestSpot_83 : decode cX9_dearestSpot 83 = .ok (.iload_n 2, 1) := by decide +kernel
theorem dX9_dearestSpot_84 : decode cX9_dearestSpot 84 = .ok (.if_icmp .ge 13, 3) := by decide +kernel
theorem dX9_dearestSpot_87 : decode cX9_dearestSpot 87 = .ok (.iload_n 3, 1) := by decide +kernel
theorem dX9_dearestSpot_88 : decode cX9_dearestSpot 88 = .ok (.istore_n 1, 1) := by decide +kernel
theorem dX9_dearestSpot_89 : decode cX9_dearestSpot 89 = .ok (.aload_n 0, 1) := by decide +kernel
theorem dX9_dearestSpot_90 : decode cX9_dearestSpot 90 = .ok (.getfield 37, 3) := by decide +kernel
theorem dX9_dearestSpot_93 : decode cX9_dearestSpot 93 = .ok (.getfield 324, 3) := by decide +kernel
theorem dX9_dearestSpot_96 : decode cX9_dearestSpot 96 = .ok (.istore_n 2, 1) := by decide +kernel
theorem dX9_dearestSpot_97 : decode cX9_dearestSpot 97 = .ok (.iinc 3 1, 3) := by decide +kernel
theorem dX9_dearestSpot_100 : decode cX9_dearestSpot 100 = .ok (.goto (-94), 3) := by decide +kernel
theorem dX9_dearestSpot_103 : decode cX9_dearestSpot 103 = .ok (.iload_n 1, 1) := by decide +kernel
theorem dX9_dearestSpot_104 : decode cX9_dearestSpot 104 = .ok (.ireturn, 1) := by decide +kernel
theorem dX9_bestSwap_0 : decode cX9_bestSwap 0 = .ok (.aload_n 0, 1) := by decide +kernel
theorem dX9_bestSwap_1 : decode cX9_bestSwap 1 = .ok (.getfield 37, 3) := by decide +kernel
theorem dX9_bestSwap_4 : decode cX9_bestSwap 4 = .ok (.invokevirtual 318, 3) := by decide +kernel
theorem dX9_bestSwap_7 : decode cX9_bestSwap 7 = .ok (.aload_n 0, 1) := by decide +kernel
theorem dX9_bestSwap_8 : decode cX9_bestSwap 8 = .ok (.getfield 37, 3) := by decide +kernel
theorem dX9_bestSwap_11 : decode cX9_bestSwap 11 = .ok (.invokevirtual 321, 3) := by decide +kernel
theorem dX9_bestSwap_14 : decode cX9_bestSwap 14 = .ok (.aload_n 0, 1) := by decide +kernel
theorem dX9_bestSwap_15 : decode cX9_bestSwap 15 = .ok (.getfield 37, 3) := by decide +kernel
theorem dX9_bestSwap_18 : decode cX9_bestSwap 18 = .ok (.getfield 324, 3) := by decide +kernel
theorem dX9_bestSwap_21 : decode cX9_bestSwap 21 = .ok (.istore_n 1, 1) := by decide +kernel
theorem dX9_bestSwap_22 : decode cX9_bestSwap 22 = .ok (.iconst (-1), 1) := by decide +kernel
theorem dX9_bestSwap_23 : decode cX9_bestSwap 23 = .ok (.istore_n 2, 1) := by decide +kernel
theorem dX9_bestSwap_24 : decode cX9_bestSwap 24 = .ok (.iload_n 1, 1) := by decide +kernel
theorem dX9_bestSwap_25 : decode cX9_bestSwap 25 = .ok (.iconst (-1), 1) := by decide +kernel
theorem dX9_bestSwap_26 : decode cX9_bestSwap 26 = .ok (.if_icmp .ne 5, 3) := by decide +kernel
theorem dX9_bestSwap_29 : decode cX9_bestSwap 29 = .ok (.iconst (-1), 1) := by decide +kernel
theorem dX9_bestSwap_30 : decode cX9_bestSwap 30 = .ok (.ireturn, 1) := by decide +kernel
theorem dX9_bestSwap_31 : decode cX9_bestSwap 31 = .ok (.iconst 0, 1) := by decide +kernel
theorem dX9_bestSwap_32 : decode cX9_bestSwap 32 = .ok (.istore_n 3, 1) := by decide +kernel
theorem dX9_bestSwap_33 : decode cX9_bestSwap 33 = .ok (.iload_n 3, 1) := by decide +kernel
theorem dX9_bestSwap_34 : decode cX9_bestSwap 34 = .ok (.aload_n 0, 1) := by decide +kernel
theorem dX9_bestSwap_35 : decode cX9_bestSwap 35 = .ok (.getfield 16, 3) := by decide +kernel
theorem dX9_bestSwap_38 : decode cX9_bestSwap 38 = .ok (.getfield 100, 3) := by decide +kernel
theorem dX9_bestSwap_41 : decode cX9_bestSwap 41 = .ok (.if_icmp .ge 134, 3) := by decide +kernel
theorem dX9_bestSwap_44 : decode cX9_bestSwap 44 = .ok (.iload_n 3, 1) := by decide +kernel
theorem dX9_bestSwap_45 : decode cX9_bestSwap 45 = .ok (.iconst 1, 1) := by decide +kernel
theorem dX9_bestSwap_46 : decode cX9_bestSwap 46 = .ok (.iadd, 1) := by decide +kernel
theorem dX9_bestSwap_47 : decode cX9_bestSwap 47 = .ok (.istore 4, 2) := by decide +kernel
theorem dX9_bestSwap_49 : decode cX9_bestSwap 49 = .ok (.iload 4, 2) := by decide +kernel
theorem dX9_bestSwap_51 : decode cX9_bestSwap 51 = .ok (.aload_n 0, 1) := by decide +kernel
theorem dX9_bestSwap_52 : decode cX9_bestSwap 52 = .ok (.getfield 16, 3) := by decide +kernel
theorem dX9_bestSwap_55 : decode cX9_bestSwap 55 = .ok (.getfield 100, 3) := by decide +kernel
theorem dX9_bestSwap_58 : decode cX9_bestSwap 58 = .ok (.if_icmp .ge 111, 3) := by decide +kernel
theorem dX9_bestSwap_61 : decode cX9_bestSwap 61 = .ok (.aload_n 0, 1) := by decide +kernel
theorem dX9_bestSwap_62 : decode cX9_bestSwap 62 = .ok (.getfield 37, 3) := by decide +kernel
theorem dX9_bestSwap_65 : decode cX9_bestSwap 65 = .ok (.invokevirtual 318, 3) := by decide +kernel
theorem dX9_bestSwap_68 : decode cX9_bestSwap 68 = .ok (.aload_n 0, 1) := by decide +kernel
theorem dX9_bestSwap_69 : decode cX9_bestSwap 69 = .ok (.getfield 29, 3) := by decide +kernel
theorem dX9_bestSwap_72 : decode cX9_bestSwap 72 = .ok (.getfield 149, 3) := by decide +kernel
theorem dX9_bestSwap_75 : decode cX9_bestSwap 75 = .ok (.iload_n 3, 1) := by decide +kernel
theorem dX9_bestSwap_76 : decode cX9_bestSwap 76 = .ok (.aaload, 1) := by decide +kernel
theorem dX9_bestSwap_77 : decode cX9_bestSwap 77 = .ok (.aload_n 0, 1) := by decide +kernel
theorem dX9_bestSwap_78 : decode cX9_bestSwap 78 = .ok (.getfield 16, 3) := by decide +kernel
theorem dX9_bestSwap_81 : decode cX9_bestSwap 81 = .ok (.getfield 149, 3) := by decide +kernel
theorem dX9_bestSwap_84 : decode cX9_bestSwap 84 = .ok (.iload 4, 2) := by decide +kernel
theorem dX9_bestSwap_86 : decode cX9_bestSwap 86 = .ok (.aaload, 1) := by decide +kernel
theorem dX9_bestSwap_87 : decode cX9_bestSwap 87 = .ok (.getfield 190, 3) := by decide +kernel
theorem dX9_bestSwap_90 : decode cX9_bestSwap 90 = .ok (.putfield 190, 3) := by decide +kernel
theorem dX9_bestSwap_93 : decode cX9_bestSwap 93 = .ok (.aload_n 0, 1) := by decide +kernel
theorem dX9_bestSwap_94 : decode cX9_bestSwap 94 = .ok (.getfield 29, 3) := by decide +kernel
theorem dX9_bestSwap_97 : decode cX9_bestSwap 97 = .ok (.getfield 149, 3) := by decide +kernel
theorem dX9_bestSwap_100 : decode cX9_bestSwap 100 = .ok (.iload 4, 2) := by decide +kernel
theorem dX9_bestSwap_102 : decode cX9_bestSwap 102 = .ok (.aaload, 1) := by decide +kernel
theorem dX9_bestSwap_103 : decode cX9_bestSwap 103 = .ok (.aload_n 0, 1) := by decide +kernel
theorem dX9_bestSwap_104 : decode cX9_bestSwap 104 = .ok (.getfield 16, 3) := by decide +kernel
theorem dX9_bestSwap_107 : decode cX9_bestSwap 107 = .ok (.getfield 149, 3) := by decide +kernel
theorem dX9_bestSwap_110 : decode cX9_bestSwap 110 = .ok (.iload_n 3, 1) := by decide +kernel
theorem dX9_bestSwap_111 : decode cX9_bestSwap 111 = .ok (.aaload, 1) := by decide +kernel
theorem dX9_bestSwap_112 : decode cX9_bestSwap 112 = .ok (.getfield 190, 3) := by decide +kernel
theorem dX9_bestSwap_115 : decode cX9_bestSwap 115 = .ok (.putfield 190, 3) := by decide +kernel
theorem dX9_bestSwap_118 : decode cX9_bestSwap 118 = .ok (.aload_n 0, 1) := by decide +kernel
theorem dX9_bestSwap_119 : decode cX9_bestSwap 119 = .ok (.getfield 37, 3) := by decide +kernel
theorem dX9_bestSwap_122 : decode cX9_bestSwap 122 = .ok (.invokevirtual 321, 3) := by decide +kernel
theorem dX9_bestSwap_125 : decode cX9_bestSwap 125 = .ok (.aload_n 0, 1) := by decide +kernel
theorem dX9_bestSwap_126 : decode cX9_bestSwap 126 = .ok (.getfield 37, 3) := by decide +kernel
theorem dX9_bestSwap_129 : decode cX9_bestSwap 129 = .ok (.getfield 324, 3) := by decide +kernel
theorem dX9_bestSwap_132 : decode cX9_bestSwap 132 = .ok (.iconst (-1), 1) := by decide +kernel
theorem dX9_bestSwap_133 : decode cX9_bestSwap 133 = .ok (.if_icmp .eq 30, 3) := by decide +kernel
theorem dX9_bestSwap_136 : decode cX9_bestSwap 136 = .ok (.aload_n 0, 1) := by decide +kernel
theorem dX9_bestSwap_137 : decode cX9_bestSwap 137 = .ok (.getfield 37, 3) := by decide +kernel
theorem dX9_bestSwap_140 : decode cX9_bestSwap 140 = .ok (.getfield 324, 3) := by decide +kernel
theorem dX9_bestSwap_143 : decode cX9_bestSwap 143 = .ok (.iload_n 1, 1) := by decide +kernel
theorem dX9_bestSwap_144 : decode cX9_bestSwap 144 = .ok (.if_icmp .ge 19, 3) := by decide +kernel
theorem dX9_bestSwap_147 : decode cX9_bestSwap 147 = .ok (.bipush 100, 2) := by decide +kernel
theorem dX9_bestSwap_149 : decode cX9_bestSwap 149 = .ok (.iload_n 3, 1) := by decide +kernel
theorem dX9_bestSwap_150 : decode cX9_bestSwap 150 = .ok (.imul, 1) := by decide +kernel
theorem dX9_bestSwap_151 : decode cX9_bestSwap 151 = .ok (.iload 4, 2) := by decide +kernel
theorem dX9_bestSwap_153 : decode cX9_bestSwap 153 = .ok (.iadd, 1) := by decide +kernel
theorem dX9_bestSwap_154 : decode cX9_bestSwap 154 = .ok (.istore_n 2, 1) := by decide +kernel
theorem dX9_bestSwap_155 : decode cX9_bestSwap 155 = .ok (.aload_n 0, 1) := by decide +kernel
theorem dX9_bestSwap_156 : decode cX9_bestSwap 156 = .ok (.getfield 37, 3) := by decide +kernel
theorem dX9_bestSwap_159 : decode cX9_bestSwap 159 = .ok (.getfield 324, 3) := by decide +kernel
theorem dX9_bestSwap_162 : decode cX9_bestSwap 162 = .ok (.istore_n 1, 1) := by decide +kernel
theorem dX9_bestSwap_163 : decode cX9_bestSwap 163 = .ok (.iinc 4 1, 3) := by decide +kernel
theorem dX9_bestSwap_166 : decode cX9_bestSwap 166 = .ok (.goto (-117), 3) := by decide +kernel
theorem dX9_bestSwap_169 : decode cX9_bestSwap 169 = .ok (.iinc 3 1, 3) := by decide +kernel
theorem dX9_bestSwap_172 : decode cX9_bestSwap 172 = .ok (.goto (-139), 3) := by decide +kernel
theorem dX9_bestSwap_175 : decode cX9_bestSwap 175 = .ok (.iload_n 2, 1) := by decide +kernel
theorem dX9_bestSwap_176 : decode cX9_bestSwap 176 = .ok (.ireturn, 1) := by decide +kernel
theorem dX9_changesAhead_0 : decode cX9_changesAhead 0 = .ok (.aload_n 0, 1) := by decide +kernel
theorem dX9_changesAhead_1 : decode cX9_changesAhead 1 = .ok (.getfield 37, 3) := by decide +kernel
theorem dX9_changesAhead_4 : decode cX9_changesAhead 4 = .ok (.invokevirtual 318, 3) := by decide +kernel
theorem dX9_changesAhead_7 : decode cX9_changesAhead 7 = .ok (.aload_n 0, 1) := by decide +kernel
theorem dX9_changesAhead_8 : decode cX9_changesAhead 8 = .ok (.getfield 37, 3) := by decide +kernel
theorem dX9_changesAhead_11 : decode cX9_changesAhead 11 = .ok (.invokevirtual 321, 3) := by decide +kernel
theorem dX9_changesAhead_14 : decode cX9_changesAhead 14 = .ok (.aload_n 0, 1) := by decide +kernel
theorem dX9_changesAhead_15 : decode cX9_changesAhead 15 = .ok (.getfield 29, 3) := by decide +kernel
theorem dX9_changesAhead_18 : decode cX9_changesAhead 18 = .ok (.getfield 168, 3) := by decide +kernel
theorem dX9_changesAhead_21 : decode cX9_changesAhead 21 = .ok (.getfield 302, 3) := by decide +kernel
theorem dX9_changesAhead_24 : decode cX9_changesAhead 24 = .ok (.iconst 1, 1) := by decide +kernel
theorem dX9_changesAhead_25 : decode cX9_changesAhead 25 = .ok (.iaload, 1) := by decide +kernel
theorem dX9_changesAhead_26 : decode cX9_changesAhead 26 = .ok (.aload_n 0, 1) := by decide +kernel
theorem dX9_changesAhead_27 : decode cX9_changesAhead 27 = .ok (.getfield 16, 3) := by decide +kernel
theorem dX9_changesAhead_30 : decode cX9_changesAhead 30 = .ok (.getfield 168, 3) := by decide +kernel
theorem dX9_changesAhead_33 : decode cX9_changesAhead 33 = .ok (.getfield 302, 3) := by decide +kernel
theorem dX9_changesAhead_36 : decode cX9_changesAhead 36 = .ok (.iconst 1, 1) := by decide +kernel
theorem dX9_changesAhead_37 : decode cX9_changesAhead 37 = .ok (.iaload, 1) := by decide +kernel
theorem dX9_changesAhead_38 : decode cX9_changesAhead 38 = .ok (.isub, 1) := by decide +kernel
theorem dX9_changesAhead_39 : decode cX9_changesAhead 39 = .ok (.ireturn, 1) := by decide +kernel
theorem dX9_cleansAhead_0 : decode cX9_cleansAhead 0 = .ok (.aload_n 0, 1) := by decide +kernel
theorem dX9_cleansAhead_1 : decode cX9_cleansAhead 1 = .ok (.getfield 37, 3) := by decide +kernel
theorem dX9_cleansAhead_4 : decode cX9_cleansAhead 4 = .ok (.invokevirtual 318, 3) := by decide +kernel
theorem dX9_cleansAhead_7 : decode cX9_cleansAhead 7 = .ok (.aload_n 0, 1) := by decide +kernel
theorem dX9_cleansAhead_8 : decode cX9_cleansAhead 8 = .ok (.getfield 37, 3) := by decide +kernel
theorem dX9_cleansAhead_11 : decode cX9_cleansAhead 11 = .ok (.invokevirtual 321, 3) := by decide +kernel
theorem dX9_cleansAhead_14 : decode cX9_cleansAhead 14 = .ok (.aload_n 0, 1) := by decide +kernel
theorem dX9_cleansAhead_15 : decode cX9_cleansAhead 15 = .ok (.getfield 29, 3) := by decide +kernel
theorem dX9_cleansAhead_18 : decode cX9_cleansAhead 18 = .ok (.getfield 168, 3) := by decide +kernel
theorem dX9_cleansAhead_21 : decode cX9_cleansAhead 21 = .ok (.getfield 302, 3) := by decide +kernel
theorem dX9_cleansAhead_24 : decode cX9_cleansAhead 24 = .ok (.bipush 6, 2) := by decide +kernel
theorem dX9_cleansAhead_26 : decode cX9_cleansAhead 26 = .ok (.iaload, 1) := by decide +kernel
theorem dX9_cleansAhead_27 : decode cX9_cleansAhead 27 = .ok (.aload_n 0, 1) := by decide +kernel
theorem dX9_cleansAhead_28 : decode cX9_cleansAhead 28 = .ok (.getfield 16, 3) := by decide +kernel
theorem dX9_cleansAhead_31 : decode cX9_cleansAhead 31 = .ok (.getfield 168, 3) := by decide +kernel
theorem dX9_cleansAhead_34 : decode cX9_cleansAhead 34 = .ok (.getfield 302, 3) := by decide +kernel
theorem dX9_cleansAhead_37 : decode cX9_cleansAhead 37 = .ok (.bipush 6, 2) := by decide +kernel
theorem dX9_cleansAhead_39 : decode cX9_cleansAhead 39 = .ok (.iaload, 1) := by decide +kernel
theorem dX9_cleansAhead_40 : decode cX9_cleansAhead 40 = .ok (.isub, 1) := by decide +kernel
theorem dX9_cleansAhead_41 : decode cX9_cleansAhead 41 = .ok (.ireturn, 1) := by decide +kernel
theorem dX9_saveSnapshot_0 : decode cX9_saveSnapshot 0 = .ok (.iload_n 1, 1) := by decide +kernel
theorem dX9_saveSnapshot_1 : decode cX9_saveSnapshot 1 = .ok (.iconst 0, 1) := by decide +kernel
theorem dX9_saveSnapshot_2 : decode cX9_saveSnapshot 2 = .ok (.iconst 1, 1) := by decide +kernel
theorem dX9_saveSnapshot_3 : decode cX9_saveSnapshot 3 = .ok (.invokestatic 113, 3) := by decide +kernel
theorem dX9_saveSnapshot_6 : decode cX9_saveSnapshot 6 = .ok (.aload_n 0, 1) := by decide +kernel
theorem dX9_saveSnapshot_7 : decode cX9_saveSnapshot 7 = .ok (.getfield 50, 3) := by decide +kernel
theorem dX9_saveSnapshot_10 : decode cX9_saveSnapshot 10 = .ok (.iload_n 1, 1) := by decide +kernel
theorem dX9_saveSnapshot_11 : decode cX9_saveSnapshot 11 = .ok (.aaload, 1) := by decide +kernel
theorem dX9_saveSnapshot_12 : decode cX9_saveSnapshot 12 = .ok (.aload_n 0, 1) := by decide +kernel
theorem dX9_saveSnapshot_13 : decode cX9_saveSnapshot 13 = .ok (.getfield 16, 3) := by decide +kernel
theorem dX9_saveSnapshot_16 : decode cX9_saveSnapshot 16 = .ok (.invokevirtual 75, 3) := by decide +kernel
theorem dX9_saveSnapshot_19 : decode cX9_saveSnapshot 19 = .ok (.aload_n 0, 1) := by decide +kernel
theorem dX9_saveSnapshot_20 : decode cX9_saveSnapshot 20 = .ok (.getfield 54, 3) := by decide +kernel
theorem dX9_saveSnapshot_23 : decode cX9_saveSnapshot 23 = .ok (.iload_n 1, 1) := by decide +kernel
theorem dX9_saveSnapshot_24 : decode cX9_saveSnapshot 24 = .ok (.iconst 1, 1) := by decide +kernel
theorem dX9_saveSnapshot_25 : decode cX9_saveSnapshot 25 = .ok (.bastore, 1) := by decide +kernel
theorem dX9_saveSnapshot_26 : decode cX9_saveSnapshot 26 = .ok (.aload_n 0, 1) := by decide +kernel
theorem dX9_saveSnapshot_27 : decode cX9_saveSnapshot 27 = .ok (.getfield 16, 3) := by decide +kernel
theorem dX9_saveSnapshot_30 : decode cX9_saveSnapshot 30 = .ok (.getfield 295, 3) := by decide +kernel
theorem dX9_saveSnapshot_33 : decode cX9_saveSnapshot 33 = .ok (.ireturn, 1) := by decide +kernel
theorem dX9_restoreSnapshot_0 : decode cX9_restoreSnapshot 0 = .ok (.iload_n 1, 1) := by decide +kernel
theorem dX9_restoreSnapshot_1 : decode cX9_restoreSnapshot 1 = .ok (.iconst 0, 1) := by decide +kernel
theorem dX9_restoreSnapshot_2 : decode cX9_restoreSnapshot 2 = .ok (.iconst 1, 1) := by decide +kernel
theorem dX9_restoreSnapshot_3 : decode cX9_restoreSnapshot 3 = .ok (.invokestatic 113, 3) := by decide +kernel
theorem dX9_restoreSnapshot_6 : decode cX9_restoreSnapshot 6 = .ok (.aload_n 0, 1) := by decide +kernel
theorem dX9_restoreSnapshot_7 : decode cX9_restoreSnapshot 7 = .ok (.getfield 54, 3) := by decide +kernel
theorem dX9_restoreSnapshot_10 : decode cX9_restoreSnapshot 10 = .ok (.iload_n 1, 1) := by decide +kernel
theorem dX9_restoreSnapshot_11 : decode cX9_restoreSnapshot 11 = .ok (.baload, 1) := by decide +kernel
theorem dX9_restoreSnapshot_12 : decode cX9_restoreSnapshot 12 = .ok (.ifCond .ne 5, 3) := by decide +kernel
theorem dX9_restoreSnapshot_15 : decode cX9_restoreSnapshot 15 = .ok (.iconst (-1), 1) := by decide +kernel
theorem dX9_restoreSnapshot_16 : decode cX9_restoreSnapshot 16 = .ok (.ireturn, 1) := by decide +kernel
theorem dX9_restoreSnapshot_17 : decode cX9_restoreSnapshot 17 = .ok (.aload_n 0, 1) := by decide +kernel
theorem dX9_restoreSnapshot_18 : decode cX9_restoreSnapshot 18 = .ok (.getfield 16, 3) := by decide +kernel
theorem dX9_restoreSnapshot_21 : decode cX9_restoreSnapshot 21 = .ok (.aload_n 0, 1) := by decide +kernel
theorem dX9_restoreSnapshot_22 : decode cX9_restoreSnapshot 22 = .ok (.getfield 50, 3) := by decide +kernel
theorem dX9_restoreSnapshot_25 : decode cX9_restoreSnapshot 25 = .ok (.iload_n 1, 1) := by decide +kernel
theorem dX9_restoreSnapshot_26 : decode cX9_restoreSnapshot 26 = .ok (.aaload, 1) := by decide +kernel
theorem dX9_restoreSnapshot_27 : decode cX9_restoreSnapshot 27 = .ok (.invokevirtual 75, 3) := by decide +kernel
theorem dX9_restoreSnapshot_30 : decode cX9_restoreSnapshot 30 = .ok (.aload_n 0, 1) := by decide +kernel
theorem dX9_restoreSnapshot_31 : decode cX9_restoreSnapshot 31 = .ok (.getfield 16, 3) := by decide +kernel
theorem dX9_restoreSnapshot_34 : decode cX9_restoreSnapshot 34 = .ok (.getfield 295, 3) := by decide +kernel
theorem dX9_restoreSnapshot_37 : decode cX9_restoreSnapshot 37 = .ok (.ireturn, 1) := by decide +kernel
theorem dX9_requireIndex_0 : decode cX9_requireIndex 0 = .ok (.iload_n 0, 1) := by decide +kernel
theorem dX9_requireIndex_1 : decode cX9_requireIndex 1 = .ok (.ifCond .lt 8, 3) := by decide +kernel
theorem dX9_requireIndex_4 : decode cX9_requireIndex 4 = .ok (.iload_n 0, 1) := by decide +kernel
theorem dX9_requireIndex_5 : decode cX9_requireIndex 5 = .ok (.iload_n 1, 1) := by decide +kernel
theorem dX9_requireIndex_6 : decode cX9_requireIndex 6 = .ok (.if_icmp .lt 14, 3) := by decide +kernel
theorem dX9_requireIndex_9 : decode cX9_requireIndex 9 = .ok (.new 350, 3) := by decide +kernel
theorem dX9_requireIndex_12 : decode cX9_requireIndex 12 = .ok (.dup, 1) := by decide +kernel
theorem dX9_requireIndex_13 : decode cX9_requireIndex 13 = .ok (.ldc_w 352, 3) := by decide +kernel
theorem dX9_requireIndex_16 : decode cX9_requireIndex 16 = .ok (.invokespecial 354, 3) := by decide +kernel
theorem dX9_requireIndex_19 : decode cX9_requireIndex 19 = .ok (.athrow, 1) := by decide +kernel
theorem dX9_requireIndex_20 : decode cX9_requireIndex 20 = .ok (.return_, 1) := by decide +kernel
theorem dX9_requireRange_0 : decode cX9_requireRange 0 = .ok (.iload_n 0, 1) := by decide +kernel
theorem dX9_requireRange_1 : decode cX9_requireRange 1 = .ok (.iload_n 1, 1) := by decide +kernel
theorem dX9_requireRange_2 : decode cX9_requireRange 2 = .ok (.if_icmp .lt 8, 3) := by decide +kernel
theorem dX9_requireRange_5 : decode cX9_requireRange 5 = .ok (.iload_n 0, 1) := by decide +kernel
theorem dX9_requireRange_6 : decode cX9_requireRange 6 = .ok (.iload_n 2, 1) := by decide +kernel
theorem dX9_requireRange_7 : decode cX9_requireRange 7 = .ok (.if_icmp .le 14, 3) := by decide +kernel
theorem dX9_requireRange_10 : decode cX9_requireRange 10 = .ok (.new 106, 3) := by decide +kernel
theorem dX9_requireRange_13 : decode cX9_requireRange 13 = .ok (.dup, 1) := by decide +kernel
theorem dX9_requireRange_14 : decode cX9_requireRange 14 = .ok (.ldc_w 355, 3) := by decide +kernel
theorem dX9_requireRange_17 : decode cX9_requireRange 17 = .ok (.invokespecial 110, 3) := by decide +kernel
theorem dX9_requireRange_20 : decode cX9_requireRange 20 = .ok (.athrow, 1) := by decide +kernel
theorem dX9_requireRange_21 : decode cX9_requireRange 21 = .ok (.return_, 1) := by decide +kernel
theorem dX9_perMille_0 : decode cX9_perMille 0 = .ok (.iload_n 1, 1) := by decide +kernel
theorem dX9_perMille_1 : decode cX9_perMille 1 = .ok (.ifCond .ne 7, 3) := by decide +kernel
theorem dX9_perMille_4 : decode cX9_perMille 4 = .ok (.iconst (-1), 1) := by decide +kernel
theorem dX9_perMille_5 : decode cX9_perMille 5 = .ok (.goto 13, 3) := by decide +kernel
theorem dX9_perMille_8 : decode cX9_perMille 8 = .ok (.ldc2_w 357, 3) := by decide +kernel
theorem dX9_perMille_11 : decode cX9_perMille 11 = .ok (.iload_n 0, 1) := by decide +kernel
theorem dX9_perMille_12 : decode cX9_perMille 12 = .ok (.i2l, 1) := by decide +kernel
theorem dX9_perMille_13 : decode cX9_perMille 13 = .ok (.lmul, 1) := by decide +kernel
theorem dX9_perMille_14 : decode cX9_perMille 14 = .ok (.iload_n 1, 1) := by decide +kernel
theorem dX9_perMille_15 : decode cX9_perMille 15 = .ok (.i2l, 1) := by decide +kernel
theorem dX9_perMille_16 : decode cX9_perMille 16 = .ok (.ldiv, 1) := by decide +kernel
theorem dX9_perMille_17 : decode cX9_perMille 17 = .ok (.l2i, 1) := by decide +kernel
theorem dX9_perMille_18 : decode cX9_perMille 18 = .ok (.ireturn, 1) := by decide +kernel
theorem dX9_codeOf_0 : decode cX9_codeOf 0 = .ok (.sipush 10000, 3) := by decide +kernel
theorem dX9_codeOf_3 : decode cX9_codeOf 3 = .ok (.iload_n 0, 1) := by decide +kernel
theorem dX9_codeOf_4 : decode cX9_codeOf 4 = .ok (.imul, 1) := by decide +kernel
theorem dX9_codeOf_5 : decode cX9_codeOf 5 = .ok (.bipush 100, 2) := by decide +kernel
theorem dX9_codeOf_7 : decode cX9_codeOf 7 = .ok (.iload_n 1, 1) := by decide +kernel
theorem dX9_codeOf_8 : decode cX9_codeOf 8 = .ok (.imul, 1) := by decide +kernel
theorem dX9_codeOf_9 : decode cX9_codeOf 9 = .ok (.iadd, 1) := by decide +kernel
theorem dX9_codeOf_10 : decode cX9_codeOf 10 = .ok (.iload_n 2, 1) := by decide +kernel
theorem dX9_codeOf_11 : decode cX9_codeOf 11 = .ok (.iadd, 1) := by decide +kernel
theorem dX9_codeOf_12 : decode cX9_codeOf 12 = .ok (.ireturn, 1) := by decide +kernel
theorem dJ13_bitCount_95d88_0 : decode cJ13_bitCount_95d88 0 = .ok (.lload_n 0, 1) := by decide +kernel
theorem dJ13_bitCount_95d88_1 : decode cJ13_bitCount_95d88 1 = .ok (.lload_n 0, 1) := by decide +kernel
theorem dJ13_bitCount_95d88_2 : decode cJ13_bitCount_95d88 2 = .ok (.iconst 1, 1) := by decide +kernel
theorem dJ13_bitCount_95d88_3 : decode cJ13_bitCount_95d88 3 = .ok (.lushr, 1) := by decide +kernel
theorem dJ13_bitCount_95d88_4 : decode cJ13_bitCount_95d88 4 = .ok (.ldc2_w 314, 3) := by decide +kernel
theorem dJ13_bitCount_95d88_7 : decode cJ13_bitCount_95d88 7 = .ok (.land, 1) := by decide +kernel
theorem dJ13_bitCount_95d88_8 : decode cJ13_bitCount_95d88 8 = .ok (.lsub, 1) := by decide +kernel
theorem dJ13_bitCount_95d88_9 : decode cJ13_bitCount_95d88 9 = .ok (.lstore_n 0, 1) := by decide +kernel
theorem dJ13_bitCount_95d88_10 : decode cJ13_bitCount_95d88 10 = .ok (.lload_n 0, 1) := by decide +kernel
theorem dJ13_bitCount_95d88_11 : decode cJ13_bitCount_95d88 11 = .ok (.ldc2_w 316, 3) := by decide +kernel
theorem dJ13_bitCount_95d88_14 : decode cJ13_bitCount_95d88 14 = .ok (.land, 1) := by decide +kernel
theorem dJ13_bitCount_95d88_15 : decode cJ13_bitCount_95d88 15 = .ok (.lload_n 0, 1) := by decide +kernel
theorem dJ13_bitCount_95d88_16 : decode cJ13_bitCount_95d88 16 = .ok (.iconst 2, 1) := by decide +kernel
theorem dJ13_bitCount_95d88_17 : decode cJ13_bitCount_95d88 17 = .ok (.lushr, 1) := by decide +kernel
theorem dJ13_bitCount_95d88_18 : decode cJ13_bitCount_95d88 18 = .ok (.ldc2_w 316, 3) := by decide +kernel
theorem dJ13_bitCount_95d88_21 : decode cJ13_bitCount_95d88 21 = .ok (.land, 1) := by decide +kernel
theorem dJ13_bitCount_95d88_22 : decode cJ13_bitCount_95d88 22 = .ok (.ladd, 1) := by decide +kernel
theorem dJ13_bitCount_95d88_23 : decode cJ13_bitCount_95d88 23 = .ok (.lstore_n 0, 1) := by decide +kernel
theorem dJ13_bitCount_95d88_24 : decode cJ13_bitCount_95d88 24 = .ok (.lload_n 0, 1) := by decide +kernel
theorem dJ13_bitCount_95d88_25 : decode cJ13_bitCount_95d88 25 = .ok (.lload_n 0, 1) := by decide +kernel
theorem dJ13_bitCount_95d88_26 : decode cJ13_bitCount_95d88 26 = .ok (.iconst 4, 1) := by decide +kernel
theorem dJ13_bitCount_95d88_27 : decode cJ13_bitCount_95d88 27 = .ok (.lushr, 1) := by decide +kernel
theorem dJ13_bitCount_95d88_28 : decode cJ13_bitCount_95d88 28 = .ok (.ladd, 1) := by decide +kernel
theorem dJ13_bitCount_95d88_29 : decode cJ13_bitCount_95d88 29 = .ok (.ldc2_w 318, 3) := by decide +kernel
theorem dJ13_bitCount_95d88_32 : decode cJ13_bitCount_95d88 32 = .ok (.land, 1) := by decide +kernel
theorem dJ13_bitCount_95d88_33 : decode cJ13_bitCount_95d88 33 = .ok (.lstore_n 0, 1) := by decide +kernel
theorem dJ13_bitCount_95d88_34 : decode cJ13_bitCount_95d88 34 = .ok (.lload_n 0, 1) := by decide +kernel
theorem dJ13_bitCount_95d88_35 : decode cJ13_bitCount_95d88 35 = .ok (.lload_n 0, 1) := by decide +kernel
theorem dJ13_bitCount_95d88_36 : decode cJ13_bitCount_95d88 36 = .ok (.bipush 8, 2) := by decide +kernel
theorem dJ13_bitCount_95d88_38 : decode cJ13_bitCount_95d88 38 = .ok (.lushr, 1) := by decide +kernel
theorem dJ13_bitCount_95d88_39 : decode cJ13_bitCount_95d88 39 = .ok (.ladd, 1) := by decide +kernel
theorem dJ13_bitCount_95d88_40 : decode cJ13_bitCount_95d88 40 = .ok (.lstore_n 0, 1) := by decide +kernel
theorem dJ13_bitCount_95d88_41 : decode cJ13_bitCount_95d88 41 = .ok (.lload_n 0, 1) := by decide +kernel
theorem dJ13_bitCount_95d88_42 : decode cJ13_bitCount_95d88 42 = .ok (.lload_n 0, 1) := by decide +kernel
theorem dJ13_bitCount_95d88_43 : decode cJ13_bitCount_95d88 43 = .ok (.bipush 16, 2) := by decide +kernel
theorem dJ13_bitCount_95d88_45 : decode cJ13_bitCount_95d88 45 = .ok (.lushr, 1) := by decide +kernel
theorem dJ13_bitCount_95d88_46 : decode cJ13_bitCount_95d88 46 = .ok (.ladd, 1) := by decide +kernel
theorem dJ13_bitCount_95d88_47 : decode cJ13_bitCount_95d88 47 = .ok (.lstore_n 0, 1) := by decide +kernel
theorem dJ13_bitCount_95d88_48 : decode cJ13_bitCount_95d88 48 = .ok (.lload_n 0, 1) := by decide +kernel
theorem dJ13_bitCount_95d88_49 : decode cJ13_bitCount_95d88 49 = .ok (.lload_n 0, 1) := by decide +kernel
theorem dJ13_bitCount_95d88_50 : decode cJ13_bitCount_95d88 50 = .ok (.bipush 32, 2) := by decide +kernel
theorem dJ13_bitCount_95d88_52 : decode cJ13_bitCount_95d88 52 = .ok (.lushr, 1) := by decide +kernel
theorem dJ13_bitCount_95d88_53 : decode cJ13_bitCount_95d88 53 = .ok (.ladd, 1) := by decide +kernel
theorem dJ13_bitCount_95d88_54 : decode cJ13_bitCount_95d88 54 = .ok (.lstore_n 0, 1) := by decide +kernel
theorem dJ13_bitCount_95d88_55 : decode cJ13_bitCount_95d88 55 = .ok (.lload_n 0, 1) := by decide +kernel
theorem dJ13_bitCount_95d88_56 : decode cJ13_bitCount_95d88 56 = .ok (.l2i, 1) := by decide +kernel
theorem dJ13_bitCount_95d88_57 : decode cJ13_bitCount_95d88 57 = .ok (.bipush 127, 2) := by decide +kernel
theorem dJ13_bitCount_95d88_59 : decode cJ13_bitCount_95d88 59 = .ok (.iand, 1) := by decide +kernel
theorem dJ13_bitCount_95d88_60 : decode cJ13_bitCount_95d88 60 = .ok (.ireturn, 1) := by decide +kernel
theorem dJ9_abs_0f7a4_0 : decode cJ9_abs_0f7a4 0 = .ok (.iload_n 0, 1) := by decide +kernel
theorem dJ9_abs_0f7a4_1 : decode cJ9_abs_0f7a4 1 = .ok (.ifCond .ge 8, 3) := by decide +kernel
theorem dJ9_abs_0f7a4_4 : decode cJ9_abs_0f7a4 4 = .ok (.iload_n 0, 1) := by decide +kernel
theorem dJ9_abs_0f7a4_5 : decode cJ9_abs_0f7a4 5 = .ok (.ineg, 1) := by decide +kernel
theorem dJ9_abs_0f7a4_6 : decode cJ9_abs_0f7a4 6 = .ok (.goto 4, 3) := by decide +kernel
theorem dJ9_abs_0f7a4_9 : decode cJ9_abs_0f7a4 9 = .ok (.iload_n 0, 1) := by decide +kernel
theorem dJ9_abs_0f7a4_10 : decode cJ9_abs_0f7a4 10 = .ok (.ireturn, 1) := by decide +kernel
theorem dJ9_max_7cf53_0 : decode cJ9_max_7cf53 0 = .ok (.iload_n 0, 1) := by decide +kernel
theorem dJ9_max_7cf53_1 : decode cJ9_max_7cf53 1 = .ok (.iload_n 1, 1) := by decide +kernel
theorem dJ9_max_7cf53_2 : decode cJ9_max_7cf53 2 = .ok (.if_icmp .lt 7, 3) := by decide +kernel
theorem dJ9_max_7cf53_5 : decode cJ9_max_7cf53 5 = .ok (.iload_n 0, 1) := by decide +kernel
theorem dJ9_max_7cf53_6 : decode cJ9_max_7cf53 6 = .ok (.goto 4, 3) := by decide +kernel
theorem dJ9_max_7cf53_9 : decode cJ9_max_7cf53 9 = .ok (.iload_n 1, 1) := by decide +kernel
theorem dJ9_max_7cf53_10 : decode cJ9_max_7cf53 10 = .ok (.ireturn, 1) := by decide +kernel
theorem dJ9_max_f86c9_0 : decode cJ9_max_f86c9 0 = .ok (.lload_n 0, 1) := by decide +kernel
theorem dJ9_max_f86c9_1 : decode cJ9_max_f86c9 1 = .ok (.lload_n 2, 1) := by decide +kernel
theorem dJ9_max_f86c9_2 : decode cJ9_max_f86c9 2 = .ok (.lcmp, 1) := by decide +kernel
theorem dJ9_max_f86c9_3 : decode cJ9_max_f86c9 3 = .ok (.ifCond .lt 7, 3) := by decide +kernel
theorem dJ9_max_f86c9_6 : decode cJ9_max_f86c9 6 = .ok (.lload_n 0, 1) := by decide +kernel
theorem dJ9_max_f86c9_7 : decode cJ9_max_f86c9 7 = .ok (.goto 4, 3) := by decide +kernel
theorem dJ9_max_f86c9_10 : decode cJ9_max_f86c9 10 = .ok (.lload_n 2, 1) := by decide +kernel
theorem dJ9_max_f86c9_11 : decode cJ9_max_f86c9 11 = .ok (.lreturn, 1) := by decide +kernel
theorem dJ9_min_7cf53_0 : decode cJ9_min_7cf53 0 = .ok (.iload_n 0, 1) := by decide +kernel
theorem dJ9_min_7cf53_1 : decode cJ9_min_7cf53 1 = .ok (.iload_n 1, 1) := by decide +kernel
theorem dJ9_min_7cf53_2 : decode cJ9_min_7cf53 2 = .ok (.if_icmp .gt 7, 3) := by decide +kernel
theorem dJ9_min_7cf53_5 : decode cJ9_min_7cf53 5 = .ok (.iload_n 0, 1) := by decide +kernel
theorem dJ9_min_7cf53_6 : decode cJ9_min_7cf53 6 = .ok (.goto 4, 3) := by decide +kernel
theorem dJ9_min_7cf53_9 : decode cJ9_min_7cf53 9 = .ok (.iload_n 1, 1) := by decide +kernel
theorem dJ9_min_7cf53_10 : decode cJ9_min_7cf53 10 = .ok (.ireturn, 1) := by decide +kernel
theorem dJ9_min_f86c9_0 : decode cJ9_min_f86c9 0 = .ok (.lload_n 0, 1) := by decide +kernel
theorem dJ9_min_f86c9_1 : decode cJ9_min_f86c9 1 = .ok (.lload_n 2, 1) := by decide +kernel
theorem dJ9_min_f86c9_2 : decode cJ9_min_f86c9 2 = .ok (.lcmp, 1) := by decide +kernel
theorem dJ9_min_f86c9_3 : decode cJ9_min_f86c9 3 = .ok (.ifCond .gt 7, 3) := by decide +kernel
theorem dJ9_min_f86c9_6 : decode cJ9_min_f86c9 6 = .ok (.lload_n 0, 1) := by decide +kernel
theorem dJ9_min_f86c9_7 : decode cJ9_min_f86c9 7 = .ok (.goto 4, 3) := by decide +kernel
theorem dJ9_min_f86c9_10 : decode cJ9_min_f86c9 10 = .ok (.lload_n 2, 1) := by decide +kernel
theorem dJ9_min_f86c9_11 : decode cJ9_min_f86c9 11 = .ok (.lreturn, 1) := by decide +kernel
theorem dJ0_length_8abf5_0 : decode cJ0_length_8abf5 0 = .ok (.aload_n 0, 1) := by decide +kernel
theorem dJ0_length_8abf5_1 : decode cJ0_length_8abf5 1 = .ok (.getfield 9, 3) := by decide +kernel
theorem dJ0_length_8abf5_4 : decode cJ0_length_8abf5 4 = .ok (.arraylength, 1) := by decide +kernel
theorem dJ0_length_8abf5_5 : decode cJ0_length_8abf5 5 = .ok (.aload_n 0, 1) := by decide +kernel
theorem dJ0_length_8abf5_6 : decode cJ0_length_8abf5 6 = .ok (.invokevirtual 335, 3) := by decide +kernel
theorem dJ0_length_8abf5_9 : decode cJ0_length_8abf5 9 = .ok (.ishr, 1) := by decide +kernel
theorem dJ0_length_8abf5_10 : decode cJ0_length_8abf5 10 = .ok (.ireturn, 1) := by decide +kernel
theorem dJ0_charAt_5068e_0 : decode cJ0_charAt_5068e 0 = .ok (.aload_n 0, 1) := by decide +kernel
theorem dJ0_charAt_5068e_1 : decode cJ0_charAt_5068e 1 = .ok (.invokevirtual 492, 3) := by decide +kernel
theorem dJ0_charAt_5068e_4 : decode cJ0_charAt_5068e 4 = .ok (.ifCond .eq 12, 3) := by decide +kernel
theorem dJ0_charAt_5068e_7 : decode cJ0_charAt_5068e 7 = .ok (.aload_n 0, 1) := by decide +kernel
theorem dJ0_charAt_5068e_8 : decode cJ0_charAt_5068e 8 = .ok (.getfield 9, 3) := by decide +kernel
theorem dJ0_charAt_5068e_11 : decode cJ0_charAt_5068e 11 = .ok (.iload_n 1, 1) := by decide +kernel
theorem dJ0_charAt_5068e_12 : decode cJ0_charAt_5068e 12 = .ok (.invokestatic 495, 3) := by decide +kernel
theorem dJ0_charAt_5068e_15 : decode cJ0_charAt_5068e 15 = .ok (.ireturn, 1) := by decide +kernel
theorem dJ0_charAt_5068e_16 : decode cJ0_charAt_5068e 16 = .ok (.aload_n 0, 1) := by decide +kernel
theorem dJ0_charAt_5068e_17 : decode cJ0_charAt_5068e 17 = .ok (.getfield 9, 3) := by decide +kernel
theorem dJ0_charAt_5068e_20 : decode cJ0_charAt_5068e 20 = .ok (.iload_n 1, 1) := by decide +kernel
theorem dJ0_charAt_5068e_21 : decode cJ0_charAt_5068e 21 = .ok (.invokestatic 498, 3) := by decide +kernel
theorem dJ0_charAt_5068e_24 : decode cJ0_charAt_5068e 24 = .ok (.ireturn, 1) := by decide +kernel
theorem dJ0_coder_7d493_0 : decode cJ0_coder_7d493 0 = .ok (.getstatic 38, 3) := by decide +kernel
theorem dJ0_coder_7d493_3 : decode cJ0_coder_7d493 3 = .ok (.ifCond .eq 10, 3) := by decide +kernel
theorem dJ0_coder_7d493_6 : decode cJ0_coder_7d493 6 = .ok (.aload_n 0, 1) := by decide +kernel
theorem dJ0_coder_7d493_7 : decode cJ0_coder_7d493 7 = .ok (.getfield 15, 3) := by decide +kernel
theorem dJ0_coder_7d493_10 : decode cJ0_coder_7d493 10 = .ok (.goto 4, 3) := by decide +kernel
theorem dJ0_coder_7d493_13 : decode cJ0_coder_7d493 13 = .ok (.iconst 1, 1) := by decide +kernel
theorem dJ0_coder_7d493_14 : decode cJ0_coder_7d493 14 = .ok (.ireturn, 1) := by decide +kernel
theorem dJ0_isLatin1_aae02_0 : decode cJ0_isLatin1_aae02 0 = .ok (.getstatic 38, 3) := by decide +kernel
theorem dJ0_isLatin1_aae02_3 : decode cJ0_isLatin1_aae02 3 = .ok (.ifCond .eq 14, 3) := by decide +kernel
theorem dJ0_isLatin1_aae02_6 : decode cJ0_isLatin1_aae02 6 = .ok (.aload_n 0, 1) := by decide +kernel
theorem dJ0_isLatin1_aae02_7 : decode cJ0_isLatin1_aae02 7 = .ok (.getfield 15, 3) := by decide +kernel
theorem dJ0_isLatin1_aae02_10 : decode cJ0_isLatin1_aae02 10 = .ok (.ifCond .ne 7, 3) := by decide +kernel
theorem dJ0_isLatin1_aae02_13 : decode cJ0_isLatin1_aae02 13 = .ok (.iconst 1, 1) := by decide +kernel
theorem dJ0_isLatin1_aae02_14 : decode cJ0_isLatin1_aae02 14 = .ok (.goto 4, 3) := by decide +kernel
theorem dJ0_isLatin1_aae02_17 : decode cJ0_isLatin1_aae02 17 = .ok (.iconst 0, 1) := by decide +kernel
theorem dJ0_isLatin1_aae02_18 : decode cJ0_isLatin1_aae02 18 = .ok (.ireturn, 1) := by decide +kernel
theorem dJ0_checkIndex_df160_0 : decode cJ0_checkIndex_df160 0 = .ok (.iload_n 0, 1) := by decide +kernel
theorem dJ0_checkIndex_df160_1 : decode cJ0_checkIndex_df160 1 = .ok (.iload_n 1, 1) := by decide +kernel
theorem dJ0_checkIndex_df160_2 : decode cJ0_checkIndex_df160 2 = .ok (.getstatic 1053, 3) := by decide +kernel
theorem dJ0_checkIndex_df160_5 : decode cJ0_checkIndex_df160 5 = .ok (.invokestatic 1059, 3) := by decide +kernel
theorem dJ0_checkIndex_df160_8 : decode cJ0_checkIndex_df160 8 = .ok (.pop, 1) := by decide +kernel
theorem dJ0_checkIndex_df160_9 : decode cJ0_checkIndex_df160 9 = .ok (.return_, 1) := by decide +kernel
theorem dJ1_charAt_3b067_0 : decode cJ1_charAt_3b067 0 = .ok (.iload_n 1, 1) := by decide +kernel
theorem dJ1_charAt_3b067_1 : decode cJ1_charAt_3b067 1 = .ok (.aload_n 0, 1) := by decide +kernel
theorem dJ1_charAt_3b067_2 : decode cJ1_charAt_3b067 2 = .ok (.arraylength, 1) := by decide +kernel
theorem dJ1_charAt_3b067_3 : decode cJ1_charAt_3b067 3 = .ok (.invokestatic 9, 3) := by decide +kernel
theorem dJ1_charAt_3b067_6 : decode cJ1_charAt_3b067 6 = .ok (.aload_n 0, 1) := by decide +kernel
theorem dJ1_charAt_3b067_7 : decode cJ1_charAt_3b067 7 = .ok (.iload_n 1, 1) := by decide +kernel
theorem dJ1_charAt_3b067_8 : decode cJ1_charAt_3b067 8 = .ok (.baload, 1) := by decide +kernel
theorem dJ1_charAt_3b067_9 : decode cJ1_charAt_3b067 9 = .ok (.sipush 255, 3) := by decide +kernel
theorem dJ1_charAt_3b067_12 : decode cJ1_charAt_3b067 12 = .ok (.iand, 1) := by decide +kernel
theorem dJ1_charAt_3b067_13 : decode cJ1_charAt_3b067 13 = .ok (.i2c, 1) := by decide +kernel
theorem dJ1_charAt_3b067_14 : decode cJ1_charAt_3b067 14 = .ok (.ireturn, 1) := by decide +kernel
theorem dJ2_getChar_3b067_0 : decode cJ2_getChar_3b067 0 = .ok (.getstatic 44, 3) := by decide +kernel
theorem dJ2_getChar_3b067_3 : decode cJ2_getChar_3b067 3 = .ok (.ifCond .ne 25, 3) := by decide +kernel
theorem dJ2_getChar_3b067_6 : decode cJ2_getChar_3b067 6 = .ok (.iload_n 1, 1) := by decide +kernel
theorem dJ2_getChar_3b067_7 : decode cJ2_getChar_3b067 7 = .ok (.ifCond .lt 11, 3) := by decide +kernel
theorem dJ2_getChar_3b067_10 : decode cJ2_getChar_3b067 10 = .ok (.iload_n 1, 1) := by decide +kernel
theorem dJ2_getChar_3b067_11 : decode cJ2_getChar_3b067 11 = .ok (.aload_n 0, 1) := by decide +kernel
theorem dJ2_getChar_3b067_12 : decode cJ2_getChar_3b067 12 = .ok (.invokestatic 48, 3) := by decide +kernel
theorem dJ2_getChar_3b067_15 : decode cJ2_getChar_3b067 15 = .ok (.if_icmp .lt 13, 3) := by decide +kernel
theorem dJ2_getChar_3b067_18 : decode cJ2_getChar_3b067 18 = .ok (.new 52, 3) := by decide +kernel
theorem dJ2_getChar_3b067_21 : decode cJ2_getChar_3b067 21 = .ok (.dup, 1) := by decide +kernel
theorem dJ2_getChar_3b067_22 : decode cJ2_getChar_3b067 22 = .ok (.ldc 54, 2) := by decide +kernel
theorem dJ2_getChar_3b067_24 : decode cJ2_getChar_3b067 24 = .ok (.invokespecial 56, 3) := by decide +kernel
theorem dJ2_getChar_3b067_27 : decode cJ2_getChar_3b067 27 = .ok (.athrow, 1) := by decide +kernel
theorem dJ2_getChar_3b067_28 : decode cJ2_getChar_3b067 28 = .ok (.iload_n 1, 1) := by decide +kernel
theorem dJ2_getChar_3b067_29 : decode cJ2_getChar_3b067 29 = .ok (.iconst 1, 1) := by decide +kernel
theorem dJ2_getChar_3b067_30 : decode cJ2_getChar_3b067 30 = .ok (.ishl, 1) := by decide +kernel
theorem dJ2_getChar_3b067_31 : decode cJ2_getChar_3b067 31 = .ok (.istore_n 1, 1) := by decide +kernel
theorem dJ2_getChar_3b067_32 : decode cJ2_getChar_3b067 32 = .ok (.aload_n 0, 1) := by decide +kernel
theorem dJ2_getChar_3b067_33 : decode cJ2_getChar_3b067 33 = .ok (.iload_n 1, 1) := by decide +kernel
theorem dJ2_getChar_3b067_34 : decode cJ2_getChar_3b067 34 = .ok (.iinc 1 1, 3) := by decide +kernel
theorem dJ2_getChar_3b067_37 : decode cJ2_getChar_3b067 37 = .ok (.baload, 1) := by decide +kernel
theorem dJ2_getChar_3b067_38 : decode cJ2_getChar_3b067 38 = .ok (.sipush 255, 3) := by decide +kernel
theorem dJ2_getChar_3b067_41 : decode cJ2_getChar_3b067 41 = .ok (.iand, 1) := by decide +kernel
theorem dJ2_getChar_3b067_42 : decode cJ2_getChar_3b067 42 = .ok (.getstatic 59, 3) := by decide +kernel
theorem dJ2_getChar_3b067_45 : decode cJ2_getChar_3b067 45 = .ok (.ishl, 1) := by decide +kernel
theorem dJ2_getChar_3b067_46 : decode cJ2_getChar_3b067 46 = .ok (.aload_n 0, 1) := by decide +kernel
theorem dJ2_getChar_3b067_47 : decode cJ2_getChar_3b067 47 = .ok (.iload_n 1, 1) := by decide +kernel
theorem dJ2_getChar_3b067_48 : decode cJ2_getChar_3b067 48 = .ok (.baload, 1) := by decide +kernel
theorem dJ2_getChar_3b067_49 : decode cJ2_getChar_3b067 49 = .ok (.sipush 255, 3) := by decide +kernel
theorem dJ2_getChar_3b067_52 : decode cJ2_getChar_3b067 52 = .ok (.iand, 1) := by decide +kernel
theorem dJ2_getChar_3b067_53 : decode cJ2_getChar_3b067 53 = .ok (.getstatic 63, 3) := by decide +kernel
theorem dJ2_getChar_3b067_56 : decode cJ2_getChar_3b067 56 = .ok (.ishl, 1) := by decide +kernel
theorem dJ2_getChar_3b067_57 : decode cJ2_getChar_3b067 57 = .ok (.ior, 1) := by decide +kernel
theorem dJ2_getChar_3b067_58 : decode cJ2_getChar_3b067 58 = .ok (.i2c, 1) := by decide +kernel
theorem dJ2_getChar_3b067_59 : decode cJ2_getChar_3b067 59 = .ok (.ireturn, 1) := by decide +kernel
theorem dJ2_length_9d52b_0 : decode cJ2_length_9d52b 0 = .ok (.aload_n 0, 1) := by decide +kernel
theorem dJ2_length_9d52b_1 : decode cJ2_length_9d52b 1 = .ok (.arraylength, 1) := by decide +kernel
theorem dJ2_length_9d52b_2 : decode cJ2_length_9d52b 2 = .ok (.iconst 1, 1) := by decide +kernel
theorem dJ2_length_9d52b_3 : decode cJ2_length_9d52b 3 = .ok (.ishr, 1) := by decide +kernel
theorem dJ2_length_9d52b_4 : decode cJ2_length_9d52b 4 = .ok (.ireturn, 1) := by decide +kernel
theorem dJ2_charAt_3b067_0 : decode cJ2_charAt_3b067 0 = .ok (.iload_n 1, 1) := by decide +kernel
theorem dJ2_charAt_3b067_1 : decode cJ2_charAt_3b067 1 = .ok (.aload_n 0, 1) := by decide +kernel
theorem dJ2_charAt_3b067_2 : decode cJ2_charAt_3b067 2 = .ok (.invokestatic 67, 3) := by decide +kernel
theorem dJ2_charAt_3b067_5 : decode cJ2_charAt_3b067 5 = .ok (.aload_n 0, 1) := by decide +kernel
theorem dJ2_charAt_3b067_6 : decode cJ2_charAt_3b067 6 = .ok (.iload_n 1, 1) := by decide +kernel
theorem dJ2_charAt_3b067_7 : decode cJ2_charAt_3b067 7 = .ok (.invokestatic 71, 3) := by decide +kernel
theorem dJ2_charAt_3b067_10 : decode cJ2_charAt_3b067 10 = .ok (.ireturn, 1) := by decide +kernel
theorem dJ2_checkIndex_2214a_0 : decode cJ2_checkIndex_2214a 0 = .ok (.iload_n 0, 1) := by decide +kernel
theorem dJ2_checkIndex_2214a_1 : decode cJ2_checkIndex_2214a 1 = .ok (.aload_n 1, 1) := by decide +kernel
theorem dJ2_checkIndex_2214a_2 : decode cJ2_checkIndex_2214a 2 = .ok (.invokestatic 48, 3) := by decide +kernel
theorem dJ2_checkIndex_2214a_5 : decode cJ2_checkIndex_2214a 5 = .ok (.invokestatic 414, 3) := by decide +kernel
theorem dJ2_checkIndex_2214a_8 : decode cJ2_checkIndex_2214a 8 = .ok (.return_, 1) := by decide +kernel
theorem dJ7_fill_d0a16_0 : decode cJ7_fill_d0a16 0 = .ok (.iconst 0, 1) := by decide +kernel
theorem dJ7_fill_d0a16_1 : decode cJ7_fill_d0a16 1 = .ok (.istore_n 3, 1) := by decide +kernel
theorem dJ7_fill_d0a16_2 : decode cJ7_fill_d0a16 2 = .ok (.aload_n 0, 1) := by decide +kernel
theorem dJ7_fill_d0a16_3 : decode cJ7_fill_d0a16 3 = .ok (.arraylength, 1) := by decide +kernel
theorem dJ7_fill_d0a16_4 : decode cJ7_fill_d0a16 4 = .ok (.istore 4, 2) := by decide +kernel
theorem dJ7_fill_d0a16_6 : decode cJ7_fill_d0a16 6 = .ok (.iload_n 3, 1) := by decide +kernel
theorem dJ7_fill_d0a16_7 : decode cJ7_fill_d0a16 7 = .ok (.iload 4, 2) := by decide +kernel
theorem dJ7_fill_d0a16_9 : decode cJ7_fill_d0a16 9 = .ok (.if_icmp .ge 13, 3) := by decide +kernel
theorem dJ7_fill_d0a16_12 : decode cJ7_fill_d0a16 12 = .ok (.aload_n 0, 1) := by decide +kernel
theorem dJ7_fill_d0a16_13 : decode cJ7_fill_d0a16 13 = .ok (.iload_n 3, 1) := by decide +kernel
theorem dJ7_fill_d0a16_14 : decode cJ7_fill_d0a16 14 = .ok (.lload_n 1, 1) := by decide +kernel
theorem dJ7_fill_d0a16_15 : decode cJ7_fill_d0a16 15 = .ok (.lastore, 1) := by decide +kernel
theorem dJ7_fill_d0a16_16 : decode cJ7_fill_d0a16 16 = .ok (.iinc 3 1, 3) := by decide +kernel
theorem dJ7_fill_d0a16_19 : decode cJ7_fill_d0a16 19 = .ok (.goto (-13), 3) := by decide +kernel
theorem dJ7_fill_d0a16_22 : decode cJ7_fill_d0a16 22 = .ok (.return_, 1) := by decide +kernel
theorem dJ7_fill_53178_0 : decode cJ7_fill_53178 0 = .ok (.iconst 0, 1) := by decide +kernel
theorem dJ7_fill_53178_1 : decode cJ7_fill_53178 1 = .ok (.istore_n 2, 1) := by decide +kernel
theorem dJ7_fill_53178_2 : decode cJ7_fill_53178 2 = .ok (.aload_n 0, 1) := by decide +kernel
theorem dJ7_fill_53178_3 : decode cJ7_fill_53178 3 = .ok (.arraylength, 1) := by decide +kernel
theorem dJ7_fill_53178_4 : decode cJ7_fill_53178 4 = .ok (.istore_n 3, 1) := by decide +kernel
theorem dJ7_fill_53178_5 : decode cJ7_fill_53178 5 = .ok (.iload_n 2, 1) := by decide +kernel
theorem dJ7_fill_53178_6 : decode cJ7_fill_53178 6 = .ok (.iload_n 3, 1) := by decide +kernel
theorem dJ7_fill_53178_7 : decode cJ7_fill_53178 7 = .ok (.if_icmp .ge 13, 3) := by decide +kernel
theorem dJ7_fill_53178_10 : decode cJ7_fill_53178 10 = .ok (.aload_n 0, 1) := by decide +kernel
theorem dJ7_fill_53178_11 : decode cJ7_fill_53178 11 = .ok (.iload_n 2, 1) := by decide +kernel
theorem dJ7_fill_53178_12 : decode cJ7_fill_53178 12 = .ok (.iload_n 1, 1) := by decide +kernel
theorem dJ7_fill_53178_13 : decode cJ7_fill_53178 13 = .ok (.iastore, 1) := by decide +kernel
theorem dJ7_fill_53178_14 : decode cJ7_fill_53178 14 = .ok (.iinc 2 1, 3) := by decide +kernel
theorem dJ7_fill_53178_17 : decode cJ7_fill_53178 17 = .ok (.goto (-12), 3) := by decide +kernel
theorem dJ7_fill_53178_20 : decode cJ7_fill_53178 20 = .ok (.return_, 1) := by decide +kernel
theorem dJ3_checkIndex_8e157_0 : decode cJ3_checkIndex_8e157 0 = .ok (.iload_n 0, 1) := by decide +kernel
theorem dJ3_checkIndex_8e157_1 : decode cJ3_checkIndex_8e157 1 = .ok (.ifCond .lt 8, 3) := by decide +kernel
theorem dJ3_checkIndex_8e157_4 : decode cJ3_checkIndex_8e157 4 = .ok (.iload_n 0, 1) := by decide +kernel
theorem dJ3_checkIndex_8e157_5 : decode cJ3_checkIndex_8e157 5 = .ok (.iload_n 1, 1) := by decide +kernel
theorem dJ3_checkIndex_8e157_6 : decode cJ3_checkIndex_8e157 6 = .ok (.if_icmp .lt 10, 3) := by decide +kernel
theorem dJ3_checkIndex_8e157_9 : decode cJ3_checkIndex_8e157 9 = .ok (.aload_n 2, 1) := by decide +kernel
theorem dJ3_checkIndex_8e157_10 : decode cJ3_checkIndex_8e157 10 = .ok (.iload_n 0, 1) := by decide +kernel
theorem dJ3_checkIndex_8e157_11 : decode cJ3_checkIndex_8e157 11 = .ok (.iload_n 1, 1) := by decide +kernel
theorem dJ3_checkIndex_8e157_12 : decode cJ3_checkIndex_8e157 12 = .ok (.invokestatic 95, 3) := by decide +kernel
theorem dJ3_checkIndex_8e157_15 : decode cJ3_checkIndex_8e157 15 = .ok (.athrow, 1) := by decide +kernel
theorem dJ3_checkIndex_8e157_16 : decode cJ3_checkIndex_8e157 16 = .ok (.iload_n 0, 1) := by decide +kernel
theorem dJ3_checkIndex_8e157_17 : decode cJ3_checkIndex_8e157 17 = .ok (.ireturn, 1) := by decide +kernel
