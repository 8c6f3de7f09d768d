/-! decode rows -/
theorem dX10_init_0 : decode cX10_init 0 = .ok (.aload_n 0, 1) := by decide +kernel
theorem dX10_init_1 : decode cX10_init 1 = .ok (.invokespecial 3, 3) := by decide +kernel
theorem dX10_init_4 : decode cX10_init 4 = .ok (.aload_n 0, 1) := by decide +kernel
theorem dX10_init_5 : decode cX10_init 5 = .ok (.sipush 640, 3) := by decide +kernel
theorem dX10_init_8 : decode cX10_init 8 = .ok (.newarray .int, 2) := by decide +kernel
theorem dX10_init_10 : decode cX10_init 10 = .ok (.putfield 9, 3) := by decide +kernel
theorem dX10_init_13 : decode cX10_init 13 = .ok (.aload_n 0, 1) := by decide +kernel
theorem dX10_init_14 : decode cX10_init 14 = .ok (.sipush 640, 3) := by decide +kernel
theorem dX10_init_17 : decode cX10_init 17 = .ok (.newarray .int, 2) := by decide +kernel
theorem dX10_init_19 : decode cX10_init 19 = .ok (.putfield 13, 3) := by decide +kernel
theorem dX10_init_22 : decode cX10_init 22 = .ok (.aload_n 0, 1) := by decide +kernel
theorem dX10_init_23 : decode cX10_init 23 = .ok (.sipush 640, 3) := by decide +kernel
theorem dX10_init_26 : decode cX10_init 26 = .ok (.newarray .int, 2) := by decide +kernel
theorem dX10_init_28 : decode cX10_init 28 = .ok (.putfield 16, 3) := by decide +kernel
theorem dX10_init_31 : decode cX10_init 31 = .ok (.aload_n 0, 1) := by decide +kernel
theorem dX10_init_32 : decode cX10_init 32 = .ok (.sipush 640, 3) := by decide +kernel
theorem dX10_init_35 : decode cX10_init 35 = .ok (.newarray .int, 2) := by decide +kernel
theorem dX10_init_37 : decode cX10_init 37 = .ok (.putfield 19, 3) := by decide +kernel
theorem dX10_init_40 : decode cX10_init 40 = .ok (.aload_n 0, 1) := by decide +kernel
theorem dX10_init_41 : decode cX10_init 41 = .ok (.sipush 640, 3) := by decide +kernel
theorem dX10_init_44 : decode cX10_init 44 = .ok (.newarray .int, 2) := by decide +kernel
theorem dX10_init_46 : decode cX10_init 46 = .ok (.putfield 22, 3) := by decide +kernel
theorem dX10_init_49 : decode cX10_init 49 = .ok (.aload_n 0, 1) := by decide +kernel
theorem dX10_init_50 : decode cX10_init 50 = .ok (.iconst 2, 1) := by decide +kernel
theorem dX10_init_51 : decode cX10_init 51 = .ok (.newarray .boolean, 2) := by decide +kernel
theorem dX10_init_53 : decode cX10_init 53 = .ok (.putfield 25, 3) := by decide +kernel
theorem dX10_init_56 : decode cX10_init 56 = .ok (.aload_n 0, 1) := by decide +kernel
theorem dX10_init_57 : decode cX10_init 57 = .ok (.sipush 900, 3) := by decide +kernel
theorem dX10_init_60 : decode cX10_init 60 = .ok (.newarray .int, 2) := by decide +kernel
theorem dX10_init_62 : decode cX10_init 62 = .ok (.putfield 29, 3) := by decide +kernel
theorem dX10_init_65 : decode cX10_init 65 = .ok (.aload_n 0, 1) := by decide +kernel
theorem dX10_init_66 : decode cX10_init 66 = .ok (.bipush 40, 2) := by decide +kernel
theorem dX10_init_68 : decode cX10_init 68 = .ok (.newarray .int, 2) := by decide +kernel
theorem dX10_init_70 : decode cX10_init 70 = .ok (.putfield 32, 3) := by decide +kernel
theorem dX10_init_73 : decode cX10_init 73 = .ok (.aload_n 0, 1) := by decide +kernel
theorem dX10_init_74 : decode cX10_init 74 = .ok (.getfield 9, 3) := by decide +kernel
theorem dX10_init_77 : decode cX10_init 77 = .ok (.invokestatic 35, 3) := by decide +kernel
theorem dX10_init_80 : decode cX10_init 80 = .ok (.aload_n 0, 1) := by decide +kernel
theorem dX10_init_81 : decode cX10_init 81 = .ok (.getfield 9, 3) := by decide +kernel
theorem dX10_init_84 : decode cX10_init 84 = .ok (.bipush 15, 2) := by decide +kernel
theorem dX10_init_86 : decode cX10_init 86 = .ok (.iconst 1, 1) := by decide +kernel
theorem dX10_init_87 : decode cX10_init 87 = .ok (.iastore, 1) := by decide +kernel
theorem dX10_init_88 : decode cX10_init 88 = .ok (.aload_n 0, 1) := by decide +kernel
theorem dX10_init_89 : decode cX10_init 89 = .ok (.getfield 9, 3) := by decide +kernel
theorem dX10_init_92 : decode cX10_init 92 = .ok (.iconst 0, 1) := by decide +kernel
theorem dX10_init_93 : decode cX10_init 93 = .ok (.bipush 10, 2) := by decide +kernel
theorem dX10_init_95 : decode cX10_init 95 = .ok (.iastore, 1) := by decide +kernel
theorem dX10_init_96 : decode cX10_init 96 = .ok (.return_, 1) := by decide +kernel
theorem dX10_thrown_0 : decode cX10_thrown 0 = .ok (.aload_n 0, 1) := by decide +kernel
theorem dX10_thrown_1 : decode cX10_thrown 1 = .ok (.getfield 39, 3) := by decide +kernel
theorem dX10_thrown_4 : decode cX10_thrown 4 = .ok (.ireturn, 1) := by decide +kernel
theorem dX10_in_0 : decode cX10_in 0 = .ok (.lload_n 0, 1) := by decide +kernel
theorem dX10_in_1 : decode cX10_in 1 = .ok (.lload_n 2, 1) := by decide +kernel
theorem dX10_in_2 : decode cX10_in 2 = .ok (.lcmp, 1) := by decide +kernel
theorem dX10_in_3 : decode cX10_in 3 = .ok (.ifCond .lt 14, 3) := by decide +kernel
theorem dX10_in_6 : decode cX10_in 6 = .ok (.lload_n 0, 1) := by decide +kernel
theorem dX10_in_7 : decode cX10_in 7 = .ok (.lload 4, 2) := by decide +kernel
theorem dX10_in_9 : decode cX10_in 9 = .ok (.lcmp, 1) := by decide +kernel
theorem dX10_in_10 : decode cX10_in 10 = .ok (.ifCond .gt 7, 3) := by decide +kernel
theorem dX10_in_13 : decode cX10_in 13 = .ok (.iconst 1, 1) := by decide +kernel
theorem dX10_in_14 : decode cX10_in 14 = .ok (.goto 4, 3) := by decide +kernel
theorem dX10_in_17 : decode cX10_in 17 = .ok (.iconst 0, 1) := by decide +kernel
theorem dX10_in_18 : decode cX10_in 18 = .ok (.ireturn, 1) := by decide +kernel
theorem dX10_throwsIf_0 : decode cX10_throwsIf 0 = .ok (.aload_n 0, 1) := by decide +kernel
theorem dX10_throwsIf_1 : decode cX10_throwsIf 1 = .ok (.getfield 39, 3) := by decide +kernel
theorem dX10_throwsIf_4 : decode cX10_throwsIf 4 = .ok (.ifCond .ne 12, 3) := by decide +kernel
theorem dX10_throwsIf_7 : decode cX10_throwsIf 7 = .ok (.iload_n 1, 1) := by decide +kernel
theorem dX10_throwsIf_8 : decode cX10_throwsIf 8 = .ok (.ifCond .eq 8, 3) := by decide +kernel
theorem dX10_throwsIf_11 : decode cX10_throwsIf 11 = .ok (.aload_n 0, 1) := by decide +kernel
theorem dX10_throwsIf_12 : decode cX10_throwsIf 12 = .ok (.iload_n 2, 1) := by decide +kernel
theorem dX10_throwsIf_13 : decode cX10_throwsIf 13 = .ok (.putfield 39, 3) := by decide +kernel
theorem dX10_throwsIf_16 : decode cX10_throwsIf 16 = .ok (.aload_n 0, 1) := by decide +kernel
theorem dX10_throwsIf_17 : decode cX10_throwsIf 17 = .ok (.getfield 39, 3) := by decide +kernel
theorem dX10_throwsIf_20 : decode cX10_throwsIf 20 = .ok (.ifCond .eq 7, 3) := by decide +kernel
theorem dX10_throwsIf_23 : decode cX10_throwsIf 23 = .ok (.iconst 1, 1) := by decide +kernel
theorem dX10_throwsIf_24 : decode cX10_throwsIf 24 = .ok (.goto 4, 3) := by decide +kernel
theorem dX10_throwsIf_27 : decode cX10_throwsIf 27 = .ok (.iconst 0, 1) := by decide +kernel
theorem dX10_throwsIf_28 : decode cX10_throwsIf 28 = .ok (.ireturn, 1) := by decide +kernel
theorem dX10_fine_0 : decode cX10_fine 0 = .ok (.aload_n 0, 1) := by decide +kernel
theorem dX10_fine_1 : decode cX10_fine 1 = .ok (.iconst 0, 1) := by decide +kernel
theorem dX10_fine_2 : decode cX10_fine 2 = .ok (.putfield 39, 3) := by decide +kernel
theorem dX10_fine_5 : decode cX10_fine 5 = .ok (.iconst 1, 1) := by decide +kernel
theorem dX10_fine_6 : decode cX10_fine 6 = .ok (.ireturn, 1) := by decide +kernel
theorem dX10_copies_0 : decode cX10_copies 0 = .ok (.iconst 0, 1) := by decide +kernel
theorem dX10_copies_1 : decode cX10_copies 1 = .ok (.istore_n 2, 1) := by decide +kernel
theorem dX10_copies_2 : decode cX10_copies 2 = .ok (.iload_n 2, 1) := by decide +kernel
theorem dX10_copies_3 : decode cX10_copies 3 = .ok (.sipush 640, 3) := by decide +kernel
theorem dX10_copies_6 : decode cX10_copies 6 = .ok (.if_icmp .ge 15, 3) := by decide +kernel
theorem dX10_copies_9 : decode cX10_copies 9 = .ok (.aload_n 1, 1) := by decide +kernel
theorem dX10_copies_10 : decode cX10_copies 10 = .ok (.iload_n 2, 1) := by decide +kernel
theorem dX10_copies_11 : decode cX10_copies 11 = .ok (.aload_n 0, 1) := by decide +kernel
theorem dX10_copies_12 : decode cX10_copies 12 = .ok (.iload_n 2, 1) := by decide +kernel
theorem dX10_copies_13 : decode cX10_copies 13 = .ok (.iaload, 1) := by decide +kernel
theorem dX10_copies_14 : decode cX10_copies 14 = .ok (.iastore, 1) := by decide +kernel
theorem dX10_copies_15 : decode cX10_copies 15 = .ok (.iinc 2 1, 3) := by decide +kernel
theorem dX10_copies_18 : decode cX10_copies 18 = .ok (.goto (-16), 3) := by decide +kernel
theorem dX10_copies_21 : decode cX10_copies 21 = .ok (.return_, 1) := by decide +kernel
theorem dX10_begins_0 : decode cX10_begins 0 = .ok (.iconst 0, 1) := by decide +kernel
theorem dX10_begins_1 : decode cX10_begins 1 = .ok (.istore_n 1, 1) := by decide +kernel
theorem dX10_begins_2 : decode cX10_begins 2 = .ok (.iload_n 1, 1) := by decide +kernel
theorem dX10_begins_3 : decode cX10_begins 3 = .ok (.sipush 640, 3) := by decide +kernel
theorem dX10_begins_6 : decode cX10_begins 6 = .ok (.if_icmp .ge 13, 3) := by decide +kernel
theorem dX10_begins_9 : decode cX10_begins 9 = .ok (.aload_n 0, 1) := by decide +kernel
theorem dX10_begins_10 : decode cX10_begins 10 = .ok (.iload_n 1, 1) := by decide +kernel
theorem dX10_begins_11 : decode cX10_begins 11 = .ok (.iconst 0, 1) := by decide +kernel
theorem dX10_begins_12 : decode cX10_begins 12 = .ok (.iastore, 1) := by decide +kernel
theorem dX10_begins_13 : decode cX10_begins 13 = .ok (.iinc 1 1, 3) := by decide +kernel
theorem dX10_begins_16 : decode cX10_begins 16 = .ok (.goto (-14), 3) := by decide +kernel
theorem dX10_begins_19 : decode cX10_begins 19 = .ok (.aload_n 0, 1) := by decide +kernel
theorem dX10_begins_20 : decode cX10_begins 20 = .ok (.iconst 1, 1) := by decide +kernel
theorem dX10_begins_21 : decode cX10_begins 21 = .ok (.bipush 30, 2) := by decide +kernel
theorem dX10_begins_23 : decode cX10_begins 23 = .ok (.iastore, 1) := by decide +kernel
theorem dX10_begins_24 : decode cX10_begins 24 = .ok (.aload_n 0, 1) := by decide +kernel
theorem dX10_begins_25 : decode cX10_begins 25 = .ok (.iconst 2, 1) := by decide +kernel
theorem dX10_begins_26 : decode cX10_begins 26 = .ok (.bipush 10, 2) := by decide +kernel
theorem dX10_begins_28 : decode cX10_begins 28 = .ok (.iastore, 1) := by decide +kernel
theorem dX10_begins_29 : decode cX10_begins 29 = .ok (.aload_n 0, 1) := by decide +kernel
theorem dX10_begins_30 : decode cX10_begins 30 = .ok (.iconst 3, 1) := by decide +kernel
theorem dX10_begins_31 : decode cX10_begins 31 = .ok (.bipush 8, 2) := by decide +kernel
theorem dX10_begins_33 : decode cX10_begins 33 = .ok (.iastore, 1) := by decide +kernel
theorem dX10_begins_34 : decode cX10_begins 34 = .ok (.aload_n 0, 1) := by decide +kernel
theorem dX10_begins_35 : decode cX10_begins 35 = .ok (.iconst 4, 1) := by decide +kernel
theorem dX10_begins_36 : decode cX10_begins 36 = .ok (.bipush 10, 2) := by decide +kernel
theorem dX10_begins_38 : decode cX10_begins 38 = .ok (.iastore, 1) := by decide +kernel
theorem dX10_begins_39 : decode cX10_begins 39 = .ok (.aload_n 0, 1) := by decide +kernel
theorem dX10_begins_40 : decode cX10_begins 40 = .ok (.iconst 5, 1) := by decide +kernel
theorem dX10_begins_41 : decode cX10_begins 41 = .ok (.bipush 90, 2) := by decide +kernel
theorem dX10_begins_43 : decode cX10_begins 43 = .ok (.iastore, 1) := by decide +kernel
theorem dX10_begins_44 : decode cX10_begins 44 = .ok (.aload_n 0, 1) := by decide +kernel
theorem dX10_begins_45 : decode cX10_begins 45 = .ok (.bipush 6, 2) := by decide +kernel
theorem dX10_begins_47 : decode cX10_begins 47 = .ok (.bipush 6, 2) := by decide +kernel
theorem dX10_begins_49 : decode cX10_begins 49 = .ok (.iastore, 1) := by decide +kernel
theorem dX10_begins_50 : decode cX10_begins 50 = .ok (.aload_n 0, 1) := by decide +kernel
theorem dX10_begins_51 : decode cX10_begins 51 = .ok (.bipush 7, 2) := by decide +kernel
theorem dX10_begins_53 : decode cX10_begins 53 = .ok (.iconst 2, 1) := by decide +kernel
theorem dX10_begins_54 : decode cX10_begins 54 = .ok (.iastore, 1) := by decide +kernel
theorem dX10_begins_55 : decode cX10_begins 55 = .ok (.aload_n 0, 1) := by decide +kernel
theorem dX10_begins_56 : decode cX10_begins 56 = .ok (.bipush 8, 2) := by decide +kernel
theorem dX10_begins_58 : decode cX10_begins 58 = .ok (.sipush 500, 3) := by decide +kernel
theorem dX10_begins_61 : decode cX10_begins 61 = .ok (.iastore, 1) := by decide +kernel
theorem dX10_begins_62 : decode cX10_begins 62 = .ok (.aload_n 0, 1) := by decide +kernel
theorem dX10_begins_63 : decode cX10_begins 63 = .ok (.bipush 14, 2) := by decide +kernel
theorem dX10_begins_65 : decode cX10_begins 65 = .ok (.bipush 20, 2) := by decide +kernel
theorem dX10_begins_67 : decode cX10_begins 67 = .ok (.iastore, 1) := by decide +kernel
theorem dX10_begins_68 : decode cX10_begins 68 = .ok (.aload_n 0, 1) := by decide +kernel
theorem dX10_begins_69 : decode cX10_begins 69 = .ok (.bipush 10, 2) := by decide +kernel
theorem dX10_begins_71 : decode cX10_begins 71 = .ok (.iconst 1, 1) := by decide +kernel
theorem dX10_begins_72 : decode cX10_begins 72 = .ok (.iastore, 1) := by decide +kernel
theorem dX10_begins_73 : decode cX10_begins 73 = .ok (.aload_n 0, 1) := by decide +kernel
theorem dX10_begins_74 : decode cX10_begins 74 = .ok (.bipush 24, 2) := by decide +kernel
theorem dX10_begins_76 : decode cX10_begins 76 = .ok (.iconst 1, 1) := by decide +kernel
theorem dX10_begins_77 : decode cX10_begins 77 = .ok (.iastore, 1) := by decide +kernel
theorem dX10_begins_78 : decode cX10_begins 78 = .ok (.iconst 0, 1) := by decide +kernel
theorem dX10_begins_79 : decode cX10_begins 79 = .ok (.istore_n 1, 1) := by decide +kernel
theorem dX10_begins_80 : decode cX10_begins 80 = .ok (.iload_n 1, 1) := by decide +kernel
theorem dX10_begins_81 : decode cX10_begins 81 = .ok (.iconst 4, 1) := by decide +kernel
theorem dX10_begins_82 : decode cX10_begins 82 = .ok (.if_icmp .ge 33, 3) := by decide +kernel
theorem dX10_begins_85 : decode cX10_begins 85 = .ok (.aload_n 0, 1) := by decide +kernel
theorem dX10_begins_86 : decode cX10_begins 86 = .ok (.bipush 58, 2) := by decide +kernel
theorem dX10_begins_88 : decode cX10_begins 88 = .ok (.bipush 8, 2) := by decide +kernel
theorem dX10_begins_90 : decode cX10_begins 90 = .ok (.iload_n 1, 1) := by decide +kernel
theorem dX10_begins_91 : decode cX10_begins 91 = .ok (.imul, 1) := by decide +kernel
theorem dX10_begins_92 : decode cX10_begins 92 = .ok (.iadd, 1) := by decide +kernel
theorem dX10_begins_93 : decode cX10_begins 93 = .ok (.iconst 0, 1) := by decide +kernel
theorem dX10_begins_94 : decode cX10_begins 94 = .ok (.iadd, 1) := by decide +kernel
theorem dX10_begins_95 : decode cX10_begins 95 = .ok (.iconst (-1), 1) := by decide +kernel
theorem dX10_begins_96 : decode cX10_begins 96 = .ok (.iastore, 1) := by decide +kernel
theorem dX10_begins_97 : decode cX10_begins 97 = .ok (.aload_n 0, 1) := by decide +kernel
theorem dX10_begins_98 : decode cX10_begins 98 = .ok (.bipush 58, 2) := by decide +kernel
theorem dX10_begins_100 : decode cX10_begins 100 = .ok (.bipush 8, 2) := by decide +kernel
theorem dX10_begins_102 : decode cX10_begins 102 = .ok (.iload_n 1, 1) := by decide +kernel
theorem dX10_begins_103 : decode cX10_begins 103 = .ok (.imul, 1) := by decide +kernel
theorem dX10_begins_104 : decode cX10_begins 104 = .ok (.iadd, 1) := by decide +kernel
theorem dX10_begins_105 : decode cX10_begins 105 = .ok (.iconst 1, 1) := by decide +kernel
theorem dX10_begins_106 : decode cX10_begins 106 = .ok (.iadd, 1) := by decide +kernel
theorem dX10_begins_107 : decode cX10_begins 107 = .ok (.iconst (-1), 1) := by decide +kernel
theorem dX10_begins_108 : decode cX10_begins 108 = .ok (.iastore, 1) := by decide +kernel
theorem dX10_begins_109 : decode cX10_begins 109 = .ok (.iinc 1 1, 3) := by decide +kernel
theorem dX10_begins_112 : decode cX10_begins 112 = .ok (.goto (-32), 3) := by decide +kernel
theorem dX10_begins_115 : decode cX10_begins 115 = .ok (.iconst 0, 1) := by decide +kernel
theorem dX10_begins_116 : decode cX10_begins 116 = .ok (.istore_n 1, 1) := by decide +kernel
theorem dX10_begins_117 : decode cX10_begins 117 = .ok (.iload_n 1, 1) := by decide +kernel
theorem dX10_begins_118 : decode cX10_begins 118 = .ok (.bipush 40, 2) := by decide +kernel
theorem dX10_begins_120 : decode cX10_begins 120 = .ok (.if_icmp .ge 35, 3) := by decide +kernel
theorem dX10_begins_123 : decode cX10_begins 123 = .ok (.aload_n 0, 1) := by decide +kernel
theorem dX10_begins_124 : decode cX10_begins 124 = .ok (.sipush 240, 3) := by decide +kernel
theorem dX10_begins_127 : decode cX10_begins 127 = .ok (.bipush 6, 2) := by decide +kernel
theorem dX10_begins_129 : decode cX10_begins 129 = .ok (.iload_n 1, 1) := by decide +kernel
theorem dX10_begins_130 : decode cX10_begins 130 = .ok (.imul, 1) := by decide +kernel
theorem dX10_begins_131 : decode cX10_begins 131 = .ok (.iadd, 1) := by decide +kernel
theorem dX10_begins_132 : decode cX10_begins 132 = .ok (.iconst 4, 1) := by decide +kernel
theorem dX10_begins_133 : decode cX10_begins 133 = .ok (.iadd, 1) := by decide +kernel
theorem dX10_begins_134 : decode cX10_begins 134 = .ok (.iconst (-1), 1) := by decide +kernel
theorem dX10_begins_135 : decode cX10_begins 135 = .ok (.iastore, 1) := by decide +kernel
theorem dX10_begins_136 : decode cX10_begins 136 = .ok (.aload_n 0, 1) := by decide +kernel
theorem dX10_begins_137 : decode cX10_begins 137 = .ok (.sipush 240, 3) := by decide +kernel
theorem dX10_begins_140 : decode cX10_begins 140 = .ok (.bipush 6, 2) := by decide +kernel
theorem dX10_begins_142 : decode cX10_begins 142 = .ok (.iload_n 1, 1) := by decide +kernel
theorem dX10_begins_143 : decode cX10_begins 143 = .ok (.imul, 1) := by decide +kernel
theorem dX10_begins_144 : decode cX10_begins 144 = .ok (.iadd, 1) := by decide +kernel
theorem dX10_begins_145 : decode cX10_begins 145 = .ok (.iconst 5, 1) := by decide +kernel
theorem dX10_begins_146 : decode cX10_begins 146 = .ok (.iadd, 1) := by decide +kernel
theorem dX10_begins_147 : decode cX10_begins 147 = .ok (.iconst (-1), 1) := by decide +kernel
theorem dX10_begins_148 : decode cX10_begins 148 = .ok (.iastore, 1) := by decide +kernel
theorem dX10_begins_149 : decode cX10_begins 149 = .ok (.iinc 1 1, 3) := by decide +kernel
theorem dX10_begins_152 : decode cX10_begins 152 = .ok (.goto (-35), 3) := by decide +kernel
theorem dX10_begins_155 : decode cX10_begins 155 = .ok (.return_, 1) := by decide +kernel
theorem dX10_append_0 : decode cX10_append 0 = .ok (.aload_n 0, 1) := by decide +kernel
theorem dX10_append_1 : decode cX10_append 1 = .ok (.iconst 0, 1) := by decide +kernel
theorem dX10_append_2 : decode cX10_append 2 = .ok (.putfield 39, 3) := by decide +kernel
theorem dX10_append_5 : decode cX10_append 5 = .ok (.iconst 0, 1) := by decide +kernel
theorem dX10_append_6 : decode cX10_append 6 = .ok (.istore_n 3, 1) := by decide +kernel
theorem dX10_append_7 : decode cX10_append 7 = .ok (.bipush 56, 2) := by decide +kernel
theorem dX10_append_9 : decode cX10_append 9 = .ok (.istore 4, 2) := by decide +kernel
theorem dX10_append_11 : decode cX10_append 11 = .ok (.iload 4, 2) := by decide +kernel
theorem dX10_append_13 : decode cX10_append 13 = .ok (.ifCond .lt 30, 3) := by decide +kernel
theorem dX10_append_16 : decode cX10_append 16 = .ok (.iload_n 3, 1) := by decide +kernel
theorem dX10_append_17 : decode cX10_append 17 = .ok (.lload_n 1, 1) := by decide +kernel
theorem dX10_append_18 : decode cX10_append 18 = .ok (.iload 4, 2) := by decide +kernel
theorem dX10_append_20 : decode cX10_append 20 = .ok (.lushr, 1) := by decide +kernel
theorem dX10_append_21 : decode cX10_append 21 = .ok (.ldc2_w 43, 3) := by decide +kernel
theorem dX10_append_24 : decode cX10_append 24 = .ok (.land, 1) := by decide +kernel
theorem dX10_append_25 : decode cX10_append 25 = .ok (.lconst 0, 1) := by decide +kernel
theorem dX10_append_26 : decode cX10_append 26 = .ok (.lcmp, 1) := by decide +kernel
theorem dX10_append_27 : decode cX10_append 27 = .ok (.ifCond .eq 7, 3) := by decide +kernel
theorem dX10_append_30 : decode cX10_append 30 = .ok (.iconst 1, 1) := by decide +kernel
theorem dX10_append_31 : decode cX10_append 31 = .ok (.goto 4, 3) := by decide +kernel
theorem dX10_append_34 : decode cX10_append 34 = .ok (.iconst 0, 1) := by decide +kernel
theorem dX10_append_35 : decode cX10_append 35 = .ok (.iadd, 1) := by decide +kernel
theorem dX10_append_36 : decode cX10_append 36 = .ok (.istore_n 3, 1) := by decide +kernel
theorem dX10_append_37 : decode cX10_append 37 = .ok (.iinc 4 (-8), 3) := by decide +kernel
theorem dX10_append_40 : decode cX10_append 40 = .ok (.goto (-29), 3) := by decide +kernel
theorem dX10_append_43 : decode cX10_append 43 = .ok (.aload_n 0, 1) := by decide +kernel
theorem dX10_append_44 : decode cX10_append 44 = .ok (.getfield 45, 3) := by decide +kernel
theorem dX10_append_47 : decode cX10_append 47 = .ok (.iload_n 3, 1) := by decide +kernel
theorem dX10_append_48 : decode cX10_append 48 = .ok (.iadd, 1) := by decide +kernel
theorem dX10_append_49 : decode cX10_append 49 = .ok (.sipush 900, 3) := by decide +kernel
theorem dX10_append_52 : decode cX10_append 52 = .ok (.if_icmp .le 6, 3) := by decide +kernel
theorem dX10_append_55 : decode cX10_append 55 = .ok (.bipush (-2), 2) := by decide +kernel
theorem dX10_append_57 : decode cX10_append 57 = .ok (.ireturn, 1) := by decide +kernel
theorem dX10_append_58 : decode cX10_append 58 = .ok (.bipush 56, 2) := by decide +kernel
theorem dX10_append_60 : decode cX10_append 60 = .ok (.istore 4, 2) := by decide +kernel
theorem dX10_append_62 : decode cX10_append 62 = .ok (.iload 4, 2) := by decide +kernel
theorem dX10_append_64 : decode cX10_append 64 = .ok (.ifCond .lt 49, 3) := by decide +kernel
theorem dX10_append_67 : decode cX10_append 67 = .ok (.lload_n 1, 1) := by decide +kernel
theorem dX10_append_68 : decode cX10_append 68 = .ok (.iload 4, 2) := by decide +kernel
theorem dX10_append_70 : decode cX10_append 70 = .ok (.lushr, 1) := by decide +kernel
theorem dX10_append_71 : decode cX10_append 71 = .ok (.ldc2_w 43, 3) := by decide +kernel
theorem dX10_append_74 : decode cX10_append 74 = .ok (.land, 1) := by decide +kernel
theorem dX10_append_75 : decode cX10_append 75 = .ok (.l2i, 1) := by decide +kernel
theorem dX10_append_76 : decode cX10_append 76 = .ok (.istore 5, 2) := by decide +kernel
theorem dX10_append_78 : decode cX10_append 78 = .ok (.iload 5, 2) := by decide +kernel
theorem dX10_append_80 : decode cX10_append 80 = .ok (.ifCond .ne 6, 3) := by decide +kernel
theorem dX10_append_83 : decode cX10_append 83 = .ok (.goto 24, 3) := by decide +kernel
theorem dX10_append_86 : decode cX10_append 86 = .ok (.aload_n 0, 1) := by decide +kernel
theorem dX10_append_87 : decode cX10_append 87 = .ok (.getfield 29, 3) := by decide +kernel
theorem dX10_append_90 : decode cX10_append 90 = .ok (.aload_n 0, 1) := by decide +kernel
theorem dX10_append_91 : decode cX10_append 91 = .ok (.getfield 45, 3) := by decide +kernel
theorem dX10_append_94 : decode cX10_append 94 = .ok (.iload 5, 2) := by decide +kernel
theorem dX10_append_96 : decode cX10_append 96 = .ok (.iastore, 1) := by decide +kernel
theorem dX10_append_97 : decode cX10_append 97 = .ok (.aload_n 0, 1) := by decide +kernel
theorem dX10_append_98 : decode cX10_append 98 = .ok (.dup, 1) := by decide +kernel
theorem dX10_append_99 : decode cX10_append 99 = .ok (.getfield 45, 3) := by decide +kernel
theorem dX10_append_102 : decode cX10_append 102 = .ok (.iconst 1, 1) := by decide +kernel
theorem dX10_append_103 : decode cX10_append 103 = .ok (.iadd, 1) := by decide +kernel
theorem dX10_append_104 : decode cX10_append 104 = .ok (.putfield 45, 3) := by decide +kernel
theorem dX10_append_107 : decode cX10_append 107 = .ok (.iinc 4 (-8), 3) := by decide +kernel
theorem dX10_append_110 : decode cX10_append 110 = .ok (.goto (-48), 3) := by decide +kernel
theorem dX10_append_113 : decode cX10_append 113 = .ok (.aload_n 0, 1) := by decide +kernel
theorem dX10_append_114 : decode cX10_append 114 = .ok (.getfield 45, 3) := by decide +kernel
theorem dX10_append_117 : decode cX10_append 117 = .ok (.ireturn, 1) := by decide +kernel
theorem dX10_loadError_0 : decode cX10_loadError 0 = .ok (.aload_n 0, 1) := by decide +kernel
theorem dX10_loadError_1 : decode cX10_loadError 1 = .ok (.iconst 0, 1) := by decide +kernel
theorem dX10_loadError_2 : decode cX10_loadError 2 = .ok (.putfield 39, 3) := by decide +kernel
theorem dX10_loadError_5 : decode cX10_loadError 5 = .ok (.aload_n 0, 1) := by decide +kernel
theorem dX10_loadError_6 : decode cX10_loadError 6 = .ok (.getfield 48, 3) := by decide +kernel
theorem dX10_loadError_9 : decode cX10_loadError 9 = .ok (.ireturn, 1) := by decide +kernel
theorem dX10_byteAt_0 : decode cX10_byteAt 0 = .ok (.iload_n 1, 1) := by decide +kernel
theorem dX10_byteAt_1 : decode cX10_byteAt 1 = .ok (.aload_n 0, 1) := by decide +kernel
theorem dX10_byteAt_2 : decode cX10_byteAt 2 = .ok (.getfield 45, 3) := by decide +kernel
theorem dX10_byteAt_5 : decode cX10_byteAt 5 = .ok (.if_icmp .ge 12, 3) := by decide +kernel
theorem dX10_byteAt_8 : decode cX10_byteAt 8 = .ok (.aload_n 0, 1) := by decide +kernel
theorem dX10_byteAt_9 : decode cX10_byteAt 9 = .ok (.getfield 29, 3) := by decide +kernel
theorem dX10_byteAt_12 : decode cX10_byteAt 12 = .ok (.iload_n 1, 1) := by decide +kernel
theorem dX10_byteAt_13 : decode cX10_byteAt 13 = .ok (.iaload, 1) := by decide +kernel
theorem dX10_byteAt_14 : decode cX10_byteAt 14 = .ok (.goto 4, 3) := by decide +kernel
theorem dX10_byteAt_17 : decode cX10_byteAt 17 = .ok (.iconst (-1), 1) := by decide +kernel
theorem dX10_byteAt_18 : decode cX10_byteAt 18 = .ok (.ireturn, 1) := by decide +kernel
theorem dX10_isLetter_0 : decode cX10_isLetter 0 = .ok (.aload_n 0, 1) := by decide +kernel
theorem dX10_isLetter_1 : decode cX10_isLetter 1 = .ok (.iload_n 1, 1) := by decide +kernel
theorem dX10_isLetter_2 : decode cX10_isLetter 2 = .ok (.invokevirtual 51, 3) := by decide +kernel
theorem dX10_isLetter_5 : decode cX10_isLetter 5 = .ok (.i2l, 1) := by decide +kernel
theorem dX10_isLetter_6 : decode cX10_isLetter 6 = .ok (.ldc2_w 55, 3) := by decide +kernel
theorem dX10_isLetter_9 : decode cX10_isLetter 9 = .ok (.ldc2_w 57, 3) := by decide +kernel
theorem dX10_isLetter_12 : decode cX10_isLetter 12 = .ok (.invokestatic 59, 3) := by decide +kernel
theorem dX10_isLetter_15 : decode cX10_isLetter 15 = .ok (.ireturn, 1) := by decide +kernel
theorem dX10_isDigit_0 : decode cX10_isDigit 0 = .ok (.aload_n 0, 1) := by decide +kernel
theorem dX10_isDigit_1 : decode cX10_isDigit 1 = .ok (.iload_n 1, 1) := by decide +kernel
theorem dX10_isDigit_2 : decode cX10_isDigit 2 = .ok (.invokevirtual 51, 3) := by decide +kernel
theorem dX10_isDigit_5 : decode cX10_isDigit 5 = .ok (.i2l, 1) := by decide +kernel
theorem dX10_isDigit_6 : decode cX10_isDigit 6 = .ok (.ldc2_w 63, 3) := by decide +kernel
theorem dX10_isDigit_9 : decode cX10_isDigit 9 = .ok (.ldc2_w 65, 3) := by decide +kernel
theorem dX10_isDigit_12 : decode cX10_isDigit 12 = .ok (.invokestatic 59, 3) := by decide +kernel
theorem dX10_isDigit_15 : decode cX10_isDigit 15 = .ok (.ireturn, 1) := by decide +kernel
theorem dX10_see_0 : decode cX10_see 0 = .ok (.aload_n 0, 1) := by decide +kernel
theorem dX10_see_1 : decode cX10_see 1 = .ok (.aload_n 0, 1) := by decide +kernel
theorem dX10_see_2 : decode cX10_see 2 = .ok (.getfield 67, 3) := by decide +kernel
theorem dX10_see_5 : decode cX10_see 5 = .ok (.invokevirtual 51, 3) := by decide +kernel
theorem dX10_see_8 : decode cX10_see 8 = .ok (.bipush 32, 2) := by decide +kernel
theorem dX10_see_10 : decode cX10_see 10 = .ok (.if_icmp .ne 16, 3) := by decide +kernel
theorem dX10_see_13 : decode cX10_see 13 = .ok (.aload_n 0, 1) := by decide +kernel
theorem dX10_see_14 : decode cX10_see 14 = .ok (.dup, 1) := by decide +kernel
theorem dX10_see_15 : decode cX10_see 15 = .ok (.getfield 67, 3) := by decide +kernel
theorem dX10_see_18 : decode cX10_see 18 = .ok (.iconst 1, 1) := by decide +kernel
theorem dX10_see_19 : decode cX10_see 19 = .ok (.iadd, 1) := by decide +kernel
theorem dX10_see_20 : decode cX10_see 20 = .ok (.putfield 67, 3) := by decide +kernel
theorem dX10_see_23 : decode cX10_see 23 = .ok (.goto (-23), 3) := by decide +kernel
theorem dX10_see_26 : decode cX10_see 26 = .ok (.aload_n 0, 1) := by decide +kernel
theorem dX10_see_27 : decode cX10_see 27 = .ok (.aload_n 0, 1) := by decide +kernel
theorem dX10_see_28 : decode cX10_see 28 = .ok (.getfield 67, 3) := by decide +kernel
theorem dX10_see_31 : decode cX10_see 31 = .ok (.putfield 70, 3) := by decide +kernel
theorem dX10_see_34 : decode cX10_see 34 = .ok (.aload_n 0, 1) := by decide +kernel
theorem dX10_see_35 : decode cX10_see 35 = .ok (.aload_n 0, 1) := by decide +kernel
theorem dX10_see_36 : decode cX10_see 36 = .ok (.getfield 67, 3) := by decide +kernel
theorem dX10_see_39 : decode cX10_see 39 = .ok (.invokevirtual 51, 3) := by decide +kernel
theorem dX10_see_42 : decode cX10_see 42 = .ok (.ireturn, 1) := by decide +kernel
theorem dX10_fails_0 : decode cX10_fails 0 = .ok (.aload_n 0, 1) := by decide +kernel
theorem dX10_fails_1 : decode cX10_fails 1 = .ok (.getfield 73, 3) := by decide +kernel
theorem dX10_fails_4 : decode cX10_fails 4 = .ok (.ifCond .ne 16, 3) := by decide +kernel
theorem dX10_fails_7 : decode cX10_fails 7 = .ok (.aload_n 0, 1) := by decide +kernel
theorem dX10_fails_8 : decode cX10_fails 8 = .ok (.iload_n 1, 1) := by decide +kernel
theorem dX10_fails_9 : decode cX10_fails 9 = .ok (.putfield 73, 3) := by decide +kernel
theorem dX10_fails_12 : decode cX10_fails 12 = .ok (.aload_n 0, 1) := by decide +kernel
theorem dX10_fails_13 : decode cX10_fails 13 = .ok (.aload_n 0, 1) := by decide +kernel
theorem dX10_fails_14 : decode cX10_fails 14 = .ok (.getfield 70, 3) := by decide +kernel
theorem dX10_fails_17 : decode cX10_fails 17 = .ok (.putfield 76, 3) := by decide +kernel
theorem dX10_fails_20 : decode cX10_fails 20 = .ok (.iconst 0, 1) := by decide +kernel
theorem dX10_fails_21 : decode cX10_fails 21 = .ok (.ireturn, 1) := by decide +kernel
theorem dX10_takes_0 : decode cX10_takes 0 = .ok (.aload_n 0, 1) := by decide +kernel
theorem dX10_takes_1 : decode cX10_takes 1 = .ok (.invokevirtual 79, 3) := by decide +kernel
theorem dX10_takes_4 : decode cX10_takes 4 = .ok (.pop, 1) := by decide +kernel
theorem dX10_takes_5 : decode cX10_takes 5 = .ok (.aload_n 0, 1) := by decide +kernel
theorem dX10_takes_6 : decode cX10_takes 6 = .ok (.getfield 70, 3) := by decide +kernel
theorem dX10_takes_9 : decode cX10_takes 9 = .ok (.istore_n 2, 1) := by decide +kernel
theorem dX10_takes_10 : decode cX10_takes 10 = .ok (.aload_n 0, 1) := by decide +kernel
theorem dX10_takes_11 : decode cX10_takes 11 = .ok (.iload_n 2, 1) := by decide +kernel
theorem dX10_takes_12 : decode cX10_takes 12 = .ok (.invokevirtual 83, 3) := by decide +kernel
theorem dX10_takes_15 : decode cX10_takes 15 = .ok (.ifCond .eq 9, 3) := by decide +kernel
theorem dX10_takes_18 : decode cX10_takes 18 = .ok (.iinc 2 1, 3) := by decide +kernel
theorem dX10_takes_21 : decode cX10_takes 21 = .ok (.goto (-11), 3) := by decide +kernel
theorem dX10_takes_24 : decode cX10_takes 24 = .ok (.iload_n 2, 1) := by decide +kernel
theorem dX10_takes_25 : decode cX10_takes 25 = .ok (.aload_n 0, 1) := by decide +kernel
theorem dX10_takes_26 : decode cX10_takes 26 = .ok (.getfield 70, 3) := by decide +kernel
theorem dX10_takes_29 : decode cX10_takes 29 = .ok (.isub, 1) := by decide +kernel
theorem dX10_takes_30 : decode cX10_takes 30 = .ok (.aload_n 1, 1) := by decide +kernel
theorem dX10_takes_31 : decode cX10_takes 31 = .ok (.invokevirtual 87, 3) := by decide +kernel
theorem dX10_takes_34 : decode cX10_takes 34 = .ok (.if_icmp .ne 7, 3) := by decide +kernel
theorem dX10_takes_37 : decode cX10_takes 37 = .ok (.iconst 1, 1) := by decide +kernel
theorem dX10_takes_38 : decode cX10_takes 38 = .ok (.goto 4, 3) := by decide +kernel
theorem dX10_takes_41 : decode cX10_takes 41 = .ok (.iconst 0, 1) := by decide +kernel
theorem dX10_takes_42 : decode cX10_takes 42 = .ok (.istore_n 3, 1) := by decide +kernel
theorem dX10_takes_43 : decode cX10_takes 43 = .ok (.iconst 0, 1) := by decide +kernel
theorem dX10_takes_44 : decode cX10_takes 44 = .ok (.istore 4, 2) := by decide +kernel
theorem dX10_takes_46 : decode cX10_takes 46 = .ok (.iload_n 3, 1) := by decide +kernel
theorem dX10_takes_47 : decode cX10_takes 47 = .ok (.ifCond .eq 46, 3) := by decide +kernel
theorem dX10_takes_50 : decode cX10_takes 50 = .ok (.aload_n 0, 1) := by decide +kernel
theorem dX10_takes_51 : decode cX10_takes 51 = .ok (.getfield 70, 3) := by decide +kernel
theorem dX10_takes_54 : decode cX10_takes 54 = .ok (.iload 4, 2) := by decide +kernel
theorem dX10_takes_56 : decode cX10_takes 56 = .ok (.iadd, 1) := by decide +kernel
theorem dX10_takes_57 : decode cX10_takes 57 = .ok (.iload_n 2, 1) := by decide +kernel
theorem dX10_takes_58 : decode cX10_takes 58 = .ok (.if_icmp .ge 35, 3) := by decide +kernel
theorem dX10_takes_61 : decode cX10_takes 61 = .ok (.aload_n 0, 1) := by decide +kernel
theorem dX10_takes_62 : decode cX10_takes 62 = .ok (.aload_n 0, 1) := by decide +kernel
theorem dX10_takes_63 : decode cX10_takes 63 = .ok (.getfield 70, 3) := by decide +kernel
theorem dX10_takes_66 : decode cX10_takes 66 = .ok (.iload 4, 2) := by decide +kernel
theorem dX10_takes_68 : decode cX10_takes 68 = .ok (.iadd, 1) := by decide +kernel
theorem dX10_takes_69 : decode cX10_takes 69 = .ok (.invokevirtual 51, 3) := by decide +kernel
theorem dX10_takes_72 : decode cX10_takes 72 = .ok (.aload_n 1, 1) := by decide +kernel
theorem dX10_takes_73 : decode cX10_takes 73 = .ok (.iload 4, 2) := by decide +kernel
theorem dX10_takes_75 : decode cX10_takes 75 = .ok (.invokevirtual 91, 3) := by decide +kernel
theorem dX10_takes_78 : decode cX10_takes 78 = .ok (.if_icmp .ne 7, 3) := by decide +kernel
theorem dX10_takes_81 : decode cX10_takes 81 = .ok (.iconst 1, 1) := by decide +kernel
theorem dX10_takes_82 : decode cX10_takes 82 = .ok (.goto 4, 3) := by decide +kernel
theorem dX10_takes_85 : decode cX10_takes 85 = .ok (.iconst 0, 1) := by decide +kernel
theorem dX10_takes_86 : decode cX10_takes 86 = .ok (.istore_n 3, 1) := by decide +kernel
theorem dX10_takes_87 : decode cX10_takes 87 = .ok (.iinc 4 1, 3) := by decide +kernel
theorem dX10_takes_90 : decode cX10_takes 90 = .ok (.goto (-44), 3) := by decide +kernel
theorem dX10_takes_93 : decode cX10_takes 93 = .ok (.aload_n 0, 1) := by decide +kernel
theorem dX10_takes_94 : decode cX10_takes 94 = .ok (.iload_n 3, 1) := by decide +kernel
theorem dX10_takes_95 : decode cX10_takes 95 = .ok (.ifCond .eq 7, 3) := by decide +kernel
theorem dX10_takes_98 : decode cX10_takes 98 = .ok (.iload_n 2, 1) := by decide +kernel
theorem dX10_takes_99 : decode cX10_takes 99 = .ok (.goto 7, 3) := by decide +kernel
theorem dX10_takes_102 : decode cX10_takes 102 = .ok (.aload_n 0, 1) := by decide +kernel
theorem dX10_takes_103 : decode cX10_takes 103 = .ok (.getfield 67, 3) := by decide +kernel
theorem dX10_takes_106 : decode cX10_takes 106 = .ok (.putfield 67, 3) := by decide +kernel
theorem dX10_takes_109 : decode cX10_takes 109 = .ok (.iload_n 3, 1) := by decide +kernel
theorem dX10_takes_110 : decode cX10_takes 110 = .ok (.ireturn, 1) := by decide +kernel
theorem dX10_reads_0 : decode cX10_reads 0 = .ok (.aload_n 0, 1) := by decide +kernel
theorem dX10_reads_1 : decode cX10_reads 1 = .ok (.invokevirtual 79, 3) := by decide +kernel
theorem dX10_reads_4 : decode cX10_reads 4 = .ok (.pop, 1) := by decide +kernel
theorem dX10_reads_5 : decode cX10_reads 5 = .ok (.aload_n 0, 1) := by decide +kernel
theorem dX10_reads_6 : decode cX10_reads 6 = .ok (.aload_n 0, 1) := by decide +kernel
theorem dX10_reads_7 : decode cX10_reads 7 = .ok (.getfield 67, 3) := by decide +kernel
theorem dX10_reads_10 : decode cX10_reads 10 = .ok (.invokevirtual 95, 3) := by decide +kernel
theorem dX10_reads_13 : decode cX10_reads 13 = .ok (.ifCond .ne 9, 3) := by decide +kernel
theorem dX10_reads_16 : decode cX10_reads 16 = .ok (.aload_n 0, 1) := by decide +kernel
theorem dX10_reads_17 : decode cX10_reads 17 = .ok (.iconst 1, 1) := by decide +kernel
theorem dX10_reads_18 : decode cX10_reads 18 = .ok (.invokevirtual 98, 3) := by decide +kernel
theorem dX10_reads_21 : decode cX10_reads 21 = .ok (.ireturn, 1) := by decide +kernel
theorem dX10_reads_22 : decode cX10_reads 22 = .ok (.lconst 0, 1) := by decide +kernel
theorem dX10_reads_23 : decode cX10_reads 23 = .ok (.lstore_n 3, 1) := by decide +kernel
theorem dX10_reads_24 : decode cX10_reads 24 = .ok (.aload_n 0, 1) := by decide +kernel
theorem dX10_reads_25 : decode cX10_reads 25 = .ok (.aload_n 0, 1) := by decide +kernel
theorem dX10_reads_26 : decode cX10_reads 26 = .ok (.getfield 67, 3) := by decide +kernel
theorem dX10_reads_29 : decode cX10_reads 29 = .ok (.invokevirtual 95, 3) := by decide +kernel
theorem dX10_reads_32 : decode cX10_reads 32 = .ok (.ifCond .eq 42, 3) := by decide +kernel
theorem dX10_reads_35 : decode cX10_reads 35 = .ok (.ldc2_w 101, 3) := by decide +kernel
theorem dX10_reads_38 : decode cX10_reads 38 = .ok (.ldc2_w 103, 3) := by decide +kernel
theorem dX10_reads_41 : decode cX10_reads 41 = .ok (.lload_n 3, 1) := by decide +kernel
theorem dX10_reads_42 : decode cX10_reads 42 = .ok (.lmul, 1) := by decide +kernel
theorem dX10_reads_43 : decode cX10_reads 43 = .ok (.aload_n 0, 1) := by decide +kernel
theorem dX10_reads_44 : decode cX10_reads 44 = .ok (.aload_n 0, 1) := by decide +kernel
theorem dX10_reads_45 : decode cX10_reads 45 = .ok (.getfield 67, 3) := by decide +kernel
theorem dX10_reads_48 : decode cX10_reads 48 = .ok (.invokevirtual 51, 3) := by decide +kernel
theorem dX10_reads_51 : decode cX10_reads 51 = .ok (.i2l, 1) := by decide +kernel
theorem dX10_reads_52 : decode cX10_reads 52 = .ok (.ladd, 1) := by decide +kernel
theorem dX10_reads_53 : decode cX10_reads 53 = .ok (.ldc2_w 63, 3) := by decide +kernel
theorem dX10_reads_56 : decode cX10_reads 56 = .ok (.lsub, 1) := by decide +kernel
theorem dX10_reads_57 : decode cX10_reads 57 = .ok (.invokestatic 105, 3) := by decide +kernel
theorem dX10_reads_60 : decode cX10_reads 60 = .ok (.lstore_n 3, 1) := by decide +kernel
theorem dX10_reads_61 : decode cX10_reads 61 = .ok (.aload_n 0, 1) := by decide +kernel
theorem dX10_reads_62 : decode cX10_reads 62 = .ok (.dup, 1) := by decide +kernel
theorem dX10_reads_63 : decode cX10_reads 63 = .ok (.getfield 67, 3) := by decide +kernel
theorem dX10_reads_66 : decode cX10_reads 66 = .ok (.iconst 1, 1) := by decide +kernel
theorem dX10_reads_67 : decode cX10_reads 67 = .ok (.iadd, 1) := by decide +kernel
theorem dX10_reads_68 : decode cX10_reads 68 = .ok (.putfield 67, 3) := by decide +kernel
theorem dX10_reads_71 : decode cX10_reads 71 = .ok (.goto (-47), 3) := by decide +kernel
theorem dX10_reads_74 : decode cX10_reads 74 = .ok (.lload_n 3, 1) := by decide +kernel
theorem dX10_reads_75 : decode cX10_reads 75 = .ok (.iload_n 1, 1) := by decide +kernel
theorem dX10_reads_76 : decode cX10_reads 76 = .ok (.i2l, 1) := by decide +kernel
theorem dX10_reads_77 : decode cX10_reads 77 = .ok (.iload_n 2, 1) := by decide +kernel
theorem dX10_reads_78 : decode cX10_reads 78 = .ok (.i2l, 1) := by decide +kernel
theorem dX10_reads_79 : decode cX10_reads 79 = .ok (.invokestatic 59, 3) := by decide +kernel
theorem dX10_reads_82 : decode cX10_reads 82 = .ok (.ifCond .ne 9, 3) := by decide +kernel
theorem dX10_reads_85 : decode cX10_reads 85 = .ok (.aload_n 0, 1) := by decide +kernel
theorem dX10_reads_86 : decode cX10_reads 86 = .ok (.iconst 2, 1) := by decide +kernel
theorem dX10_reads_87 : decode cX10_reads 87 = .ok (.invokevirtual 98, 3) := by decide +kernel
theorem dX10_reads_90 : decode cX10_reads 90 = .ok (.ireturn, 1) := by decide +kernel
theorem dX10_reads_91 : decode cX10_reads 91 = .ok (.aload_n 0, 1) := by decide +kernel
theorem dX10_reads_92 : decode cX10_reads 92 = .ok (.lload_n 3, 1) := by decide +kernel
theorem dX10_reads_93 : decode cX10_reads 93 = .ok (.l2i, 1) := by decide +kernel
theorem dX10_reads_94 : decode cX10_reads 94 = .ok (.putfield 111, 3) := by decide +kernel
theorem dX10_reads_97 : decode cX10_reads 97 = .ok (.iconst 1, 1) := by decide +kernel
theorem dX10_reads_98 : decode cX10_reads 98 = .ok (.ireturn, 1) := by decide +kernel
theorem dX10_readsInto_0 : decode cX10_readsInto 0 = .ok (.aload_n 0, 1) := by decide +kernel
theorem dX10_readsInto_1 : decode cX10_readsInto 1 = .ok (.iload_n 2, 1) := by decide +kernel
theorem dX10_readsInto_2 : decode cX10_readsInto 2 = .ok (.iload_n 3, 1) := by decide +kernel
theorem dX10_readsInto_3 : decode cX10_readsInto 3 = .ok (.invokevirtual 114, 3) := by decide +kernel
theorem dX10_readsInto_6 : decode cX10_readsInto 6 = .ok (.ifCond .ne 5, 3) := by decide +kernel
theorem dX10_readsInto_9 : decode cX10_readsInto 9 = .ok (.iconst 0, 1) := by decide +kernel
theorem dX10_readsInto_10 : decode cX10_readsInto 10 = .ok (.ireturn, 1) := by decide +kernel
theorem dX10_readsInto_11 : decode cX10_readsInto 11 = .ok (.aload_n 0, 1) := by decide +kernel
theorem dX10_readsInto_12 : decode cX10_readsInto 12 = .ok (.getfield 16, 3) := by decide +kernel
theorem dX10_readsInto_15 : decode cX10_readsInto 15 = .ok (.iload_n 1, 1) := by decide +kernel
theorem dX10_readsInto_16 : decode cX10_readsInto 16 = .ok (.aload_n 0, 1) := by decide +kernel
theorem dX10_readsInto_17 : decode cX10_readsInto 17 = .ok (.getfield 111, 3) := by decide +kernel
theorem dX10_readsInto_20 : decode cX10_readsInto 20 = .ok (.iastore, 1) := by decide +kernel
theorem dX10_readsInto_21 : decode cX10_readsInto 21 = .ok (.iconst 1, 1) := by decide +kernel
theorem dX10_readsInto_22 : decode cX10_readsInto 22 = .ok (.ireturn, 1) := by decide +kernel
theorem dX10_readTimes_0 : decode cX10_readTimes 0 = .ok (.iconst 1, 1) := by decide +kernel
theorem dX10_readTimes_1 : decode cX10_readTimes 1 = .ok (.istore_n 1, 1) := by decide +kernel
theorem dX10_readTimes_2 : decode cX10_readTimes 2 = .ok (.iconst 1, 1) := by decide +kernel
theorem dX10_readTimes_3 : decode cX10_readTimes 3 = .ok (.istore_n 2, 1) := by decide +kernel
theorem dX10_readTimes_4 : decode cX10_readTimes 4 = .ok (.iload_n 2, 1) := by decide +kernel
theorem dX10_readTimes_5 : decode cX10_readTimes 5 = .ok (.iconst 4, 1) := by decide +kernel
theorem dX10_readTimes_6 : decode cX10_readTimes 6 = .ok (.if_icmp .gt 31, 3) := by decide +kernel
theorem dX10_readTimes_9 : decode cX10_readTimes 9 = .ok (.iload_n 1, 1) := by decide +kernel
theorem dX10_readTimes_10 : decode cX10_readTimes 10 = .ok (.ifCond .eq 19, 3) := by decide +kernel
theorem dX10_readTimes_13 : decode cX10_readTimes 13 = .ok (.aload_n 0, 1) := by decide +kernel
theorem dX10_readTimes_14 : decode cX10_readTimes 14 = .ok (.iload_n 2, 1) := by decide +kernel
theorem dX10_readTimes_15 : decode cX10_readTimes 15 = .ok (.iconst 0, 1) := by decide +kernel
theorem dX10_readTimes_16 : decode cX10_readTimes 16 = .ok (.sipush 200, 3) := by decide +kernel
theorem dX10_readTimes_19 : decode cX10_readTimes 19 = .ok (.invokevirtual 118, 3) := by decide +kernel
theorem dX10_readTimes_22 : decode cX10_readTimes 22 = .ok (.ifCond .eq 7, 3) := by decide +kernel
theorem dX10_readTimes_25 : decode cX10_readTimes 25 = .ok (.iconst 1, 1) := by decide +kernel
theorem dX10_readTimes_26 : decode cX10_readTimes 26 = .ok (.goto 4, 3) := by decide +kernel
theorem dX10_readTimes_29 : decode cX10_readTimes 29 = .ok (.iconst 0, 1) := by decide +kernel
theorem dX10_readTimes_30 : decode cX10_readTimes 30 = .ok (.istore_n 1, 1) := by decide +kernel
theorem dX10_readTimes_31 : decode cX10_readTimes 31 = .ok (.iinc 2 1, 3) := by decide +kernel
theorem dX10_readTimes_34 : decode cX10_readTimes 34 = .ok (.goto (-30), 3) := by decide +kernel
theorem dX10_readTimes_37 : decode cX10_readTimes 37 = .ok (.iload_n 1, 1) := by decide +kernel
theorem dX10_readTimes_38 : decode cX10_readTimes 38 = .ok (.ireturn, 1) := by decide +kernel
theorem dX10_readNozzles_0 : decode cX10_readNozzles 0 = .ok (.iconst 1, 1) := by decide +kernel
theorem dX10_readNozzles_1 : decode cX10_readNozzles 1 = .ok (.istore_n 1, 1) := by decide +kernel
theorem dX10_readNozzles_2 : decode cX10_readNozzles 2 = .ok (.iload_n 1, 1) := by decide +kernel
theorem dX10_readNozzles_3 : decode cX10_readNozzles 3 = .ok (.ifCond .eq 86, 3) := by decide +kernel
theorem dX10_readNozzles_6 : decode cX10_readNozzles 6 = .ok (.aload_n 0, 1) := by decide +kernel
theorem dX10_readNozzles_7 : decode cX10_readNozzles 7 = .ok (.invokevirtual 79, 3) := by decide +kernel
theorem dX10_readNozzles_10 : decode cX10_readNozzles 10 = .ok (.pop, 1) := by decide +kernel
theorem dX10_readNozzles_11 : decode cX10_readNozzles 11 = .ok (.aload_n 0, 1) := by decide +kernel
theorem dX10_readNozzles_12 : decode cX10_readNozzles 12 = .ok (.getfield 16, 3) := by decide +kernel
theorem dX10_readNozzles_15 : decode cX10_readNozzles 15 = .ok (.bipush 16, 2) := by decide +kernel
theorem dX10_readNozzles_17 : decode cX10_readNozzles 17 = .ok (.iaload, 1) := by decide +kernel
theorem dX10_readNozzles_18 : decode cX10_readNozzles 18 = .ok (.bipush 6, 2) := by decide +kernel
theorem dX10_readNozzles_20 : decode cX10_readNozzles 20 = .ok (.if_icmp .ne 20, 3) := by decide +kernel
theorem dX10_readNozzles_23 : decode cX10_readNozzles 23 = .ok (.aload_n 0, 1) := by decide +kernel
theorem dX10_readNozzles_24 : decode cX10_readNozzles 24 = .ok (.aload_n 0, 1) := by decide +kernel
theorem dX10_readNozzles_25 : decode cX10_readNozzles 25 = .ok (.getfield 67, 3) := by decide +kernel
theorem dX10_readNozzles_28 : decode cX10_readNozzles 28 = .ok (.invokevirtual 95, 3) := by decide +kernel
theorem dX10_readNozzles_31 : decode cX10_readNozzles 31 = .ok (.ifCond .eq 9, 3) := by decide +kernel
theorem dX10_readNozzles_34 : decode cX10_readNozzles 34 = .ok (.aload_n 0, 1) := by decide +kernel
theorem dX10_readNozzles_35 : decode cX10_readNozzles 35 = .ok (.iconst 3, 1) := by decide +kernel
theorem dX10_readNozzles_36 : decode cX10_readNozzles 36 = .ok (.invokevirtual 98, 3) := by decide +kernel
theorem dX10_readNozzles_39 : decode cX10_readNozzles 39 = .ok (.ireturn, 1) := by decide +kernel
theorem dX10_readNozzles_40 : decode cX10_readNozzles 40 = .ok (.aload_n 0, 1) := by decide +kernel
theorem dX10_readNozzles_41 : decode cX10_readNozzles 41 = .ok (.bipush 44, 2) := by decide +kernel
theorem dX10_readNozzles_43 : decode cX10_readNozzles 43 = .ok (.aload_n 0, 1) := by decide +kernel
theorem dX10_readNozzles_44 : decode cX10_readNozzles 44 = .ok (.getfield 16, 3) := by decide +kernel
theorem dX10_readNozzles_47 : decode cX10_readNozzles 47 = .ok (.bipush 16, 2) := by decide +kernel
theorem dX10_readNozzles_49 : decode cX10_readNozzles 49 = .ok (.iaload, 1) := by decide +kernel
theorem dX10_readNozzles_50 : decode cX10_readNozzles 50 = .ok (.iadd, 1) := by decide +kernel
theorem dX10_readNozzles_51 : decode cX10_readNozzles 51 = .ok (.iconst 1, 1) := by decide +kernel
theorem dX10_readNozzles_52 : decode cX10_readNozzles 52 = .ok (.iconst 4, 1) := by decide +kernel
theorem dX10_readNozzles_53 : decode cX10_readNozzles 53 = .ok (.invokevirtual 118, 3) := by decide +kernel
theorem dX10_readNozzles_56 : decode cX10_readNozzles 56 = .ok (.ifCond .ne 5, 3) := by decide +kernel
theorem dX10_readNozzles_59 : decode cX10_readNozzles 59 = .ok (.iconst 0, 1) := by decide +kernel
theorem dX10_readNozzles_60 : decode cX10_readNozzles 60 = .ok (.ireturn, 1) := by decide +kernel
theorem dX10_readNozzles_61 : decode cX10_readNozzles 61 = .ok (.aload_n 0, 1) := by decide +kernel
theorem dX10_readNozzles_62 : decode cX10_readNozzles 62 = .ok (.getfield 16, 3) := by decide +kernel
theorem dX10_readNozzles_65 : decode cX10_readNozzles 65 = .ok (.bipush 16, 2) := by decide +kernel
theorem dX10_readNozzles_67 : decode cX10_readNozzles 67 = .ok (.dup2, 1) := by decide +kernel
theorem dX10_readNozzles_68 : decode cX10_readNozzles 68 = .ok (.iaload, 1) := by decide +kernel
theorem dX10_readNozzles_69 : decode cX10_readNozzles 69 = .ok (.iconst 1, 1) := by decide +kernel
theorem dX10_readNozzles_70 : decode cX10_readNozzles 70 = .ok (.iadd, 1) := by decide +kernel
theorem dX10_readNozzles_71 : decode cX10_readNozzles 71 = .ok (.iastore, 1) := by decide +kernel
theorem dX10_readNozzles_72 : decode cX10_readNozzles 72 = .ok (.aload_n 0, 1) := by decide +kernel
theorem dX10_readNozzles_73 : decode cX10_readNozzles 73 = .ok (.invokevirtual 79, 3) := by decide +kernel
theorem dX10_readNozzles_76 : decode cX10_readNozzles 76 = .ok (.pop, 1) := by decide +kernel
theorem dX10_readNozzles_77 : decode cX10_readNozzles 77 = .ok (.aload_n 0, 1) := by decide +kernel
theorem dX10_readNozzles_78 : decode cX10_readNozzles 78 = .ok (.aload_n 0, 1) := by decide +kernel
theorem dX10_readNozzles_79 : decode cX10_readNozzles 79 = .ok (.getfield 67, 3) := by decide +kernel
theorem dX10_readNozzles_82 : decode cX10_readNozzles 82 = .ok (.invokevirtual 95, 3) := by decide +kernel
theorem dX10_readNozzles_85 : decode cX10_readNozzles 85 = .ok (.istore_n 1, 1) := by decide +kernel
theorem dX10_readNozzles_86 : decode cX10_readNozzles 86 = .ok (.goto (-84), 3) := by decide +kernel
theorem dX10_readNozzles_89 : decode cX10_readNozzles 89 = .ok (.iconst 1, 1) := by decide +kernel
theorem dX10_readNozzles_90 : decode cX10_readNozzles 90 = .ok (.ireturn, 1) := by decide +kernel
theorem dX10_isRoom_0 : decode cX10_isRoom 0 = .ok (.aload_n 0, 1) := by decide +kernel
theorem dX10_isRoom_1 : decode cX10_isRoom 1 = .ok (.iload_n 1, 1) := by decide +kernel
theorem dX10_isRoom_2 : decode cX10_isRoom 2 = .ok (.putfield 70, 3) := by decide +kernel
theorem dX10_isRoom_5 : decode cX10_isRoom 5 = .ok (.aload_n 0, 1) := by decide +kernel
theorem dX10_isRoom_6 : decode cX10_isRoom 6 = .ok (.getfield 16, 3) := by decide +kernel
theorem dX10_isRoom_9 : decode cX10_isRoom 9 = .ok (.iload_n 2, 1) := by decide +kernel
theorem dX10_isRoom_10 : decode cX10_isRoom 10 = .ok (.iaload, 1) := by decide +kernel
theorem dX10_isRoom_11 : decode cX10_isRoom 11 = .ok (.iload_n 3, 1) := by decide +kernel
theorem dX10_isRoom_12 : decode cX10_isRoom 12 = .ok (.if_icmp .lt 11, 3) := by decide +kernel
theorem dX10_isRoom_15 : decode cX10_isRoom 15 = .ok (.aload_n 0, 1) := by decide +kernel
theorem dX10_isRoom_16 : decode cX10_isRoom 16 = .ok (.iconst 3, 1) := by decide +kernel
theorem dX10_isRoom_17 : decode cX10_isRoom 17 = .ok (.invokevirtual 98, 3) := by decide +kernel
theorem dX10_isRoom_20 : decode cX10_isRoom 20 = .ok (.ifCond .eq 7, 3) := by decide +kernel
theorem dX10_isRoom_23 : decode cX10_isRoom 23 = .ok (.iconst 1, 1) := by decide +kernel
theorem dX10_isRoom_24 : decode cX10_isRoom 24 = .ok (.goto 4, 3) := by decide +kernel
theorem dX10_isRoom_27 : decode cX10_isRoom 27 = .ok (.iconst 0, 1) := by decide +kernel
theorem dX10_isRoom_28 : decode cX10_isRoom 28 = .ok (.ireturn, 1) := by decide +kernel
theorem dX10_readKind_0 : decode cX10_readKind 0 = .ok (.aload_n 0, 1) := by decide +kernel
theorem dX10_readKind_1 : decode cX10_readKind 1 = .ok (.iload_n 1, 1) := by decide +kernel
theorem dX10_readKind_2 : decode cX10_readKind 2 = .ok (.bipush 17, 2) := by decide +kernel
theorem dX10_readKind_4 : decode cX10_readKind 4 = .ok (.bipush 8, 2) := by decide +kernel
theorem dX10_readKind_6 : decode cX10_readKind 6 = .ok (.invokevirtual 122, 3) := by decide +kernel
theorem dX10_readKind_9 : decode cX10_readKind 9 = .ok (.ifCond .eq 30, 3) := by decide +kernel
theorem dX10_readKind_12 : decode cX10_readKind 12 = .ok (.aload_n 0, 1) := by decide +kernel
theorem dX10_readKind_13 : decode cX10_readKind 13 = .ok (.bipush 50, 2) := by decide +kernel
theorem dX10_readKind_15 : decode cX10_readKind 15 = .ok (.aload_n 0, 1) := by decide +kernel
theorem dX10_readKind_16 : decode cX10_readKind 16 = .ok (.getfield 16, 3) := by decide +kernel
theorem dX10_readKind_19 : decode cX10_readKind 19 = .ok (.bipush 17, 2) := by decide +kernel
theorem dX10_readKind_21 : decode cX10_readKind 21 = .ok (.iaload, 1) := by decide +kernel
theorem dX10_readKind_22 : decode cX10_readKind 22 = .ok (.iadd, 1) := by decide +kernel
theorem dX10_readKind_23 : decode cX10_readKind 23 = .ok (.iconst 0, 1) := by decide +kernel
theorem dX10_readKind_24 : decode cX10_readKind 24 = .ok (.aload_n 0, 1) := by decide +kernel
theorem dX10_readKind_25 : decode cX10_readKind 25 = .ok (.getfield 16, 3) := by decide +kernel
theorem dX10_readKind_28 : decode cX10_readKind 28 = .ok (.bipush 16, 2) := by decide +kernel
theorem dX10_readKind_30 : decode cX10_readKind 30 = .ok (.iaload, 1) := by decide +kernel
theorem dX10_readKind_31 : decode cX10_readKind 31 = .ok (.iconst 1, 1) := by decide +kernel
theorem dX10_readKind_32 : decode cX10_readKind 32 = .ok (.isub, 1) := by decide +kernel
theorem dX10_readKind_33 : decode cX10_readKind 33 = .ok (.invokevirtual 118, 3) := by decide +kernel
theorem dX10_readKind_36 : decode cX10_readKind 36 = .ok (.ifCond .ne 5, 3) := by decide +kernel
theorem dX10_readKind_39 : decode cX10_readKind 39 = .ok (.iconst 0, 1) := by decide +kernel
theorem dX10_readKind_40 : decode cX10_readKind 40 = .ok (.ireturn, 1) := by decide +kernel
theorem dX10_readKind_41 : decode cX10_readKind 41 = .ok (.aload_n 0, 1) := by decide +kernel
theorem dX10_readKind_42 : decode cX10_readKind 42 = .ok (.getfield 16, 3) := by decide +kernel
theorem dX10_readKind_45 : decode cX10_readKind 45 = .ok (.bipush 17, 2) := by decide +kernel
theorem dX10_readKind_47 : decode cX10_readKind 47 = .ok (.dup2, 1) := by decide +kernel
theorem dX10_readKind_48 : decode cX10_readKind 48 = .ok (.iaload, 1) := by decide +kernel
theorem dX10_readKind_49 : decode cX10_readKind 49 = .ok (.iconst 1, 1) := by decide +kernel
theorem dX10_readKind_50 : decode cX10_readKind 50 = .ok (.iadd, 1) := by decide +kernel
theorem dX10_readKind_51 : decode cX10_readKind 51 = .ok (.iastore, 1) := by decide +kernel
theorem dX10_readKind_52 : decode cX10_readKind 52 = .ok (.iconst 1, 1) := by decide +kernel
theorem dX10_readKind_53 : decode cX10_readKind 53 = .ok (.ireturn, 1) := by decide +kernel
theorem dX10_readFeeder_0 : decode cX10_readFeeder 0 = .ok (.sipush 130, 3) := by decide +kernel
theorem dX10_readFeeder_3 : decode cX10_readFeeder 3 = .ok (.bipush 11, 2) := by decide +kernel
theorem dX10_readFeeder_5 : decode cX10_readFeeder 5 = .ok (.aload_n 0, 1) := by decide +kernel
theorem dX10_readFeeder_6 : decode cX10_readFeeder 6 = .ok (.getfield 16, 3) := by decide +kernel
theorem dX10_readFeeder_9 : decode cX10_readFeeder 9 = .ok (.bipush 18, 2) := by decide +kernel
theorem dX10_readFeeder_11 : decode cX10_readFeeder 11 = .ok (.iaload, 1) := by decide +kernel
theorem dX10_readFeeder_12 : decode cX10_readFeeder 12 = .ok (.imul, 1) := by decide +kernel
theorem dX10_readFeeder_13 : decode cX10_readFeeder 13 = .ok (.iadd, 1) := by decide +kernel
theorem dX10_readFeeder_14 : decode cX10_readFeeder 14 = .ok (.istore_n 2, 1) := by decide +kernel
theorem dX10_readFeeder_15 : decode cX10_readFeeder 15 = .ok (.aload_n 0, 1) := by decide +kernel
theorem dX10_readFeeder_16 : decode cX10_readFeeder 16 = .ok (.iload_n 1, 1) := by decide +kernel
theorem dX10_readFeeder_17 : decode cX10_readFeeder 17 = .ok (.bipush 18, 2) := by decide +kernel
theorem dX10_readFeeder_19 : decode cX10_readFeeder 19 = .ok (.bipush 10, 2) := by decide +kernel
theorem dX10_readFeeder_21 : decode cX10_readFeeder 21 = .ok (.invokevirtual 122, 3) := by decide +kernel
theorem dX10_readFeeder_24 : decode cX10_readFeeder 24 = .ok (.ifCond .eq 64, 3) := by decide +kernel
theorem dX10_readFeeder_27 : decode cX10_readFeeder 27 = .ok (.aload_n 0, 1) := by decide +kernel
theorem dX10_readFeeder_28 : decode cX10_readFeeder 28 = .ok (.iload_n 2, 1) := by decide +kernel
theorem dX10_readFeeder_29 : decode cX10_readFeeder 29 = .ok (.iconst 0, 1) := by decide +kernel
theorem dX10_readFeeder_30 : decode cX10_readFeeder 30 = .ok (.iadd, 1) := by decide +kernel
theorem dX10_readFeeder_31 : decode cX10_readFeeder 31 = .ok (.iconst 0, 1) := by decide +kernel
theorem dX10_readFeeder_32 : decode cX10_readFeeder 32 = .ok (.aload_n 0, 1) := by decide +kernel
theorem dX10_readFeeder_33 : decode cX10_readFeeder 33 = .ok (.getfield 16, 3) := by decide +kernel
theorem dX10_readFeeder_36 : decode cX10_readFeeder 36 = .ok (.bipush 17, 2) := by decide +kernel
theorem dX10_readFeeder_38 : decode cX10_readFeeder 38 = .ok (.iaload, 1) := by decide +kernel
theorem dX10_readFeeder_39 : decode cX10_readFeeder 39 = .ok (.iconst 1, 1) := by decide +kernel
theorem dX10_readFeeder_40 : decode cX10_readFeeder 40 = .ok (.isub, 1) := by decide +kernel
theorem dX10_readFeeder_41 : decode cX10_readFeeder 41 = .ok (.invokevirtual 118, 3) := by decide +kernel
theorem dX10_readFeeder_44 : decode cX10_readFeeder 44 = .ok (.ifCond .eq 44, 3) := by decide +kernel
theorem dX10_readFeeder_47 : decode cX10_readFeeder 47 = .ok (.aload_n 0, 1) := by decide +kernel
theorem dX10_readFeeder_48 : decode cX10_readFeeder 48 = .ok (.iload_n 2, 1) := by decide +kernel
theorem dX10_readFeeder_49 : decode cX10_readFeeder 49 = .ok (.iconst 1, 1) := by decide +kernel
theorem dX10_readFeeder_50 : decode cX10_readFeeder 50 = .ok (.iadd, 1) := by decide +kernel
theorem dX10_readFeeder_51 : decode cX10_readFeeder 51 = .ok (.iconst 0, 1) := by decide +kernel
theorem dX10_readFeeder_52 : decode cX10_readFeeder 52 = .ok (.sipush 999, 3) := by decide +kernel
theorem dX10_readFeeder_55 : decode cX10_readFeeder 55 = .ok (.invokevirtual 118, 3) := by decide +kernel
theorem dX10_readFeeder_58 : decode cX10_readFeeder 58 = .ok (.ifCond .eq 30, 3) := by decide +kernel
theorem dX10_readFeeder_61 : decode cX10_readFeeder 61 = .ok (.aload_n 0, 1) := by decide +kernel
theorem dX10_readFeeder_62 : decode cX10_readFeeder 62 = .ok (.iload_n 2, 1) := by decide +kernel
theorem dX10_readFeeder_63 : decode cX10_readFeeder 63 = .ok (.iconst 2, 1) := by decide +kernel
theorem dX10_readFeeder_64 : decode cX10_readFeeder 64 = .ok (.iadd, 1) := by decide +kernel
theorem dX10_readFeeder_65 : decode cX10_readFeeder 65 = .ok (.iconst 0, 1) := by decide +kernel
theorem dX10_readFeeder_66 : decode cX10_readFeeder 66 = .ok (.sipush 500, 3) := by decide +kernel
theorem dX10_readFeeder_69 : decode cX10_readFeeder 69 = .ok (.invokevirtual 118, 3) := by decide +kernel
theorem dX10_readFeeder_72 : decode cX10_readFeeder 72 = .ok (.ifCond .eq 16, 3) := by decide +kernel
theorem dX10_readFeeder_75 : decode cX10_readFeeder 75 = .ok (.aload_n 0, 1) := by decide +kernel
theorem dX10_readFeeder_76 : decode cX10_readFeeder 76 = .ok (.iload_n 2, 1) := by decide +kernel
theorem dX10_readFeeder_77 : decode cX10_readFeeder 77 = .ok (.iconst 3, 1) := by decide +kernel
theorem dX10_readFeeder_78 : decode cX10_readFeeder 78 = .ok (.iadd, 1) := by decide +kernel
theorem dX10_readFeeder_79 : decode cX10_readFeeder 79 = .ok (.iconst 0, 1) := by decide +kernel
theorem dX10_readFeeder_80 : decode cX10_readFeeder 80 = .ok (.bipush 100, 2) := by decide +kernel
theorem dX10_readFeeder_82 : decode cX10_readFeeder 82 = .ok (.invokevirtual 118, 3) := by decide +kernel
theorem dX10_readFeeder_85 : decode cX10_readFeeder 85 = .ok (.ifCond .ne 5, 3) := by decide +kernel
theorem dX10_readFeeder_88 : decode cX10_readFeeder 88 = .ok (.iconst 0, 1) := by decide +kernel
theorem dX10_readFeeder_89 : decode cX10_readFeeder 89 = .ok (.ireturn, 1) := by decide +kernel
theorem dX10_readFeeder_90 : decode cX10_readFeeder 90 = .ok (.aload_n 0, 1) := by decide +kernel
theorem dX10_readFeeder_91 : decode cX10_readFeeder 91 = .ok (.getfield 16, 3) := by decide +kernel
theorem dX10_readFeeder_94 : decode cX10_readFeeder 94 = .ok (.bipush 90, 2) := by decide +kernel
theorem dX10_readFeeder_96 : decode cX10_readFeeder 96 = .ok (.iconst 5, 1) := by decide +kernel
theorem dX10_readFeeder_97 : decode cX10_readFeeder 97 = .ok (.aload_n 0, 1) := by decide +kernel
theorem dX10_readFeeder_98 : decode cX10_readFeeder 98 = .ok (.getfield 16, 3) := by decide +kernel
theorem dX10_readFeeder_101 : decode cX10_readFeeder 101 = .ok (.iload_n 2, 1) := by decide +kernel
theorem dX10_readFeeder_102 : decode cX10_readFeeder 102 = .ok (.iconst 0, 1) := by decide +kernel
theorem dX10_readFeeder_103 : decode cX10_readFeeder 103 = .ok (.iadd, 1) := by decide +kernel
theorem dX10_readFeeder_104 : decode cX10_readFeeder 104 = .ok (.iaload, 1) := by decide +kernel
theorem dX10_readFeeder_105 : decode cX10_readFeeder 105 = .ok (.imul, 1) := by decide +kernel
theorem dX10_readFeeder_106 : decode cX10_readFeeder 106 = .ok (.iadd, 1) := by decide +kernel
theorem dX10_readFeeder_107 : decode cX10_readFeeder 107 = .ok (.iconst 0, 1) := by decide +kernel
theorem dX10_readFeeder_108 : decode cX10_readFeeder 108 = .ok (.iadd, 1) := by decide +kernel
theorem dX10_readFeeder_109 : decode cX10_readFeeder 109 = .ok (.dup2, 1) := by decide +kernel
theorem dX10_readFeeder_110 : decode cX10_readFeeder 110 = .ok (.iaload, 1) := by decide +kernel
theorem dX10_readFeeder_111 : decode cX10_readFeeder 111 = .ok (.aload_n 0, 1) := by decide +kernel
theorem dX10_readFeeder_112 : decode cX10_readFeeder 112 = .ok (.getfield 16, 3) := by decide +kernel
theorem dX10_readFeeder_115 : decode cX10_readFeeder 115 = .ok (.iload_n 2, 1) := by decide +kernel
theorem dX10_readFeeder_116 : decode cX10_readFeeder 116 = .ok (.iconst 2, 1) := by decide +kernel
theorem dX10_readFeeder_117 : decode cX10_readFeeder 117 = .ok (.iadd, 1) := by decide +kernel
theorem dX10_readFeeder_118 : decode cX10_readFeeder 118 = .ok (.iaload, 1) := by decide +kernel
theorem dX10_readFeeder_119 : decode cX10_readFeeder 119 = .ok (.iadd, 1) := by decide +kernel
theorem dX10_readFeeder_120 : decode cX10_readFeeder 120 = .ok (.iastore, 1) := by decide +kernel
theorem dX10_readFeeder_121 : decode cX10_readFeeder 121 = .ok (.aload_n 0, 1) := by decide +kernel
theorem dX10_readFeeder_122 : decode cX10_readFeeder 122 = .ok (.getfield 16, 3) := by decide +kernel
theorem dX10_readFeeder_125 : decode cX10_readFeeder 125 = .ok (.bipush 18, 2) := by decide +kernel
theorem dX10_readFeeder_127 : decode cX10_readFeeder 127 = .ok (.dup2, 1) := by decide +kernel
theorem dX10_readFeeder_128 : decode cX10_readFeeder 128 = .ok (.iaload, 1) := by decide +kernel
theorem dX10_readFeeder_129 : decode cX10_readFeeder 129 = .ok (.iconst 1, 1) := by decide +kernel
theorem dX10_readFeeder_130 : decode cX10_readFeeder 130 = .ok (.iadd, 1) := by decide +kernel
theorem dX10_readFeeder_131 : decode cX10_readFeeder 131 = .ok (.iastore, 1) := by decide +kernel
theorem dX10_readFeeder_132 : decode cX10_readFeeder 132 = .ok (.iconst 1, 1) := by decide +kernel
theorem dX10_readFeeder_133 : decode cX10_readFeeder 133 = .ok (.ireturn, 1) := by decide +kernel
theorem dX10_readSpot_0 : decode cX10_readSpot 0 = .ok (.sipush 240, 3) := by decide +kernel
theorem dX10_readSpot_3 : decode cX10_readSpot 3 = .ok (.bipush 6, 2) := by decide +kernel
theorem dX10_readSpot_5 : decode cX10_readSpot 5 = .ok (.aload_n 0, 1) := by decide +kernel
theorem dX10_readSpot_6 : decode cX10_readSpot 6 = .ok (.getfield 16, 3) := by decide +kernel
theorem dX10_readSpot_9 : decode cX10_readSpot 9 = .ok (.bipush 19, 2) := by decide +kernel
theorem dX10_readSpot_11 : decode cX10_readSpot 11 = .ok (.iaload, 1) := by decide +kernel
theorem dX10_readSpot_12 : decode cX10_readSpot 12 = .ok (.imul, 1) := by decide +kernel
theorem dX10_readSpot_13 : decode cX10_readSpot 13 = .ok (.iadd, 1) := by decide +kernel
theorem dX10_readSpot_14 : decode cX10_readSpot 14 = .ok (.istore_n 2, 1) := by decide +kernel
theorem dX10_readSpot_15 : decode cX10_readSpot 15 = .ok (.aload_n 0, 1) := by decide +kernel
theorem dX10_readSpot_16 : decode cX10_readSpot 16 = .ok (.iload_n 1, 1) := by decide +kernel
theorem dX10_readSpot_17 : decode cX10_readSpot 17 = .ok (.bipush 19, 2) := by decide +kernel
theorem dX10_readSpot_19 : decode cX10_readSpot 19 = .ok (.bipush 40, 2) := by decide +kernel
theorem dX10_readSpot_21 : decode cX10_readSpot 21 = .ok (.invokevirtual 122, 3) := by decide +kernel
theorem dX10_readSpot_24 : decode cX10_readSpot 24 = .ok (.ifCond .eq 49, 3) := by decide +kernel
theorem dX10_readSpot_27 : decode cX10_readSpot 27 = .ok (.aload_n 0, 1) := by decide +kernel
theorem dX10_readSpot_28 : decode cX10_readSpot 28 = .ok (.iload_n 2, 1) := by decide +kernel
theorem dX10_readSpot_29 : decode cX10_readSpot 29 = .ok (.iconst 0, 1) := by decide +kernel
theorem dX10_readSpot_30 : decode cX10_readSpot 30 = .ok (.aload_n 0, 1) := by decide +kernel
theorem dX10_readSpot_31 : decode cX10_readSpot 31 = .ok (.getfield 16, 3) := by decide +kernel
theorem dX10_readSpot_34 : decode cX10_readSpot 34 = .ok (.bipush 17, 2) := by decide +kernel
theorem dX10_readSpot_36 : decode cX10_readSpot 36 = .ok (.iaload, 1) := by decide +kernel
theorem dX10_readSpot_37 : decode cX10_readSpot 37 = .ok (.iconst 1, 1) := by decide +kernel
theorem dX10_readSpot_38 : decode cX10_readSpot 38 = .ok (.isub, 1) := by decide +kernel
theorem dX10_readSpot_39 : decode cX10_readSpot 39 = .ok (.invokevirtual 118, 3) := by decide +kernel
theorem dX10_readSpot_42 : decode cX10_readSpot 42 = .ok (.ifCond .eq 31, 3) := by decide +kernel
theorem dX10_readSpot_45 : decode cX10_readSpot 45 = .ok (.aload_n 0, 1) := by decide +kernel
theorem dX10_readSpot_46 : decode cX10_readSpot 46 = .ok (.iload_n 2, 1) := by decide +kernel
theorem dX10_readSpot_47 : decode cX10_readSpot 47 = .ok (.iconst 1, 1) := by decide +kernel
theorem dX10_readSpot_48 : decode cX10_readSpot 48 = .ok (.iadd, 1) := by decide +kernel
theorem dX10_readSpot_49 : decode cX10_readSpot 49 = .ok (.iconst 0, 1) := by decide +kernel
theorem dX10_readSpot_50 : decode cX10_readSpot 50 = .ok (.sipush 999, 3) := by decide +kernel
theorem dX10_readSpot_53 : decode cX10_readSpot 53 = .ok (.invokevirtual 118, 3) := by decide +kernel
theorem dX10_readSpot_56 : decode cX10_readSpot 56 = .ok (.ifCond .eq 17, 3) := by decide +kernel
theorem dX10_readSpot_59 : decode cX10_readSpot 59 = .ok (.aload_n 0, 1) := by decide +kernel
theorem dX10_readSpot_60 : decode cX10_readSpot 60 = .ok (.iload_n 2, 1) := by decide +kernel
theorem dX10_readSpot_61 : decode cX10_readSpot 61 = .ok (.iconst 2, 1) := by decide +kernel
theorem dX10_readSpot_62 : decode cX10_readSpot 62 = .ok (.iadd, 1) := by decide +kernel
theorem dX10_readSpot_63 : decode cX10_readSpot 63 = .ok (.iconst 0, 1) := by decide +kernel
theorem dX10_readSpot_64 : decode cX10_readSpot 64 = .ok (.sipush 999, 3) := by decide +kernel
theorem dX10_readSpot_67 : decode cX10_readSpot 67 = .ok (.invokevirtual 118, 3) := by decide +kernel
theorem dX10_readSpot_70 : decode cX10_readSpot 70 = .ok (.ifCond .ne 5, 3) := by decide +kernel
theorem dX10_readSpot_73 : decode cX10_readSpot 73 = .ok (.iconst 0, 1) := by decide +kernel
theorem dX10_readSpot_74 : decode cX10_readSpot 74 = .ok (.ireturn, 1) := by decide +kernel
theorem dX10_readSpot_75 : decode cX10_readSpot 75 = .ok (.aload_n 0, 1) := by decide +kernel
theorem dX10_readSpot_76 : decode cX10_readSpot 76 = .ok (.getfield 16, 3) := by decide +kernel
theorem dX10_readSpot_79 : decode cX10_readSpot 79 = .ok (.bipush 19, 2) := by decide +kernel
theorem dX10_readSpot_81 : decode cX10_readSpot 81 = .ok (.dup2, 1) := by decide +kernel
theorem dX10_readSpot_82 : decode cX10_readSpot 82 = .ok (.iaload, 1) := by decide +kernel
theorem dX10_readSpot_83 : decode cX10_readSpot 83 = .ok (.iconst 1, 1) := by decide +kernel
theorem dX10_readSpot_84 : decode cX10_readSpot 84 = .ok (.iadd, 1) := by decide +kernel
theorem dX10_readSpot_85 : decode cX10_readSpot 85 = .ok (.iastore, 1) := by decide +kernel
theorem dX10_readSpot_86 : decode cX10_readSpot 86 = .ok (.iconst 1, 1) := by decide +kernel
theorem dX10_readSpot_87 : decode cX10_readSpot 87 = .ok (.ireturn, 1) := by decide +kernel
theorem dX10_pairIn_0 : decode cX10_pairIn 0 = .ok (.iconst 0, 1) := by decide +kernel
theorem dX10_pairIn_1 : decode cX10_pairIn 1 = .ok (.istore_n 3, 1) := by decide +kernel
theorem dX10_pairIn_2 : decode cX10_pairIn 2 = .ok (.iload_n 3, 1) := by decide +kernel
theorem dX10_pairIn_3 : decode cX10_pairIn 3 = .ok (.aload_n 0, 1) := by decide +kernel
theorem dX10_pairIn_4 : decode cX10_pairIn 4 = .ok (.bipush 20, 2) := by decide +kernel
theorem dX10_pairIn_6 : decode cX10_pairIn 6 = .ok (.iaload, 1) := by decide +kernel
theorem dX10_pairIn_7 : decode cX10_pairIn 7 = .ok (.if_icmp .ge 39, 3) := by decide +kernel
theorem dX10_pairIn_10 : decode cX10_pairIn 10 = .ok (.aload_n 0, 1) := by decide +kernel
theorem dX10_pairIn_11 : decode cX10_pairIn 11 = .ok (.sipush 600, 3) := by decide +kernel
theorem dX10_pairIn_14 : decode cX10_pairIn 14 = .ok (.iconst 2, 1) := by decide +kernel
theorem dX10_pairIn_15 : decode cX10_pairIn 15 = .ok (.iload_n 3, 1) := by decide +kernel
theorem dX10_pairIn_16 : decode cX10_pairIn 16 = .ok (.imul, 1) := by decide +kernel
theorem dX10_pairIn_17 : decode cX10_pairIn 17 = .ok (.iadd, 1) := by decide +kernel
theorem dX10_pairIn_18 : decode cX10_pairIn 18 = .ok (.iaload, 1) := by decide +kernel
theorem dX10_pairIn_19 : decode cX10_pairIn 19 = .ok (.iload_n 1, 1) := by decide +kernel
theorem dX10_pairIn_20 : decode cX10_pairIn 20 = .ok (.if_icmp .ne 20, 3) := by decide +kernel
theorem dX10_pairIn_23 : decode cX10_pairIn 23 = .ok (.aload_n 0, 1) := by decide +kernel
theorem dX10_pairIn_24 : decode cX10_pairIn 24 = .ok (.sipush 600, 3) := by decide +kernel
theorem dX10_pairIn_27 : decode cX10_pairIn 27 = .ok (.iconst 2, 1) := by decide +kernel
theorem dX10_pairIn_28 : decode cX10_pairIn 28 = .ok (.iload_n 3, 1) := by decide +kernel
theorem dX10_pairIn_29 : decode cX10_pairIn 29 = .ok (.imul, 1) := by decide +kernel
theorem dX10_pairIn_30 : decode cX10_pairIn 30 = .ok (.iadd, 1) := by decide +kernel
theorem dX10_pairIn_31 : decode cX10_pairIn 31 = .ok (.iconst 1, 1) := by decide +kernel
theorem dX10_pairIn_32 : decode cX10_pairIn 32 = .ok (.iadd, 1) := by decide +kernel
theorem dX10_pairIn_33 : decode cX10_pairIn 33 = .ok (.iaload, 1) := by decide +kernel
theorem dX10_pairIn_34 : decode cX10_pairIn 34 = .ok (.iload_n 2, 1) := by decide +kernel
theorem dX10_pairIn_35 : decode cX10_pairIn 35 = .ok (.if_icmp .ne 5, 3) := by decide +kernel
theorem dX10_pairIn_38 : decode cX10_pairIn 38 = .ok (.iload_n 3, 1) := by decide +kernel
theorem dX10_pairIn_39 : decode cX10_pairIn 39 = .ok (.ireturn, 1) := by decide +kernel
theorem dX10_pairIn_40 : decode cX10_pairIn 40 = .ok (.iinc 3 1, 3) := by decide +kernel
theorem dX10_pairIn_43 : decode cX10_pairIn 43 = .ok (.goto (-41), 3) := by decide +kernel
theorem dX10_pairIn_46 : decode cX10_pairIn 46 = .ok (.iconst (-1), 1) := by decide +kernel
theorem dX10_pairIn_47 : decode cX10_pairIn 47 = .ok (.ireturn, 1) := by decide +kernel
theorem dX10_leads_0 : decode cX10_leads 0 = .ok (.lconst 1, 1) := by decide +kernel
theorem dX10_leads_1 : decode cX10_leads 1 = .ok (.iload_n 1, 1) := by decide +kernel
theorem dX10_leads_2 : decode cX10_leads 2 = .ok (.lshl, 1) := by decide +kernel
theorem dX10_leads_3 : decode cX10_leads 3 = .ok (.lstore_n 3, 1) := by decide +kernel
theorem dX10_leads_4 : decode cX10_leads 4 = .ok (.iconst 0, 1) := by decide +kernel
theorem dX10_leads_5 : decode cX10_leads 5 = .ok (.istore 5, 2) := by decide +kernel
theorem dX10_leads_7 : decode cX10_leads 7 = .ok (.iload 5, 2) := by decide +kernel
theorem dX10_leads_9 : decode cX10_leads 9 = .ok (.aload_n 0, 1) := by decide +kernel
theorem dX10_leads_10 : decode cX10_leads 10 = .ok (.bipush 20, 2) := by decide +kernel
theorem dX10_leads_12 : decode cX10_leads 12 = .ok (.iaload, 1) := by decide +kernel
theorem dX10_leads_13 : decode cX10_leads 13 = .ok (.if_icmp .ge 57, 3) := by decide +kernel
theorem dX10_leads_16 : decode cX10_leads 16 = .ok (.iconst 0, 1) := by decide +kernel
theorem dX10_leads_17 : decode cX10_leads 17 = .ok (.istore 6, 2) := by decide +kernel
theorem dX10_leads_19 : decode cX10_leads 19 = .ok (.iload 6, 2) := by decide +kernel
theorem dX10_leads_21 : decode cX10_leads 21 = .ok (.aload_n 0, 1) := by decide +kernel
theorem dX10_leads_22 : decode cX10_leads 22 = .ok (.bipush 20, 2) := by decide +kernel
theorem dX10_leads_24 : decode cX10_leads 24 = .ok (.iaload, 1) := by decide +kernel
theorem dX10_leads_25 : decode cX10_leads 25 = .ok (.if_icmp .ge 39, 3) := by decide +kernel
theorem dX10_leads_28 : decode cX10_leads 28 = .ok (.lload_n 3, 1) := by decide +kernel
theorem dX10_leads_29 : decode cX10_leads 29 = .ok (.lload_n 3, 1) := by decide +kernel
theorem dX10_leads_30 : decode cX10_leads 30 = .ok (.aload_n 0, 1) := by decide +kernel
theorem dX10_leads_31 : decode cX10_leads 31 = .ok (.sipush 600, 3) := by decide +kernel
theorem dX10_leads_34 : decode cX10_leads 34 = .ok (.iconst 2, 1) := by decide +kernel
theorem dX10_leads_35 : decode cX10_leads 35 = .ok (.iload 6, 2) := by decide +kernel
theorem dX10_leads_37 : decode cX10_leads 37 = .ok (.imul, 1) := by decide +kernel
theorem dX10_leads_38 : decode cX10_leads 38 = .ok (.iadd, 1) := by decide +kernel
theorem dX10_leads_39 : decode cX10_leads 39 = .ok (.iaload, 1) := by decide +kernel
theorem dX10_leads_40 : decode cX10_leads 40 = .ok (.lshr, 1) := by decide +kernel
theorem dX10_leads_41 : decode cX10_leads 41 = .ok (.lconst 1, 1) := by decide +kernel
theorem dX10_leads_42 : decode cX10_leads 42 = .ok (.land, 1) := by decide +kernel
theorem dX10_leads_43 : decode cX10_leads 43 = .ok (.aload_n 0, 1) := by decide +kernel
theorem dX10_leads_44 : decode cX10_leads 44 = .ok (.sipush 600, 3) := by decide +kernel
theorem dX10_leads_47 : decode cX10_leads 47 = .ok (.iconst 2, 1) := by decide +kernel
theorem dX10_leads_48 : decode cX10_leads 48 = .ok (.iload 6, 2) := by decide +kernel
theorem dX10_leads_50 : decode cX10_leads 50 = .ok (.imul, 1) := by decide +kernel
theorem dX10_leads_51 : decode cX10_leads 51 = .ok (.iadd, 1) := by decide +kernel
theorem dX10_leads_52 : decode cX10_leads 52 = .ok (.iconst 1, 1) := by decide +kernel
theorem dX10_leads_53 : decode cX10_leads 53 = .ok (.iadd, 1) := by decide +kernel
theorem dX10_leads_54 : decode cX10_leads 54 = .ok (.iaload, 1) := by decide +kernel
theorem dX10_leads_55 : decode cX10_leads 55 = .ok (.lshl, 1) := by decide +kernel
theorem dX10_leads_56 : decode cX10_leads 56 = .ok (.lor, 1) := by decide +kernel
theorem dX10_leads_57 : decode cX10_leads 57 = .ok (.lstore_n 3, 1) := by decide +kernel
theorem dX10_leads_58 : decode cX10_leads 58 = .ok (.iinc 6 1, 3) := by decide +kernel
theorem dX10_leads_61 : decode cX10_leads 61 = .ok (.goto (-42), 3) := by decide +kernel
theorem dX10_leads_64 : decode cX10_leads 64 = .ok (.iinc 5 1, 3) := by decide +kernel
theorem dX10_leads_67 : decode cX10_leads 67 = .ok (.goto (-60), 3) := by decide +kernel
theorem dX10_leads_70 : decode cX10_leads 70 = .ok (.lload_n 3, 1) := by decide +kernel
theorem dX10_leads_71 : decode cX10_leads 71 = .ok (.iload_n 2, 1) := by decide +kernel
theorem dX10_leads_72 : decode cX10_leads 72 = .ok (.lshr, 1) := by decide +kernel
theorem dX10_leads_73 : decode cX10_leads 73 = .ok (.lconst 1, 1) := by decide +kernel
theorem dX10_leads_74 : decode cX10_leads 74 = .ok (.land, 1) := by decide +kernel
theorem dX10_leads_75 : decode cX10_leads 75 = .ok (.lconst 1, 1) := by decide +kernel
theorem dX10_leads_76 : decode cX10_leads 76 = .ok (.lcmp, 1) := by decide +kernel
theorem dX10_leads_77 : decode cX10_leads 77 = .ok (.ifCond .ne 7, 3) := by decide +kernel
theorem dX10_leads_80 : decode cX10_leads 80 = .ok (.iconst 1, 1) := by decide +kernel
theorem dX10_leads_81 : decode cX10_leads 81 = .ok (.goto 4, 3) := by decide +kernel
theorem dX10_leads_84 : decode cX10_leads 84 = .ok (.iconst 0, 1) := by decide +kernel
theorem dX10_leads_85 : decode cX10_leads 85 = .ok (.ireturn, 1) := by decide +kernel
theorem dX10_addsPair_0 : decode cX10_addsPair 0 = .ok (.aload_n 0, 1) := by decide +kernel
theorem dX10_addsPair_1 : decode cX10_addsPair 1 = .ok (.sipush 600, 3) := by decide +kernel
theorem dX10_addsPair_4 : decode cX10_addsPair 4 = .ok (.iconst 2, 1) := by decide +kernel
theorem dX10_addsPair_5 : decode cX10_addsPair 5 = .ok (.aload_n 0, 1) := by decide +kernel
theorem dX10_addsPair_6 : decode cX10_addsPair 6 = .ok (.bipush 20, 2) := by decide +kernel
theorem dX10_addsPair_8 : decode cX10_addsPair 8 = .ok (.iaload, 1) := by decide +kernel
theorem dX10_addsPair_9 : decode cX10_addsPair 9 = .ok (.imul, 1) := by decide +kernel
theorem dX10_addsPair_10 : decode cX10_addsPair 10 = .ok (.iadd, 1) := by decide +kernel
theorem dX10_addsPair_11 : decode cX10_addsPair 11 = .ok (.iload_n 1, 1) := by decide +kernel
theorem dX10_addsPair_12 : decode cX10_addsPair 12 = .ok (.iastore, 1) := by decide +kernel
theorem dX10_addsPair_13 : decode cX10_addsPair 13 = .ok (.aload_n 0, 1) := by decide +kernel
theorem dX10_addsPair_14 : decode cX10_addsPair 14 = .ok (.sipush 600, 3) := by decide +kernel
theorem dX10_addsPair_17 : decode cX10_addsPair 17 = .ok (.iconst 2, 1) := by decide +kernel
theorem dX10_addsPair_18 : decode cX10_addsPair 18 = .ok (.aload_n 0, 1) := by decide +kernel
theorem dX10_addsPair_19 : decode cX10_addsPair 19 = .ok (.bipush 20, 2) := by decide +kernel
theorem dX10_addsPair_21 : decode cX10_addsPair 21 = .ok (.iaload, 1) := by decide +kernel
theorem dX10_addsPair_22 : decode cX10_addsPair 22 = .ok (.imul, 1) := by decide +kernel
theorem dX10_addsPair_23 : decode cX10_addsPair 23 = .ok (.iadd, 1) := by decide +kernel
theorem dX10_addsPair_24 : decode cX10_addsPair 24 = .ok (.iconst 1, 1) := by decide +kernel
theorem dX10_addsPair_25 : decode cX10_addsPair 25 = .ok (.iadd, 1) := by decide +kernel
theorem dX10_addsPair_26 : decode cX10_addsPair 26 = .ok (.iload_n 2, 1) := by decide +kernel
theorem dX10_addsPair_27 : decode cX10_addsPair 27 = .ok (.iastore, 1) := by decide +kernel
theorem dX10_addsPair_28 : decode cX10_addsPair 28 = .ok (.aload_n 0, 1) := by decide +kernel
theorem dX10_addsPair_29 : decode cX10_addsPair 29 = .ok (.bipush 20, 2) := by decide +kernel
theorem dX10_addsPair_31 : decode cX10_addsPair 31 = .ok (.dup2, 1) := by decide +kernel
theorem dX10_addsPair_32 : decode cX10_addsPair 32 = .ok (.iaload, 1) := by decide +kernel
theorem dX10_addsPair_33 : decode cX10_addsPair 33 = .ok (.iconst 1, 1) := by decide +kernel
theorem dX10_addsPair_34 : decode cX10_addsPair 34 = .ok (.iadd, 1) := by decide +kernel
theorem dX10_addsPair_35 : decode cX10_addsPair 35 = .ok (.iastore, 1) := by decide +kernel
theorem dX10_addsPair_36 : decode cX10_addsPair 36 = .ok (.return_, 1) := by decide +kernel
theorem dX10_readBefore_0 : decode cX10_readBefore 0 = .ok (.aload_n 0, 1) := by decide +kernel
theorem dX10_readBefore_1 : decode cX10_readBefore 1 = .ok (.iload_n 1, 1) := by decide +kernel
theorem dX10_readBefore_2 : decode cX10_readBefore 2 = .ok (.bipush 20, 2) := by decide +kernel
theorem dX10_readBefore_4 : decode cX10_readBefore 4 = .ok (.bipush 20, 2) := by decide +kernel
theorem dX10_readBefore_6 : decode cX10_readBefore 6 = .ok (.invokevirtual 122, 3) := by decide +kernel
theorem dX10_readBefore_9 : decode cX10_readBefore 9 = .ok (.ifCond .eq 20, 3) := by decide +kernel
theorem dX10_readBefore_12 : decode cX10_readBefore 12 = .ok (.aload_n 0, 1) := by decide +kernel
theorem dX10_readBefore_13 : decode cX10_readBefore 13 = .ok (.iconst 0, 1) := by decide +kernel
theorem dX10_readBefore_14 : decode cX10_readBefore 14 = .ok (.aload_n 0, 1) := by decide +kernel
theorem dX10_readBefore_15 : decode cX10_readBefore 15 = .ok (.getfield 16, 3) := by decide +kernel
theorem dX10_readBefore_18 : decode cX10_readBefore 18 = .ok (.bipush 19, 2) := by decide +kernel
theorem dX10_readBefore_20 : decode cX10_readBefore 20 = .ok (.iaload, 1) := by decide +kernel
theorem dX10_readBefore_21 : decode cX10_readBefore 21 = .ok (.iconst 1, 1) := by decide +kernel
theorem dX10_readBefore_22 : decode cX10_readBefore 22 = .ok (.isub, 1) := by decide +kernel
theorem dX10_readBefore_23 : decode cX10_readBefore 23 = .ok (.invokevirtual 114, 3) := by decide +kernel
theorem dX10_readBefore_26 : decode cX10_readBefore 26 = .ok (.ifCond .ne 5, 3) := by decide +kernel
theorem dX10_readBefore_29 : decode cX10_readBefore 29 = .ok (.iconst 0, 1) := by decide +kernel
theorem dX10_readBefore_30 : decode cX10_readBefore 30 = .ok (.ireturn, 1) := by decide +kernel
theorem dX10_readBefore_31 : decode cX10_readBefore 31 = .ok (.aload_n 0, 1) := by decide +kernel
theorem dX10_readBefore_32 : decode cX10_readBefore 32 = .ok (.getfield 111, 3) := by decide +kernel
theorem dX10_readBefore_35 : decode cX10_readBefore 35 = .ok (.istore_n 2, 1) := by decide +kernel
theorem dX10_readBefore_36 : decode cX10_readBefore 36 = .ok (.aload_n 0, 1) := by decide +kernel
theorem dX10_readBefore_37 : decode cX10_readBefore 37 = .ok (.iconst 0, 1) := by decide +kernel
theorem dX10_readBefore_38 : decode cX10_readBefore 38 = .ok (.aload_n 0, 1) := by decide +kernel
theorem dX10_readBefore_39 : decode cX10_readBefore 39 = .ok (.getfield 16, 3) := by decide +kernel
theorem dX10_readBefore_42 : decode cX10_readBefore 42 = .ok (.bipush 19, 2) := by decide +kernel
theorem dX10_readBefore_44 : decode cX10_readBefore 44 = .ok (.iaload, 1) := by decide +kernel
theorem dX10_readBefore_45 : decode cX10_readBefore 45 = .ok (.iconst 1, 1) := by decide +kernel
theorem dX10_readBefore_46 : decode cX10_readBefore 46 = .ok (.isub, 1) := by decide +kernel
theorem dX10_readBefore_47 : decode cX10_readBefore 47 = .ok (.invokevirtual 114, 3) := by decide +kernel
theorem dX10_readBefore_50 : decode cX10_readBefore 50 = .ok (.ifCond .ne 5, 3) := by decide +kernel
theorem dX10_readBefore_53 : decode cX10_readBefore 53 = .ok (.iconst 0, 1) := by decide +kernel
theorem dX10_readBefore_54 : decode cX10_readBefore 54 = .ok (.ireturn, 1) := by decide +kernel
theorem dX10_readBefore_55 : decode cX10_readBefore 55 = .ok (.aload_n 0, 1) := by decide +kernel
theorem dX10_readBefore_56 : decode cX10_readBefore 56 = .ok (.getfield 16, 3) := by decide +kernel
theorem dX10_readBefore_59 : decode cX10_readBefore 59 = .ok (.aload_n 0, 1) := by decide +kernel
theorem dX10_readBefore_60 : decode cX10_readBefore 60 = .ok (.getfield 111, 3) := by decide +kernel
theorem dX10_readBefore_63 : decode cX10_readBefore 63 = .ok (.iload_n 2, 1) := by decide +kernel
theorem dX10_readBefore_64 : decode cX10_readBefore 64 = .ok (.invokestatic 125, 3) := by decide +kernel
theorem dX10_readBefore_67 : decode cX10_readBefore 67 = .ok (.ifCond .eq 9, 3) := by decide +kernel
theorem dX10_readBefore_70 : decode cX10_readBefore 70 = .ok (.aload_n 0, 1) := by decide +kernel
theorem dX10_readBefore_71 : decode cX10_readBefore 71 = .ok (.iconst 4, 1) := by decide +kernel
theorem dX10_readBefore_72 : decode cX10_readBefore 72 = .ok (.invokevirtual 98, 3) := by decide +kernel
theorem dX10_readBefore_75 : decode cX10_readBefore 75 = .ok (.ireturn, 1) := by decide +kernel
theorem dX10_readBefore_76 : decode cX10_readBefore 76 = .ok (.aload_n 0, 1) := by decide +kernel
theorem dX10_readBefore_77 : decode cX10_readBefore 77 = .ok (.getfield 16, 3) := by decide +kernel
theorem dX10_readBefore_80 : decode cX10_readBefore 80 = .ok (.iload_n 2, 1) := by decide +kernel
theorem dX10_readBefore_81 : decode cX10_readBefore 81 = .ok (.aload_n 0, 1) := by decide +kernel
theorem dX10_readBefore_82 : decode cX10_readBefore 82 = .ok (.getfield 111, 3) := by decide +kernel
theorem dX10_readBefore_85 : decode cX10_readBefore 85 = .ok (.invokestatic 129, 3) := by decide +kernel
theorem dX10_readBefore_88 : decode cX10_readBefore 88 = .ok (.iconst (-1), 1) := by decide +kernel
theorem dX10_readBefore_89 : decode cX10_readBefore 89 = .ok (.if_icmp .ne 15, 3) := by decide +kernel
theorem dX10_readBefore_92 : decode cX10_readBefore 92 = .ok (.aload_n 0, 1) := by decide +kernel
theorem dX10_readBefore_93 : decode cX10_readBefore 93 = .ok (.getfield 16, 3) := by decide +kernel
theorem dX10_readBefore_96 : decode cX10_readBefore 96 = .ok (.iload_n 2, 1) := by decide +kernel
theorem dX10_readBefore_97 : decode cX10_readBefore 97 = .ok (.aload_n 0, 1) := by decide +kernel
theorem dX10_readBefore_98 : decode cX10_readBefore 98 = .ok (.getfield 111, 3) := by decide +kernel
theorem dX10_readBefore_101 : decode cX10_readBefore 101 = .ok (.invokestatic 133, 3) := by decide +kernel
theorem dX10_readBefore_104 : decode cX10_readBefore 104 = .ok (.iconst 1, 1) := by decide +kernel
theorem dX10_readBefore_105 : decode cX10_readBefore 105 = .ok (.ireturn, 1) := by decide +kernel
theorem dX10_readStatement_0 : decode cX10_readStatement 0 = .ok (.aload_n 0, 1) := by decide +kernel
theorem dX10_readStatement_1 : decode cX10_readStatement 1 = .ok (.invokevirtual 79, 3) := by decide +kernel
theorem dX10_readStatement_4 : decode cX10_readStatement 4 = .ok (.pop, 1) := by decide +kernel
theorem dX10_readStatement_5 : decode cX10_readStatement 5 = .ok (.aload_n 0, 1) := by decide +kernel
theorem dX10_readStatement_6 : decode cX10_readStatement 6 = .ok (.getfield 70, 3) := by decide +kernel
theorem dX10_readStatement_9 : decode cX10_readStatement 9 = .ok (.istore_n 1, 1) := by decide +kernel
theorem dX10_readStatement_10 : decode cX10_readStatement 10 = .ok (.aload_n 0, 1) := by decide +kernel
theorem dX10_readStatement_11 : decode cX10_readStatement 11 = .ok (.ldc 137, 2) := by decide +kernel
theorem dX10_readStatement_13 : decode cX10_readStatement 13 = .ok (.invokevirtual 139, 3) := by decide +kernel
theorem dX10_readStatement_16 : decode cX10_readStatement 16 = .ok (.ifCond .eq 8, 3) := by decide +kernel
theorem dX10_readStatement_19 : decode cX10_readStatement 19 = .ok (.aload_n 0, 1) := by decide +kernel
theorem dX10_readStatement_20 : decode cX10_readStatement 20 = .ok (.invokevirtual 143, 3) := by decide +kernel
theorem dX10_readStatement_23 : decode cX10_readStatement 23 = .ok (.ireturn, 1) := by decide +kernel
theorem dX10_readStatement_24 : decode cX10_readStatement 24 = .ok (.aload_n 0, 1) := by decide +kernel
theorem dX10_readStatement_25 : decode cX10_readStatement 25 = .ok (.ldc 147, 2) := by decide +kernel
theorem dX10_readStatement_27 : decode cX10_readStatement 27 = .ok (.invokevirtual 139, 3) := by decide +kernel
theorem dX10_readStatement_30 : decode cX10_readStatement 30 = .ok (.ifCond .eq 50, 3) := by decide +kernel
theorem dX10_readStatement_33 : decode cX10_readStatement 33 = .ok (.aload_n 0, 1) := by decide +kernel
theorem dX10_readStatement_34 : decode cX10_readStatement 34 = .ok (.iconst 5, 1) := by decide +kernel
theorem dX10_readStatement_35 : decode cX10_readStatement 35 = .ok (.iconst 0, 1) := by decide +kernel
theorem dX10_readStatement_36 : decode cX10_readStatement 36 = .ok (.bipush 100, 2) := by decide +kernel
theorem dX10_readStatement_38 : decode cX10_readStatement 38 = .ok (.invokevirtual 118, 3) := by decide +kernel
theorem dX10_readStatement_41 : decode cX10_readStatement 41 = .ok (.ifCond .eq 37, 3) := by decide +kernel
theorem dX10_readStatement_44 : decode cX10_readStatement 44 = .ok (.aload_n 0, 1) := by decide +kernel
theorem dX10_readStatement_45 : decode cX10_readStatement 45 = .ok (.bipush 6, 2) := by decide +kernel
theorem dX10_readStatement_47 : decode cX10_readStatement 47 = .ok (.iconst 0, 1) := by decide +kernel
theorem dX10_readStatement_48 : decode cX10_readStatement 48 = .ok (.bipush 100, 2) := by decide +kernel
theorem dX10_readStatement_50 : decode cX10_readStatement 50 = .ok (.aload_n 0, 1) := by decide +kernel
theorem dX10_readStatement_51 : decode cX10_readStatement 51 = .ok (.getfield 16, 3) := by decide +kernel
theorem dX10_readStatement_54 : decode cX10_readStatement 54 = .ok (.iconst 5, 1) := by decide +kernel
theorem dX10_readStatement_55 : decode cX10_readStatement 55 = .ok (.iaload, 1) := by decide +kernel
theorem dX10_readStatement_56 : decode cX10_readStatement 56 = .ok (.isub, 1) := by decide +kernel
theorem dX10_readStatement_57 : decode cX10_readStatement 57 = .ok (.invokevirtual 118, 3) := by decide +kernel
theorem dX10_readStatement_60 : decode cX10_readStatement 60 = .ok (.ifCond .eq 18, 3) := by decide +kernel
theorem dX10_readStatement_63 : decode cX10_readStatement 63 = .ok (.aload_n 0, 1) := by decide +kernel
theorem dX10_readStatement_64 : decode cX10_readStatement 64 = .ok (.bipush 7, 2) := by decide +kernel
theorem dX10_readStatement_66 : decode cX10_readStatement 66 = .ok (.iconst 0, 1) := by decide +kernel
theorem dX10_readStatement_67 : decode cX10_readStatement 67 = .ok (.iconst 5, 1) := by decide +kernel
theorem dX10_readStatement_68 : decode cX10_readStatement 68 = .ok (.invokevirtual 118, 3) := by decide +kernel
theorem dX10_readStatement_71 : decode cX10_readStatement 71 = .ok (.ifCond .eq 7, 3) := by decide +kernel
theorem dX10_readStatement_74 : decode cX10_readStatement 74 = .ok (.iconst 1, 1) := by decide +kernel
theorem dX10_readStatement_75 : decode cX10_readStatement 75 = .ok (.goto 4, 3) := by decide +kernel
theorem dX10_readStatement_78 : decode cX10_readStatement 78 = .ok (.iconst 0, 1) := by decide +kernel
theorem dX10_readStatement_79 : decode cX10_readStatement 79 = .ok (.ireturn, 1) := by decide +kernel
theorem dX10_readStatement_80 : decode cX10_readStatement 80 = .ok (.aload_n 0, 1) := by decide +kernel
theorem dX10_readStatement_81 : decode cX10_readStatement 81 = .ok (.ldc 149, 2) := by decide +kernel
theorem dX10_readStatement_83 : decode cX10_readStatement 83 = .ok (.invokevirtual 139, 3) := by decide +kernel
theorem dX10_readStatement_86 : decode cX10_readStatement 86 = .ok (.ifCond .eq 35, 3) := by decide +kernel
theorem dX10_readStatement_89 : decode cX10_readStatement 89 = .ok (.aload_n 0, 1) := by decide +kernel
theorem dX10_readStatement_90 : decode cX10_readStatement 90 = .ok (.bipush 8, 2) := by decide +kernel
theorem dX10_readStatement_92 : decode cX10_readStatement 92 = .ok (.iconst 0, 1) := by decide +kernel
theorem dX10_readStatement_93 : decode cX10_readStatement 93 = .ok (.sipush 999, 3) := by decide +kernel
theorem dX10_readStatement_96 : decode cX10_readStatement 96 = .ok (.invokevirtual 118, 3) := by decide +kernel
theorem dX10_readStatement_99 : decode cX10_readStatement 99 = .ok (.ifCond .eq 20, 3) := by decide +kernel
theorem dX10_readStatement_102 : decode cX10_readStatement 102 = .ok (.aload_n 0, 1) := by decide +kernel
theorem dX10_readStatement_103 : decode cX10_readStatement 103 = .ok (.bipush 9, 2) := by decide +kernel
theorem dX10_readStatement_105 : decode cX10_readStatement 105 = .ok (.iconst 0, 1) := by decide +kernel
theorem dX10_readStatement_106 : decode cX10_readStatement 106 = .ok (.sipush 999, 3) := by decide +kernel
theorem dX10_readStatement_109 : decode cX10_readStatement 109 = .ok (.invokevirtual 118, 3) := by decide +kernel
theorem dX10_readStatement_112 : decode cX10_readStatement 112 = .ok (.ifCond .eq 7, 3) := by decide +kernel
theorem dX10_readStatement_115 : decode cX10_readStatement 115 = .ok (.iconst 1, 1) := by decide +kernel
theorem dX10_readStatement_116 : decode cX10_readStatement 116 = .ok (.goto 4, 3) := by decide +kernel
theorem dX10_readStatement_119 : decode cX10_readStatement 119 = .ok (.iconst 0, 1) := by decide +kernel
theorem dX10_readStatement_120 : decode cX10_readStatement 120 = .ok (.ireturn, 1) := by decide +kernel
theorem dX10_readStatement_121 : decode cX10_readStatement 121 = .ok (.aload_n 0, 1) := by decide +kernel
theorem dX10_readStatement_122 : decode cX10_readStatement 122 = .ok (.ldc 151, 2) := by decide +kernel
theorem dX10_readStatement_124 : decode cX10_readStatement 124 = .ok (.invokevirtual 139, 3) := by decide +kernel
theorem dX10_readStatement_127 : decode cX10_readStatement 127 = .ok (.ifCond .eq 13, 3) := by decide +kernel
theorem dX10_readStatement_130 : decode cX10_readStatement 130 = .ok (.aload_n 0, 1) := by decide +kernel
theorem dX10_readStatement_131 : decode cX10_readStatement 131 = .ok (.bipush 10, 2) := by decide +kernel
theorem dX10_readStatement_133 : decode cX10_readStatement 133 = .ok (.iconst 0, 1) := by decide +kernel
theorem dX10_readStatement_134 : decode cX10_readStatement 134 = .ok (.ldc 153, 2) := by decide +kernel
theorem dX10_readStatement_136 : decode cX10_readStatement 136 = .ok (.invokevirtual 118, 3) := by decide +kernel
theorem dX10_readStatement_139 : decode cX10_readStatement 139 = .ok (.ireturn, 1) := by decide +kernel
theorem dX10_readStatement_140 : decode cX10_readStatement 140 = .ok (.aload_n 0, 1) := by decide +kernel
theorem dX10_readStatement_141 : decode cX10_readStatement 141 = .ok (.ldc 154, 2) := by decide +kernel
theorem dX10_readStatement_143 : decode cX10_readStatement 143 = .ok (.invokevirtual 139, 3) := by decide +kernel
theorem dX10_readStatement_146 : decode cX10_readStatement 146 = .ok (.ifCond .eq 13, 3) := by decide +kernel
theorem dX10_readStatement_149 : decode cX10_readStatement 149 = .ok (.aload_n 0, 1) := by decide +kernel
theorem dX10_readStatement_150 : decode cX10_readStatement 150 = .ok (.bipush 11, 2) := by decide +kernel
theorem dX10_readStatement_152 : decode cX10_readStatement 152 = .ok (.iconst 0, 1) := by decide +kernel
theorem dX10_readStatement_153 : decode cX10_readStatement 153 = .ok (.bipush 20, 2) := by decide +kernel
theorem dX10_readStatement_155 : decode cX10_readStatement 155 = .ok (.invokevirtual 118, 3) := by decide +kernel
theorem dX10_readStatement_158 : decode cX10_readStatement 158 = .ok (.ireturn, 1) := by decide +kernel
theorem dX10_readStatement_159 : decode cX10_readStatement 159 = .ok (.aload_n 0, 1) := by decide +kernel
theorem dX10_readStatement_160 : decode cX10_readStatement 160 = .ok (.ldc 156, 2) := by decide +kernel
theorem dX10_readStatement_162 : decode cX10_readStatement 162 = .ok (.invokevirtual 139, 3) := by decide +kernel
theorem dX10_readStatement_165 : decode cX10_readStatement 165 = .ok (.ifCond .eq 47, 3) := by decide +kernel
theorem dX10_readStatement_168 : decode cX10_readStatement 168 = .ok (.aload_n 0, 1) := by decide +kernel
theorem dX10_readStatement_169 : decode cX10_readStatement 169 = .ok (.bipush 12, 2) := by decide +kernel
theorem dX10_readStatement_171 : decode cX10_readStatement 171 = .ok (.iconst 0, 1) := by decide +kernel
theorem dX10_readStatement_172 : decode cX10_readStatement 172 = .ok (.sipush 200, 3) := by decide +kernel
theorem dX10_readStatement_175 : decode cX10_readStatement 175 = .ok (.invokevirtual 118, 3) := by decide +kernel
theorem dX10_readStatement_178 : decode cX10_readStatement 178 = .ok (.ifCond .eq 32, 3) := by decide +kernel
theorem dX10_readStatement_181 : decode cX10_readStatement 181 = .ok (.aload_n 0, 1) := by decide +kernel
theorem dX10_readStatement_182 : decode cX10_readStatement 182 = .ok (.bipush 13, 2) := by decide +kernel
theorem dX10_readStatement_184 : decode cX10_readStatement 184 = .ok (.iconst 0, 1) := by decide +kernel
theorem dX10_readStatement_185 : decode cX10_readStatement 185 = .ok (.bipush 100, 2) := by decide +kernel
theorem dX10_readStatement_187 : decode cX10_readStatement 187 = .ok (.invokevirtual 118, 3) := by decide +kernel
theorem dX10_readStatement_190 : decode cX10_readStatement 190 = .ok (.ifCond .eq 20, 3) := by decide +kernel
theorem dX10_readStatement_193 : decode cX10_readStatement 193 = .ok (.aload_n 0, 1) := by decide +kernel
theorem dX10_readStatement_194 : decode cX10_readStatement 194 = .ok (.bipush 14, 2) := by decide +kernel
theorem dX10_readStatement_196 : decode cX10_readStatement 196 = .ok (.iconst 0, 1) := by decide +kernel
theorem dX10_readStatement_197 : decode cX10_readStatement 197 = .ok (.sipush 200, 3) := by decide +kernel
theorem dX10_readStatement_200 : decode cX10_readStatement 200 = .ok (.invokevirtual 118, 3) := by decide +kernel
theorem dX10_readStatement_203 : decode cX10_readStatement 203 = .ok (.ifCond .eq 7, 3) := by decide +kernel
theorem dX10_readStatement_206 : decode cX10_readStatement 206 = .ok (.iconst 1, 1) := by decide +kernel
theorem dX10_readStatement_207 : decode cX10_readStatement 207 = .ok (.goto 4, 3) := by decide +kernel
theorem dX10_readStatement_210 : decode cX10_readStatement 210 = .ok (.iconst 0, 1) := by decide +kernel
theorem dX10_readStatement_211 : decode cX10_readStatement 211 = .ok (.ireturn, 1) := by decide +kernel
theorem dX10_readStatement_212 : decode cX10_readStatement 212 = .ok (.aload_n 0, 1) := by decide +kernel
theorem dX10_readStatement_213 : decode cX10_readStatement 213 = .ok (.ldc 158, 2) := by decide +kernel
theorem dX10_readStatement_215 : decode cX10_readStatement 215 = .ok (.invokevirtual 139, 3) := by decide +kernel
theorem dX10_readStatement_218 : decode cX10_readStatement 218 = .ok (.ifCond .eq 9, 3) := by decide +kernel
theorem dX10_readStatement_221 : decode cX10_readStatement 221 = .ok (.aload_n 0, 1) := by decide +kernel
theorem dX10_readStatement_222 : decode cX10_readStatement 222 = .ok (.iload_n 1, 1) := by decide +kernel
theorem dX10_readStatement_223 : decode cX10_readStatement 223 = .ok (.invokevirtual 160, 3) := by decide +kernel
theorem dX10_readStatement_226 : decode cX10_readStatement 226 = .ok (.ireturn, 1) := by decide +kernel
theorem dX10_readStatement_227 : decode cX10_readStatement 227 = .ok (.aload_n 0, 1) := by decide +kernel
theorem dX10_readStatement_228 : decode cX10_readStatement 228 = .ok (.ldc 163, 2) := by decide +kernel
theorem dX10_readStatement_230 : decode cX10_readStatement 230 = .ok (.invokevirtual 139, 3) := by decide +kernel
theorem dX10_readStatement_233 : decode cX10_readStatement 233 = .ok (.ifCond .eq 8, 3) := by decide +kernel
theorem dX10_readStatement_236 : decode cX10_readStatement 236 = .ok (.aload_n 0, 1) := by decide +kernel
theorem dX10_readStatement_237 : decode cX10_readStatement 237 = .ok (.invokevirtual 165, 3) := by decide +kernel
theorem dX10_readStatement_240 : decode cX10_readStatement 240 = .ok (.ireturn, 1) := by decide +kernel
theorem dX10_readStatement_241 : decode cX10_readStatement 241 = .ok (.aload_n 0, 1) := by decide +kernel
theorem dX10_readStatement_242 : decode cX10_readStatement 242 = .ok (.ldc 168, 2) := by decide +kernel
theorem dX10_readStatement_244 : decode cX10_readStatement 244 = .ok (.invokevirtual 139, 3) := by decide +kernel
theorem dX10_readStatement_247 : decode cX10_readStatement 247 = .ok (.ifCond .eq 9, 3) := by decide +kernel
theorem dX10_readStatement_250 : decode cX10_readStatement 250 = .ok (.aload_n 0, 1) := by decide +kernel
theorem dX10_readStatement_251 : decode cX10_readStatement 251 = .ok (.iload_n 1, 1) := by decide +kernel
theorem dX10_readStatement_252 : decode cX10_readStatement 252 = .ok (.invokevirtual 170, 3) := by decide +kernel
theorem dX10_readStatement_255 : decode cX10_readStatement 255 = .ok (.ireturn, 1) := by decide +kernel
theorem dX10_readStatement_256 : decode cX10_readStatement 256 = .ok (.aload_n 0, 1) := by decide +kernel
theorem dX10_readStatement_257 : decode cX10_readStatement 257 = .ok (.ldc 173, 2) := by decide +kernel
theorem dX10_readStatement_259 : decode cX10_readStatement 259 = .ok (.invokevirtual 139, 3) := by decide +kernel
theorem dX10_readStatement_262 : decode cX10_readStatement 262 = .ok (.ifCond .eq 9, 3) := by decide +kernel
theorem dX10_readStatement_265 : decode cX10_readStatement 265 = .ok (.aload_n 0, 1) := by decide +kernel
theorem dX10_readStatement_266 : decode cX10_readStatement 266 = .ok (.iload_n 1, 1) := by decide +kernel
theorem dX10_readStatement_267 : decode cX10_readStatement 267 = .ok (.invokevirtual 175, 3) := by decide +kernel
theorem dX10_readStatement_270 : decode cX10_readStatement 270 = .ok (.ireturn, 1) := by decide +kernel
theorem dX10_readStatement_271 : decode cX10_readStatement 271 = .ok (.aload_n 0, 1) := by decide +kernel
theorem dX10_readStatement_272 : decode cX10_readStatement 272 = .ok (.ldc 178, 2) := by decide +kernel
theorem dX10_readStatement_274 : decode cX10_readStatement 274 = .ok (.invokevirtual 139, 3) := by decide +kernel
theorem dX10_readStatement_277 : decode cX10_readStatement 277 = .ok (.ifCond .eq 11, 3) := by decide +kernel
theorem dX10_readStatement_280 : decode cX10_readStatement 280 = .ok (.aload_n 0, 1) := by decide +kernel
theorem dX10_readStatement_281 : decode cX10_readStatement 281 = .ok (.iload_n 1, 1) := by decide +kernel
theorem dX10_readStatement_282 : decode cX10_readStatement 282 = .ok (.invokevirtual 180, 3) := by decide +kernel
theorem dX10_readStatement_285 : decode cX10_readStatement 285 = .ok (.goto 8, 3) := by decide +kernel
theorem dX10_readStatement_288 : decode cX10_readStatement 288 = .ok (.aload_n 0, 1) := by decide +kernel
theorem dX10_readStatement_289 : decode cX10_readStatement 289 = .ok (.iconst 1, 1) := by decide +kernel
theorem dX10_readStatement_290 : decode cX10_readStatement 290 = .ok (.invokevirtual 98, 3) := by decide +kernel
theorem dX10_readStatement_293 : decode cX10_readStatement 293 = .ok (.ireturn, 1) := by decide +kernel
theorem dX10_readsAll_0 : decode cX10_readsAll 0 = .ok (.aload_n 0, 1) := by decide +kernel
theorem dX10_readsAll_1 : decode cX10_readsAll 1 = .ok (.ldc 183, 2) := by decide +kernel
theorem dX10_readsAll_3 : decode cX10_readsAll 3 = .ok (.invokevirtual 139, 3) := by decide +kernel
theorem dX10_readsAll_6 : decode cX10_readsAll 6 = .ok (.ifCond .ne 9, 3) := by decide +kernel
theorem dX10_readsAll_9 : decode cX10_readsAll 9 = .ok (.aload_n 0, 1) := by decide +kernel
theorem dX10_readsAll_10 : decode cX10_readsAll 10 = .ok (.iconst 1, 1) := by decide +kernel
theorem dX10_readsAll_11 : decode cX10_readsAll 11 = .ok (.invokevirtual 98, 3) := by decide +kernel
theorem dX10_readsAll_14 : decode cX10_readsAll 14 = .ok (.ireturn, 1) := by decide +kernel
theorem dX10_readsAll_15 : decode cX10_readsAll 15 = .ok (.aload_n 0, 1) := by decide +kernel
theorem dX10_readsAll_16 : decode cX10_readsAll 16 = .ok (.bipush 15, 2) := by decide +kernel
theorem dX10_readsAll_18 : decode cX10_readsAll 18 = .ok (.iconst 1, 1) := by decide +kernel
theorem dX10_readsAll_19 : decode cX10_readsAll 19 = .ok (.iconst 4, 1) := by decide +kernel
theorem dX10_readsAll_20 : decode cX10_readsAll 20 = .ok (.invokevirtual 118, 3) := by decide +kernel
theorem dX10_readsAll_23 : decode cX10_readsAll 23 = .ok (.ifCond .eq 14, 3) := by decide +kernel
theorem dX10_readsAll_26 : decode cX10_readsAll 26 = .ok (.aload_n 0, 1) := by decide +kernel
theorem dX10_readsAll_27 : decode cX10_readsAll 27 = .ok (.iconst 0, 1) := by decide +kernel
theorem dX10_readsAll_28 : decode cX10_readsAll 28 = .ok (.iconst 1, 1) := by decide +kernel
theorem dX10_readsAll_29 : decode cX10_readsAll 29 = .ok (.bipush 50, 2) := by decide +kernel
theorem dX10_readsAll_31 : decode cX10_readsAll 31 = .ok (.invokevirtual 118, 3) := by decide +kernel
theorem dX10_readsAll_34 : decode cX10_readsAll 34 = .ok (.ifCond .ne 5, 3) := by decide +kernel
theorem dX10_readsAll_37 : decode cX10_readsAll 37 = .ok (.iconst 0, 1) := by decide +kernel
theorem dX10_readsAll_38 : decode cX10_readsAll 38 = .ok (.ireturn, 1) := by decide +kernel
theorem dX10_readsAll_39 : decode cX10_readsAll 39 = .ok (.aload_n 0, 1) := by decide +kernel
theorem dX10_readsAll_40 : decode cX10_readsAll 40 = .ok (.invokevirtual 79, 3) := by decide +kernel
theorem dX10_readsAll_43 : decode cX10_readsAll 43 = .ok (.bipush 59, 2) := by decide +kernel
theorem dX10_readsAll_45 : decode cX10_readsAll 45 = .ok (.if_icmp .ne 22, 3) := by decide +kernel
theorem dX10_readsAll_48 : decode cX10_readsAll 48 = .ok (.aload_n 0, 1) := by decide +kernel
theorem dX10_readsAll_49 : decode cX10_readsAll 49 = .ok (.dup, 1) := by decide +kernel
theorem dX10_readsAll_50 : decode cX10_readsAll 50 = .ok (.getfield 67, 3) := by decide +kernel
theorem dX10_readsAll_53 : decode cX10_readsAll 53 = .ok (.iconst 1, 1) := by decide +kernel
theorem dX10_readsAll_54 : decode cX10_readsAll 54 = .ok (.iadd, 1) := by decide +kernel
theorem dX10_readsAll_55 : decode cX10_readsAll 55 = .ok (.putfield 67, 3) := by decide +kernel
theorem dX10_readsAll_58 : decode cX10_readsAll 58 = .ok (.aload_n 0, 1) := by decide +kernel
theorem dX10_readsAll_59 : decode cX10_readsAll 59 = .ok (.invokevirtual 185, 3) := by decide +kernel
theorem dX10_readsAll_62 : decode cX10_readsAll 62 = .ok (.ifCond .ne (-23), 3) := by decide +kernel
theorem dX10_readsAll_65 : decode cX10_readsAll 65 = .ok (.iconst 0, 1) := by decide +kernel
theorem dX10_readsAll_66 : decode cX10_readsAll 66 = .ok (.ireturn, 1) := by decide +kernel
theorem dX10_readsAll_67 : decode cX10_readsAll 67 = .ok (.aload_n 0, 1) := by decide +kernel
theorem dX10_readsAll_68 : decode cX10_readsAll 68 = .ok (.invokevirtual 79, 3) := by decide +kernel
theorem dX10_readsAll_71 : decode cX10_readsAll 71 = .ok (.iconst (-1), 1) := by decide +kernel
theorem dX10_readsAll_72 : decode cX10_readsAll 72 = .ok (.if_icmp .eq 11, 3) := by decide +kernel
theorem dX10_readsAll_75 : decode cX10_readsAll 75 = .ok (.aload_n 0, 1) := by decide +kernel
theorem dX10_readsAll_76 : decode cX10_readsAll 76 = .ok (.iconst 1, 1) := by decide +kernel
theorem dX10_readsAll_77 : decode cX10_readsAll 77 = .ok (.invokevirtual 98, 3) := by decide +kernel
theorem dX10_readsAll_80 : decode cX10_readsAll 80 = .ok (.ifCond .eq 7, 3) := by decide +kernel
theorem dX10_readsAll_83 : decode cX10_readsAll 83 = .ok (.iconst 1, 1) := by decide +kernel
theorem dX10_readsAll_84 : decode cX10_readsAll 84 = .ok (.goto 4, 3) := by decide +kernel
theorem dX10_readsAll_87 : decode cX10_readsAll 87 = .ok (.iconst 0, 1) := by decide +kernel
theorem dX10_readsAll_88 : decode cX10_readsAll 88 = .ok (.ireturn, 1) := by decide +kernel
theorem dX10_load_0 : decode cX10_load 0 = .ok (.aload_n 0, 1) := by decide +kernel
theorem dX10_load_1 : decode cX10_load 1 = .ok (.iconst 0, 1) := by decide +kernel
theorem dX10_load_2 : decode cX10_load 2 = .ok (.putfield 39, 3) := by decide +kernel
theorem dX10_load_5 : decode cX10_load 5 = .ok (.aload_n 0, 1) := by decide +kernel
theorem dX10_load_6 : decode cX10_load 6 = .ok (.getfield 16, 3) := by decide +kernel
theorem dX10_load_9 : decode cX10_load 9 = .ok (.invokestatic 35, 3) := by decide +kernel
theorem dX10_load_12 : decode cX10_load 12 = .ok (.aload_n 0, 1) := by decide +kernel
theorem dX10_load_13 : decode cX10_load 13 = .ok (.iconst 0, 1) := by decide +kernel
theorem dX10_load_14 : decode cX10_load 14 = .ok (.putfield 67, 3) := by decide +kernel
theorem dX10_load_17 : decode cX10_load 17 = .ok (.aload_n 0, 1) := by decide +kernel
theorem dX10_load_18 : decode cX10_load 18 = .ok (.iconst 0, 1) := by decide +kernel
theorem dX10_load_19 : decode cX10_load 19 = .ok (.putfield 73, 3) := by decide +kernel
theorem dX10_load_22 : decode cX10_load 22 = .ok (.aload_n 0, 1) := by decide +kernel
theorem dX10_load_23 : decode cX10_load 23 = .ok (.invokevirtual 188, 3) := by decide +kernel
theorem dX10_load_26 : decode cX10_load 26 = .ok (.istore_n 1, 1) := by decide +kernel
theorem dX10_load_27 : decode cX10_load 27 = .ok (.aload_n 0, 1) := by decide +kernel
theorem dX10_load_28 : decode cX10_load 28 = .ok (.iconst 0, 1) := by decide +kernel
theorem dX10_load_29 : decode cX10_load 29 = .ok (.putfield 45, 3) := by decide +kernel
theorem dX10_load_32 : decode cX10_load 32 = .ok (.aload_n 0, 1) := by decide +kernel
theorem dX10_load_33 : decode cX10_load 33 = .ok (.aload_n 0, 1) := by decide +kernel
theorem dX10_load_34 : decode cX10_load 34 = .ok (.getfield 73, 3) := by decide +kernel
theorem dX10_load_37 : decode cX10_load 37 = .ok (.putfield 48, 3) := by decide +kernel
theorem dX10_load_40 : decode cX10_load 40 = .ok (.iload_n 1, 1) := by decide +kernel
theorem dX10_load_41 : decode cX10_load 41 = .ok (.ifCond .ne 11, 3) := by decide +kernel
theorem dX10_load_44 : decode cX10_load 44 = .ok (.bipush (-100), 2) := by decide +kernel
theorem dX10_load_46 : decode cX10_load 46 = .ok (.aload_n 0, 1) := by decide +kernel
theorem dX10_load_47 : decode cX10_load 47 = .ok (.getfield 76, 3) := by decide +kernel
theorem dX10_load_50 : decode cX10_load 50 = .ok (.isub, 1) := by decide +kernel
theorem dX10_load_51 : decode cX10_load 51 = .ok (.ireturn, 1) := by decide +kernel
theorem dX10_load_52 : decode cX10_load 52 = .ok (.aload_n 0, 1) := by decide +kernel
theorem dX10_load_53 : decode cX10_load 53 = .ok (.getfield 16, 3) := by decide +kernel
theorem dX10_load_56 : decode cX10_load 56 = .ok (.aload_n 0, 1) := by decide +kernel
theorem dX10_load_57 : decode cX10_load 57 = .ok (.getfield 9, 3) := by decide +kernel
theorem dX10_load_60 : decode cX10_load 60 = .ok (.invokestatic 191, 3) := by decide +kernel
theorem dX10_load_63 : decode cX10_load 63 = .ok (.aload_n 0, 1) := by decide +kernel
theorem dX10_load_64 : decode cX10_load 64 = .ok (.getfield 9, 3) := by decide +kernel
theorem dX10_load_67 : decode cX10_load 67 = .ok (.bipush 19, 2) := by decide +kernel
theorem dX10_load_69 : decode cX10_load 69 = .ok (.iaload, 1) := by decide +kernel
theorem dX10_load_70 : decode cX10_load 70 = .ok (.ireturn, 1) := by decide +kernel
theorem dX10_count_0 : decode cX10_count 0 = .ok (.aload_n 0, 1) := by decide +kernel
theorem dX10_count_1 : decode cX10_count 1 = .ok (.invokevirtual 195, 3) := by decide +kernel
theorem dX10_count_4 : decode cX10_count 4 = .ok (.ifCond .eq 32, 3) := by decide +kernel
theorem dX10_count_7 : decode cX10_count 7 = .ok (.aload_n 0, 1) := by decide +kernel
theorem dX10_count_8 : decode cX10_count 8 = .ok (.iload_n 1, 1) := by decide +kernel
theorem dX10_count_9 : decode cX10_count 9 = .ok (.i2l, 1) := by decide +kernel
theorem dX10_count_10 : decode cX10_count 10 = .ok (.lconst 0, 1) := by decide +kernel
theorem dX10_count_11 : decode cX10_count 11 = .ok (.ldc2_w 198, 3) := by decide +kernel
theorem dX10_count_14 : decode cX10_count 14 = .ok (.invokestatic 59, 3) := by decide +kernel
theorem dX10_count_17 : decode cX10_count 17 = .ok (.ifCond .ne 7, 3) := by decide +kernel
theorem dX10_count_20 : decode cX10_count 20 = .ok (.iconst 1, 1) := by decide +kernel
theorem dX10_count_21 : decode cX10_count 21 = .ok (.goto 4, 3) := by decide +kernel
theorem dX10_count_24 : decode cX10_count 24 = .ok (.iconst 0, 1) := by decide +kernel
theorem dX10_count_25 : decode cX10_count 25 = .ok (.iconst 1, 1) := by decide +kernel
theorem dX10_count_26 : decode cX10_count 26 = .ok (.invokevirtual 200, 3) := by decide +kernel
theorem dX10_count_29 : decode cX10_count 29 = .ok (.ifCond .eq 7, 3) := by decide +kernel
theorem dX10_count_32 : decode cX10_count 32 = .ok (.iconst 0, 1) := by decide +kernel
theorem dX10_count_33 : decode cX10_count 33 = .ok (.goto 12, 3) := by decide +kernel
theorem dX10_count_36 : decode cX10_count 36 = .ok (.aload_n 0, 1) := by decide +kernel
theorem dX10_count_37 : decode cX10_count 37 = .ok (.getfield 9, 3) := by decide +kernel
theorem dX10_count_40 : decode cX10_count 40 = .ok (.bipush 15, 2) := by decide +kernel
theorem dX10_count_42 : decode cX10_count 42 = .ok (.iload_n 1, 1) := by decide +kernel
theorem dX10_count_43 : decode cX10_count 43 = .ok (.iadd, 1) := by decide +kernel
theorem dX10_count_44 : decode cX10_count 44 = .ok (.iaload, 1) := by decide +kernel
theorem dX10_count_45 : decode cX10_count 45 = .ok (.ireturn, 1) := by decide +kernel
theorem dX10_setting_0 : decode cX10_setting 0 = .ok (.aload_n 0, 1) := by decide +kernel
theorem dX10_setting_1 : decode cX10_setting 1 = .ok (.invokevirtual 195, 3) := by decide +kernel
theorem dX10_setting_4 : decode cX10_setting 4 = .ok (.ifCond .eq 32, 3) := by decide +kernel
theorem dX10_setting_7 : decode cX10_setting 7 = .ok (.aload_n 0, 1) := by decide +kernel
theorem dX10_setting_8 : decode cX10_setting 8 = .ok (.iload_n 1, 1) := by decide +kernel
theorem dX10_setting_9 : decode cX10_setting 9 = .ok (.i2l, 1) := by decide +kernel
theorem dX10_setting_10 : decode cX10_setting 10 = .ok (.lconst 0, 1) := by decide +kernel
theorem dX10_setting_11 : decode cX10_setting 11 = .ok (.ldc2_w 204, 3) := by decide +kernel
theorem dX10_setting_14 : decode cX10_setting 14 = .ok (.invokestatic 59, 3) := by decide +kernel
theorem dX10_setting_17 : decode cX10_setting 17 = .ok (.ifCond .ne 7, 3) := by decide +kernel
theorem dX10_setting_20 : decode cX10_setting 20 = .ok (.iconst 1, 1) := by decide +kernel
theorem dX10_setting_21 : decode cX10_setting 21 = .ok (.goto 4, 3) := by decide +kernel
theorem dX10_setting_24 : decode cX10_setting 24 = .ok (.iconst 0, 1) := by decide +kernel
theorem dX10_setting_25 : decode cX10_setting 25 = .ok (.iconst 1, 1) := by decide +kernel
theorem dX10_setting_26 : decode cX10_setting 26 = .ok (.invokevirtual 200, 3) := by decide +kernel
theorem dX10_setting_29 : decode cX10_setting 29 = .ok (.ifCond .eq 7, 3) := by decide +kernel
theorem dX10_setting_32 : decode cX10_setting 32 = .ok (.iconst 0, 1) := by decide +kernel
theorem dX10_setting_33 : decode cX10_setting 33 = .ok (.goto 9, 3) := by decide +kernel
theorem dX10_setting_36 : decode cX10_setting 36 = .ok (.aload_n 0, 1) := by decide +kernel
theorem dX10_setting_37 : decode cX10_setting 37 = .ok (.getfield 9, 3) := by decide +kernel
theorem dX10_setting_40 : decode cX10_setting 40 = .ok (.iload_n 1, 1) := by decide +kernel
theorem dX10_setting_41 : decode cX10_setting 41 = .ok (.iaload, 1) := by decide +kernel
theorem dX10_setting_42 : decode cX10_setting 42 = .ok (.ireturn, 1) := by decide +kernel
theorem dX10_highest_0 : decode cX10_highest 0 = .ok (.iload_n 1, 1) := by decide +kernel
theorem dX10_highest_1 : decode cX10_highest 1 = .ok (.tableswitch 103 0 13 #[71, 103, 103, 103, 103, 74, 85, 95, 103, 103, 103, 97, 103, 100], 71) := by decide +kernel
theorem dX10_highest_72 : decode cX10_highest 72 = .ok (.bipush 50, 2) := by decide +kernel
theorem dX10_highest_74 : decode cX10_highest 74 = .ok (.ireturn, 1) := by decide +kernel
theorem dX10_highest_75 : decode cX10_highest 75 = .ok (.bipush 100, 2) := by decide +kernel
theorem dX10_highest_77 : decode cX10_highest 77 = .ok (.aload_n 0, 1) := by decide +kernel
theorem dX10_highest_78 : decode cX10_highest 78 = .ok (.getfield 9, 3) := by decide +kernel
theorem dX10_highest_81 : decode cX10_highest 81 = .ok (.bipush 6, 2) := by decide +kernel
theorem dX10_highest_83 : decode cX10_highest 83 = .ok (.iaload, 1) := by decide +kernel
theorem dX10_highest_84 : decode cX10_highest 84 = .ok (.isub, 1) := by decide +kernel
theorem dX10_highest_85 : decode cX10_highest 85 = .ok (.ireturn, 1) := by decide +kernel
theorem dX10_highest_86 : decode cX10_highest 86 = .ok (.bipush 100, 2) := by decide +kernel
theorem dX10_highest_88 : decode cX10_highest 88 = .ok (.aload_n 0, 1) := by decide +kernel
theorem dX10_highest_89 : decode cX10_highest 89 = .ok (.getfield 9, 3) := by decide +kernel
theorem dX10_highest_92 : decode cX10_highest 92 = .ok (.iconst 5, 1) := by decide +kernel
theorem dX10_highest_93 : decode cX10_highest 93 = .ok (.iaload, 1) := by decide +kernel
theorem dX10_highest_94 : decode cX10_highest 94 = .ok (.isub, 1) := by decide +kernel
theorem dX10_highest_95 : decode cX10_highest 95 = .ok (.ireturn, 1) := by decide +kernel
theorem dX10_highest_96 : decode cX10_highest 96 = .ok (.iconst 5, 1) := by decide +kernel
theorem dX10_highest_97 : decode cX10_highest 97 = .ok (.ireturn, 1) := by decide +kernel
theorem dX10_highest_98 : decode cX10_highest 98 = .ok (.bipush 20, 2) := by decide +kernel
theorem dX10_highest_100 : decode cX10_highest 100 = .ok (.ireturn, 1) := by decide +kernel
theorem dX10_highest_101 : decode cX10_highest 101 = .ok (.bipush 100, 2) := by decide +kernel
theorem dX10_highest_103 : decode cX10_highest 103 = .ok (.ireturn, 1) := by decide +kernel
theorem dX10_highest_104 : decode cX10_highest 104 = .ok (.sipush 200, 3) := by decide +kernel
theorem dX10_highest_107 : decode cX10_highest 107 = .ok (.ireturn, 1) := by decide +kernel
theorem dX10_set_0 : decode cX10_set 0 = .ok (.aload_n 0, 1) := by decide +kernel
theorem dX10_set_1 : decode cX10_set 1 = .ok (.iconst 0, 1) := by decide +kernel
theorem dX10_set_2 : decode cX10_set 2 = .ok (.putfield 39, 3) := by decide +kernel
theorem dX10_set_5 : decode cX10_set 5 = .ok (.aload_n 0, 1) := by decide +kernel
theorem dX10_set_6 : decode cX10_set 6 = .ok (.iload_n 1, 1) := by decide +kernel
theorem dX10_set_7 : decode cX10_set 7 = .ok (.i2l, 1) := by decide +kernel
theorem dX10_set_8 : decode cX10_set 8 = .ok (.lconst 0, 1) := by decide +kernel
theorem dX10_set_9 : decode cX10_set 9 = .ok (.ldc2_w 206, 3) := by decide +kernel
theorem dX10_set_12 : decode cX10_set 12 = .ok (.invokestatic 59, 3) := by decide +kernel
theorem dX10_set_15 : decode cX10_set 15 = .ok (.ifCond .ne 21, 3) := by decide +kernel
theorem dX10_set_18 : decode cX10_set 18 = .ok (.iload_n 1, 1) := by decide +kernel
theorem dX10_set_19 : decode cX10_set 19 = .ok (.i2l, 1) := by decide +kernel
theorem dX10_set_20 : decode cX10_set 20 = .ok (.ldc2_w 208, 3) := by decide +kernel
theorem dX10_set_23 : decode cX10_set 23 = .ok (.ldc2_w 204, 3) := by decide +kernel
theorem dX10_set_26 : decode cX10_set 26 = .ok (.invokestatic 59, 3) := by decide +kernel
theorem dX10_set_29 : decode cX10_set 29 = .ok (.ifCond .ne 7, 3) := by decide +kernel
theorem dX10_set_32 : decode cX10_set 32 = .ok (.iconst 1, 1) := by decide +kernel
theorem dX10_set_33 : decode cX10_set 33 = .ok (.goto 4, 3) := by decide +kernel
theorem dX10_set_36 : decode cX10_set 36 = .ok (.iconst 0, 1) := by decide +kernel
theorem dX10_set_37 : decode cX10_set 37 = .ok (.iconst 1, 1) := by decide +kernel
theorem dX10_set_38 : decode cX10_set 38 = .ok (.invokevirtual 200, 3) := by decide +kernel
theorem dX10_set_41 : decode cX10_set 41 = .ok (.ifCond .ne 39, 3) := by decide +kernel
theorem dX10_set_44 : decode cX10_set 44 = .ok (.aload_n 0, 1) := by decide +kernel
theorem dX10_set_45 : decode cX10_set 45 = .ok (.iload_n 2, 1) := by decide +kernel
theorem dX10_set_46 : decode cX10_set 46 = .ok (.i2l, 1) := by decide +kernel
theorem dX10_set_47 : decode cX10_set 47 = .ok (.iload_n 1, 1) := by decide +kernel
theorem dX10_set_48 : decode cX10_set 48 = .ok (.ifCond .ne 7, 3) := by decide +kernel
theorem dX10_set_51 : decode cX10_set 51 = .ok (.lconst 1, 1) := by decide +kernel
theorem dX10_set_52 : decode cX10_set 52 = .ok (.goto 4, 3) := by decide +kernel
theorem dX10_set_55 : decode cX10_set 55 = .ok (.lconst 0, 1) := by decide +kernel
theorem dX10_set_56 : decode cX10_set 56 = .ok (.aload_n 0, 1) := by decide +kernel
theorem dX10_set_57 : decode cX10_set 57 = .ok (.iload_n 1, 1) := by decide +kernel
theorem dX10_set_58 : decode cX10_set 58 = .ok (.invokevirtual 210, 3) := by decide +kernel
theorem dX10_set_61 : decode cX10_set 61 = .ok (.i2l, 1) := by decide +kernel
theorem dX10_set_62 : decode cX10_set 62 = .ok (.invokestatic 59, 3) := by decide +kernel
theorem dX10_set_65 : decode cX10_set 65 = .ok (.ifCond .ne 7, 3) := by decide +kernel
theorem dX10_set_68 : decode cX10_set 68 = .ok (.iconst 1, 1) := by decide +kernel
theorem dX10_set_69 : decode cX10_set 69 = .ok (.goto 4, 3) := by decide +kernel
theorem dX10_set_72 : decode cX10_set 72 = .ok (.iconst 0, 1) := by decide +kernel
theorem dX10_set_73 : decode cX10_set 73 = .ok (.iconst 1, 1) := by decide +kernel
theorem dX10_set_74 : decode cX10_set 74 = .ok (.invokevirtual 200, 3) := by decide +kernel
theorem dX10_set_77 : decode cX10_set 77 = .ok (.ifCond .eq 5, 3) := by decide +kernel
theorem dX10_set_80 : decode cX10_set 80 = .ok (.iconst 0, 1) := by decide +kernel
theorem dX10_set_81 : decode cX10_set 81 = .ok (.ireturn, 1) := by decide +kernel
theorem dX10_set_82 : decode cX10_set 82 = .ok (.aload_n 0, 1) := by decide +kernel
theorem dX10_set_83 : decode cX10_set 83 = .ok (.getfield 9, 3) := by decide +kernel
theorem dX10_set_86 : decode cX10_set 86 = .ok (.iload_n 1, 1) := by decide +kernel
theorem dX10_set_87 : decode cX10_set 87 = .ok (.iaload, 1) := by decide +kernel
theorem dX10_set_88 : decode cX10_set 88 = .ok (.istore_n 3, 1) := by decide +kernel
theorem dX10_set_89 : decode cX10_set 89 = .ok (.aload_n 0, 1) := by decide +kernel
theorem dX10_set_90 : decode cX10_set 90 = .ok (.getfield 9, 3) := by decide +kernel
theorem dX10_set_93 : decode cX10_set 93 = .ok (.iload_n 1, 1) := by decide +kernel
theorem dX10_set_94 : decode cX10_set 94 = .ok (.iload_n 2, 1) := by decide +kernel
theorem dX10_set_95 : decode cX10_set 95 = .ok (.iastore, 1) := by decide +kernel
theorem dX10_set_96 : decode cX10_set 96 = .ok (.iload_n 3, 1) := by decide +kernel
theorem dX10_set_97 : decode cX10_set 97 = .ok (.ireturn, 1) := by decide +kernel
theorem dX10_ofSpindle_0 : decode cX10_ofSpindle 0 = .ok (.aload_n 0, 1) := by decide +kernel
theorem dX10_ofSpindle_1 : decode cX10_ofSpindle 1 = .ok (.getfield 9, 3) := by decide +kernel
theorem dX10_ofSpindle_4 : decode cX10_ofSpindle 4 = .ok (.bipush 58, 2) := by decide +kernel
theorem dX10_ofSpindle_6 : decode cX10_ofSpindle 6 = .ok (.bipush 8, 2) := by decide +kernel
theorem dX10_ofSpindle_8 : decode cX10_ofSpindle 8 = .ok (.iload_n 1, 1) := by decide +kernel
theorem dX10_ofSpindle_9 : decode cX10_ofSpindle 9 = .ok (.imul, 1) := by decide +kernel
theorem dX10_ofSpindle_10 : decode cX10_ofSpindle 10 = .ok (.iadd, 1) := by decide +kernel
theorem dX10_ofSpindle_11 : decode cX10_ofSpindle 11 = .ok (.iload_n 2, 1) := by decide +kernel
theorem dX10_ofSpindle_12 : decode cX10_ofSpindle 12 = .ok (.iadd, 1) := by decide +kernel
theorem dX10_ofSpindle_13 : decode cX10_ofSpindle 13 = .ok (.iaload, 1) := by decide +kernel
theorem dX10_ofSpindle_14 : decode cX10_ofSpindle 14 = .ok (.ireturn, 1) := by decide +kernel
theorem dX10_putSpindle_0 : decode cX10_putSpindle 0 = .ok (.aload_n 0, 1) := by decide +kernel
theorem dX10_putSpindle_1 : decode cX10_putSpindle 1 = .ok (.getfield 9, 3) := by decide +kernel
theorem dX10_putSpindle_4 : decode cX10_putSpindle 4 = .ok (.bipush 58, 2) := by decide +kernel
theorem dX10_putSpindle_6 : decode cX10_putSpindle 6 = .ok (.bipush 8, 2) := by decide +kernel
theorem dX10_putSpindle_8 : decode cX10_putSpindle 8 = .ok (.iload_n 1, 1) := by decide +kernel
theorem dX10_putSpindle_9 : decode cX10_putSpindle 9 = .ok (.imul, 1) := by decide +kernel
theorem dX10_putSpindle_10 : decode cX10_putSpindle 10 = .ok (.iadd, 1) := by decide +kernel
theorem dX10_putSpindle_11 : decode cX10_putSpindle 11 = .ok (.iload_n 2, 1) := by decide +kernel
theorem dX10_putSpindle_12 : decode cX10_putSpindle 12 = .ok (.iadd, 1) := by decide +kernel
theorem dX10_putSpindle_13 : decode cX10_putSpindle 13 = .ok (.iload_n 3, 1) := by decide +kernel
theorem dX10_putSpindle_14 : decode cX10_putSpindle 14 = .ok (.iastore, 1) := by decide +kernel
theorem dX10_putSpindle_15 : decode cX10_putSpindle 15 = .ok (.return_, 1) := by decide +kernel
theorem dX10_noSpindle_0 : decode cX10_noSpindle 0 = .ok (.aload_n 0, 1) := by decide +kernel
theorem dX10_noSpindle_1 : decode cX10_noSpindle 1 = .ok (.iconst 0, 1) := by decide +kernel
theorem dX10_noSpindle_2 : decode cX10_noSpindle 2 = .ok (.putfield 39, 3) := by decide +kernel
theorem dX10_noSpindle_5 : decode cX10_noSpindle 5 = .ok (.aload_n 0, 1) := by decide +kernel
theorem dX10_noSpindle_6 : decode cX10_noSpindle 6 = .ok (.iload_n 1, 1) := by decide +kernel
theorem dX10_noSpindle_7 : decode cX10_noSpindle 7 = .ok (.i2l, 1) := by decide +kernel
theorem dX10_noSpindle_8 : decode cX10_noSpindle 8 = .ok (.lconst 0, 1) := by decide +kernel
theorem dX10_noSpindle_9 : decode cX10_noSpindle 9 = .ok (.aload_n 0, 1) := by decide +kernel
theorem dX10_noSpindle_10 : decode cX10_noSpindle 10 = .ok (.getfield 9, 3) := by decide +kernel
theorem dX10_noSpindle_13 : decode cX10_noSpindle 13 = .ok (.bipush 15, 2) := by decide +kernel
theorem dX10_noSpindle_15 : decode cX10_noSpindle 15 = .ok (.iaload, 1) := by decide +kernel
theorem dX10_noSpindle_16 : decode cX10_noSpindle 16 = .ok (.iconst 1, 1) := by decide +kernel
theorem dX10_noSpindle_17 : decode cX10_noSpindle 17 = .ok (.isub, 1) := by decide +kernel
theorem dX10_noSpindle_18 : decode cX10_noSpindle 18 = .ok (.i2l, 1) := by decide +kernel
theorem dX10_noSpindle_19 : decode cX10_noSpindle 19 = .ok (.invokestatic 59, 3) := by decide +kernel
theorem dX10_noSpindle_22 : decode cX10_noSpindle 22 = .ok (.ifCond .ne 7, 3) := by decide +kernel
theorem dX10_noSpindle_25 : decode cX10_noSpindle 25 = .ok (.iconst 1, 1) := by decide +kernel
theorem dX10_noSpindle_26 : decode cX10_noSpindle 26 = .ok (.goto 4, 3) := by decide +kernel
theorem dX10_noSpindle_29 : decode cX10_noSpindle 29 = .ok (.iconst 0, 1) := by decide +kernel
theorem dX10_noSpindle_30 : decode cX10_noSpindle 30 = .ok (.iconst 1, 1) := by decide +kernel
theorem dX10_noSpindle_31 : decode cX10_noSpindle 31 = .ok (.invokevirtual 200, 3) := by decide +kernel
theorem dX10_noSpindle_34 : decode cX10_noSpindle 34 = .ok (.ireturn, 1) := by decide +kernel
theorem dX10_spindleValue_0 : decode cX10_spindleValue 0 = .ok (.aload_n 0, 1) := by decide +kernel
theorem dX10_spindleValue_1 : decode cX10_spindleValue 1 = .ok (.iload_n 1, 1) := by decide +kernel
theorem dX10_spindleValue_2 : decode cX10_spindleValue 2 = .ok (.invokevirtual 213, 3) := by decide +kernel
theorem dX10_spindleValue_5 : decode cX10_spindleValue 5 = .ok (.ifCond .ne 28, 3) := by decide +kernel
theorem dX10_spindleValue_8 : decode cX10_spindleValue 8 = .ok (.aload_n 0, 1) := by decide +kernel
theorem dX10_spindleValue_9 : decode cX10_spindleValue 9 = .ok (.iload_n 2, 1) := by decide +kernel
theorem dX10_spindleValue_10 : decode cX10_spindleValue 10 = .ok (.i2l, 1) := by decide +kernel
theorem dX10_spindleValue_11 : decode cX10_spindleValue 11 = .ok (.lconst 0, 1) := by decide +kernel
theorem dX10_spindleValue_12 : decode cX10_spindleValue 12 = .ok (.ldc2_w 206, 3) := by decide +kernel
theorem dX10_spindleValue_15 : decode cX10_spindleValue 15 = .ok (.invokestatic 59, 3) := by decide +kernel
theorem dX10_spindleValue_18 : decode cX10_spindleValue 18 = .ok (.ifCond .ne 7, 3) := by decide +kernel
theorem dX10_spindleValue_21 : decode cX10_spindleValue 21 = .ok (.iconst 1, 1) := by decide +kernel
theorem dX10_spindleValue_22 : decode cX10_spindleValue 22 = .ok (.goto 4, 3) := by decide +kernel
theorem dX10_spindleValue_25 : decode cX10_spindleValue 25 = .ok (.iconst 0, 1) := by decide +kernel
theorem dX10_spindleValue_26 : decode cX10_spindleValue 26 = .ok (.iconst 2, 1) := by decide +kernel
theorem dX10_spindleValue_27 : decode cX10_spindleValue 27 = .ok (.invokevirtual 200, 3) := by decide +kernel
theorem dX10_spindleValue_30 : decode cX10_spindleValue 30 = .ok (.ifCond .eq 7, 3) := by decide +kernel
theorem dX10_spindleValue_33 : decode cX10_spindleValue 33 = .ok (.iconst 0, 1) := by decide +kernel
theorem dX10_spindleValue_34 : decode cX10_spindleValue 34 = .ok (.goto 9, 3) := by decide +kernel
theorem dX10_spindleValue_37 : decode cX10_spindleValue 37 = .ok (.aload_n 0, 1) := by decide +kernel
theorem dX10_spindleValue_38 : decode cX10_spindleValue 38 = .ok (.iload_n 1, 1) := by decide +kernel
theorem dX10_spindleValue_39 : decode cX10_spindleValue 39 = .ok (.iload_n 2, 1) := by decide +kernel
theorem dX10_spindleValue_40 : decode cX10_spindleValue 40 = .ok (.invokevirtual 216, 3) := by decide +kernel
theorem dX10_spindleValue_43 : decode cX10_spindleValue 43 = .ok (.ireturn, 1) := by decide +kernel
theorem dX10_isType_0 : decode cX10_isType 0 = .ok (.iload_n 1, 1) := by decide +kernel
theorem dX10_isType_1 : decode cX10_isType 1 = .ok (.i2l, 1) := by decide +kernel
theorem dX10_isType_2 : decode cX10_isType 2 = .ok (.lconst 0, 1) := by decide +kernel
theorem dX10_isType_3 : decode cX10_isType 3 = .ok (.aload_n 0, 1) := by decide +kernel
theorem dX10_isType_4 : decode cX10_isType 4 = .ok (.getfield 9, 3) := by decide +kernel
theorem dX10_isType_7 : decode cX10_isType 7 = .ok (.bipush 16, 2) := by decide +kernel
theorem dX10_isType_9 : decode cX10_isType 9 = .ok (.iaload, 1) := by decide +kernel
theorem dX10_isType_10 : decode cX10_isType 10 = .ok (.iconst 1, 1) := by decide +kernel
theorem dX10_isType_11 : decode cX10_isType 11 = .ok (.isub, 1) := by decide +kernel
theorem dX10_isType_12 : decode cX10_isType 12 = .ok (.i2l, 1) := by decide +kernel
theorem dX10_isType_13 : decode cX10_isType 13 = .ok (.invokestatic 59, 3) := by decide +kernel
theorem dX10_isType_16 : decode cX10_isType 16 = .ok (.ireturn, 1) := by decide +kernel
theorem dX10_freeNozzles_0 : decode cX10_freeNozzles 0 = .ok (.aload_n 0, 1) := by decide +kernel
theorem dX10_freeNozzles_1 : decode cX10_freeNozzles 1 = .ok (.invokevirtual 195, 3) := by decide +kernel
theorem dX10_freeNozzles_4 : decode cX10_freeNozzles 4 = .ok (.ifCond .eq 28, 3) := by decide +kernel
theorem dX10_freeNozzles_7 : decode cX10_freeNozzles 7 = .ok (.aload_n 0, 1) := by decide +kernel
theorem dX10_freeNozzles_8 : decode cX10_freeNozzles 8 = .ok (.aload_n 0, 1) := by decide +kernel
theorem dX10_freeNozzles_9 : decode cX10_freeNozzles 9 = .ok (.iload_n 1, 1) := by decide +kernel
theorem dX10_freeNozzles_10 : decode cX10_freeNozzles 10 = .ok (.invokevirtual 220, 3) := by decide +kernel
theorem dX10_freeNozzles_13 : decode cX10_freeNozzles 13 = .ok (.ifCond .ne 7, 3) := by decide +kernel
theorem dX10_freeNozzles_16 : decode cX10_freeNozzles 16 = .ok (.iconst 1, 1) := by decide +kernel
theorem dX10_freeNozzles_17 : decode cX10_freeNozzles 17 = .ok (.goto 4, 3) := by decide +kernel
theorem dX10_freeNozzles_20 : decode cX10_freeNozzles 20 = .ok (.iconst 0, 1) := by decide +kernel
theorem dX10_freeNozzles_21 : decode cX10_freeNozzles 21 = .ok (.iconst 1, 1) := by decide +kernel
theorem dX10_freeNozzles_22 : decode cX10_freeNozzles 22 = .ok (.invokevirtual 200, 3) := by decide +kernel
theorem dX10_freeNozzles_25 : decode cX10_freeNozzles 25 = .ok (.ifCond .eq 7, 3) := by decide +kernel
theorem dX10_freeNozzles_28 : decode cX10_freeNozzles 28 = .ok (.iconst 0, 1) := by decide +kernel
theorem dX10_freeNozzles_29 : decode cX10_freeNozzles 29 = .ok (.goto 12, 3) := by decide +kernel
theorem dX10_freeNozzles_32 : decode cX10_freeNozzles 32 = .ok (.aload_n 0, 1) := by decide +kernel
theorem dX10_freeNozzles_33 : decode cX10_freeNozzles 33 = .ok (.getfield 9, 3) := by decide +kernel
theorem dX10_freeNozzles_36 : decode cX10_freeNozzles 36 = .ok (.bipush 44, 2) := by decide +kernel
theorem dX10_freeNozzles_38 : decode cX10_freeNozzles 38 = .ok (.iload_n 1, 1) := by decide +kernel
theorem dX10_freeNozzles_39 : decode cX10_freeNozzles 39 = .ok (.iadd, 1) := by decide +kernel
theorem dX10_freeNozzles_40 : decode cX10_freeNozzles 40 = .ok (.iaload, 1) := by decide +kernel
theorem dX10_freeNozzles_41 : decode cX10_freeNozzles 41 = .ok (.ireturn, 1) := by decide +kernel
theorem dX10_noKind_0 : decode cX10_noKind 0 = .ok (.aload_n 0, 1) := by decide +kernel
theorem dX10_noKind_1 : decode cX10_noKind 1 = .ok (.iconst 0, 1) := by decide +kernel
theorem dX10_noKind_2 : decode cX10_noKind 2 = .ok (.putfield 39, 3) := by decide +kernel
theorem dX10_noKind_5 : decode cX10_noKind 5 = .ok (.aload_n 0, 1) := by decide +kernel
theorem dX10_noKind_6 : decode cX10_noKind 6 = .ok (.iload_n 1, 1) := by decide +kernel
theorem dX10_noKind_7 : decode cX10_noKind 7 = .ok (.i2l, 1) := by decide +kernel
theorem dX10_noKind_8 : decode cX10_noKind 8 = .ok (.lconst 0, 1) := by decide +kernel
theorem dX10_noKind_9 : decode cX10_noKind 9 = .ok (.aload_n 0, 1) := by decide +kernel
theorem dX10_noKind_10 : decode cX10_noKind 10 = .ok (.getfield 9, 3) := by decide +kernel
theorem dX10_noKind_13 : decode cX10_noKind 13 = .ok (.bipush 17, 2) := by decide +kernel
theorem dX10_noKind_15 : decode cX10_noKind 15 = .ok (.iaload, 1) := by decide +kernel
theorem dX10_noKind_16 : decode cX10_noKind 16 = .ok (.iconst 1, 1) := by decide +kernel
theorem dX10_noKind_17 : decode cX10_noKind 17 = .ok (.isub, 1) := by decide +kernel
theorem dX10_noKind_18 : decode cX10_noKind 18 = .ok (.i2l, 1) := by decide +kernel
theorem dX10_noKind_19 : decode cX10_noKind 19 = .ok (.invokestatic 59, 3) := by decide +kernel
theorem dX10_noKind_22 : decode cX10_noKind 22 = .ok (.ifCond .ne 7, 3) := by decide +kernel
theorem dX10_noKind_25 : decode cX10_noKind 25 = .ok (.iconst 1, 1) := by decide +kernel
theorem dX10_noKind_26 : decode cX10_noKind 26 = .ok (.goto 4, 3) := by decide +kernel
theorem dX10_noKind_29 : decode cX10_noKind 29 = .ok (.iconst 0, 1) := by decide +kernel
theorem dX10_noKind_30 : decode cX10_noKind 30 = .ok (.iconst 1, 1) := by decide +kernel
theorem dX10_noKind_31 : decode cX10_noKind 31 = .ok (.invokevirtual 200, 3) := by decide +kernel
theorem dX10_noKind_34 : decode cX10_noKind 34 = .ok (.ireturn, 1) := by decide +kernel
theorem dX10_nozzleFor_0 : decode cX10_nozzleFor 0 = .ok (.aload_n 0, 1) := by decide +kernel
theorem dX10_nozzleFor_1 : decode cX10_nozzleFor 1 = .ok (.iload_n 1, 1) := by decide +kernel
theorem dX10_nozzleFor_2 : decode cX10_nozzleFor 2 = .ok (.invokevirtual 223, 3) := by decide +kernel
theorem dX10_nozzleFor_5 : decode cX10_nozzleFor 5 = .ok (.ifCond .eq 7, 3) := by decide +kernel
theorem dX10_nozzleFor_8 : decode cX10_nozzleFor 8 = .ok (.iconst 0, 1) := by decide +kernel
theorem dX10_nozzleFor_9 : decode cX10_nozzleFor 9 = .ok (.goto 12, 3) := by decide +kernel
theorem dX10_nozzleFor_12 : decode cX10_nozzleFor 12 = .ok (.aload_n 0, 1) := by decide +kernel
theorem dX10_nozzleFor_13 : decode cX10_nozzleFor 13 = .ok (.getfield 9, 3) := by decide +kernel
theorem dX10_nozzleFor_16 : decode cX10_nozzleFor 16 = .ok (.bipush 50, 2) := by decide +kernel
theorem dX10_nozzleFor_18 : decode cX10_nozzleFor 18 = .ok (.iload_n 1, 1) := by decide +kernel
theorem dX10_nozzleFor_19 : decode cX10_nozzleFor 19 = .ok (.iadd, 1) := by decide +kernel
theorem dX10_nozzleFor_20 : decode cX10_nozzleFor 20 = .ok (.iaload, 1) := by decide +kernel
theorem dX10_nozzleFor_21 : decode cX10_nozzleFor 21 = .ok (.ireturn, 1) := by decide +kernel
theorem dX10_ofFeeder_0 : decode cX10_ofFeeder 0 = .ok (.aload_n 0, 1) := by decide +kernel
theorem dX10_ofFeeder_1 : decode cX10_ofFeeder 1 = .ok (.getfield 9, 3) := by decide +kernel
theorem dX10_ofFeeder_4 : decode cX10_ofFeeder 4 = .ok (.sipush 130, 3) := by decide +kernel
theorem dX10_ofFeeder_7 : decode cX10_ofFeeder 7 = .ok (.bipush 11, 2) := by decide +kernel
theorem dX10_ofFeeder_9 : decode cX10_ofFeeder 9 = .ok (.iload_n 1, 1) := by decide +kernel
theorem dX10_ofFeeder_10 : decode cX10_ofFeeder 10 = .ok (.imul, 1) := by decide +kernel
theorem dX10_ofFeeder_11 : decode cX10_ofFeeder 11 = .ok (.iadd, 1) := by decide +kernel
theorem dX10_ofFeeder_12 : decode cX10_ofFeeder 12 = .ok (.iload_n 2, 1) := by decide +kernel
theorem dX10_ofFeeder_13 : decode cX10_ofFeeder 13 = .ok (.iadd, 1) := by decide +kernel
theorem dX10_ofFeeder_14 : decode cX10_ofFeeder 14 = .ok (.iaload, 1) := by decide +kernel
theorem dX10_ofFeeder_15 : decode cX10_ofFeeder 15 = .ok (.ireturn, 1) := by decide +kernel
theorem dX10_putFeeder_0 : decode cX10_putFeeder 0 = .ok (.aload_n 0, 1) := by decide +kernel
theorem dX10_putFeeder_1 : decode cX10_putFeeder 1 = .ok (.getfield 9, 3) := by decide +kernel
theorem dX10_putFeeder_4 : decode cX10_putFeeder 4 = .ok (.sipush 130, 3) := by decide +kernel
theorem dX10_putFeeder_7 : decode cX10_putFeeder 7 = .ok (.bipush 11, 2) := by decide +kernel
theorem dX10_putFeeder_9 : decode cX10_putFeeder 9 = .ok (.iload_n 1, 1) := by decide +kernel
theorem dX10_putFeeder_10 : decode cX10_putFeeder 10 = .ok (.imul, 1) := by decide +kernel
theorem dX10_putFeeder_11 : decode cX10_putFeeder 11 = .ok (.iadd, 1) := by decide +kernel
theorem dX10_putFeeder_12 : decode cX10_putFeeder 12 = .ok (.iload_n 2, 1) := by decide +kernel
theorem dX10_putFeeder_13 : decode cX10_putFeeder 13 = .ok (.iadd, 1) := by decide +kernel
theorem dX10_putFeeder_14 : decode cX10_putFeeder 14 = .ok (.iload_n 3, 1) := by decide +kernel
theorem dX10_putFeeder_15 : decode cX10_putFeeder 15 = .ok (.iastore, 1) := by decide +kernel
theorem dX10_putFeeder_16 : decode cX10_putFeeder 16 = .ok (.return_, 1) := by decide +kernel
theorem dX10_isFeeder_0 : decode cX10_isFeeder 0 = .ok (.iload_n 1, 1) := by decide +kernel
theorem dX10_isFeeder_1 : decode cX10_isFeeder 1 = .ok (.i2l, 1) := by decide +kernel
theorem dX10_isFeeder_2 : decode cX10_isFeeder 2 = .ok (.lconst 0, 1) := by decide +kernel
theorem dX10_isFeeder_3 : decode cX10_isFeeder 3 = .ok (.aload_n 0, 1) := by decide +kernel
theorem dX10_isFeeder_4 : decode cX10_isFeeder 4 = .ok (.getfield 9, 3) := by decide +kernel
theorem dX10_isFeeder_7 : decode cX10_isFeeder 7 = .ok (.bipush 18, 2) := by decide +kernel
theorem dX10_isFeeder_9 : decode cX10_isFeeder 9 = .ok (.iaload, 1) := by decide +kernel
theorem dX10_isFeeder_10 : decode cX10_isFeeder 10 = .ok (.iconst 1, 1) := by decide +kernel
theorem dX10_isFeeder_11 : decode cX10_isFeeder 11 = .ok (.isub, 1) := by decide +kernel
theorem dX10_isFeeder_12 : decode cX10_isFeeder 12 = .ok (.i2l, 1) := by decide +kernel
theorem dX10_isFeeder_13 : decode cX10_isFeeder 13 = .ok (.invokestatic 59, 3) := by decide +kernel
theorem dX10_isFeeder_16 : decode cX10_isFeeder 16 = .ok (.ireturn, 1) := by decide +kernel
theorem dX10_noFeeder_0 : decode cX10_noFeeder 0 = .ok (.aload_n 0, 1) := by decide +kernel
theorem dX10_noFeeder_1 : decode cX10_noFeeder 1 = .ok (.iconst 0, 1) := by decide +kernel
theorem dX10_noFeeder_2 : decode cX10_noFeeder 2 = .ok (.putfield 39, 3) := by decide +kernel
theorem dX10_noFeeder_5 : decode cX10_noFeeder 5 = .ok (.aload_n 0, 1) := by decide +kernel
theorem dX10_noFeeder_6 : decode cX10_noFeeder 6 = .ok (.aload_n 0, 1) := by decide +kernel
theorem dX10_noFeeder_7 : decode cX10_noFeeder 7 = .ok (.iload_n 1, 1) := by decide +kernel
theorem dX10_noFeeder_8 : decode cX10_noFeeder 8 = .ok (.invokevirtual 226, 3) := by decide +kernel
theorem dX10_noFeeder_11 : decode cX10_noFeeder 11 = .ok (.ifCond .ne 7, 3) := by decide +kernel
theorem dX10_noFeeder_14 : decode cX10_noFeeder 14 = .ok (.iconst 1, 1) := by decide +kernel
theorem dX10_noFeeder_15 : decode cX10_noFeeder 15 = .ok (.goto 4, 3) := by decide +kernel
theorem dX10_noFeeder_18 : decode cX10_noFeeder 18 = .ok (.iconst 0, 1) := by decide +kernel
theorem dX10_noFeeder_19 : decode cX10_noFeeder 19 = .ok (.iconst 1, 1) := by decide +kernel
theorem dX10_noFeeder_20 : decode cX10_noFeeder 20 = .ok (.invokevirtual 200, 3) := by decide +kernel
theorem dX10_noFeeder_23 : decode cX10_noFeeder 23 = .ok (.ireturn, 1) := by decide +kernel
theorem dX10_feederValue_0 : decode cX10_feederValue 0 = .ok (.aload_n 0, 1) := by decide +kernel
theorem dX10_feederValue_1 : decode cX10_feederValue 1 = .ok (.iload_n 1, 1) := by decide +kernel
theorem dX10_feederValue_2 : decode cX10_feederValue 2 = .ok (.invokevirtual 229, 3) := by decide +kernel
theorem dX10_feederValue_5 : decode cX10_feederValue 5 = .ok (.ifCond .ne 28, 3) := by decide +kernel
theorem dX10_feederValue_8 : decode cX10_feederValue 8 = .ok (.aload_n 0, 1) := by decide +kernel
theorem dX10_feederValue_9 : decode cX10_feederValue 9 = .ok (.iload_n 2, 1) := by decide +kernel
theorem dX10_feederValue_10 : decode cX10_feederValue 10 = .ok (.i2l, 1) := by decide +kernel
theorem dX10_feederValue_11 : decode cX10_feederValue 11 = .ok (.lconst 0, 1) := by decide +kernel
theorem dX10_feederValue_12 : decode cX10_feederValue 12 = .ok (.ldc2_w 206, 3) := by decide +kernel
theorem dX10_feederValue_15 : decode cX10_feederValue 15 = .ok (.invokestatic 59, 3) := by decide +kernel
theorem dX10_feederValue_18 : decode cX10_feederValue 18 = .ok (.ifCond .ne 7, 3) := by decide +kernel
theorem dX10_feederValue_21 : decode cX10_feederValue 21 = .ok (.iconst 1, 1) := by decide +kernel
theorem dX10_feederValue_22 : decode cX10_feederValue 22 = .ok (.goto 4, 3) := by decide +kernel
theorem dX10_feederValue_25 : decode cX10_feederValue 25 = .ok (.iconst 0, 1) := by decide +kernel
theorem dX10_feederValue_26 : decode cX10_feederValue 26 = .ok (.iconst 2, 1) := by decide +kernel
theorem dX10_feederValue_27 : decode cX10_feederValue 27 = .ok (.invokevirtual 200, 3) := by decide +kernel
theorem dX10_feederValue_30 : decode cX10_feederValue 30 = .ok (.ifCond .eq 7, 3) := by decide +kernel
theorem dX10_feederValue_33 : decode cX10_feederValue 33 = .ok (.iconst 0, 1) := by decide +kernel
theorem dX10_feederValue_34 : decode cX10_feederValue 34 = .ok (.goto 9, 3) := by decide +kernel
theorem dX10_feederValue_37 : decode cX10_feederValue 37 = .ok (.aload_n 0, 1) := by decide +kernel
theorem dX10_feederValue_38 : decode cX10_feederValue 38 = .ok (.iload_n 1, 1) := by decide +kernel
theorem dX10_feederValue_39 : decode cX10_feederValue 39 = .ok (.iload_n 2, 1) := by decide +kernel
theorem dX10_feederValue_40 : decode cX10_feederValue 40 = .ok (.invokevirtual 232, 3) := by decide +kernel
theorem dX10_feederValue_43 : decode cX10_feederValue 43 = .ok (.ireturn, 1) := by decide +kernel
theorem dX10_books_0 : decode cX10_books 0 = .ok (.aload_n 0, 1) := by decide +kernel
theorem dX10_books_1 : decode cX10_books 1 = .ok (.getfield 9, 3) := by decide +kernel
theorem dX10_books_4 : decode cX10_books 4 = .ok (.bipush 90, 2) := by decide +kernel
theorem dX10_books_6 : decode cX10_books 6 = .ok (.iconst 5, 1) := by decide +kernel
theorem dX10_books_7 : decode cX10_books 7 = .ok (.iload_n 1, 1) := by decide +kernel
theorem dX10_books_8 : decode cX10_books 8 = .ok (.imul, 1) := by decide +kernel
theorem dX10_books_9 : decode cX10_books 9 = .ok (.iadd, 1) := by decide +kernel
theorem dX10_books_10 : decode cX10_books 10 = .ok (.iload_n 2, 1) := by decide +kernel
theorem dX10_books_11 : decode cX10_books 11 = .ok (.iadd, 1) := by decide +kernel
theorem dX10_books_12 : decode cX10_books 12 = .ok (.dup2, 1) := by decide +kernel
theorem dX10_books_13 : decode cX10_books 13 = .ok (.iaload, 1) := by decide +kernel
theorem dX10_books_14 : decode cX10_books 14 = .ok (.iload_n 3, 1) := by decide +kernel
theorem dX10_books_15 : decode cX10_books 15 = .ok (.iadd, 1) := by decide +kernel
theorem dX10_books_16 : decode cX10_books 16 = .ok (.iastore, 1) := by decide +kernel
theorem dX10_books_17 : decode cX10_books 17 = .ok (.return_, 1) := by decide +kernel
theorem dX10_booked_0 : decode cX10_booked 0 = .ok (.aload_n 0, 1) := by decide +kernel
theorem dX10_booked_1 : decode cX10_booked 1 = .ok (.getfield 9, 3) := by decide +kernel
theorem dX10_booked_4 : decode cX10_booked 4 = .ok (.bipush 90, 2) := by decide +kernel
theorem dX10_booked_6 : decode cX10_booked 6 = .ok (.iconst 5, 1) := by decide +kernel
theorem dX10_booked_7 : decode cX10_booked 7 = .ok (.iload_n 1, 1) := by decide +kernel
theorem dX10_booked_8 : decode cX10_booked 8 = .ok (.imul, 1) := by decide +kernel
theorem dX10_booked_9 : decode cX10_booked 9 = .ok (.iadd, 1) := by decide +kernel
theorem dX10_booked_10 : decode cX10_booked 10 = .ok (.iload_n 2, 1) := by decide +kernel
theorem dX10_booked_11 : decode cX10_booked 11 = .ok (.iadd, 1) := by decide +kernel
theorem dX10_booked_12 : decode cX10_booked 12 = .ok (.iaload, 1) := by decide +kernel
theorem dX10_booked_13 : decode cX10_booked 13 = .ok (.ireturn, 1) := by decide +kernel
theorem dX10_splices_0 : decode cX10_splices 0 = .ok (.aload_n 0, 1) := by decide +kernel
theorem dX10_splices_1 : decode cX10_splices 1 = .ok (.iload_n 1, 1) := by decide +kernel
theorem dX10_splices_2 : decode cX10_splices 2 = .ok (.iconst 2, 1) := by decide +kernel
theorem dX10_splices_3 : decode cX10_splices 3 = .ok (.invokevirtual 232, 3) := by decide +kernel
theorem dX10_splices_6 : decode cX10_splices 6 = .ok (.ifCond .ne 104, 3) := by decide +kernel
theorem dX10_splices_9 : decode cX10_splices 9 = .ok (.aload_n 0, 1) := by decide +kernel
theorem dX10_splices_10 : decode cX10_splices 10 = .ok (.iload_n 1, 1) := by decide +kernel
theorem dX10_splices_11 : decode cX10_splices 11 = .ok (.iconst 4, 1) := by decide +kernel
theorem dX10_splices_12 : decode cX10_splices 12 = .ok (.invokevirtual 232, 3) := by decide +kernel
theorem dX10_splices_15 : decode cX10_splices 15 = .ok (.ifCond .le 95, 3) := by decide +kernel
theorem dX10_splices_18 : decode cX10_splices 18 = .ok (.aload_n 0, 1) := by decide +kernel
theorem dX10_splices_19 : decode cX10_splices 19 = .ok (.iload_n 1, 1) := by decide +kernel
theorem dX10_splices_20 : decode cX10_splices 20 = .ok (.iconst 2, 1) := by decide +kernel
theorem dX10_splices_21 : decode cX10_splices 21 = .ok (.aload_n 0, 1) := by decide +kernel
theorem dX10_splices_22 : decode cX10_splices 22 = .ok (.iload_n 1, 1) := by decide +kernel
theorem dX10_splices_23 : decode cX10_splices 23 = .ok (.bipush 8, 2) := by decide +kernel
theorem dX10_splices_25 : decode cX10_splices 25 = .ok (.invokevirtual 232, 3) := by decide +kernel
theorem dX10_splices_28 : decode cX10_splices 28 = .ok (.invokevirtual 235, 3) := by decide +kernel
theorem dX10_splices_31 : decode cX10_splices 31 = .ok (.iconst 0, 1) := by decide +kernel
theorem dX10_splices_32 : decode cX10_splices 32 = .ok (.istore_n 2, 1) := by decide +kernel
theorem dX10_splices_33 : decode cX10_splices 33 = .ok (.iload_n 2, 1) := by decide +kernel
theorem dX10_splices_34 : decode cX10_splices 34 = .ok (.iconst 1, 1) := by decide +kernel
theorem dX10_splices_35 : decode cX10_splices 35 = .ok (.iadd, 1) := by decide +kernel
theorem dX10_splices_36 : decode cX10_splices 36 = .ok (.iconst 3, 1) := by decide +kernel
theorem dX10_splices_37 : decode cX10_splices 37 = .ok (.if_icmp .ge 29, 3) := by decide +kernel
theorem dX10_splices_40 : decode cX10_splices 40 = .ok (.aload_n 0, 1) := by decide +kernel
theorem dX10_splices_41 : decode cX10_splices 41 = .ok (.iload_n 1, 1) := by decide +kernel
theorem dX10_splices_42 : decode cX10_splices 42 = .ok (.bipush 8, 2) := by decide +kernel
theorem dX10_splices_44 : decode cX10_splices 44 = .ok (.iload_n 2, 1) := by decide +kernel
theorem dX10_splices_45 : decode cX10_splices 45 = .ok (.iadd, 1) := by decide +kernel
theorem dX10_splices_46 : decode cX10_splices 46 = .ok (.aload_n 0, 1) := by decide +kernel
theorem dX10_splices_47 : decode cX10_splices 47 = .ok (.iload_n 1, 1) := by decide +kernel
theorem dX10_splices_48 : decode cX10_splices 48 = .ok (.bipush 8, 2) := by decide +kernel
theorem dX10_splices_50 : decode cX10_splices 50 = .ok (.iload_n 2, 1) := by decide +kernel
theorem dX10_splices_51 : decode cX10_splices 51 = .ok (.iadd, 1) := by decide +kernel
theorem dX10_splices_52 : decode cX10_splices 52 = .ok (.iconst 1, 1) := by decide +kernel
theorem dX10_splices_53 : decode cX10_splices 53 = .ok (.iadd, 1) := by decide +kernel
theorem dX10_splices_54 : decode cX10_splices 54 = .ok (.invokevirtual 232, 3) := by decide +kernel
theorem dX10_splices_57 : decode cX10_splices 57 = .ok (.invokevirtual 235, 3) := by decide +kernel
theorem dX10_splices_60 : decode cX10_splices 60 = .ok (.iinc 2 1, 3) := by decide +kernel
theorem dX10_splices_63 : decode cX10_splices 63 = .ok (.goto (-30), 3) := by decide +kernel
theorem dX10_splices_66 : decode cX10_splices 66 = .ok (.aload_n 0, 1) := by decide +kernel
theorem dX10_splices_67 : decode cX10_splices 67 = .ok (.iload_n 1, 1) := by decide +kernel
theorem dX10_splices_68 : decode cX10_splices 68 = .ok (.bipush 10, 2) := by decide +kernel
theorem dX10_splices_70 : decode cX10_splices 70 = .ok (.iconst 0, 1) := by decide +kernel
theorem dX10_splices_71 : decode cX10_splices 71 = .ok (.invokevirtual 235, 3) := by decide +kernel
theorem dX10_splices_74 : decode cX10_splices 74 = .ok (.aload_n 0, 1) := by decide +kernel
theorem dX10_splices_75 : decode cX10_splices 75 = .ok (.iload_n 1, 1) := by decide +kernel
theorem dX10_splices_76 : decode cX10_splices 76 = .ok (.iconst 4, 1) := by decide +kernel
theorem dX10_splices_77 : decode cX10_splices 77 = .ok (.aload_n 0, 1) := by decide +kernel
theorem dX10_splices_78 : decode cX10_splices 78 = .ok (.iload_n 1, 1) := by decide +kernel
theorem dX10_splices_79 : decode cX10_splices 79 = .ok (.iconst 4, 1) := by decide +kernel
theorem dX10_splices_80 : decode cX10_splices 80 = .ok (.invokevirtual 232, 3) := by decide +kernel
theorem dX10_splices_83 : decode cX10_splices 83 = .ok (.iconst 1, 1) := by decide +kernel
theorem dX10_splices_84 : decode cX10_splices 84 = .ok (.isub, 1) := by decide +kernel
theorem dX10_splices_85 : decode cX10_splices 85 = .ok (.invokevirtual 235, 3) := by decide +kernel
theorem dX10_splices_88 : decode cX10_splices 88 = .ok (.aload_n 0, 1) := by decide +kernel
theorem dX10_splices_89 : decode cX10_splices 89 = .ok (.iload_n 1, 1) := by decide +kernel
theorem dX10_splices_90 : decode cX10_splices 90 = .ok (.bipush 7, 2) := by decide +kernel
theorem dX10_splices_92 : decode cX10_splices 92 = .ok (.iconst 1, 1) := by decide +kernel
theorem dX10_splices_93 : decode cX10_splices 93 = .ok (.invokevirtual 235, 3) := by decide +kernel
theorem dX10_splices_96 : decode cX10_splices 96 = .ok (.aload_n 0, 1) := by decide +kernel
theorem dX10_splices_97 : decode cX10_splices 97 = .ok (.getfield 9, 3) := by decide +kernel
theorem dX10_splices_100 : decode cX10_splices 100 = .ok (.bipush 27, 2) := by decide +kernel
theorem dX10_splices_102 : decode cX10_splices 102 = .ok (.dup2, 1) := by decide +kernel
theorem dX10_splices_103 : decode cX10_splices 103 = .ok (.iaload, 1) := by decide +kernel
theorem dX10_splices_104 : decode cX10_splices 104 = .ok (.iconst 1, 1) := by decide +kernel
theorem dX10_splices_105 : decode cX10_splices 105 = .ok (.iadd, 1) := by decide +kernel
theorem dX10_splices_106 : decode cX10_splices 106 = .ok (.iastore, 1) := by decide +kernel
theorem dX10_splices_107 : decode cX10_splices 107 = .ok (.goto (-107), 3) := by decide +kernel
theorem dX10_splices_110 : decode cX10_splices 110 = .ok (.return_, 1) := by decide +kernel
theorem dX10_splice_0 : decode cX10_splice 0 = .ok (.aload_n 0, 1) := by decide +kernel
theorem dX10_splice_1 : decode cX10_splice 1 = .ok (.iload_n 1, 1) := by decide +kernel
theorem dX10_splice_2 : decode cX10_splice 2 = .ok (.invokevirtual 229, 3) := by decide +kernel
theorem dX10_splice_5 : decode cX10_splice 5 = .ok (.ifCond .ne 28, 3) := by decide +kernel
theorem dX10_splice_8 : decode cX10_splice 8 = .ok (.aload_n 0, 1) := by decide +kernel
theorem dX10_splice_9 : decode cX10_splice 9 = .ok (.iload_n 2, 1) := by decide +kernel
theorem dX10_splice_10 : decode cX10_splice 10 = .ok (.i2l, 1) := by decide +kernel
theorem dX10_splice_11 : decode cX10_splice 11 = .ok (.lconst 0, 1) := by decide +kernel
theorem dX10_splice_12 : decode cX10_splice 12 = .ok (.ldc2_w 239, 3) := by decide +kernel
theorem dX10_splice_15 : decode cX10_splice 15 = .ok (.invokestatic 59, 3) := by decide +kernel
theorem dX10_splice_18 : decode cX10_splice 18 = .ok (.ifCond .ne 7, 3) := by decide +kernel
theorem dX10_splice_21 : decode cX10_splice 21 = .ok (.iconst 1, 1) := by decide +kernel
theorem dX10_splice_22 : decode cX10_splice 22 = .ok (.goto 4, 3) := by decide +kernel
theorem dX10_splice_25 : decode cX10_splice 25 = .ok (.iconst 0, 1) := by decide +kernel
theorem dX10_splice_26 : decode cX10_splice 26 = .ok (.iconst 2, 1) := by decide +kernel
theorem dX10_splice_27 : decode cX10_splice 27 = .ok (.invokevirtual 200, 3) := by decide +kernel
theorem dX10_splice_30 : decode cX10_splice 30 = .ok (.ifCond .eq 5, 3) := by decide +kernel
theorem dX10_splice_33 : decode cX10_splice 33 = .ok (.iconst 0, 1) := by decide +kernel
theorem dX10_splice_34 : decode cX10_splice 34 = .ok (.ireturn, 1) := by decide +kernel
theorem dX10_splice_35 : decode cX10_splice 35 = .ok (.aload_n 0, 1) := by decide +kernel
theorem dX10_splice_36 : decode cX10_splice 36 = .ok (.iload_n 1, 1) := by decide +kernel
theorem dX10_splice_37 : decode cX10_splice 37 = .ok (.iconst 4, 1) := by decide +kernel
theorem dX10_splice_38 : decode cX10_splice 38 = .ok (.invokevirtual 232, 3) := by decide +kernel
theorem dX10_splice_41 : decode cX10_splice 41 = .ok (.iconst 3, 1) := by decide +kernel
theorem dX10_splice_42 : decode cX10_splice 42 = .ok (.if_icmp .ne 6, 3) := by decide +kernel
theorem dX10_splice_45 : decode cX10_splice 45 = .ok (.bipush (-2), 2) := by decide +kernel
theorem dX10_splice_47 : decode cX10_splice 47 = .ok (.ireturn, 1) := by decide +kernel
theorem dX10_splice_48 : decode cX10_splice 48 = .ok (.aload_n 0, 1) := by decide +kernel
theorem dX10_splice_49 : decode cX10_splice 49 = .ok (.iload_n 1, 1) := by decide +kernel
theorem dX10_splice_50 : decode cX10_splice 50 = .ok (.bipush 8, 2) := by decide +kernel
theorem dX10_splice_52 : decode cX10_splice 52 = .ok (.aload_n 0, 1) := by decide +kernel
theorem dX10_splice_53 : decode cX10_splice 53 = .ok (.iload_n 1, 1) := by decide +kernel
theorem dX10_splice_54 : decode cX10_splice 54 = .ok (.iconst 4, 1) := by decide +kernel
theorem dX10_splice_55 : decode cX10_splice 55 = .ok (.invokevirtual 232, 3) := by decide +kernel
theorem dX10_splice_58 : decode cX10_splice 58 = .ok (.iadd, 1) := by decide +kernel
theorem dX10_splice_59 : decode cX10_splice 59 = .ok (.iload_n 2, 1) := by decide +kernel
theorem dX10_splice_60 : decode cX10_splice 60 = .ok (.invokevirtual 235, 3) := by decide +kernel
theorem dX10_splice_63 : decode cX10_splice 63 = .ok (.aload_n 0, 1) := by decide +kernel
theorem dX10_splice_64 : decode cX10_splice 64 = .ok (.iload_n 1, 1) := by decide +kernel
theorem dX10_splice_65 : decode cX10_splice 65 = .ok (.iconst 4, 1) := by decide +kernel
theorem dX10_splice_66 : decode cX10_splice 66 = .ok (.aload_n 0, 1) := by decide +kernel
theorem dX10_splice_67 : decode cX10_splice 67 = .ok (.iload_n 1, 1) := by decide +kernel
theorem dX10_splice_68 : decode cX10_splice 68 = .ok (.iconst 4, 1) := by decide +kernel
theorem dX10_splice_69 : decode cX10_splice 69 = .ok (.invokevirtual 232, 3) := by decide +kernel
theorem dX10_splice_72 : decode cX10_splice 72 = .ok (.iconst 1, 1) := by decide +kernel
theorem dX10_splice_73 : decode cX10_splice 73 = .ok (.iadd, 1) := by decide +kernel
theorem dX10_splice_74 : decode cX10_splice 74 = .ok (.invokevirtual 235, 3) := by decide +kernel
theorem dX10_splice_77 : decode cX10_splice 77 = .ok (.aload_n 0, 1) := by decide +kernel
theorem dX10_splice_78 : decode cX10_splice 78 = .ok (.aload_n 0, 1) := by decide +kernel
theorem dX10_splice_79 : decode cX10_splice 79 = .ok (.iload_n 1, 1) := by decide +kernel
theorem dX10_splice_80 : decode cX10_splice 80 = .ok (.iconst 0, 1) := by decide +kernel
theorem dX10_splice_81 : decode cX10_splice 81 = .ok (.invokevirtual 232, 3) := by decide +kernel
theorem dX10_splice_84 : decode cX10_splice 84 = .ok (.iconst 0, 1) := by decide +kernel
theorem dX10_splice_85 : decode cX10_splice 85 = .ok (.iload_n 2, 1) := by decide +kernel
theorem dX10_splice_86 : decode cX10_splice 86 = .ok (.invokevirtual 241, 3) := by decide +kernel
theorem dX10_splice_89 : decode cX10_splice 89 = .ok (.aload_n 0, 1) := by decide +kernel
theorem dX10_splice_90 : decode cX10_splice 90 = .ok (.iload_n 1, 1) := by decide +kernel
theorem dX10_splice_91 : decode cX10_splice 91 = .ok (.invokevirtual 244, 3) := by decide +kernel
theorem dX10_splice_94 : decode cX10_splice 94 = .ok (.aload_n 0, 1) := by decide +kernel
theorem dX10_splice_95 : decode cX10_splice 95 = .ok (.iload_n 1, 1) := by decide +kernel
theorem dX10_splice_96 : decode cX10_splice 96 = .ok (.iconst 4, 1) := by decide +kernel
theorem dX10_splice_97 : decode cX10_splice 97 = .ok (.invokevirtual 232, 3) := by decide +kernel
theorem dX10_splice_100 : decode cX10_splice 100 = .ok (.ireturn, 1) := by decide +kernel
theorem dX10_takeReel_0 : decode cX10_takeReel 0 = .ok (.aload_n 0, 1) := by decide +kernel
theorem dX10_takeReel_1 : decode cX10_takeReel 1 = .ok (.iload_n 1, 1) := by decide +kernel
theorem dX10_takeReel_2 : decode cX10_takeReel 2 = .ok (.invokevirtual 229, 3) := by decide +kernel
theorem dX10_takeReel_5 : decode cX10_takeReel 5 = .ok (.ifCond .eq 5, 3) := by decide +kernel
theorem dX10_takeReel_8 : decode cX10_takeReel 8 = .ok (.iconst 0, 1) := by decide +kernel
theorem dX10_takeReel_9 : decode cX10_takeReel 9 = .ok (.ireturn, 1) := by decide +kernel
theorem dX10_takeReel_10 : decode cX10_takeReel 10 = .ok (.aload_n 0, 1) := by decide +kernel
theorem dX10_takeReel_11 : decode cX10_takeReel 11 = .ok (.iload_n 1, 1) := by decide +kernel
theorem dX10_takeReel_12 : decode cX10_takeReel 12 = .ok (.iconst 4, 1) := by decide +kernel
theorem dX10_takeReel_13 : decode cX10_takeReel 13 = .ok (.invokevirtual 232, 3) := by decide +kernel
theorem dX10_takeReel_16 : decode cX10_takeReel 16 = .ok (.istore_n 2, 1) := by decide +kernel
theorem dX10_takeReel_17 : decode cX10_takeReel 17 = .ok (.iload_n 2, 1) := by decide +kernel
theorem dX10_takeReel_18 : decode cX10_takeReel 18 = .ok (.ifCond .ne 5, 3) := by decide +kernel
theorem dX10_takeReel_21 : decode cX10_takeReel 21 = .ok (.iconst (-1), 1) := by decide +kernel
theorem dX10_takeReel_22 : decode cX10_takeReel 22 = .ok (.ireturn, 1) := by decide +kernel
theorem dX10_takeReel_23 : decode cX10_takeReel 23 = .ok (.aload_n 0, 1) := by decide +kernel
theorem dX10_takeReel_24 : decode cX10_takeReel 24 = .ok (.iload_n 1, 1) := by decide +kernel
theorem dX10_takeReel_25 : decode cX10_takeReel 25 = .ok (.bipush 8, 2) := by decide +kernel
theorem dX10_takeReel_27 : decode cX10_takeReel 27 = .ok (.iload_n 2, 1) := by decide +kernel
theorem dX10_takeReel_28 : decode cX10_takeReel 28 = .ok (.iadd, 1) := by decide +kernel
theorem dX10_takeReel_29 : decode cX10_takeReel 29 = .ok (.iconst 1, 1) := by decide +kernel
theorem dX10_takeReel_30 : decode cX10_takeReel 30 = .ok (.isub, 1) := by decide +kernel
theorem dX10_takeReel_31 : decode cX10_takeReel 31 = .ok (.invokevirtual 232, 3) := by decide +kernel
theorem dX10_takeReel_34 : decode cX10_takeReel 34 = .ok (.istore_n 3, 1) := by decide +kernel
theorem dX10_takeReel_35 : decode cX10_takeReel 35 = .ok (.aload_n 0, 1) := by decide +kernel
theorem dX10_takeReel_36 : decode cX10_takeReel 36 = .ok (.iload_n 1, 1) := by decide +kernel
theorem dX10_takeReel_37 : decode cX10_takeReel 37 = .ok (.bipush 8, 2) := by decide +kernel
theorem dX10_takeReel_39 : decode cX10_takeReel 39 = .ok (.iload_n 2, 1) := by decide +kernel
theorem dX10_takeReel_40 : decode cX10_takeReel 40 = .ok (.iadd, 1) := by decide +kernel
theorem dX10_takeReel_41 : decode cX10_takeReel 41 = .ok (.iconst 1, 1) := by decide +kernel
theorem dX10_takeReel_42 : decode cX10_takeReel 42 = .ok (.isub, 1) := by decide +kernel
theorem dX10_takeReel_43 : decode cX10_takeReel 43 = .ok (.iconst 0, 1) := by decide +kernel
theorem dX10_takeReel_44 : decode cX10_takeReel 44 = .ok (.invokevirtual 235, 3) := by decide +kernel
theorem dX10_takeReel_47 : decode cX10_takeReel 47 = .ok (.aload_n 0, 1) := by decide +kernel
theorem dX10_takeReel_48 : decode cX10_takeReel 48 = .ok (.iload_n 1, 1) := by decide +kernel
theorem dX10_takeReel_49 : decode cX10_takeReel 49 = .ok (.iconst 4, 1) := by decide +kernel
theorem dX10_takeReel_50 : decode cX10_takeReel 50 = .ok (.iload_n 2, 1) := by decide +kernel
theorem dX10_takeReel_51 : decode cX10_takeReel 51 = .ok (.iconst 1, 1) := by decide +kernel
theorem dX10_takeReel_52 : decode cX10_takeReel 52 = .ok (.isub, 1) := by decide +kernel
theorem dX10_takeReel_53 : decode cX10_takeReel 53 = .ok (.invokevirtual 235, 3) := by decide +kernel
theorem dX10_takeReel_56 : decode cX10_takeReel 56 = .ok (.aload_n 0, 1) := by decide +kernel
theorem dX10_takeReel_57 : decode cX10_takeReel 57 = .ok (.aload_n 0, 1) := by decide +kernel
theorem dX10_takeReel_58 : decode cX10_takeReel 58 = .ok (.iload_n 1, 1) := by decide +kernel
theorem dX10_takeReel_59 : decode cX10_takeReel 59 = .ok (.iconst 0, 1) := by decide +kernel
theorem dX10_takeReel_60 : decode cX10_takeReel 60 = .ok (.invokevirtual 232, 3) := by decide +kernel
theorem dX10_takeReel_63 : decode cX10_takeReel 63 = .ok (.iconst 4, 1) := by decide +kernel
theorem dX10_takeReel_64 : decode cX10_takeReel 64 = .ok (.iload_n 3, 1) := by decide +kernel
theorem dX10_takeReel_65 : decode cX10_takeReel 65 = .ok (.invokevirtual 241, 3) := by decide +kernel
theorem dX10_takeReel_68 : decode cX10_takeReel 68 = .ok (.iload_n 3, 1) := by decide +kernel
theorem dX10_takeReel_69 : decode cX10_takeReel 69 = .ok (.ireturn, 1) := by decide +kernel
theorem dX10_changesFeeder_0 : decode cX10_changesFeeder 0 = .ok (.aload_n 0, 1) := by decide +kernel
theorem dX10_changesFeeder_1 : decode cX10_changesFeeder 1 = .ok (.iload_n 1, 1) := by decide +kernel
theorem dX10_changesFeeder_2 : decode cX10_changesFeeder 2 = .ok (.iload_n 2, 1) := by decide +kernel
theorem dX10_changesFeeder_3 : decode cX10_changesFeeder 3 = .ok (.invokevirtual 232, 3) := by decide +kernel
theorem dX10_changesFeeder_6 : decode cX10_changesFeeder 6 = .ok (.istore 4, 2) := by decide +kernel
theorem dX10_changesFeeder_8 : decode cX10_changesFeeder 8 = .ok (.aload_n 0, 1) := by decide +kernel
theorem dX10_changesFeeder_9 : decode cX10_changesFeeder 9 = .ok (.iload_n 1, 1) := by decide +kernel
theorem dX10_changesFeeder_10 : decode cX10_changesFeeder 10 = .ok (.iload_n 2, 1) := by decide +kernel
theorem dX10_changesFeeder_11 : decode cX10_changesFeeder 11 = .ok (.iload_n 3, 1) := by decide +kernel
theorem dX10_changesFeeder_12 : decode cX10_changesFeeder 12 = .ok (.invokevirtual 235, 3) := by decide +kernel
theorem dX10_changesFeeder_15 : decode cX10_changesFeeder 15 = .ok (.iload 4, 2) := by decide +kernel
theorem dX10_changesFeeder_17 : decode cX10_changesFeeder 17 = .ok (.ireturn, 1) := by decide +kernel
theorem dX10_setMiss_0 : decode cX10_setMiss 0 = .ok (.aload_n 0, 1) := by decide +kernel
theorem dX10_setMiss_1 : decode cX10_setMiss 1 = .ok (.iload_n 1, 1) := by decide +kernel
theorem dX10_setMiss_2 : decode cX10_setMiss 2 = .ok (.invokevirtual 229, 3) := by decide +kernel
theorem dX10_setMiss_5 : decode cX10_setMiss 5 = .ok (.ifCond .ne 28, 3) := by decide +kernel
theorem dX10_setMiss_8 : decode cX10_setMiss 8 = .ok (.aload_n 0, 1) := by decide +kernel
theorem dX10_setMiss_9 : decode cX10_setMiss 9 = .ok (.iload_n 2, 1) := by decide +kernel
theorem dX10_setMiss_10 : decode cX10_setMiss 10 = .ok (.i2l, 1) := by decide +kernel
theorem dX10_setMiss_11 : decode cX10_setMiss 11 = .ok (.lconst 0, 1) := by decide +kernel
theorem dX10_setMiss_12 : decode cX10_setMiss 12 = .ok (.ldc2_w 248, 3) := by decide +kernel
theorem dX10_setMiss_15 : decode cX10_setMiss 15 = .ok (.invokestatic 59, 3) := by decide +kernel
theorem dX10_setMiss_18 : decode cX10_setMiss 18 = .ok (.ifCond .ne 7, 3) := by decide +kernel
theorem dX10_setMiss_21 : decode cX10_setMiss 21 = .ok (.iconst 1, 1) := by decide +kernel
theorem dX10_setMiss_22 : decode cX10_setMiss 22 = .ok (.goto 4, 3) := by decide +kernel
theorem dX10_setMiss_25 : decode cX10_setMiss 25 = .ok (.iconst 0, 1) := by decide +kernel
theorem dX10_setMiss_26 : decode cX10_setMiss 26 = .ok (.iconst 2, 1) := by decide +kernel
theorem dX10_setMiss_27 : decode cX10_setMiss 27 = .ok (.invokevirtual 200, 3) := by decide +kernel
theorem dX10_setMiss_30 : decode cX10_setMiss 30 = .ok (.ifCond .eq 7, 3) := by decide +kernel
theorem dX10_setMiss_33 : decode cX10_setMiss 33 = .ok (.iconst 0, 1) := by decide +kernel
theorem dX10_setMiss_34 : decode cX10_setMiss 34 = .ok (.goto 10, 3) := by decide +kernel
theorem dX10_setMiss_37 : decode cX10_setMiss 37 = .ok (.aload_n 0, 1) := by decide +kernel
theorem dX10_setMiss_38 : decode cX10_setMiss 38 = .ok (.iload_n 1, 1) := by decide +kernel
theorem dX10_setMiss_39 : decode cX10_setMiss 39 = .ok (.iconst 3, 1) := by decide +kernel
theorem dX10_setMiss_40 : decode cX10_setMiss 40 = .ok (.iload_n 2, 1) := by decide +kernel
theorem dX10_setMiss_41 : decode cX10_setMiss 41 = .ok (.invokevirtual 250, 3) := by decide +kernel
theorem dX10_setMiss_44 : decode cX10_setMiss 44 = .ok (.ireturn, 1) := by decide +kernel
theorem dX10_moveFeeder_0 : decode cX10_moveFeeder 0 = .ok (.aload_n 0, 1) := by decide +kernel
theorem dX10_moveFeeder_1 : decode cX10_moveFeeder 1 = .ok (.iload_n 1, 1) := by decide +kernel
theorem dX10_moveFeeder_2 : decode cX10_moveFeeder 2 = .ok (.invokevirtual 229, 3) := by decide +kernel
theorem dX10_moveFeeder_5 : decode cX10_moveFeeder 5 = .ok (.ifCond .ne 28, 3) := by decide +kernel
theorem dX10_moveFeeder_8 : decode cX10_moveFeeder 8 = .ok (.aload_n 0, 1) := by decide +kernel
theorem dX10_moveFeeder_9 : decode cX10_moveFeeder 9 = .ok (.iload_n 2, 1) := by decide +kernel
theorem dX10_moveFeeder_10 : decode cX10_moveFeeder 10 = .ok (.i2l, 1) := by decide +kernel
theorem dX10_moveFeeder_11 : decode cX10_moveFeeder 11 = .ok (.lconst 0, 1) := by decide +kernel
theorem dX10_moveFeeder_12 : decode cX10_moveFeeder 12 = .ok (.ldc2_w 254, 3) := by decide +kernel
theorem dX10_moveFeeder_15 : decode cX10_moveFeeder 15 = .ok (.invokestatic 59, 3) := by decide +kernel
theorem dX10_moveFeeder_18 : decode cX10_moveFeeder 18 = .ok (.ifCond .ne 7, 3) := by decide +kernel
theorem dX10_moveFeeder_21 : decode cX10_moveFeeder 21 = .ok (.iconst 1, 1) := by decide +kernel
theorem dX10_moveFeeder_22 : decode cX10_moveFeeder 22 = .ok (.goto 4, 3) := by decide +kernel
theorem dX10_moveFeeder_25 : decode cX10_moveFeeder 25 = .ok (.iconst 0, 1) := by decide +kernel
theorem dX10_moveFeeder_26 : decode cX10_moveFeeder 26 = .ok (.iconst 2, 1) := by decide +kernel
theorem dX10_moveFeeder_27 : decode cX10_moveFeeder 27 = .ok (.invokevirtual 200, 3) := by decide +kernel
theorem dX10_moveFeeder_30 : decode cX10_moveFeeder 30 = .ok (.ifCond .eq 7, 3) := by decide +kernel
theorem dX10_moveFeeder_33 : decode cX10_moveFeeder 33 = .ok (.iconst 0, 1) := by decide +kernel
theorem dX10_moveFeeder_34 : decode cX10_moveFeeder 34 = .ok (.goto 10, 3) := by decide +kernel
theorem dX10_moveFeeder_37 : decode cX10_moveFeeder 37 = .ok (.aload_n 0, 1) := by decide +kernel
theorem dX10_moveFeeder_38 : decode cX10_moveFeeder 38 = .ok (.iload_n 1, 1) := by decide +kernel
theorem dX10_moveFeeder_39 : decode cX10_moveFeeder 39 = .ok (.iconst 1, 1) := by decide +kernel
theorem dX10_moveFeeder_40 : decode cX10_moveFeeder 40 = .ok (.iload_n 2, 1) := by decide +kernel
theorem dX10_moveFeeder_41 : decode cX10_moveFeeder 41 = .ok (.invokevirtual 250, 3) := by decide +kernel
theorem dX10_moveFeeder_44 : decode cX10_moveFeeder 44 = .ok (.ireturn, 1) := by decide +kernel
theorem dX10_nearest_0 : decode cX10_nearest 0 = .ok (.iconst (-1), 1) := by decide +kernel
theorem dX10_nearest_1 : decode cX10_nearest 1 = .ok (.istore_n 2, 1) := by decide +kernel
theorem dX10_nearest_2 : decode cX10_nearest 2 = .ok (.iconst 0, 1) := by decide +kernel
theorem dX10_nearest_3 : decode cX10_nearest 3 = .ok (.istore_n 3, 1) := by decide +kernel
theorem dX10_nearest_4 : decode cX10_nearest 4 = .ok (.iconst 0, 1) := by decide +kernel
theorem dX10_nearest_5 : decode cX10_nearest 5 = .ok (.istore 4, 2) := by decide +kernel
theorem dX10_nearest_7 : decode cX10_nearest 7 = .ok (.iload 4, 2) := by decide +kernel
theorem dX10_nearest_9 : decode cX10_nearest 9 = .ok (.aload_n 0, 1) := by decide +kernel
theorem dX10_nearest_10 : decode cX10_nearest 10 = .ok (.getfield 9, 3) := by decide +kernel
theorem dX10_nearest_13 : decode cX10_nearest 13 = .ok (.bipush 18, 2) := by decide +kernel
theorem dX10_nearest_15 : decode cX10_nearest 15 = .ok (.iaload, 1) := by decide +kernel
theorem dX10_nearest_16 : decode cX10_nearest 16 = .ok (.if_icmp .ge 70, 3) := by decide +kernel
theorem dX10_nearest_19 : decode cX10_nearest 19 = .ok (.aload_n 0, 1) := by decide +kernel
theorem dX10_nearest_20 : decode cX10_nearest 20 = .ok (.iload 4, 2) := by decide +kernel
theorem dX10_nearest_22 : decode cX10_nearest 22 = .ok (.iconst 1, 1) := by decide +kernel
theorem dX10_nearest_23 : decode cX10_nearest 23 = .ok (.invokevirtual 232, 3) := by decide +kernel
theorem dX10_nearest_26 : decode cX10_nearest 26 = .ok (.aload_n 0, 1) := by decide +kernel
theorem dX10_nearest_27 : decode cX10_nearest 27 = .ok (.getfield 9, 3) := by decide +kernel
theorem dX10_nearest_30 : decode cX10_nearest 30 = .ok (.bipush 21, 2) := by decide +kernel
theorem dX10_nearest_32 : decode cX10_nearest 32 = .ok (.iaload, 1) := by decide +kernel
theorem dX10_nearest_33 : decode cX10_nearest 33 = .ok (.isub, 1) := by decide +kernel
theorem dX10_nearest_34 : decode cX10_nearest 34 = .ok (.invokestatic 256, 3) := by decide +kernel
theorem dX10_nearest_37 : decode cX10_nearest 37 = .ok (.istore 5, 2) := by decide +kernel
theorem dX10_nearest_39 : decode cX10_nearest 39 = .ok (.aload_n 0, 1) := by decide +kernel
theorem dX10_nearest_40 : decode cX10_nearest 40 = .ok (.iload 4, 2) := by decide +kernel
theorem dX10_nearest_42 : decode cX10_nearest 42 = .ok (.iconst 0, 1) := by decide +kernel
theorem dX10_nearest_43 : decode cX10_nearest 43 = .ok (.invokevirtual 232, 3) := by decide +kernel
theorem dX10_nearest_46 : decode cX10_nearest 46 = .ok (.iload_n 1, 1) := by decide +kernel
theorem dX10_nearest_47 : decode cX10_nearest 47 = .ok (.if_icmp .ne 33, 3) := by decide +kernel
theorem dX10_nearest_50 : decode cX10_nearest 50 = .ok (.aload_n 0, 1) := by decide +kernel
theorem dX10_nearest_51 : decode cX10_nearest 51 = .ok (.iload 4, 2) := by decide +kernel
theorem dX10_nearest_53 : decode cX10_nearest 53 = .ok (.iconst 2, 1) := by decide +kernel
theorem dX10_nearest_54 : decode cX10_nearest 54 = .ok (.invokevirtual 232, 3) := by decide +kernel
theorem dX10_nearest_57 : decode cX10_nearest 57 = .ok (.ifCond .eq 23, 3) := by decide +kernel
theorem dX10_nearest_60 : decode cX10_nearest 60 = .ok (.iload_n 2, 1) := by decide +kernel
theorem dX10_nearest_61 : decode cX10_nearest 61 = .ok (.iconst (-1), 1) := by decide +kernel
theorem dX10_nearest_62 : decode cX10_nearest 62 = .ok (.if_icmp .eq 12, 3) := by decide +kernel
theorem dX10_nearest_65 : decode cX10_nearest 65 = .ok (.iload 5, 2) := by decide +kernel
theorem dX10_nearest_67 : decode cX10_nearest 67 = .ok (.iload_n 3, 1) := by decide +kernel
theorem dX10_nearest_68 : decode cX10_nearest 68 = .ok (.if_icmp .lt 6, 3) := by decide +kernel
theorem dX10_nearest_71 : decode cX10_nearest 71 = .ok (.goto 9, 3) := by decide +kernel
theorem dX10_nearest_74 : decode cX10_nearest 74 = .ok (.iload 4, 2) := by decide +kernel
theorem dX10_nearest_76 : decode cX10_nearest 76 = .ok (.istore_n 2, 1) := by decide +kernel
theorem dX10_nearest_77 : decode cX10_nearest 77 = .ok (.iload 5, 2) := by decide +kernel
theorem dX10_nearest_79 : decode cX10_nearest 79 = .ok (.istore_n 3, 1) := by decide +kernel
theorem dX10_nearest_80 : decode cX10_nearest 80 = .ok (.iinc 4 1, 3) := by decide +kernel
theorem dX10_nearest_83 : decode cX10_nearest 83 = .ok (.goto (-76), 3) := by decide +kernel
theorem dX10_nearest_86 : decode cX10_nearest 86 = .ok (.iload_n 2, 1) := by decide +kernel
theorem dX10_nearest_87 : decode cX10_nearest 87 = .ok (.ireturn, 1) := by decide +kernel
theorem dX10_nearestFeeder_0 : decode cX10_nearestFeeder 0 = .ok (.aload_n 0, 1) := by decide +kernel
theorem dX10_nearestFeeder_1 : decode cX10_nearestFeeder 1 = .ok (.iload_n 1, 1) := by decide +kernel
theorem dX10_nearestFeeder_2 : decode cX10_nearestFeeder 2 = .ok (.invokevirtual 223, 3) := by decide +kernel
theorem dX10_nearestFeeder_5 : decode cX10_nearestFeeder 5 = .ok (.ifCond .eq 7, 3) := by decide +kernel
theorem dX10_nearestFeeder_8 : decode cX10_nearestFeeder 8 = .ok (.iconst 0, 1) := by decide +kernel
theorem dX10_nearestFeeder_9 : decode cX10_nearestFeeder 9 = .ok (.goto 8, 3) := by decide +kernel
theorem dX10_nearestFeeder_12 : decode cX10_nearestFeeder 12 = .ok (.aload_n 0, 1) := by decide +kernel
theorem dX10_nearestFeeder_13 : decode cX10_nearestFeeder 13 = .ok (.iload_n 1, 1) := by decide +kernel
theorem dX10_nearestFeeder_14 : decode cX10_nearestFeeder 14 = .ok (.invokevirtual 259, 3) := by decide +kernel
theorem dX10_nearestFeeder_17 : decode cX10_nearestFeeder 17 = .ok (.ireturn, 1) := by decide +kernel
theorem dX10_ofSpot_0 : decode cX10_ofSpot 0 = .ok (.aload_n 0, 1) := by decide +kernel
theorem dX10_ofSpot_1 : decode cX10_ofSpot 1 = .ok (.getfield 9, 3) := by decide +kernel
theorem dX10_ofSpot_4 : decode cX10_ofSpot 4 = .ok (.sipush 240, 3) := by decide +kernel
theorem dX10_ofSpot_7 : decode cX10_ofSpot 7 = .ok (.bipush 6, 2) := by decide +kernel
theorem dX10_ofSpot_9 : decode cX10_ofSpot 9 = .ok (.iload_n 1, 1) := by decide +kernel
theorem dX10_ofSpot_10 : decode cX10_ofSpot 10 = .ok (.imul, 1) := by decide +kernel
theorem dX10_ofSpot_11 : decode cX10_ofSpot 11 = .ok (.iadd, 1) := by decide +kernel
theorem dX10_ofSpot_12 : decode cX10_ofSpot 12 = .ok (.iload_n 2, 1) := by decide +kernel
theorem dX10_ofSpot_13 : decode cX10_ofSpot 13 = .ok (.iadd, 1) := by decide +kernel
theorem dX10_ofSpot_14 : decode cX10_ofSpot 14 = .ok (.iaload, 1) := by decide +kernel
theorem dX10_ofSpot_15 : decode cX10_ofSpot 15 = .ok (.ireturn, 1) := by decide +kernel
theorem dX10_putSpot_0 : decode cX10_putSpot 0 = .ok (.aload_n 0, 1) := by decide +kernel
theorem dX10_putSpot_1 : decode cX10_putSpot 1 = .ok (.getfield 9, 3) := by decide +kernel
theorem dX10_putSpot_4 : decode cX10_putSpot 4 = .ok (.sipush 240, 3) := by decide +kernel
theorem dX10_putSpot_7 : decode cX10_putSpot 7 = .ok (.bipush 6, 2) := by decide +kernel
theorem dX10_putSpot_9 : decode cX10_putSpot 9 = .ok (.iload_n 1, 1) := by decide +kernel
theorem dX10_putSpot_10 : decode cX10_putSpot 10 = .ok (.imul, 1) := by decide +kernel
theorem dX10_putSpot_11 : decode cX10_putSpot 11 = .ok (.iadd, 1) := by decide +kernel
theorem dX10_putSpot_12 : decode cX10_putSpot 12 = .ok (.iload_n 2, 1) := by decide +kernel
theorem dX10_putSpot_13 : decode cX10_putSpot 13 = .ok (.iadd, 1) := by decide +kernel
theorem dX10_putSpot_14 : decode cX10_putSpot 14 = .ok (.iload_n 3, 1) := by decide +kernel
theorem dX10_putSpot_15 : decode cX10_putSpot 15 = .ok (.iastore, 1) := by decide +kernel
theorem dX10_putSpot_16 : decode cX10_putSpot 16 = .ok (.return_, 1) := by decide +kernel
theorem dX10_isSpot_0 : decode cX10_isSpot 0 = .ok (.iload_n 1, 1) := by decide +kernel
theorem dX10_isSpot_1 : decode cX10_isSpot 1 = .ok (.i2l, 1) := by decide +kernel
theorem dX10_isSpot_2 : decode cX10_isSpot 2 = .ok (.lconst 0, 1) := by decide +kernel
theorem dX10_isSpot_3 : decode cX10_isSpot 3 = .ok (.aload_n 0, 1) := by decide +kernel
theorem dX10_isSpot_4 : decode cX10_isSpot 4 = .ok (.getfield 9, 3) := by decide +kernel
theorem dX10_isSpot_7 : decode cX10_isSpot 7 = .ok (.bipush 19, 2) := by decide +kernel
theorem dX10_isSpot_9 : decode cX10_isSpot 9 = .ok (.iaload, 1) := by decide +kernel
theorem dX10_isSpot_10 : decode cX10_isSpot 10 = .ok (.iconst 1, 1) := by decide +kernel
theorem dX10_isSpot_11 : decode cX10_isSpot 11 = .ok (.isub, 1) := by decide +kernel
theorem dX10_isSpot_12 : decode cX10_isSpot 12 = .ok (.i2l, 1) := by decide +kernel
theorem dX10_isSpot_13 : decode cX10_isSpot 13 = .ok (.invokestatic 59, 3) := by decide +kernel
theorem dX10_isSpot_16 : decode cX10_isSpot 16 = .ok (.ireturn, 1) := by decide +kernel
theorem dX10_noSpot_0 : decode cX10_noSpot 0 = .ok (.aload_n 0, 1) := by decide +kernel
theorem dX10_noSpot_1 : decode cX10_noSpot 1 = .ok (.iconst 0, 1) := by decide +kernel
theorem dX10_noSpot_2 : decode cX10_noSpot 2 = .ok (.putfield 39, 3) := by decide +kernel
theorem dX10_noSpot_5 : decode cX10_noSpot 5 = .ok (.aload_n 0, 1) := by decide +kernel
theorem dX10_noSpot_6 : decode cX10_noSpot 6 = .ok (.aload_n 0, 1) := by decide +kernel
theorem dX10_noSpot_7 : decode cX10_noSpot 7 = .ok (.iload_n 1, 1) := by decide +kernel
theorem dX10_noSpot_8 : decode cX10_noSpot 8 = .ok (.invokevirtual 262, 3) := by decide +kernel
theorem dX10_noSpot_11 : decode cX10_noSpot 11 = .ok (.ifCond .ne 7, 3) := by decide +kernel
theorem dX10_noSpot_14 : decode cX10_noSpot 14 = .ok (.iconst 1, 1) := by decide +kernel
theorem dX10_noSpot_15 : decode cX10_noSpot 15 = .ok (.goto 4, 3) := by decide +kernel
theorem dX10_noSpot_18 : decode cX10_noSpot 18 = .ok (.iconst 0, 1) := by decide +kernel
theorem dX10_noSpot_19 : decode cX10_noSpot 19 = .ok (.iconst 1, 1) := by decide +kernel
theorem dX10_noSpot_20 : decode cX10_noSpot 20 = .ok (.invokevirtual 200, 3) := by decide +kernel
theorem dX10_noSpot_23 : decode cX10_noSpot 23 = .ok (.ireturn, 1) := by decide +kernel
theorem dX10_spotValue_0 : decode cX10_spotValue 0 = .ok (.aload_n 0, 1) := by decide +kernel
theorem dX10_spotValue_1 : decode cX10_spotValue 1 = .ok (.iload_n 1, 1) := by decide +kernel
theorem dX10_spotValue_2 : decode cX10_spotValue 2 = .ok (.invokevirtual 265, 3) := by decide +kernel
theorem dX10_spotValue_5 : decode cX10_spotValue 5 = .ok (.ifCond .ne 28, 3) := by decide +kernel
theorem dX10_spotValue_8 : decode cX10_spotValue 8 = .ok (.aload_n 0, 1) := by decide +kernel
theorem dX10_spotValue_9 : decode cX10_spotValue 9 = .ok (.iload_n 2, 1) := by decide +kernel
theorem dX10_spotValue_10 : decode cX10_spotValue 10 = .ok (.i2l, 1) := by decide +kernel
theorem dX10_spotValue_11 : decode cX10_spotValue 11 = .ok (.lconst 0, 1) := by decide +kernel
theorem dX10_spotValue_12 : decode cX10_spotValue 12 = .ok (.ldc2_w 198, 3) := by decide +kernel
theorem dX10_spotValue_15 : decode cX10_spotValue 15 = .ok (.invokestatic 59, 3) := by decide +kernel
theorem dX10_spotValue_18 : decode cX10_spotValue 18 = .ok (.ifCond .ne 7, 3) := by decide +kernel
theorem dX10_spotValue_21 : decode cX10_spotValue 21 = .ok (.iconst 1, 1) := by decide +kernel
theorem dX10_spotValue_22 : decode cX10_spotValue 22 = .ok (.goto 4, 3) := by decide +kernel
theorem dX10_spotValue_25 : decode cX10_spotValue 25 = .ok (.iconst 0, 1) := by decide +kernel
theorem dX10_spotValue_26 : decode cX10_spotValue 26 = .ok (.iconst 2, 1) := by decide +kernel
theorem dX10_spotValue_27 : decode cX10_spotValue 27 = .ok (.invokevirtual 200, 3) := by decide +kernel
theorem dX10_spotValue_30 : decode cX10_spotValue 30 = .ok (.ifCond .eq 7, 3) := by decide +kernel
theorem dX10_spotValue_33 : decode cX10_spotValue 33 = .ok (.iconst 0, 1) := by decide +kernel
theorem dX10_spotValue_34 : decode cX10_spotValue 34 = .ok (.goto 9, 3) := by decide +kernel
theorem dX10_spotValue_37 : decode cX10_spotValue 37 = .ok (.aload_n 0, 1) := by decide +kernel
theorem dX10_spotValue_38 : decode cX10_spotValue 38 = .ok (.iload_n 1, 1) := by decide +kernel
theorem dX10_spotValue_39 : decode cX10_spotValue 39 = .ok (.iload_n 2, 1) := by decide +kernel
theorem dX10_spotValue_40 : decode cX10_spotValue 40 = .ok (.invokevirtual 268, 3) := by decide +kernel
theorem dX10_spotValue_43 : decode cX10_spotValue 43 = .ok (.ireturn, 1) := by decide +kernel
theorem dX10_leaveOut_0 : decode cX10_leaveOut 0 = .ok (.aload_n 0, 1) := by decide +kernel
theorem dX10_leaveOut_1 : decode cX10_leaveOut 1 = .ok (.iload_n 1, 1) := by decide +kernel
theorem dX10_leaveOut_2 : decode cX10_leaveOut 2 = .ok (.invokevirtual 265, 3) := by decide +kernel
theorem dX10_leaveOut_5 : decode cX10_leaveOut 5 = .ok (.ifCond .ne 21, 3) := by decide +kernel
theorem dX10_leaveOut_8 : decode cX10_leaveOut 8 = .ok (.aload_n 0, 1) := by decide +kernel
theorem dX10_leaveOut_9 : decode cX10_leaveOut 9 = .ok (.iload_n 1, 1) := by decide +kernel
theorem dX10_leaveOut_10 : decode cX10_leaveOut 10 = .ok (.iconst 3, 1) := by decide +kernel
theorem dX10_leaveOut_11 : decode cX10_leaveOut 11 = .ok (.invokevirtual 268, 3) := by decide +kernel
theorem dX10_leaveOut_14 : decode cX10_leaveOut 14 = .ok (.iload_n 2, 1) := by decide +kernel
theorem dX10_leaveOut_15 : decode cX10_leaveOut 15 = .ok (.ifCond .eq 7, 3) := by decide +kernel
theorem dX10_leaveOut_18 : decode cX10_leaveOut 18 = .ok (.iconst 0, 1) := by decide +kernel
theorem dX10_leaveOut_19 : decode cX10_leaveOut 19 = .ok (.goto 4, 3) := by decide +kernel
theorem dX10_leaveOut_22 : decode cX10_leaveOut 22 = .ok (.iconst 2, 1) := by decide +kernel
theorem dX10_leaveOut_23 : decode cX10_leaveOut 23 = .ok (.if_icmp .eq 5, 3) := by decide +kernel
theorem dX10_leaveOut_26 : decode cX10_leaveOut 26 = .ok (.iconst 0, 1) := by decide +kernel
theorem dX10_leaveOut_27 : decode cX10_leaveOut 27 = .ok (.ireturn, 1) := by decide +kernel
theorem dX10_leaveOut_28 : decode cX10_leaveOut 28 = .ok (.aload_n 0, 1) := by decide +kernel
theorem dX10_leaveOut_29 : decode cX10_leaveOut 29 = .ok (.iload_n 1, 1) := by decide +kernel
theorem dX10_leaveOut_30 : decode cX10_leaveOut 30 = .ok (.iconst 3, 1) := by decide +kernel
theorem dX10_leaveOut_31 : decode cX10_leaveOut 31 = .ok (.iload_n 2, 1) := by decide +kernel
theorem dX10_leaveOut_32 : decode cX10_leaveOut 32 = .ok (.ifCond .eq 7, 3) := by decide +kernel
theorem dX10_leaveOut_35 : decode cX10_leaveOut 35 = .ok (.iconst 2, 1) := by decide +kernel
theorem dX10_leaveOut_36 : decode cX10_leaveOut 36 = .ok (.goto 4, 3) := by decide +kernel
theorem dX10_leaveOut_39 : decode cX10_leaveOut 39 = .ok (.iconst 0, 1) := by decide +kernel
theorem dX10_leaveOut_40 : decode cX10_leaveOut 40 = .ok (.invokevirtual 271, 3) := by decide +kernel
theorem dX10_leaveOut_43 : decode cX10_leaveOut 43 = .ok (.iconst 1, 1) := by decide +kernel
theorem dX10_leaveOut_44 : decode cX10_leaveOut 44 = .ok (.ireturn, 1) := by decide +kernel
theorem dX10_spotsIn_0 : decode cX10_spotsIn 0 = .ok (.iconst 0, 1) := by decide +kernel
theorem dX10_spotsIn_1 : decode cX10_spotsIn 1 = .ok (.istore_n 3, 1) := by decide +kernel
theorem dX10_spotsIn_2 : decode cX10_spotsIn 2 = .ok (.iconst 0, 1) := by decide +kernel
theorem dX10_spotsIn_3 : decode cX10_spotsIn 3 = .ok (.istore 4, 2) := by decide +kernel
theorem dX10_spotsIn_5 : decode cX10_spotsIn 5 = .ok (.iload 4, 2) := by decide +kernel
theorem dX10_spotsIn_7 : decode cX10_spotsIn 7 = .ok (.aload_n 0, 1) := by decide +kernel
theorem dX10_spotsIn_8 : decode cX10_spotsIn 8 = .ok (.getfield 9, 3) := by decide +kernel
theorem dX10_spotsIn_11 : decode cX10_spotsIn 11 = .ok (.bipush 19, 2) := by decide +kernel
theorem dX10_spotsIn_13 : decode cX10_spotsIn 13 = .ok (.iaload, 1) := by decide +kernel
theorem dX10_spotsIn_14 : decode cX10_spotsIn 14 = .ok (.if_icmp .ge 44, 3) := by decide +kernel
theorem dX10_spotsIn_17 : decode cX10_spotsIn 17 = .ok (.iload_n 3, 1) := by decide +kernel
theorem dX10_spotsIn_18 : decode cX10_spotsIn 18 = .ok (.iload_n 1, 1) := by decide +kernel
theorem dX10_spotsIn_19 : decode cX10_spotsIn 19 = .ok (.iconst (-1), 1) := by decide +kernel
theorem dX10_spotsIn_20 : decode cX10_spotsIn 20 = .ok (.if_icmp .eq 14, 3) := by decide +kernel
theorem dX10_spotsIn_23 : decode cX10_spotsIn 23 = .ok (.aload_n 0, 1) := by decide +kernel
theorem dX10_spotsIn_24 : decode cX10_spotsIn 24 = .ok (.iload 4, 2) := by decide +kernel
theorem dX10_spotsIn_26 : decode cX10_spotsIn 26 = .ok (.iconst 0, 1) := by decide +kernel
theorem dX10_spotsIn_27 : decode cX10_spotsIn 27 = .ok (.invokevirtual 268, 3) := by decide +kernel
theorem dX10_spotsIn_30 : decode cX10_spotsIn 30 = .ok (.iload_n 1, 1) := by decide +kernel
theorem dX10_spotsIn_31 : decode cX10_spotsIn 31 = .ok (.if_icmp .ne 18, 3) := by decide +kernel
theorem dX10_spotsIn_34 : decode cX10_spotsIn 34 = .ok (.aload_n 0, 1) := by decide +kernel
theorem dX10_spotsIn_35 : decode cX10_spotsIn 35 = .ok (.iload 4, 2) := by decide +kernel
theorem dX10_spotsIn_37 : decode cX10_spotsIn 37 = .ok (.iconst 3, 1) := by decide +kernel
theorem dX10_spotsIn_38 : decode cX10_spotsIn 38 = .ok (.invokevirtual 268, 3) := by decide +kernel
theorem dX10_spotsIn_41 : decode cX10_spotsIn 41 = .ok (.iload_n 2, 1) := by decide +kernel
theorem dX10_spotsIn_42 : decode cX10_spotsIn 42 = .ok (.if_icmp .ne 7, 3) := by decide +kernel
theorem dX10_spotsIn_45 : decode cX10_spotsIn 45 = .ok (.iconst 1, 1) := by decide +kernel
theorem dX10_spotsIn_46 : decode cX10_spotsIn 46 = .ok (.goto 4, 3) := by decide +kernel
theorem dX10_spotsIn_49 : decode cX10_spotsIn 49 = .ok (.iconst 0, 1) := by decide +kernel
theorem dX10_spotsIn_50 : decode cX10_spotsIn 50 = .ok (.iadd, 1) := by decide +kernel
theorem dX10_spotsIn_51 : decode cX10_spotsIn 51 = .ok (.istore_n 3, 1) := by decide +kernel
theorem dX10_spotsIn_52 : decode cX10_spotsIn 52 = .ok (.iinc 4 1, 3) := by decide +kernel
theorem dX10_spotsIn_55 : decode cX10_spotsIn 55 = .ok (.goto (-50), 3) := by decide +kernel
theorem dX10_spotsIn_58 : decode cX10_spotsIn 58 = .ok (.iload_n 3, 1) := by decide +kernel
theorem dX10_spotsIn_59 : decode cX10_spotsIn 59 = .ok (.ireturn, 1) := by decide +kernel
theorem dX10_isOpen_0 : decode cX10_isOpen 0 = .ok (.aload_n 0, 1) := by decide +kernel
theorem dX10_isOpen_1 : decode cX10_isOpen 1 = .ok (.iload_n 1, 1) := by decide +kernel
theorem dX10_isOpen_2 : decode cX10_isOpen 2 = .ok (.iconst 3, 1) := by decide +kernel
theorem dX10_isOpen_3 : decode cX10_isOpen 3 = .ok (.invokevirtual 268, 3) := by decide +kernel
theorem dX10_isOpen_6 : decode cX10_isOpen 6 = .ok (.ifCond .ne 7, 3) := by decide +kernel
theorem dX10_isOpen_9 : decode cX10_isOpen 9 = .ok (.iconst 1, 1) := by decide +kernel
theorem dX10_isOpen_10 : decode cX10_isOpen 10 = .ok (.goto 4, 3) := by decide +kernel
theorem dX10_isOpen_13 : decode cX10_isOpen 13 = .ok (.iconst 0, 1) := by decide +kernel
theorem dX10_isOpen_14 : decode cX10_isOpen 14 = .ok (.ireturn, 1) := by decide +kernel
theorem dX10_openBefore_0 : decode cX10_openBefore 0 = .ok (.lconst 0, 1) := by decide +kernel
theorem dX10_openBefore_1 : decode cX10_openBefore 1 = .ok (.lstore_n 2, 1) := by decide +kernel
theorem dX10_openBefore_2 : decode cX10_openBefore 2 = .ok (.iconst 0, 1) := by decide +kernel
theorem dX10_openBefore_3 : decode cX10_openBefore 3 = .ok (.istore 4, 2) := by decide +kernel
theorem dX10_openBefore_5 : decode cX10_openBefore 5 = .ok (.iload 4, 2) := by decide +kernel
theorem dX10_openBefore_7 : decode cX10_openBefore 7 = .ok (.aload_n 0, 1) := by decide +kernel
theorem dX10_openBefore_8 : decode cX10_openBefore 8 = .ok (.getfield 9, 3) := by decide +kernel
theorem dX10_openBefore_11 : decode cX10_openBefore 11 = .ok (.bipush 20, 2) := by decide +kernel
theorem dX10_openBefore_13 : decode cX10_openBefore 13 = .ok (.iaload, 1) := by decide +kernel
theorem dX10_openBefore_14 : decode cX10_openBefore 14 = .ok (.if_icmp .ge 70, 3) := by decide +kernel
theorem dX10_openBefore_17 : decode cX10_openBefore 17 = .ok (.lload_n 2, 1) := by decide +kernel
theorem dX10_openBefore_18 : decode cX10_openBefore 18 = .ok (.aload_n 0, 1) := by decide +kernel
theorem dX10_openBefore_19 : decode cX10_openBefore 19 = .ok (.getfield 9, 3) := by decide +kernel
theorem dX10_openBefore_22 : decode cX10_openBefore 22 = .ok (.sipush 600, 3) := by decide +kernel
theorem dX10_openBefore_25 : decode cX10_openBefore 25 = .ok (.iconst 2, 1) := by decide +kernel
theorem dX10_openBefore_26 : decode cX10_openBefore 26 = .ok (.iload 4, 2) := by decide +kernel
theorem dX10_openBefore_28 : decode cX10_openBefore 28 = .ok (.imul, 1) := by decide +kernel
theorem dX10_openBefore_29 : decode cX10_openBefore 29 = .ok (.iadd, 1) := by decide +kernel
theorem dX10_openBefore_30 : decode cX10_openBefore 30 = .ok (.iconst 1, 1) := by decide +kernel
theorem dX10_openBefore_31 : decode cX10_openBefore 31 = .ok (.iadd, 1) := by decide +kernel
theorem dX10_openBefore_32 : decode cX10_openBefore 32 = .ok (.iaload, 1) := by decide +kernel
theorem dX10_openBefore_33 : decode cX10_openBefore 33 = .ok (.iload_n 1, 1) := by decide +kernel
theorem dX10_openBefore_34 : decode cX10_openBefore 34 = .ok (.if_icmp .ne 41, 3) := by decide +kernel
theorem dX10_openBefore_37 : decode cX10_openBefore 37 = .ok (.aload_n 0, 1) := by decide +kernel
theorem dX10_openBefore_38 : decode cX10_openBefore 38 = .ok (.aload_n 0, 1) := by decide +kernel
theorem dX10_openBefore_39 : decode cX10_openBefore 39 = .ok (.getfield 9, 3) := by decide +kernel
theorem dX10_openBefore_42 : decode cX10_openBefore 42 = .ok (.sipush 600, 3) := by decide +kernel
theorem dX10_openBefore_45 : decode cX10_openBefore 45 = .ok (.iconst 2, 1) := by decide +kernel
theorem dX10_openBefore_46 : decode cX10_openBefore 46 = .ok (.iload 4, 2) := by decide +kernel
theorem dX10_openBefore_48 : decode cX10_openBefore 48 = .ok (.imul, 1) := by decide +kernel
theorem dX10_openBefore_49 : decode cX10_openBefore 49 = .ok (.iadd, 1) := by decide +kernel
theorem dX10_openBefore_50 : decode cX10_openBefore 50 = .ok (.iaload, 1) := by decide +kernel
theorem dX10_openBefore_51 : decode cX10_openBefore 51 = .ok (.invokevirtual 274, 3) := by decide +kernel
theorem dX10_openBefore_54 : decode cX10_openBefore 54 = .ok (.ifCond .eq 21, 3) := by decide +kernel
theorem dX10_openBefore_57 : decode cX10_openBefore 57 = .ok (.lconst 1, 1) := by decide +kernel
theorem dX10_openBefore_58 : decode cX10_openBefore 58 = .ok (.aload_n 0, 1) := by decide +kernel
theorem dX10_openBefore_59 : decode cX10_openBefore 59 = .ok (.getfield 9, 3) := by decide +kernel
theorem dX10_openBefore_62 : decode cX10_openBefore 62 = .ok (.sipush 600, 3) := by decide +kernel
theorem dX10_openBefore_65 : decode cX10_openBefore 65 = .ok (.iconst 2, 1) := by decide +kernel
theorem dX10_openBefore_66 : decode cX10_openBefore 66 = .ok (.iload 4, 2) := by decide +kernel
theorem dX10_openBefore_68 : decode cX10_openBefore 68 = .ok (.imul, 1) := by decide +kernel
theorem dX10_openBefore_69 : decode cX10_openBefore 69 = .ok (.iadd, 1) := by decide +kernel
theorem dX10_openBefore_70 : decode cX10_openBefore 70 = .ok (.iaload, 1) := by decide +kernel
theorem dX10_openBefore_71 : decode cX10_openBefore 71 = .ok (.lshl, 1) := by decide +kernel
theorem dX10_openBefore_72 : decode cX10_openBefore 72 = .ok (.goto 4, 3) := by decide +kernel
theorem dX10_openBefore_75 : decode cX10_openBefore 75 = .ok (.lconst 0, 1) := by decide +kernel
theorem dX10_openBefore_76 : decode cX10_openBefore 76 = .ok (.lor, 1) := by decide +kernel
theorem dX10_openBefore_77 : decode cX10_openBefore 77 = .ok (.lstore_n 2, 1) := by decide +kernel
theorem dX10_openBefore_78 : decode cX10_openBefore 78 = .ok (.iinc 4 1, 3) := by decide +kernel
theorem dX10_openBefore_81 : decode cX10_openBefore 81 = .ok (.goto (-76), 3) := by decide +kernel
theorem dX10_openBefore_84 : decode cX10_openBefore 84 = .ok (.lload_n 2, 1) := by decide +kernel
theorem dX10_openBefore_85 : decode cX10_openBefore 85 = .ok (.lreturn, 1) := by decide +kernel
theorem dX10_isFillable_0 : decode cX10_isFillable 0 = .ok (.aload_n 0, 1) := by decide +kernel
theorem dX10_isFillable_1 : decode cX10_isFillable 1 = .ok (.iload_n 1, 1) := by decide +kernel
theorem dX10_isFillable_2 : decode cX10_isFillable 2 = .ok (.invokevirtual 274, 3) := by decide +kernel
theorem dX10_isFillable_5 : decode cX10_isFillable 5 = .ok (.ifCond .eq 17, 3) := by decide +kernel
theorem dX10_isFillable_8 : decode cX10_isFillable 8 = .ok (.aload_n 0, 1) := by decide +kernel
theorem dX10_isFillable_9 : decode cX10_isFillable 9 = .ok (.iload_n 1, 1) := by decide +kernel
theorem dX10_isFillable_10 : decode cX10_isFillable 10 = .ok (.invokevirtual 277, 3) := by decide +kernel
theorem dX10_isFillable_13 : decode cX10_isFillable 13 = .ok (.lconst 0, 1) := by decide +kernel
theorem dX10_isFillable_14 : decode cX10_isFillable 14 = .ok (.lcmp, 1) := by decide +kernel
theorem dX10_isFillable_15 : decode cX10_isFillable 15 = .ok (.ifCond .ne 7, 3) := by decide +kernel
theorem dX10_isFillable_18 : decode cX10_isFillable 18 = .ok (.iconst 1, 1) := by decide +kernel
theorem dX10_isFillable_19 : decode cX10_isFillable 19 = .ok (.goto 4, 3) := by decide +kernel
theorem dX10_isFillable_22 : decode cX10_isFillable 22 = .ok (.iconst 0, 1) := by decide +kernel
theorem dX10_isFillable_23 : decode cX10_isFillable 23 = .ok (.ireturn, 1) := by decide +kernel
theorem dX10_fillable_0 : decode cX10_fillable 0 = .ok (.iconst 0, 1) := by decide +kernel
theorem dX10_fillable_1 : decode cX10_fillable 1 = .ok (.istore_n 2, 1) := by decide +kernel
theorem dX10_fillable_2 : decode cX10_fillable 2 = .ok (.iconst 0, 1) := by decide +kernel
theorem dX10_fillable_3 : decode cX10_fillable 3 = .ok (.istore_n 3, 1) := by decide +kernel
theorem dX10_fillable_4 : decode cX10_fillable 4 = .ok (.iload_n 3, 1) := by decide +kernel
theorem dX10_fillable_5 : decode cX10_fillable 5 = .ok (.aload_n 0, 1) := by decide +kernel
theorem dX10_fillable_6 : decode cX10_fillable 6 = .ok (.getfield 9, 3) := by decide +kernel
theorem dX10_fillable_9 : decode cX10_fillable 9 = .ok (.bipush 19, 2) := by decide +kernel
theorem dX10_fillable_11 : decode cX10_fillable 11 = .ok (.iaload, 1) := by decide +kernel
theorem dX10_fillable_12 : decode cX10_fillable 12 = .ok (.if_icmp .ge 35, 3) := by decide +kernel
theorem dX10_fillable_15 : decode cX10_fillable 15 = .ok (.iload_n 2, 1) := by decide +kernel
theorem dX10_fillable_16 : decode cX10_fillable 16 = .ok (.aload_n 0, 1) := by decide +kernel
theorem dX10_fillable_17 : decode cX10_fillable 17 = .ok (.iload_n 3, 1) := by decide +kernel
theorem dX10_fillable_18 : decode cX10_fillable 18 = .ok (.iconst 0, 1) := by decide +kernel
theorem dX10_fillable_19 : decode cX10_fillable 19 = .ok (.invokevirtual 268, 3) := by decide +kernel
theorem dX10_fillable_22 : decode cX10_fillable 22 = .ok (.iload_n 1, 1) := by decide +kernel
theorem dX10_fillable_23 : decode cX10_fillable 23 = .ok (.if_icmp .ne 15, 3) := by decide +kernel
theorem dX10_fillable_26 : decode cX10_fillable 26 = .ok (.aload_n 0, 1) := by decide +kernel
theorem dX10_fillable_27 : decode cX10_fillable 27 = .ok (.iload_n 3, 1) := by decide +kernel
theorem dX10_fillable_28 : decode cX10_fillable 28 = .ok (.invokevirtual 281, 3) := by decide +kernel
theorem dX10_fillable_31 : decode cX10_fillable 31 = .ok (.ifCond .eq 7, 3) := by decide +kernel
theorem dX10_fillable_34 : decode cX10_fillable 34 = .ok (.iconst 1, 1) := by decide +kernel
theorem dX10_fillable_35 : decode cX10_fillable 35 = .ok (.goto 4, 3) := by decide +kernel
theorem dX10_fillable_38 : decode cX10_fillable 38 = .ok (.iconst 0, 1) := by decide +kernel
theorem dX10_fillable_39 : decode cX10_fillable 39 = .ok (.iadd, 1) := by decide +kernel
theorem dX10_fillable_40 : decode cX10_fillable 40 = .ok (.istore_n 2, 1) := by decide +kernel
theorem dX10_fillable_41 : decode cX10_fillable 41 = .ok (.iinc 3 1, 3) := by decide +kernel
theorem dX10_fillable_44 : decode cX10_fillable 44 = .ok (.goto (-40), 3) := by decide +kernel
theorem dX10_fillable_47 : decode cX10_fillable 47 = .ok (.iload_n 2, 1) := by decide +kernel
theorem dX10_fillable_48 : decode cX10_fillable 48 = .ok (.ireturn, 1) := by decide +kernel
theorem dX10_addBefore_0 : decode cX10_addBefore 0 = .ok (.aload_n 0, 1) := by decide +kernel
theorem dX10_addBefore_1 : decode cX10_addBefore 1 = .ok (.iload_n 1, 1) := by decide +kernel
theorem dX10_addBefore_2 : decode cX10_addBefore 2 = .ok (.invokevirtual 265, 3) := by decide +kernel
theorem dX10_addBefore_5 : decode cX10_addBefore 5 = .ok (.ifCond .ne 24, 3) := by decide +kernel
theorem dX10_addBefore_8 : decode cX10_addBefore 8 = .ok (.aload_n 0, 1) := by decide +kernel
theorem dX10_addBefore_9 : decode cX10_addBefore 9 = .ok (.aload_n 0, 1) := by decide +kernel
theorem dX10_addBefore_10 : decode cX10_addBefore 10 = .ok (.iload_n 2, 1) := by decide +kernel
theorem dX10_addBefore_11 : decode cX10_addBefore 11 = .ok (.invokevirtual 262, 3) := by decide +kernel
theorem dX10_addBefore_14 : decode cX10_addBefore 14 = .ok (.ifCond .ne 7, 3) := by decide +kernel
theorem dX10_addBefore_17 : decode cX10_addBefore 17 = .ok (.iconst 1, 1) := by decide +kernel
theorem dX10_addBefore_18 : decode cX10_addBefore 18 = .ok (.goto 4, 3) := by decide +kernel
theorem dX10_addBefore_21 : decode cX10_addBefore 21 = .ok (.iconst 0, 1) := by decide +kernel
theorem dX10_addBefore_22 : decode cX10_addBefore 22 = .ok (.iconst 1, 1) := by decide +kernel
theorem dX10_addBefore_23 : decode cX10_addBefore 23 = .ok (.invokevirtual 200, 3) := by decide +kernel
theorem dX10_addBefore_26 : decode cX10_addBefore 26 = .ok (.ifCond .eq 5, 3) := by decide +kernel
theorem dX10_addBefore_29 : decode cX10_addBefore 29 = .ok (.iconst 0, 1) := by decide +kernel
theorem dX10_addBefore_30 : decode cX10_addBefore 30 = .ok (.ireturn, 1) := by decide +kernel
theorem dX10_addBefore_31 : decode cX10_addBefore 31 = .ok (.aload_n 0, 1) := by decide +kernel
theorem dX10_addBefore_32 : decode cX10_addBefore 32 = .ok (.getfield 9, 3) := by decide +kernel
theorem dX10_addBefore_35 : decode cX10_addBefore 35 = .ok (.iload_n 1, 1) := by decide +kernel
theorem dX10_addBefore_36 : decode cX10_addBefore 36 = .ok (.iload_n 2, 1) := by decide +kernel
theorem dX10_addBefore_37 : decode cX10_addBefore 37 = .ok (.invokestatic 129, 3) := by decide +kernel
theorem dX10_addBefore_40 : decode cX10_addBefore 40 = .ok (.iconst (-1), 1) := by decide +kernel
theorem dX10_addBefore_41 : decode cX10_addBefore 41 = .ok (.if_icmp .eq 11, 3) := by decide +kernel
theorem dX10_addBefore_44 : decode cX10_addBefore 44 = .ok (.aload_n 0, 1) := by decide +kernel
theorem dX10_addBefore_45 : decode cX10_addBefore 45 = .ok (.getfield 9, 3) := by decide +kernel
theorem dX10_addBefore_48 : decode cX10_addBefore 48 = .ok (.bipush 20, 2) := by decide +kernel
theorem dX10_addBefore_50 : decode cX10_addBefore 50 = .ok (.iaload, 1) := by decide +kernel
theorem dX10_addBefore_51 : decode cX10_addBefore 51 = .ok (.ireturn, 1) := by decide +kernel
theorem dX10_addBefore_52 : decode cX10_addBefore 52 = .ok (.aload_n 0, 1) := by decide +kernel
theorem dX10_addBefore_53 : decode cX10_addBefore 53 = .ok (.getfield 9, 3) := by decide +kernel
theorem dX10_addBefore_56 : decode cX10_addBefore 56 = .ok (.iload_n 2, 1) := by decide +kernel
theorem dX10_addBefore_57 : decode cX10_addBefore 57 = .ok (.iload_n 1, 1) := by decide +kernel
theorem dX10_addBefore_58 : decode cX10_addBefore 58 = .ok (.invokestatic 125, 3) := by decide +kernel
theorem dX10_addBefore_61 : decode cX10_addBefore 61 = .ok (.ifCond .eq 6, 3) := by decide +kernel
theorem dX10_addBefore_64 : decode cX10_addBefore 64 = .ok (.bipush (-7), 2) := by decide +kernel
theorem dX10_addBefore_66 : decode cX10_addBefore 66 = .ok (.ireturn, 1) := by decide +kernel
theorem dX10_addBefore_67 : decode cX10_addBefore 67 = .ok (.aload_n 0, 1) := by decide +kernel
theorem dX10_addBefore_68 : decode cX10_addBefore 68 = .ok (.getfield 9, 3) := by decide +kernel
theorem dX10_addBefore_71 : decode cX10_addBefore 71 = .ok (.bipush 20, 2) := by decide +kernel
theorem dX10_addBefore_73 : decode cX10_addBefore 73 = .ok (.iaload, 1) := by decide +kernel
theorem dX10_addBefore_74 : decode cX10_addBefore 74 = .ok (.bipush 20, 2) := by decide +kernel
theorem dX10_addBefore_76 : decode cX10_addBefore 76 = .ok (.if_icmp .ne 6, 3) := by decide +kernel
theorem dX10_addBefore_79 : decode cX10_addBefore 79 = .ok (.bipush (-2), 2) := by decide +kernel
theorem dX10_addBefore_81 : decode cX10_addBefore 81 = .ok (.ireturn, 1) := by decide +kernel
theorem dX10_addBefore_82 : decode cX10_addBefore 82 = .ok (.aload_n 0, 1) := by decide +kernel
theorem dX10_addBefore_83 : decode cX10_addBefore 83 = .ok (.getfield 9, 3) := by decide +kernel
theorem dX10_addBefore_86 : decode cX10_addBefore 86 = .ok (.iload_n 1, 1) := by decide +kernel
theorem dX10_addBefore_87 : decode cX10_addBefore 87 = .ok (.iload_n 2, 1) := by decide +kernel
theorem dX10_addBefore_88 : decode cX10_addBefore 88 = .ok (.invokestatic 133, 3) := by decide +kernel
theorem dX10_addBefore_91 : decode cX10_addBefore 91 = .ok (.aload_n 0, 1) := by decide +kernel
theorem dX10_addBefore_92 : decode cX10_addBefore 92 = .ok (.getfield 9, 3) := by decide +kernel
theorem dX10_addBefore_95 : decode cX10_addBefore 95 = .ok (.bipush 20, 2) := by decide +kernel
theorem dX10_addBefore_97 : decode cX10_addBefore 97 = .ok (.iaload, 1) := by decide +kernel
theorem dX10_addBefore_98 : decode cX10_addBefore 98 = .ok (.ireturn, 1) := by decide +kernel
theorem dX10_dropBefore_0 : decode cX10_dropBefore 0 = .ok (.aload_n 0, 1) := by decide +kernel
theorem dX10_dropBefore_1 : decode cX10_dropBefore 1 = .ok (.iload_n 1, 1) := by decide +kernel
theorem dX10_dropBefore_2 : decode cX10_dropBefore 2 = .ok (.invokevirtual 265, 3) := by decide +kernel
theorem dX10_dropBefore_5 : decode cX10_dropBefore 5 = .ok (.ifCond .ne 24, 3) := by decide +kernel
theorem dX10_dropBefore_8 : decode cX10_dropBefore 8 = .ok (.aload_n 0, 1) := by decide +kernel
theorem dX10_dropBefore_9 : decode cX10_dropBefore 9 = .ok (.aload_n 0, 1) := by decide +kernel
theorem dX10_dropBefore_10 : decode cX10_dropBefore 10 = .ok (.iload_n 2, 1) := by decide +kernel
theorem dX10_dropBefore_11 : decode cX10_dropBefore 11 = .ok (.invokevirtual 262, 3) := by decide +kernel
theorem dX10_dropBefore_14 : decode cX10_dropBefore 14 = .ok (.ifCond .ne 7, 3) := by decide +kernel
theorem dX10_dropBefore_17 : decode cX10_dropBefore 17 = .ok (.iconst 1, 1) := by decide +kernel
theorem dX10_dropBefore_18 : decode cX10_dropBefore 18 = .ok (.goto 4, 3) := by decide +kernel
theorem dX10_dropBefore_21 : decode cX10_dropBefore 21 = .ok (.iconst 0, 1) := by decide +kernel
theorem dX10_dropBefore_22 : decode cX10_dropBefore 22 = .ok (.iconst 1, 1) := by decide +kernel
theorem dX10_dropBefore_23 : decode cX10_dropBefore 23 = .ok (.invokevirtual 200, 3) := by decide +kernel
theorem dX10_dropBefore_26 : decode cX10_dropBefore 26 = .ok (.ifCond .eq 5, 3) := by decide +kernel
theorem dX10_dropBefore_29 : decode cX10_dropBefore 29 = .ok (.iconst 0, 1) := by decide +kernel
theorem dX10_dropBefore_30 : decode cX10_dropBefore 30 = .ok (.ireturn, 1) := by decide +kernel
theorem dX10_dropBefore_31 : decode cX10_dropBefore 31 = .ok (.aload_n 0, 1) := by decide +kernel
theorem dX10_dropBefore_32 : decode cX10_dropBefore 32 = .ok (.getfield 9, 3) := by decide +kernel
theorem dX10_dropBefore_35 : decode cX10_dropBefore 35 = .ok (.iload_n 1, 1) := by decide +kernel
theorem dX10_dropBefore_36 : decode cX10_dropBefore 36 = .ok (.iload_n 2, 1) := by decide +kernel
theorem dX10_dropBefore_37 : decode cX10_dropBefore 37 = .ok (.invokestatic 129, 3) := by decide +kernel
theorem dX10_dropBefore_40 : decode cX10_dropBefore 40 = .ok (.istore_n 3, 1) := by decide +kernel
theorem dX10_dropBefore_41 : decode cX10_dropBefore 41 = .ok (.iload_n 3, 1) := by decide +kernel
theorem dX10_dropBefore_42 : decode cX10_dropBefore 42 = .ok (.iconst (-1), 1) := by decide +kernel
theorem dX10_dropBefore_43 : decode cX10_dropBefore 43 = .ok (.if_icmp .ne 5, 3) := by decide +kernel
theorem dX10_dropBefore_46 : decode cX10_dropBefore 46 = .ok (.iconst 0, 1) := by decide +kernel
theorem dX10_dropBefore_47 : decode cX10_dropBefore 47 = .ok (.ireturn, 1) := by decide +kernel
theorem dX10_dropBefore_48 : decode cX10_dropBefore 48 = .ok (.aload_n 0, 1) := by decide +kernel
theorem dX10_dropBefore_49 : decode cX10_dropBefore 49 = .ok (.getfield 9, 3) := by decide +kernel
theorem dX10_dropBefore_52 : decode cX10_dropBefore 52 = .ok (.bipush 20, 2) := by decide +kernel
theorem dX10_dropBefore_54 : decode cX10_dropBefore 54 = .ok (.dup2, 1) := by decide +kernel
theorem dX10_dropBefore_55 : decode cX10_dropBefore 55 = .ok (.iaload, 1) := by decide +kernel
theorem dX10_dropBefore_56 : decode cX10_dropBefore 56 = .ok (.iconst 1, 1) := by decide +kernel
theorem dX10_dropBefore_57 : decode cX10_dropBefore 57 = .ok (.isub, 1) := by decide +kernel
theorem dX10_dropBefore_58 : decode cX10_dropBefore 58 = .ok (.iastore, 1) := by decide +kernel
theorem dX10_dropBefore_59 : decode cX10_dropBefore 59 = .ok (.sipush 600, 3) := by decide +kernel
theorem dX10_dropBefore_62 : decode cX10_dropBefore 62 = .ok (.iconst 2, 1) := by decide +kernel
theorem dX10_dropBefore_63 : decode cX10_dropBefore 63 = .ok (.iload_n 3, 1) := by decide +kernel
theorem dX10_dropBefore_64 : decode cX10_dropBefore 64 = .ok (.imul, 1) := by decide +kernel
theorem dX10_dropBefore_65 : decode cX10_dropBefore 65 = .ok (.iadd, 1) := by decide +kernel
theorem dX10_dropBefore_66 : decode cX10_dropBefore 66 = .ok (.istore 4, 2) := by decide +kernel
theorem dX10_dropBefore_68 : decode cX10_dropBefore 68 = .ok (.iload 4, 2) := by decide +kernel
theorem dX10_dropBefore_70 : decode cX10_dropBefore 70 = .ok (.sipush 600, 3) := by decide +kernel
theorem dX10_dropBefore_73 : decode cX10_dropBefore 73 = .ok (.iconst 2, 1) := by decide +kernel
theorem dX10_dropBefore_74 : decode cX10_dropBefore 74 = .ok (.aload_n 0, 1) := by decide +kernel
theorem dX10_dropBefore_75 : decode cX10_dropBefore 75 = .ok (.getfield 9, 3) := by decide +kernel
theorem dX10_dropBefore_78 : decode cX10_dropBefore 78 = .ok (.bipush 20, 2) := by decide +kernel
theorem dX10_dropBefore_80 : decode cX10_dropBefore 80 = .ok (.iaload, 1) := by decide +kernel
theorem dX10_dropBefore_81 : decode cX10_dropBefore 81 = .ok (.imul, 1) := by decide +kernel
theorem dX10_dropBefore_82 : decode cX10_dropBefore 82 = .ok (.iadd, 1) := by decide +kernel
theorem dX10_dropBefore_83 : decode cX10_dropBefore 83 = .ok (.if_icmp .ge 25, 3) := by decide +kernel
theorem dX10_dropBefore_86 : decode cX10_dropBefore 86 = .ok (.aload_n 0, 1) := by decide +kernel
theorem dX10_dropBefore_87 : decode cX10_dropBefore 87 = .ok (.getfield 9, 3) := by decide +kernel
theorem dX10_dropBefore_90 : decode cX10_dropBefore 90 = .ok (.iload 4, 2) := by decide +kernel
theorem dX10_dropBefore_92 : decode cX10_dropBefore 92 = .ok (.aload_n 0, 1) := by decide +kernel
theorem dX10_dropBefore_93 : decode cX10_dropBefore 93 = .ok (.getfield 9, 3) := by decide +kernel
theorem dX10_dropBefore_96 : decode cX10_dropBefore 96 = .ok (.iload 4, 2) := by decide +kernel
theorem dX10_dropBefore_98 : decode cX10_dropBefore 98 = .ok (.iconst 2, 1) := by decide +kernel
theorem dX10_dropBefore_99 : decode cX10_dropBefore 99 = .ok (.iadd, 1) := by decide +kernel
theorem dX10_dropBefore_100 : decode cX10_dropBefore 100 = .ok (.iaload, 1) := by decide +kernel
theorem dX10_dropBefore_101 : decode cX10_dropBefore 101 = .ok (.iastore, 1) := by decide +kernel
theorem dX10_dropBefore_102 : decode cX10_dropBefore 102 = .ok (.iinc 4 1, 3) := by decide +kernel
theorem dX10_dropBefore_105 : decode cX10_dropBefore 105 = .ok (.goto (-37), 3) := by decide +kernel
theorem dX10_dropBefore_108 : decode cX10_dropBefore 108 = .ok (.iconst 1, 1) := by decide +kernel
theorem dX10_dropBefore_109 : decode cX10_dropBefore 109 = .ok (.ireturn, 1) := by decide +kernel
theorem dX10_blockedBy_0 : decode cX10_blockedBy 0 = .ok (.aload_n 0, 1) := by decide +kernel
theorem dX10_blockedBy_1 : decode cX10_blockedBy 1 = .ok (.iload_n 1, 1) := by decide +kernel
theorem dX10_blockedBy_2 : decode cX10_blockedBy 2 = .ok (.invokevirtual 265, 3) := by decide +kernel
theorem dX10_blockedBy_5 : decode cX10_blockedBy 5 = .ok (.ifCond .eq 7, 3) := by decide +kernel
theorem dX10_blockedBy_8 : decode cX10_blockedBy 8 = .ok (.lconst 0, 1) := by decide +kernel
theorem dX10_blockedBy_9 : decode cX10_blockedBy 9 = .ok (.goto 8, 3) := by decide +kernel
theorem dX10_blockedBy_12 : decode cX10_blockedBy 12 = .ok (.aload_n 0, 1) := by decide +kernel
theorem dX10_blockedBy_13 : decode cX10_blockedBy 13 = .ok (.iload_n 1, 1) := by decide +kernel
theorem dX10_blockedBy_14 : decode cX10_blockedBy 14 = .ok (.invokevirtual 277, 3) := by decide +kernel
theorem dX10_blockedBy_17 : decode cX10_blockedBy 17 = .ok (.lreturn, 1) := by decide +kernel
theorem dX10_chain_0 : decode cX10_chain 0 = .ok (.aload_n 0, 1) := by decide +kernel
theorem dX10_chain_1 : decode cX10_chain 1 = .ok (.iload_n 1, 1) := by decide +kernel
theorem dX10_chain_2 : decode cX10_chain 2 = .ok (.invokevirtual 265, 3) := by decide +kernel
theorem dX10_chain_5 : decode cX10_chain 5 = .ok (.ifCond .eq 5, 3) := by decide +kernel
theorem dX10_chain_8 : decode cX10_chain 8 = .ok (.iconst 0, 1) := by decide +kernel
theorem dX10_chain_9 : decode cX10_chain 9 = .ok (.ireturn, 1) := by decide +kernel
theorem dX10_chain_10 : decode cX10_chain 10 = .ok (.iconst 0, 1) := by decide +kernel
theorem dX10_chain_11 : decode cX10_chain 11 = .ok (.istore_n 2, 1) := by decide +kernel
theorem dX10_chain_12 : decode cX10_chain 12 = .ok (.iload_n 2, 1) := by decide +kernel
theorem dX10_chain_13 : decode cX10_chain 13 = .ok (.bipush 40, 2) := by decide +kernel
theorem dX10_chain_15 : decode cX10_chain 15 = .ok (.if_icmp .ge 16, 3) := by decide +kernel
theorem dX10_chain_18 : decode cX10_chain 18 = .ok (.aload_n 0, 1) := by decide +kernel
theorem dX10_chain_19 : decode cX10_chain 19 = .ok (.getfield 32, 3) := by decide +kernel
theorem dX10_chain_22 : decode cX10_chain 22 = .ok (.iload_n 2, 1) := by decide +kernel
theorem dX10_chain_23 : decode cX10_chain 23 = .ok (.iconst 0, 1) := by decide +kernel
theorem dX10_chain_24 : decode cX10_chain 24 = .ok (.iastore, 1) := by decide +kernel
theorem dX10_chain_25 : decode cX10_chain 25 = .ok (.iinc 2 1, 3) := by decide +kernel
theorem dX10_chain_28 : decode cX10_chain 28 = .ok (.goto (-16), 3) := by decide +kernel
theorem dX10_chain_31 : decode cX10_chain 31 = .ok (.iconst 0, 1) := by decide +kernel
theorem dX10_chain_32 : decode cX10_chain 32 = .ok (.istore_n 2, 1) := by decide +kernel
theorem dX10_chain_33 : decode cX10_chain 33 = .ok (.iload_n 2, 1) := by decide +kernel
theorem dX10_chain_34 : decode cX10_chain 34 = .ok (.aload_n 0, 1) := by decide +kernel
theorem dX10_chain_35 : decode cX10_chain 35 = .ok (.getfield 9, 3) := by decide +kernel
theorem dX10_chain_38 : decode cX10_chain 38 = .ok (.bipush 20, 2) := by decide +kernel
theorem dX10_chain_40 : decode cX10_chain 40 = .ok (.iaload, 1) := by decide +kernel
theorem dX10_chain_41 : decode cX10_chain 41 = .ok (.if_icmp .ge 88, 3) := by decide +kernel
theorem dX10_chain_44 : decode cX10_chain 44 = .ok (.iconst 0, 1) := by decide +kernel
theorem dX10_chain_45 : decode cX10_chain 45 = .ok (.istore_n 3, 1) := by decide +kernel
theorem dX10_chain_46 : decode cX10_chain 46 = .ok (.iload_n 3, 1) := by decide +kernel
theorem dX10_chain_47 : decode cX10_chain 47 = .ok (.aload_n 0, 1) := by decide +kernel
theorem dX10_chain_48 : decode cX10_chain 48 = .ok (.getfield 9, 3) := by decide +kernel
theorem dX10_chain_51 : decode cX10_chain 51 = .ok (.bipush 20, 2) := by decide +kernel
theorem dX10_chain_53 : decode cX10_chain 53 = .ok (.iaload, 1) := by decide +kernel
theorem dX10_chain_54 : decode cX10_chain 54 = .ok (.if_icmp .ge 69, 3) := by decide +kernel
theorem dX10_chain_57 : decode cX10_chain 57 = .ok (.aload_n 0, 1) := by decide +kernel
theorem dX10_chain_58 : decode cX10_chain 58 = .ok (.getfield 32, 3) := by decide +kernel
theorem dX10_chain_61 : decode cX10_chain 61 = .ok (.aload_n 0, 1) := by decide +kernel
theorem dX10_chain_62 : decode cX10_chain 62 = .ok (.getfield 9, 3) := by decide +kernel
theorem dX10_chain_65 : decode cX10_chain 65 = .ok (.sipush 600, 3) := by decide +kernel
theorem dX10_chain_68 : decode cX10_chain 68 = .ok (.iconst 2, 1) := by decide +kernel
theorem dX10_chain_69 : decode cX10_chain 69 = .ok (.iload_n 3, 1) := by decide +kernel
theorem dX10_chain_70 : decode cX10_chain 70 = .ok (.imul, 1) := by decide +kernel
theorem dX10_chain_71 : decode cX10_chain 71 = .ok (.iadd, 1) := by decide +kernel
theorem dX10_chain_72 : decode cX10_chain 72 = .ok (.iconst 1, 1) := by decide +kernel
theorem dX10_chain_73 : decode cX10_chain 73 = .ok (.iadd, 1) := by decide +kernel
theorem dX10_chain_74 : decode cX10_chain 74 = .ok (.iaload, 1) := by decide +kernel
theorem dX10_chain_75 : decode cX10_chain 75 = .ok (.aload_n 0, 1) := by decide +kernel
theorem dX10_chain_76 : decode cX10_chain 76 = .ok (.getfield 32, 3) := by decide +kernel
theorem dX10_chain_79 : decode cX10_chain 79 = .ok (.aload_n 0, 1) := by decide +kernel
theorem dX10_chain_80 : decode cX10_chain 80 = .ok (.getfield 9, 3) := by decide +kernel
theorem dX10_chain_83 : decode cX10_chain 83 = .ok (.sipush 600, 3) := by decide +kernel
theorem dX10_chain_86 : decode cX10_chain 86 = .ok (.iconst 2, 1) := by decide +kernel
theorem dX10_chain_87 : decode cX10_chain 87 = .ok (.iload_n 3, 1) := by decide +kernel
theorem dX10_chain_88 : decode cX10_chain 88 = .ok (.imul, 1) := by decide +kernel
theorem dX10_chain_89 : decode cX10_chain 89 = .ok (.iadd, 1) := by decide +kernel
theorem dX10_chain_90 : decode cX10_chain 90 = .ok (.iconst 1, 1) := by decide +kernel
theorem dX10_chain_91 : decode cX10_chain 91 = .ok (.iadd, 1) := by decide +kernel
theorem dX10_chain_92 : decode cX10_chain 92 = .ok (.iaload, 1) := by decide +kernel
theorem dX10_chain_93 : decode cX10_chain 93 = .ok (.iaload, 1) := by decide +kernel
theorem dX10_chain_94 : decode cX10_chain 94 = .ok (.aload_n 0, 1) := by decide +kernel
theorem dX10_chain_95 : decode cX10_chain 95 = .ok (.getfield 32, 3) := by decide +kernel
theorem dX10_chain_98 : decode cX10_chain 98 = .ok (.aload_n 0, 1) := by decide +kernel
theorem dX10_chain_99 : decode cX10_chain 99 = .ok (.getfield 9, 3) := by decide +kernel
theorem dX10_chain_102 : decode cX10_chain 102 = .ok (.sipush 600, 3) := by decide +kernel
theorem dX10_chain_105 : decode cX10_chain 105 = .ok (.iconst 2, 1) := by decide +kernel
theorem dX10_chain_106 : decode cX10_chain 106 = .ok (.iload_n 3, 1) := by decide +kernel
theorem dX10_chain_107 : decode cX10_chain 107 = .ok (.imul, 1) := by decide +kernel
theorem dX10_chain_108 : decode cX10_chain 108 = .ok (.iadd, 1) := by decide +kernel
theorem dX10_chain_109 : decode cX10_chain 109 = .ok (.iaload, 1) := by decide +kernel
theorem dX10_chain_110 : decode cX10_chain 110 = .ok (.iaload, 1) := by decide +kernel
theorem dX10_chain_111 : decode cX10_chain 111 = .ok (.iconst 1, 1) := by decide +kernel
theorem dX10_chain_112 : decode cX10_chain 112 = .ok (.iadd, 1) := by decide +kernel
theorem dX10_chain_113 : decode cX10_chain 113 = .ok (.invokestatic 284, 3) := by decide +kernel
theorem dX10_chain_116 : decode cX10_chain 116 = .ok (.iastore, 1) := by decide +kernel
theorem dX10_chain_117 : decode cX10_chain 117 = .ok (.iinc 3 1, 3) := by decide +kernel
theorem dX10_chain_120 : decode cX10_chain 120 = .ok (.goto (-74), 3) := by decide +kernel
theorem dX10_chain_123 : decode cX10_chain 123 = .ok (.iinc 2 1, 3) := by decide +kernel
theorem dX10_chain_126 : decode cX10_chain 126 = .ok (.goto (-93), 3) := by decide +kernel
theorem dX10_chain_129 : decode cX10_chain 129 = .ok (.aload_n 0, 1) := by decide +kernel
theorem dX10_chain_130 : decode cX10_chain 130 = .ok (.getfield 32, 3) := by decide +kernel
theorem dX10_chain_133 : decode cX10_chain 133 = .ok (.iload_n 1, 1) := by decide +kernel
theorem dX10_chain_134 : decode cX10_chain 134 = .ok (.iaload, 1) := by decide +kernel
theorem dX10_chain_135 : decode cX10_chain 135 = .ok (.ireturn, 1) := by decide +kernel
theorem dX10_fillableSet_0 : decode cX10_fillableSet 0 = .ok (.aload_n 0, 1) := by decide +kernel
theorem dX10_fillableSet_1 : decode cX10_fillableSet 1 = .ok (.iconst 0, 1) := by decide +kernel
theorem dX10_fillableSet_2 : decode cX10_fillableSet 2 = .ok (.putfield 39, 3) := by decide +kernel
theorem dX10_fillableSet_5 : decode cX10_fillableSet 5 = .ok (.lconst 0, 1) := by decide +kernel
theorem dX10_fillableSet_6 : decode cX10_fillableSet 6 = .ok (.lstore_n 1, 1) := by decide +kernel
theorem dX10_fillableSet_7 : decode cX10_fillableSet 7 = .ok (.iconst 0, 1) := by decide +kernel
theorem dX10_fillableSet_8 : decode cX10_fillableSet 8 = .ok (.istore_n 3, 1) := by decide +kernel
theorem dX10_fillableSet_9 : decode cX10_fillableSet 9 = .ok (.iload_n 3, 1) := by decide +kernel
theorem dX10_fillableSet_10 : decode cX10_fillableSet 10 = .ok (.aload_n 0, 1) := by decide +kernel
theorem dX10_fillableSet_11 : decode cX10_fillableSet 11 = .ok (.getfield 9, 3) := by decide +kernel
theorem dX10_fillableSet_14 : decode cX10_fillableSet 14 = .ok (.bipush 19, 2) := by decide +kernel
theorem dX10_fillableSet_16 : decode cX10_fillableSet 16 = .ok (.iaload, 1) := by decide +kernel
theorem dX10_fillableSet_17 : decode cX10_fillableSet 17 = .ok (.if_icmp .ge 27, 3) := by decide +kernel
theorem dX10_fillableSet_20 : decode cX10_fillableSet 20 = .ok (.lload_n 1, 1) := by decide +kernel
theorem dX10_fillableSet_21 : decode cX10_fillableSet 21 = .ok (.aload_n 0, 1) := by decide +kernel
theorem dX10_fillableSet_22 : decode cX10_fillableSet 22 = .ok (.iload_n 3, 1) := by decide +kernel
theorem dX10_fillableSet_23 : decode cX10_fillableSet 23 = .ok (.invokevirtual 281, 3) := by decide +kernel
theorem dX10_fillableSet_26 : decode cX10_fillableSet 26 = .ok (.ifCond .eq 9, 3) := by decide +kernel
theorem dX10_fillableSet_29 : decode cX10_fillableSet 29 = .ok (.lconst 1, 1) := by decide +kernel
theorem dX10_fillableSet_30 : decode cX10_fillableSet 30 = .ok (.iload_n 3, 1) := by decide +kernel
theorem dX10_fillableSet_31 : decode cX10_fillableSet 31 = .ok (.lshl, 1) := by decide +kernel
theorem dX10_fillableSet_32 : decode cX10_fillableSet 32 = .ok (.goto 4, 3) := by decide +kernel
theorem dX10_fillableSet_35 : decode cX10_fillableSet 35 = .ok (.lconst 0, 1) := by decide +kernel
theorem dX10_fillableSet_36 : decode cX10_fillableSet 36 = .ok (.lor, 1) := by decide +kernel
theorem dX10_fillableSet_37 : decode cX10_fillableSet 37 = .ok (.lstore_n 1, 1) := by decide +kernel
theorem dX10_fillableSet_38 : decode cX10_fillableSet 38 = .ok (.iinc 3 1, 3) := by decide +kernel
theorem dX10_fillableSet_41 : decode cX10_fillableSet 41 = .ok (.goto (-32), 3) := by decide +kernel
theorem dX10_fillableSet_44 : decode cX10_fillableSet 44 = .ok (.lload_n 1, 1) := by decide +kernel
theorem dX10_fillableSet_45 : decode cX10_fillableSet 45 = .ok (.lreturn, 1) := by decide +kernel
theorem dX10_openSpots_0 : decode cX10_openSpots 0 = .ok (.aload_n 0, 1) := by decide +kernel
theorem dX10_openSpots_1 : decode cX10_openSpots 1 = .ok (.iload_n 1, 1) := by decide +kernel
theorem dX10_openSpots_2 : decode cX10_openSpots 2 = .ok (.invokevirtual 223, 3) := by decide +kernel
theorem dX10_openSpots_5 : decode cX10_openSpots 5 = .ok (.ifCond .eq 7, 3) := by decide +kernel
theorem dX10_openSpots_8 : decode cX10_openSpots 8 = .ok (.iconst 0, 1) := by decide +kernel
theorem dX10_openSpots_9 : decode cX10_openSpots 9 = .ok (.goto 9, 3) := by decide +kernel
theorem dX10_openSpots_12 : decode cX10_openSpots 12 = .ok (.aload_n 0, 1) := by decide +kernel
theorem dX10_openSpots_13 : decode cX10_openSpots 13 = .ok (.iload_n 1, 1) := by decide +kernel
theorem dX10_openSpots_14 : decode cX10_openSpots 14 = .ok (.iconst 0, 1) := by decide +kernel
theorem dX10_openSpots_15 : decode cX10_openSpots 15 = .ok (.invokevirtual 287, 3) := by decide +kernel
theorem dX10_openSpots_18 : decode cX10_openSpots 18 = .ok (.ireturn, 1) := by decide +kernel
theorem dX10_filledSet_0 : decode cX10_filledSet 0 = .ok (.aload_n 0, 1) := by decide +kernel
theorem dX10_filledSet_1 : decode cX10_filledSet 1 = .ok (.iconst 0, 1) := by decide +kernel
theorem dX10_filledSet_2 : decode cX10_filledSet 2 = .ok (.putfield 39, 3) := by decide +kernel
theorem dX10_filledSet_5 : decode cX10_filledSet 5 = .ok (.lconst 0, 1) := by decide +kernel
theorem dX10_filledSet_6 : decode cX10_filledSet 6 = .ok (.lstore_n 1, 1) := by decide +kernel
theorem dX10_filledSet_7 : decode cX10_filledSet 7 = .ok (.iconst 0, 1) := by decide +kernel
theorem dX10_filledSet_8 : decode cX10_filledSet 8 = .ok (.istore_n 3, 1) := by decide +kernel
theorem dX10_filledSet_9 : decode cX10_filledSet 9 = .ok (.iload_n 3, 1) := by decide +kernel
theorem dX10_filledSet_10 : decode cX10_filledSet 10 = .ok (.aload_n 0, 1) := by decide +kernel
theorem dX10_filledSet_11 : decode cX10_filledSet 11 = .ok (.getfield 9, 3) := by decide +kernel
theorem dX10_filledSet_14 : decode cX10_filledSet 14 = .ok (.bipush 19, 2) := by decide +kernel
theorem dX10_filledSet_16 : decode cX10_filledSet 16 = .ok (.iaload, 1) := by decide +kernel
theorem dX10_filledSet_17 : decode cX10_filledSet 17 = .ok (.if_icmp .ge 29, 3) := by decide +kernel
theorem dX10_filledSet_20 : decode cX10_filledSet 20 = .ok (.lload_n 1, 1) := by decide +kernel
theorem dX10_filledSet_21 : decode cX10_filledSet 21 = .ok (.aload_n 0, 1) := by decide +kernel
theorem dX10_filledSet_22 : decode cX10_filledSet 22 = .ok (.iload_n 3, 1) := by decide +kernel
theorem dX10_filledSet_23 : decode cX10_filledSet 23 = .ok (.iconst 3, 1) := by decide +kernel
theorem dX10_filledSet_24 : decode cX10_filledSet 24 = .ok (.invokevirtual 268, 3) := by decide +kernel
theorem dX10_filledSet_27 : decode cX10_filledSet 27 = .ok (.iconst 1, 1) := by decide +kernel
theorem dX10_filledSet_28 : decode cX10_filledSet 28 = .ok (.if_icmp .ne 9, 3) := by decide +kernel
theorem dX10_filledSet_31 : decode cX10_filledSet 31 = .ok (.lconst 1, 1) := by decide +kernel
theorem dX10_filledSet_32 : decode cX10_filledSet 32 = .ok (.iload_n 3, 1) := by decide +kernel
theorem dX10_filledSet_33 : decode cX10_filledSet 33 = .ok (.lshl, 1) := by decide +kernel
theorem dX10_filledSet_34 : decode cX10_filledSet 34 = .ok (.goto 4, 3) := by decide +kernel
theorem dX10_filledSet_37 : decode cX10_filledSet 37 = .ok (.lconst 0, 1) := by decide +kernel
theorem dX10_filledSet_38 : decode cX10_filledSet 38 = .ok (.lor, 1) := by decide +kernel
theorem dX10_filledSet_39 : decode cX10_filledSet 39 = .ok (.lstore_n 1, 1) := by decide +kernel
theorem dX10_filledSet_40 : decode cX10_filledSet 40 = .ok (.iinc 3 1, 3) := by decide +kernel
theorem dX10_filledSet_43 : decode cX10_filledSet 43 = .ok (.goto (-34), 3) := by decide +kernel
theorem dX10_filledSet_46 : decode cX10_filledSet 46 = .ok (.lload_n 1, 1) := by decide +kernel
theorem dX10_filledSet_47 : decode cX10_filledSet 47 = .ok (.lreturn, 1) := by decide +kernel
theorem dX10_newBoard_0 : decode cX10_newBoard 0 = .ok (.aload_n 0, 1) := by decide +kernel
theorem dX10_newBoard_1 : decode cX10_newBoard 1 = .ok (.iconst 0, 1) := by decide +kernel
theorem dX10_newBoard_2 : decode cX10_newBoard 2 = .ok (.putfield 39, 3) := by decide +kernel
theorem dX10_newBoard_5 : decode cX10_newBoard 5 = .ok (.iconst 0, 1) := by decide +kernel
theorem dX10_newBoard_6 : decode cX10_newBoard 6 = .ok (.istore_n 1, 1) := by decide +kernel
theorem dX10_newBoard_7 : decode cX10_newBoard 7 = .ok (.iconst 0, 1) := by decide +kernel
theorem dX10_newBoard_8 : decode cX10_newBoard 8 = .ok (.istore_n 2, 1) := by decide +kernel
theorem dX10_newBoard_9 : decode cX10_newBoard 9 = .ok (.iload_n 2, 1) := by decide +kernel
theorem dX10_newBoard_10 : decode cX10_newBoard 10 = .ok (.aload_n 0, 1) := by decide +kernel
theorem dX10_newBoard_11 : decode cX10_newBoard 11 = .ok (.getfield 9, 3) := by decide +kernel
theorem dX10_newBoard_14 : decode cX10_newBoard 14 = .ok (.bipush 19, 2) := by decide +kernel
theorem dX10_newBoard_16 : decode cX10_newBoard 16 = .ok (.iaload, 1) := by decide +kernel
theorem dX10_newBoard_17 : decode cX10_newBoard 17 = .ok (.if_icmp .ge 46, 3) := by decide +kernel
theorem dX10_newBoard_20 : decode cX10_newBoard 20 = .ok (.aload_n 0, 1) := by decide +kernel
theorem dX10_newBoard_21 : decode cX10_newBoard 21 = .ok (.iload_n 2, 1) := by decide +kernel
theorem dX10_newBoard_22 : decode cX10_newBoard 22 = .ok (.iconst 3, 1) := by decide +kernel
theorem dX10_newBoard_23 : decode cX10_newBoard 23 = .ok (.invokevirtual 268, 3) := by decide +kernel
theorem dX10_newBoard_26 : decode cX10_newBoard 26 = .ok (.iconst 1, 1) := by decide +kernel
theorem dX10_newBoard_27 : decode cX10_newBoard 27 = .ok (.if_icmp .eq 6, 3) := by decide +kernel
theorem dX10_newBoard_30 : decode cX10_newBoard 30 = .ok (.goto 27, 3) := by decide +kernel
theorem dX10_newBoard_33 : decode cX10_newBoard 33 = .ok (.aload_n 0, 1) := by decide +kernel
theorem dX10_newBoard_34 : decode cX10_newBoard 34 = .ok (.iload_n 2, 1) := by decide +kernel
theorem dX10_newBoard_35 : decode cX10_newBoard 35 = .ok (.iconst 3, 1) := by decide +kernel
theorem dX10_newBoard_36 : decode cX10_newBoard 36 = .ok (.iconst 0, 1) := by decide +kernel
theorem dX10_newBoard_37 : decode cX10_newBoard 37 = .ok (.invokevirtual 271, 3) := by decide +kernel
theorem dX10_newBoard_40 : decode cX10_newBoard 40 = .ok (.aload_n 0, 1) := by decide +kernel
theorem dX10_newBoard_41 : decode cX10_newBoard 41 = .ok (.iload_n 2, 1) := by decide +kernel
theorem dX10_newBoard_42 : decode cX10_newBoard 42 = .ok (.iconst 4, 1) := by decide +kernel
theorem dX10_newBoard_43 : decode cX10_newBoard 43 = .ok (.iconst (-1), 1) := by decide +kernel
theorem dX10_newBoard_44 : decode cX10_newBoard 44 = .ok (.invokevirtual 271, 3) := by decide +kernel
theorem dX10_newBoard_47 : decode cX10_newBoard 47 = .ok (.aload_n 0, 1) := by decide +kernel
theorem dX10_newBoard_48 : decode cX10_newBoard 48 = .ok (.iload_n 2, 1) := by decide +kernel
theorem dX10_newBoard_49 : decode cX10_newBoard 49 = .ok (.iconst 5, 1) := by decide +kernel
theorem dX10_newBoard_50 : decode cX10_newBoard 50 = .ok (.iconst (-1), 1) := by decide +kernel
theorem dX10_newBoard_51 : decode cX10_newBoard 51 = .ok (.invokevirtual 271, 3) := by decide +kernel
theorem dX10_newBoard_54 : decode cX10_newBoard 54 = .ok (.iinc 1 1, 3) := by decide +kernel
theorem dX10_newBoard_57 : decode cX10_newBoard 57 = .ok (.iinc 2 1, 3) := by decide +kernel
theorem dX10_newBoard_60 : decode cX10_newBoard 60 = .ok (.goto (-51), 3) := by decide +kernel
theorem dX10_newBoard_63 : decode cX10_newBoard 63 = .ok (.aload_n 0, 1) := by decide +kernel
theorem dX10_newBoard_64 : decode cX10_newBoard 64 = .ok (.getfield 9, 3) := by decide +kernel
theorem dX10_newBoard_67 : decode cX10_newBoard 67 = .ok (.bipush 24, 2) := by decide +kernel
theorem dX10_newBoard_69 : decode cX10_newBoard 69 = .ok (.dup2, 1) := by decide +kernel
theorem dX10_newBoard_70 : decode cX10_newBoard 70 = .ok (.iaload, 1) := by decide +kernel
theorem dX10_newBoard_71 : decode cX10_newBoard 71 = .ok (.iconst 1, 1) := by decide +kernel
theorem dX10_newBoard_72 : decode cX10_newBoard 72 = .ok (.iadd, 1) := by decide +kernel
theorem dX10_newBoard_73 : decode cX10_newBoard 73 = .ok (.iastore, 1) := by decide +kernel
theorem dX10_newBoard_74 : decode cX10_newBoard 74 = .ok (.iload_n 1, 1) := by decide +kernel
theorem dX10_newBoard_75 : decode cX10_newBoard 75 = .ok (.ireturn, 1) := by decide +kernel
theorem dX10_boards_0 : decode cX10_boards 0 = .ok (.aload_n 0, 1) := by decide +kernel
theorem dX10_boards_1 : decode cX10_boards 1 = .ok (.iconst 0, 1) := by decide +kernel
theorem dX10_boards_2 : decode cX10_boards 2 = .ok (.putfield 39, 3) := by decide +kernel
theorem dX10_boards_5 : decode cX10_boards 5 = .ok (.aload_n 0, 1) := by decide +kernel
theorem dX10_boards_6 : decode cX10_boards 6 = .ok (.getfield 9, 3) := by decide +kernel
theorem dX10_boards_9 : decode cX10_boards 9 = .ok (.bipush 24, 2) := by decide +kernel
theorem dX10_boards_11 : decode cX10_boards 11 = .ok (.iaload, 1) := by decide +kernel
theorem dX10_boards_12 : decode cX10_boards 12 = .ok (.ireturn, 1) := by decide +kernel
theorem dX10_wayTo_0 : decode cX10_wayTo 0 = .ok (.iload_n 1, 1) := by decide +kernel
theorem dX10_wayTo_1 : decode cX10_wayTo 1 = .ok (.aload_n 0, 1) := by decide +kernel
theorem dX10_wayTo_2 : decode cX10_wayTo 2 = .ok (.getfield 9, 3) := by decide +kernel
theorem dX10_wayTo_5 : decode cX10_wayTo 5 = .ok (.bipush 21, 2) := by decide +kernel
theorem dX10_wayTo_7 : decode cX10_wayTo 7 = .ok (.iaload, 1) := by decide +kernel
theorem dX10_wayTo_8 : decode cX10_wayTo 8 = .ok (.isub, 1) := by decide +kernel
theorem dX10_wayTo_9 : decode cX10_wayTo 9 = .ok (.invokestatic 256, 3) := by decide +kernel
theorem dX10_wayTo_12 : decode cX10_wayTo 12 = .ok (.iload_n 2, 1) := by decide +kernel
theorem dX10_wayTo_13 : decode cX10_wayTo 13 = .ok (.aload_n 0, 1) := by decide +kernel
theorem dX10_wayTo_14 : decode cX10_wayTo 14 = .ok (.getfield 9, 3) := by decide +kernel
theorem dX10_wayTo_17 : decode cX10_wayTo 17 = .ok (.bipush 22, 2) := by decide +kernel
theorem dX10_wayTo_19 : decode cX10_wayTo 19 = .ok (.iaload, 1) := by decide +kernel
theorem dX10_wayTo_20 : decode cX10_wayTo 20 = .ok (.isub, 1) := by decide +kernel
theorem dX10_wayTo_21 : decode cX10_wayTo 21 = .ok (.invokestatic 256, 3) := by decide +kernel
theorem dX10_wayTo_24 : decode cX10_wayTo 24 = .ok (.invokestatic 284, 3) := by decide +kernel
theorem dX10_wayTo_27 : decode cX10_wayTo 27 = .ok (.istore_n 3, 1) := by decide +kernel
theorem dX10_wayTo_28 : decode cX10_wayTo 28 = .ok (.iload_n 3, 1) := by decide +kernel
theorem dX10_wayTo_29 : decode cX10_wayTo 29 = .ok (.aload_n 0, 1) := by decide +kernel
theorem dX10_wayTo_30 : decode cX10_wayTo 30 = .ok (.getfield 9, 3) := by decide +kernel
theorem dX10_wayTo_33 : decode cX10_wayTo 33 = .ok (.iconst 0, 1) := by decide +kernel
theorem dX10_wayTo_34 : decode cX10_wayTo 34 = .ok (.iaload, 1) := by decide +kernel
theorem dX10_wayTo_35 : decode cX10_wayTo 35 = .ok (.iadd, 1) := by decide +kernel
theorem dX10_wayTo_36 : decode cX10_wayTo 36 = .ok (.iconst 1, 1) := by decide +kernel
theorem dX10_wayTo_37 : decode cX10_wayTo 37 = .ok (.isub, 1) := by decide +kernel
theorem dX10_wayTo_38 : decode cX10_wayTo 38 = .ok (.aload_n 0, 1) := by decide +kernel
theorem dX10_wayTo_39 : decode cX10_wayTo 39 = .ok (.getfield 9, 3) := by decide +kernel
theorem dX10_wayTo_42 : decode cX10_wayTo 42 = .ok (.iconst 0, 1) := by decide +kernel
theorem dX10_wayTo_43 : decode cX10_wayTo 43 = .ok (.iaload, 1) := by decide +kernel
theorem dX10_wayTo_44 : decode cX10_wayTo 44 = .ok (.idiv, 1) := by decide +kernel
theorem dX10_wayTo_45 : decode cX10_wayTo 45 = .ok (.ireturn, 1) := by decide +kernel
theorem dX10_goes_0 : decode cX10_goes 0 = .ok (.aload_n 0, 1) := by decide +kernel
theorem dX10_goes_1 : decode cX10_goes 1 = .ok (.iload_n 2, 1) := by decide +kernel
theorem dX10_goes_2 : decode cX10_goes 2 = .ok (.iload_n 3, 1) := by decide +kernel
theorem dX10_goes_3 : decode cX10_goes 3 = .ok (.invokevirtual 290, 3) := by decide +kernel
theorem dX10_goes_6 : decode cX10_goes 6 = .ok (.iload 4, 2) := by decide +kernel
theorem dX10_goes_8 : decode cX10_goes 8 = .ok (.iadd, 1) := by decide +kernel
theorem dX10_goes_9 : decode cX10_goes 9 = .ok (.istore 5, 2) := by decide +kernel
theorem dX10_goes_11 : decode cX10_goes 11 = .ok (.aload_n 0, 1) := by decide +kernel
theorem dX10_goes_12 : decode cX10_goes 12 = .ok (.getfield 9, 3) := by decide +kernel
theorem dX10_goes_15 : decode cX10_goes 15 = .ok (.bipush 21, 2) := by decide +kernel
theorem dX10_goes_17 : decode cX10_goes 17 = .ok (.iload_n 2, 1) := by decide +kernel
theorem dX10_goes_18 : decode cX10_goes 18 = .ok (.iastore, 1) := by decide +kernel
theorem dX10_goes_19 : decode cX10_goes 19 = .ok (.aload_n 0, 1) := by decide +kernel
theorem dX10_goes_20 : decode cX10_goes 20 = .ok (.getfield 9, 3) := by decide +kernel
theorem dX10_goes_23 : decode cX10_goes 23 = .ok (.bipush 22, 2) := by decide +kernel
theorem dX10_goes_25 : decode cX10_goes 25 = .ok (.iload_n 3, 1) := by decide +kernel
theorem dX10_goes_26 : decode cX10_goes 26 = .ok (.iastore, 1) := by decide +kernel
theorem dX10_goes_27 : decode cX10_goes 27 = .ok (.aload_n 0, 1) := by decide +kernel
theorem dX10_goes_28 : decode cX10_goes 28 = .ok (.getfield 9, 3) := by decide +kernel
theorem dX10_goes_31 : decode cX10_goes 31 = .ok (.bipush 23, 2) := by decide +kernel
theorem dX10_goes_33 : decode cX10_goes 33 = .ok (.dup2, 1) := by decide +kernel
theorem dX10_goes_34 : decode cX10_goes 34 = .ok (.iaload, 1) := by decide +kernel
theorem dX10_goes_35 : decode cX10_goes 35 = .ok (.iload 5, 2) := by decide +kernel
theorem dX10_goes_37 : decode cX10_goes 37 = .ok (.iadd, 1) := by decide +kernel
theorem dX10_goes_38 : decode cX10_goes 38 = .ok (.iastore, 1) := by decide +kernel
theorem dX10_goes_39 : decode cX10_goes 39 = .ok (.aload_n 0, 1) := by decide +kernel
theorem dX10_goes_40 : decode cX10_goes 40 = .ok (.getfield 9, 3) := by decide +kernel
theorem dX10_goes_43 : decode cX10_goes 43 = .ok (.bipush 37, 2) := by decide +kernel
theorem dX10_goes_45 : decode cX10_goes 45 = .ok (.iload_n 1, 1) := by decide +kernel
theorem dX10_goes_46 : decode cX10_goes 46 = .ok (.iadd, 1) := by decide +kernel
theorem dX10_goes_47 : decode cX10_goes 47 = .ok (.dup2, 1) := by decide +kernel
theorem dX10_goes_48 : decode cX10_goes 48 = .ok (.iaload, 1) := by decide +kernel
theorem dX10_goes_49 : decode cX10_goes 49 = .ok (.iload 5, 2) := by decide +kernel
theorem dX10_goes_51 : decode cX10_goes 51 = .ok (.iadd, 1) := by decide +kernel
theorem dX10_goes_52 : decode cX10_goes 52 = .ok (.iastore, 1) := by decide +kernel
theorem dX10_goes_53 : decode cX10_goes 53 = .ok (.return_, 1) := by decide +kernel
theorem dX10_notes_0 : decode cX10_notes 0 = .ok (.aload_n 0, 1) := by decide +kernel
theorem dX10_notes_1 : decode cX10_notes 1 = .ok (.getfield 9, 3) := by decide +kernel
theorem dX10_notes_4 : decode cX10_notes 4 = .ok (.bipush 30, 2) := by decide +kernel
theorem dX10_notes_6 : decode cX10_notes 6 = .ok (.iload_n 1, 1) := by decide +kernel
theorem dX10_notes_7 : decode cX10_notes 7 = .ok (.iadd, 1) := by decide +kernel
theorem dX10_notes_8 : decode cX10_notes 8 = .ok (.dup2, 1) := by decide +kernel
theorem dX10_notes_9 : decode cX10_notes 9 = .ok (.iaload, 1) := by decide +kernel
theorem dX10_notes_10 : decode cX10_notes 10 = .ok (.iconst 1, 1) := by decide +kernel
theorem dX10_notes_11 : decode cX10_notes 11 = .ok (.iadd, 1) := by decide +kernel
theorem dX10_notes_12 : decode cX10_notes 12 = .ok (.iastore, 1) := by decide +kernel
theorem dX10_notes_13 : decode cX10_notes 13 = .ok (.aload_n 0, 1) := by decide +kernel
theorem dX10_notes_14 : decode cX10_notes 14 = .ok (.getfield 9, 3) := by decide +kernel
theorem dX10_notes_17 : decode cX10_notes 17 = .ok (.bipush 28, 2) := by decide +kernel
theorem dX10_notes_19 : decode cX10_notes 19 = .ok (.iaload, 1) := by decide +kernel
theorem dX10_notes_20 : decode cX10_notes 20 = .ok (.bipush 40, 2) := by decide +kernel
theorem dX10_notes_22 : decode cX10_notes 22 = .ok (.if_icmp .ne 49, 3) := by decide +kernel
theorem dX10_notes_25 : decode cX10_notes 25 = .ok (.sipush 480, 3) := by decide +kernel
theorem dX10_notes_28 : decode cX10_notes 28 = .ok (.istore 5, 2) := by decide +kernel
theorem dX10_notes_30 : decode cX10_notes 30 = .ok (.iload 5, 2) := by decide +kernel
theorem dX10_notes_32 : decode cX10_notes 32 = .ok (.sipush 597, 3) := by decide +kernel
theorem dX10_notes_35 : decode cX10_notes 35 = .ok (.if_icmp .ge 25, 3) := by decide +kernel
theorem dX10_notes_38 : decode cX10_notes 38 = .ok (.aload_n 0, 1) := by decide +kernel
theorem dX10_notes_39 : decode cX10_notes 39 = .ok (.getfield 9, 3) := by decide +kernel
theorem dX10_notes_42 : decode cX10_notes 42 = .ok (.iload 5, 2) := by decide +kernel
theorem dX10_notes_44 : decode cX10_notes 44 = .ok (.aload_n 0, 1) := by decide +kernel
theorem dX10_notes_45 : decode cX10_notes 45 = .ok (.getfield 9, 3) := by decide +kernel
theorem dX10_notes_48 : decode cX10_notes 48 = .ok (.iload 5, 2) := by decide +kernel
theorem dX10_notes_50 : decode cX10_notes 50 = .ok (.iconst 3, 1) := by decide +kernel
theorem dX10_notes_51 : decode cX10_notes 51 = .ok (.iadd, 1) := by decide +kernel
theorem dX10_notes_52 : decode cX10_notes 52 = .ok (.iaload, 1) := by decide +kernel
theorem dX10_notes_53 : decode cX10_notes 53 = .ok (.iastore, 1) := by decide +kernel
theorem dX10_notes_54 : decode cX10_notes 54 = .ok (.iinc 5 1, 3) := by decide +kernel
theorem dX10_notes_57 : decode cX10_notes 57 = .ok (.goto (-27), 3) := by decide +kernel
theorem dX10_notes_60 : decode cX10_notes 60 = .ok (.aload_n 0, 1) := by decide +kernel
theorem dX10_notes_61 : decode cX10_notes 61 = .ok (.getfield 9, 3) := by decide +kernel
theorem dX10_notes_64 : decode cX10_notes 64 = .ok (.bipush 28, 2) := by decide +kernel
theorem dX10_notes_66 : decode cX10_notes 66 = .ok (.dup2, 1) := by decide +kernel
theorem dX10_notes_67 : decode cX10_notes 67 = .ok (.iaload, 1) := by decide +kernel
theorem dX10_notes_68 : decode cX10_notes 68 = .ok (.iconst 1, 1) := by decide +kernel
theorem dX10_notes_69 : decode cX10_notes 69 = .ok (.isub, 1) := by decide +kernel
theorem dX10_notes_70 : decode cX10_notes 70 = .ok (.iastore, 1) := by decide +kernel
theorem dX10_notes_71 : decode cX10_notes 71 = .ok (.sipush 480, 3) := by decide +kernel
theorem dX10_notes_74 : decode cX10_notes 74 = .ok (.iconst 3, 1) := by decide +kernel
theorem dX10_notes_75 : decode cX10_notes 75 = .ok (.aload_n 0, 1) := by decide +kernel
theorem dX10_notes_76 : decode cX10_notes 76 = .ok (.getfield 9, 3) := by decide +kernel
theorem dX10_notes_79 : decode cX10_notes 79 = .ok (.bipush 28, 2) := by decide +kernel
theorem dX10_notes_81 : decode cX10_notes 81 = .ok (.iaload, 1) := by decide +kernel
theorem dX10_notes_82 : decode cX10_notes 82 = .ok (.imul, 1) := by decide +kernel
theorem dX10_notes_83 : decode cX10_notes 83 = .ok (.iadd, 1) := by decide +kernel
theorem dX10_notes_84 : decode cX10_notes 84 = .ok (.istore 5, 2) := by decide +kernel
theorem dX10_notes_86 : decode cX10_notes 86 = .ok (.aload_n 0, 1) := by decide +kernel
theorem dX10_notes_87 : decode cX10_notes 87 = .ok (.getfield 9, 3) := by decide +kernel
theorem dX10_notes_90 : decode cX10_notes 90 = .ok (.iload 5, 2) := by decide +kernel
theorem dX10_notes_92 : decode cX10_notes 92 = .ok (.sipush 10000, 3) := by decide +kernel
theorem dX10_notes_95 : decode cX10_notes 95 = .ok (.iload_n 1, 1) := by decide +kernel
theorem dX10_notes_96 : decode cX10_notes 96 = .ok (.imul, 1) := by decide +kernel
theorem dX10_notes_97 : decode cX10_notes 97 = .ok (.bipush 100, 2) := by decide +kernel
theorem dX10_notes_99 : decode cX10_notes 99 = .ok (.iload_n 2, 1) := by decide +kernel
theorem dX10_notes_100 : decode cX10_notes 100 = .ok (.imul, 1) := by decide +kernel
theorem dX10_notes_101 : decode cX10_notes 101 = .ok (.iadd, 1) := by decide +kernel
theorem dX10_notes_102 : decode cX10_notes 102 = .ok (.iload_n 3, 1) := by decide +kernel
theorem dX10_notes_103 : decode cX10_notes 103 = .ok (.iadd, 1) := by decide +kernel
theorem dX10_notes_104 : decode cX10_notes 104 = .ok (.iastore, 1) := by decide +kernel
theorem dX10_notes_105 : decode cX10_notes 105 = .ok (.aload_n 0, 1) := by decide +kernel
theorem dX10_notes_106 : decode cX10_notes 106 = .ok (.getfield 9, 3) := by decide +kernel
theorem dX10_notes_109 : decode cX10_notes 109 = .ok (.iload 5, 2) := by decide +kernel
theorem dX10_notes_111 : decode cX10_notes 111 = .ok (.iconst 1, 1) := by decide +kernel
theorem dX10_notes_112 : decode cX10_notes 112 = .ok (.iadd, 1) := by decide +kernel
theorem dX10_notes_113 : decode cX10_notes 113 = .ok (.iload 4, 2) := by decide +kernel
theorem dX10_notes_115 : decode cX10_notes 115 = .ok (.iastore, 1) := by decide +kernel
theorem dX10_notes_116 : decode cX10_notes 116 = .ok (.aload_n 0, 1) := by decide +kernel
theorem dX10_notes_117 : decode cX10_notes 117 = .ok (.getfield 9, 3) := by decide +kernel
theorem dX10_notes_120 : decode cX10_notes 120 = .ok (.iload 5, 2) := by decide +kernel
theorem dX10_notes_122 : decode cX10_notes 122 = .ok (.iconst 2, 1) := by decide +kernel
theorem dX10_notes_123 : decode cX10_notes 123 = .ok (.iadd, 1) := by decide +kernel
theorem dX10_notes_124 : decode cX10_notes 124 = .ok (.aload_n 0, 1) := by decide +kernel
theorem dX10_notes_125 : decode cX10_notes 125 = .ok (.getfield 9, 3) := by decide +kernel
theorem dX10_notes_128 : decode cX10_notes 128 = .ok (.bipush 23, 2) := by decide +kernel
theorem dX10_notes_130 : decode cX10_notes 130 = .ok (.iaload, 1) := by decide +kernel
theorem dX10_notes_131 : decode cX10_notes 131 = .ok (.iastore, 1) := by decide +kernel
theorem dX10_notes_132 : decode cX10_notes 132 = .ok (.aload_n 0, 1) := by decide +kernel
theorem dX10_notes_133 : decode cX10_notes 133 = .ok (.getfield 9, 3) := by decide +kernel
theorem dX10_notes_136 : decode cX10_notes 136 = .ok (.bipush 28, 2) := by decide +kernel
theorem dX10_notes_138 : decode cX10_notes 138 = .ok (.dup2, 1) := by decide +kernel
theorem dX10_notes_139 : decode cX10_notes 139 = .ok (.iaload, 1) := by decide +kernel
theorem dX10_notes_140 : decode cX10_notes 140 = .ok (.iconst 1, 1) := by decide +kernel
theorem dX10_notes_141 : decode cX10_notes 141 = .ok (.iadd, 1) := by decide +kernel
theorem dX10_notes_142 : decode cX10_notes 142 = .ok (.iastore, 1) := by decide +kernel
theorem dX10_notes_143 : decode cX10_notes 143 = .ok (.iload 4, 2) := by decide +kernel
theorem dX10_notes_145 : decode cX10_notes 145 = .ok (.ireturn, 1) := by decide +kernel
theorem dX10_draw_0 : decode cX10_draw 0 = .ok (.aload_n 0, 1) := by decide +kernel
theorem dX10_draw_1 : decode cX10_draw 1 = .ok (.getfield 9, 3) := by decide +kernel
theorem dX10_draw_4 : decode cX10_draw 4 = .ok (.bipush 10, 2) := by decide +kernel
theorem dX10_draw_6 : decode cX10_draw 6 = .ok (.aload_n 0, 1) := by decide +kernel
theorem dX10_draw_7 : decode cX10_draw 7 = .ok (.getfield 9, 3) := by decide +kernel
theorem dX10_draw_10 : decode cX10_draw 10 = .ok (.bipush 10, 2) := by decide +kernel
theorem dX10_draw_12 : decode cX10_draw 12 = .ok (.iaload, 1) := by decide +kernel
theorem dX10_draw_13 : decode cX10_draw 13 = .ok (.i2l, 1) := by decide +kernel
theorem dX10_draw_14 : decode cX10_draw 14 = .ok (.ldc2_w 293, 3) := by decide +kernel
theorem dX10_draw_17 : decode cX10_draw 17 = .ok (.lmul, 1) := by decide +kernel
theorem dX10_draw_18 : decode cX10_draw 18 = .ok (.ldc2_w 295, 3) := by decide +kernel
theorem dX10_draw_21 : decode cX10_draw 21 = .ok (.ladd, 1) := by decide +kernel
theorem dX10_draw_22 : decode cX10_draw 22 = .ok (.ldc2_w 297, 3) := by decide +kernel
theorem dX10_draw_25 : decode cX10_draw 25 = .ok (.lrem, 1) := by decide +kernel
theorem dX10_draw_26 : decode cX10_draw 26 = .ok (.l2i, 1) := by decide +kernel
theorem dX10_draw_27 : decode cX10_draw 27 = .ok (.iastore, 1) := by decide +kernel
theorem dX10_draw_28 : decode cX10_draw 28 = .ok (.aload_n 0, 1) := by decide +kernel
theorem dX10_draw_29 : decode cX10_draw 29 = .ok (.getfield 9, 3) := by decide +kernel
theorem dX10_draw_32 : decode cX10_draw 32 = .ok (.bipush 10, 2) := by decide +kernel
theorem dX10_draw_34 : decode cX10_draw 34 = .ok (.iaload, 1) := by decide +kernel
theorem dX10_draw_35 : decode cX10_draw 35 = .ok (.ldc_w 299, 3) := by decide +kernel
theorem dX10_draw_38 : decode cX10_draw 38 = .ok (.idiv, 1) := by decide +kernel
theorem dX10_draw_39 : decode cX10_draw 39 = .ok (.bipush 100, 2) := by decide +kernel
theorem dX10_draw_41 : decode cX10_draw 41 = .ok (.irem, 1) := by decide +kernel
theorem dX10_draw_42 : decode cX10_draw 42 = .ok (.ireturn, 1) := by decide +kernel
theorem dX10_changes_0 : decode cX10_changes 0 = .ok (.aload_n 0, 1) := by decide +kernel
theorem dX10_changes_1 : decode cX10_changes 1 = .ok (.iload_n 1, 1) := by decide +kernel
theorem dX10_changes_2 : decode cX10_changes 2 = .ok (.iconst 1, 1) := by decide +kernel
theorem dX10_changes_3 : decode cX10_changes 3 = .ok (.invokevirtual 216, 3) := by decide +kernel
theorem dX10_changes_6 : decode cX10_changes 6 = .ok (.iconst (-1), 1) := by decide +kernel
theorem dX10_changes_7 : decode cX10_changes 7 = .ok (.if_icmp .eq 6, 3) := by decide +kernel
theorem dX10_changes_10 : decode cX10_changes 10 = .ok (.bipush (-3), 2) := by decide +kernel
theorem dX10_changes_12 : decode cX10_changes 12 = .ok (.ireturn, 1) := by decide +kernel
theorem dX10_changes_13 : decode cX10_changes 13 = .ok (.aload_n 0, 1) := by decide +kernel
theorem dX10_changes_14 : decode cX10_changes 14 = .ok (.iload_n 1, 1) := by decide +kernel
theorem dX10_changes_15 : decode cX10_changes 15 = .ok (.iconst 0, 1) := by decide +kernel
theorem dX10_changes_16 : decode cX10_changes 16 = .ok (.invokevirtual 216, 3) := by decide +kernel
theorem dX10_changes_19 : decode cX10_changes 19 = .ok (.istore_n 3, 1) := by decide +kernel
theorem dX10_changes_20 : decode cX10_changes 20 = .ok (.iload_n 3, 1) := by decide +kernel
theorem dX10_changes_21 : decode cX10_changes 21 = .ok (.iload_n 2, 1) := by decide +kernel
theorem dX10_changes_22 : decode cX10_changes 22 = .ok (.if_icmp .ne 6, 3) := by decide +kernel
theorem dX10_changes_25 : decode cX10_changes 25 = .ok (.bipush (-5), 2) := by decide +kernel
theorem dX10_changes_27 : decode cX10_changes 27 = .ok (.ireturn, 1) := by decide +kernel
theorem dX10_changes_28 : decode cX10_changes 28 = .ok (.aload_n 0, 1) := by decide +kernel
theorem dX10_changes_29 : decode cX10_changes 29 = .ok (.getfield 9, 3) := by decide +kernel
theorem dX10_changes_32 : decode cX10_changes 32 = .ok (.bipush 44, 2) := by decide +kernel
theorem dX10_changes_34 : decode cX10_changes 34 = .ok (.iload_n 2, 1) := by decide +kernel
theorem dX10_changes_35 : decode cX10_changes 35 = .ok (.iadd, 1) := by decide +kernel
theorem dX10_changes_36 : decode cX10_changes 36 = .ok (.iaload, 1) := by decide +kernel
theorem dX10_changes_37 : decode cX10_changes 37 = .ok (.ifCond .ne 6, 3) := by decide +kernel
theorem dX10_changes_40 : decode cX10_changes 40 = .ok (.bipush (-4), 2) := by decide +kernel
theorem dX10_changes_42 : decode cX10_changes 42 = .ok (.ireturn, 1) := by decide +kernel
theorem dX10_changes_43 : decode cX10_changes 43 = .ok (.aload_n 0, 1) := by decide +kernel
theorem dX10_changes_44 : decode cX10_changes 44 = .ok (.iconst 1, 1) := by decide +kernel
theorem dX10_changes_45 : decode cX10_changes 45 = .ok (.iconst 0, 1) := by decide +kernel
theorem dX10_changes_46 : decode cX10_changes 46 = .ok (.iconst 0, 1) := by decide +kernel
theorem dX10_changes_47 : decode cX10_changes 47 = .ok (.aload_n 0, 1) := by decide +kernel
theorem dX10_changes_48 : decode cX10_changes 48 = .ok (.getfield 9, 3) := by decide +kernel
theorem dX10_changes_51 : decode cX10_changes 51 = .ok (.iconst 1, 1) := by decide +kernel
theorem dX10_changes_52 : decode cX10_changes 52 = .ok (.iaload, 1) := by decide +kernel
theorem dX10_changes_53 : decode cX10_changes 53 = .ok (.invokevirtual 300, 3) := by decide +kernel
theorem dX10_changes_56 : decode cX10_changes 56 = .ok (.iload_n 3, 1) := by decide +kernel
theorem dX10_changes_57 : decode cX10_changes 57 = .ok (.iconst (-1), 1) := by decide +kernel
theorem dX10_changes_58 : decode cX10_changes 58 = .ok (.if_icmp .eq 16, 3) := by decide +kernel
theorem dX10_changes_61 : decode cX10_changes 61 = .ok (.aload_n 0, 1) := by decide +kernel
theorem dX10_changes_62 : decode cX10_changes 62 = .ok (.getfield 9, 3) := by decide +kernel
theorem dX10_changes_65 : decode cX10_changes 65 = .ok (.bipush 44, 2) := by decide +kernel
theorem dX10_changes_67 : decode cX10_changes 67 = .ok (.iload_n 3, 1) := by decide +kernel
theorem dX10_changes_68 : decode cX10_changes 68 = .ok (.iadd, 1) := by decide +kernel
theorem dX10_changes_69 : decode cX10_changes 69 = .ok (.dup2, 1) := by decide +kernel
theorem dX10_changes_70 : decode cX10_changes 70 = .ok (.iaload, 1) := by decide +kernel
theorem dX10_changes_71 : decode cX10_changes 71 = .ok (.iconst 1, 1) := by decide +kernel
theorem dX10_changes_72 : decode cX10_changes 72 = .ok (.iadd, 1) := by decide +kernel
theorem dX10_changes_73 : decode cX10_changes 73 = .ok (.iastore, 1) := by decide +kernel
theorem dX10_changes_74 : decode cX10_changes 74 = .ok (.aload_n 0, 1) := by decide +kernel
theorem dX10_changes_75 : decode cX10_changes 75 = .ok (.getfield 9, 3) := by decide +kernel
theorem dX10_changes_78 : decode cX10_changes 78 = .ok (.bipush 44, 2) := by decide +kernel
theorem dX10_changes_80 : decode cX10_changes 80 = .ok (.iload_n 2, 1) := by decide +kernel
theorem dX10_changes_81 : decode cX10_changes 81 = .ok (.iadd, 1) := by decide +kernel
theorem dX10_changes_82 : decode cX10_changes 82 = .ok (.dup2, 1) := by decide +kernel
theorem dX10_changes_83 : decode cX10_changes 83 = .ok (.iaload, 1) := by decide +kernel
theorem dX10_changes_84 : decode cX10_changes 84 = .ok (.iconst 1, 1) := by decide +kernel
theorem dX10_changes_85 : decode cX10_changes 85 = .ok (.isub, 1) := by decide +kernel
theorem dX10_changes_86 : decode cX10_changes 86 = .ok (.iastore, 1) := by decide +kernel
theorem dX10_changes_87 : decode cX10_changes 87 = .ok (.aload_n 0, 1) := by decide +kernel
theorem dX10_changes_88 : decode cX10_changes 88 = .ok (.iload_n 1, 1) := by decide +kernel
theorem dX10_changes_89 : decode cX10_changes 89 = .ok (.iconst 0, 1) := by decide +kernel
theorem dX10_changes_90 : decode cX10_changes 90 = .ok (.iload_n 2, 1) := by decide +kernel
theorem dX10_changes_91 : decode cX10_changes 91 = .ok (.invokevirtual 304, 3) := by decide +kernel
theorem dX10_changes_94 : decode cX10_changes 94 = .ok (.aload_n 0, 1) := by decide +kernel
theorem dX10_changes_95 : decode cX10_changes 95 = .ok (.iload_n 1, 1) := by decide +kernel
theorem dX10_changes_96 : decode cX10_changes 96 = .ok (.bipush 7, 2) := by decide +kernel
theorem dX10_changes_98 : decode cX10_changes 98 = .ok (.iconst 0, 1) := by decide +kernel
theorem dX10_changes_99 : decode cX10_changes 99 = .ok (.invokevirtual 304, 3) := by decide +kernel
theorem dX10_changes_102 : decode cX10_changes 102 = .ok (.aload_n 0, 1) := by decide +kernel
theorem dX10_changes_103 : decode cX10_changes 103 = .ok (.iload_n 1, 1) := by decide +kernel
theorem dX10_changes_104 : decode cX10_changes 104 = .ok (.iconst 5, 1) := by decide +kernel
theorem dX10_changes_105 : decode cX10_changes 105 = .ok (.aload_n 0, 1) := by decide +kernel
theorem dX10_changes_106 : decode cX10_changes 106 = .ok (.iload_n 1, 1) := by decide +kernel
theorem dX10_changes_107 : decode cX10_changes 107 = .ok (.iconst 5, 1) := by decide +kernel
theorem dX10_changes_108 : decode cX10_changes 108 = .ok (.invokevirtual 216, 3) := by decide +kernel
theorem dX10_changes_111 : decode cX10_changes 111 = .ok (.iconst 1, 1) := by decide +kernel
theorem dX10_changes_112 : decode cX10_changes 112 = .ok (.iadd, 1) := by decide +kernel
theorem dX10_changes_113 : decode cX10_changes 113 = .ok (.invokevirtual 304, 3) := by decide +kernel
theorem dX10_changes_116 : decode cX10_changes 116 = .ok (.aload_n 0, 1) := by decide +kernel
theorem dX10_changes_117 : decode cX10_changes 117 = .ok (.iconst 1, 1) := by decide +kernel
theorem dX10_changes_118 : decode cX10_changes 118 = .ok (.iload_n 1, 1) := by decide +kernel
theorem dX10_changes_119 : decode cX10_changes 119 = .ok (.iload_n 2, 1) := by decide +kernel
theorem dX10_changes_120 : decode cX10_changes 120 = .ok (.iconst 1, 1) := by decide +kernel
theorem dX10_changes_121 : decode cX10_changes 121 = .ok (.invokevirtual 307, 3) := by decide +kernel
theorem dX10_changes_124 : decode cX10_changes 124 = .ok (.ireturn, 1) := by decide +kernel
theorem dX10_isWorn_0 : decode cX10_isWorn 0 = .ok (.aload_n 0, 1) := by decide +kernel
theorem dX10_isWorn_1 : decode cX10_isWorn 1 = .ok (.getfield 9, 3) := by decide +kernel
theorem dX10_isWorn_4 : decode cX10_isWorn 4 = .ok (.bipush 12, 2) := by decide +kernel
theorem dX10_isWorn_6 : decode cX10_isWorn 6 = .ok (.iaload, 1) := by decide +kernel
theorem dX10_isWorn_7 : decode cX10_isWorn 7 = .ok (.ifCond .le 24, 3) := by decide +kernel
theorem dX10_isWorn_10 : decode cX10_isWorn 10 = .ok (.aload_n 0, 1) := by decide +kernel
theorem dX10_isWorn_11 : decode cX10_isWorn 11 = .ok (.iload_n 1, 1) := by decide +kernel
theorem dX10_isWorn_12 : decode cX10_isWorn 12 = .ok (.bipush 7, 2) := by decide +kernel
theorem dX10_isWorn_14 : decode cX10_isWorn 14 = .ok (.invokevirtual 216, 3) := by decide +kernel
theorem dX10_isWorn_17 : decode cX10_isWorn 17 = .ok (.aload_n 0, 1) := by decide +kernel
theorem dX10_isWorn_18 : decode cX10_isWorn 18 = .ok (.getfield 9, 3) := by decide +kernel
theorem dX10_isWorn_21 : decode cX10_isWorn 21 = .ok (.bipush 12, 2) := by decide +kernel
theorem dX10_isWorn_23 : decode cX10_isWorn 23 = .ok (.iaload, 1) := by decide +kernel
theorem dX10_isWorn_24 : decode cX10_isWorn 24 = .ok (.if_icmp .lt 7, 3) := by decide +kernel
theorem dX10_isWorn_27 : decode cX10_isWorn 27 = .ok (.iconst 1, 1) := by decide +kernel
theorem dX10_isWorn_28 : decode cX10_isWorn 28 = .ok (.goto 4, 3) := by decide +kernel
theorem dX10_isWorn_31 : decode cX10_isWorn 31 = .ok (.iconst 0, 1) := by decide +kernel
theorem dX10_isWorn_32 : decode cX10_isWorn 32 = .ok (.ireturn, 1) := by decide +kernel
theorem dX10_cleans_0 : decode cX10_cleans 0 = .ok (.aload_n 0, 1) := by decide +kernel
theorem dX10_cleans_1 : decode cX10_cleans 1 = .ok (.iload_n 1, 1) := by decide +kernel
theorem dX10_cleans_2 : decode cX10_cleans 2 = .ok (.iconst 1, 1) := by decide +kernel
theorem dX10_cleans_3 : decode cX10_cleans 3 = .ok (.invokevirtual 216, 3) := by decide +kernel
theorem dX10_cleans_6 : decode cX10_cleans 6 = .ok (.iconst (-1), 1) := by decide +kernel
theorem dX10_cleans_7 : decode cX10_cleans 7 = .ok (.if_icmp .eq 6, 3) := by decide +kernel
theorem dX10_cleans_10 : decode cX10_cleans 10 = .ok (.bipush (-3), 2) := by decide +kernel
theorem dX10_cleans_12 : decode cX10_cleans 12 = .ok (.ireturn, 1) := by decide +kernel
theorem dX10_cleans_13 : decode cX10_cleans 13 = .ok (.aload_n 0, 1) := by decide +kernel
theorem dX10_cleans_14 : decode cX10_cleans 14 = .ok (.iload_n 1, 1) := by decide +kernel
theorem dX10_cleans_15 : decode cX10_cleans 15 = .ok (.iconst 0, 1) := by decide +kernel
theorem dX10_cleans_16 : decode cX10_cleans 16 = .ok (.invokevirtual 216, 3) := by decide +kernel
theorem dX10_cleans_19 : decode cX10_cleans 19 = .ok (.iconst (-1), 1) := by decide +kernel
theorem dX10_cleans_20 : decode cX10_cleans 20 = .ok (.if_icmp .ne 6, 3) := by decide +kernel
theorem dX10_cleans_23 : decode cX10_cleans 23 = .ok (.bipush (-4), 2) := by decide +kernel
theorem dX10_cleans_25 : decode cX10_cleans 25 = .ok (.ireturn, 1) := by decide +kernel
theorem dX10_cleans_26 : decode cX10_cleans 26 = .ok (.aload_n 0, 1) := by decide +kernel
theorem dX10_cleans_27 : decode cX10_cleans 27 = .ok (.bipush 6, 2) := by decide +kernel
theorem dX10_cleans_29 : decode cX10_cleans 29 = .ok (.iconst 0, 1) := by decide +kernel
theorem dX10_cleans_30 : decode cX10_cleans 30 = .ok (.iconst 0, 1) := by decide +kernel
theorem dX10_cleans_31 : decode cX10_cleans 31 = .ok (.aload_n 0, 1) := by decide +kernel
theorem dX10_cleans_32 : decode cX10_cleans 32 = .ok (.getfield 9, 3) := by decide +kernel
theorem dX10_cleans_35 : decode cX10_cleans 35 = .ok (.bipush 14, 2) := by decide +kernel
theorem dX10_cleans_37 : decode cX10_cleans 37 = .ok (.iaload, 1) := by decide +kernel
theorem dX10_cleans_38 : decode cX10_cleans 38 = .ok (.invokevirtual 300, 3) := by decide +kernel
theorem dX10_cleans_41 : decode cX10_cleans 41 = .ok (.aload_n 0, 1) := by decide +kernel
theorem dX10_cleans_42 : decode cX10_cleans 42 = .ok (.iload_n 1, 1) := by decide +kernel
theorem dX10_cleans_43 : decode cX10_cleans 43 = .ok (.bipush 7, 2) := by decide +kernel
theorem dX10_cleans_45 : decode cX10_cleans 45 = .ok (.iconst 0, 1) := by decide +kernel
theorem dX10_cleans_46 : decode cX10_cleans 46 = .ok (.invokevirtual 304, 3) := by decide +kernel
theorem dX10_cleans_49 : decode cX10_cleans 49 = .ok (.aload_n 0, 1) := by decide +kernel
theorem dX10_cleans_50 : decode cX10_cleans 50 = .ok (.bipush 6, 2) := by decide +kernel
theorem dX10_cleans_52 : decode cX10_cleans 52 = .ok (.iload_n 1, 1) := by decide +kernel
theorem dX10_cleans_53 : decode cX10_cleans 53 = .ok (.iconst 0, 1) := by decide +kernel
theorem dX10_cleans_54 : decode cX10_cleans 54 = .ok (.iconst 1, 1) := by decide +kernel
theorem dX10_cleans_55 : decode cX10_cleans 55 = .ok (.invokevirtual 307, 3) := by decide +kernel
theorem dX10_cleans_58 : decode cX10_cleans 58 = .ok (.ireturn, 1) := by decide +kernel
theorem dX10_picks_0 : decode cX10_picks 0 = .ok (.aload_n 0, 1) := by decide +kernel
theorem dX10_picks_1 : decode cX10_picks 1 = .ok (.iload_n 2, 1) := by decide +kernel
theorem dX10_picks_2 : decode cX10_picks 2 = .ok (.iconst 0, 1) := by decide +kernel
theorem dX10_picks_3 : decode cX10_picks 3 = .ok (.invokevirtual 232, 3) := by decide +kernel
theorem dX10_picks_6 : decode cX10_picks 6 = .ok (.istore_n 3, 1) := by decide +kernel
theorem dX10_picks_7 : decode cX10_picks 7 = .ok (.aload_n 0, 1) := by decide +kernel
theorem dX10_picks_8 : decode cX10_picks 8 = .ok (.iload_n 1, 1) := by decide +kernel
theorem dX10_picks_9 : decode cX10_picks 9 = .ok (.iconst 1, 1) := by decide +kernel
theorem dX10_picks_10 : decode cX10_picks 10 = .ok (.invokevirtual 216, 3) := by decide +kernel
theorem dX10_picks_13 : decode cX10_picks 13 = .ok (.iconst (-1), 1) := by decide +kernel
theorem dX10_picks_14 : decode cX10_picks 14 = .ok (.if_icmp .eq 6, 3) := by decide +kernel
theorem dX10_picks_17 : decode cX10_picks 17 = .ok (.bipush (-3), 2) := by decide +kernel
theorem dX10_picks_19 : decode cX10_picks 19 = .ok (.ireturn, 1) := by decide +kernel
theorem dX10_picks_20 : decode cX10_picks 20 = .ok (.aload_n 0, 1) := by decide +kernel
theorem dX10_picks_21 : decode cX10_picks 21 = .ok (.iload_n 1, 1) := by decide +kernel
theorem dX10_picks_22 : decode cX10_picks 22 = .ok (.iconst 0, 1) := by decide +kernel
theorem dX10_picks_23 : decode cX10_picks 23 = .ok (.invokevirtual 216, 3) := by decide +kernel
theorem dX10_picks_26 : decode cX10_picks 26 = .ok (.aload_n 0, 1) := by decide +kernel
theorem dX10_picks_27 : decode cX10_picks 27 = .ok (.getfield 9, 3) := by decide +kernel
theorem dX10_picks_30 : decode cX10_picks 30 = .ok (.bipush 50, 2) := by decide +kernel
theorem dX10_picks_32 : decode cX10_picks 32 = .ok (.iload_n 3, 1) := by decide +kernel
theorem dX10_picks_33 : decode cX10_picks 33 = .ok (.iadd, 1) := by decide +kernel
theorem dX10_picks_34 : decode cX10_picks 34 = .ok (.iaload, 1) := by decide +kernel
theorem dX10_picks_35 : decode cX10_picks 35 = .ok (.if_icmp .eq 6, 3) := by decide +kernel
theorem dX10_picks_38 : decode cX10_picks 38 = .ok (.bipush (-5), 2) := by decide +kernel
theorem dX10_picks_40 : decode cX10_picks 40 = .ok (.ireturn, 1) := by decide +kernel
theorem dX10_picks_41 : decode cX10_picks 41 = .ok (.aload_n 0, 1) := by decide +kernel
theorem dX10_picks_42 : decode cX10_picks 42 = .ok (.iload_n 2, 1) := by decide +kernel
theorem dX10_picks_43 : decode cX10_picks 43 = .ok (.iconst 2, 1) := by decide +kernel
theorem dX10_picks_44 : decode cX10_picks 44 = .ok (.invokevirtual 232, 3) := by decide +kernel
theorem dX10_picks_47 : decode cX10_picks 47 = .ok (.ifCond .ne 6, 3) := by decide +kernel
theorem dX10_picks_50 : decode cX10_picks 50 = .ok (.bipush (-4), 2) := by decide +kernel
theorem dX10_picks_52 : decode cX10_picks 52 = .ok (.ireturn, 1) := by decide +kernel
theorem dX10_picks_53 : decode cX10_picks 53 = .ok (.aload_n 0, 1) := by decide +kernel
theorem dX10_picks_54 : decode cX10_picks 54 = .ok (.iconst 2, 1) := by decide +kernel
theorem dX10_picks_55 : decode cX10_picks 55 = .ok (.aload_n 0, 1) := by decide +kernel
theorem dX10_picks_56 : decode cX10_picks 56 = .ok (.iload_n 2, 1) := by decide +kernel
theorem dX10_picks_57 : decode cX10_picks 57 = .ok (.iconst 1, 1) := by decide +kernel
theorem dX10_picks_58 : decode cX10_picks 58 = .ok (.invokevirtual 232, 3) := by decide +kernel
theorem dX10_picks_61 : decode cX10_picks 61 = .ok (.iconst 0, 1) := by decide +kernel
theorem dX10_picks_62 : decode cX10_picks 62 = .ok (.aload_n 0, 1) := by decide +kernel
theorem dX10_picks_63 : decode cX10_picks 63 = .ok (.getfield 9, 3) := by decide +kernel
theorem dX10_picks_66 : decode cX10_picks 66 = .ok (.iconst 2, 1) := by decide +kernel
theorem dX10_picks_67 : decode cX10_picks 67 = .ok (.iaload, 1) := by decide +kernel
theorem dX10_picks_68 : decode cX10_picks 68 = .ok (.invokevirtual 300, 3) := by decide +kernel
theorem dX10_picks_71 : decode cX10_picks 71 = .ok (.aload_n 0, 1) := by decide +kernel
theorem dX10_picks_72 : decode cX10_picks 72 = .ok (.iconst 2, 1) := by decide +kernel
theorem dX10_picks_73 : decode cX10_picks 73 = .ok (.iload_n 1, 1) := by decide +kernel
theorem dX10_picks_74 : decode cX10_picks 74 = .ok (.iload_n 2, 1) := by decide +kernel
theorem dX10_picks_75 : decode cX10_picks 75 = .ok (.aload_n 0, 1) := by decide +kernel
theorem dX10_picks_76 : decode cX10_picks 76 = .ok (.iload_n 1, 1) := by decide +kernel
theorem dX10_picks_77 : decode cX10_picks 77 = .ok (.iload_n 2, 1) := by decide +kernel
theorem dX10_picks_78 : decode cX10_picks 78 = .ok (.iload_n 3, 1) := by decide +kernel
theorem dX10_picks_79 : decode cX10_picks 79 = .ok (.invokevirtual 311, 3) := by decide +kernel
theorem dX10_picks_82 : decode cX10_picks 82 = .ok (.ifCond .eq 7, 3) := by decide +kernel
theorem dX10_picks_85 : decode cX10_picks 85 = .ok (.iconst 1, 1) := by decide +kernel
theorem dX10_picks_86 : decode cX10_picks 86 = .ok (.goto 4, 3) := by decide +kernel
theorem dX10_picks_89 : decode cX10_picks 89 = .ok (.iconst 0, 1) := by decide +kernel
theorem dX10_picks_90 : decode cX10_picks 90 = .ok (.invokevirtual 307, 3) := by decide +kernel
theorem dX10_picks_93 : decode cX10_picks 93 = .ok (.ireturn, 1) := by decide +kernel
theorem dX10_takesPart_0 : decode cX10_takesPart 0 = .ok (.aload_n 0, 1) := by decide +kernel
theorem dX10_takesPart_1 : decode cX10_takesPart 1 = .ok (.iload_n 2, 1) := by decide +kernel
theorem dX10_takesPart_2 : decode cX10_takesPart 2 = .ok (.bipush 7, 2) := by decide +kernel
theorem dX10_takesPart_4 : decode cX10_takesPart 4 = .ok (.invokevirtual 232, 3) := by decide +kernel
theorem dX10_takesPart_7 : decode cX10_takesPart 7 = .ok (.iconst 1, 1) := by decide +kernel
theorem dX10_takesPart_8 : decode cX10_takesPart 8 = .ok (.if_icmp .ne 13, 3) := by decide +kernel
theorem dX10_takesPart_11 : decode cX10_takesPart 11 = .ok (.aload_n 0, 1) := by decide +kernel
theorem dX10_takesPart_12 : decode cX10_takesPart 12 = .ok (.iload_n 2, 1) := by decide +kernel
theorem dX10_takesPart_13 : decode cX10_takesPart 13 = .ok (.bipush 7, 2) := by decide +kernel
theorem dX10_takesPart_15 : decode cX10_takesPart 15 = .ok (.iconst 0, 1) := by decide +kernel
theorem dX10_takesPart_16 : decode cX10_takesPart 16 = .ok (.invokevirtual 235, 3) := by decide +kernel
theorem dX10_takesPart_19 : decode cX10_takesPart 19 = .ok (.iconst 0, 1) := by decide +kernel
theorem dX10_takesPart_20 : decode cX10_takesPart 20 = .ok (.ireturn, 1) := by decide +kernel
theorem dX10_takesPart_21 : decode cX10_takesPart 21 = .ok (.aload_n 0, 1) := by decide +kernel
theorem dX10_takesPart_22 : decode cX10_takesPart 22 = .ok (.invokevirtual 314, 3) := by decide +kernel
theorem dX10_takesPart_25 : decode cX10_takesPart 25 = .ok (.aload_n 0, 1) := by decide +kernel
theorem dX10_takesPart_26 : decode cX10_takesPart 26 = .ok (.iload_n 2, 1) := by decide +kernel
theorem dX10_takesPart_27 : decode cX10_takesPart 27 = .ok (.iconst 3, 1) := by decide +kernel
theorem dX10_takesPart_28 : decode cX10_takesPart 28 = .ok (.invokevirtual 232, 3) := by decide +kernel
theorem dX10_takesPart_31 : decode cX10_takesPart 31 = .ok (.aload_n 0, 1) := by decide +kernel
theorem dX10_takesPart_32 : decode cX10_takesPart 32 = .ok (.iload_n 1, 1) := by decide +kernel
theorem dX10_takesPart_33 : decode cX10_takesPart 33 = .ok (.invokevirtual 317, 3) := by decide +kernel
theorem dX10_takesPart_36 : decode cX10_takesPart 36 = .ok (.ifCond .eq 13, 3) := by decide +kernel
theorem dX10_takesPart_39 : decode cX10_takesPart 39 = .ok (.aload_n 0, 1) := by decide +kernel
theorem dX10_takesPart_40 : decode cX10_takesPart 40 = .ok (.getfield 9, 3) := by decide +kernel
theorem dX10_takesPart_43 : decode cX10_takesPart 43 = .ok (.bipush 13, 2) := by decide +kernel
theorem dX10_takesPart_45 : decode cX10_takesPart 45 = .ok (.iaload, 1) := by decide +kernel
theorem dX10_takesPart_46 : decode cX10_takesPart 46 = .ok (.goto 4, 3) := by decide +kernel
theorem dX10_takesPart_49 : decode cX10_takesPart 49 = .ok (.iconst 0, 1) := by decide +kernel
theorem dX10_takesPart_50 : decode cX10_takesPart 50 = .ok (.iadd, 1) := by decide +kernel
theorem dX10_takesPart_51 : decode cX10_takesPart 51 = .ok (.if_icmp .ge 7, 3) := by decide +kernel
theorem dX10_takesPart_54 : decode cX10_takesPart 54 = .ok (.iconst 1, 1) := by decide +kernel
theorem dX10_takesPart_55 : decode cX10_takesPart 55 = .ok (.goto 4, 3) := by decide +kernel
theorem dX10_takesPart_58 : decode cX10_takesPart 58 = .ok (.iconst 0, 1) := by decide +kernel
theorem dX10_takesPart_59 : decode cX10_takesPart 59 = .ok (.istore 4, 2) := by decide +kernel
theorem dX10_takesPart_61 : decode cX10_takesPart 61 = .ok (.aload_n 0, 1) := by decide +kernel
theorem dX10_takesPart_62 : decode cX10_takesPart 62 = .ok (.iload_n 1, 1) := by decide +kernel
theorem dX10_takesPart_63 : decode cX10_takesPart 63 = .ok (.bipush 7, 2) := by decide +kernel
theorem dX10_takesPart_65 : decode cX10_takesPart 65 = .ok (.aload_n 0, 1) := by decide +kernel
theorem dX10_takesPart_66 : decode cX10_takesPart 66 = .ok (.iload_n 1, 1) := by decide +kernel
theorem dX10_takesPart_67 : decode cX10_takesPart 67 = .ok (.bipush 7, 2) := by decide +kernel
theorem dX10_takesPart_69 : decode cX10_takesPart 69 = .ok (.invokevirtual 216, 3) := by decide +kernel
theorem dX10_takesPart_72 : decode cX10_takesPart 72 = .ok (.iconst 1, 1) := by decide +kernel
theorem dX10_takesPart_73 : decode cX10_takesPart 73 = .ok (.iadd, 1) := by decide +kernel
theorem dX10_takesPart_74 : decode cX10_takesPart 74 = .ok (.invokevirtual 304, 3) := by decide +kernel
theorem dX10_takesPart_77 : decode cX10_takesPart 77 = .ok (.aload_n 0, 1) := by decide +kernel
theorem dX10_takesPart_78 : decode cX10_takesPart 78 = .ok (.iload_n 2, 1) := by decide +kernel
theorem dX10_takesPart_79 : decode cX10_takesPart 79 = .ok (.iconst 2, 1) := by decide +kernel
theorem dX10_takesPart_80 : decode cX10_takesPart 80 = .ok (.aload_n 0, 1) := by decide +kernel
theorem dX10_takesPart_81 : decode cX10_takesPart 81 = .ok (.iload_n 2, 1) := by decide +kernel
theorem dX10_takesPart_82 : decode cX10_takesPart 82 = .ok (.iconst 2, 1) := by decide +kernel
theorem dX10_takesPart_83 : decode cX10_takesPart 83 = .ok (.invokevirtual 232, 3) := by decide +kernel
theorem dX10_takesPart_86 : decode cX10_takesPart 86 = .ok (.iconst 1, 1) := by decide +kernel
theorem dX10_takesPart_87 : decode cX10_takesPart 87 = .ok (.isub, 1) := by decide +kernel
theorem dX10_takesPart_88 : decode cX10_takesPart 88 = .ok (.invokevirtual 235, 3) := by decide +kernel
theorem dX10_takesPart_91 : decode cX10_takesPart 91 = .ok (.iload 4, 2) := by decide +kernel
theorem dX10_takesPart_93 : decode cX10_takesPart 93 = .ok (.ifCond .eq 29, 3) := by decide +kernel
theorem dX10_takesPart_96 : decode cX10_takesPart 96 = .ok (.aload_n 0, 1) := by decide +kernel
theorem dX10_takesPart_97 : decode cX10_takesPart 97 = .ok (.iload_n 2, 1) := by decide +kernel
theorem dX10_takesPart_98 : decode cX10_takesPart 98 = .ok (.bipush 6, 2) := by decide +kernel
theorem dX10_takesPart_100 : decode cX10_takesPart 100 = .ok (.aload_n 0, 1) := by decide +kernel
theorem dX10_takesPart_101 : decode cX10_takesPart 101 = .ok (.iload_n 2, 1) := by decide +kernel
theorem dX10_takesPart_102 : decode cX10_takesPart 102 = .ok (.bipush 6, 2) := by decide +kernel
theorem dX10_takesPart_104 : decode cX10_takesPart 104 = .ok (.invokevirtual 232, 3) := by decide +kernel
theorem dX10_takesPart_107 : decode cX10_takesPart 107 = .ok (.iconst 1, 1) := by decide +kernel
theorem dX10_takesPart_108 : decode cX10_takesPart 108 = .ok (.iadd, 1) := by decide +kernel
theorem dX10_takesPart_109 : decode cX10_takesPart 109 = .ok (.invokevirtual 235, 3) := by decide +kernel
theorem dX10_takesPart_112 : decode cX10_takesPart 112 = .ok (.aload_n 0, 1) := by decide +kernel
theorem dX10_takesPart_113 : decode cX10_takesPart 113 = .ok (.iload_n 3, 1) := by decide +kernel
theorem dX10_takesPart_114 : decode cX10_takesPart 114 = .ok (.iconst 3, 1) := by decide +kernel
theorem dX10_takesPart_115 : decode cX10_takesPart 115 = .ok (.iconst 1, 1) := by decide +kernel
theorem dX10_takesPart_116 : decode cX10_takesPart 116 = .ok (.invokevirtual 241, 3) := by decide +kernel
theorem dX10_takesPart_119 : decode cX10_takesPart 119 = .ok (.goto 38, 3) := by decide +kernel
theorem dX10_takesPart_122 : decode cX10_takesPart 122 = .ok (.aload_n 0, 1) := by decide +kernel
theorem dX10_takesPart_123 : decode cX10_takesPart 123 = .ok (.iload_n 2, 1) := by decide +kernel
theorem dX10_takesPart_124 : decode cX10_takesPart 124 = .ok (.iconst 5, 1) := by decide +kernel
theorem dX10_takesPart_125 : decode cX10_takesPart 125 = .ok (.aload_n 0, 1) := by decide +kernel
theorem dX10_takesPart_126 : decode cX10_takesPart 126 = .ok (.iload_n 2, 1) := by decide +kernel
theorem dX10_takesPart_127 : decode cX10_takesPart 127 = .ok (.iconst 5, 1) := by decide +kernel
theorem dX10_takesPart_128 : decode cX10_takesPart 128 = .ok (.invokevirtual 232, 3) := by decide +kernel
theorem dX10_takesPart_131 : decode cX10_takesPart 131 = .ok (.iconst 1, 1) := by decide +kernel
theorem dX10_takesPart_132 : decode cX10_takesPart 132 = .ok (.iadd, 1) := by decide +kernel
theorem dX10_takesPart_133 : decode cX10_takesPart 133 = .ok (.invokevirtual 235, 3) := by decide +kernel
theorem dX10_takesPart_136 : decode cX10_takesPart 136 = .ok (.aload_n 0, 1) := by decide +kernel
theorem dX10_takesPart_137 : decode cX10_takesPart 137 = .ok (.iload_n 1, 1) := by decide +kernel
theorem dX10_takesPart_138 : decode cX10_takesPart 138 = .ok (.iconst 1, 1) := by decide +kernel
theorem dX10_takesPart_139 : decode cX10_takesPart 139 = .ok (.iload_n 3, 1) := by decide +kernel
theorem dX10_takesPart_140 : decode cX10_takesPart 140 = .ok (.invokevirtual 304, 3) := by decide +kernel
theorem dX10_takesPart_143 : decode cX10_takesPart 143 = .ok (.aload_n 0, 1) := by decide +kernel
theorem dX10_takesPart_144 : decode cX10_takesPart 144 = .ok (.iload_n 1, 1) := by decide +kernel
theorem dX10_takesPart_145 : decode cX10_takesPart 145 = .ok (.iconst 2, 1) := by decide +kernel
theorem dX10_takesPart_146 : decode cX10_takesPart 146 = .ok (.iconst 0, 1) := by decide +kernel
theorem dX10_takesPart_147 : decode cX10_takesPart 147 = .ok (.invokevirtual 304, 3) := by decide +kernel
theorem dX10_takesPart_150 : decode cX10_takesPart 150 = .ok (.aload_n 0, 1) := by decide +kernel
theorem dX10_takesPart_151 : decode cX10_takesPart 151 = .ok (.iload_n 1, 1) := by decide +kernel
theorem dX10_takesPart_152 : decode cX10_takesPart 152 = .ok (.iconst 3, 1) := by decide +kernel
theorem dX10_takesPart_153 : decode cX10_takesPart 153 = .ok (.iconst 0, 1) := by decide +kernel
theorem dX10_takesPart_154 : decode cX10_takesPart 154 = .ok (.invokevirtual 304, 3) := by decide +kernel
theorem dX10_takesPart_157 : decode cX10_takesPart 157 = .ok (.aload_n 0, 1) := by decide +kernel
theorem dX10_takesPart_158 : decode cX10_takesPart 158 = .ok (.iload_n 2, 1) := by decide +kernel
theorem dX10_takesPart_159 : decode cX10_takesPart 159 = .ok (.invokevirtual 244, 3) := by decide +kernel
theorem dX10_takesPart_162 : decode cX10_takesPart 162 = .ok (.iload 4, 2) := by decide +kernel
theorem dX10_takesPart_164 : decode cX10_takesPart 164 = .ok (.ifCond .ne 7, 3) := by decide +kernel
theorem dX10_takesPart_167 : decode cX10_takesPart 167 = .ok (.iconst 1, 1) := by decide +kernel
theorem dX10_takesPart_168 : decode cX10_takesPart 168 = .ok (.goto 4, 3) := by decide +kernel
theorem dX10_takesPart_171 : decode cX10_takesPart 171 = .ok (.iconst 0, 1) := by decide +kernel
theorem dX10_takesPart_172 : decode cX10_takesPart 172 = .ok (.ireturn, 1) := by decide +kernel
theorem dX10_frees_0 : decode cX10_frees 0 = .ok (.aload_n 0, 1) := by decide +kernel
theorem dX10_frees_1 : decode cX10_frees 1 = .ok (.iload_n 1, 1) := by decide +kernel
theorem dX10_frees_2 : decode cX10_frees 2 = .ok (.iconst 1, 1) := by decide +kernel
theorem dX10_frees_3 : decode cX10_frees 3 = .ok (.iconst (-1), 1) := by decide +kernel
theorem dX10_frees_4 : decode cX10_frees 4 = .ok (.invokevirtual 304, 3) := by decide +kernel
theorem dX10_frees_7 : decode cX10_frees 7 = .ok (.aload_n 0, 1) := by decide +kernel
theorem dX10_frees_8 : decode cX10_frees 8 = .ok (.iload_n 1, 1) := by decide +kernel
theorem dX10_frees_9 : decode cX10_frees 9 = .ok (.iconst 2, 1) := by decide +kernel
theorem dX10_frees_10 : decode cX10_frees 10 = .ok (.iconst 0, 1) := by decide +kernel
theorem dX10_frees_11 : decode cX10_frees 11 = .ok (.invokevirtual 304, 3) := by decide +kernel
theorem dX10_frees_14 : decode cX10_frees 14 = .ok (.aload_n 0, 1) := by decide +kernel
theorem dX10_frees_15 : decode cX10_frees 15 = .ok (.iload_n 1, 1) := by decide +kernel
theorem dX10_frees_16 : decode cX10_frees 16 = .ok (.iconst 3, 1) := by decide +kernel
theorem dX10_frees_17 : decode cX10_frees 17 = .ok (.iconst 0, 1) := by decide +kernel
theorem dX10_frees_18 : decode cX10_frees 18 = .ok (.invokevirtual 304, 3) := by decide +kernel
theorem dX10_frees_21 : decode cX10_frees 21 = .ok (.return_, 1) := by decide +kernel
theorem dX10_rejects_0 : decode cX10_rejects 0 = .ok (.aload_n 0, 1) := by decide +kernel
theorem dX10_rejects_1 : decode cX10_rejects 1 = .ok (.aload_n 0, 1) := by decide +kernel
theorem dX10_rejects_2 : decode cX10_rejects 2 = .ok (.iload_n 1, 1) := by decide +kernel
theorem dX10_rejects_3 : decode cX10_rejects 3 = .ok (.iconst 1, 1) := by decide +kernel
theorem dX10_rejects_4 : decode cX10_rejects 4 = .ok (.invokevirtual 216, 3) := by decide +kernel
theorem dX10_rejects_7 : decode cX10_rejects 7 = .ok (.iconst 2, 1) := by decide +kernel
theorem dX10_rejects_8 : decode cX10_rejects 8 = .ok (.iconst 1, 1) := by decide +kernel
theorem dX10_rejects_9 : decode cX10_rejects 9 = .ok (.invokevirtual 241, 3) := by decide +kernel
theorem dX10_rejects_12 : decode cX10_rejects 12 = .ok (.aload_n 0, 1) := by decide +kernel
theorem dX10_rejects_13 : decode cX10_rejects 13 = .ok (.iload_n 1, 1) := by decide +kernel
theorem dX10_rejects_14 : decode cX10_rejects 14 = .ok (.bipush 6, 2) := by decide +kernel
theorem dX10_rejects_16 : decode cX10_rejects 16 = .ok (.aload_n 0, 1) := by decide +kernel
theorem dX10_rejects_17 : decode cX10_rejects 17 = .ok (.iload_n 1, 1) := by decide +kernel
theorem dX10_rejects_18 : decode cX10_rejects 18 = .ok (.bipush 6, 2) := by decide +kernel
theorem dX10_rejects_20 : decode cX10_rejects 20 = .ok (.invokevirtual 216, 3) := by decide +kernel
theorem dX10_rejects_23 : decode cX10_rejects 23 = .ok (.iconst 1, 1) := by decide +kernel
theorem dX10_rejects_24 : decode cX10_rejects 24 = .ok (.iadd, 1) := by decide +kernel
theorem dX10_rejects_25 : decode cX10_rejects 25 = .ok (.invokevirtual 304, 3) := by decide +kernel
theorem dX10_rejects_28 : decode cX10_rejects 28 = .ok (.aload_n 0, 1) := by decide +kernel
theorem dX10_rejects_29 : decode cX10_rejects 29 = .ok (.iload_n 1, 1) := by decide +kernel
theorem dX10_rejects_30 : decode cX10_rejects 30 = .ok (.invokevirtual 320, 3) := by decide +kernel
theorem dX10_rejects_33 : decode cX10_rejects 33 = .ok (.return_, 1) := by decide +kernel
theorem dX10_looks_0 : decode cX10_looks 0 = .ok (.aload_n 0, 1) := by decide +kernel
theorem dX10_looks_1 : decode cX10_looks 1 = .ok (.iload_n 1, 1) := by decide +kernel
theorem dX10_looks_2 : decode cX10_looks 2 = .ok (.iconst 1, 1) := by decide +kernel
theorem dX10_looks_3 : decode cX10_looks 3 = .ok (.invokevirtual 216, 3) := by decide +kernel
theorem dX10_looks_6 : decode cX10_looks 6 = .ok (.iconst (-1), 1) := by decide +kernel
theorem dX10_looks_7 : decode cX10_looks 7 = .ok (.if_icmp .eq 13, 3) := by decide +kernel
theorem dX10_looks_10 : decode cX10_looks 10 = .ok (.aload_n 0, 1) := by decide +kernel
theorem dX10_looks_11 : decode cX10_looks 11 = .ok (.iload_n 1, 1) := by decide +kernel
theorem dX10_looks_12 : decode cX10_looks 12 = .ok (.iconst 2, 1) := by decide +kernel
theorem dX10_looks_13 : decode cX10_looks 13 = .ok (.invokevirtual 216, 3) := by decide +kernel
theorem dX10_looks_16 : decode cX10_looks 16 = .ok (.iconst 1, 1) := by decide +kernel
theorem dX10_looks_17 : decode cX10_looks 17 = .ok (.if_icmp .ne 6, 3) := by decide +kernel
theorem dX10_looks_20 : decode cX10_looks 20 = .ok (.bipush (-3), 2) := by decide +kernel
theorem dX10_looks_22 : decode cX10_looks 22 = .ok (.ireturn, 1) := by decide +kernel
theorem dX10_looks_23 : decode cX10_looks 23 = .ok (.aload_n 0, 1) := by decide +kernel
theorem dX10_looks_24 : decode cX10_looks 24 = .ok (.iconst 3, 1) := by decide +kernel
theorem dX10_looks_25 : decode cX10_looks 25 = .ok (.aload_n 0, 1) := by decide +kernel
theorem dX10_looks_26 : decode cX10_looks 26 = .ok (.getfield 9, 3) := by decide +kernel
theorem dX10_looks_29 : decode cX10_looks 29 = .ok (.bipush 8, 2) := by decide +kernel
theorem dX10_looks_31 : decode cX10_looks 31 = .ok (.iaload, 1) := by decide +kernel
theorem dX10_looks_32 : decode cX10_looks 32 = .ok (.aload_n 0, 1) := by decide +kernel
theorem dX10_looks_33 : decode cX10_looks 33 = .ok (.getfield 9, 3) := by decide +kernel
theorem dX10_looks_36 : decode cX10_looks 36 = .ok (.bipush 9, 2) := by decide +kernel
theorem dX10_looks_38 : decode cX10_looks 38 = .ok (.iaload, 1) := by decide +kernel
theorem dX10_looks_39 : decode cX10_looks 39 = .ok (.aload_n 0, 1) := by decide +kernel
theorem dX10_looks_40 : decode cX10_looks 40 = .ok (.getfield 9, 3) := by decide +kernel
theorem dX10_looks_43 : decode cX10_looks 43 = .ok (.iconst 3, 1) := by decide +kernel
theorem dX10_looks_44 : decode cX10_looks 44 = .ok (.iaload, 1) := by decide +kernel
theorem dX10_looks_45 : decode cX10_looks 45 = .ok (.invokevirtual 300, 3) := by decide +kernel
theorem dX10_looks_48 : decode cX10_looks 48 = .ok (.aload_n 0, 1) := by decide +kernel
theorem dX10_looks_49 : decode cX10_looks 49 = .ok (.invokevirtual 314, 3) := by decide +kernel
theorem dX10_looks_52 : decode cX10_looks 52 = .ok (.istore_n 2, 1) := by decide +kernel
theorem dX10_looks_53 : decode cX10_looks 53 = .ok (.aload_n 0, 1) := by decide +kernel
theorem dX10_looks_54 : decode cX10_looks 54 = .ok (.iload_n 1, 1) := by decide +kernel
theorem dX10_looks_55 : decode cX10_looks 55 = .ok (.iconst 3, 1) := by decide +kernel
theorem dX10_looks_56 : decode cX10_looks 56 = .ok (.invokevirtual 216, 3) := by decide +kernel
theorem dX10_looks_59 : decode cX10_looks 59 = .ok (.iconst 1, 1) := by decide +kernel
theorem dX10_looks_60 : decode cX10_looks 60 = .ok (.iadd, 1) := by decide +kernel
theorem dX10_looks_61 : decode cX10_looks 61 = .ok (.istore_n 3, 1) := by decide +kernel
theorem dX10_looks_62 : decode cX10_looks 62 = .ok (.aload_n 0, 1) := by decide +kernel
theorem dX10_looks_63 : decode cX10_looks 63 = .ok (.iload_n 1, 1) := by decide +kernel
theorem dX10_looks_64 : decode cX10_looks 64 = .ok (.iconst 3, 1) := by decide +kernel
theorem dX10_looks_65 : decode cX10_looks 65 = .ok (.iload_n 3, 1) := by decide +kernel
theorem dX10_looks_66 : decode cX10_looks 66 = .ok (.invokevirtual 304, 3) := by decide +kernel
theorem dX10_looks_69 : decode cX10_looks 69 = .ok (.iload_n 2, 1) := by decide +kernel
theorem dX10_looks_70 : decode cX10_looks 70 = .ok (.aload_n 0, 1) := by decide +kernel
theorem dX10_looks_71 : decode cX10_looks 71 = .ok (.getfield 9, 3) := by decide +kernel
theorem dX10_looks_74 : decode cX10_looks 74 = .ok (.iconst 5, 1) := by decide +kernel
theorem dX10_looks_75 : decode cX10_looks 75 = .ok (.iaload, 1) := by decide +kernel
theorem dX10_looks_76 : decode cX10_looks 76 = .ok (.if_icmp .ge 38, 3) := by decide +kernel
theorem dX10_looks_79 : decode cX10_looks 79 = .ok (.aload_n 0, 1) := by decide +kernel
theorem dX10_looks_80 : decode cX10_looks 80 = .ok (.iload_n 1, 1) := by decide +kernel
theorem dX10_looks_81 : decode cX10_looks 81 = .ok (.iconst 2, 1) := by decide +kernel
theorem dX10_looks_82 : decode cX10_looks 82 = .ok (.iconst 1, 1) := by decide +kernel
theorem dX10_looks_83 : decode cX10_looks 83 = .ok (.invokevirtual 304, 3) := by decide +kernel
theorem dX10_looks_86 : decode cX10_looks 86 = .ok (.aload_n 0, 1) := by decide +kernel
theorem dX10_looks_87 : decode cX10_looks 87 = .ok (.getfield 9, 3) := by decide +kernel
theorem dX10_looks_90 : decode cX10_looks 90 = .ok (.bipush 25, 2) := by decide +kernel
theorem dX10_looks_92 : decode cX10_looks 92 = .ok (.iconst 0, 1) := by decide +kernel
theorem dX10_looks_93 : decode cX10_looks 93 = .ok (.iastore, 1) := by decide +kernel
theorem dX10_looks_94 : decode cX10_looks 94 = .ok (.aload_n 0, 1) := by decide +kernel
theorem dX10_looks_95 : decode cX10_looks 95 = .ok (.getfield 9, 3) := by decide +kernel
theorem dX10_looks_98 : decode cX10_looks 98 = .ok (.bipush 26, 2) := by decide +kernel
theorem dX10_looks_100 : decode cX10_looks 100 = .ok (.dup2, 1) := by decide +kernel
theorem dX10_looks_101 : decode cX10_looks 101 = .ok (.iaload, 1) := by decide +kernel
theorem dX10_looks_102 : decode cX10_looks 102 = .ok (.iconst 1, 1) := by decide +kernel
theorem dX10_looks_103 : decode cX10_looks 103 = .ok (.iadd, 1) := by decide +kernel
theorem dX10_looks_104 : decode cX10_looks 104 = .ok (.iastore, 1) := by decide +kernel
theorem dX10_looks_105 : decode cX10_looks 105 = .ok (.aload_n 0, 1) := by decide +kernel
theorem dX10_looks_106 : decode cX10_looks 106 = .ok (.iconst 3, 1) := by decide +kernel
theorem dX10_looks_107 : decode cX10_looks 107 = .ok (.iload_n 1, 1) := by decide +kernel
theorem dX10_looks_108 : decode cX10_looks 108 = .ok (.iconst 0, 1) := by decide +kernel
theorem dX10_looks_109 : decode cX10_looks 109 = .ok (.iconst 1, 1) := by decide +kernel
theorem dX10_looks_110 : decode cX10_looks 110 = .ok (.invokevirtual 307, 3) := by decide +kernel
theorem dX10_looks_113 : decode cX10_looks 113 = .ok (.ireturn, 1) := by decide +kernel
theorem dX10_looks_114 : decode cX10_looks 114 = .ok (.iload_n 2, 1) := by decide +kernel
theorem dX10_looks_115 : decode cX10_looks 115 = .ok (.aload_n 0, 1) := by decide +kernel
theorem dX10_looks_116 : decode cX10_looks 116 = .ok (.getfield 9, 3) := by decide +kernel
theorem dX10_looks_119 : decode cX10_looks 119 = .ok (.iconst 5, 1) := by decide +kernel
theorem dX10_looks_120 : decode cX10_looks 120 = .ok (.iaload, 1) := by decide +kernel
theorem dX10_looks_121 : decode cX10_looks 121 = .ok (.aload_n 0, 1) := by decide +kernel
theorem dX10_looks_122 : decode cX10_looks 122 = .ok (.getfield 9, 3) := by decide +kernel
theorem dX10_looks_125 : decode cX10_looks 125 = .ok (.bipush 6, 2) := by decide +kernel
theorem dX10_looks_127 : decode cX10_looks 127 = .ok (.iaload, 1) := by decide +kernel
theorem dX10_looks_128 : decode cX10_looks 128 = .ok (.iadd, 1) := by decide +kernel
theorem dX10_looks_129 : decode cX10_looks 129 = .ok (.if_icmp .ge 23, 3) := by decide +kernel
theorem dX10_looks_132 : decode cX10_looks 132 = .ok (.iload_n 3, 1) := by decide +kernel
theorem dX10_looks_133 : decode cX10_looks 133 = .ok (.aload_n 0, 1) := by decide +kernel
theorem dX10_looks_134 : decode cX10_looks 134 = .ok (.getfield 9, 3) := by decide +kernel
theorem dX10_looks_137 : decode cX10_looks 137 = .ok (.bipush 7, 2) := by decide +kernel
theorem dX10_looks_139 : decode cX10_looks 139 = .ok (.iaload, 1) := by decide +kernel
theorem dX10_looks_140 : decode cX10_looks 140 = .ok (.if_icmp .gt 12, 3) := by decide +kernel
theorem dX10_looks_143 : decode cX10_looks 143 = .ok (.aload_n 0, 1) := by decide +kernel
theorem dX10_looks_144 : decode cX10_looks 144 = .ok (.iconst 3, 1) := by decide +kernel
theorem dX10_looks_145 : decode cX10_looks 145 = .ok (.iload_n 1, 1) := by decide +kernel
theorem dX10_looks_146 : decode cX10_looks 146 = .ok (.iconst 0, 1) := by decide +kernel
theorem dX10_looks_147 : decode cX10_looks 147 = .ok (.iconst 0, 1) := by decide +kernel
theorem dX10_looks_148 : decode cX10_looks 148 = .ok (.invokevirtual 307, 3) := by decide +kernel
theorem dX10_looks_151 : decode cX10_looks 151 = .ok (.ireturn, 1) := by decide +kernel
theorem dX10_looks_152 : decode cX10_looks 152 = .ok (.aload_n 0, 1) := by decide +kernel
theorem dX10_looks_153 : decode cX10_looks 153 = .ok (.iload_n 1, 1) := by decide +kernel
theorem dX10_looks_154 : decode cX10_looks 154 = .ok (.invokevirtual 323, 3) := by decide +kernel
theorem dX10_looks_157 : decode cX10_looks 157 = .ok (.aload_n 0, 1) := by decide +kernel
theorem dX10_looks_158 : decode cX10_looks 158 = .ok (.getfield 9, 3) := by decide +kernel
theorem dX10_looks_161 : decode cX10_looks 161 = .ok (.bipush 25, 2) := by decide +kernel
theorem dX10_looks_163 : decode cX10_looks 163 = .ok (.dup2, 1) := by decide +kernel
theorem dX10_looks_164 : decode cX10_looks 164 = .ok (.iaload, 1) := by decide +kernel
theorem dX10_looks_165 : decode cX10_looks 165 = .ok (.iconst 1, 1) := by decide +kernel
theorem dX10_looks_166 : decode cX10_looks 166 = .ok (.iadd, 1) := by decide +kernel
theorem dX10_looks_167 : decode cX10_looks 167 = .ok (.iastore, 1) := by decide +kernel
theorem dX10_looks_168 : decode cX10_looks 168 = .ok (.aload_n 0, 1) := by decide +kernel
theorem dX10_looks_169 : decode cX10_looks 169 = .ok (.getfield 9, 3) := by decide +kernel
theorem dX10_looks_172 : decode cX10_looks 172 = .ok (.bipush 11, 2) := by decide +kernel
theorem dX10_looks_174 : decode cX10_looks 174 = .ok (.iaload, 1) := by decide +kernel
theorem dX10_looks_175 : decode cX10_looks 175 = .ok (.ifCond .le 28, 3) := by decide +kernel
theorem dX10_looks_178 : decode cX10_looks 178 = .ok (.aload_n 0, 1) := by decide +kernel
theorem dX10_looks_179 : decode cX10_looks 179 = .ok (.getfield 9, 3) := by decide +kernel
theorem dX10_looks_182 : decode cX10_looks 182 = .ok (.bipush 25, 2) := by decide +kernel
theorem dX10_looks_184 : decode cX10_looks 184 = .ok (.iaload, 1) := by decide +kernel
theorem dX10_looks_185 : decode cX10_looks 185 = .ok (.aload_n 0, 1) := by decide +kernel
theorem dX10_looks_186 : decode cX10_looks 186 = .ok (.getfield 9, 3) := by decide +kernel
theorem dX10_looks_189 : decode cX10_looks 189 = .ok (.bipush 11, 2) := by decide +kernel
theorem dX10_looks_191 : decode cX10_looks 191 = .ok (.iaload, 1) := by decide +kernel
theorem dX10_looks_192 : decode cX10_looks 192 = .ok (.if_icmp .lt 11, 3) := by decide +kernel
theorem dX10_looks_195 : decode cX10_looks 195 = .ok (.aload_n 0, 1) := by decide +kernel
theorem dX10_looks_196 : decode cX10_looks 196 = .ok (.getfield 9, 3) := by decide +kernel
theorem dX10_looks_199 : decode cX10_looks 199 = .ok (.bipush 29, 2) := by decide +kernel
theorem dX10_looks_201 : decode cX10_looks 201 = .ok (.iconst 1, 1) := by decide +kernel
theorem dX10_looks_202 : decode cX10_looks 202 = .ok (.iastore, 1) := by decide +kernel
theorem dX10_looks_203 : decode cX10_looks 203 = .ok (.aload_n 0, 1) := by decide +kernel
theorem dX10_looks_204 : decode cX10_looks 204 = .ok (.iconst 3, 1) := by decide +kernel
theorem dX10_looks_205 : decode cX10_looks 205 = .ok (.iload_n 1, 1) := by decide +kernel
theorem dX10_looks_206 : decode cX10_looks 206 = .ok (.iconst 0, 1) := by decide +kernel
theorem dX10_looks_207 : decode cX10_looks 207 = .ok (.iconst 2, 1) := by decide +kernel
theorem dX10_looks_208 : decode cX10_looks 208 = .ok (.invokevirtual 307, 3) := by decide +kernel
theorem dX10_looks_211 : decode cX10_looks 211 = .ok (.ireturn, 1) := by decide +kernel
theorem dX10_places_0 : decode cX10_places 0 = .ok (.aload_n 0, 1) := by decide +kernel
theorem dX10_places_1 : decode cX10_places 1 = .ok (.iload_n 1, 1) := by decide +kernel
theorem dX10_places_2 : decode cX10_places 2 = .ok (.iconst 1, 1) := by decide +kernel
theorem dX10_places_3 : decode cX10_places 3 = .ok (.invokevirtual 216, 3) := by decide +kernel
theorem dX10_places_6 : decode cX10_places 6 = .ok (.istore_n 3, 1) := by decide +kernel
theorem dX10_places_7 : decode cX10_places 7 = .ok (.iload_n 3, 1) := by decide +kernel
theorem dX10_places_8 : decode cX10_places 8 = .ok (.iconst (-1), 1) := by decide +kernel
theorem dX10_places_9 : decode cX10_places 9 = .ok (.if_icmp .eq 21, 3) := by decide +kernel
theorem dX10_places_12 : decode cX10_places 12 = .ok (.aload_n 0, 1) := by decide +kernel
theorem dX10_places_13 : decode cX10_places 13 = .ok (.iload_n 1, 1) := by decide +kernel
theorem dX10_places_14 : decode cX10_places 14 = .ok (.iconst 2, 1) := by decide +kernel
theorem dX10_places_15 : decode cX10_places 15 = .ok (.invokevirtual 216, 3) := by decide +kernel
theorem dX10_places_18 : decode cX10_places 18 = .ok (.ifCond .eq 12, 3) := by decide +kernel
theorem dX10_places_21 : decode cX10_places 21 = .ok (.aload_n 0, 1) := by decide +kernel
theorem dX10_places_22 : decode cX10_places 22 = .ok (.iload_n 2, 1) := by decide +kernel
theorem dX10_places_23 : decode cX10_places 23 = .ok (.iconst 3, 1) := by decide +kernel
theorem dX10_places_24 : decode cX10_places 24 = .ok (.invokevirtual 268, 3) := by decide +kernel
theorem dX10_places_27 : decode cX10_places 27 = .ok (.ifCond .eq 6, 3) := by decide +kernel
theorem dX10_places_30 : decode cX10_places 30 = .ok (.bipush (-3), 2) := by decide +kernel
theorem dX10_places_32 : decode cX10_places 32 = .ok (.ireturn, 1) := by decide +kernel
theorem dX10_places_33 : decode cX10_places 33 = .ok (.aload_n 0, 1) := by decide +kernel
theorem dX10_places_34 : decode cX10_places 34 = .ok (.iload_n 2, 1) := by decide +kernel
theorem dX10_places_35 : decode cX10_places 35 = .ok (.iconst 0, 1) := by decide +kernel
theorem dX10_places_36 : decode cX10_places 36 = .ok (.invokevirtual 268, 3) := by decide +kernel
theorem dX10_places_39 : decode cX10_places 39 = .ok (.iload_n 3, 1) := by decide +kernel
theorem dX10_places_40 : decode cX10_places 40 = .ok (.if_icmp .eq 6, 3) := by decide +kernel
theorem dX10_places_43 : decode cX10_places 43 = .ok (.bipush (-5), 2) := by decide +kernel
theorem dX10_places_45 : decode cX10_places 45 = .ok (.ireturn, 1) := by decide +kernel
theorem dX10_places_46 : decode cX10_places 46 = .ok (.aload_n 0, 1) := by decide +kernel
theorem dX10_places_47 : decode cX10_places 47 = .ok (.iload_n 2, 1) := by decide +kernel
theorem dX10_places_48 : decode cX10_places 48 = .ok (.invokevirtual 277, 3) := by decide +kernel
theorem dX10_places_51 : decode cX10_places 51 = .ok (.lconst 0, 1) := by decide +kernel
theorem dX10_places_52 : decode cX10_places 52 = .ok (.lcmp, 1) := by decide +kernel
theorem dX10_places_53 : decode cX10_places 53 = .ok (.ifCond .eq 6, 3) := by decide +kernel
theorem dX10_places_56 : decode cX10_places 56 = .ok (.bipush (-6), 2) := by decide +kernel
theorem dX10_places_58 : decode cX10_places 58 = .ok (.ireturn, 1) := by decide +kernel
theorem dX10_places_59 : decode cX10_places 59 = .ok (.aload_n 0, 1) := by decide +kernel
theorem dX10_places_60 : decode cX10_places 60 = .ok (.iconst 4, 1) := by decide +kernel
theorem dX10_places_61 : decode cX10_places 61 = .ok (.aload_n 0, 1) := by decide +kernel
theorem dX10_places_62 : decode cX10_places 62 = .ok (.iload_n 2, 1) := by decide +kernel
theorem dX10_places_63 : decode cX10_places 63 = .ok (.iconst 1, 1) := by decide +kernel
theorem dX10_places_64 : decode cX10_places 64 = .ok (.invokevirtual 268, 3) := by decide +kernel
theorem dX10_places_67 : decode cX10_places 67 = .ok (.aload_n 0, 1) := by decide +kernel
theorem dX10_places_68 : decode cX10_places 68 = .ok (.iload_n 2, 1) := by decide +kernel
theorem dX10_places_69 : decode cX10_places 69 = .ok (.iconst 2, 1) := by decide +kernel
theorem dX10_places_70 : decode cX10_places 70 = .ok (.invokevirtual 268, 3) := by decide +kernel
theorem dX10_places_73 : decode cX10_places 73 = .ok (.aload_n 0, 1) := by decide +kernel
theorem dX10_places_74 : decode cX10_places 74 = .ok (.getfield 9, 3) := by decide +kernel
theorem dX10_places_77 : decode cX10_places 77 = .ok (.iconst 4, 1) := by decide +kernel
theorem dX10_places_78 : decode cX10_places 78 = .ok (.iaload, 1) := by decide +kernel
theorem dX10_places_79 : decode cX10_places 79 = .ok (.invokevirtual 300, 3) := by decide +kernel
theorem dX10_places_82 : decode cX10_places 82 = .ok (.aload_n 0, 1) := by decide +kernel
theorem dX10_places_83 : decode cX10_places 83 = .ok (.iload_n 2, 1) := by decide +kernel
theorem dX10_places_84 : decode cX10_places 84 = .ok (.iconst 3, 1) := by decide +kernel
theorem dX10_places_85 : decode cX10_places 85 = .ok (.iconst 1, 1) := by decide +kernel
theorem dX10_places_86 : decode cX10_places 86 = .ok (.invokevirtual 271, 3) := by decide +kernel
theorem dX10_places_89 : decode cX10_places 89 = .ok (.aload_n 0, 1) := by decide +kernel
theorem dX10_places_90 : decode cX10_places 90 = .ok (.iload_n 2, 1) := by decide +kernel
theorem dX10_places_91 : decode cX10_places 91 = .ok (.iconst 4, 1) := by decide +kernel
theorem dX10_places_92 : decode cX10_places 92 = .ok (.aload_n 0, 1) := by decide +kernel
theorem dX10_places_93 : decode cX10_places 93 = .ok (.getfield 9, 3) := by decide +kernel
theorem dX10_places_96 : decode cX10_places 96 = .ok (.bipush 23, 2) := by decide +kernel
theorem dX10_places_98 : decode cX10_places 98 = .ok (.iaload, 1) := by decide +kernel
theorem dX10_places_99 : decode cX10_places 99 = .ok (.invokevirtual 271, 3) := by decide +kernel
theorem dX10_places_102 : decode cX10_places 102 = .ok (.aload_n 0, 1) := by decide +kernel
theorem dX10_places_103 : decode cX10_places 103 = .ok (.iload_n 2, 1) := by decide +kernel
theorem dX10_places_104 : decode cX10_places 104 = .ok (.iconst 5, 1) := by decide +kernel
theorem dX10_places_105 : decode cX10_places 105 = .ok (.iload_n 1, 1) := by decide +kernel
theorem dX10_places_106 : decode cX10_places 106 = .ok (.invokevirtual 271, 3) := by decide +kernel
theorem dX10_places_109 : decode cX10_places 109 = .ok (.aload_n 0, 1) := by decide +kernel
theorem dX10_places_110 : decode cX10_places 110 = .ok (.iload_n 3, 1) := by decide +kernel
theorem dX10_places_111 : decode cX10_places 111 = .ok (.iconst 1, 1) := by decide +kernel
theorem dX10_places_112 : decode cX10_places 112 = .ok (.iconst 1, 1) := by decide +kernel
theorem dX10_places_113 : decode cX10_places 113 = .ok (.invokevirtual 241, 3) := by decide +kernel
theorem dX10_places_116 : decode cX10_places 116 = .ok (.aload_n 0, 1) := by decide +kernel
theorem dX10_places_117 : decode cX10_places 117 = .ok (.iload_n 1, 1) := by decide +kernel
theorem dX10_places_118 : decode cX10_places 118 = .ok (.iconst 4, 1) := by decide +kernel
theorem dX10_places_119 : decode cX10_places 119 = .ok (.aload_n 0, 1) := by decide +kernel
theorem dX10_places_120 : decode cX10_places 120 = .ok (.iload_n 1, 1) := by decide +kernel
theorem dX10_places_121 : decode cX10_places 121 = .ok (.iconst 4, 1) := by decide +kernel
theorem dX10_places_122 : decode cX10_places 122 = .ok (.invokevirtual 216, 3) := by decide +kernel
theorem dX10_places_125 : decode cX10_places 125 = .ok (.iconst 1, 1) := by decide +kernel
theorem dX10_places_126 : decode cX10_places 126 = .ok (.iadd, 1) := by decide +kernel
theorem dX10_places_127 : decode cX10_places 127 = .ok (.invokevirtual 304, 3) := by decide +kernel
theorem dX10_places_130 : decode cX10_places 130 = .ok (.aload_n 0, 1) := by decide +kernel
theorem dX10_places_131 : decode cX10_places 131 = .ok (.iload_n 1, 1) := by decide +kernel
theorem dX10_places_132 : decode cX10_places 132 = .ok (.invokevirtual 320, 3) := by decide +kernel
theorem dX10_places_135 : decode cX10_places 135 = .ok (.aload_n 0, 1) := by decide +kernel
theorem dX10_places_136 : decode cX10_places 136 = .ok (.iconst 4, 1) := by decide +kernel
theorem dX10_places_137 : decode cX10_places 137 = .ok (.iload_n 1, 1) := by decide +kernel
theorem dX10_places_138 : decode cX10_places 138 = .ok (.iload_n 2, 1) := by decide +kernel
theorem dX10_places_139 : decode cX10_places 139 = .ok (.iconst 1, 1) := by decide +kernel
theorem dX10_places_140 : decode cX10_places 140 = .ok (.invokevirtual 307, 3) := by decide +kernel
theorem dX10_places_143 : decode cX10_places 143 = .ok (.ireturn, 1) := by decide +kernel
theorem dX10_discards_0 : decode cX10_discards 0 = .ok (.aload_n 0, 1) := by decide +kernel
theorem dX10_discards_1 : decode cX10_discards 1 = .ok (.iload_n 1, 1) := by decide +kernel
theorem dX10_discards_2 : decode cX10_discards 2 = .ok (.iconst 1, 1) := by decide +kernel
theorem dX10_discards_3 : decode cX10_discards 3 = .ok (.invokevirtual 216, 3) := by decide +kernel
theorem dX10_discards_6 : decode cX10_discards 6 = .ok (.iconst (-1), 1) := by decide +kernel
theorem dX10_discards_7 : decode cX10_discards 7 = .ok (.if_icmp .ne 6, 3) := by decide +kernel
theorem dX10_discards_10 : decode cX10_discards 10 = .ok (.bipush (-3), 2) := by decide +kernel
theorem dX10_discards_12 : decode cX10_discards 12 = .ok (.ireturn, 1) := by decide +kernel
theorem dX10_discards_13 : decode cX10_discards 13 = .ok (.aload_n 0, 1) := by decide +kernel
theorem dX10_discards_14 : decode cX10_discards 14 = .ok (.iload_n 1, 1) := by decide +kernel
theorem dX10_discards_15 : decode cX10_discards 15 = .ok (.invokevirtual 323, 3) := by decide +kernel
theorem dX10_discards_18 : decode cX10_discards 18 = .ok (.aload_n 0, 1) := by decide +kernel
theorem dX10_discards_19 : decode cX10_discards 19 = .ok (.iconst 5, 1) := by decide +kernel
theorem dX10_discards_20 : decode cX10_discards 20 = .ok (.iload_n 1, 1) := by decide +kernel
theorem dX10_discards_21 : decode cX10_discards 21 = .ok (.iconst 0, 1) := by decide +kernel
theorem dX10_discards_22 : decode cX10_discards 22 = .ok (.iconst 1, 1) := by decide +kernel
theorem dX10_discards_23 : decode cX10_discards 23 = .ok (.invokevirtual 307, 3) := by decide +kernel
theorem dX10_discards_26 : decode cX10_discards 26 = .ok (.ireturn, 1) := by decide +kernel
theorem dX10_changeNozzle_0 : decode cX10_changeNozzle 0 = .ok (.aload_n 0, 1) := by decide +kernel
theorem dX10_changeNozzle_1 : decode cX10_changeNozzle 1 = .ok (.iload_n 1, 1) := by decide +kernel
theorem dX10_changeNozzle_2 : decode cX10_changeNozzle 2 = .ok (.invokevirtual 213, 3) := by decide +kernel
theorem dX10_changeNozzle_5 : decode cX10_changeNozzle 5 = .ok (.ifCond .ne 24, 3) := by decide +kernel
theorem dX10_changeNozzle_8 : decode cX10_changeNozzle 8 = .ok (.aload_n 0, 1) := by decide +kernel
theorem dX10_changeNozzle_9 : decode cX10_changeNozzle 9 = .ok (.aload_n 0, 1) := by decide +kernel
theorem dX10_changeNozzle_10 : decode cX10_changeNozzle 10 = .ok (.iload_n 2, 1) := by decide +kernel
theorem dX10_changeNozzle_11 : decode cX10_changeNozzle 11 = .ok (.invokevirtual 220, 3) := by decide +kernel
theorem dX10_changeNozzle_14 : decode cX10_changeNozzle 14 = .ok (.ifCond .ne 7, 3) := by decide +kernel
theorem dX10_changeNozzle_17 : decode cX10_changeNozzle 17 = .ok (.iconst 1, 1) := by decide +kernel
theorem dX10_changeNozzle_18 : decode cX10_changeNozzle 18 = .ok (.goto 4, 3) := by decide +kernel
theorem dX10_changeNozzle_21 : decode cX10_changeNozzle 21 = .ok (.iconst 0, 1) := by decide +kernel
theorem dX10_changeNozzle_22 : decode cX10_changeNozzle 22 = .ok (.iconst 1, 1) := by decide +kernel
theorem dX10_changeNozzle_23 : decode cX10_changeNozzle 23 = .ok (.invokevirtual 200, 3) := by decide +kernel
theorem dX10_changeNozzle_26 : decode cX10_changeNozzle 26 = .ok (.ifCond .eq 7, 3) := by decide +kernel
theorem dX10_changeNozzle_29 : decode cX10_changeNozzle 29 = .ok (.iconst 0, 1) := by decide +kernel
theorem dX10_changeNozzle_30 : decode cX10_changeNozzle 30 = .ok (.goto 9, 3) := by decide +kernel
theorem dX10_changeNozzle_33 : decode cX10_changeNozzle 33 = .ok (.aload_n 0, 1) := by decide +kernel
theorem dX10_changeNozzle_34 : decode cX10_changeNozzle 34 = .ok (.iload_n 1, 1) := by decide +kernel
theorem dX10_changeNozzle_35 : decode cX10_changeNozzle 35 = .ok (.iload_n 2, 1) := by decide +kernel
theorem dX10_changeNozzle_36 : decode cX10_changeNozzle 36 = .ok (.invokevirtual 326, 3) := by decide +kernel
theorem dX10_changeNozzle_39 : decode cX10_changeNozzle 39 = .ok (.ireturn, 1) := by decide +kernel
theorem dX10_pick_0 : decode cX10_pick 0 = .ok (.aload_n 0, 1) := by decide +kernel
theorem dX10_pick_1 : decode cX10_pick 1 = .ok (.iload_n 1, 1) := by decide +kernel
theorem dX10_pick_2 : decode cX10_pick 2 = .ok (.invokevirtual 213, 3) := by decide +kernel
theorem dX10_pick_5 : decode cX10_pick 5 = .ok (.ifCond .ne 24, 3) := by decide +kernel
theorem dX10_pick_8 : decode cX10_pick 8 = .ok (.aload_n 0, 1) := by decide +kernel
theorem dX10_pick_9 : decode cX10_pick 9 = .ok (.aload_n 0, 1) := by decide +kernel
theorem dX10_pick_10 : decode cX10_pick 10 = .ok (.iload_n 2, 1) := by decide +kernel
theorem dX10_pick_11 : decode cX10_pick 11 = .ok (.invokevirtual 226, 3) := by decide +kernel
theorem dX10_pick_14 : decode cX10_pick 14 = .ok (.ifCond .ne 7, 3) := by decide +kernel
theorem dX10_pick_17 : decode cX10_pick 17 = .ok (.iconst 1, 1) := by decide +kernel
theorem dX10_pick_18 : decode cX10_pick 18 = .ok (.goto 4, 3) := by decide +kernel
theorem dX10_pick_21 : decode cX10_pick 21 = .ok (.iconst 0, 1) := by decide +kernel
theorem dX10_pick_22 : decode cX10_pick 22 = .ok (.iconst 1, 1) := by decide +kernel
theorem dX10_pick_23 : decode cX10_pick 23 = .ok (.invokevirtual 200, 3) := by decide +kernel
theorem dX10_pick_26 : decode cX10_pick 26 = .ok (.ifCond .eq 7, 3) := by decide +kernel
theorem dX10_pick_29 : decode cX10_pick 29 = .ok (.iconst 0, 1) := by decide +kernel
theorem dX10_pick_30 : decode cX10_pick 30 = .ok (.goto 9, 3) := by decide +kernel
theorem dX10_pick_33 : decode cX10_pick 33 = .ok (.aload_n 0, 1) := by decide +kernel
theorem dX10_pick_34 : decode cX10_pick 34 = .ok (.iload_n 1, 1) := by decide +kernel
theorem dX10_pick_35 : decode cX10_pick 35 = .ok (.iload_n 2, 1) := by decide +kernel
theorem dX10_pick_36 : decode cX10_pick 36 = .ok (.invokevirtual 329, 3) := by decide +kernel
theorem dX10_pick_39 : decode cX10_pick 39 = .ok (.ireturn, 1) := by decide +kernel
theorem dX10_look_0 : decode cX10_look 0 = .ok (.aload_n 0, 1) := by decide +kernel
theorem dX10_look_1 : decode cX10_look 1 = .ok (.iload_n 1, 1) := by decide +kernel
theorem dX10_look_2 : decode cX10_look 2 = .ok (.invokevirtual 213, 3) := by decide +kernel
theorem dX10_look_5 : decode cX10_look 5 = .ok (.ifCond .eq 7, 3) := by decide +kernel
theorem dX10_look_8 : decode cX10_look 8 = .ok (.iconst 0, 1) := by decide +kernel
theorem dX10_look_9 : decode cX10_look 9 = .ok (.goto 8, 3) := by decide +kernel
theorem dX10_look_12 : decode cX10_look 12 = .ok (.aload_n 0, 1) := by decide +kernel
theorem dX10_look_13 : decode cX10_look 13 = .ok (.iload_n 1, 1) := by decide +kernel
theorem dX10_look_14 : decode cX10_look 14 = .ok (.invokevirtual 332, 3) := by decide +kernel
theorem dX10_look_17 : decode cX10_look 17 = .ok (.ireturn, 1) := by decide +kernel
theorem dX10_place_0 : decode cX10_place 0 = .ok (.aload_n 0, 1) := by decide +kernel
theorem dX10_place_1 : decode cX10_place 1 = .ok (.iload_n 1, 1) := by decide +kernel
theorem dX10_place_2 : decode cX10_place 2 = .ok (.invokevirtual 213, 3) := by decide +kernel
theorem dX10_place_5 : decode cX10_place 5 = .ok (.ifCond .ne 24, 3) := by decide +kernel
theorem dX10_place_8 : decode cX10_place 8 = .ok (.aload_n 0, 1) := by decide +kernel
theorem dX10_place_9 : decode cX10_place 9 = .ok (.aload_n 0, 1) := by decide +kernel
theorem dX10_place_10 : decode cX10_place 10 = .ok (.iload_n 2, 1) := by decide +kernel
theorem dX10_place_11 : decode cX10_place 11 = .ok (.invokevirtual 262, 3) := by decide +kernel
theorem dX10_place_14 : decode cX10_place 14 = .ok (.ifCond .ne 7, 3) := by decide +kernel
theorem dX10_place_17 : decode cX10_place 17 = .ok (.iconst 1, 1) := by decide +kernel
theorem dX10_place_18 : decode cX10_place 18 = .ok (.goto 4, 3) := by decide +kernel
theorem dX10_place_21 : decode cX10_place 21 = .ok (.iconst 0, 1) := by decide +kernel
theorem dX10_place_22 : decode cX10_place 22 = .ok (.iconst 1, 1) := by decide +kernel
theorem dX10_place_23 : decode cX10_place 23 = .ok (.invokevirtual 200, 3) := by decide +kernel
theorem dX10_place_26 : decode cX10_place 26 = .ok (.ifCond .eq 7, 3) := by decide +kernel
theorem dX10_place_29 : decode cX10_place 29 = .ok (.iconst 0, 1) := by decide +kernel
theorem dX10_place_30 : decode cX10_place 30 = .ok (.goto 9, 3) := by decide +kernel
theorem dX10_place_33 : decode cX10_place 33 = .ok (.aload_n 0, 1) := by decide +kernel
theorem dX10_place_34 : decode cX10_place 34 = .ok (.iload_n 1, 1) := by decide +kernel
theorem dX10_place_35 : decode cX10_place 35 = .ok (.iload_n 2, 1) := by decide +kernel
theorem dX10_place_36 : decode cX10_place 36 = .ok (.invokevirtual 335, 3) := by decide +kernel
theorem dX10_place_39 : decode cX10_place 39 = .ok (.ireturn, 1) := by decide +kernel
theorem dX10_discard_0 : decode cX10_discard 0 = .ok (.aload_n 0, 1) := by decide +kernel
theorem dX10_discard_1 : decode cX10_discard 1 = .ok (.iload_n 1, 1) := by decide +kernel
theorem dX10_discard_2 : decode cX10_discard 2 = .ok (.invokevirtual 213, 3) := by decide +kernel
theorem dX10_discard_5 : decode cX10_discard 5 = .ok (.ifCond .eq 7, 3) := by decide +kernel
theorem dX10_discard_8 : decode cX10_discard 8 = .ok (.iconst 0, 1) := by decide +kernel
theorem dX10_discard_9 : decode cX10_discard 9 = .ok (.goto 8, 3) := by decide +kernel
theorem dX10_discard_12 : decode cX10_discard 12 = .ok (.aload_n 0, 1) := by decide +kernel
theorem dX10_discard_13 : decode cX10_discard 13 = .ok (.iload_n 1, 1) := by decide +kernel
theorem dX10_discard_14 : decode cX10_discard 14 = .ok (.invokevirtual 338, 3) := by decide +kernel
theorem dX10_discard_17 : decode cX10_discard 17 = .ok (.ireturn, 1) := by decide +kernel
theorem dX10_clean_0 : decode cX10_clean 0 = .ok (.aload_n 0, 1) := by decide +kernel
theorem dX10_clean_1 : decode cX10_clean 1 = .ok (.iload_n 1, 1) := by decide +kernel
theorem dX10_clean_2 : decode cX10_clean 2 = .ok (.invokevirtual 213, 3) := by decide +kernel
theorem dX10_clean_5 : decode cX10_clean 5 = .ok (.ifCond .eq 7, 3) := by decide +kernel
theorem dX10_clean_8 : decode cX10_clean 8 = .ok (.iconst 0, 1) := by decide +kernel
theorem dX10_clean_9 : decode cX10_clean 9 = .ok (.goto 8, 3) := by decide +kernel
theorem dX10_clean_12 : decode cX10_clean 12 = .ok (.aload_n 0, 1) := by decide +kernel
theorem dX10_clean_13 : decode cX10_clean 13 = .ok (.iload_n 1, 1) := by decide +kernel
theorem dX10_clean_14 : decode cX10_clean 14 = .ok (.invokevirtual 341, 3) := by decide +kernel
theorem dX10_clean_17 : decode cX10_clean 17 = .ok (.ireturn, 1) := by decide +kernel
theorem dX10_halts_0 : decode cX10_halts 0 = .ok (.aload_n 0, 1) := by decide +kernel
theorem dX10_halts_1 : decode cX10_halts 1 = .ok (.getfield 9, 3) := by decide +kernel
theorem dX10_halts_4 : decode cX10_halts 4 = .ok (.bipush 29, 2) := by decide +kernel
theorem dX10_halts_6 : decode cX10_halts 6 = .ok (.iaload, 1) := by decide +kernel
theorem dX10_halts_7 : decode cX10_halts 7 = .ok (.iconst 1, 1) := by decide +kernel
theorem dX10_halts_8 : decode cX10_halts 8 = .ok (.if_icmp .ne 7, 3) := by decide +kernel
theorem dX10_halts_11 : decode cX10_halts 11 = .ok (.iconst 1, 1) := by decide +kernel
theorem dX10_halts_12 : decode cX10_halts 12 = .ok (.goto 4, 3) := by decide +kernel
theorem dX10_halts_15 : decode cX10_halts 15 = .ok (.iconst 0, 1) := by decide +kernel
theorem dX10_halts_16 : decode cX10_halts 16 = .ok (.ireturn, 1) := by decide +kernel
theorem dX10_held_0 : decode cX10_held 0 = .ok (.iconst 0, 1) := by decide +kernel
theorem dX10_held_1 : decode cX10_held 1 = .ok (.istore_n 2, 1) := by decide +kernel
theorem dX10_held_2 : decode cX10_held 2 = .ok (.iconst 0, 1) := by decide +kernel
theorem dX10_held_3 : decode cX10_held 3 = .ok (.istore_n 3, 1) := by decide +kernel
theorem dX10_held_4 : decode cX10_held 4 = .ok (.iload_n 3, 1) := by decide +kernel
theorem dX10_held_5 : decode cX10_held 5 = .ok (.aload_n 0, 1) := by decide +kernel
theorem dX10_held_6 : decode cX10_held 6 = .ok (.getfield 9, 3) := by decide +kernel
theorem dX10_held_9 : decode cX10_held 9 = .ok (.bipush 15, 2) := by decide +kernel
theorem dX10_held_11 : decode cX10_held 11 = .ok (.iaload, 1) := by decide +kernel
theorem dX10_held_12 : decode cX10_held 12 = .ok (.if_icmp .ge 27, 3) := by decide +kernel
theorem dX10_held_15 : decode cX10_held 15 = .ok (.iload_n 2, 1) := by decide +kernel
theorem dX10_held_16 : decode cX10_held 16 = .ok (.aload_n 0, 1) := by decide +kernel
theorem dX10_held_17 : decode cX10_held 17 = .ok (.iload_n 3, 1) := by decide +kernel
theorem dX10_held_18 : decode cX10_held 18 = .ok (.iconst 1, 1) := by decide +kernel
theorem dX10_held_19 : decode cX10_held 19 = .ok (.invokevirtual 216, 3) := by decide +kernel
theorem dX10_held_22 : decode cX10_held 22 = .ok (.iload_n 1, 1) := by decide +kernel
theorem dX10_held_23 : decode cX10_held 23 = .ok (.if_icmp .ne 7, 3) := by decide +kernel
theorem dX10_held_26 : decode cX10_held 26 = .ok (.iconst 1, 1) := by decide +kernel
theorem dX10_held_27 : decode cX10_held 27 = .ok (.goto 4, 3) := by decide +kernel
theorem dX10_held_30 : decode cX10_held 30 = .ok (.iconst 0, 1) := by decide +kernel
theorem dX10_held_31 : decode cX10_held 31 = .ok (.iadd, 1) := by decide +kernel
theorem dX10_held_32 : decode cX10_held 32 = .ok (.istore_n 2, 1) := by decide +kernel
theorem dX10_held_33 : decode cX10_held 33 = .ok (.iinc 3 1, 3) := by decide +kernel
theorem dX10_held_36 : decode cX10_held 36 = .ok (.goto (-32), 3) := by decide +kernel
theorem dX10_held_39 : decode cX10_held 39 = .ok (.iload_n 2, 1) := by decide +kernel
theorem dX10_held_40 : decode cX10_held 40 = .ok (.ireturn, 1) := by decide +kernel
theorem dX10_isDue_0 : decode cX10_isDue 0 = .ok (.aload_n 0, 1) := by decide +kernel
theorem dX10_isDue_1 : decode cX10_isDue 1 = .ok (.iload_n 1, 1) := by decide +kernel
theorem dX10_isDue_2 : decode cX10_isDue 2 = .ok (.invokevirtual 259, 3) := by decide +kernel
theorem dX10_isDue_5 : decode cX10_isDue 5 = .ok (.iconst (-1), 1) := by decide +kernel
theorem dX10_isDue_6 : decode cX10_isDue 6 = .ok (.if_icmp .eq 20, 3) := by decide +kernel
theorem dX10_isDue_9 : decode cX10_isDue 9 = .ok (.aload_n 0, 1) := by decide +kernel
theorem dX10_isDue_10 : decode cX10_isDue 10 = .ok (.iload_n 1, 1) := by decide +kernel
theorem dX10_isDue_11 : decode cX10_isDue 11 = .ok (.invokevirtual 344, 3) := by decide +kernel
theorem dX10_isDue_14 : decode cX10_isDue 14 = .ok (.aload_n 0, 1) := by decide +kernel
theorem dX10_isDue_15 : decode cX10_isDue 15 = .ok (.iload_n 1, 1) := by decide +kernel
theorem dX10_isDue_16 : decode cX10_isDue 16 = .ok (.invokevirtual 347, 3) := by decide +kernel
theorem dX10_isDue_19 : decode cX10_isDue 19 = .ok (.if_icmp .le 7, 3) := by decide +kernel
theorem dX10_isDue_22 : decode cX10_isDue 22 = .ok (.iconst 1, 1) := by decide +kernel
theorem dX10_isDue_23 : decode cX10_isDue 23 = .ok (.goto 4, 3) := by decide +kernel
theorem dX10_isDue_26 : decode cX10_isDue 26 = .ok (.iconst 0, 1) := by decide +kernel
theorem dX10_isDue_27 : decode cX10_isDue 27 = .ok (.ireturn, 1) := by decide +kernel
theorem dX10_loads_0 : decode cX10_loads 0 = .ok (.iconst 0, 1) := by decide +kernel
theorem dX10_loads_1 : decode cX10_loads 1 = .ok (.istore_n 2, 1) := by decide +kernel
theorem dX10_loads_2 : decode cX10_loads 2 = .ok (.iload_n 2, 1) := by decide +kernel
theorem dX10_loads_3 : decode cX10_loads 3 = .ok (.aload_n 0, 1) := by decide +kernel
theorem dX10_loads_4 : decode cX10_loads 4 = .ok (.getfield 9, 3) := by decide +kernel
theorem dX10_loads_7 : decode cX10_loads 7 = .ok (.bipush 17, 2) := by decide +kernel
theorem dX10_loads_9 : decode cX10_loads 9 = .ok (.iaload, 1) := by decide +kernel
theorem dX10_loads_10 : decode cX10_loads 10 = .ok (.if_icmp .ge 69, 3) := by decide +kernel
theorem dX10_loads_13 : decode cX10_loads 13 = .ok (.aload_n 0, 1) := by decide +kernel
theorem dX10_loads_14 : decode cX10_loads 14 = .ok (.getfield 9, 3) := by decide +kernel
theorem dX10_loads_17 : decode cX10_loads 17 = .ok (.bipush 50, 2) := by decide +kernel
theorem dX10_loads_19 : decode cX10_loads 19 = .ok (.iload_n 2, 1) := by decide +kernel
theorem dX10_loads_20 : decode cX10_loads 20 = .ok (.iadd, 1) := by decide +kernel
theorem dX10_loads_21 : decode cX10_loads 21 = .ok (.iaload, 1) := by decide +kernel
theorem dX10_loads_22 : decode cX10_loads 22 = .ok (.aload_n 0, 1) := by decide +kernel
theorem dX10_loads_23 : decode cX10_loads 23 = .ok (.iload_n 1, 1) := by decide +kernel
theorem dX10_loads_24 : decode cX10_loads 24 = .ok (.iconst 0, 1) := by decide +kernel
theorem dX10_loads_25 : decode cX10_loads 25 = .ok (.invokevirtual 216, 3) := by decide +kernel
theorem dX10_loads_28 : decode cX10_loads 28 = .ok (.if_icmp .ne 45, 3) := by decide +kernel
theorem dX10_loads_31 : decode cX10_loads 31 = .ok (.aload_n 0, 1) := by decide +kernel
theorem dX10_loads_32 : decode cX10_loads 32 = .ok (.iload_n 2, 1) := by decide +kernel
theorem dX10_loads_33 : decode cX10_loads 33 = .ok (.invokevirtual 350, 3) := by decide +kernel
theorem dX10_loads_36 : decode cX10_loads 36 = .ok (.ifCond .eq 37, 3) := by decide +kernel
theorem dX10_loads_39 : decode cX10_loads 39 = .ok (.aload_n 0, 1) := by decide +kernel
theorem dX10_loads_40 : decode cX10_loads 40 = .ok (.iload_n 1, 1) := by decide +kernel
theorem dX10_loads_41 : decode cX10_loads 41 = .ok (.invokevirtual 317, 3) := by decide +kernel
theorem dX10_loads_44 : decode cX10_loads 44 = .ok (.ifCond .eq 14, 3) := by decide +kernel
theorem dX10_loads_47 : decode cX10_loads 47 = .ok (.ldc_w 353, 3) := by decide +kernel
theorem dX10_loads_50 : decode cX10_loads 50 = .ok (.bipush 100, 2) := by decide +kernel
theorem dX10_loads_52 : decode cX10_loads 52 = .ok (.iload_n 1, 1) := by decide +kernel
theorem dX10_loads_53 : decode cX10_loads 53 = .ok (.imul, 1) := by decide +kernel
theorem dX10_loads_54 : decode cX10_loads 54 = .ok (.iadd, 1) := by decide +kernel
theorem dX10_loads_55 : decode cX10_loads 55 = .ok (.goto 17, 3) := by decide +kernel
theorem dX10_loads_58 : decode cX10_loads 58 = .ok (.sipush 20000, 3) := by decide +kernel
theorem dX10_loads_61 : decode cX10_loads 61 = .ok (.bipush 100, 2) := by decide +kernel
theorem dX10_loads_63 : decode cX10_loads 63 = .ok (.iload_n 1, 1) := by decide +kernel
theorem dX10_loads_64 : decode cX10_loads 64 = .ok (.imul, 1) := by decide +kernel
theorem dX10_loads_65 : decode cX10_loads 65 = .ok (.iadd, 1) := by decide +kernel
theorem dX10_loads_66 : decode cX10_loads 66 = .ok (.aload_n 0, 1) := by decide +kernel
theorem dX10_loads_67 : decode cX10_loads 67 = .ok (.iload_n 2, 1) := by decide +kernel
theorem dX10_loads_68 : decode cX10_loads 68 = .ok (.invokevirtual 259, 3) := by decide +kernel
theorem dX10_loads_71 : decode cX10_loads 71 = .ok (.iadd, 1) := by decide +kernel
theorem dX10_loads_72 : decode cX10_loads 72 = .ok (.ireturn, 1) := by decide +kernel
theorem dX10_loads_73 : decode cX10_loads 73 = .ok (.iinc 2 1, 3) := by decide +kernel
theorem dX10_loads_76 : decode cX10_loads 76 = .ok (.goto (-74), 3) := by decide +kernel
theorem dX10_loads_79 : decode cX10_loads 79 = .ok (.iconst 0, 1) := by decide +kernel
theorem dX10_loads_80 : decode cX10_loads 80 = .ok (.istore_n 2, 1) := by decide +kernel
theorem dX10_loads_81 : decode cX10_loads 81 = .ok (.iload_n 2, 1) := by decide +kernel
theorem dX10_loads_82 : decode cX10_loads 82 = .ok (.aload_n 0, 1) := by decide +kernel
theorem dX10_loads_83 : decode cX10_loads 83 = .ok (.getfield 9, 3) := by decide +kernel
theorem dX10_loads_86 : decode cX10_loads 86 = .ok (.bipush 17, 2) := by decide +kernel
theorem dX10_loads_88 : decode cX10_loads 88 = .ok (.iaload, 1) := by decide +kernel
theorem dX10_loads_89 : decode cX10_loads 89 = .ok (.if_icmp .ge 56, 3) := by decide +kernel
theorem dX10_loads_92 : decode cX10_loads 92 = .ok (.aload_n 0, 1) := by decide +kernel
theorem dX10_loads_93 : decode cX10_loads 93 = .ok (.getfield 9, 3) := by decide +kernel
theorem dX10_loads_96 : decode cX10_loads 96 = .ok (.bipush 44, 2) := by decide +kernel
theorem dX10_loads_98 : decode cX10_loads 98 = .ok (.aload_n 0, 1) := by decide +kernel
theorem dX10_loads_99 : decode cX10_loads 99 = .ok (.getfield 9, 3) := by decide +kernel
theorem dX10_loads_102 : decode cX10_loads 102 = .ok (.bipush 50, 2) := by decide +kernel
theorem dX10_loads_104 : decode cX10_loads 104 = .ok (.iload_n 2, 1) := by decide +kernel
theorem dX10_loads_105 : decode cX10_loads 105 = .ok (.iadd, 1) := by decide +kernel
theorem dX10_loads_106 : decode cX10_loads 106 = .ok (.iaload, 1) := by decide +kernel
theorem dX10_loads_107 : decode cX10_loads 107 = .ok (.iadd, 1) := by decide +kernel
theorem dX10_loads_108 : decode cX10_loads 108 = .ok (.iaload, 1) := by decide +kernel
theorem dX10_loads_109 : decode cX10_loads 109 = .ok (.ifCond .le 30, 3) := by decide +kernel
theorem dX10_loads_112 : decode cX10_loads 112 = .ok (.aload_n 0, 1) := by decide +kernel
theorem dX10_loads_113 : decode cX10_loads 113 = .ok (.iload_n 2, 1) := by decide +kernel
theorem dX10_loads_114 : decode cX10_loads 114 = .ok (.invokevirtual 350, 3) := by decide +kernel
theorem dX10_loads_117 : decode cX10_loads 117 = .ok (.ifCond .eq 22, 3) := by decide +kernel
theorem dX10_loads_120 : decode cX10_loads 120 = .ok (.sipush 10000, 3) := by decide +kernel
theorem dX10_loads_123 : decode cX10_loads 123 = .ok (.bipush 100, 2) := by decide +kernel
theorem dX10_loads_125 : decode cX10_loads 125 = .ok (.iload_n 1, 1) := by decide +kernel
theorem dX10_loads_126 : decode cX10_loads 126 = .ok (.imul, 1) := by decide +kernel
theorem dX10_loads_127 : decode cX10_loads 127 = .ok (.iadd, 1) := by decide +kernel
theorem dX10_loads_128 : decode cX10_loads 128 = .ok (.aload_n 0, 1) := by decide +kernel
theorem dX10_loads_129 : decode cX10_loads 129 = .ok (.getfield 9, 3) := by decide +kernel
theorem dX10_loads_132 : decode cX10_loads 132 = .ok (.bipush 50, 2) := by decide +kernel
theorem dX10_loads_134 : decode cX10_loads 134 = .ok (.iload_n 2, 1) := by decide +kernel
theorem dX10_loads_135 : decode cX10_loads 135 = .ok (.iadd, 1) := by decide +kernel
theorem dX10_loads_136 : decode cX10_loads 136 = .ok (.iaload, 1) := by decide +kernel
theorem dX10_loads_137 : decode cX10_loads 137 = .ok (.iadd, 1) := by decide +kernel
theorem dX10_loads_138 : decode cX10_loads 138 = .ok (.ireturn, 1) := by decide +kernel
theorem dX10_loads_139 : decode cX10_loads 139 = .ok (.iinc 2 1, 3) := by decide +kernel
theorem dX10_loads_142 : decode cX10_loads 142 = .ok (.goto (-61), 3) := by decide +kernel
theorem dX10_loads_145 : decode cX10_loads 145 = .ok (.iconst (-1), 1) := by decide +kernel
theorem dX10_loads_146 : decode cX10_loads 146 = .ok (.ireturn, 1) := by decide +kernel
theorem dX10_bestSpot_0 : decode cX10_bestSpot 0 = .ok (.iconst (-1), 1) := by decide +kernel
theorem dX10_bestSpot_1 : decode cX10_bestSpot 1 = .ok (.istore_n 2, 1) := by decide +kernel
theorem dX10_bestSpot_2 : decode cX10_bestSpot 2 = .ok (.iconst 0, 1) := by decide +kernel
theorem dX10_bestSpot_3 : decode cX10_bestSpot 3 = .ok (.istore_n 3, 1) := by decide +kernel
theorem dX10_bestSpot_4 : decode cX10_bestSpot 4 = .ok (.iconst 0, 1) := by decide +kernel
theorem dX10_bestSpot_5 : decode cX10_bestSpot 5 = .ok (.istore 4, 2) := by decide +kernel
theorem dX10_bestSpot_7 : decode cX10_bestSpot 7 = .ok (.iload 4, 2) := by decide +kernel
theorem dX10_bestSpot_9 : decode cX10_bestSpot 9 = .ok (.aload_n 0, 1) := by decide +kernel
theorem dX10_bestSpot_10 : decode cX10_bestSpot 10 = .ok (.getfield 9, 3) := by decide +kernel
theorem dX10_bestSpot_13 : decode cX10_bestSpot 13 = .ok (.bipush 19, 2) := by decide +kernel
theorem dX10_bestSpot_15 : decode cX10_bestSpot 15 = .ok (.iaload, 1) := by decide +kernel
theorem dX10_bestSpot_16 : decode cX10_bestSpot 16 = .ok (.if_icmp .ge 72, 3) := by decide +kernel
theorem dX10_bestSpot_19 : decode cX10_bestSpot 19 = .ok (.aload_n 0, 1) := by decide +kernel
theorem dX10_bestSpot_20 : decode cX10_bestSpot 20 = .ok (.iload 4, 2) := by decide +kernel
theorem dX10_bestSpot_22 : decode cX10_bestSpot 22 = .ok (.iconst 0, 1) := by decide +kernel
theorem dX10_bestSpot_23 : decode cX10_bestSpot 23 = .ok (.invokevirtual 268, 3) := by decide +kernel
theorem dX10_bestSpot_26 : decode cX10_bestSpot 26 = .ok (.iload_n 1, 1) := by decide +kernel
theorem dX10_bestSpot_27 : decode cX10_bestSpot 27 = .ok (.if_icmp .ne 55, 3) := by decide +kernel
theorem dX10_bestSpot_30 : decode cX10_bestSpot 30 = .ok (.aload_n 0, 1) := by decide +kernel
theorem dX10_bestSpot_31 : decode cX10_bestSpot 31 = .ok (.iload 4, 2) := by decide +kernel
theorem dX10_bestSpot_33 : decode cX10_bestSpot 33 = .ok (.invokevirtual 281, 3) := by decide +kernel
theorem dX10_bestSpot_36 : decode cX10_bestSpot 36 = .ok (.ifCond .ne 6, 3) := by decide +kernel
theorem dX10_bestSpot_39 : decode cX10_bestSpot 39 = .ok (.goto 43, 3) := by decide +kernel
theorem dX10_bestSpot_42 : decode cX10_bestSpot 42 = .ok (.aload_n 0, 1) := by decide +kernel
theorem dX10_bestSpot_43 : decode cX10_bestSpot 43 = .ok (.aload_n 0, 1) := by decide +kernel
theorem dX10_bestSpot_44 : decode cX10_bestSpot 44 = .ok (.iload 4, 2) := by decide +kernel
theorem dX10_bestSpot_46 : decode cX10_bestSpot 46 = .ok (.iconst 1, 1) := by decide +kernel
theorem dX10_bestSpot_47 : decode cX10_bestSpot 47 = .ok (.invokevirtual 268, 3) := by decide +kernel
theorem dX10_bestSpot_50 : decode cX10_bestSpot 50 = .ok (.aload_n 0, 1) := by decide +kernel
theorem dX10_bestSpot_51 : decode cX10_bestSpot 51 = .ok (.iload 4, 2) := by decide +kernel
theorem dX10_bestSpot_53 : decode cX10_bestSpot 53 = .ok (.iconst 2, 1) := by decide +kernel
theorem dX10_bestSpot_54 : decode cX10_bestSpot 54 = .ok (.invokevirtual 268, 3) := by decide +kernel
theorem dX10_bestSpot_57 : decode cX10_bestSpot 57 = .ok (.invokevirtual 290, 3) := by decide +kernel
theorem dX10_bestSpot_60 : decode cX10_bestSpot 60 = .ok (.istore 5, 2) := by decide +kernel
theorem dX10_bestSpot_62 : decode cX10_bestSpot 62 = .ok (.iload_n 2, 1) := by decide +kernel
theorem dX10_bestSpot_63 : decode cX10_bestSpot 63 = .ok (.iconst (-1), 1) := by decide +kernel
theorem dX10_bestSpot_64 : decode cX10_bestSpot 64 = .ok (.if_icmp .eq 12, 3) := by decide +kernel
theorem dX10_bestSpot_67 : decode cX10_bestSpot 67 = .ok (.iload 5, 2) := by decide +kernel
theorem dX10_bestSpot_69 : decode cX10_bestSpot 69 = .ok (.iload_n 3, 1) := by decide +kernel
theorem dX10_bestSpot_70 : decode cX10_bestSpot 70 = .ok (.if_icmp .lt 6, 3) := by decide +kernel
theorem dX10_bestSpot_73 : decode cX10_bestSpot 73 = .ok (.goto 9, 3) := by decide +kernel
theorem dX10_bestSpot_76 : decode cX10_bestSpot 76 = .ok (.iload 4, 2) := by decide +kernel
theorem dX10_bestSpot_78 : decode cX10_bestSpot 78 = .ok (.istore_n 2, 1) := by decide +kernel
theorem dX10_bestSpot_79 : decode cX10_bestSpot 79 = .ok (.iload 5, 2) := by decide +kernel
theorem dX10_bestSpot_81 : decode cX10_bestSpot 81 = .ok (.istore_n 3, 1) := by decide +kernel
theorem dX10_bestSpot_82 : decode cX10_bestSpot 82 = .ok (.iinc 4 1, 3) := by decide +kernel
theorem dX10_bestSpot_85 : decode cX10_bestSpot 85 = .ok (.goto (-78), 3) := by decide +kernel
theorem dX10_bestSpot_88 : decode cX10_bestSpot 88 = .ok (.iload_n 2, 1) := by decide +kernel
theorem dX10_bestSpot_89 : decode cX10_bestSpot 89 = .ok (.ireturn, 1) := by decide +kernel
theorem dX10_next_0 : decode cX10_next 0 = .ok (.aload_n 0, 1) := by decide +kernel
theorem dX10_next_1 : decode cX10_next 1 = .ok (.invokevirtual 354, 3) := by decide +kernel
theorem dX10_next_4 : decode cX10_next 4 = .ok (.ifCond .eq 5, 3) := by decide +kernel
theorem dX10_next_7 : decode cX10_next 7 = .ok (.iconst (-1), 1) := by decide +kernel
theorem dX10_next_8 : decode cX10_next 8 = .ok (.ireturn, 1) := by decide +kernel
theorem dX10_next_9 : decode cX10_next 9 = .ok (.iconst 0, 1) := by decide +kernel
theorem dX10_next_10 : decode cX10_next 10 = .ok (.istore_n 1, 1) := by decide +kernel
theorem dX10_next_11 : decode cX10_next 11 = .ok (.iload_n 1, 1) := by decide +kernel
theorem dX10_next_12 : decode cX10_next 12 = .ok (.aload_n 0, 1) := by decide +kernel
theorem dX10_next_13 : decode cX10_next 13 = .ok (.getfield 9, 3) := by decide +kernel
theorem dX10_next_16 : decode cX10_next 16 = .ok (.bipush 15, 2) := by decide +kernel
theorem dX10_next_18 : decode cX10_next 18 = .ok (.iaload, 1) := by decide +kernel
theorem dX10_next_19 : decode cX10_next 19 = .ok (.if_icmp .ge 36, 3) := by decide +kernel
theorem dX10_next_22 : decode cX10_next 22 = .ok (.aload_n 0, 1) := by decide +kernel
theorem dX10_next_23 : decode cX10_next 23 = .ok (.iload_n 1, 1) := by decide +kernel
theorem dX10_next_24 : decode cX10_next 24 = .ok (.iconst 1, 1) := by decide +kernel
theorem dX10_next_25 : decode cX10_next 25 = .ok (.invokevirtual 216, 3) := by decide +kernel
theorem dX10_next_28 : decode cX10_next 28 = .ok (.iconst (-1), 1) := by decide +kernel
theorem dX10_next_29 : decode cX10_next 29 = .ok (.if_icmp .ne 11, 3) := by decide +kernel
theorem dX10_next_32 : decode cX10_next 32 = .ok (.aload_n 0, 1) := by decide +kernel
theorem dX10_next_33 : decode cX10_next 33 = .ok (.iload_n 1, 1) := by decide +kernel
theorem dX10_next_34 : decode cX10_next 34 = .ok (.invokevirtual 357, 3) := by decide +kernel
theorem dX10_next_37 : decode cX10_next 37 = .ok (.goto 4, 3) := by decide +kernel
theorem dX10_next_40 : decode cX10_next 40 = .ok (.iconst (-1), 1) := by decide +kernel
theorem dX10_next_41 : decode cX10_next 41 = .ok (.istore_n 2, 1) := by decide +kernel
theorem dX10_next_42 : decode cX10_next 42 = .ok (.iload_n 2, 1) := by decide +kernel
theorem dX10_next_43 : decode cX10_next 43 = .ok (.iconst (-1), 1) := by decide +kernel
theorem dX10_next_44 : decode cX10_next 44 = .ok (.if_icmp .eq 5, 3) := by decide +kernel
theorem dX10_next_47 : decode cX10_next 47 = .ok (.iload_n 2, 1) := by decide +kernel
theorem dX10_next_48 : decode cX10_next 48 = .ok (.ireturn, 1) := by decide +kernel
theorem dX10_next_49 : decode cX10_next 49 = .ok (.iinc 1 1, 3) := by decide +kernel
theorem dX10_next_52 : decode cX10_next 52 = .ok (.goto (-41), 3) := by decide +kernel
theorem dX10_next_55 : decode cX10_next 55 = .ok (.iconst 0, 1) := by decide +kernel
theorem dX10_next_56 : decode cX10_next 56 = .ok (.istore_n 1, 1) := by decide +kernel
theorem dX10_next_57 : decode cX10_next 57 = .ok (.iload_n 1, 1) := by decide +kernel
theorem dX10_next_58 : decode cX10_next 58 = .ok (.aload_n 0, 1) := by decide +kernel
theorem dX10_next_59 : decode cX10_next 59 = .ok (.getfield 9, 3) := by decide +kernel
theorem dX10_next_62 : decode cX10_next 62 = .ok (.bipush 15, 2) := by decide +kernel
theorem dX10_next_64 : decode cX10_next 64 = .ok (.iaload, 1) := by decide +kernel
theorem dX10_next_65 : decode cX10_next 65 = .ok (.if_icmp .ge 37, 3) := by decide +kernel
theorem dX10_next_68 : decode cX10_next 68 = .ok (.aload_n 0, 1) := by decide +kernel
theorem dX10_next_69 : decode cX10_next 69 = .ok (.iload_n 1, 1) := by decide +kernel
theorem dX10_next_70 : decode cX10_next 70 = .ok (.iconst 1, 1) := by decide +kernel
theorem dX10_next_71 : decode cX10_next 71 = .ok (.invokevirtual 216, 3) := by decide +kernel
theorem dX10_next_74 : decode cX10_next 74 = .ok (.iconst (-1), 1) := by decide +kernel
theorem dX10_next_75 : decode cX10_next 75 = .ok (.if_icmp .eq 21, 3) := by decide +kernel
theorem dX10_next_78 : decode cX10_next 78 = .ok (.aload_n 0, 1) := by decide +kernel
theorem dX10_next_79 : decode cX10_next 79 = .ok (.iload_n 1, 1) := by decide +kernel
theorem dX10_next_80 : decode cX10_next 80 = .ok (.iconst 2, 1) := by decide +kernel
theorem dX10_next_81 : decode cX10_next 81 = .ok (.invokevirtual 216, 3) := by decide +kernel
theorem dX10_next_84 : decode cX10_next 84 = .ok (.ifCond .ne 12, 3) := by decide +kernel
theorem dX10_next_87 : decode cX10_next 87 = .ok (.sipush 30000, 3) := by decide +kernel
theorem dX10_next_90 : decode cX10_next 90 = .ok (.bipush 100, 2) := by decide +kernel
theorem dX10_next_92 : decode cX10_next 92 = .ok (.iload_n 1, 1) := by decide +kernel
theorem dX10_next_93 : decode cX10_next 93 = .ok (.imul, 1) := by decide +kernel
theorem dX10_next_94 : decode cX10_next 94 = .ok (.iadd, 1) := by decide +kernel
theorem dX10_next_95 : decode cX10_next 95 = .ok (.ireturn, 1) := by decide +kernel
theorem dX10_next_96 : decode cX10_next 96 = .ok (.iinc 1 1, 3) := by decide +kernel
theorem dX10_next_99 : decode cX10_next 99 = .ok (.goto (-42), 3) := by decide +kernel
theorem dX10_next_102 : decode cX10_next 102 = .ok (.iconst 0, 1) := by decide +kernel
theorem dX10_next_103 : decode cX10_next 103 = .ok (.istore_n 1, 1) := by decide +kernel
theorem dX10_next_104 : decode cX10_next 104 = .ok (.iload_n 1, 1) := by decide +kernel
theorem dX10_next_105 : decode cX10_next 105 = .ok (.aload_n 0, 1) := by decide +kernel
theorem dX10_next_106 : decode cX10_next 106 = .ok (.getfield 9, 3) := by decide +kernel
theorem dX10_next_109 : decode cX10_next 109 = .ok (.bipush 15, 2) := by decide +kernel
theorem dX10_next_111 : decode cX10_next 111 = .ok (.iaload, 1) := by decide +kernel
theorem dX10_next_112 : decode cX10_next 112 = .ok (.if_icmp .ge 60, 3) := by decide +kernel
theorem dX10_next_115 : decode cX10_next 115 = .ok (.aload_n 0, 1) := by decide +kernel
theorem dX10_next_116 : decode cX10_next 116 = .ok (.iload_n 1, 1) := by decide +kernel
theorem dX10_next_117 : decode cX10_next 117 = .ok (.iconst 1, 1) := by decide +kernel
theorem dX10_next_118 : decode cX10_next 118 = .ok (.invokevirtual 216, 3) := by decide +kernel
theorem dX10_next_121 : decode cX10_next 121 = .ok (.iconst (-1), 1) := by decide +kernel
theorem dX10_next_122 : decode cX10_next 122 = .ok (.if_icmp .ne 6, 3) := by decide +kernel
theorem dX10_next_125 : decode cX10_next 125 = .ok (.goto 41, 3) := by decide +kernel
theorem dX10_next_128 : decode cX10_next 128 = .ok (.aload_n 0, 1) := by decide +kernel
theorem dX10_next_129 : decode cX10_next 129 = .ok (.aload_n 0, 1) := by decide +kernel
theorem dX10_next_130 : decode cX10_next 130 = .ok (.iload_n 1, 1) := by decide +kernel
theorem dX10_next_131 : decode cX10_next 131 = .ok (.iconst 1, 1) := by decide +kernel
theorem dX10_next_132 : decode cX10_next 132 = .ok (.invokevirtual 216, 3) := by decide +kernel
theorem dX10_next_135 : decode cX10_next 135 = .ok (.invokevirtual 360, 3) := by decide +kernel
theorem dX10_next_138 : decode cX10_next 138 = .ok (.istore_n 2, 1) := by decide +kernel
theorem dX10_next_139 : decode cX10_next 139 = .ok (.iload_n 2, 1) := by decide +kernel
theorem dX10_next_140 : decode cX10_next 140 = .ok (.iconst (-1), 1) := by decide +kernel
theorem dX10_next_141 : decode cX10_next 141 = .ok (.if_icmp .ne 14, 3) := by decide +kernel
theorem dX10_next_144 : decode cX10_next 144 = .ok (.ldc_w 363, 3) := by decide +kernel
theorem dX10_next_147 : decode cX10_next 147 = .ok (.bipush 100, 2) := by decide +kernel
theorem dX10_next_149 : decode cX10_next 149 = .ok (.iload_n 1, 1) := by decide +kernel
theorem dX10_next_150 : decode cX10_next 150 = .ok (.imul, 1) := by decide +kernel
theorem dX10_next_151 : decode cX10_next 151 = .ok (.iadd, 1) := by decide +kernel
theorem dX10_next_152 : decode cX10_next 152 = .ok (.goto 13, 3) := by decide +kernel
theorem dX10_next_155 : decode cX10_next 155 = .ok (.ldc_w 364, 3) := by decide +kernel
theorem dX10_next_158 : decode cX10_next 158 = .ok (.bipush 100, 2) := by decide +kernel
theorem dX10_next_160 : decode cX10_next 160 = .ok (.iload_n 1, 1) := by decide +kernel
theorem dX10_next_161 : decode cX10_next 161 = .ok (.imul, 1) := by decide +kernel
theorem dX10_next_162 : decode cX10_next 162 = .ok (.iadd, 1) := by decide +kernel
theorem dX10_next_163 : decode cX10_next 163 = .ok (.iload_n 2, 1) := by decide +kernel
theorem dX10_next_164 : decode cX10_next 164 = .ok (.iadd, 1) := by decide +kernel
theorem dX10_next_165 : decode cX10_next 165 = .ok (.ireturn, 1) := by decide +kernel
theorem dX10_next_166 : decode cX10_next 166 = .ok (.iinc 1 1, 3) := by decide +kernel
theorem dX10_next_169 : decode cX10_next 169 = .ok (.goto (-65), 3) := by decide +kernel
theorem dX10_next_172 : decode cX10_next 172 = .ok (.iconst (-1), 1) := by decide +kernel
theorem dX10_next_173 : decode cX10_next 173 = .ok (.ireturn, 1) := by decide +kernel
theorem dX10_does_0 : decode cX10_does 0 = .ok (.iload_n 1, 1) := by decide +kernel
theorem dX10_does_1 : decode cX10_does 1 = .ok (.bipush 100, 2) := by decide +kernel
theorem dX10_does_3 : decode cX10_does 3 = .ok (.idiv, 1) := by decide +kernel
theorem dX10_does_4 : decode cX10_does 4 = .ok (.bipush 100, 2) := by decide +kernel
theorem dX10_does_6 : decode cX10_does 6 = .ok (.irem, 1) := by decide +kernel
theorem dX10_does_7 : decode cX10_does 7 = .ok (.istore_n 2, 1) := by decide +kernel
theorem dX10_does_8 : decode cX10_does 8 = .ok (.iload_n 1, 1) := by decide +kernel
theorem dX10_does_9 : decode cX10_does 9 = .ok (.bipush 100, 2) := by decide +kernel
theorem dX10_does_11 : decode cX10_does 11 = .ok (.irem, 1) := by decide +kernel
theorem dX10_does_12 : decode cX10_does 12 = .ok (.istore_n 3, 1) := by decide +kernel
theorem dX10_does_13 : decode cX10_does 13 = .ok (.iload_n 1, 1) := by decide +kernel
theorem dX10_does_14 : decode cX10_does 14 = .ok (.sipush 10000, 3) := by decide +kernel
theorem dX10_does_17 : decode cX10_does 17 = .ok (.idiv, 1) := by decide +kernel
theorem dX10_does_18 : decode cX10_does 18 = .ok (.tableswitch 71 1 6 #[38, 45, 52, 58, 71, 65], 38) := by decide +kernel
theorem dX10_does_56 : decode cX10_does 56 = .ok (.aload_n 0, 1) := by decide +kernel
theorem dX10_does_57 : decode cX10_does 57 = .ok (.iload_n 2, 1) := by decide +kernel
theorem dX10_does_58 : decode cX10_does 58 = .ok (.iload_n 3, 1) := by decide +kernel
theorem dX10_does_59 : decode cX10_does 59 = .ok (.invokevirtual 326, 3) := by decide +kernel
theorem dX10_does_62 : decode cX10_does 62 = .ok (.ireturn, 1) := by decide +kernel
theorem dX10_does_63 : decode cX10_does 63 = .ok (.aload_n 0, 1) := by decide +kernel
theorem dX10_does_64 : decode cX10_does 64 = .ok (.iload_n 2, 1) := by decide +kernel
theorem dX10_does_65 : decode cX10_does 65 = .ok (.iload_n 3, 1) := by decide +kernel
theorem dX10_does_66 : decode cX10_does 66 = .ok (.invokevirtual 329, 3) := by decide +kernel
theorem dX10_does_69 : decode cX10_does 69 = .ok (.ireturn, 1) := by decide +kernel
theorem dX10_does_70 : decode cX10_does 70 = .ok (.aload_n 0, 1) := by decide +kernel
theorem dX10_does_71 : decode cX10_does 71 = .ok (.iload_n 2, 1) := by decide +kernel
theorem dX10_does_72 : decode cX10_does 72 = .ok (.invokevirtual 332, 3) := by decide +kernel
theorem dX10_does_75 : decode cX10_does 75 = .ok (.ireturn, 1) := by decide +kernel
theorem dX10_does_76 : decode cX10_does 76 = .ok (.aload_n 0, 1) := by decide +kernel
theorem dX10_does_77 : decode cX10_does 77 = .ok (.iload_n 2, 1) := by decide +kernel
theorem dX10_does_78 : decode cX10_does 78 = .ok (.iload_n 3, 1) := by decide +kernel
theorem dX10_does_79 : decode cX10_does 79 = .ok (.invokevirtual 335, 3) := by decide +kernel
theorem dX10_does_82 : decode cX10_does 82 = .ok (.ireturn, 1) := by decide +kernel
theorem dX10_does_83 : decode cX10_does 83 = .ok (.aload_n 0, 1) := by decide +kernel
theorem dX10_does_84 : decode cX10_does 84 = .ok (.iload_n 2, 1) := by decide +kernel
theorem dX10_does_85 : decode cX10_does 85 = .ok (.invokevirtual 341, 3) := by decide +kernel
theorem dX10_does_88 : decode cX10_does 88 = .ok (.ireturn, 1) := by decide +kernel
theorem dX10_does_89 : decode cX10_does 89 = .ok (.aload_n 0, 1) := by decide +kernel
theorem dX10_does_90 : decode cX10_does 90 = .ok (.iload_n 2, 1) := by decide +kernel
theorem dX10_does_91 : decode cX10_does 91 = .ok (.invokevirtual 338, 3) := by decide +kernel
theorem dX10_does_94 : decode cX10_does 94 = .ok (.ireturn, 1) := by decide +kernel
theorem dX10_nextAction_0 : decode cX10_nextAction 0 = .ok (.aload_n 0, 1) := by decide +kernel
theorem dX10_nextAction_1 : decode cX10_nextAction 1 = .ok (.iconst 0, 1) := by decide +kernel
theorem dX10_nextAction_2 : decode cX10_nextAction 2 = .ok (.putfield 39, 3) := by decide +kernel
theorem dX10_nextAction_5 : decode cX10_nextAction 5 = .ok (.aload_n 0, 1) := by decide +kernel
theorem dX10_nextAction_6 : decode cX10_nextAction 6 = .ok (.invokevirtual 365, 3) := by decide +kernel
theorem dX10_nextAction_9 : decode cX10_nextAction 9 = .ok (.ireturn, 1) := by decide +kernel
theorem dX10_step_0 : decode cX10_step 0 = .ok (.aload_n 0, 1) := by decide +kernel
theorem dX10_step_1 : decode cX10_step 1 = .ok (.iconst 0, 1) := by decide +kernel
theorem dX10_step_2 : decode cX10_step 2 = .ok (.putfield 39, 3) := by decide +kernel
theorem dX10_step_5 : decode cX10_step 5 = .ok (.aload_n 0, 1) := by decide +kernel
theorem dX10_step_6 : decode cX10_step 6 = .ok (.invokevirtual 365, 3) := by decide +kernel
theorem dX10_step_9 : decode cX10_step 9 = .ok (.istore_n 1, 1) := by decide +kernel
theorem dX10_step_10 : decode cX10_step 10 = .ok (.iload_n 1, 1) := by decide +kernel
theorem dX10_step_11 : decode cX10_step 11 = .ok (.iconst (-1), 1) := by decide +kernel
theorem dX10_step_12 : decode cX10_step 12 = .ok (.if_icmp .ne 7, 3) := by decide +kernel
theorem dX10_step_15 : decode cX10_step 15 = .ok (.iconst (-1), 1) := by decide +kernel
theorem dX10_step_16 : decode cX10_step 16 = .ok (.goto 8, 3) := by decide +kernel
theorem dX10_step_19 : decode cX10_step 19 = .ok (.aload_n 0, 1) := by decide +kernel
theorem dX10_step_20 : decode cX10_step 20 = .ok (.iload_n 1, 1) := by decide +kernel
theorem dX10_step_21 : decode cX10_step 21 = .ok (.invokevirtual 368, 3) := by decide +kernel
theorem dX10_step_24 : decode cX10_step 24 = .ok (.ireturn, 1) := by decide +kernel
theorem dX10_runs_0 : decode cX10_runs 0 = .ok (.iconst 0, 1) := by decide +kernel
theorem dX10_runs_1 : decode cX10_runs 1 = .ok (.istore_n 2, 1) := by decide +kernel
theorem dX10_runs_2 : decode cX10_runs 2 = .ok (.iload_n 2, 1) := by decide +kernel
theorem dX10_runs_3 : decode cX10_runs 3 = .ok (.iload_n 1, 1) := by decide +kernel
theorem dX10_runs_4 : decode cX10_runs 4 = .ok (.if_icmp .ge 10, 3) := by decide +kernel
theorem dX10_runs_7 : decode cX10_runs 7 = .ok (.aload_n 0, 1) := by decide +kernel
theorem dX10_runs_8 : decode cX10_runs 8 = .ok (.invokevirtual 365, 3) := by decide +kernel
theorem dX10_runs_11 : decode cX10_runs 11 = .ok (.goto 4, 3) := by decide +kernel
theorem dX10_runs_14 : decode cX10_runs 14 = .ok (.iconst (-1), 1) := by decide +kernel
theorem dX10_runs_15 : decode cX10_runs 15 = .ok (.istore_n 3, 1) := by decide +kernel
theorem dX10_runs_16 : decode cX10_runs 16 = .ok (.iload_n 3, 1) := by decide +kernel
theorem dX10_runs_17 : decode cX10_runs 17 = .ok (.iconst (-1), 1) := by decide +kernel
theorem dX10_runs_18 : decode cX10_runs 18 = .ok (.if_icmp .eq 32, 3) := by decide +kernel
theorem dX10_runs_21 : decode cX10_runs 21 = .ok (.aload_n 0, 1) := by decide +kernel
theorem dX10_runs_22 : decode cX10_runs 22 = .ok (.aload_n 0, 1) := by decide +kernel
theorem dX10_runs_23 : decode cX10_runs 23 = .ok (.iload_n 3, 1) := by decide +kernel
theorem dX10_runs_24 : decode cX10_runs 24 = .ok (.invokevirtual 368, 3) := by decide +kernel
theorem dX10_runs_27 : decode cX10_runs 27 = .ok (.putfield 371, 3) := by decide +kernel
theorem dX10_runs_30 : decode cX10_runs 30 = .ok (.iinc 2 1, 3) := by decide +kernel
theorem dX10_runs_33 : decode cX10_runs 33 = .ok (.iload_n 2, 1) := by decide +kernel
theorem dX10_runs_34 : decode cX10_runs 34 = .ok (.iload_n 1, 1) := by decide +kernel
theorem dX10_runs_35 : decode cX10_runs 35 = .ok (.if_icmp .ge 10, 3) := by decide +kernel
theorem dX10_runs_38 : decode cX10_runs 38 = .ok (.aload_n 0, 1) := by decide +kernel
theorem dX10_runs_39 : decode cX10_runs 39 = .ok (.invokevirtual 365, 3) := by decide +kernel
theorem dX10_runs_42 : decode cX10_runs 42 = .ok (.goto 4, 3) := by decide +kernel
theorem dX10_runs_45 : decode cX10_runs 45 = .ok (.iconst (-1), 1) := by decide +kernel
theorem dX10_runs_46 : decode cX10_runs 46 = .ok (.istore_n 3, 1) := by decide +kernel
theorem dX10_runs_47 : decode cX10_runs 47 = .ok (.goto (-31), 3) := by decide +kernel
theorem dX10_runs_50 : decode cX10_runs 50 = .ok (.iload_n 2, 1) := by decide +kernel
theorem dX10_runs_51 : decode cX10_runs 51 = .ok (.ireturn, 1) := by decide +kernel
theorem dX10_run_0 : decode cX10_run 0 = .ok (.aload_n 0, 1) := by decide +kernel
theorem dX10_run_1 : decode cX10_run 1 = .ok (.invokevirtual 195, 3) := by decide +kernel
theorem dX10_run_4 : decode cX10_run 4 = .ok (.ifCond .eq 32, 3) := by decide +kernel
theorem dX10_run_7 : decode cX10_run 7 = .ok (.aload_n 0, 1) := by decide +kernel
theorem dX10_run_8 : decode cX10_run 8 = .ok (.iload_n 1, 1) := by decide +kernel
theorem dX10_run_9 : decode cX10_run 9 = .ok (.i2l, 1) := by decide +kernel
theorem dX10_run_10 : decode cX10_run 10 = .ok (.lconst 1, 1) := by decide +kernel
theorem dX10_run_11 : decode cX10_run 11 = .ok (.ldc2_w 239, 3) := by decide +kernel
theorem dX10_run_14 : decode cX10_run 14 = .ok (.invokestatic 59, 3) := by decide +kernel
theorem dX10_run_17 : decode cX10_run 17 = .ok (.ifCond .ne 7, 3) := by decide +kernel
theorem dX10_run_20 : decode cX10_run 20 = .ok (.iconst 1, 1) := by decide +kernel
theorem dX10_run_21 : decode cX10_run 21 = .ok (.goto 4, 3) := by decide +kernel
theorem dX10_run_24 : decode cX10_run 24 = .ok (.iconst 0, 1) := by decide +kernel
theorem dX10_run_25 : decode cX10_run 25 = .ok (.iconst 1, 1) := by decide +kernel
theorem dX10_run_26 : decode cX10_run 26 = .ok (.invokevirtual 200, 3) := by decide +kernel
theorem dX10_run_29 : decode cX10_run 29 = .ok (.ifCond .eq 7, 3) := by decide +kernel
theorem dX10_run_32 : decode cX10_run 32 = .ok (.iconst 0, 1) := by decide +kernel
theorem dX10_run_33 : decode cX10_run 33 = .ok (.goto 8, 3) := by decide +kernel
theorem dX10_run_36 : decode cX10_run 36 = .ok (.aload_n 0, 1) := by decide +kernel
theorem dX10_run_37 : decode cX10_run 37 = .ok (.iload_n 1, 1) := by decide +kernel
theorem dX10_run_38 : decode cX10_run 38 = .ok (.invokevirtual 374, 3) := by decide +kernel
theorem dX10_run_41 : decode cX10_run 41 = .ok (.ireturn, 1) := by decide +kernel
theorem dX10_isHalted_0 : decode cX10_isHalted 0 = .ok (.aload_n 0, 1) := by decide +kernel
theorem dX10_isHalted_1 : decode cX10_isHalted 1 = .ok (.invokevirtual 195, 3) := by decide +kernel
theorem dX10_isHalted_4 : decode cX10_isHalted 4 = .ok (.ifCond .eq 14, 3) := by decide +kernel
theorem dX10_isHalted_7 : decode cX10_isHalted 7 = .ok (.aload_n 0, 1) := by decide +kernel
theorem dX10_isHalted_8 : decode cX10_isHalted 8 = .ok (.invokevirtual 354, 3) := by decide +kernel
theorem dX10_isHalted_11 : decode cX10_isHalted 11 = .ok (.ifCond .eq 7, 3) := by decide +kernel
theorem dX10_isHalted_14 : decode cX10_isHalted 14 = .ok (.iconst 1, 1) := by decide +kernel
theorem dX10_isHalted_15 : decode cX10_isHalted 15 = .ok (.goto 4, 3) := by decide +kernel
theorem dX10_isHalted_18 : decode cX10_isHalted 18 = .ok (.iconst 0, 1) := by decide +kernel
theorem dX10_isHalted_19 : decode cX10_isHalted 19 = .ok (.ireturn, 1) := by decide +kernel
theorem dX10_resume_0 : decode cX10_resume 0 = .ok (.aload_n 0, 1) := by decide +kernel
theorem dX10_resume_1 : decode cX10_resume 1 = .ok (.iconst 0, 1) := by decide +kernel
theorem dX10_resume_2 : decode cX10_resume 2 = .ok (.putfield 39, 3) := by decide +kernel
theorem dX10_resume_5 : decode cX10_resume 5 = .ok (.aload_n 0, 1) := by decide +kernel
theorem dX10_resume_6 : decode cX10_resume 6 = .ok (.invokevirtual 354, 3) := by decide +kernel
theorem dX10_resume_9 : decode cX10_resume 9 = .ok (.istore_n 1, 1) := by decide +kernel
theorem dX10_resume_10 : decode cX10_resume 10 = .ok (.aload_n 0, 1) := by decide +kernel
theorem dX10_resume_11 : decode cX10_resume 11 = .ok (.getfield 9, 3) := by decide +kernel
theorem dX10_resume_14 : decode cX10_resume 14 = .ok (.bipush 25, 2) := by decide +kernel
theorem dX10_resume_16 : decode cX10_resume 16 = .ok (.iconst 0, 1) := by decide +kernel
theorem dX10_resume_17 : decode cX10_resume 17 = .ok (.iastore, 1) := by decide +kernel
theorem dX10_resume_18 : decode cX10_resume 18 = .ok (.aload_n 0, 1) := by decide +kernel
theorem dX10_resume_19 : decode cX10_resume 19 = .ok (.getfield 9, 3) := by decide +kernel
theorem dX10_resume_22 : decode cX10_resume 22 = .ok (.bipush 29, 2) := by decide +kernel
theorem dX10_resume_24 : decode cX10_resume 24 = .ok (.iconst 0, 1) := by decide +kernel
theorem dX10_resume_25 : decode cX10_resume 25 = .ok (.iastore, 1) := by decide +kernel
theorem dX10_resume_26 : decode cX10_resume 26 = .ok (.iload_n 1, 1) := by decide +kernel
theorem dX10_resume_27 : decode cX10_resume 27 = .ok (.ireturn, 1) := by decide +kernel
theorem dX10_inReels_0 : decode cX10_inReels 0 = .ok (.iconst 0, 1) := by decide +kernel
theorem dX10_inReels_1 : decode cX10_inReels 1 = .ok (.istore_n 2, 1) := by decide +kernel
theorem dX10_inReels_2 : decode cX10_inReels 2 = .ok (.iconst 0, 1) := by decide +kernel
theorem dX10_inReels_3 : decode cX10_inReels 3 = .ok (.istore_n 3, 1) := by decide +kernel
theorem dX10_inReels_4 : decode cX10_inReels 4 = .ok (.iload_n 3, 1) := by decide +kernel
theorem dX10_inReels_5 : decode cX10_inReels 5 = .ok (.aload_n 0, 1) := by decide +kernel
theorem dX10_inReels_6 : decode cX10_inReels 6 = .ok (.getfield 9, 3) := by decide +kernel
theorem dX10_inReels_9 : decode cX10_inReels 9 = .ok (.bipush 18, 2) := by decide +kernel
theorem dX10_inReels_11 : decode cX10_inReels 11 = .ok (.iaload, 1) := by decide +kernel
theorem dX10_inReels_12 : decode cX10_inReels 12 = .ok (.if_icmp .ge 64, 3) := by decide +kernel
theorem dX10_inReels_15 : decode cX10_inReels 15 = .ok (.aload_n 0, 1) := by decide +kernel
theorem dX10_inReels_16 : decode cX10_inReels 16 = .ok (.iload_n 3, 1) := by decide +kernel
theorem dX10_inReels_17 : decode cX10_inReels 17 = .ok (.iconst 0, 1) := by decide +kernel
theorem dX10_inReels_18 : decode cX10_inReels 18 = .ok (.invokevirtual 232, 3) := by decide +kernel
theorem dX10_inReels_21 : decode cX10_inReels 21 = .ok (.iload_n 1, 1) := by decide +kernel
theorem dX10_inReels_22 : decode cX10_inReels 22 = .ok (.if_icmp .eq 6, 3) := by decide +kernel
theorem dX10_inReels_25 : decode cX10_inReels 25 = .ok (.goto 45, 3) := by decide +kernel
theorem dX10_inReels_28 : decode cX10_inReels 28 = .ok (.iload_n 2, 1) := by decide +kernel
theorem dX10_inReels_29 : decode cX10_inReels 29 = .ok (.aload_n 0, 1) := by decide +kernel
theorem dX10_inReels_30 : decode cX10_inReels 30 = .ok (.iload_n 3, 1) := by decide +kernel
theorem dX10_inReels_31 : decode cX10_inReels 31 = .ok (.iconst 2, 1) := by decide +kernel
theorem dX10_inReels_32 : decode cX10_inReels 32 = .ok (.invokevirtual 232, 3) := by decide +kernel
theorem dX10_inReels_35 : decode cX10_inReels 35 = .ok (.iadd, 1) := by decide +kernel
theorem dX10_inReels_36 : decode cX10_inReels 36 = .ok (.istore_n 2, 1) := by decide +kernel
theorem dX10_inReels_37 : decode cX10_inReels 37 = .ok (.iconst 0, 1) := by decide +kernel
theorem dX10_inReels_38 : decode cX10_inReels 38 = .ok (.istore 4, 2) := by decide +kernel
theorem dX10_inReels_40 : decode cX10_inReels 40 = .ok (.iload 4, 2) := by decide +kernel
theorem dX10_inReels_42 : decode cX10_inReels 42 = .ok (.aload_n 0, 1) := by decide +kernel
theorem dX10_inReels_43 : decode cX10_inReels 43 = .ok (.iload_n 3, 1) := by decide +kernel
theorem dX10_inReels_44 : decode cX10_inReels 44 = .ok (.iconst 4, 1) := by decide +kernel
theorem dX10_inReels_45 : decode cX10_inReels 45 = .ok (.invokevirtual 232, 3) := by decide +kernel
theorem dX10_inReels_48 : decode cX10_inReels 48 = .ok (.if_icmp .ge 22, 3) := by decide +kernel
theorem dX10_inReels_51 : decode cX10_inReels 51 = .ok (.iload_n 2, 1) := by decide +kernel
theorem dX10_inReels_52 : decode cX10_inReels 52 = .ok (.aload_n 0, 1) := by decide +kernel
theorem dX10_inReels_53 : decode cX10_inReels 53 = .ok (.iload_n 3, 1) := by decide +kernel
theorem dX10_inReels_54 : decode cX10_inReels 54 = .ok (.bipush 8, 2) := by decide +kernel
theorem dX10_inReels_56 : decode cX10_inReels 56 = .ok (.iload 4, 2) := by decide +kernel
theorem dX10_inReels_58 : decode cX10_inReels 58 = .ok (.iadd, 1) := by decide +kernel
theorem dX10_inReels_59 : decode cX10_inReels 59 = .ok (.invokevirtual 232, 3) := by decide +kernel
theorem dX10_inReels_62 : decode cX10_inReels 62 = .ok (.iadd, 1) := by decide +kernel
theorem dX10_inReels_63 : decode cX10_inReels 63 = .ok (.istore_n 2, 1) := by decide +kernel
theorem dX10_inReels_64 : decode cX10_inReels 64 = .ok (.iinc 4 1, 3) := by decide +kernel
theorem dX10_inReels_67 : decode cX10_inReels 67 = .ok (.goto (-27), 3) := by decide +kernel
theorem dX10_inReels_70 : decode cX10_inReels 70 = .ok (.iinc 3 1, 3) := by decide +kernel
theorem dX10_inReels_73 : decode cX10_inReels 73 = .ok (.goto (-69), 3) := by decide +kernel
theorem dX10_inReels_76 : decode cX10_inReels 76 = .ok (.iload_n 2, 1) := by decide +kernel
theorem dX10_inReels_77 : decode cX10_inReels 77 = .ok (.ireturn, 1) := by decide +kernel
theorem dX10_toldOf_0 : decode cX10_toldOf 0 = .ok (.iload_n 2, 1) := by decide +kernel
theorem dX10_toldOf_1 : decode cX10_toldOf 1 = .ok (.tableswitch 46 0 2 #[27, 34, 40], 27) := by decide +kernel
theorem dX10_toldOf_28 : decode cX10_toldOf 28 = .ok (.aload_n 0, 1) := by decide +kernel
theorem dX10_toldOf_29 : decode cX10_toldOf 29 = .ok (.iload_n 1, 1) := by decide +kernel
theorem dX10_toldOf_30 : decode cX10_toldOf 30 = .ok (.iconst 0, 1) := by decide +kernel
theorem dX10_toldOf_31 : decode cX10_toldOf 31 = .ok (.invokevirtual 377, 3) := by decide +kernel
theorem dX10_toldOf_34 : decode cX10_toldOf 34 = .ok (.ireturn, 1) := by decide +kernel
theorem dX10_toldOf_35 : decode cX10_toldOf 35 = .ok (.aload_n 0, 1) := by decide +kernel
theorem dX10_toldOf_36 : decode cX10_toldOf 36 = .ok (.iload_n 1, 1) := by decide +kernel
theorem dX10_toldOf_37 : decode cX10_toldOf 37 = .ok (.invokevirtual 380, 3) := by decide +kernel
theorem dX10_toldOf_40 : decode cX10_toldOf 40 = .ok (.ireturn, 1) := by decide +kernel
theorem dX10_toldOf_41 : decode cX10_toldOf 41 = .ok (.aload_n 0, 1) := by decide +kernel
theorem dX10_toldOf_42 : decode cX10_toldOf 42 = .ok (.iload_n 1, 1) := by decide +kernel
theorem dX10_toldOf_43 : decode cX10_toldOf 43 = .ok (.invokevirtual 347, 3) := by decide +kernel
theorem dX10_toldOf_46 : decode cX10_toldOf 46 = .ok (.ireturn, 1) := by decide +kernel
theorem dX10_toldOf_47 : decode cX10_toldOf 47 = .ok (.aload_n 0, 1) := by decide +kernel
theorem dX10_toldOf_48 : decode cX10_toldOf 48 = .ok (.iload_n 1, 1) := by decide +kernel
theorem dX10_toldOf_49 : decode cX10_toldOf 49 = .ok (.iconst 1, 1) := by decide +kernel
theorem dX10_toldOf_50 : decode cX10_toldOf 50 = .ok (.iload_n 2, 1) := by decide +kernel
theorem dX10_toldOf_51 : decode cX10_toldOf 51 = .ok (.iadd, 1) := by decide +kernel
theorem dX10_toldOf_52 : decode cX10_toldOf 52 = .ok (.iconst 3, 1) := by decide +kernel
theorem dX10_toldOf_53 : decode cX10_toldOf 53 = .ok (.isub, 1) := by decide +kernel
theorem dX10_toldOf_54 : decode cX10_toldOf 54 = .ok (.invokevirtual 377, 3) := by decide +kernel
theorem dX10_toldOf_57 : decode cX10_toldOf 57 = .ok (.ireturn, 1) := by decide +kernel
theorem dX10_ledger_0 : decode cX10_ledger 0 = .ok (.aload_n 0, 1) := by decide +kernel
theorem dX10_ledger_1 : decode cX10_ledger 1 = .ok (.iload_n 1, 1) := by decide +kernel
theorem dX10_ledger_2 : decode cX10_ledger 2 = .ok (.invokevirtual 223, 3) := by decide +kernel
theorem dX10_ledger_5 : decode cX10_ledger 5 = .ok (.ifCond .ne 28, 3) := by decide +kernel
theorem dX10_ledger_8 : decode cX10_ledger 8 = .ok (.aload_n 0, 1) := by decide +kernel
theorem dX10_ledger_9 : decode cX10_ledger 9 = .ok (.iload_n 2, 1) := by decide +kernel
theorem dX10_ledger_10 : decode cX10_ledger 10 = .ok (.i2l, 1) := by decide +kernel
theorem dX10_ledger_11 : decode cX10_ledger 11 = .ok (.lconst 0, 1) := by decide +kernel
theorem dX10_ledger_12 : decode cX10_ledger 12 = .ok (.ldc2_w 383, 3) := by decide +kernel
theorem dX10_ledger_15 : decode cX10_ledger 15 = .ok (.invokestatic 59, 3) := by decide +kernel
theorem dX10_ledger_18 : decode cX10_ledger 18 = .ok (.ifCond .ne 7, 3) := by decide +kernel
theorem dX10_ledger_21 : decode cX10_ledger 21 = .ok (.iconst 1, 1) := by decide +kernel
theorem dX10_ledger_22 : decode cX10_ledger 22 = .ok (.goto 4, 3) := by decide +kernel
theorem dX10_ledger_25 : decode cX10_ledger 25 = .ok (.iconst 0, 1) := by decide +kernel
theorem dX10_ledger_26 : decode cX10_ledger 26 = .ok (.iconst 2, 1) := by decide +kernel
theorem dX10_ledger_27 : decode cX10_ledger 27 = .ok (.invokevirtual 200, 3) := by decide +kernel
theorem dX10_ledger_30 : decode cX10_ledger 30 = .ok (.ifCond .eq 7, 3) := by decide +kernel
theorem dX10_ledger_33 : decode cX10_ledger 33 = .ok (.iconst 0, 1) := by decide +kernel
theorem dX10_ledger_34 : decode cX10_ledger 34 = .ok (.goto 9, 3) := by decide +kernel
theorem dX10_ledger_37 : decode cX10_ledger 37 = .ok (.aload_n 0, 1) := by decide +kernel
theorem dX10_ledger_38 : decode cX10_ledger 38 = .ok (.iload_n 1, 1) := by decide +kernel
theorem dX10_ledger_39 : decode cX10_ledger 39 = .ok (.iload_n 2, 1) := by decide +kernel
theorem dX10_ledger_40 : decode cX10_ledger 40 = .ok (.invokevirtual 385, 3) := by decide +kernel
theorem dX10_ledger_43 : decode cX10_ledger 43 = .ok (.ireturn, 1) := by decide +kernel
theorem dX10_isBalanced_0 : decode cX10_isBalanced 0 = .ok (.aload_n 0, 1) := by decide +kernel
theorem dX10_isBalanced_1 : decode cX10_isBalanced 1 = .ok (.iconst 0, 1) := by decide +kernel
theorem dX10_isBalanced_2 : decode cX10_isBalanced 2 = .ok (.putfield 39, 3) := by decide +kernel
theorem dX10_isBalanced_5 : decode cX10_isBalanced 5 = .ok (.iconst 1, 1) := by decide +kernel
theorem dX10_isBalanced_6 : decode cX10_isBalanced 6 = .ok (.istore_n 1, 1) := by decide +kernel
theorem dX10_isBalanced_7 : decode cX10_isBalanced 7 = .ok (.iconst 0, 1) := by decide +kernel
theorem dX10_isBalanced_8 : decode cX10_isBalanced 8 = .ok (.istore_n 2, 1) := by decide +kernel
theorem dX10_isBalanced_9 : decode cX10_isBalanced 9 = .ok (.iload_n 2, 1) := by decide +kernel
theorem dX10_isBalanced_10 : decode cX10_isBalanced 10 = .ok (.aload_n 0, 1) := by decide +kernel
theorem dX10_isBalanced_11 : decode cX10_isBalanced 11 = .ok (.getfield 9, 3) := by decide +kernel
theorem dX10_isBalanced_14 : decode cX10_isBalanced 14 = .ok (.bipush 17, 2) := by decide +kernel
theorem dX10_isBalanced_16 : decode cX10_isBalanced 16 = .ok (.iaload, 1) := by decide +kernel
theorem dX10_isBalanced_17 : decode cX10_isBalanced 17 = .ok (.if_icmp .ge 57, 3) := by decide +kernel
theorem dX10_isBalanced_20 : decode cX10_isBalanced 20 = .ok (.iconst 0, 1) := by decide +kernel
theorem dX10_isBalanced_21 : decode cX10_isBalanced 21 = .ok (.istore_n 3, 1) := by decide +kernel
theorem dX10_isBalanced_22 : decode cX10_isBalanced 22 = .ok (.iconst 1, 1) := by decide +kernel
theorem dX10_isBalanced_23 : decode cX10_isBalanced 23 = .ok (.istore 4, 2) := by decide +kernel
theorem dX10_isBalanced_25 : decode cX10_isBalanced 25 = .ok (.iload 4, 2) := by decide +kernel
theorem dX10_isBalanced_27 : decode cX10_isBalanced 27 = .ok (.bipush 6, 2) := by decide +kernel
theorem dX10_isBalanced_29 : decode cX10_isBalanced 29 = .ok (.if_icmp .gt 19, 3) := by decide +kernel
theorem dX10_isBalanced_32 : decode cX10_isBalanced 32 = .ok (.iload_n 3, 1) := by decide +kernel
theorem dX10_isBalanced_33 : decode cX10_isBalanced 33 = .ok (.aload_n 0, 1) := by decide +kernel
theorem dX10_isBalanced_34 : decode cX10_isBalanced 34 = .ok (.iload_n 2, 1) := by decide +kernel
theorem dX10_isBalanced_35 : decode cX10_isBalanced 35 = .ok (.iload 4, 2) := by decide +kernel
theorem dX10_isBalanced_37 : decode cX10_isBalanced 37 = .ok (.invokevirtual 385, 3) := by decide +kernel
theorem dX10_isBalanced_40 : decode cX10_isBalanced 40 = .ok (.iadd, 1) := by decide +kernel
theorem dX10_isBalanced_41 : decode cX10_isBalanced 41 = .ok (.istore_n 3, 1) := by decide +kernel
theorem dX10_isBalanced_42 : decode cX10_isBalanced 42 = .ok (.iinc 4 1, 3) := by decide +kernel
theorem dX10_isBalanced_45 : decode cX10_isBalanced 45 = .ok (.goto (-20), 3) := by decide +kernel
theorem dX10_isBalanced_48 : decode cX10_isBalanced 48 = .ok (.iload_n 1, 1) := by decide +kernel
theorem dX10_isBalanced_49 : decode cX10_isBalanced 49 = .ok (.ifCond .eq 17, 3) := by decide +kernel
theorem dX10_isBalanced_52 : decode cX10_isBalanced 52 = .ok (.iload_n 3, 1) := by decide +kernel
theorem dX10_isBalanced_53 : decode cX10_isBalanced 53 = .ok (.aload_n 0, 1) := by decide +kernel
theorem dX10_isBalanced_54 : decode cX10_isBalanced 54 = .ok (.iload_n 2, 1) := by decide +kernel
theorem dX10_isBalanced_55 : decode cX10_isBalanced 55 = .ok (.iconst 0, 1) := by decide +kernel
theorem dX10_isBalanced_56 : decode cX10_isBalanced 56 = .ok (.invokevirtual 385, 3) := by decide +kernel
theorem dX10_isBalanced_59 : decode cX10_isBalanced 59 = .ok (.if_icmp .ne 7, 3) := by decide +kernel
theorem dX10_isBalanced_62 : decode cX10_isBalanced 62 = .ok (.iconst 1, 1) := by decide +kernel
theorem dX10_isBalanced_63 : decode cX10_isBalanced 63 = .ok (.goto 4, 3) := by decide +kernel
theorem dX10_isBalanced_66 : decode cX10_isBalanced 66 = .ok (.iconst 0, 1) := by decide +kernel
theorem dX10_isBalanced_67 : decode cX10_isBalanced 67 = .ok (.istore_n 1, 1) := by decide +kernel
theorem dX10_isBalanced_68 : decode cX10_isBalanced 68 = .ok (.iinc 2 1, 3) := by decide +kernel
theorem dX10_isBalanced_71 : decode cX10_isBalanced 71 = .ok (.goto (-62), 3) := by decide +kernel
theorem dX10_isBalanced_74 : decode cX10_isBalanced 74 = .ok (.iload_n 1, 1) := by decide +kernel
theorem dX10_isBalanced_75 : decode cX10_isBalanced 75 = .ok (.ireturn, 1) := by decide +kernel
theorem dX10_now_0 : decode cX10_now 0 = .ok (.aload_n 0, 1) := by decide +kernel
theorem dX10_now_1 : decode cX10_now 1 = .ok (.iconst 0, 1) := by decide +kernel
theorem dX10_now_2 : decode cX10_now 2 = .ok (.putfield 39, 3) := by decide +kernel
theorem dX10_now_5 : decode cX10_now 5 = .ok (.aload_n 0, 1) := by decide +kernel
theorem dX10_now_6 : decode cX10_now 6 = .ok (.getfield 9, 3) := by decide +kernel
theorem dX10_now_9 : decode cX10_now 9 = .ok (.bipush 23, 2) := by decide +kernel
theorem dX10_now_11 : decode cX10_now 11 = .ok (.iaload, 1) := by decide +kernel
theorem dX10_now_12 : decode cX10_now 12 = .ok (.ireturn, 1) := by decide +kernel
theorem dX10_head_0 : decode cX10_head 0 = .ok (.aload_n 0, 1) := by decide +kernel
theorem dX10_head_1 : decode cX10_head 1 = .ok (.invokevirtual 195, 3) := by decide +kernel
theorem dX10_head_4 : decode cX10_head 4 = .ok (.ifCond .eq 30, 3) := by decide +kernel
theorem dX10_head_7 : decode cX10_head 7 = .ok (.aload_n 0, 1) := by decide +kernel
theorem dX10_head_8 : decode cX10_head 8 = .ok (.iload_n 1, 1) := by decide +kernel
theorem dX10_head_9 : decode cX10_head 9 = .ok (.i2l, 1) := by decide +kernel
theorem dX10_head_10 : decode cX10_head 10 = .ok (.lconst 0, 1) := by decide +kernel
theorem dX10_head_11 : decode cX10_head 11 = .ok (.lconst 1, 1) := by decide +kernel
theorem dX10_head_12 : decode cX10_head 12 = .ok (.invokestatic 59, 3) := by decide +kernel
theorem dX10_head_15 : decode cX10_head 15 = .ok (.ifCond .ne 7, 3) := by decide +kernel
theorem dX10_head_18 : decode cX10_head 18 = .ok (.iconst 1, 1) := by decide +kernel
theorem dX10_head_19 : decode cX10_head 19 = .ok (.goto 4, 3) := by decide +kernel
theorem dX10_head_22 : decode cX10_head 22 = .ok (.iconst 0, 1) := by decide +kernel
theorem dX10_head_23 : decode cX10_head 23 = .ok (.iconst 1, 1) := by decide +kernel
theorem dX10_head_24 : decode cX10_head 24 = .ok (.invokevirtual 200, 3) := by decide +kernel
theorem dX10_head_27 : decode cX10_head 27 = .ok (.ifCond .eq 7, 3) := by decide +kernel
theorem dX10_head_30 : decode cX10_head 30 = .ok (.iconst 0, 1) := by decide +kernel
theorem dX10_head_31 : decode cX10_head 31 = .ok (.goto 12, 3) := by decide +kernel
theorem dX10_head_34 : decode cX10_head 34 = .ok (.aload_n 0, 1) := by decide +kernel
theorem dX10_head_35 : decode cX10_head 35 = .ok (.getfield 9, 3) := by decide +kernel
theorem dX10_head_38 : decode cX10_head 38 = .ok (.bipush 21, 2) := by decide +kernel
theorem dX10_head_40 : decode cX10_head 40 = .ok (.iload_n 1, 1) := by decide +kernel
theorem dX10_head_41 : decode cX10_head 41 = .ok (.iadd, 1) := by decide +kernel
theorem dX10_head_42 : decode cX10_head 42 = .ok (.iaload, 1) := by decide +kernel
theorem dX10_head_43 : decode cX10_head 43 = .ok (.ireturn, 1) := by decide +kernel
theorem dX10_noAction_0 : decode cX10_noAction 0 = .ok (.aload_n 0, 1) := by decide +kernel
theorem dX10_noAction_1 : decode cX10_noAction 1 = .ok (.iconst 0, 1) := by decide +kernel
theorem dX10_noAction_2 : decode cX10_noAction 2 = .ok (.putfield 39, 3) := by decide +kernel
theorem dX10_noAction_5 : decode cX10_noAction 5 = .ok (.aload_n 0, 1) := by decide +kernel
theorem dX10_noAction_6 : decode cX10_noAction 6 = .ok (.iload_n 1, 1) := by decide +kernel
theorem dX10_noAction_7 : decode cX10_noAction 7 = .ok (.i2l, 1) := by decide +kernel
theorem dX10_noAction_8 : decode cX10_noAction 8 = .ok (.lconst 1, 1) := by decide +kernel
theorem dX10_noAction_9 : decode cX10_noAction 9 = .ok (.ldc2_w 383, 3) := by decide +kernel
theorem dX10_noAction_12 : decode cX10_noAction 12 = .ok (.invokestatic 59, 3) := by decide +kernel
theorem dX10_noAction_15 : decode cX10_noAction 15 = .ok (.ifCond .ne 7, 3) := by decide +kernel
theorem dX10_noAction_18 : decode cX10_noAction 18 = .ok (.iconst 1, 1) := by decide +kernel
theorem dX10_noAction_19 : decode cX10_noAction 19 = .ok (.goto 4, 3) := by decide +kernel
theorem dX10_noAction_22 : decode cX10_noAction 22 = .ok (.iconst 0, 1) := by decide +kernel
theorem dX10_noAction_23 : decode cX10_noAction 23 = .ok (.iconst 1, 1) := by decide +kernel
theorem dX10_noAction_24 : decode cX10_noAction 24 = .ok (.invokevirtual 200, 3) := by decide +kernel
theorem dX10_noAction_27 : decode cX10_noAction 27 = .ok (.ireturn, 1) := by decide +kernel
theorem dX10_done_0 : decode cX10_done 0 = .ok (.aload_n 0, 1) := by decide +kernel
theorem dX10_done_1 : decode cX10_done 1 = .ok (.iload_n 1, 1) := by decide +kernel
theorem dX10_done_2 : decode cX10_done 2 = .ok (.invokevirtual 388, 3) := by decide +kernel
theorem dX10_done_5 : decode cX10_done 5 = .ok (.ifCond .eq 7, 3) := by decide +kernel
theorem dX10_done_8 : decode cX10_done 8 = .ok (.iconst 0, 1) := by decide +kernel
theorem dX10_done_9 : decode cX10_done 9 = .ok (.goto 12, 3) := by decide +kernel
theorem dX10_done_12 : decode cX10_done 12 = .ok (.aload_n 0, 1) := by decide +kernel
theorem dX10_done_13 : decode cX10_done 13 = .ok (.getfield 9, 3) := by decide +kernel
theorem dX10_done_16 : decode cX10_done 16 = .ok (.bipush 30, 2) := by decide +kernel
theorem dX10_done_18 : decode cX10_done 18 = .ok (.iload_n 1, 1) := by decide +kernel
theorem dX10_done_19 : decode cX10_done 19 = .ok (.iadd, 1) := by decide +kernel
theorem dX10_done_20 : decode cX10_done 20 = .ok (.iaload, 1) := by decide +kernel
theorem dX10_done_21 : decode cX10_done 21 = .ok (.ireturn, 1) := by decide +kernel
theorem dX10_timeOf_0 : decode cX10_timeOf 0 = .ok (.aload_n 0, 1) := by decide +kernel
theorem dX10_timeOf_1 : decode cX10_timeOf 1 = .ok (.iload_n 1, 1) := by decide +kernel
theorem dX10_timeOf_2 : decode cX10_timeOf 2 = .ok (.invokevirtual 388, 3) := by decide +kernel
theorem dX10_timeOf_5 : decode cX10_timeOf 5 = .ok (.ifCond .eq 7, 3) := by decide +kernel
theorem dX10_timeOf_8 : decode cX10_timeOf 8 = .ok (.iconst 0, 1) := by decide +kernel
theorem dX10_timeOf_9 : decode cX10_timeOf 9 = .ok (.goto 12, 3) := by decide +kernel
theorem dX10_timeOf_12 : decode cX10_timeOf 12 = .ok (.aload_n 0, 1) := by decide +kernel
theorem dX10_timeOf_13 : decode cX10_timeOf 13 = .ok (.getfield 9, 3) := by decide +kernel
theorem dX10_timeOf_16 : decode cX10_timeOf 16 = .ok (.bipush 37, 2) := by decide +kernel
theorem dX10_timeOf_18 : decode cX10_timeOf 18 = .ok (.iload_n 1, 1) := by decide +kernel
theorem dX10_timeOf_19 : decode cX10_timeOf 19 = .ok (.iadd, 1) := by decide +kernel
theorem dX10_timeOf_20 : decode cX10_timeOf 20 = .ok (.iaload, 1) := by decide +kernel
theorem dX10_timeOf_21 : decode cX10_timeOf 21 = .ok (.ireturn, 1) := by decide +kernel
theorem dX10_shareOf_0 : decode cX10_shareOf 0 = .ok (.aload_n 0, 1) := by decide +kernel
theorem dX10_shareOf_1 : decode cX10_shareOf 1 = .ok (.iload_n 1, 1) := by decide +kernel
theorem dX10_shareOf_2 : decode cX10_shareOf 2 = .ok (.invokevirtual 388, 3) := by decide +kernel
theorem dX10_shareOf_5 : decode cX10_shareOf 5 = .ok (.ifCond .eq 5, 3) := by decide +kernel
theorem dX10_shareOf_8 : decode cX10_shareOf 8 = .ok (.iconst 0, 1) := by decide +kernel
theorem dX10_shareOf_9 : decode cX10_shareOf 9 = .ok (.ireturn, 1) := by decide +kernel
theorem dX10_shareOf_10 : decode cX10_shareOf 10 = .ok (.aload_n 0, 1) := by decide +kernel
theorem dX10_shareOf_11 : decode cX10_shareOf 11 = .ok (.getfield 9, 3) := by decide +kernel
theorem dX10_shareOf_14 : decode cX10_shareOf 14 = .ok (.bipush 23, 2) := by decide +kernel
theorem dX10_shareOf_16 : decode cX10_shareOf 16 = .ok (.iaload, 1) := by decide +kernel
theorem dX10_shareOf_17 : decode cX10_shareOf 17 = .ok (.ifCond .ne 7, 3) := by decide +kernel
theorem dX10_shareOf_20 : decode cX10_shareOf 20 = .ok (.iconst (-1), 1) := by decide +kernel
theorem dX10_shareOf_21 : decode cX10_shareOf 21 = .ok (.goto 27, 3) := by decide +kernel
theorem dX10_shareOf_24 : decode cX10_shareOf 24 = .ok (.ldc2_w 391, 3) := by decide +kernel
theorem dX10_shareOf_27 : decode cX10_shareOf 27 = .ok (.aload_n 0, 1) := by decide +kernel
theorem dX10_shareOf_28 : decode cX10_shareOf 28 = .ok (.getfield 9, 3) := by decide +kernel
theorem dX10_shareOf_31 : decode cX10_shareOf 31 = .ok (.bipush 37, 2) := by decide +kernel
theorem dX10_shareOf_33 : decode cX10_shareOf 33 = .ok (.iload_n 1, 1) := by decide +kernel
theorem dX10_shareOf_34 : decode cX10_shareOf 34 = .ok (.iadd, 1) := by decide +kernel
theorem dX10_shareOf_35 : decode cX10_shareOf 35 = .ok (.iaload, 1) := by decide +kernel
theorem dX10_shareOf_36 : decode cX10_shareOf 36 = .ok (.i2l, 1) := by decide +kernel
theorem dX10_shareOf_37 : decode cX10_shareOf 37 = .ok (.lmul, 1) := by decide +kernel
theorem dX10_shareOf_38 : decode cX10_shareOf 38 = .ok (.aload_n 0, 1) := by decide +kernel
theorem dX10_shareOf_39 : decode cX10_shareOf 39 = .ok (.getfield 9, 3) := by decide +kernel
theorem dX10_shareOf_42 : decode cX10_shareOf 42 = .ok (.bipush 23, 2) := by decide +kernel
theorem dX10_shareOf_44 : decode cX10_shareOf 44 = .ok (.iaload, 1) := by decide +kernel
theorem dX10_shareOf_45 : decode cX10_shareOf 45 = .ok (.i2l, 1) := by decide +kernel
theorem dX10_shareOf_46 : decode cX10_shareOf 46 = .ok (.ldiv, 1) := by decide +kernel
theorem dX10_shareOf_47 : decode cX10_shareOf 47 = .ok (.l2i, 1) := by decide +kernel
theorem dX10_shareOf_48 : decode cX10_shareOf 48 = .ok (.ireturn, 1) := by decide +kernel
theorem dX10_lookRate_0 : decode cX10_lookRate 0 = .ok (.aload_n 0, 1) := by decide +kernel
theorem dX10_lookRate_1 : decode cX10_lookRate 1 = .ok (.iconst 0, 1) := by decide +kernel
theorem dX10_lookRate_2 : decode cX10_lookRate 2 = .ok (.putfield 39, 3) := by decide +kernel
theorem dX10_lookRate_5 : decode cX10_lookRate 5 = .ok (.aload_n 0, 1) := by decide +kernel
theorem dX10_lookRate_6 : decode cX10_lookRate 6 = .ok (.getfield 9, 3) := by decide +kernel
theorem dX10_lookRate_9 : decode cX10_lookRate 9 = .ok (.bipush 33, 2) := by decide +kernel
theorem dX10_lookRate_11 : decode cX10_lookRate 11 = .ok (.iaload, 1) := by decide +kernel
theorem dX10_lookRate_12 : decode cX10_lookRate 12 = .ok (.ifCond .ne 7, 3) := by decide +kernel
theorem dX10_lookRate_15 : decode cX10_lookRate 15 = .ok (.iconst (-1), 1) := by decide +kernel
theorem dX10_lookRate_16 : decode cX10_lookRate 16 = .ok (.goto 25, 3) := by decide +kernel
theorem dX10_lookRate_19 : decode cX10_lookRate 19 = .ok (.ldc2_w 391, 3) := by decide +kernel
theorem dX10_lookRate_22 : decode cX10_lookRate 22 = .ok (.aload_n 0, 1) := by decide +kernel
theorem dX10_lookRate_23 : decode cX10_lookRate 23 = .ok (.getfield 9, 3) := by decide +kernel
theorem dX10_lookRate_26 : decode cX10_lookRate 26 = .ok (.bipush 26, 2) := by decide +kernel
theorem dX10_lookRate_28 : decode cX10_lookRate 28 = .ok (.iaload, 1) := by decide +kernel
theorem dX10_lookRate_29 : decode cX10_lookRate 29 = .ok (.i2l, 1) := by decide +kernel
theorem dX10_lookRate_30 : decode cX10_lookRate 30 = .ok (.lmul, 1) := by decide +kernel
theorem dX10_lookRate_31 : decode cX10_lookRate 31 = .ok (.aload_n 0, 1) := by decide +kernel
theorem dX10_lookRate_32 : decode cX10_lookRate 32 = .ok (.getfield 9, 3) := by decide +kernel
theorem dX10_lookRate_35 : decode cX10_lookRate 35 = .ok (.bipush 33, 2) := by decide +kernel
theorem dX10_lookRate_37 : decode cX10_lookRate 37 = .ok (.iaload, 1) := by decide +kernel
theorem dX10_lookRate_38 : decode cX10_lookRate 38 = .ok (.i2l, 1) := by decide +kernel
theorem dX10_lookRate_39 : decode cX10_lookRate 39 = .ok (.ldiv, 1) := by decide +kernel
theorem dX10_lookRate_40 : decode cX10_lookRate 40 = .ok (.l2i, 1) := by decide +kernel
theorem dX10_lookRate_41 : decode cX10_lookRate 41 = .ok (.ireturn, 1) := by decide +kernel
theorem dX10_logSize_0 : decode cX10_logSize 0 = .ok (.aload_n 0, 1) := by decide +kernel
theorem dX10_logSize_1 : decode cX10_logSize 1 = .ok (.iconst 0, 1) := by decide +kernel
theorem dX10_logSize_2 : decode cX10_logSize 2 = .ok (.putfield 39, 3) := by decide +kernel
theorem dX10_logSize_5 : decode cX10_logSize 5 = .ok (.aload_n 0, 1) := by decide +kernel
theorem dX10_logSize_6 : decode cX10_logSize 6 = .ok (.getfield 9, 3) := by decide +kernel
theorem dX10_logSize_9 : decode cX10_logSize 9 = .ok (.bipush 28, 2) := by decide +kernel
theorem dX10_logSize_11 : decode cX10_logSize 11 = .ok (.iaload, 1) := by decide +kernel
theorem dX10_logSize_12 : decode cX10_logSize 12 = .ok (.ireturn, 1) := by decide +kernel
theorem dX10_logEntry_0 : decode cX10_logEntry 0 = .ok (.aload_n 0, 1) := by decide +kernel
theorem dX10_logEntry_1 : decode cX10_logEntry 1 = .ok (.iconst 0, 1) := by decide +kernel
theorem dX10_logEntry_2 : decode cX10_logEntry 2 = .ok (.putfield 39, 3) := by decide +kernel
theorem dX10_logEntry_5 : decode cX10_logEntry 5 = .ok (.aload_n 0, 1) := by decide +kernel
theorem dX10_logEntry_6 : decode cX10_logEntry 6 = .ok (.iload_n 2, 1) := by decide +kernel
theorem dX10_logEntry_7 : decode cX10_logEntry 7 = .ok (.i2l, 1) := by decide +kernel
theorem dX10_logEntry_8 : decode cX10_logEntry 8 = .ok (.lconst 0, 1) := by decide +kernel
theorem dX10_logEntry_9 : decode cX10_logEntry 9 = .ok (.ldc2_w 393, 3) := by decide +kernel
theorem dX10_logEntry_12 : decode cX10_logEntry 12 = .ok (.invokestatic 59, 3) := by decide +kernel
theorem dX10_logEntry_15 : decode cX10_logEntry 15 = .ok (.ifCond .ne 7, 3) := by decide +kernel
theorem dX10_logEntry_18 : decode cX10_logEntry 18 = .ok (.iconst 1, 1) := by decide +kernel
theorem dX10_logEntry_19 : decode cX10_logEntry 19 = .ok (.goto 4, 3) := by decide +kernel
theorem dX10_logEntry_22 : decode cX10_logEntry 22 = .ok (.iconst 0, 1) := by decide +kernel
theorem dX10_logEntry_23 : decode cX10_logEntry 23 = .ok (.iconst 1, 1) := by decide +kernel
theorem dX10_logEntry_24 : decode cX10_logEntry 24 = .ok (.invokevirtual 200, 3) := by decide +kernel
theorem dX10_logEntry_27 : decode cX10_logEntry 27 = .ok (.ifCond .eq 5, 3) := by decide +kernel
theorem dX10_logEntry_30 : decode cX10_logEntry 30 = .ok (.iconst 0, 1) := by decide +kernel
theorem dX10_logEntry_31 : decode cX10_logEntry 31 = .ok (.ireturn, 1) := by decide +kernel
theorem dX10_logEntry_32 : decode cX10_logEntry 32 = .ok (.iload_n 1, 1) := by decide +kernel
theorem dX10_logEntry_33 : decode cX10_logEntry 33 = .ok (.i2l, 1) := by decide +kernel
theorem dX10_logEntry_34 : decode cX10_logEntry 34 = .ok (.lconst 0, 1) := by decide +kernel
theorem dX10_logEntry_35 : decode cX10_logEntry 35 = .ok (.aload_n 0, 1) := by decide +kernel
theorem dX10_logEntry_36 : decode cX10_logEntry 36 = .ok (.getfield 9, 3) := by decide +kernel
theorem dX10_logEntry_39 : decode cX10_logEntry 39 = .ok (.bipush 28, 2) := by decide +kernel
theorem dX10_logEntry_41 : decode cX10_logEntry 41 = .ok (.iaload, 1) := by decide +kernel
theorem dX10_logEntry_42 : decode cX10_logEntry 42 = .ok (.iconst 1, 1) := by decide +kernel
theorem dX10_logEntry_43 : decode cX10_logEntry 43 = .ok (.isub, 1) := by decide +kernel
theorem dX10_logEntry_44 : decode cX10_logEntry 44 = .ok (.i2l, 1) := by decide +kernel
theorem dX10_logEntry_45 : decode cX10_logEntry 45 = .ok (.invokestatic 59, 3) := by decide +kernel
theorem dX10_logEntry_48 : decode cX10_logEntry 48 = .ok (.ifCond .eq 20, 3) := by decide +kernel
theorem dX10_logEntry_51 : decode cX10_logEntry 51 = .ok (.aload_n 0, 1) := by decide +kernel
theorem dX10_logEntry_52 : decode cX10_logEntry 52 = .ok (.getfield 9, 3) := by decide +kernel
theorem dX10_logEntry_55 : decode cX10_logEntry 55 = .ok (.sipush 480, 3) := by decide +kernel
theorem dX10_logEntry_58 : decode cX10_logEntry 58 = .ok (.iconst 3, 1) := by decide +kernel
theorem dX10_logEntry_59 : decode cX10_logEntry 59 = .ok (.iload_n 1, 1) := by decide +kernel
theorem dX10_logEntry_60 : decode cX10_logEntry 60 = .ok (.imul, 1) := by decide +kernel
theorem dX10_logEntry_61 : decode cX10_logEntry 61 = .ok (.iadd, 1) := by decide +kernel
theorem dX10_logEntry_62 : decode cX10_logEntry 62 = .ok (.iload_n 2, 1) := by decide +kernel
theorem dX10_logEntry_63 : decode cX10_logEntry 63 = .ok (.iadd, 1) := by decide +kernel
theorem dX10_logEntry_64 : decode cX10_logEntry 64 = .ok (.iaload, 1) := by decide +kernel
theorem dX10_logEntry_65 : decode cX10_logEntry 65 = .ok (.goto 4, 3) := by decide +kernel
theorem dX10_logEntry_68 : decode cX10_logEntry 68 = .ok (.iconst (-1), 1) := by decide +kernel
theorem dX10_logEntry_69 : decode cX10_logEntry 69 = .ok (.ireturn, 1) := by decide +kernel
theorem dX10_goesAside_0 : decode cX10_goesAside 0 = .ok (.aload_n 0, 1) := by decide +kernel
theorem dX10_goesAside_1 : decode cX10_goesAside 1 = .ok (.getfield 9, 3) := by decide +kernel
theorem dX10_goesAside_4 : decode cX10_goesAside 4 = .ok (.aload_n 0, 1) := by decide +kernel
theorem dX10_goesAside_5 : decode cX10_goesAside 5 = .ok (.getfield 13, 3) := by decide +kernel
theorem dX10_goesAside_8 : decode cX10_goesAside 8 = .ok (.invokestatic 191, 3) := by decide +kernel
theorem dX10_goesAside_11 : decode cX10_goesAside 11 = .ok (.return_, 1) := by decide +kernel
theorem dX10_comesBack_0 : decode cX10_comesBack 0 = .ok (.aload_n 0, 1) := by decide +kernel
theorem dX10_comesBack_1 : decode cX10_comesBack 1 = .ok (.getfield 13, 3) := by decide +kernel
theorem dX10_comesBack_4 : decode cX10_comesBack 4 = .ok (.aload_n 0, 1) := by decide +kernel
theorem dX10_comesBack_5 : decode cX10_comesBack 5 = .ok (.getfield 9, 3) := by decide +kernel
theorem dX10_comesBack_8 : decode cX10_comesBack 8 = .ok (.invokestatic 191, 3) := by decide +kernel
theorem dX10_comesBack_11 : decode cX10_comesBack 11 = .ok (.return_, 1) := by decide +kernel
theorem dX10_ends_0 : decode cX10_ends 0 = .ok (.aload_n 0, 1) := by decide +kernel
theorem dX10_ends_1 : decode cX10_ends 1 = .ok (.sipush 1000, 3) := by decide +kernel
theorem dX10_ends_4 : decode cX10_ends 4 = .ok (.invokevirtual 374, 3) := by decide +kernel
theorem dX10_ends_7 : decode cX10_ends 7 = .ok (.sipush 1000, 3) := by decide +kernel
theorem dX10_ends_10 : decode cX10_ends 10 = .ok (.if_icmp .lt 11, 3) := by decide +kernel
theorem dX10_ends_13 : decode cX10_ends 13 = .ok (.aload_n 0, 1) := by decide +kernel
theorem dX10_ends_14 : decode cX10_ends 14 = .ok (.invokevirtual 365, 3) := by decide +kernel
theorem dX10_ends_17 : decode cX10_ends 17 = .ok (.iconst (-1), 1) := by decide +kernel
theorem dX10_ends_18 : decode cX10_ends 18 = .ok (.if_icmp .ne 7, 3) := by decide +kernel
theorem dX10_ends_21 : decode cX10_ends 21 = .ok (.iconst 1, 1) := by decide +kernel
theorem dX10_ends_22 : decode cX10_ends 22 = .ok (.goto 4, 3) := by decide +kernel
theorem dX10_ends_25 : decode cX10_ends 25 = .ok (.iconst 0, 1) := by decide +kernel
theorem dX10_ends_26 : decode cX10_ends 26 = .ok (.ireturn, 1) := by decide +kernel
theorem dX10_actionsToEnd_0 : decode cX10_actionsToEnd 0 = .ok (.aload_n 0, 1) := by decide +kernel
theorem dX10_actionsToEnd_1 : decode cX10_actionsToEnd 1 = .ok (.iconst 0, 1) := by decide +kernel
theorem dX10_actionsToEnd_2 : decode cX10_actionsToEnd 2 = .ok (.putfield 39, 3) := by decide +kernel
theorem dX10_actionsToEnd_5 : decode cX10_actionsToEnd 5 = .ok (.aload_n 0, 1) := by decide +kernel
theorem dX10_actionsToEnd_6 : decode cX10_actionsToEnd 6 = .ok (.invokevirtual 395, 3) := by decide +kernel
theorem dX10_actionsToEnd_9 : decode cX10_actionsToEnd 9 = .ok (.aload_n 0, 1) := by decide +kernel
theorem dX10_actionsToEnd_10 : decode cX10_actionsToEnd 10 = .ok (.sipush 1000, 3) := by decide +kernel
theorem dX10_actionsToEnd_13 : decode cX10_actionsToEnd 13 = .ok (.invokevirtual 374, 3) := by decide +kernel
theorem dX10_actionsToEnd_16 : decode cX10_actionsToEnd 16 = .ok (.istore_n 1, 1) := by decide +kernel
theorem dX10_actionsToEnd_17 : decode cX10_actionsToEnd 17 = .ok (.aload_n 0, 1) := by decide +kernel
theorem dX10_actionsToEnd_18 : decode cX10_actionsToEnd 18 = .ok (.invokevirtual 365, 3) := by decide +kernel
theorem dX10_actionsToEnd_21 : decode cX10_actionsToEnd 21 = .ok (.iconst (-1), 1) := by decide +kernel
theorem dX10_actionsToEnd_22 : decode cX10_actionsToEnd 22 = .ok (.if_icmp .ne 7, 3) := by decide +kernel
theorem dX10_actionsToEnd_25 : decode cX10_actionsToEnd 25 = .ok (.iconst 1, 1) := by decide +kernel
theorem dX10_actionsToEnd_26 : decode cX10_actionsToEnd 26 = .ok (.goto 4, 3) := by decide +kernel
theorem dX10_actionsToEnd_29 : decode cX10_actionsToEnd 29 = .ok (.iconst 0, 1) := by decide +kernel
theorem dX10_actionsToEnd_30 : decode cX10_actionsToEnd 30 = .ok (.istore_n 2, 1) := by decide +kernel
theorem dX10_actionsToEnd_31 : decode cX10_actionsToEnd 31 = .ok (.aload_n 0, 1) := by decide +kernel
theorem dX10_actionsToEnd_32 : decode cX10_actionsToEnd 32 = .ok (.invokevirtual 398, 3) := by decide +kernel
theorem dX10_actionsToEnd_35 : decode cX10_actionsToEnd 35 = .ok (.iload_n 2, 1) := by decide +kernel
theorem dX10_actionsToEnd_36 : decode cX10_actionsToEnd 36 = .ok (.ifCond .eq 7, 3) := by decide +kernel
theorem dX10_actionsToEnd_39 : decode cX10_actionsToEnd 39 = .ok (.iload_n 1, 1) := by decide +kernel
theorem dX10_actionsToEnd_40 : decode cX10_actionsToEnd 40 = .ok (.goto 4, 3) := by decide +kernel
theorem dX10_actionsToEnd_43 : decode cX10_actionsToEnd 43 = .ok (.iconst (-1), 1) := by decide +kernel
theorem dX10_actionsToEnd_44 : decode cX10_actionsToEnd 44 = .ok (.ireturn, 1) := by decide +kernel
theorem dX10_endTime_0 : decode cX10_endTime 0 = .ok (.aload_n 0, 1) := by decide +kernel
theorem dX10_endTime_1 : decode cX10_endTime 1 = .ok (.invokevirtual 401, 3) := by decide +kernel
theorem dX10_endTime_4 : decode cX10_endTime 4 = .ok (.ifCond .eq 13, 3) := by decide +kernel
theorem dX10_endTime_7 : decode cX10_endTime 7 = .ok (.aload_n 0, 1) := by decide +kernel
theorem dX10_endTime_8 : decode cX10_endTime 8 = .ok (.getfield 9, 3) := by decide +kernel
theorem dX10_endTime_11 : decode cX10_endTime 11 = .ok (.bipush 23, 2) := by decide +kernel
theorem dX10_endTime_13 : decode cX10_endTime 13 = .ok (.iaload, 1) := by decide +kernel
theorem dX10_endTime_14 : decode cX10_endTime 14 = .ok (.goto 4, 3) := by decide +kernel
theorem dX10_endTime_17 : decode cX10_endTime 17 = .ok (.iconst (-1), 1) := by decide +kernel
theorem dX10_endTime_18 : decode cX10_endTime 18 = .ok (.ireturn, 1) := by decide +kernel
theorem dX10_timeAtEnd_0 : decode cX10_timeAtEnd 0 = .ok (.aload_n 0, 1) := by decide +kernel
theorem dX10_timeAtEnd_1 : decode cX10_timeAtEnd 1 = .ok (.iconst 0, 1) := by decide +kernel
theorem dX10_timeAtEnd_2 : decode cX10_timeAtEnd 2 = .ok (.putfield 39, 3) := by decide +kernel
theorem dX10_timeAtEnd_5 : decode cX10_timeAtEnd 5 = .ok (.aload_n 0, 1) := by decide +kernel
theorem dX10_timeAtEnd_6 : decode cX10_timeAtEnd 6 = .ok (.invokevirtual 395, 3) := by decide +kernel
theorem dX10_timeAtEnd_9 : decode cX10_timeAtEnd 9 = .ok (.aload_n 0, 1) := by decide +kernel
theorem dX10_timeAtEnd_10 : decode cX10_timeAtEnd 10 = .ok (.invokevirtual 404, 3) := by decide +kernel
theorem dX10_timeAtEnd_13 : decode cX10_timeAtEnd 13 = .ok (.istore_n 1, 1) := by decide +kernel
theorem dX10_timeAtEnd_14 : decode cX10_timeAtEnd 14 = .ok (.aload_n 0, 1) := by decide +kernel
theorem dX10_timeAtEnd_15 : decode cX10_timeAtEnd 15 = .ok (.invokevirtual 398, 3) := by decide +kernel
theorem dX10_timeAtEnd_18 : decode cX10_timeAtEnd 18 = .ok (.iload_n 1, 1) := by decide +kernel
theorem dX10_timeAtEnd_19 : decode cX10_timeAtEnd 19 = .ok (.ireturn, 1) := by decide +kernel
theorem dX10_filledAtEnd_0 : decode cX10_filledAtEnd 0 = .ok (.aload_n 0, 1) := by decide +kernel
theorem dX10_filledAtEnd_1 : decode cX10_filledAtEnd 1 = .ok (.iconst 0, 1) := by decide +kernel
theorem dX10_filledAtEnd_2 : decode cX10_filledAtEnd 2 = .ok (.putfield 39, 3) := by decide +kernel
theorem dX10_filledAtEnd_5 : decode cX10_filledAtEnd 5 = .ok (.aload_n 0, 1) := by decide +kernel
theorem dX10_filledAtEnd_6 : decode cX10_filledAtEnd 6 = .ok (.invokevirtual 395, 3) := by decide +kernel
theorem dX10_filledAtEnd_9 : decode cX10_filledAtEnd 9 = .ok (.aload_n 0, 1) := by decide +kernel
theorem dX10_filledAtEnd_10 : decode cX10_filledAtEnd 10 = .ok (.sipush 1000, 3) := by decide +kernel
theorem dX10_filledAtEnd_13 : decode cX10_filledAtEnd 13 = .ok (.invokevirtual 374, 3) := by decide +kernel
theorem dX10_filledAtEnd_16 : decode cX10_filledAtEnd 16 = .ok (.istore_n 1, 1) := by decide +kernel
theorem dX10_filledAtEnd_17 : decode cX10_filledAtEnd 17 = .ok (.aload_n 0, 1) := by decide +kernel
theorem dX10_filledAtEnd_18 : decode cX10_filledAtEnd 18 = .ok (.iconst (-1), 1) := by decide +kernel
theorem dX10_filledAtEnd_19 : decode cX10_filledAtEnd 19 = .ok (.iconst 1, 1) := by decide +kernel
theorem dX10_filledAtEnd_20 : decode cX10_filledAtEnd 20 = .ok (.invokevirtual 287, 3) := by decide +kernel
theorem dX10_filledAtEnd_23 : decode cX10_filledAtEnd 23 = .ok (.istore_n 2, 1) := by decide +kernel
theorem dX10_filledAtEnd_24 : decode cX10_filledAtEnd 24 = .ok (.aload_n 0, 1) := by decide +kernel
theorem dX10_filledAtEnd_25 : decode cX10_filledAtEnd 25 = .ok (.invokevirtual 398, 3) := by decide +kernel
theorem dX10_filledAtEnd_28 : decode cX10_filledAtEnd 28 = .ok (.iload_n 2, 1) := by decide +kernel
theorem dX10_filledAtEnd_29 : decode cX10_filledAtEnd 29 = .ok (.ireturn, 1) := by decide +kernel
theorem dX10_lacks_0 : decode cX10_lacks 0 = .ok (.aload_n 0, 1) := by decide +kernel
theorem dX10_lacks_1 : decode cX10_lacks 1 = .ok (.iload_n 1, 1) := by decide +kernel
theorem dX10_lacks_2 : decode cX10_lacks 2 = .ok (.iconst 0, 1) := by decide +kernel
theorem dX10_lacks_3 : decode cX10_lacks 3 = .ok (.invokevirtual 287, 3) := by decide +kernel
theorem dX10_lacks_6 : decode cX10_lacks 6 = .ok (.i2l, 1) := by decide +kernel
theorem dX10_lacks_7 : decode cX10_lacks 7 = .ok (.iload_n 2, 1) := by decide +kernel
theorem dX10_lacks_8 : decode cX10_lacks 8 = .ok (.i2l, 1) := by decide +kernel
theorem dX10_lacks_9 : decode cX10_lacks 9 = .ok (.lconst 1, 1) := by decide +kernel
theorem dX10_lacks_10 : decode cX10_lacks 10 = .ok (.lsub, 1) := by decide +kernel
theorem dX10_lacks_11 : decode cX10_lacks 11 = .ok (.aload_n 0, 1) := by decide +kernel
theorem dX10_lacks_12 : decode cX10_lacks 12 = .ok (.iload_n 1, 1) := by decide +kernel
theorem dX10_lacks_13 : decode cX10_lacks 13 = .ok (.iconst 0, 1) := by decide +kernel
theorem dX10_lacks_14 : decode cX10_lacks 14 = .ok (.invokevirtual 287, 3) := by decide +kernel
theorem dX10_lacks_17 : decode cX10_lacks 17 = .ok (.aload_n 0, 1) := by decide +kernel
theorem dX10_lacks_18 : decode cX10_lacks 18 = .ok (.iload_n 1, 1) := by decide +kernel
theorem dX10_lacks_19 : decode cX10_lacks 19 = .ok (.iconst 1, 1) := by decide +kernel
theorem dX10_lacks_20 : decode cX10_lacks 20 = .ok (.invokevirtual 287, 3) := by decide +kernel
theorem dX10_lacks_23 : decode cX10_lacks 23 = .ok (.iadd, 1) := by decide +kernel
theorem dX10_lacks_24 : decode cX10_lacks 24 = .ok (.i2l, 1) := by decide +kernel
theorem dX10_lacks_25 : decode cX10_lacks 25 = .ok (.lmul, 1) := by decide +kernel
theorem dX10_lacks_26 : decode cX10_lacks 26 = .ok (.ladd, 1) := by decide +kernel
theorem dX10_lacks_27 : decode cX10_lacks 27 = .ok (.lstore_n 3, 1) := by decide +kernel
theorem dX10_lacks_28 : decode cX10_lacks 28 = .ok (.lconst 0, 1) := by decide +kernel
theorem dX10_lacks_29 : decode cX10_lacks 29 = .ok (.lload_n 3, 1) := by decide +kernel
theorem dX10_lacks_30 : decode cX10_lacks 30 = .ok (.aload_n 0, 1) := by decide +kernel
theorem dX10_lacks_31 : decode cX10_lacks 31 = .ok (.iload_n 1, 1) := by decide +kernel
theorem dX10_lacks_32 : decode cX10_lacks 32 = .ok (.invokevirtual 380, 3) := by decide +kernel
theorem dX10_lacks_35 : decode cX10_lacks 35 = .ok (.i2l, 1) := by decide +kernel
theorem dX10_lacks_36 : decode cX10_lacks 36 = .ok (.lsub, 1) := by decide +kernel
theorem dX10_lacks_37 : decode cX10_lacks 37 = .ok (.aload_n 0, 1) := by decide +kernel
theorem dX10_lacks_38 : decode cX10_lacks 38 = .ok (.iload_n 1, 1) := by decide +kernel
theorem dX10_lacks_39 : decode cX10_lacks 39 = .ok (.invokevirtual 347, 3) := by decide +kernel
theorem dX10_lacks_42 : decode cX10_lacks 42 = .ok (.i2l, 1) := by decide +kernel
theorem dX10_lacks_43 : decode cX10_lacks 43 = .ok (.lsub, 1) := by decide +kernel
theorem dX10_lacks_44 : decode cX10_lacks 44 = .ok (.invokestatic 407, 3) := by decide +kernel
theorem dX10_lacks_47 : decode cX10_lacks 47 = .ok (.lreturn, 1) := by decide +kernel
theorem dX10_shortage_0 : decode cX10_shortage 0 = .ok (.aload_n 0, 1) := by decide +kernel
theorem dX10_shortage_1 : decode cX10_shortage 1 = .ok (.iload_n 1, 1) := by decide +kernel
theorem dX10_shortage_2 : decode cX10_shortage 2 = .ok (.invokevirtual 223, 3) := by decide +kernel
theorem dX10_shortage_5 : decode cX10_shortage 5 = .ok (.ifCond .eq 7, 3) := by decide +kernel
theorem dX10_shortage_8 : decode cX10_shortage 8 = .ok (.iconst 0, 1) := by decide +kernel
theorem dX10_shortage_9 : decode cX10_shortage 9 = .ok (.goto 10, 3) := by decide +kernel
theorem dX10_shortage_12 : decode cX10_shortage 12 = .ok (.aload_n 0, 1) := by decide +kernel
theorem dX10_shortage_13 : decode cX10_shortage 13 = .ok (.iload_n 1, 1) := by decide +kernel
theorem dX10_shortage_14 : decode cX10_shortage 14 = .ok (.iconst 1, 1) := by decide +kernel
theorem dX10_shortage_15 : decode cX10_shortage 15 = .ok (.invokevirtual 409, 3) := by decide +kernel
theorem dX10_shortage_18 : decode cX10_shortage 18 = .ok (.l2i, 1) := by decide +kernel
theorem dX10_shortage_19 : decode cX10_shortage 19 = .ok (.ireturn, 1) := by decide +kernel
theorem dX10_shortageFor_0 : decode cX10_shortageFor 0 = .ok (.aload_n 0, 1) := by decide +kernel
theorem dX10_shortageFor_1 : decode cX10_shortageFor 1 = .ok (.iload_n 1, 1) := by decide +kernel
theorem dX10_shortageFor_2 : decode cX10_shortageFor 2 = .ok (.invokevirtual 223, 3) := by decide +kernel
theorem dX10_shortageFor_5 : decode cX10_shortageFor 5 = .ok (.ifCond .ne 28, 3) := by decide +kernel
theorem dX10_shortageFor_8 : decode cX10_shortageFor 8 = .ok (.aload_n 0, 1) := by decide +kernel
theorem dX10_shortageFor_9 : decode cX10_shortageFor 9 = .ok (.iload_n 2, 1) := by decide +kernel
theorem dX10_shortageFor_10 : decode cX10_shortageFor 10 = .ok (.i2l, 1) := by decide +kernel
theorem dX10_shortageFor_11 : decode cX10_shortageFor 11 = .ok (.lconst 1, 1) := by decide +kernel
theorem dX10_shortageFor_12 : decode cX10_shortageFor 12 = .ok (.ldc2_w 391, 3) := by decide +kernel
theorem dX10_shortageFor_15 : decode cX10_shortageFor 15 = .ok (.invokestatic 59, 3) := by decide +kernel
theorem dX10_shortageFor_18 : decode cX10_shortageFor 18 = .ok (.ifCond .ne 7, 3) := by decide +kernel
theorem dX10_shortageFor_21 : decode cX10_shortageFor 21 = .ok (.iconst 1, 1) := by decide +kernel
theorem dX10_shortageFor_22 : decode cX10_shortageFor 22 = .ok (.goto 4, 3) := by decide +kernel
theorem dX10_shortageFor_25 : decode cX10_shortageFor 25 = .ok (.iconst 0, 1) := by decide +kernel
theorem dX10_shortageFor_26 : decode cX10_shortageFor 26 = .ok (.iconst 2, 1) := by decide +kernel
theorem dX10_shortageFor_27 : decode cX10_shortageFor 27 = .ok (.invokevirtual 200, 3) := by decide +kernel
theorem dX10_shortageFor_30 : decode cX10_shortageFor 30 = .ok (.ifCond .eq 7, 3) := by decide +kernel
theorem dX10_shortageFor_33 : decode cX10_shortageFor 33 = .ok (.iconst 0, 1) := by decide +kernel
theorem dX10_shortageFor_34 : decode cX10_shortageFor 34 = .ok (.goto 10, 3) := by decide +kernel
theorem dX10_shortageFor_37 : decode cX10_shortageFor 37 = .ok (.aload_n 0, 1) := by decide +kernel
theorem dX10_shortageFor_38 : decode cX10_shortageFor 38 = .ok (.iload_n 1, 1) := by decide +kernel
theorem dX10_shortageFor_39 : decode cX10_shortageFor 39 = .ok (.iload_n 2, 1) := by decide +kernel
theorem dX10_shortageFor_40 : decode cX10_shortageFor 40 = .ok (.invokevirtual 409, 3) := by decide +kernel
theorem dX10_shortageFor_43 : decode cX10_shortageFor 43 = .ok (.l2i, 1) := by decide +kernel
theorem dX10_shortageFor_44 : decode cX10_shortageFor 44 = .ok (.ireturn, 1) := by decide +kernel
theorem dX10_isEnough_0 : decode cX10_isEnough 0 = .ok (.iconst 1, 1) := by decide +kernel
theorem dX10_isEnough_1 : decode cX10_isEnough 1 = .ok (.istore_n 2, 1) := by decide +kernel
theorem dX10_isEnough_2 : decode cX10_isEnough 2 = .ok (.iconst 0, 1) := by decide +kernel
theorem dX10_isEnough_3 : decode cX10_isEnough 3 = .ok (.istore_n 3, 1) := by decide +kernel
theorem dX10_isEnough_4 : decode cX10_isEnough 4 = .ok (.iload_n 3, 1) := by decide +kernel
theorem dX10_isEnough_5 : decode cX10_isEnough 5 = .ok (.aload_n 0, 1) := by decide +kernel
theorem dX10_isEnough_6 : decode cX10_isEnough 6 = .ok (.getfield 9, 3) := by decide +kernel
theorem dX10_isEnough_9 : decode cX10_isEnough 9 = .ok (.bipush 17, 2) := by decide +kernel
theorem dX10_isEnough_11 : decode cX10_isEnough 11 = .ok (.iaload, 1) := by decide +kernel
theorem dX10_isEnough_12 : decode cX10_isEnough 12 = .ok (.if_icmp .ge 30, 3) := by decide +kernel
theorem dX10_isEnough_15 : decode cX10_isEnough 15 = .ok (.iload_n 2, 1) := by decide +kernel
theorem dX10_isEnough_16 : decode cX10_isEnough 16 = .ok (.ifCond .eq 18, 3) := by decide +kernel
theorem dX10_isEnough_19 : decode cX10_isEnough 19 = .ok (.aload_n 0, 1) := by decide +kernel
theorem dX10_isEnough_20 : decode cX10_isEnough 20 = .ok (.iload_n 3, 1) := by decide +kernel
theorem dX10_isEnough_21 : decode cX10_isEnough 21 = .ok (.iload_n 1, 1) := by decide +kernel
theorem dX10_isEnough_22 : decode cX10_isEnough 22 = .ok (.invokevirtual 409, 3) := by decide +kernel
theorem dX10_isEnough_25 : decode cX10_isEnough 25 = .ok (.lconst 0, 1) := by decide +kernel
theorem dX10_isEnough_26 : decode cX10_isEnough 26 = .ok (.lcmp, 1) := by decide +kernel
theorem dX10_isEnough_27 : decode cX10_isEnough 27 = .ok (.ifCond .ne 7, 3) := by decide +kernel
theorem dX10_isEnough_30 : decode cX10_isEnough 30 = .ok (.iconst 1, 1) := by decide +kernel
theorem dX10_isEnough_31 : decode cX10_isEnough 31 = .ok (.goto 4, 3) := by decide +kernel
theorem dX10_isEnough_34 : decode cX10_isEnough 34 = .ok (.iconst 0, 1) := by decide +kernel
theorem dX10_isEnough_35 : decode cX10_isEnough 35 = .ok (.istore_n 2, 1) := by decide +kernel
theorem dX10_isEnough_36 : decode cX10_isEnough 36 = .ok (.iinc 3 1, 3) := by decide +kernel
theorem dX10_isEnough_39 : decode cX10_isEnough 39 = .ok (.goto (-35), 3) := by decide +kernel
theorem dX10_isEnough_42 : decode cX10_isEnough 42 = .ok (.iload_n 2, 1) := by decide +kernel
theorem dX10_isEnough_43 : decode cX10_isEnough 43 = .ok (.ireturn, 1) := by decide +kernel
theorem dX10_boardsPossible_0 : decode cX10_boardsPossible 0 = .ok (.aload_n 0, 1) := by decide +kernel
theorem dX10_boardsPossible_1 : decode cX10_boardsPossible 1 = .ok (.iconst 0, 1) := by decide +kernel
theorem dX10_boardsPossible_2 : decode cX10_boardsPossible 2 = .ok (.putfield 39, 3) := by decide +kernel
theorem dX10_boardsPossible_5 : decode cX10_boardsPossible 5 = .ok (.iconst 0, 1) := by decide +kernel
theorem dX10_boardsPossible_6 : decode cX10_boardsPossible 6 = .ok (.istore_n 1, 1) := by decide +kernel
theorem dX10_boardsPossible_7 : decode cX10_boardsPossible 7 = .ok (.iload_n 1, 1) := by decide +kernel
theorem dX10_boardsPossible_8 : decode cX10_boardsPossible 8 = .ok (.sipush 1000, 3) := by decide +kernel
theorem dX10_boardsPossible_11 : decode cX10_boardsPossible 11 = .ok (.if_icmp .ge 19, 3) := by decide +kernel
theorem dX10_boardsPossible_14 : decode cX10_boardsPossible 14 = .ok (.aload_n 0, 1) := by decide +kernel
theorem dX10_boardsPossible_15 : decode cX10_boardsPossible 15 = .ok (.iload_n 1, 1) := by decide +kernel
theorem dX10_boardsPossible_16 : decode cX10_boardsPossible 16 = .ok (.iconst 1, 1) := by decide +kernel
theorem dX10_boardsPossible_17 : decode cX10_boardsPossible 17 = .ok (.iadd, 1) := by decide +kernel
theorem dX10_boardsPossible_18 : decode cX10_boardsPossible 18 = .ok (.invokevirtual 413, 3) := by decide +kernel
theorem dX10_boardsPossible_21 : decode cX10_boardsPossible 21 = .ok (.ifCond .eq 9, 3) := by decide +kernel
theorem dX10_boardsPossible_24 : decode cX10_boardsPossible 24 = .ok (.iinc 1 1, 3) := by decide +kernel
theorem dX10_boardsPossible_27 : decode cX10_boardsPossible 27 = .ok (.goto (-20), 3) := by decide +kernel
theorem dX10_boardsPossible_30 : decode cX10_boardsPossible 30 = .ok (.iload_n 1, 1) := by decide +kernel
theorem dX10_boardsPossible_31 : decode cX10_boardsPossible 31 = .ok (.ireturn, 1) := by decide +kernel
theorem dX10_isOut_0 : decode cX10_isOut 0 = .ok (.aload_n 0, 1) := by decide +kernel
theorem dX10_isOut_1 : decode cX10_isOut 1 = .ok (.iload_n 1, 1) := by decide +kernel
theorem dX10_isOut_2 : decode cX10_isOut 2 = .ok (.iconst 2, 1) := by decide +kernel
theorem dX10_isOut_3 : decode cX10_isOut 3 = .ok (.invokevirtual 232, 3) := by decide +kernel
theorem dX10_isOut_6 : decode cX10_isOut 6 = .ok (.ifCond .ne 16, 3) := by decide +kernel
theorem dX10_isOut_9 : decode cX10_isOut 9 = .ok (.aload_n 0, 1) := by decide +kernel
theorem dX10_isOut_10 : decode cX10_isOut 10 = .ok (.iload_n 1, 1) := by decide +kernel
theorem dX10_isOut_11 : decode cX10_isOut 11 = .ok (.iconst 4, 1) := by decide +kernel
theorem dX10_isOut_12 : decode cX10_isOut 12 = .ok (.invokevirtual 232, 3) := by decide +kernel
theorem dX10_isOut_15 : decode cX10_isOut 15 = .ok (.ifCond .ne 7, 3) := by decide +kernel
theorem dX10_isOut_18 : decode cX10_isOut 18 = .ok (.iconst 1, 1) := by decide +kernel
theorem dX10_isOut_19 : decode cX10_isOut 19 = .ok (.goto 4, 3) := by decide +kernel
theorem dX10_isOut_22 : decode cX10_isOut 22 = .ok (.iconst 0, 1) := by decide +kernel
theorem dX10_isOut_23 : decode cX10_isOut 23 = .ok (.ireturn, 1) := by decide +kernel
theorem dX10_runsOut_0 : decode cX10_runsOut 0 = .ok (.aload_n 0, 1) := by decide +kernel
theorem dX10_runsOut_1 : decode cX10_runsOut 1 = .ok (.iload_n 1, 1) := by decide +kernel
theorem dX10_runsOut_2 : decode cX10_runsOut 2 = .ok (.invokevirtual 229, 3) := by decide +kernel
theorem dX10_runsOut_5 : decode cX10_runsOut 5 = .ok (.ifCond .eq 5, 3) := by decide +kernel
theorem dX10_runsOut_8 : decode cX10_runsOut 8 = .ok (.iconst 0, 1) := by decide +kernel
theorem dX10_runsOut_9 : decode cX10_runsOut 9 = .ok (.ireturn, 1) := by decide +kernel
theorem dX10_runsOut_10 : decode cX10_runsOut 10 = .ok (.aload_n 0, 1) := by decide +kernel
theorem dX10_runsOut_11 : decode cX10_runsOut 11 = .ok (.invokevirtual 395, 3) := by decide +kernel
theorem dX10_runsOut_14 : decode cX10_runsOut 14 = .ok (.iconst 0, 1) := by decide +kernel
theorem dX10_runsOut_15 : decode cX10_runsOut 15 = .ok (.istore_n 2, 1) := by decide +kernel
theorem dX10_runsOut_16 : decode cX10_runsOut 16 = .ok (.iconst 1, 1) := by decide +kernel
theorem dX10_runsOut_17 : decode cX10_runsOut 17 = .ok (.istore_n 3, 1) := by decide +kernel
theorem dX10_runsOut_18 : decode cX10_runsOut 18 = .ok (.iload_n 3, 1) := by decide +kernel
theorem dX10_runsOut_19 : decode cX10_runsOut 19 = .ok (.ifCond .eq 48, 3) := by decide +kernel
theorem dX10_runsOut_22 : decode cX10_runsOut 22 = .ok (.aload_n 0, 1) := by decide +kernel
theorem dX10_runsOut_23 : decode cX10_runsOut 23 = .ok (.iload_n 1, 1) := by decide +kernel
theorem dX10_runsOut_24 : decode cX10_runsOut 24 = .ok (.invokevirtual 416, 3) := by decide +kernel
theorem dX10_runsOut_27 : decode cX10_runsOut 27 = .ok (.ifCond .ne 40, 3) := by decide +kernel
theorem dX10_runsOut_30 : decode cX10_runsOut 30 = .ok (.iload_n 2, 1) := by decide +kernel
theorem dX10_runsOut_31 : decode cX10_runsOut 31 = .ok (.sipush 1000, 3) := by decide +kernel
theorem dX10_runsOut_34 : decode cX10_runsOut 34 = .ok (.if_icmp .ge 16, 3) := by decide +kernel
theorem dX10_runsOut_37 : decode cX10_runsOut 37 = .ok (.aload_n 0, 1) := by decide +kernel
theorem dX10_runsOut_38 : decode cX10_runsOut 38 = .ok (.iconst 1, 1) := by decide +kernel
theorem dX10_runsOut_39 : decode cX10_runsOut 39 = .ok (.invokevirtual 374, 3) := by decide +kernel
theorem dX10_runsOut_42 : decode cX10_runsOut 42 = .ok (.iconst 1, 1) := by decide +kernel
theorem dX10_runsOut_43 : decode cX10_runsOut 43 = .ok (.if_icmp .ne 7, 3) := by decide +kernel
theorem dX10_runsOut_46 : decode cX10_runsOut 46 = .ok (.iconst 1, 1) := by decide +kernel
theorem dX10_runsOut_47 : decode cX10_runsOut 47 = .ok (.goto 4, 3) := by decide +kernel
theorem dX10_runsOut_50 : decode cX10_runsOut 50 = .ok (.iconst 0, 1) := by decide +kernel
theorem dX10_runsOut_51 : decode cX10_runsOut 51 = .ok (.istore_n 3, 1) := by decide +kernel
theorem dX10_runsOut_52 : decode cX10_runsOut 52 = .ok (.iload_n 2, 1) := by decide +kernel
theorem dX10_runsOut_53 : decode cX10_runsOut 53 = .ok (.iload_n 3, 1) := by decide +kernel
theorem dX10_runsOut_54 : decode cX10_runsOut 54 = .ok (.ifCond .eq 7, 3) := by decide +kernel
theorem dX10_runsOut_57 : decode cX10_runsOut 57 = .ok (.iconst 1, 1) := by decide +kernel
theorem dX10_runsOut_58 : decode cX10_runsOut 58 = .ok (.goto 4, 3) := by decide +kernel
theorem dX10_runsOut_61 : decode cX10_runsOut 61 = .ok (.iconst 0, 1) := by decide +kernel
theorem dX10_runsOut_62 : decode cX10_runsOut 62 = .ok (.iadd, 1) := by decide +kernel
theorem dX10_runsOut_63 : decode cX10_runsOut 63 = .ok (.istore_n 2, 1) := by decide +kernel
theorem dX10_runsOut_64 : decode cX10_runsOut 64 = .ok (.goto (-46), 3) := by decide +kernel
theorem dX10_runsOut_67 : decode cX10_runsOut 67 = .ok (.aload_n 0, 1) := by decide +kernel
theorem dX10_runsOut_68 : decode cX10_runsOut 68 = .ok (.iload_n 1, 1) := by decide +kernel
theorem dX10_runsOut_69 : decode cX10_runsOut 69 = .ok (.invokevirtual 416, 3) := by decide +kernel
theorem dX10_runsOut_72 : decode cX10_runsOut 72 = .ok (.istore 4, 2) := by decide +kernel
theorem dX10_runsOut_74 : decode cX10_runsOut 74 = .ok (.aload_n 0, 1) := by decide +kernel
theorem dX10_runsOut_75 : decode cX10_runsOut 75 = .ok (.invokevirtual 398, 3) := by decide +kernel
theorem dX10_runsOut_78 : decode cX10_runsOut 78 = .ok (.iload 4, 2) := by decide +kernel
theorem dX10_runsOut_80 : decode cX10_runsOut 80 = .ok (.ifCond .eq 7, 3) := by decide +kernel
theorem dX10_runsOut_83 : decode cX10_runsOut 83 = .ok (.iload_n 2, 1) := by decide +kernel
theorem dX10_runsOut_84 : decode cX10_runsOut 84 = .ok (.goto 4, 3) := by decide +kernel
theorem dX10_runsOut_87 : decode cX10_runsOut 87 = .ok (.iconst (-1), 1) := by decide +kernel
theorem dX10_runsOut_88 : decode cX10_runsOut 88 = .ok (.ireturn, 1) := by decide +kernel
theorem dX10_moreOf_0 : decode cX10_moreOf 0 = .ok (.aload_n 0, 1) := by decide +kernel
theorem dX10_moreOf_1 : decode cX10_moreOf 1 = .ok (.invokevirtual 395, 3) := by decide +kernel
theorem dX10_moreOf_4 : decode cX10_moreOf 4 = .ok (.aload_n 0, 1) := by decide +kernel
theorem dX10_moreOf_5 : decode cX10_moreOf 5 = .ok (.getfield 9, 3) := by decide +kernel
theorem dX10_moreOf_8 : decode cX10_moreOf 8 = .ok (.iload_n 1, 1) := by decide +kernel
theorem dX10_moreOf_9 : decode cX10_moreOf 9 = .ok (.iaload, 1) := by decide +kernel
theorem dX10_moreOf_10 : decode cX10_moreOf 10 = .ok (.istore_n 2, 1) := by decide +kernel
theorem dX10_moreOf_11 : decode cX10_moreOf 11 = .ok (.aload_n 0, 1) := by decide +kernel
theorem dX10_moreOf_12 : decode cX10_moreOf 12 = .ok (.sipush 1000, 3) := by decide +kernel
theorem dX10_moreOf_15 : decode cX10_moreOf 15 = .ok (.invokevirtual 374, 3) := by decide +kernel
theorem dX10_moreOf_18 : decode cX10_moreOf 18 = .ok (.istore_n 3, 1) := by decide +kernel
theorem dX10_moreOf_19 : decode cX10_moreOf 19 = .ok (.aload_n 0, 1) := by decide +kernel
theorem dX10_moreOf_20 : decode cX10_moreOf 20 = .ok (.getfield 9, 3) := by decide +kernel
theorem dX10_moreOf_23 : decode cX10_moreOf 23 = .ok (.iload_n 1, 1) := by decide +kernel
theorem dX10_moreOf_24 : decode cX10_moreOf 24 = .ok (.iaload, 1) := by decide +kernel
theorem dX10_moreOf_25 : decode cX10_moreOf 25 = .ok (.iload_n 2, 1) := by decide +kernel
theorem dX10_moreOf_26 : decode cX10_moreOf 26 = .ok (.isub, 1) := by decide +kernel
theorem dX10_moreOf_27 : decode cX10_moreOf 27 = .ok (.istore 4, 2) := by decide +kernel
theorem dX10_moreOf_29 : decode cX10_moreOf 29 = .ok (.aload_n 0, 1) := by decide +kernel
theorem dX10_moreOf_30 : decode cX10_moreOf 30 = .ok (.invokevirtual 398, 3) := by decide +kernel
theorem dX10_moreOf_33 : decode cX10_moreOf 33 = .ok (.iload 4, 2) := by decide +kernel
theorem dX10_moreOf_35 : decode cX10_moreOf 35 = .ok (.ireturn, 1) := by decide +kernel
theorem dX10_splicesAhead_0 : decode cX10_splicesAhead 0 = .ok (.aload_n 0, 1) := by decide +kernel
theorem dX10_splicesAhead_1 : decode cX10_splicesAhead 1 = .ok (.invokevirtual 195, 3) := by decide +kernel
theorem dX10_splicesAhead_4 : decode cX10_splicesAhead 4 = .ok (.ifCond .eq 12, 3) := by decide +kernel
theorem dX10_splicesAhead_7 : decode cX10_splicesAhead 7 = .ok (.aload_n 0, 1) := by decide +kernel
theorem dX10_splicesAhead_8 : decode cX10_splicesAhead 8 = .ok (.bipush 27, 2) := by decide +kernel
theorem dX10_splicesAhead_10 : decode cX10_splicesAhead 10 = .ok (.invokevirtual 419, 3) := by decide +kernel
theorem dX10_splicesAhead_13 : decode cX10_splicesAhead 13 = .ok (.goto 4, 3) := by decide +kernel
theorem dX10_splicesAhead_16 : decode cX10_splicesAhead 16 = .ok (.iconst 0, 1) := by decide +kernel
theorem dX10_splicesAhead_17 : decode cX10_splicesAhead 17 = .ok (.ireturn, 1) := by decide +kernel
theorem dX10_changesAhead_0 : decode cX10_changesAhead 0 = .ok (.aload_n 0, 1) := by decide +kernel
theorem dX10_changesAhead_1 : decode cX10_changesAhead 1 = .ok (.invokevirtual 195, 3) := by decide +kernel
theorem dX10_changesAhead_4 : decode cX10_changesAhead 4 = .ok (.ifCond .eq 12, 3) := by decide +kernel
theorem dX10_changesAhead_7 : decode cX10_changesAhead 7 = .ok (.aload_n 0, 1) := by decide +kernel
theorem dX10_changesAhead_8 : decode cX10_changesAhead 8 = .ok (.bipush 31, 2) := by decide +kernel
theorem dX10_changesAhead_10 : decode cX10_changesAhead 10 = .ok (.invokevirtual 419, 3) := by decide +kernel
theorem dX10_changesAhead_13 : decode cX10_changesAhead 13 = .ok (.goto 4, 3) := by decide +kernel
theorem dX10_changesAhead_16 : decode cX10_changesAhead 16 = .ok (.iconst 0, 1) := by decide +kernel
theorem dX10_changesAhead_17 : decode cX10_changesAhead 17 = .ok (.ireturn, 1) := by decide +kernel
theorem dX10_cleansAhead_0 : decode cX10_cleansAhead 0 = .ok (.aload_n 0, 1) := by decide +kernel
theorem dX10_cleansAhead_1 : decode cX10_cleansAhead 1 = .ok (.invokevirtual 195, 3) := by decide +kernel
theorem dX10_cleansAhead_4 : decode cX10_cleansAhead 4 = .ok (.ifCond .eq 12, 3) := by decide +kernel
theorem dX10_cleansAhead_7 : decode cX10_cleansAhead 7 = .ok (.aload_n 0, 1) := by decide +kernel
theorem dX10_cleansAhead_8 : decode cX10_cleansAhead 8 = .ok (.bipush 36, 2) := by decide +kernel
theorem dX10_cleansAhead_10 : decode cX10_cleansAhead 10 = .ok (.invokevirtual 419, 3) := by decide +kernel
theorem dX10_cleansAhead_13 : decode cX10_cleansAhead 13 = .ok (.goto 4, 3) := by decide +kernel
theorem dX10_cleansAhead_16 : decode cX10_cleansAhead 16 = .ok (.iconst 0, 1) := by decide +kernel
theorem dX10_cleansAhead_17 : decode cX10_cleansAhead 17 = .ok (.ireturn, 1) := by decide +kernel
theorem dX10_bestRetries_0 : decode cX10_bestRetries 0 = .ok (.aload_n 0, 1) := by decide +kernel
theorem dX10_bestRetries_1 : decode cX10_bestRetries 1 = .ok (.iconst 0, 1) := by decide +kernel
theorem dX10_bestRetries_2 : decode cX10_bestRetries 2 = .ok (.putfield 39, 3) := by decide +kernel
theorem dX10_bestRetries_5 : decode cX10_bestRetries 5 = .ok (.iconst (-1), 1) := by decide +kernel
theorem dX10_bestRetries_6 : decode cX10_bestRetries 6 = .ok (.istore_n 1, 1) := by decide +kernel
theorem dX10_bestRetries_7 : decode cX10_bestRetries 7 = .ok (.iconst 0, 1) := by decide +kernel
theorem dX10_bestRetries_8 : decode cX10_bestRetries 8 = .ok (.istore_n 2, 1) := by decide +kernel
theorem dX10_bestRetries_9 : decode cX10_bestRetries 9 = .ok (.iconst 0, 1) := by decide +kernel
theorem dX10_bestRetries_10 : decode cX10_bestRetries 10 = .ok (.istore_n 3, 1) := by decide +kernel
theorem dX10_bestRetries_11 : decode cX10_bestRetries 11 = .ok (.aload_n 0, 1) := by decide +kernel
theorem dX10_bestRetries_12 : decode cX10_bestRetries 12 = .ok (.invokevirtual 395, 3) := by decide +kernel
theorem dX10_bestRetries_15 : decode cX10_bestRetries 15 = .ok (.iconst 0, 1) := by decide +kernel
theorem dX10_bestRetries_16 : decode cX10_bestRetries 16 = .ok (.istore 4, 2) := by decide +kernel
theorem dX10_bestRetries_18 : decode cX10_bestRetries 18 = .ok (.iload 4, 2) := by decide +kernel
theorem dX10_bestRetries_20 : decode cX10_bestRetries 20 = .ok (.iconst 5, 1) := by decide +kernel
theorem dX10_bestRetries_21 : decode cX10_bestRetries 21 = .ok (.if_icmp .gt 83, 3) := by decide +kernel
theorem dX10_bestRetries_24 : decode cX10_bestRetries 24 = .ok (.aload_n 0, 1) := by decide +kernel
theorem dX10_bestRetries_25 : decode cX10_bestRetries 25 = .ok (.getfield 9, 3) := by decide +kernel
theorem dX10_bestRetries_28 : decode cX10_bestRetries 28 = .ok (.bipush 7, 2) := by decide +kernel
theorem dX10_bestRetries_30 : decode cX10_bestRetries 30 = .ok (.iload 4, 2) := by decide +kernel
theorem dX10_bestRetries_32 : decode cX10_bestRetries 32 = .ok (.iastore, 1) := by decide +kernel
theorem dX10_bestRetries_33 : decode cX10_bestRetries 33 = .ok (.aload_n 0, 1) := by decide +kernel
theorem dX10_bestRetries_34 : decode cX10_bestRetries 34 = .ok (.sipush 1000, 3) := by decide +kernel
theorem dX10_bestRetries_37 : decode cX10_bestRetries 37 = .ok (.invokevirtual 374, 3) := by decide +kernel
theorem dX10_bestRetries_40 : decode cX10_bestRetries 40 = .ok (.istore 5, 2) := by decide +kernel
theorem dX10_bestRetries_42 : decode cX10_bestRetries 42 = .ok (.aload_n 0, 1) := by decide +kernel
theorem dX10_bestRetries_43 : decode cX10_bestRetries 43 = .ok (.iconst (-1), 1) := by decide +kernel
theorem dX10_bestRetries_44 : decode cX10_bestRetries 44 = .ok (.iconst 1, 1) := by decide +kernel
theorem dX10_bestRetries_45 : decode cX10_bestRetries 45 = .ok (.invokevirtual 287, 3) := by decide +kernel
theorem dX10_bestRetries_48 : decode cX10_bestRetries 48 = .ok (.istore 6, 2) := by decide +kernel
theorem dX10_bestRetries_50 : decode cX10_bestRetries 50 = .ok (.aload_n 0, 1) := by decide +kernel
theorem dX10_bestRetries_51 : decode cX10_bestRetries 51 = .ok (.getfield 9, 3) := by decide +kernel
theorem dX10_bestRetries_54 : decode cX10_bestRetries 54 = .ok (.bipush 23, 2) := by decide +kernel
theorem dX10_bestRetries_56 : decode cX10_bestRetries 56 = .ok (.iaload, 1) := by decide +kernel
theorem dX10_bestRetries_57 : decode cX10_bestRetries 57 = .ok (.istore 7, 2) := by decide +kernel
theorem dX10_bestRetries_59 : decode cX10_bestRetries 59 = .ok (.aload_n 0, 1) := by decide +kernel
theorem dX10_bestRetries_60 : decode cX10_bestRetries 60 = .ok (.invokevirtual 398, 3) := by decide +kernel
theorem dX10_bestRetries_63 : decode cX10_bestRetries 63 = .ok (.iload_n 1, 1) := by decide +kernel
theorem dX10_bestRetries_64 : decode cX10_bestRetries 64 = .ok (.iconst (-1), 1) := by decide +kernel
theorem dX10_bestRetries_65 : decode cX10_bestRetries 65 = .ok (.if_icmp .eq 24, 3) := by decide +kernel
theorem dX10_bestRetries_68 : decode cX10_bestRetries 68 = .ok (.iload 6, 2) := by decide +kernel
theorem dX10_bestRetries_70 : decode cX10_bestRetries 70 = .ok (.iload_n 2, 1) := by decide +kernel
theorem dX10_bestRetries_71 : decode cX10_bestRetries 71 = .ok (.if_icmp .lt 27, 3) := by decide +kernel
theorem dX10_bestRetries_74 : decode cX10_bestRetries 74 = .ok (.iload 6, 2) := by decide +kernel
theorem dX10_bestRetries_76 : decode cX10_bestRetries 76 = .ok (.iload_n 2, 1) := by decide +kernel
theorem dX10_bestRetries_77 : decode cX10_bestRetries 77 = .ok (.if_icmp .ne 12, 3) := by decide +kernel
theorem dX10_bestRetries_80 : decode cX10_bestRetries 80 = .ok (.iload 7, 2) := by decide +kernel
theorem dX10_bestRetries_82 : decode cX10_bestRetries 82 = .ok (.iload_n 3, 1) := by decide +kernel
theorem dX10_bestRetries_83 : decode cX10_bestRetries 83 = .ok (.if_icmp .lt 6, 3) := by decide +kernel
theorem dX10_bestRetries_86 : decode cX10_bestRetries 86 = .ok (.goto 12, 3) := by decide +kernel
theorem dX10_bestRetries_89 : decode cX10_bestRetries 89 = .ok (.iload 4, 2) := by decide +kernel
theorem dX10_bestRetries_91 : decode cX10_bestRetries 91 = .ok (.istore_n 1, 1) := by decide +kernel
theorem dX10_bestRetries_92 : decode cX10_bestRetries 92 = .ok (.iload 6, 2) := by decide +kernel
theorem dX10_bestRetries_94 : decode cX10_bestRetries 94 = .ok (.istore_n 2, 1) := by decide +kernel
theorem dX10_bestRetries_95 : decode cX10_bestRetries 95 = .ok (.iload 7, 2) := by decide +kernel
theorem dX10_bestRetries_97 : decode cX10_bestRetries 97 = .ok (.istore_n 3, 1) := by decide +kernel
theorem dX10_bestRetries_98 : decode cX10_bestRetries 98 = .ok (.iinc 4 1, 3) := by decide +kernel
theorem dX10_bestRetries_101 : decode cX10_bestRetries 101 = .ok (.goto (-83), 3) := by decide +kernel
theorem dX10_bestRetries_104 : decode cX10_bestRetries 104 = .ok (.iload_n 1, 1) := by decide +kernel
theorem dX10_bestRetries_105 : decode cX10_bestRetries 105 = .ok (.ireturn, 1) := by decide +kernel
theorem dX10_dearestSpot_0 : decode cX10_dearestSpot 0 = .ok (.aload_n 0, 1) := by decide +kernel
theorem dX10_dearestSpot_1 : decode cX10_dearestSpot 1 = .ok (.iconst 0, 1) := by decide +kernel
theorem dX10_dearestSpot_2 : decode cX10_dearestSpot 2 = .ok (.putfield 39, 3) := by decide +kernel
theorem dX10_dearestSpot_5 : decode cX10_dearestSpot 5 = .ok (.iconst (-1), 1) := by decide +kernel
theorem dX10_dearestSpot_6 : decode cX10_dearestSpot 6 = .ok (.istore_n 1, 1) := by decide +kernel
theorem dX10_dearestSpot_7 : decode cX10_dearestSpot 7 = .ok (.iconst 0, 1) := by decide +kernel
theorem dX10_dearestSpot_8 : decode cX10_dearestSpot 8 = .ok (.istore_n 2, 1) := by decide +kernel
theorem dX10_dearestSpot_9 : decode cX10_dearestSpot 9 = .ok (.aload_n 0, 1) := by decide +kernel
theorem dX10_dearestSpot_10 : decode cX10_dearestSpot 10 = .ok (.invokevirtual 395, 3) := by decide +kernel
theorem dX10_dearestSpot_13 : decode cX10_dearestSpot 13 = .ok (.iconst 0, 1) := by decide +kernel
theorem dX10_dearestSpot_14 : decode cX10_dearestSpot 14 = .ok (.istore_n 3, 1) := by decide +kernel
theorem dX10_dearestSpot_15 : decode cX10_dearestSpot 15 = .ok (.iload_n 3, 1) := by decide +kernel
theorem dX10_dearestSpot_16 : decode cX10_dearestSpot 16 = .ok (.aload_n 0, 1) := by decide +kernel
theorem dX10_dearestSpot_17 : decode cX10_dearestSpot 17 = .ok (.getfield 9, 3) := by decide +kernel
theorem dX10_dearestSpot_20 : decode cX10_dearestSpot 20 = .ok (.bipush 19, 2) := by decide +kernel
theorem dX10_dearestSpot_22 : decode cX10_dearestSpot 22 = .ok (.iaload, 1) := by decide +kernel
theorem dX10_dearestSpot_23 : decode cX10_dearestSpot 23 = .ok (.if_icmp .ge 63, 3) := by decide +kernel
theorem dX10_dearestSpot_26 : decode cX10_dearestSpot 26 = .ok (.aload_n 0, 1) := by decide +kernel
theorem dX10_dearestSpot_27 : decode cX10_dearestSpot 27 = .ok (.iload_n 3, 1) := by decide +kernel
theorem dX10_dearestSpot_28 : decode cX10_dearestSpot 28 = .ok (.iconst 3, 1) := by decide +kernel
theorem dX10_dearestSpot_29 : decode cX10_dearestSpot 29 = .ok (.invokevirtual 268, 3) := by decide +kernel
theorem dX10_dearestSpot_32 : decode cX10_dearestSpot 32 = .ok (.ifCond .eq 6, 3) := by decide +kernel
theorem dX10_dearestSpot_35 : decode cX10_dearestSpot 35 = .ok (.goto 45, 3) := by decide +kernel
theorem dX10_dearestSpot_38 : decode cX10_dearestSpot 38 = .ok (.aload_n 0, 1) := by decide +kernel
theorem dX10_dearestSpot_39 : decode cX10_dearestSpot 39 = .ok (.iload_n 3, 1) := by decide +kernel
theorem dX10_dearestSpot_40 : decode cX10_dearestSpot 40 = .ok (.iconst 3, 1) := by decide +kernel
theorem dX10_dearestSpot_41 : decode cX10_dearestSpot 41 = .ok (.iconst 2, 1) := by decide +kernel
theorem dX10_dearestSpot_42 : decode cX10_dearestSpot 42 = .ok (.invokevirtual 271, 3) := by decide +kernel
theorem dX10_dearestSpot_45 : decode cX10_dearestSpot 45 = .ok (.aload_n 0, 1) := by decide +kernel
theorem dX10_dearestSpot_46 : decode cX10_dearestSpot 46 = .ok (.invokevirtual 404, 3) := by decide +kernel
theorem dX10_dearestSpot_49 : decode cX10_dearestSpot 49 = .ok (.istore 4, 2) := by decide +kernel
theorem dX10_dearestSpot_51 : decode cX10_dearestSpot 51 = .ok (.aload_n 0, 1) := by decide +kernel
theorem dX10_dearestSpot_52 : decode cX10_dearestSpot 52 = .ok (.invokevirtual 398, 3) := by decide +kernel
theorem dX10_dearestSpot_55 : decode cX10_dearestSpot 55 = .ok (.iload 4, 2) := by decide +kernel
theorem dX10_dearestSpot_57 : decode cX10_dearestSpot 57 = .ok (.iconst (-1), 1) := by decide +kernel
theorem dX10_dearestSpot_58 : decode cX10_dearestSpot 58 = .ok (.if_icmp .eq 22, 3) := by decide +kernel
theorem dX10_dearestSpot_61 : decode cX10_dearestSpot 61 = .ok (.iload_n 1, 1) := by decide +kernel
theorem dX10_dearestSpot_62 : decode cX10_dearestSpot 62 = .ok (.iconst (-1), 1) := by decide +kernel
theorem dX10_dearestSpot_63 : decode cX10_dearestSpot 63 = .ok (.if_icmp .eq 12, 3) := by decide +kernel
theorem dX10_dearestSpot_66 : decode cX10_dearestSpot 66 = .ok (.iload 4, 2) := by decide +kernel
theorem dX10_dearestSpot_68 : decode cX10_dearestSpot 68 = .ok (.iload_n 2, 1) := by decide +kernel
theorem dX10_dearestSpot_69 : decode cX10_dearestSpot 69 = .ok (.if_icmp .lt 6, 3) := by decide +kernel
theorem dX10_dearestSpot_72 : decode cX10_dearestSpot 72 = .ok (.goto 8, 3) := by decide +kernel
theorem dX10_dearestSpot_75 : decode cX10_dearestSpot 75 = .ok (.iload_n 3, 1) := by decide +kernel
theorem dX10_dearestSpot_76 : decode cX10_dearestSpot 76 = .ok (.istore_n 1, 1) := by decide +kernel
theorem dX10_dearestSpot_77 : decode cX10_dearestSpot 77 = .ok (.iload 4, 2) := by decide +kernel
theorem dX10_dearestSpot_79 : decode cX10_dearestSpot 79 = .ok (.istore_n 2, 1) := by decide +kernel
theorem dX10_dearestSpot_80 : decode cX10_dearestSpot 80 = .ok (.iinc 3 1, 3) := by decide +kernel
theorem dX10_dearestSpot_83 : decode cX10_dearestSpot 83 = .ok (.goto (-68), 3) := by decide +kernel
theorem dX10_dearestSpot_86 : decode cX10_dearestSpot 86 = .ok (.iload_n 1, 1) := by decide +kernel
theorem dX10_dearestSpot_87 : decode cX10_dearestSpot 87 = .ok (.ireturn, 1) := by decide +kernel
theorem dX10_endTimeWith_0 : decode cX10_endTimeWith 0 = .ok (.aload_n 0, 1) := by decide +kernel
theorem dX10_endTimeWith_1 : decode cX10_endTimeWith 1 = .ok (.iload_n 1, 1) := by decide +kernel
theorem dX10_endTimeWith_2 : decode cX10_endTimeWith 2 = .ok (.iconst 1, 1) := by decide +kernel
theorem dX10_endTimeWith_3 : decode cX10_endTimeWith 3 = .ok (.aload_n 0, 1) := by decide +kernel
theorem dX10_endTimeWith_4 : decode cX10_endTimeWith 4 = .ok (.iload_n 2, 1) := by decide +kernel
theorem dX10_endTimeWith_5 : decode cX10_endTimeWith 5 = .ok (.iconst 1, 1) := by decide +kernel
theorem dX10_endTimeWith_6 : decode cX10_endTimeWith 6 = .ok (.invokevirtual 232, 3) := by decide +kernel
theorem dX10_endTimeWith_9 : decode cX10_endTimeWith 9 = .ok (.invokevirtual 250, 3) := by decide +kernel
theorem dX10_endTimeWith_12 : decode cX10_endTimeWith 12 = .ok (.istore_n 3, 1) := by decide +kernel
theorem dX10_endTimeWith_13 : decode cX10_endTimeWith 13 = .ok (.aload_n 0, 1) := by decide +kernel
theorem dX10_endTimeWith_14 : decode cX10_endTimeWith 14 = .ok (.iload_n 2, 1) := by decide +kernel
theorem dX10_endTimeWith_15 : decode cX10_endTimeWith 15 = .ok (.iconst 1, 1) := by decide +kernel
theorem dX10_endTimeWith_16 : decode cX10_endTimeWith 16 = .ok (.iload_n 3, 1) := by decide +kernel
theorem dX10_endTimeWith_17 : decode cX10_endTimeWith 17 = .ok (.invokevirtual 250, 3) := by decide +kernel
theorem dX10_endTimeWith_20 : decode cX10_endTimeWith 20 = .ok (.istore_n 3, 1) := by decide +kernel
theorem dX10_endTimeWith_21 : decode cX10_endTimeWith 21 = .ok (.aload_n 0, 1) := by decide +kernel
theorem dX10_endTimeWith_22 : decode cX10_endTimeWith 22 = .ok (.invokevirtual 404, 3) := by decide +kernel
theorem dX10_endTimeWith_25 : decode cX10_endTimeWith 25 = .ok (.istore 4, 2) := by decide +kernel
theorem dX10_endTimeWith_27 : decode cX10_endTimeWith 27 = .ok (.aload_n 0, 1) := by decide +kernel
theorem dX10_endTimeWith_28 : decode cX10_endTimeWith 28 = .ok (.invokevirtual 398, 3) := by decide +kernel
theorem dX10_endTimeWith_31 : decode cX10_endTimeWith 31 = .ok (.iload 4, 2) := by decide +kernel
theorem dX10_endTimeWith_33 : decode cX10_endTimeWith 33 = .ok (.ireturn, 1) := by decide +kernel
theorem dX10_bestSwap_0 : decode cX10_bestSwap 0 = .ok (.aload_n 0, 1) := by decide +kernel
theorem dX10_bestSwap_1 : decode cX10_bestSwap 1 = .ok (.iconst 0, 1) := by decide +kernel
theorem dX10_bestSwap_2 : decode cX10_bestSwap 2 = .ok (.putfield 39, 3) := by decide +kernel
theorem dX10_bestSwap_5 : decode cX10_bestSwap 5 = .ok (.aload_n 0, 1) := by decide +kernel
theorem dX10_bestSwap_6 : decode cX10_bestSwap 6 = .ok (.invokevirtual 395, 3) := by decide +kernel
theorem dX10_bestSwap_9 : decode cX10_bestSwap 9 = .ok (.aload_n 0, 1) := by decide +kernel
theorem dX10_bestSwap_10 : decode cX10_bestSwap 10 = .ok (.invokevirtual 404, 3) := by decide +kernel
theorem dX10_bestSwap_13 : decode cX10_bestSwap 13 = .ok (.istore_n 1, 1) := by decide +kernel
theorem dX10_bestSwap_14 : decode cX10_bestSwap 14 = .ok (.aload_n 0, 1) := by decide +kernel
theorem dX10_bestSwap_15 : decode cX10_bestSwap 15 = .ok (.invokevirtual 398, 3) := by decide +kernel
theorem dX10_bestSwap_18 : decode cX10_bestSwap 18 = .ok (.iload_n 1, 1) := by decide +kernel
theorem dX10_bestSwap_19 : decode cX10_bestSwap 19 = .ok (.iconst (-1), 1) := by decide +kernel
theorem dX10_bestSwap_20 : decode cX10_bestSwap 20 = .ok (.if_icmp .ne 5, 3) := by decide +kernel
theorem dX10_bestSwap_23 : decode cX10_bestSwap 23 = .ok (.iconst (-1), 1) := by decide +kernel
theorem dX10_bestSwap_24 : decode cX10_bestSwap 24 = .ok (.ireturn, 1) := by decide +kernel
theorem dX10_bestSwap_25 : decode cX10_bestSwap 25 = .ok (.iconst (-1), 1) := by decide +kernel
theorem dX10_bestSwap_26 : decode cX10_bestSwap 26 = .ok (.istore_n 2, 1) := by decide +kernel
theorem dX10_bestSwap_27 : decode cX10_bestSwap 27 = .ok (.iconst 0, 1) := by decide +kernel
theorem dX10_bestSwap_28 : decode cX10_bestSwap 28 = .ok (.istore_n 3, 1) := by decide +kernel
theorem dX10_bestSwap_29 : decode cX10_bestSwap 29 = .ok (.iload_n 3, 1) := by decide +kernel
theorem dX10_bestSwap_30 : decode cX10_bestSwap 30 = .ok (.aload_n 0, 1) := by decide +kernel
theorem dX10_bestSwap_31 : decode cX10_bestSwap 31 = .ok (.getfield 9, 3) := by decide +kernel
theorem dX10_bestSwap_34 : decode cX10_bestSwap 34 = .ok (.bipush 18, 2) := by decide +kernel
theorem dX10_bestSwap_36 : decode cX10_bestSwap 36 = .ok (.iaload, 1) := by decide +kernel
theorem dX10_bestSwap_37 : decode cX10_bestSwap 37 = .ok (.if_icmp .ge 67, 3) := by decide +kernel
theorem dX10_bestSwap_40 : decode cX10_bestSwap 40 = .ok (.iload_n 3, 1) := by decide +kernel
theorem dX10_bestSwap_41 : decode cX10_bestSwap 41 = .ok (.iconst 1, 1) := by decide +kernel
theorem dX10_bestSwap_42 : decode cX10_bestSwap 42 = .ok (.iadd, 1) := by decide +kernel
theorem dX10_bestSwap_43 : decode cX10_bestSwap 43 = .ok (.istore 4, 2) := by decide +kernel
theorem dX10_bestSwap_45 : decode cX10_bestSwap 45 = .ok (.iload 4, 2) := by decide +kernel
theorem dX10_bestSwap_47 : decode cX10_bestSwap 47 = .ok (.aload_n 0, 1) := by decide +kernel
theorem dX10_bestSwap_48 : decode cX10_bestSwap 48 = .ok (.getfield 9, 3) := by decide +kernel
theorem dX10_bestSwap_51 : decode cX10_bestSwap 51 = .ok (.bipush 18, 2) := by decide +kernel
theorem dX10_bestSwap_53 : decode cX10_bestSwap 53 = .ok (.iaload, 1) := by decide +kernel
theorem dX10_bestSwap_54 : decode cX10_bestSwap 54 = .ok (.if_icmp .ge 44, 3) := by decide +kernel
theorem dX10_bestSwap_57 : decode cX10_bestSwap 57 = .ok (.aload_n 0, 1) := by decide +kernel
theorem dX10_bestSwap_58 : decode cX10_bestSwap 58 = .ok (.iload_n 3, 1) := by decide +kernel
theorem dX10_bestSwap_59 : decode cX10_bestSwap 59 = .ok (.iload 4, 2) := by decide +kernel
theorem dX10_bestSwap_61 : decode cX10_bestSwap 61 = .ok (.invokevirtual 422, 3) := by decide +kernel
theorem dX10_bestSwap_64 : decode cX10_bestSwap 64 = .ok (.istore 5, 2) := by decide +kernel
theorem dX10_bestSwap_66 : decode cX10_bestSwap 66 = .ok (.iload 5, 2) := by decide +kernel
theorem dX10_bestSwap_68 : decode cX10_bestSwap 68 = .ok (.iconst (-1), 1) := by decide +kernel
theorem dX10_bestSwap_69 : decode cX10_bestSwap 69 = .ok (.if_icmp .eq 23, 3) := by decide +kernel
theorem dX10_bestSwap_72 : decode cX10_bestSwap 72 = .ok (.iload 5, 2) := by decide +kernel
theorem dX10_bestSwap_74 : decode cX10_bestSwap 74 = .ok (.iload_n 1, 1) := by decide +kernel
theorem dX10_bestSwap_75 : decode cX10_bestSwap 75 = .ok (.if_icmp .lt 6, 3) := by decide +kernel
theorem dX10_bestSwap_78 : decode cX10_bestSwap 78 = .ok (.goto 14, 3) := by decide +kernel
theorem dX10_bestSwap_81 : decode cX10_bestSwap 81 = .ok (.bipush 100, 2) := by decide +kernel
theorem dX10_bestSwap_83 : decode cX10_bestSwap 83 = .ok (.iload_n 3, 1) := by decide +kernel
theorem dX10_bestSwap_84 : decode cX10_bestSwap 84 = .ok (.imul, 1) := by decide +kernel
theorem dX10_bestSwap_85 : decode cX10_bestSwap 85 = .ok (.iload 4, 2) := by decide +kernel
theorem dX10_bestSwap_87 : decode cX10_bestSwap 87 = .ok (.iadd, 1) := by decide +kernel
theorem dX10_bestSwap_88 : decode cX10_bestSwap 88 = .ok (.istore_n 2, 1) := by decide +kernel
theorem dX10_bestSwap_89 : decode cX10_bestSwap 89 = .ok (.iload 5, 2) := by decide +kernel
theorem dX10_bestSwap_91 : decode cX10_bestSwap 91 = .ok (.istore_n 1, 1) := by decide +kernel
theorem dX10_bestSwap_92 : decode cX10_bestSwap 92 = .ok (.iinc 4 1, 3) := by decide +kernel
theorem dX10_bestSwap_95 : decode cX10_bestSwap 95 = .ok (.goto (-50), 3) := by decide +kernel
theorem dX10_bestSwap_98 : decode cX10_bestSwap 98 = .ok (.iinc 3 1, 3) := by decide +kernel
theorem dX10_bestSwap_101 : decode cX10_bestSwap 101 = .ok (.goto (-72), 3) := by decide +kernel
theorem dX10_bestSwap_104 : decode cX10_bestSwap 104 = .ok (.iload_n 2, 1) := by decide +kernel
theorem dX10_bestSwap_105 : decode cX10_bestSwap 105 = .ok (.ireturn, 1) := by decide +kernel
theorem dX10_noSlot_0 : decode cX10_noSlot 0 = .ok (.aload_n 0, 1) := by decide +kernel
theorem dX10_noSlot_1 : decode cX10_noSlot 1 = .ok (.iconst 0, 1) := by decide +kernel
theorem dX10_noSlot_2 : decode cX10_noSlot 2 = .ok (.putfield 39, 3) := by decide +kernel
theorem dX10_noSlot_5 : decode cX10_noSlot 5 = .ok (.aload_n 0, 1) := by decide +kernel
theorem dX10_noSlot_6 : decode cX10_noSlot 6 = .ok (.iload_n 1, 1) := by decide +kernel
theorem dX10_noSlot_7 : decode cX10_noSlot 7 = .ok (.i2l, 1) := by decide +kernel
theorem dX10_noSlot_8 : decode cX10_noSlot 8 = .ok (.lconst 0, 1) := by decide +kernel
theorem dX10_noSlot_9 : decode cX10_noSlot 9 = .ok (.lconst 1, 1) := by decide +kernel
theorem dX10_noSlot_10 : decode cX10_noSlot 10 = .ok (.invokestatic 59, 3) := by decide +kernel
theorem dX10_noSlot_13 : decode cX10_noSlot 13 = .ok (.ifCond .ne 7, 3) := by decide +kernel
theorem dX10_noSlot_16 : decode cX10_noSlot 16 = .ok (.iconst 1, 1) := by decide +kernel
theorem dX10_noSlot_17 : decode cX10_noSlot 17 = .ok (.goto 4, 3) := by decide +kernel
theorem dX10_noSlot_20 : decode cX10_noSlot 20 = .ok (.iconst 0, 1) := by decide +kernel
theorem dX10_noSlot_21 : decode cX10_noSlot 21 = .ok (.iconst 1, 1) := by decide +kernel
theorem dX10_noSlot_22 : decode cX10_noSlot 22 = .ok (.invokevirtual 200, 3) := by decide +kernel
theorem dX10_noSlot_25 : decode cX10_noSlot 25 = .ok (.ireturn, 1) := by decide +kernel
theorem dX10_saveSnapshot_0 : decode cX10_saveSnapshot 0 = .ok (.aload_n 0, 1) := by decide +kernel
theorem dX10_saveSnapshot_1 : decode cX10_saveSnapshot 1 = .ok (.iload_n 1, 1) := by decide +kernel
theorem dX10_saveSnapshot_2 : decode cX10_saveSnapshot 2 = .ok (.invokevirtual 425, 3) := by decide +kernel
theorem dX10_saveSnapshot_5 : decode cX10_saveSnapshot 5 = .ok (.ifCond .eq 5, 3) := by decide +kernel
theorem dX10_saveSnapshot_8 : decode cX10_saveSnapshot 8 = .ok (.iconst 0, 1) := by decide +kernel
theorem dX10_saveSnapshot_9 : decode cX10_saveSnapshot 9 = .ok (.ireturn, 1) := by decide +kernel
theorem dX10_saveSnapshot_10 : decode cX10_saveSnapshot 10 = .ok (.aload_n 0, 1) := by decide +kernel
theorem dX10_saveSnapshot_11 : decode cX10_saveSnapshot 11 = .ok (.getfield 9, 3) := by decide +kernel
theorem dX10_saveSnapshot_14 : decode cX10_saveSnapshot 14 = .ok (.iload_n 1, 1) := by decide +kernel
theorem dX10_saveSnapshot_15 : decode cX10_saveSnapshot 15 = .ok (.ifCond .ne 10, 3) := by decide +kernel
theorem dX10_saveSnapshot_18 : decode cX10_saveSnapshot 18 = .ok (.aload_n 0, 1) := by decide +kernel
theorem dX10_saveSnapshot_19 : decode cX10_saveSnapshot 19 = .ok (.getfield 19, 3) := by decide +kernel
theorem dX10_saveSnapshot_22 : decode cX10_saveSnapshot 22 = .ok (.goto 7, 3) := by decide +kernel
theorem dX10_saveSnapshot_25 : decode cX10_saveSnapshot 25 = .ok (.aload_n 0, 1) := by decide +kernel
theorem dX10_saveSnapshot_26 : decode cX10_saveSnapshot 26 = .ok (.getfield 22, 3) := by decide +kernel
theorem dX10_saveSnapshot_29 : decode cX10_saveSnapshot 29 = .ok (.invokestatic 191, 3) := by decide +kernel
theorem dX10_saveSnapshot_32 : decode cX10_saveSnapshot 32 = .ok (.aload_n 0, 1) := by decide +kernel
theorem dX10_saveSnapshot_33 : decode cX10_saveSnapshot 33 = .ok (.getfield 25, 3) := by decide +kernel
theorem dX10_saveSnapshot_36 : decode cX10_saveSnapshot 36 = .ok (.iload_n 1, 1) := by decide +kernel
theorem dX10_saveSnapshot_37 : decode cX10_saveSnapshot 37 = .ok (.iconst 1, 1) := by decide +kernel
theorem dX10_saveSnapshot_38 : decode cX10_saveSnapshot 38 = .ok (.bastore, 1) := by decide +kernel
theorem dX10_saveSnapshot_39 : decode cX10_saveSnapshot 39 = .ok (.aload_n 0, 1) := by decide +kernel
theorem dX10_saveSnapshot_40 : decode cX10_saveSnapshot 40 = .ok (.getfield 9, 3) := by decide +kernel
theorem dX10_saveSnapshot_43 : decode cX10_saveSnapshot 43 = .ok (.bipush 23, 2) := by decide +kernel
theorem dX10_saveSnapshot_45 : decode cX10_saveSnapshot 45 = .ok (.iaload, 1) := by decide +kernel
theorem dX10_saveSnapshot_46 : decode cX10_saveSnapshot 46 = .ok (.ireturn, 1) := by decide +kernel
theorem dX10_restoreSnapshot_0 : decode cX10_restoreSnapshot 0 = .ok (.aload_n 0, 1) := by decide +kernel
theorem dX10_restoreSnapshot_1 : decode cX10_restoreSnapshot 1 = .ok (.iload_n 1, 1) := by decide +kernel
theorem dX10_restoreSnapshot_2 : decode cX10_restoreSnapshot 2 = .ok (.invokevirtual 425, 3) := by decide +kernel
theorem dX10_restoreSnapshot_5 : decode cX10_restoreSnapshot 5 = .ok (.ifCond .eq 5, 3) := by decide +kernel
theorem dX10_restoreSnapshot_8 : decode cX10_restoreSnapshot 8 = .ok (.iconst 0, 1) := by decide +kernel
theorem dX10_restoreSnapshot_9 : decode cX10_restoreSnapshot 9 = .ok (.ireturn, 1) := by decide +kernel
theorem dX10_restoreSnapshot_10 : decode cX10_restoreSnapshot 10 = .ok (.aload_n 0, 1) := by decide +kernel
theorem dX10_restoreSnapshot_11 : decode cX10_restoreSnapshot 11 = .ok (.getfield 25, 3) := by decide +kernel
theorem dX10_restoreSnapshot_14 : decode cX10_restoreSnapshot 14 = .ok (.iload_n 1, 1) := by decide +kernel
theorem dX10_restoreSnapshot_15 : decode cX10_restoreSnapshot 15 = .ok (.baload, 1) := by decide +kernel
theorem dX10_restoreSnapshot_16 : decode cX10_restoreSnapshot 16 = .ok (.ifCond .ne 5, 3) := by decide +kernel
theorem dX10_restoreSnapshot_19 : decode cX10_restoreSnapshot 19 = .ok (.iconst (-1), 1) := by decide +kernel
theorem dX10_restoreSnapshot_20 : decode cX10_restoreSnapshot 20 = .ok (.ireturn, 1) := by decide +kernel
theorem dX10_restoreSnapshot_21 : decode cX10_restoreSnapshot 21 = .ok (.iload_n 1, 1) := by decide +kernel
theorem dX10_restoreSnapshot_22 : decode cX10_restoreSnapshot 22 = .ok (.ifCond .ne 10, 3) := by decide +kernel
theorem dX10_restoreSnapshot_25 : decode cX10_restoreSnapshot 25 = .ok (.aload_n 0, 1) := by decide +kernel
theorem dX10_restoreSnapshot_26 : decode cX10_restoreSnapshot 26 = .ok (.getfield 19, 3) := by decide +kernel
theorem dX10_restoreSnapshot_29 : decode cX10_restoreSnapshot 29 = .ok (.goto 7, 3) := by decide +kernel
theorem dX10_restoreSnapshot_32 : decode cX10_restoreSnapshot 32 = .ok (.aload_n 0, 1) := by decide +kernel
theorem dX10_restoreSnapshot_33 : decode cX10_restoreSnapshot 33 = .ok (.getfield 22, 3) := by decide +kernel
theorem dX10_restoreSnapshot_36 : decode cX10_restoreSnapshot 36 = .ok (.aload_n 0, 1) := by decide +kernel
theorem dX10_restoreSnapshot_37 : decode cX10_restoreSnapshot 37 = .ok (.getfield 9, 3) := by decide +kernel
theorem dX10_restoreSnapshot_40 : decode cX10_restoreSnapshot 40 = .ok (.invokestatic 191, 3) := by decide +kernel
theorem dX10_restoreSnapshot_43 : decode cX10_restoreSnapshot 43 = .ok (.aload_n 0, 1) := by decide +kernel
theorem dX10_restoreSnapshot_44 : decode cX10_restoreSnapshot 44 = .ok (.getfield 9, 3) := by decide +kernel
theorem dX10_restoreSnapshot_47 : decode cX10_restoreSnapshot 47 = .ok (.bipush 23, 2) := by decide +kernel
theorem dX10_restoreSnapshot_49 : decode cX10_restoreSnapshot 49 = .ok (.iaload, 1) := by decide +kernel
theorem dX10_restoreSnapshot_50 : decode cX10_restoreSnapshot 50 = .ok (.ireturn, 1) := by decide +kernel
