/-! decode rows -/
theorem dX7_decide_0 : decode cX7_decide 0 = .ok (.aload_n 0, 1) := by decide +kernel
theorem dX7_decide_1 : decode cX7_decide 1 = .ok (.iload_n 1, 1) := by decide +kernel
theorem dX7_decide_2 : decode cX7_decide 2 = .ok (.putfield 45, 3) := by decide +kernel
theorem dX7_decide_5 : decode cX7_decide 5 = .ok (.aload_n 0, 1) := by decide +kernel
theorem dX7_decide_6 : decode cX7_decide 6 = .ok (.iload_n 2, 1) := by decide +kernel
theorem dX7_decide_7 : decode cX7_decide 7 = .ok (.putfield 49, 3) := by decide +kernel
theorem dX7_decide_10 : decode cX7_decide 10 = .ok (.aload_n 0, 1) := by decide +kernel
theorem dX7_decide_11 : decode cX7_decide 11 = .ok (.iload_n 3, 1) := by decide +kernel
theorem dX7_decide_12 : decode cX7_decide 12 = .ok (.putfield 52, 3) := by decide +kernel
theorem dX7_decide_15 : decode cX7_decide 15 = .ok (.iconst 1, 1) := by decide +kernel
theorem dX7_decide_16 : decode cX7_decide 16 = .ok (.ireturn, 1) := by decide +kernel
theorem dX7_findLoad_0 : decode cX7_findLoad 0 = .ok (.aload_n 0, 1) := by decide +kernel
theorem dX7_findLoad_1 : decode cX7_findLoad 1 = .ok (.lload_n 1, 1) := by decide +kernel
theorem dX7_findLoad_2 : decode cX7_findLoad 2 = .ok (.invokevirtual 59, 3) := by decide +kernel
theorem dX7_findLoad_5 : decode cX7_findLoad 5 = .ok (.istore_n 3, 1) := by decide +kernel
theorem dX7_findLoad_6 : decode cX7_findLoad 6 = .ok (.iconst 0, 1) := by decide +kernel
theorem dX7_findLoad_7 : decode cX7_findLoad 7 = .ok (.istore 4, 2) := by decide +kernel
theorem dX7_findLoad_9 : decode cX7_findLoad 9 = .ok (.iload 4, 2) := by decide +kernel
theorem dX7_findLoad_11 : decode cX7_findLoad 11 = .ok (.aload_n 0, 1) := by decide +kernel
theorem dX7_findLoad_12 : decode cX7_findLoad 12 = .ok (.getfield 9, 3) := by decide +kernel
theorem dX7_findLoad_15 : decode cX7_findLoad 15 = .ok (.getfield 63, 3) := by decide +kernel
theorem dX7_findLoad_18 : decode cX7_findLoad 18 = .ok (.if_icmp .ge 42, 3) := by decide +kernel
theorem dX7_findLoad_21 : decode cX7_findLoad 21 = .ok (.iload_n 3, 1) := by decide +kernel
theorem dX7_findLoad_22 : decode cX7_findLoad 22 = .ok (.ifCond .eq 38, 3) := by decide +kernel
theorem dX7_findLoad_25 : decode cX7_findLoad 25 = .ok (.aload_n 0, 1) := by decide +kernel
theorem dX7_findLoad_26 : decode cX7_findLoad 26 = .ok (.getfield 9, 3) := by decide +kernel
theorem dX7_findLoad_29 : decode cX7_findLoad 29 = .ok (.getfield 66, 3) := by decide +kernel
theorem dX7_findLoad_32 : decode cX7_findLoad 32 = .ok (.iload 4, 2) := by decide +kernel
theorem dX7_findLoad_34 : decode cX7_findLoad 34 = .ok (.aaload, 1) := by decide +kernel
theorem dX7_findLoad_35 : decode cX7_findLoad 35 = .ok (.getfield 70, 3) := by decide +kernel
theorem dX7_findLoad_38 : decode cX7_findLoad 38 = .ok (.iconst (-1), 1) := by decide +kernel
theorem dX7_findLoad_39 : decode cX7_findLoad 39 = .ok (.if_icmp .ne 15, 3) := by decide +kernel
theorem dX7_findLoad_42 : decode cX7_findLoad 42 = .ok (.aload_n 0, 1) := by decide +kernel
theorem dX7_findLoad_43 : decode cX7_findLoad 43 = .ok (.iload 4, 2) := by decide +kernel
theorem dX7_findLoad_45 : decode cX7_findLoad 45 = .ok (.iload_n 3, 1) := by decide +kernel
theorem dX7_findLoad_46 : decode cX7_findLoad 46 = .ok (.invokevirtual 75, 3) := by decide +kernel
theorem dX7_findLoad_49 : decode cX7_findLoad 49 = .ok (.ifCond .eq 5, 3) := by decide +kernel
theorem dX7_findLoad_52 : decode cX7_findLoad 52 = .ok (.iconst 1, 1) := by decide +kernel
theorem dX7_findLoad_53 : decode cX7_findLoad 53 = .ok (.ireturn, 1) := by decide +kernel
theorem dX7_findLoad_54 : decode cX7_findLoad 54 = .ok (.iinc 4 1, 3) := by decide +kernel
theorem dX7_findLoad_57 : decode cX7_findLoad 57 = .ok (.goto (-48), 3) := by decide +kernel
theorem dX7_findLoad_60 : decode cX7_findLoad 60 = .ok (.iconst 0, 1) := by decide +kernel
theorem dX7_findLoad_61 : decode cX7_findLoad 61 = .ok (.ireturn, 1) := by decide +kernel
theorem dX7_kindsToLoad_0 : decode cX7_kindsToLoad 0 = .ok (.iconst 0, 1) := by decide +kernel
theorem dX7_kindsToLoad_1 : decode cX7_kindsToLoad 1 = .ok (.istore_n 3, 1) := by decide +kernel
theorem dX7_kindsToLoad_2 : decode cX7_kindsToLoad 2 = .ok (.iconst 0, 1) := by decide +kernel
theorem dX7_kindsToLoad_3 : decode cX7_kindsToLoad 3 = .ok (.istore 4, 2) := by decide +kernel
theorem dX7_kindsToLoad_5 : decode cX7_kindsToLoad 5 = .ok (.iload 4, 2) := by decide +kernel
theorem dX7_kindsToLoad_7 : decode cX7_kindsToLoad 7 = .ok (.aload_n 0, 1) := by decide +kernel
theorem dX7_kindsToLoad_8 : decode cX7_kindsToLoad 8 = .ok (.getfield 9, 3) := by decide +kernel
theorem dX7_kindsToLoad_11 : decode cX7_kindsToLoad 11 = .ok (.getfield 79, 3) := by decide +kernel
theorem dX7_kindsToLoad_14 : decode cX7_kindsToLoad 14 = .ok (.if_icmp .ge 81, 3) := by decide +kernel
theorem dX7_kindsToLoad_17 : decode cX7_kindsToLoad 17 = .ok (.aload_n 0, 1) := by decide +kernel
theorem dX7_kindsToLoad_18 : decode cX7_kindsToLoad 18 = .ok (.getfield 9, 3) := by decide +kernel
theorem dX7_kindsToLoad_21 : decode cX7_kindsToLoad 21 = .ok (.getfield 82, 3) := by decide +kernel
theorem dX7_kindsToLoad_24 : decode cX7_kindsToLoad 24 = .ok (.iload 4, 2) := by decide +kernel
theorem dX7_kindsToLoad_26 : decode cX7_kindsToLoad 26 = .ok (.aaload, 1) := by decide +kernel
theorem dX7_kindsToLoad_27 : decode cX7_kindsToLoad 27 = .ok (.getfield 86, 3) := by decide +kernel
theorem dX7_kindsToLoad_30 : decode cX7_kindsToLoad 30 = .ok (.istore 5, 2) := by decide +kernel
theorem dX7_kindsToLoad_32 : decode cX7_kindsToLoad 32 = .ok (.lload_n 1, 1) := by decide +kernel
theorem dX7_kindsToLoad_33 : decode cX7_kindsToLoad 33 = .ok (.aload_n 0, 1) := by decide +kernel
theorem dX7_kindsToLoad_34 : decode cX7_kindsToLoad 34 = .ok (.getfield 9, 3) := by decide +kernel
theorem dX7_kindsToLoad_37 : decode cX7_kindsToLoad 37 = .ok (.getfield 21, 3) := by decide +kernel
theorem dX7_kindsToLoad_40 : decode cX7_kindsToLoad 40 = .ok (.getfield 91, 3) := by decide +kernel
theorem dX7_kindsToLoad_43 : decode cX7_kindsToLoad 43 = .ok (.iload 5, 2) := by decide +kernel
theorem dX7_kindsToLoad_45 : decode cX7_kindsToLoad 45 = .ok (.laload, 1) := by decide +kernel
theorem dX7_kindsToLoad_46 : decode cX7_kindsToLoad 46 = .ok (.land, 1) := by decide +kernel
theorem dX7_kindsToLoad_47 : decode cX7_kindsToLoad 47 = .ok (.invokestatic 95, 3) := by decide +kernel
theorem dX7_kindsToLoad_50 : decode cX7_kindsToLoad 50 = .ok (.istore 6, 2) := by decide +kernel
theorem dX7_kindsToLoad_52 : decode cX7_kindsToLoad 52 = .ok (.aload_n 0, 1) := by decide +kernel
theorem dX7_kindsToLoad_53 : decode cX7_kindsToLoad 53 = .ok (.getfield 9, 3) := by decide +kernel
theorem dX7_kindsToLoad_56 : decode cX7_kindsToLoad 56 = .ok (.getfield 82, 3) := by decide +kernel
theorem dX7_kindsToLoad_59 : decode cX7_kindsToLoad 59 = .ok (.iload 4, 2) := by decide +kernel
theorem dX7_kindsToLoad_61 : decode cX7_kindsToLoad 61 = .ok (.aaload, 1) := by decide +kernel
theorem dX7_kindsToLoad_62 : decode cX7_kindsToLoad 62 = .ok (.getfield 100, 3) := by decide +kernel
theorem dX7_kindsToLoad_65 : decode cX7_kindsToLoad 65 = .ok (.ifCond .le 24, 3) := by decide +kernel
theorem dX7_kindsToLoad_68 : decode cX7_kindsToLoad 68 = .ok (.iload 6, 2) := by decide +kernel
theorem dX7_kindsToLoad_70 : decode cX7_kindsToLoad 70 = .ok (.aload_n 0, 1) := by decide +kernel
theorem dX7_kindsToLoad_71 : decode cX7_kindsToLoad 71 = .ok (.getfield 9, 3) := by decide +kernel
theorem dX7_kindsToLoad_74 : decode cX7_kindsToLoad 74 = .ok (.iload 5, 2) := by decide +kernel
theorem dX7_kindsToLoad_76 : decode cX7_kindsToLoad 76 = .ok (.invokevirtual 103, 3) := by decide +kernel
theorem dX7_kindsToLoad_79 : decode cX7_kindsToLoad 79 = .ok (.if_icmp .le 10, 3) := by decide +kernel
theorem dX7_kindsToLoad_82 : decode cX7_kindsToLoad 82 = .ok (.iload_n 3, 1) := by decide +kernel
theorem dX7_kindsToLoad_83 : decode cX7_kindsToLoad 83 = .ok (.iconst 1, 1) := by decide +kernel
theorem dX7_kindsToLoad_84 : decode cX7_kindsToLoad 84 = .ok (.iload 5, 2) := by decide +kernel
theorem dX7_kindsToLoad_86 : decode cX7_kindsToLoad 86 = .ok (.ishl, 1) := by decide +kernel
theorem dX7_kindsToLoad_87 : decode cX7_kindsToLoad 87 = .ok (.ior, 1) := by decide +kernel
theorem dX7_kindsToLoad_88 : decode cX7_kindsToLoad 88 = .ok (.istore_n 3, 1) := by decide +kernel
theorem dX7_kindsToLoad_89 : decode cX7_kindsToLoad 89 = .ok (.iinc 4 1, 3) := by decide +kernel
theorem dX7_kindsToLoad_92 : decode cX7_kindsToLoad 92 = .ok (.goto (-87), 3) := by decide +kernel
theorem dX7_kindsToLoad_95 : decode cX7_kindsToLoad 95 = .ok (.iload_n 3, 1) := by decide +kernel
theorem dX7_kindsToLoad_96 : decode cX7_kindsToLoad 96 = .ok (.ireturn, 1) := by decide +kernel
theorem dX7_findLoadOf_0 : decode cX7_findLoadOf 0 = .ok (.aload_n 0, 1) := by decide +kernel
theorem dX7_findLoadOf_1 : decode cX7_findLoadOf 1 = .ok (.getfield 9, 3) := by decide +kernel
theorem dX7_findLoadOf_4 : decode cX7_findLoadOf 4 = .ok (.getfield 66, 3) := by decide +kernel
theorem dX7_findLoadOf_7 : decode cX7_findLoadOf 7 = .ok (.iload_n 1, 1) := by decide +kernel
theorem dX7_findLoadOf_8 : decode cX7_findLoadOf 8 = .ok (.aaload, 1) := by decide +kernel
theorem dX7_findLoadOf_9 : decode cX7_findLoadOf 9 = .ok (.astore_n 3, 1) := by decide +kernel
theorem dX7_findLoadOf_10 : decode cX7_findLoadOf 10 = .ok (.aload_n 0, 1) := by decide +kernel
theorem dX7_findLoadOf_11 : decode cX7_findLoadOf 11 = .ok (.getfield 9, 3) := by decide +kernel
theorem dX7_findLoadOf_14 : decode cX7_findLoadOf 14 = .ok (.getfield 107, 3) := by decide +kernel
theorem dX7_findLoadOf_17 : decode cX7_findLoadOf 17 = .ok (.getfield 111, 3) := by decide +kernel
theorem dX7_findLoadOf_20 : decode cX7_findLoadOf 20 = .ok (.astore 4, 2) := by decide +kernel
theorem dX7_findLoadOf_22 : decode cX7_findLoadOf 22 = .ok (.iconst 0, 1) := by decide +kernel
theorem dX7_findLoadOf_23 : decode cX7_findLoadOf 23 = .ok (.istore 5, 2) := by decide +kernel
theorem dX7_findLoadOf_25 : decode cX7_findLoadOf 25 = .ok (.iload 5, 2) := by decide +kernel
theorem dX7_findLoadOf_27 : decode cX7_findLoadOf 27 = .ok (.aload_n 0, 1) := by decide +kernel
theorem dX7_findLoadOf_28 : decode cX7_findLoadOf 28 = .ok (.getfield 9, 3) := by decide +kernel
theorem dX7_findLoadOf_31 : decode cX7_findLoadOf 31 = .ok (.getfield 107, 3) := by decide +kernel
theorem dX7_findLoadOf_34 : decode cX7_findLoadOf 34 = .ok (.getfield 117, 3) := by decide +kernel
theorem dX7_findLoadOf_37 : decode cX7_findLoadOf 37 = .ok (.if_icmp .ge 68, 3) := by decide +kernel
theorem dX7_findLoadOf_40 : decode cX7_findLoadOf 40 = .ok (.iload_n 2, 1) := by decide +kernel
theorem dX7_findLoadOf_41 : decode cX7_findLoadOf 41 = .ok (.iconst 1, 1) := by decide +kernel
theorem dX7_findLoadOf_42 : decode cX7_findLoadOf 42 = .ok (.iload 5, 2) := by decide +kernel
theorem dX7_findLoadOf_44 : decode cX7_findLoadOf 44 = .ok (.ishl, 1) := by decide +kernel
theorem dX7_findLoadOf_45 : decode cX7_findLoadOf 45 = .ok (.iand, 1) := by decide +kernel
theorem dX7_findLoadOf_46 : decode cX7_findLoadOf 46 = .ok (.ifCond .eq 53, 3) := by decide +kernel
theorem dX7_findLoadOf_49 : decode cX7_findLoadOf 49 = .ok (.aload 4, 2) := by decide +kernel
theorem dX7_findLoadOf_51 : decode cX7_findLoadOf 51 = .ok (.iload 5, 2) := by decide +kernel
theorem dX7_findLoadOf_53 : decode cX7_findLoadOf 53 = .ok (.iaload, 1) := by decide +kernel
theorem dX7_findLoadOf_54 : decode cX7_findLoadOf 54 = .ok (.aload_n 3, 1) := by decide +kernel
theorem dX7_findLoadOf_55 : decode cX7_findLoadOf 55 = .ok (.getfield 120, 3) := by decide +kernel
theorem dX7_findLoadOf_58 : decode cX7_findLoadOf 58 = .ok (.if_icmp .ne 41, 3) := by decide +kernel
theorem dX7_findLoadOf_61 : decode cX7_findLoadOf 61 = .ok (.aload_n 0, 1) := by decide +kernel
theorem dX7_findLoadOf_62 : decode cX7_findLoadOf 62 = .ok (.getfield 9, 3) := by decide +kernel
theorem dX7_findLoadOf_65 : decode cX7_findLoadOf 65 = .ok (.aload_n 3, 1) := by decide +kernel
theorem dX7_findLoadOf_66 : decode cX7_findLoadOf 66 = .ok (.invokevirtual 122, 3) := by decide +kernel
theorem dX7_findLoadOf_69 : decode cX7_findLoadOf 69 = .ok (.ifCond .eq 14, 3) := by decide +kernel
theorem dX7_findLoadOf_72 : decode cX7_findLoadOf 72 = .ok (.aload_n 0, 1) := by decide +kernel
theorem dX7_findLoadOf_73 : decode cX7_findLoadOf 73 = .ok (.bipush 6, 2) := by decide +kernel
theorem dX7_findLoadOf_75 : decode cX7_findLoadOf 75 = .ok (.iload_n 1, 1) := by decide +kernel
theorem dX7_findLoadOf_76 : decode cX7_findLoadOf 76 = .ok (.iconst 0, 1) := by decide +kernel
theorem dX7_findLoadOf_77 : decode cX7_findLoadOf 77 = .ok (.invokevirtual 126, 3) := by decide +kernel
theorem dX7_findLoadOf_80 : decode cX7_findLoadOf 80 = .ok (.goto 18, 3) := by decide +kernel
theorem dX7_findLoadOf_83 : decode cX7_findLoadOf 83 = .ok (.aload_n 0, 1) := by decide +kernel
theorem dX7_findLoadOf_84 : decode cX7_findLoadOf 84 = .ok (.iconst 2, 1) := by decide +kernel
theorem dX7_findLoadOf_85 : decode cX7_findLoadOf 85 = .ok (.iload_n 1, 1) := by decide +kernel
theorem dX7_findLoadOf_86 : decode cX7_findLoadOf 86 = .ok (.aload_n 0, 1) := by decide +kernel
theorem dX7_findLoadOf_87 : decode cX7_findLoadOf 87 = .ok (.getfield 9, 3) := by decide +kernel
theorem dX7_findLoadOf_90 : decode cX7_findLoadOf 90 = .ok (.iload 5, 2) := by decide +kernel
theorem dX7_findLoadOf_92 : decode cX7_findLoadOf 92 = .ok (.invokevirtual 130, 3) := by decide +kernel
theorem dX7_findLoadOf_95 : decode cX7_findLoadOf 95 = .ok (.invokevirtual 126, 3) := by decide +kernel
theorem dX7_findLoadOf_98 : decode cX7_findLoadOf 98 = .ok (.ireturn, 1) := by decide +kernel
theorem dX7_findLoadOf_99 : decode cX7_findLoadOf 99 = .ok (.iinc 5 1, 3) := by decide +kernel
theorem dX7_findLoadOf_102 : decode cX7_findLoadOf 102 = .ok (.goto (-77), 3) := by decide +kernel
theorem dX7_findLoadOf_105 : decode cX7_findLoadOf 105 = .ok (.iconst 0, 1) := by decide +kernel
theorem dX7_findLoadOf_106 : decode cX7_findLoadOf 106 = .ok (.istore 5, 2) := by decide +kernel
theorem dX7_findLoadOf_108 : decode cX7_findLoadOf 108 = .ok (.iload 5, 2) := by decide +kernel
theorem dX7_findLoadOf_110 : decode cX7_findLoadOf 110 = .ok (.aload_n 0, 1) := by decide +kernel
theorem dX7_findLoadOf_111 : decode cX7_findLoadOf 111 = .ok (.getfield 9, 3) := by decide +kernel
theorem dX7_findLoadOf_114 : decode cX7_findLoadOf 114 = .ok (.getfield 107, 3) := by decide +kernel
theorem dX7_findLoadOf_117 : decode cX7_findLoadOf 117 = .ok (.getfield 117, 3) := by decide +kernel
theorem dX7_findLoadOf_120 : decode cX7_findLoadOf 120 = .ok (.if_icmp .ge 46, 3) := by decide +kernel
theorem dX7_findLoadOf_123 : decode cX7_findLoadOf 123 = .ok (.iload_n 2, 1) := by decide +kernel
theorem dX7_findLoadOf_124 : decode cX7_findLoadOf 124 = .ok (.iconst 1, 1) := by decide +kernel
theorem dX7_findLoadOf_125 : decode cX7_findLoadOf 125 = .ok (.iload 5, 2) := by decide +kernel
theorem dX7_findLoadOf_127 : decode cX7_findLoadOf 127 = .ok (.ishl, 1) := by decide +kernel
theorem dX7_findLoadOf_128 : decode cX7_findLoadOf 128 = .ok (.iand, 1) := by decide +kernel
theorem dX7_findLoadOf_129 : decode cX7_findLoadOf 129 = .ok (.ifCond .eq 31, 3) := by decide +kernel
theorem dX7_findLoadOf_132 : decode cX7_findLoadOf 132 = .ok (.aload_n 0, 1) := by decide +kernel
theorem dX7_findLoadOf_133 : decode cX7_findLoadOf 133 = .ok (.getfield 9, 3) := by decide +kernel
theorem dX7_findLoadOf_136 : decode cX7_findLoadOf 136 = .ok (.getfield 133, 3) := by decide +kernel
theorem dX7_findLoadOf_139 : decode cX7_findLoadOf 139 = .ok (.aload 4, 2) := by decide +kernel
theorem dX7_findLoadOf_141 : decode cX7_findLoadOf 141 = .ok (.iload 5, 2) := by decide +kernel
theorem dX7_findLoadOf_143 : decode cX7_findLoadOf 143 = .ok (.iaload, 1) := by decide +kernel
theorem dX7_findLoadOf_144 : decode cX7_findLoadOf 144 = .ok (.iaload, 1) := by decide +kernel
theorem dX7_findLoadOf_145 : decode cX7_findLoadOf 145 = .ok (.ifCond .le 15, 3) := by decide +kernel
theorem dX7_findLoadOf_148 : decode cX7_findLoadOf 148 = .ok (.aload_n 0, 1) := by decide +kernel
theorem dX7_findLoadOf_149 : decode cX7_findLoadOf 149 = .ok (.iconst 1, 1) := by decide +kernel
theorem dX7_findLoadOf_150 : decode cX7_findLoadOf 150 = .ok (.iload_n 1, 1) := by decide +kernel
theorem dX7_findLoadOf_151 : decode cX7_findLoadOf 151 = .ok (.aload 4, 2) := by decide +kernel
theorem dX7_findLoadOf_153 : decode cX7_findLoadOf 153 = .ok (.iload 5, 2) := by decide +kernel
theorem dX7_findLoadOf_155 : decode cX7_findLoadOf 155 = .ok (.iaload, 1) := by decide +kernel
theorem dX7_findLoadOf_156 : decode cX7_findLoadOf 156 = .ok (.invokevirtual 126, 3) := by decide +kernel
theorem dX7_findLoadOf_159 : decode cX7_findLoadOf 159 = .ok (.ireturn, 1) := by decide +kernel
theorem dX7_findLoadOf_160 : decode cX7_findLoadOf 160 = .ok (.iinc 5 1, 3) := by decide +kernel
theorem dX7_findLoadOf_163 : decode cX7_findLoadOf 163 = .ok (.goto (-55), 3) := by decide +kernel
theorem dX7_findLoadOf_166 : decode cX7_findLoadOf 166 = .ok (.iconst 0, 1) := by decide +kernel
theorem dX7_findLoadOf_167 : decode cX7_findLoadOf 167 = .ok (.ireturn, 1) := by decide +kernel
theorem dX7_findLook_0 : decode cX7_findLook 0 = .ok (.iconst 0, 1) := by decide +kernel
theorem dX7_findLook_1 : decode cX7_findLook 1 = .ok (.istore_n 1, 1) := by decide +kernel
theorem dX7_findLook_2 : decode cX7_findLook 2 = .ok (.iload_n 1, 1) := by decide +kernel
theorem dX7_findLook_3 : decode cX7_findLook 3 = .ok (.aload_n 0, 1) := by decide +kernel
theorem dX7_findLook_4 : decode cX7_findLook 4 = .ok (.getfield 9, 3) := by decide +kernel
theorem dX7_findLook_7 : decode cX7_findLook 7 = .ok (.getfield 63, 3) := by decide +kernel
theorem dX7_findLook_10 : decode cX7_findLook 10 = .ok (.if_icmp .ge 42, 3) := by decide +kernel
theorem dX7_findLook_13 : decode cX7_findLook 13 = .ok (.aload_n 0, 1) := by decide +kernel
theorem dX7_findLook_14 : decode cX7_findLook 14 = .ok (.getfield 9, 3) := by decide +kernel
theorem dX7_findLook_17 : decode cX7_findLook 17 = .ok (.getfield 66, 3) := by decide +kernel
theorem dX7_findLook_20 : decode cX7_findLook 20 = .ok (.iload_n 1, 1) := by decide +kernel
theorem dX7_findLook_21 : decode cX7_findLook 21 = .ok (.aaload, 1) := by decide +kernel
theorem dX7_findLook_22 : decode cX7_findLook 22 = .ok (.astore_n 2, 1) := by decide +kernel
theorem dX7_findLook_23 : decode cX7_findLook 23 = .ok (.aload_n 2, 1) := by decide +kernel
theorem dX7_findLook_24 : decode cX7_findLook 24 = .ok (.getfield 70, 3) := by decide +kernel
theorem dX7_findLook_27 : decode cX7_findLook 27 = .ok (.iconst (-1), 1) := by decide +kernel
theorem dX7_findLook_28 : decode cX7_findLook 28 = .ok (.if_icmp .eq 18, 3) := by decide +kernel
theorem dX7_findLook_31 : decode cX7_findLook 31 = .ok (.aload_n 2, 1) := by decide +kernel
theorem dX7_findLook_32 : decode cX7_findLook 32 = .ok (.getfield 136, 3) := by decide +kernel
theorem dX7_findLook_35 : decode cX7_findLook 35 = .ok (.ifCond .ne 11, 3) := by decide +kernel
theorem dX7_findLook_38 : decode cX7_findLook 38 = .ok (.aload_n 0, 1) := by decide +kernel
theorem dX7_findLook_39 : decode cX7_findLook 39 = .ok (.iconst 3, 1) := by decide +kernel
theorem dX7_findLook_40 : decode cX7_findLook 40 = .ok (.iload_n 1, 1) := by decide +kernel
theorem dX7_findLook_41 : decode cX7_findLook 41 = .ok (.iconst 0, 1) := by decide +kernel
theorem dX7_findLook_42 : decode cX7_findLook 42 = .ok (.invokevirtual 126, 3) := by decide +kernel
theorem dX7_findLook_45 : decode cX7_findLook 45 = .ok (.ireturn, 1) := by decide +kernel
theorem dX7_findLook_46 : decode cX7_findLook 46 = .ok (.iinc 1 1, 3) := by decide +kernel
theorem dX7_findLook_49 : decode cX7_findLook 49 = .ok (.goto (-47), 3) := by decide +kernel
theorem dX7_findLook_52 : decode cX7_findLook 52 = .ok (.iconst 0, 1) := by decide +kernel
theorem dX7_findLook_53 : decode cX7_findLook 53 = .ok (.ireturn, 1) := by decide +kernel
theorem dX7_findPlace_0 : decode cX7_findPlace 0 = .ok (.iconst 0, 1) := by decide +kernel
theorem dX7_findPlace_1 : decode cX7_findPlace 1 = .ok (.istore_n 3, 1) := by decide +kernel
theorem dX7_findPlace_2 : decode cX7_findPlace 2 = .ok (.iload_n 3, 1) := by decide +kernel
theorem dX7_findPlace_3 : decode cX7_findPlace 3 = .ok (.aload_n 0, 1) := by decide +kernel
theorem dX7_findPlace_4 : decode cX7_findPlace 4 = .ok (.getfield 9, 3) := by decide +kernel
theorem dX7_findPlace_7 : decode cX7_findPlace 7 = .ok (.getfield 63, 3) := by decide +kernel
theorem dX7_findPlace_10 : decode cX7_findPlace 10 = .ok (.if_icmp .ge 75, 3) := by decide +kernel
theorem dX7_findPlace_13 : decode cX7_findPlace 13 = .ok (.aload_n 0, 1) := by decide +kernel
theorem dX7_findPlace_14 : decode cX7_findPlace 14 = .ok (.getfield 9, 3) := by decide +kernel
theorem dX7_findPlace_17 : decode cX7_findPlace 17 = .ok (.getfield 66, 3) := by decide +kernel
theorem dX7_findPlace_20 : decode cX7_findPlace 20 = .ok (.iload_n 3, 1) := by decide +kernel
theorem dX7_findPlace_21 : decode cX7_findPlace 21 = .ok (.aaload, 1) := by decide +kernel
theorem dX7_findPlace_22 : decode cX7_findPlace 22 = .ok (.getfield 70, 3) := by decide +kernel
theorem dX7_findPlace_25 : decode cX7_findPlace 25 = .ok (.istore 4, 2) := by decide +kernel
theorem dX7_findPlace_27 : decode cX7_findPlace 27 = .ok (.iload 4, 2) := by decide +kernel
theorem dX7_findPlace_29 : decode cX7_findPlace 29 = .ok (.iconst (-1), 1) := by decide +kernel
theorem dX7_findPlace_30 : decode cX7_findPlace 30 = .ok (.if_icmp .eq 49, 3) := by decide +kernel
theorem dX7_findPlace_33 : decode cX7_findPlace 33 = .ok (.aload_n 0, 1) := by decide +kernel
theorem dX7_findPlace_34 : decode cX7_findPlace 34 = .ok (.lload_n 1, 1) := by decide +kernel
theorem dX7_findPlace_35 : decode cX7_findPlace 35 = .ok (.aload_n 0, 1) := by decide +kernel
theorem dX7_findPlace_36 : decode cX7_findPlace 36 = .ok (.getfield 9, 3) := by decide +kernel
theorem dX7_findPlace_39 : decode cX7_findPlace 39 = .ok (.getfield 21, 3) := by decide +kernel
theorem dX7_findPlace_42 : decode cX7_findPlace 42 = .ok (.getfield 91, 3) := by decide +kernel
theorem dX7_findPlace_45 : decode cX7_findPlace 45 = .ok (.iload 4, 2) := by decide +kernel
theorem dX7_findPlace_47 : decode cX7_findPlace 47 = .ok (.laload, 1) := by decide +kernel
theorem dX7_findPlace_48 : decode cX7_findPlace 48 = .ok (.land, 1) := by decide +kernel
theorem dX7_findPlace_49 : decode cX7_findPlace 49 = .ok (.invokevirtual 139, 3) := by decide +kernel
theorem dX7_findPlace_52 : decode cX7_findPlace 52 = .ok (.istore 5, 2) := by decide +kernel
theorem dX7_findPlace_54 : decode cX7_findPlace 54 = .ok (.iload 5, 2) := by decide +kernel
theorem dX7_findPlace_56 : decode cX7_findPlace 56 = .ok (.iconst (-1), 1) := by decide +kernel
theorem dX7_findPlace_57 : decode cX7_findPlace 57 = .ok (.if_icmp .ne 13, 3) := by decide +kernel
theorem dX7_findPlace_60 : decode cX7_findPlace 60 = .ok (.aload_n 0, 1) := by decide +kernel
theorem dX7_findPlace_61 : decode cX7_findPlace 61 = .ok (.iconst 5, 1) := by decide +kernel
theorem dX7_findPlace_62 : decode cX7_findPlace 62 = .ok (.iload_n 3, 1) := by decide +kernel
theorem dX7_findPlace_63 : decode cX7_findPlace 63 = .ok (.iconst 0, 1) := by decide +kernel
theorem dX7_findPlace_64 : decode cX7_findPlace 64 = .ok (.invokevirtual 126, 3) := by decide +kernel
theorem dX7_findPlace_67 : decode cX7_findPlace 67 = .ok (.goto 11, 3) := by decide +kernel
theorem dX7_findPlace_70 : decode cX7_findPlace 70 = .ok (.aload_n 0, 1) := by decide +kernel
theorem dX7_findPlace_71 : decode cX7_findPlace 71 = .ok (.iconst 4, 1) := by decide +kernel
theorem dX7_findPlace_72 : decode cX7_findPlace 72 = .ok (.iload_n 3, 1) := by decide +kernel
theorem dX7_findPlace_73 : decode cX7_findPlace 73 = .ok (.iload 5, 2) := by decide +kernel
theorem dX7_findPlace_75 : decode cX7_findPlace 75 = .ok (.invokevirtual 126, 3) := by decide +kernel
theorem dX7_findPlace_78 : decode cX7_findPlace 78 = .ok (.ireturn, 1) := by decide +kernel
theorem dX7_findPlace_79 : decode cX7_findPlace 79 = .ok (.iinc 3 1, 3) := by decide +kernel
theorem dX7_findPlace_82 : decode cX7_findPlace 82 = .ok (.goto (-80), 3) := by decide +kernel
theorem dX7_findPlace_85 : decode cX7_findPlace 85 = .ok (.iconst 0, 1) := by decide +kernel
theorem dX7_findPlace_86 : decode cX7_findPlace 86 = .ok (.ireturn, 1) := by decide +kernel
theorem dX7_nearestSpot_0 : decode cX7_nearestSpot 0 = .ok (.iconst (-1), 1) := by decide +kernel
theorem dX7_nearestSpot_1 : decode cX7_nearestSpot 1 = .ok (.istore_n 3, 1) := by decide +kernel
theorem dX7_nearestSpot_2 : decode cX7_nearestSpot 2 = .ok (.iconst 0, 1) := by decide +kernel
theorem dX7_nearestSpot_3 : decode cX7_nearestSpot 3 = .ok (.istore 4, 2) := by decide +kernel
theorem dX7_nearestSpot_5 : decode cX7_nearestSpot 5 = .ok (.iconst 0, 1) := by decide +kernel
theorem dX7_nearestSpot_6 : decode cX7_nearestSpot 6 = .ok (.istore 5, 2) := by decide +kernel
theorem dX7_nearestSpot_8 : decode cX7_nearestSpot 8 = .ok (.iload 5, 2) := by decide +kernel
theorem dX7_nearestSpot_10 : decode cX7_nearestSpot 10 = .ok (.aload_n 0, 1) := by decide +kernel
theorem dX7_nearestSpot_11 : decode cX7_nearestSpot 11 = .ok (.getfield 9, 3) := by decide +kernel
theorem dX7_nearestSpot_14 : decode cX7_nearestSpot 14 = .ok (.getfield 21, 3) := by decide +kernel
theorem dX7_nearestSpot_17 : decode cX7_nearestSpot 17 = .ok (.getfield 142, 3) := by decide +kernel
theorem dX7_nearestSpot_20 : decode cX7_nearestSpot 20 = .ok (.if_icmp .ge 74, 3) := by decide +kernel
theorem dX7_nearestSpot_23 : decode cX7_nearestSpot 23 = .ok (.lload_n 1, 1) := by decide +kernel
theorem dX7_nearestSpot_24 : decode cX7_nearestSpot 24 = .ok (.lconst 1, 1) := by decide +kernel
theorem dX7_nearestSpot_25 : decode cX7_nearestSpot 25 = .ok (.iload 5, 2) := by decide +kernel
theorem dX7_nearestSpot_27 : decode cX7_nearestSpot 27 = .ok (.lshl, 1) := by decide +kernel
theorem dX7_nearestSpot_28 : decode cX7_nearestSpot 28 = .ok (.land, 1) := by decide +kernel
theorem dX7_nearestSpot_29 : decode cX7_nearestSpot 29 = .ok (.lconst 0, 1) := by decide +kernel
theorem dX7_nearestSpot_30 : decode cX7_nearestSpot 30 = .ok (.lcmp, 1) := by decide +kernel
theorem dX7_nearestSpot_31 : decode cX7_nearestSpot 31 = .ok (.ifCond .eq 57, 3) := by decide +kernel
theorem dX7_nearestSpot_34 : decode cX7_nearestSpot 34 = .ok (.aload_n 0, 1) := by decide +kernel
theorem dX7_nearestSpot_35 : decode cX7_nearestSpot 35 = .ok (.getfield 9, 3) := by decide +kernel
theorem dX7_nearestSpot_38 : decode cX7_nearestSpot 38 = .ok (.aload_n 0, 1) := by decide +kernel
theorem dX7_nearestSpot_39 : decode cX7_nearestSpot 39 = .ok (.getfield 9, 3) := by decide +kernel
theorem dX7_nearestSpot_42 : decode cX7_nearestSpot 42 = .ok (.getfield 21, 3) := by decide +kernel
theorem dX7_nearestSpot_45 : decode cX7_nearestSpot 45 = .ok (.getfield 143, 3) := by decide +kernel
theorem dX7_nearestSpot_48 : decode cX7_nearestSpot 48 = .ok (.iload 5, 2) := by decide +kernel
theorem dX7_nearestSpot_50 : decode cX7_nearestSpot 50 = .ok (.iaload, 1) := by decide +kernel
theorem dX7_nearestSpot_51 : decode cX7_nearestSpot 51 = .ok (.aload_n 0, 1) := by decide +kernel
theorem dX7_nearestSpot_52 : decode cX7_nearestSpot 52 = .ok (.getfield 9, 3) := by decide +kernel
theorem dX7_nearestSpot_55 : decode cX7_nearestSpot 55 = .ok (.getfield 21, 3) := by decide +kernel
theorem dX7_nearestSpot_58 : decode cX7_nearestSpot 58 = .ok (.getfield 146, 3) := by decide +kernel
theorem dX7_nearestSpot_61 : decode cX7_nearestSpot 61 = .ok (.iload 5, 2) := by decide +kernel
theorem dX7_nearestSpot_63 : decode cX7_nearestSpot 63 = .ok (.iaload, 1) := by decide +kernel
theorem dX7_nearestSpot_64 : decode cX7_nearestSpot 64 = .ok (.invokevirtual 149, 3) := by decide +kernel
theorem dX7_nearestSpot_67 : decode cX7_nearestSpot 67 = .ok (.istore 6, 2) := by decide +kernel
theorem dX7_nearestSpot_69 : decode cX7_nearestSpot 69 = .ok (.iload_n 3, 1) := by decide +kernel
theorem dX7_nearestSpot_70 : decode cX7_nearestSpot 70 = .ok (.iconst (-1), 1) := by decide +kernel
theorem dX7_nearestSpot_71 : decode cX7_nearestSpot 71 = .ok (.if_icmp .eq 10, 3) := by decide +kernel
theorem dX7_nearestSpot_74 : decode cX7_nearestSpot 74 = .ok (.iload 6, 2) := by decide +kernel
theorem dX7_nearestSpot_76 : decode cX7_nearestSpot 76 = .ok (.iload 4, 2) := by decide +kernel
theorem dX7_nearestSpot_78 : decode cX7_nearestSpot 78 = .ok (.if_icmp .ge 10, 3) := by decide +kernel
theorem dX7_nearestSpot_81 : decode cX7_nearestSpot 81 = .ok (.iload 5, 2) := by decide +kernel
theorem dX7_nearestSpot_83 : decode cX7_nearestSpot 83 = .ok (.istore_n 3, 1) := by decide +kernel
theorem dX7_nearestSpot_84 : decode cX7_nearestSpot 84 = .ok (.iload 6, 2) := by decide +kernel
theorem dX7_nearestSpot_86 : decode cX7_nearestSpot 86 = .ok (.istore 4, 2) := by decide +kernel
theorem dX7_nearestSpot_88 : decode cX7_nearestSpot 88 = .ok (.iinc 5 1, 3) := by decide +kernel
theorem dX7_nearestSpot_91 : decode cX7_nearestSpot 91 = .ok (.goto (-83), 3) := by decide +kernel
theorem dX7_nearestSpot_94 : decode cX7_nearestSpot 94 = .ok (.iload_n 3, 1) := by decide +kernel
theorem dX7_nearestSpot_95 : decode cX7_nearestSpot 95 = .ok (.ireturn, 1) := by decide +kernel
theorem dX8_init_0 : decode cX8_init 0 = .ok (.aload_n 0, 1) := by decide +kernel
theorem dX8_init_1 : decode cX8_init 1 = .ok (.invokespecial 3, 3) := by decide +kernel
theorem dX8_init_4 : decode cX8_init 4 = .ok (.return_, 1) := by decide +kernel
theorem dX8_clear_0 : decode cX8_clear 0 = .ok (.aload_n 0, 1) := by decide +kernel
theorem dX8_clear_1 : decode cX8_clear 1 = .ok (.iconst (-1), 1) := by decide +kernel
theorem dX8_clear_2 : decode cX8_clear 2 = .ok (.putfield 9, 3) := by decide +kernel
theorem dX8_clear_5 : decode cX8_clear 5 = .ok (.aload_n 0, 1) := by decide +kernel
theorem dX8_clear_6 : decode cX8_clear 6 = .ok (.invokevirtual 15, 3) := by decide +kernel
theorem dX8_clear_9 : decode cX8_clear 9 = .ok (.aload_n 0, 1) := by decide +kernel
theorem dX8_clear_10 : decode cX8_clear 10 = .ok (.iconst 0, 1) := by decide +kernel
theorem dX8_clear_11 : decode cX8_clear 11 = .ok (.putfield 18, 3) := by decide +kernel
theorem dX8_clear_14 : decode cX8_clear 14 = .ok (.aload_n 0, 1) := by decide +kernel
theorem dX8_clear_15 : decode cX8_clear 15 = .ok (.iconst 0, 1) := by decide +kernel
theorem dX8_clear_16 : decode cX8_clear 16 = .ok (.putfield 21, 3) := by decide +kernel
theorem dX8_clear_19 : decode cX8_clear 19 = .ok (.aload_n 0, 1) := by decide +kernel
theorem dX8_clear_20 : decode cX8_clear 20 = .ok (.iconst 0, 1) := by decide +kernel
theorem dX8_clear_21 : decode cX8_clear 21 = .ok (.putfield 24, 3) := by decide +kernel
theorem dX8_clear_24 : decode cX8_clear 24 = .ok (.aload_n 0, 1) := by decide +kernel
theorem dX8_clear_25 : decode cX8_clear 25 = .ok (.iconst 0, 1) := by decide +kernel
theorem dX8_clear_26 : decode cX8_clear 26 = .ok (.putfield 27, 3) := by decide +kernel
theorem dX8_clear_29 : decode cX8_clear 29 = .ok (.return_, 1) := by decide +kernel
theorem dX8_dropPart_0 : decode cX8_dropPart 0 = .ok (.aload_n 0, 1) := by decide +kernel
theorem dX8_dropPart_1 : decode cX8_dropPart 1 = .ok (.iconst (-1), 1) := by decide +kernel
theorem dX8_dropPart_2 : decode cX8_dropPart 2 = .ok (.putfield 30, 3) := by decide +kernel
theorem dX8_dropPart_5 : decode cX8_dropPart 5 = .ok (.aload_n 0, 1) := by decide +kernel
theorem dX8_dropPart_6 : decode cX8_dropPart 6 = .ok (.iconst 0, 1) := by decide +kernel
theorem dX8_dropPart_7 : decode cX8_dropPart 7 = .ok (.putfield 33, 3) := by decide +kernel
theorem dX8_dropPart_10 : decode cX8_dropPart 10 = .ok (.aload_n 0, 1) := by decide +kernel
theorem dX8_dropPart_11 : decode cX8_dropPart 11 = .ok (.iconst 0, 1) := by decide +kernel
theorem dX8_dropPart_12 : decode cX8_dropPart 12 = .ok (.putfield 37, 3) := by decide +kernel
theorem dX8_dropPart_15 : decode cX8_dropPart 15 = .ok (.return_, 1) := by decide +kernel
theorem dX8_copyFrom_0 : decode cX8_copyFrom 0 = .ok (.aload_n 0, 1) := by decide +kernel
theorem dX8_copyFrom_1 : decode cX8_copyFrom 1 = .ok (.aload_n 1, 1) := by decide +kernel
theorem dX8_copyFrom_2 : decode cX8_copyFrom 2 = .ok (.getfield 9, 3) := by decide +kernel
theorem dX8_copyFrom_5 : decode cX8_copyFrom 5 = .ok (.putfield 9, 3) := by decide +kernel
theorem dX8_copyFrom_8 : decode cX8_copyFrom 8 = .ok (.aload_n 0, 1) := by decide +kernel
theorem dX8_copyFrom_9 : decode cX8_copyFrom 9 = .ok (.aload_n 1, 1) := by decide +kernel
theorem dX8_copyFrom_10 : decode cX8_copyFrom 10 = .ok (.getfield 30, 3) := by decide +kernel
theorem dX8_copyFrom_13 : decode cX8_copyFrom 13 = .ok (.putfield 30, 3) := by decide +kernel
theorem dX8_copyFrom_16 : decode cX8_copyFrom 16 = .ok (.aload_n 0, 1) := by decide +kernel
theorem dX8_copyFrom_17 : decode cX8_copyFrom 17 = .ok (.aload_n 1, 1) := by decide +kernel
theorem dX8_copyFrom_18 : decode cX8_copyFrom 18 = .ok (.getfield 33, 3) := by decide +kernel
theorem dX8_copyFrom_21 : decode cX8_copyFrom 21 = .ok (.putfield 33, 3) := by decide +kernel
theorem dX8_copyFrom_24 : decode cX8_copyFrom 24 = .ok (.aload_n 0, 1) := by decide +kernel
theorem dX8_copyFrom_25 : decode cX8_copyFrom 25 = .ok (.aload_n 1, 1) := by decide +kernel
theorem dX8_copyFrom_26 : decode cX8_copyFrom 26 = .ok (.getfield 37, 3) := by decide +kernel
theorem dX8_copyFrom_29 : decode cX8_copyFrom 29 = .ok (.putfield 37, 3) := by decide +kernel
theorem dX8_copyFrom_32 : decode cX8_copyFrom 32 = .ok (.aload_n 0, 1) := by decide +kernel
theorem dX8_copyFrom_33 : decode cX8_copyFrom 33 = .ok (.aload_n 1, 1) := by decide +kernel
theorem dX8_copyFrom_34 : decode cX8_copyFrom 34 = .ok (.getfield 18, 3) := by decide +kernel
theorem dX8_copyFrom_37 : decode cX8_copyFrom 37 = .ok (.putfield 18, 3) := by decide +kernel
theorem dX8_copyFrom_40 : decode cX8_copyFrom 40 = .ok (.aload_n 0, 1) := by decide +kernel
theorem dX8_copyFrom_41 : decode cX8_copyFrom 41 = .ok (.aload_n 1, 1) := by decide +kernel
theorem dX8_copyFrom_42 : decode cX8_copyFrom 42 = .ok (.getfield 21, 3) := by decide +kernel
theorem dX8_copyFrom_45 : decode cX8_copyFrom 45 = .ok (.putfield 21, 3) := by decide +kernel
theorem dX8_copyFrom_48 : decode cX8_copyFrom 48 = .ok (.aload_n 0, 1) := by decide +kernel
theorem dX8_copyFrom_49 : decode cX8_copyFrom 49 = .ok (.aload_n 1, 1) := by decide +kernel
theorem dX8_copyFrom_50 : decode cX8_copyFrom 50 = .ok (.getfield 24, 3) := by decide +kernel
theorem dX8_copyFrom_53 : decode cX8_copyFrom 53 = .ok (.putfield 24, 3) := by decide +kernel
theorem dX8_copyFrom_56 : decode cX8_copyFrom 56 = .ok (.aload_n 0, 1) := by decide +kernel
theorem dX8_copyFrom_57 : decode cX8_copyFrom 57 = .ok (.aload_n 1, 1) := by decide +kernel
theorem dX8_copyFrom_58 : decode cX8_copyFrom 58 = .ok (.getfield 27, 3) := by decide +kernel
theorem dX8_copyFrom_61 : decode cX8_copyFrom 61 = .ok (.putfield 27, 3) := by decide +kernel
theorem dX8_copyFrom_64 : decode cX8_copyFrom 64 = .ok (.return_, 1) := by decide +kernel
theorem dX8_valueOf_0 : decode cX8_valueOf 0 = .ok (.iload_n 1, 1) := by decide +kernel
theorem dX8_valueOf_1 : decode cX8_valueOf 1 = .ok (.tableswitch 86 0 6 #[43, 48, 53, 66, 71, 76, 81], 43) := by decide +kernel
theorem dX8_valueOf_44 : decode cX8_valueOf 44 = .ok (.aload_n 0, 1) := by decide +kernel
theorem dX8_valueOf_45 : decode cX8_valueOf 45 = .ok (.getfield 9, 3) := by decide +kernel
theorem dX8_valueOf_48 : decode cX8_valueOf 48 = .ok (.ireturn, 1) := by decide +kernel
theorem dX8_valueOf_49 : decode cX8_valueOf 49 = .ok (.aload_n 0, 1) := by decide +kernel
theorem dX8_valueOf_50 : decode cX8_valueOf 50 = .ok (.getfield 30, 3) := by decide +kernel
theorem dX8_valueOf_53 : decode cX8_valueOf 53 = .ok (.ireturn, 1) := by decide +kernel
theorem dX8_valueOf_54 : decode cX8_valueOf 54 = .ok (.aload_n 0, 1) := by decide +kernel
theorem dX8_valueOf_55 : decode cX8_valueOf 55 = .ok (.getfield 33, 3) := by decide +kernel
theorem dX8_valueOf_58 : decode cX8_valueOf 58 = .ok (.ifCond .eq 7, 3) := by decide +kernel
theorem dX8_valueOf_61 : decode cX8_valueOf 61 = .ok (.iconst 1, 1) := by decide +kernel
theorem dX8_valueOf_62 : decode cX8_valueOf 62 = .ok (.goto 4, 3) := by decide +kernel
theorem dX8_valueOf_65 : decode cX8_valueOf 65 = .ok (.iconst 0, 1) := by decide +kernel
theorem dX8_valueOf_66 : decode cX8_valueOf 66 = .ok (.ireturn, 1) := by decide +kernel
theorem dX8_valueOf_67 : decode cX8_valueOf 67 = .ok (.aload_n 0, 1) := by decide +kernel
theorem dX8_valueOf_68 : decode cX8_valueOf 68 = .ok (.getfield 37, 3) := by decide +kernel
theorem dX8_valueOf_71 : decode cX8_valueOf 71 = .ok (.ireturn, 1) := by decide +kernel
theorem dX8_valueOf_72 : decode cX8_valueOf 72 = .ok (.aload_n 0, 1) := by decide +kernel
theorem dX8_valueOf_73 : decode cX8_valueOf 73 = .ok (.getfield 18, 3) := by decide +kernel
theorem dX8_valueOf_76 : decode cX8_valueOf 76 = .ok (.ireturn, 1) := by decide +kernel
theorem dX8_valueOf_77 : decode cX8_valueOf 77 = .ok (.aload_n 0, 1) := by decide +kernel
theorem dX8_valueOf_78 : decode cX8_valueOf 78 = .ok (.getfield 21, 3) := by decide +kernel
theorem dX8_valueOf_81 : decode cX8_valueOf 81 = .ok (.ireturn, 1) := by decide +kernel
theorem dX8_valueOf_82 : decode cX8_valueOf 82 = .ok (.aload_n 0, 1) := by decide +kernel
theorem dX8_valueOf_83 : decode cX8_valueOf 83 = .ok (.getfield 24, 3) := by decide +kernel
theorem dX8_valueOf_86 : decode cX8_valueOf 86 = .ok (.ireturn, 1) := by decide +kernel
theorem dX8_valueOf_87 : decode cX8_valueOf 87 = .ok (.aload_n 0, 1) := by decide +kernel
theorem dX8_valueOf_88 : decode cX8_valueOf 88 = .ok (.getfield 27, 3) := by decide +kernel
theorem dX8_valueOf_91 : decode cX8_valueOf 91 = .ok (.ireturn, 1) := by decide +kernel
theorem dX9_init_0 : decode cX9_init 0 = .ok (.aload_n 0, 1) := by decide +kernel
theorem dX9_init_1 : decode cX9_init 1 = .ok (.invokespecial 1, 3) := by decide +kernel
theorem dX9_init_4 : decode cX9_init 4 = .ok (.aload_n 0, 1) := by decide +kernel
theorem dX9_init_5 : decode cX9_init 5 = .ok (.sipush 900, 3) := by decide +kernel
theorem dX9_init_8 : decode cX9_init 8 = .ok (.newarray .byte, 2) := by decide +kernel
theorem dX9_init_10 : decode cX9_init 10 = .ok (.putfield 9, 3) := by decide +kernel
theorem dX9_init_13 : decode cX9_init 13 = .ok (.aload_n 0, 1) := by decide +kernel
theorem dX9_init_14 : decode cX9_init 14 = .ok (.new 13, 3) := by decide +kernel
theorem dX9_init_17 : decode cX9_init 17 = .ok (.dup, 1) := by decide +kernel
theorem dX9_init_18 : decode cX9_init 18 = .ok (.invokespecial 15, 3) := by decide +kernel
theorem dX9_init_21 : decode cX9_init 21 = .ok (.putfield 16, 3) := by decide +kernel
theorem dX9_init_24 : decode cX9_init 24 = .ok (.aload_n 0, 1) := by decide +kernel
theorem dX9_init_25 : decode cX9_init 25 = .ok (.new 20, 3) := by decide +kernel
theorem dX9_init_28 : decode cX9_init 28 = .ok (.dup, 1) := by decide +kernel
theorem dX9_init_29 : decode cX9_init 29 = .ok (.aload_n 0, 1) := by decide +kernel
theorem dX9_init_30 : decode cX9_init 30 = .ok (.getfield 16, 3) := by decide +kernel
theorem dX9_init_33 : decode cX9_init 33 = .ok (.invokespecial 22, 3) := by decide +kernel
theorem dX9_init_36 : decode cX9_init 36 = .ok (.putfield 25, 3) := by decide +kernel
theorem dX9_init_39 : decode cX9_init 39 = .ok (.aload_n 0, 1) := by decide +kernel
theorem dX9_init_40 : decode cX9_init 40 = .ok (.new 13, 3) := by decide +kernel
theorem dX9_init_43 : decode cX9_init 43 = .ok (.dup, 1) := by decide +kernel
theorem dX9_init_44 : decode cX9_init 44 = .ok (.invokespecial 15, 3) := by decide +kernel
theorem dX9_init_47 : decode cX9_init 47 = .ok (.putfield 29, 3) := by decide +kernel
theorem dX9_init_50 : decode cX9_init 50 = .ok (.aload_n 0, 1) := by decide +kernel
theorem dX9_init_51 : decode cX9_init 51 = .ok (.new 32, 3) := by decide +kernel
theorem dX9_init_54 : decode cX9_init 54 = .ok (.dup, 1) := by decide +kernel
theorem dX9_init_55 : decode cX9_init 55 = .ok (.aload_n 0, 1) := by decide +kernel
theorem dX9_init_56 : decode cX9_init 56 = .ok (.getfield 16, 3) := by decide +kernel
theorem dX9_init_59 : decode cX9_init 59 = .ok (.aload_n 0, 1) := by decide +kernel
theorem dX9_init_60 : decode cX9_init 60 = .ok (.getfield 29, 3) := by decide +kernel
theorem dX9_init_63 : decode cX9_init 63 = .ok (.invokespecial 34, 3) := by decide +kernel
theorem dX9_init_66 : decode cX9_init 66 = .ok (.putfield 37, 3) := by decide +kernel
theorem dX9_init_69 : decode cX9_init 69 = .ok (.aload_n 0, 1) := by decide +kernel
theorem dX9_init_70 : decode cX9_init 70 = .ok (.new 41, 3) := by decide +kernel
theorem dX9_init_73 : decode cX9_init 73 = .ok (.dup, 1) := by decide +kernel
theorem dX9_init_74 : decode cX9_init 74 = .ok (.aload_n 0, 1) := by decide +kernel
theorem dX9_init_75 : decode cX9_init 75 = .ok (.getfield 9, 3) := by decide +kernel
theorem dX9_init_78 : decode cX9_init 78 = .ok (.aload_n 0, 1) := by decide +kernel
theorem dX9_init_79 : decode cX9_init 79 = .ok (.getfield 29, 3) := by decide +kernel
theorem dX9_init_82 : decode cX9_init 82 = .ok (.invokespecial 43, 3) := by decide +kernel
theorem dX9_init_85 : decode cX9_init 85 = .ok (.putfield 46, 3) := by decide +kernel
theorem dX9_init_88 : decode cX9_init 88 = .ok (.aload_n 0, 1) := by decide +kernel
theorem dX9_init_89 : decode cX9_init 89 = .ok (.iconst 2, 1) := by decide +kernel
theorem dX9_init_90 : decode cX9_init 90 = .ok (.anewarray 13, 3) := by decide +kernel
theorem dX9_init_93 : decode cX9_init 93 = .ok (.putfield 50, 3) := by decide +kernel
theorem dX9_init_96 : decode cX9_init 96 = .ok (.iconst 0, 1) := by decide +kernel
theorem dX9_init_97 : decode cX9_init 97 = .ok (.istore_n 1, 1) := by decide +kernel
theorem dX9_init_98 : decode cX9_init 98 = .ok (.iload_n 1, 1) := by decide +kernel
theorem dX9_init_99 : decode cX9_init 99 = .ok (.iconst 2, 1) := by decide +kernel
theorem dX9_init_100 : decode cX9_init 100 = .ok (.if_icmp .ge 22, 3) := by decide +kernel
theorem dX9_init_103 : decode cX9_init 103 = .ok (.aload_n 0, 1) := by decide +kernel
theorem dX9_init_104 : decode cX9_init 104 = .ok (.getfield 50, 3) := by decide +kernel
theorem dX9_init_107 : decode cX9_init 107 = .ok (.iload_n 1, 1) := by decide +kernel
theorem dX9_init_108 : decode cX9_init 108 = .ok (.new 13, 3) := by decide +kernel
theorem dX9_init_111 : decode cX9_init 111 = .ok (.dup, 1) := by decide +kernel
theorem dX9_init_112 : decode cX9_init 112 = .ok (.invokespecial 15, 3) := by decide +kernel
theorem dX9_init_115 : decode cX9_init 115 = .ok (.aastore, 1) := by decide +kernel
theorem dX9_init_116 : decode cX9_init 116 = .ok (.iinc 1 1, 3) := by decide +kernel
theorem dX9_init_119 : decode cX9_init 119 = .ok (.goto (-21), 3) := by decide +kernel
theorem dX9_init_122 : decode cX9_init 122 = .ok (.aload_n 0, 1) := by decide +kernel
theorem dX9_init_123 : decode cX9_init 123 = .ok (.iconst 2, 1) := by decide +kernel
theorem dX9_init_124 : decode cX9_init 124 = .ok (.newarray .boolean, 2) := by decide +kernel
theorem dX9_init_126 : decode cX9_init 126 = .ok (.putfield 54, 3) := by decide +kernel
theorem dX9_init_129 : decode cX9_init 129 = .ok (.return_, 1) := by decide +kernel
theorem dX9_append_0 : decode cX9_append 0 = .ok (.iconst 0, 1) := by decide +kernel
theorem dX9_append_1 : decode cX9_append 1 = .ok (.istore_n 3, 1) := by decide +kernel
theorem dX9_append_2 : decode cX9_append 2 = .ok (.bipush 56, 2) := by decide +kernel
theorem dX9_append_4 : decode cX9_append 4 = .ok (.istore 4, 2) := by decide +kernel
theorem dX9_append_6 : decode cX9_append 6 = .ok (.iload 4, 2) := by decide +kernel
theorem dX9_append_8 : decode cX9_append 8 = .ok (.ifCond .lt 21, 3) := by decide +kernel
theorem dX9_append_11 : decode cX9_append 11 = .ok (.lload_n 1, 1) := by decide +kernel
theorem dX9_append_12 : decode cX9_append 12 = .ok (.iload 4, 2) := by decide +kernel
theorem dX9_append_14 : decode cX9_append 14 = .ok (.lushr, 1) := by decide +kernel
theorem dX9_append_15 : decode cX9_append 15 = .ok (.l2i, 1) := by decide +kernel
theorem dX9_append_16 : decode cX9_append 16 = .ok (.i2b, 1) := by decide +kernel
theorem dX9_append_17 : decode cX9_append 17 = .ok (.ifCond .eq 6, 3) := by decide +kernel
theorem dX9_append_20 : decode cX9_append 20 = .ok (.iinc 3 1, 3) := by decide +kernel
theorem dX9_append_23 : decode cX9_append 23 = .ok (.iinc 4 (-8), 3) := by decide +kernel
theorem dX9_append_26 : decode cX9_append 26 = .ok (.goto (-20), 3) := by decide +kernel
theorem dX9_append_29 : decode cX9_append 29 = .ok (.aload_n 0, 1) := by decide +kernel
theorem dX9_append_30 : decode cX9_append 30 = .ok (.getfield 58, 3) := by decide +kernel
theorem dX9_append_33 : decode cX9_append 33 = .ok (.iload_n 3, 1) := by decide +kernel
theorem dX9_append_34 : decode cX9_append 34 = .ok (.iadd, 1) := by decide +kernel
theorem dX9_append_35 : decode cX9_append 35 = .ok (.sipush 900, 3) := by decide +kernel
theorem dX9_append_38 : decode cX9_append 38 = .ok (.if_icmp .le 6, 3) := by decide +kernel
theorem dX9_append_41 : decode cX9_append 41 = .ok (.bipush (-2), 2) := by decide +kernel
theorem dX9_append_43 : decode cX9_append 43 = .ok (.ireturn, 1) := by decide +kernel
theorem dX9_append_44 : decode cX9_append 44 = .ok (.bipush 56, 2) := by decide +kernel
theorem dX9_append_46 : decode cX9_append 46 = .ok (.istore 4, 2) := by decide +kernel
theorem dX9_append_48 : decode cX9_append 48 = .ok (.iload 4, 2) := by decide +kernel
theorem dX9_append_50 : decode cX9_append 50 = .ok (.ifCond .lt 53, 3) := by decide +kernel
theorem dX9_append_53 : decode cX9_append 53 = .ok (.lload_n 1, 1) := by decide +kernel
theorem dX9_append_54 : decode cX9_append 54 = .ok (.iload 4, 2) := by decide +kernel
theorem dX9_append_56 : decode cX9_append 56 = .ok (.lushr, 1) := by decide +kernel
theorem dX9_append_57 : decode cX9_append 57 = .ok (.l2i, 1) := by decide +kernel
theorem dX9_append_58 : decode cX9_append 58 = .ok (.i2b, 1) := by decide +kernel
theorem dX9_append_59 : decode cX9_append 59 = .ok (.istore 5, 2) := by decide +kernel
theorem dX9_append_61 : decode cX9_append 61 = .ok (.iload 5, 2) := by decide +kernel
theorem dX9_append_63 : decode cX9_append 63 = .ok (.ifCond .eq 34, 3) := by decide +kernel
theorem dX9_append_66 : decode cX9_append 66 = .ok (.aload_n 0, 1) := by decide +kernel
theorem dX9_append_67 : decode cX9_append 67 = .ok (.getfield 58, 3) := by decide +kernel
theorem dX9_append_70 : decode cX9_append 70 = .ok (.sipush 900, 3) := by decide +kernel
theorem dX9_append_73 : decode cX9_append 73 = .ok (.if_icmp .ge 24, 3) := by decide +kernel
theorem dX9_append_76 : decode cX9_append 76 = .ok (.aload_n 0, 1) := by decide +kernel
theorem dX9_append_77 : decode cX9_append 77 = .ok (.getfield 9, 3) := by decide +kernel
theorem dX9_append_80 : decode cX9_append 80 = .ok (.aload_n 0, 1) := by decide +kernel
theorem dX9_append_81 : decode cX9_append 81 = .ok (.getfield 58, 3) := by decide +kernel
theorem dX9_append_84 : decode cX9_append 84 = .ok (.iload 5, 2) := by decide +kernel
theorem dX9_append_86 : decode cX9_append 86 = .ok (.bastore, 1) := by decide +kernel
theorem dX9_append_87 : decode cX9_append 87 = .ok (.aload_n 0, 1) := by decide +kernel
theorem dX9_append_88 : decode cX9_append 88 = .ok (.dup, 1) := by decide +kernel
theorem dX9_append_89 : decode cX9_append 89 = .ok (.getfield 58, 3) := by decide +kernel
theorem dX9_append_92 : decode cX9_append 92 = .ok (.iconst 1, 1) := by decide +kernel
theorem dX9_append_93 : decode cX9_append 93 = .ok (.iadd, 1) := by decide +kernel
theorem dX9_append_94 : decode cX9_append 94 = .ok (.putfield 58, 3) := by decide +kernel
theorem dX9_append_97 : decode cX9_append 97 = .ok (.iinc 4 (-8), 3) := by decide +kernel
theorem dX9_append_100 : decode cX9_append 100 = .ok (.goto (-52), 3) := by decide +kernel
theorem dX9_append_103 : decode cX9_append 103 = .ok (.aload_n 0, 1) := by decide +kernel
theorem dX9_append_104 : decode cX9_append 104 = .ok (.getfield 58, 3) := by decide +kernel
theorem dX9_append_107 : decode cX9_append 107 = .ok (.ireturn, 1) := by decide +kernel
theorem dX9_load_0 : decode cX9_load 0 = .ok (.aload_n 0, 1) := by decide +kernel
theorem dX9_load_1 : decode cX9_load 1 = .ok (.getfield 58, 3) := by decide +kernel
theorem dX9_load_4 : decode cX9_load 4 = .ok (.istore_n 1, 1) := by decide +kernel
theorem dX9_load_5 : decode cX9_load 5 = .ok (.aload_n 0, 1) := by decide +kernel
theorem dX9_load_6 : decode cX9_load 6 = .ok (.iconst 0, 1) := by decide +kernel
theorem dX9_load_7 : decode cX9_load 7 = .ok (.putfield 58, 3) := by decide +kernel
theorem dX9_load_10 : decode cX9_load 10 = .ok (.aload_n 0, 1) := by decide +kernel
theorem dX9_load_11 : decode cX9_load 11 = .ok (.getfield 46, 3) := by decide +kernel
theorem dX9_load_14 : decode cX9_load 14 = .ok (.iload_n 1, 1) := by decide +kernel
theorem dX9_load_15 : decode cX9_load 15 = .ok (.invokevirtual 62, 3) := by decide +kernel
theorem dX9_load_18 : decode cX9_load 18 = .ok (.aload_n 0, 1) := by decide +kernel
theorem dX9_load_19 : decode cX9_load 19 = .ok (.aload_n 0, 1) := by decide +kernel
theorem dX9_load_20 : decode cX9_load 20 = .ok (.getfield 46, 3) := by decide +kernel
theorem dX9_load_23 : decode cX9_load 23 = .ok (.getfield 66, 3) := by decide +kernel
theorem dX9_load_26 : decode cX9_load 26 = .ok (.putfield 69, 3) := by decide +kernel
theorem dX9_load_29 : decode cX9_load 29 = .ok (.aload_n 0, 1) := by decide +kernel
theorem dX9_load_30 : decode cX9_load 30 = .ok (.getfield 69, 3) := by decide +kernel
theorem dX9_load_33 : decode cX9_load 33 = .ok (.ifCond .eq 14, 3) := by decide +kernel
theorem dX9_load_36 : decode cX9_load 36 = .ok (.bipush (-100), 2) := by decide +kernel
theorem dX9_load_38 : decode cX9_load 38 = .ok (.aload_n 0, 1) := by decide +kernel
theorem dX9_load_39 : decode cX9_load 39 = .ok (.getfield 46, 3) := by decide +kernel
theorem dX9_load_42 : decode cX9_load 42 = .ok (.getfield 72, 3) := by decide +kernel
theorem dX9_load_45 : decode cX9_load 45 = .ok (.isub, 1) := by decide +kernel
theorem dX9_load_46 : decode cX9_load 46 = .ok (.ireturn, 1) := by decide +kernel
theorem dX9_load_47 : decode cX9_load 47 = .ok (.aload_n 0, 1) := by decide +kernel
theorem dX9_load_48 : decode cX9_load 48 = .ok (.getfield 16, 3) := by decide +kernel
theorem dX9_load_51 : decode cX9_load 51 = .ok (.aload_n 0, 1) := by decide +kernel
theorem dX9_load_52 : decode cX9_load 52 = .ok (.getfield 29, 3) := by decide +kernel
theorem dX9_load_55 : decode cX9_load 55 = .ok (.invokevirtual 75, 3) := by decide +kernel
theorem dX9_load_58 : decode cX9_load 58 = .ok (.aload_n 0, 1) := by decide +kernel
theorem dX9_load_59 : decode cX9_load 59 = .ok (.getfield 16, 3) := by decide +kernel
theorem dX9_load_62 : decode cX9_load 62 = .ok (.getfield 78, 3) := by decide +kernel
theorem dX9_load_65 : decode cX9_load 65 = .ok (.getfield 82, 3) := by decide +kernel
theorem dX9_load_68 : decode cX9_load 68 = .ok (.ireturn, 1) := by decide +kernel
theorem dX9_count_0 : decode cX9_count 0 = .ok (.iload_n 1, 1) := by decide +kernel
theorem dX9_count_1 : decode cX9_count 1 = .ok (.tableswitch 96 0 5 #[39, 47, 55, 66, 74, 85], 39) := by decide +kernel
theorem dX9_count_40 : decode cX9_count 40 = .ok (.aload_n 0, 1) := by decide +kernel
theorem dX9_count_41 : decode cX9_count 41 = .ok (.getfield 16, 3) := by decide +kernel
theorem dX9_count_44 : decode cX9_count 44 = .ok (.getfield 87, 3) := by decide +kernel
theorem dX9_count_47 : decode cX9_count 47 = .ok (.ireturn, 1) := by decide +kernel
theorem dX9_count_48 : decode cX9_count 48 = .ok (.aload_n 0, 1) := by decide +kernel
theorem dX9_count_49 : decode cX9_count 49 = .ok (.getfield 16, 3) := by decide +kernel
theorem dX9_count_52 : decode cX9_count 52 = .ok (.getfield 90, 3) := by decide +kernel
theorem dX9_count_55 : decode cX9_count 55 = .ok (.ireturn, 1) := by decide +kernel
theorem dX9_count_56 : decode cX9_count 56 = .ok (.aload_n 0, 1) := by decide +kernel
theorem dX9_count_57 : decode cX9_count 57 = .ok (.getfield 16, 3) := by decide +kernel
theorem dX9_count_60 : decode cX9_count 60 = .ok (.getfield 93, 3) := by decide +kernel
theorem dX9_count_63 : decode cX9_count 63 = .ok (.getfield 97, 3) := by decide +kernel
theorem dX9_count_66 : decode cX9_count 66 = .ok (.ireturn, 1) := by decide +kernel
theorem dX9_count_67 : decode cX9_count 67 = .ok (.aload_n 0, 1) := by decide +kernel
theorem dX9_count_68 : decode cX9_count 68 = .ok (.getfield 16, 3) := by decide +kernel
theorem dX9_count_71 : decode cX9_count 71 = .ok (.getfield 100, 3) := by decide +kernel
theorem dX9_count_74 : decode cX9_count 74 = .ok (.ireturn, 1) := by decide +kernel
theorem dX9_count_75 : decode cX9_count 75 = .ok (.aload_n 0, 1) := by decide +kernel
theorem dX9_count_76 : decode cX9_count 76 = .ok (.getfield 16, 3) := by decide +kernel
theorem dX9_count_79 : decode cX9_count 79 = .ok (.getfield 78, 3) := by decide +kernel
theorem dX9_count_82 : decode cX9_count 82 = .ok (.getfield 82, 3) := by decide +kernel
theorem dX9_count_85 : decode cX9_count 85 = .ok (.ireturn, 1) := by decide +kernel
theorem dX9_count_86 : decode cX9_count 86 = .ok (.aload_n 0, 1) := by decide +kernel
theorem dX9_count_87 : decode cX9_count 87 = .ok (.getfield 16, 3) := by decide +kernel
theorem dX9_count_90 : decode cX9_count 90 = .ok (.getfield 78, 3) := by decide +kernel
theorem dX9_count_93 : decode cX9_count 93 = .ok (.getfield 103, 3) := by decide +kernel
theorem dX9_count_96 : decode cX9_count 96 = .ok (.ireturn, 1) := by decide +kernel
theorem dX9_count_97 : decode cX9_count 97 = .ok (.new 106, 3) := by decide +kernel
theorem dX9_count_100 : decode cX9_count 100 = .ok (.dup, 1) := by decide +kernel
theorem dX9_count_101 : decode cX9_count 101 = .ok (.ldc 108, 2) := by decide +kernel
theorem dX9_count_103 : decode cX9_count 103 = .ok (.invokespecial 110, 3) := by decide +kernel
theorem dX9_count_106 : decode cX9_count 106 = .ok (.athrow, 1) := by decide +kernel
theorem dX9_setting_0 : decode cX9_setting 0 = .ok (.iload_n 1, 1) := by decide +kernel
theorem dX9_setting_1 : decode cX9_setting 1 = .ok (.iconst 0, 1) := by decide +kernel
theorem dX9_setting_2 : decode cX9_setting 2 = .ok (.bipush 14, 2) := by decide +kernel
theorem dX9_setting_4 : decode cX9_setting 4 = .ok (.invokestatic 113, 3) := by decide +kernel
theorem dX9_setting_7 : decode cX9_setting 7 = .ok (.aload_n 0, 1) := by decide +kernel
theorem dX9_setting_8 : decode cX9_setting 8 = .ok (.getfield 16, 3) := by decide +kernel
theorem dX9_setting_11 : decode cX9_setting 11 = .ok (.getfield 117, 3) := by decide +kernel
theorem dX9_setting_14 : decode cX9_setting 14 = .ok (.iload_n 1, 1) := by decide +kernel
theorem dX9_setting_15 : decode cX9_setting 15 = .ok (.iaload, 1) := by decide +kernel
theorem dX9_setting_16 : decode cX9_setting 16 = .ok (.ireturn, 1) := by decide +kernel
theorem dX9_set_0 : decode cX9_set 0 = .ok (.iload_n 1, 1) := by decide +kernel
theorem dX9_set_1 : decode cX9_set 1 = .ok (.iconst 0, 1) := by decide +kernel
theorem dX9_set_2 : decode cX9_set 2 = .ok (.bipush 14, 2) := by decide +kernel
theorem dX9_set_4 : decode cX9_set 4 = .ok (.invokestatic 113, 3) := by decide +kernel
theorem dX9_set_7 : decode cX9_set 7 = .ok (.iload_n 1, 1) := by decide +kernel
theorem dX9_set_8 : decode cX9_set 8 = .ok (.bipush 8, 2) := by decide +kernel
theorem dX9_set_10 : decode cX9_set 10 = .ok (.if_icmp .eq 15, 3) := by decide +kernel
theorem dX9_set_13 : decode cX9_set 13 = .ok (.iload_n 1, 1) := by decide +kernel
theorem dX9_set_14 : decode cX9_set 14 = .ok (.bipush 9, 2) := by decide +kernel
theorem dX9_set_16 : decode cX9_set 16 = .ok (.if_icmp .eq 9, 3) := by decide +kernel
theorem dX9_set_19 : decode cX9_set 19 = .ok (.iload_n 1, 1) := by decide +kernel
theorem dX9_set_20 : decode cX9_set 20 = .ok (.bipush 10, 2) := by decide +kernel
theorem dX9_set_22 : decode cX9_set 22 = .ok (.if_icmp .ne 13, 3) := by decide +kernel
theorem dX9_set_25 : decode cX9_set 25 = .ok (.new 106, 3) := by decide +kernel
theorem dX9_set_28 : decode cX9_set 28 = .ok (.dup, 1) := by decide +kernel
theorem dX9_set_29 : decode cX9_set 29 = .ok (.ldc 121, 2) := by decide +kernel
theorem dX9_set_31 : decode cX9_set 31 = .ok (.invokespecial 110, 3) := by decide +kernel
theorem dX9_set_34 : decode cX9_set 34 = .ok (.athrow, 1) := by decide +kernel
theorem dX9_set_35 : decode cX9_set 35 = .ok (.getstatic 123, 3) := by decide +kernel
theorem dX9_set_38 : decode cX9_set 38 = .ok (.iload_n 1, 1) := by decide +kernel
theorem dX9_set_39 : decode cX9_set 39 = .ok (.iaload, 1) := by decide +kernel
theorem dX9_set_40 : decode cX9_set 40 = .ok (.istore_n 3, 1) := by decide +kernel
theorem dX9_set_41 : decode cX9_set 41 = .ok (.iload_n 1, 1) := by decide +kernel
theorem dX9_set_42 : decode cX9_set 42 = .ok (.iconst 5, 1) := by decide +kernel
theorem dX9_set_43 : decode cX9_set 43 = .ok (.if_icmp .ne 20, 3) := by decide +kernel
theorem dX9_set_46 : decode cX9_set 46 = .ok (.bipush 100, 2) := by decide +kernel
theorem dX9_set_48 : decode cX9_set 48 = .ok (.aload_n 0, 1) := by decide +kernel
theorem dX9_set_49 : decode cX9_set 49 = .ok (.getfield 16, 3) := by decide +kernel
theorem dX9_set_52 : decode cX9_set 52 = .ok (.getfield 117, 3) := by decide +kernel
theorem dX9_set_55 : decode cX9_set 55 = .ok (.bipush 6, 2) := by decide +kernel
theorem dX9_set_57 : decode cX9_set 57 = .ok (.iaload, 1) := by decide +kernel
theorem dX9_set_58 : decode cX9_set 58 = .ok (.isub, 1) := by decide +kernel
theorem dX9_set_59 : decode cX9_set 59 = .ok (.istore_n 3, 1) := by decide +kernel
theorem dX9_set_60 : decode cX9_set 60 = .ok (.goto 22, 3) := by decide +kernel
theorem dX9_set_63 : decode cX9_set 63 = .ok (.iload_n 1, 1) := by decide +kernel
theorem dX9_set_64 : decode cX9_set 64 = .ok (.bipush 6, 2) := by decide +kernel
theorem dX9_set_66 : decode cX9_set 66 = .ok (.if_icmp .ne 16, 3) := by decide +kernel
theorem dX9_set_69 : decode cX9_set 69 = .ok (.bipush 100, 2) := by decide +kernel
theorem dX9_set_71 : decode cX9_set 71 = .ok (.aload_n 0, 1) := by decide +kernel
theorem dX9_set_72 : decode cX9_set 72 = .ok (.getfield 16, 3) := by decide +kernel
theorem dX9_set_75 : decode cX9_set 75 = .ok (.getfield 117, 3) := by decide +kernel
theorem dX9_set_78 : decode cX9_set 78 = .ok (.iconst 5, 1) := by decide +kernel
theorem dX9_set_79 : decode cX9_set 79 = .ok (.iaload, 1) := by decide +kernel
theorem dX9_set_80 : decode cX9_set 80 = .ok (.isub, 1) := by decide +kernel
theorem dX9_set_81 : decode cX9_set 81 = .ok (.istore_n 3, 1) := by decide +kernel
theorem dX9_set_82 : decode cX9_set 82 = .ok (.iload_n 2, 1) := by decide +kernel
theorem dX9_set_83 : decode cX9_set 83 = .ok (.getstatic 126, 3) := by decide +kernel
theorem dX9_set_86 : decode cX9_set 86 = .ok (.iload_n 1, 1) := by decide +kernel
theorem dX9_set_87 : decode cX9_set 87 = .ok (.iaload, 1) := by decide +kernel
theorem dX9_set_88 : decode cX9_set 88 = .ok (.iload_n 3, 1) := by decide +kernel
theorem dX9_set_89 : decode cX9_set 89 = .ok (.invokestatic 113, 3) := by decide +kernel
theorem dX9_set_92 : decode cX9_set 92 = .ok (.aload_n 0, 1) := by decide +kernel
theorem dX9_set_93 : decode cX9_set 93 = .ok (.getfield 16, 3) := by decide +kernel
theorem dX9_set_96 : decode cX9_set 96 = .ok (.getfield 117, 3) := by decide +kernel
theorem dX9_set_99 : decode cX9_set 99 = .ok (.iload_n 1, 1) := by decide +kernel
theorem dX9_set_100 : decode cX9_set 100 = .ok (.iaload, 1) := by decide +kernel
theorem dX9_set_101 : decode cX9_set 101 = .ok (.istore 4, 2) := by decide +kernel
theorem dX9_set_103 : decode cX9_set 103 = .ok (.aload_n 0, 1) := by decide +kernel
theorem dX9_set_104 : decode cX9_set 104 = .ok (.getfield 16, 3) := by decide +kernel
theorem dX9_set_107 : decode cX9_set 107 = .ok (.getfield 117, 3) := by decide +kernel
theorem dX9_set_110 : decode cX9_set 110 = .ok (.iload_n 1, 1) := by decide +kernel
theorem dX9_set_111 : decode cX9_set 111 = .ok (.iload_n 2, 1) := by decide +kernel
theorem dX9_set_112 : decode cX9_set 112 = .ok (.iastore, 1) := by decide +kernel
theorem dX9_set_113 : decode cX9_set 113 = .ok (.iload 4, 2) := by decide +kernel
theorem dX9_set_115 : decode cX9_set 115 = .ok (.ireturn, 1) := by decide +kernel
theorem dX9_spindleValue_0 : decode cX9_spindleValue 0 = .ok (.iload_n 1, 1) := by decide +kernel
theorem dX9_spindleValue_1 : decode cX9_spindleValue 1 = .ok (.aload_n 0, 1) := by decide +kernel
theorem dX9_spindleValue_2 : decode cX9_spindleValue 2 = .ok (.getfield 16, 3) := by decide +kernel
theorem dX9_spindleValue_5 : decode cX9_spindleValue 5 = .ok (.getfield 87, 3) := by decide +kernel
theorem dX9_spindleValue_8 : decode cX9_spindleValue 8 = .ok (.invokestatic 129, 3) := by decide +kernel
theorem dX9_spindleValue_11 : decode cX9_spindleValue 11 = .ok (.iload_n 2, 1) := by decide +kernel
theorem dX9_spindleValue_12 : decode cX9_spindleValue 12 = .ok (.iconst 0, 1) := by decide +kernel
theorem dX9_spindleValue_13 : decode cX9_spindleValue 13 = .ok (.bipush 7, 2) := by decide +kernel
theorem dX9_spindleValue_15 : decode cX9_spindleValue 15 = .ok (.invokestatic 113, 3) := by decide +kernel
theorem dX9_spindleValue_18 : decode cX9_spindleValue 18 = .ok (.aload_n 0, 1) := by decide +kernel
theorem dX9_spindleValue_19 : decode cX9_spindleValue 19 = .ok (.getfield 16, 3) := by decide +kernel
theorem dX9_spindleValue_22 : decode cX9_spindleValue 22 = .ok (.getfield 133, 3) := by decide +kernel
theorem dX9_spindleValue_25 : decode cX9_spindleValue 25 = .ok (.iload_n 1, 1) := by decide +kernel
theorem dX9_spindleValue_26 : decode cX9_spindleValue 26 = .ok (.aaload, 1) := by decide +kernel
theorem dX9_spindleValue_27 : decode cX9_spindleValue 27 = .ok (.iload_n 2, 1) := by decide +kernel
theorem dX9_spindleValue_28 : decode cX9_spindleValue 28 = .ok (.invokevirtual 137, 3) := by decide +kernel
theorem dX9_spindleValue_31 : decode cX9_spindleValue 31 = .ok (.ireturn, 1) := by decide +kernel
theorem dX9_freeNozzles_0 : decode cX9_freeNozzles 0 = .ok (.iload_n 1, 1) := by decide +kernel
theorem dX9_freeNozzles_1 : decode cX9_freeNozzles 1 = .ok (.aload_n 0, 1) := by decide +kernel
theorem dX9_freeNozzles_2 : decode cX9_freeNozzles 2 = .ok (.getfield 16, 3) := by decide +kernel
theorem dX9_freeNozzles_5 : decode cX9_freeNozzles 5 = .ok (.getfield 90, 3) := by decide +kernel
theorem dX9_freeNozzles_8 : decode cX9_freeNozzles 8 = .ok (.invokestatic 129, 3) := by decide +kernel
theorem dX9_freeNozzles_11 : decode cX9_freeNozzles 11 = .ok (.aload_n 0, 1) := by decide +kernel
theorem dX9_freeNozzles_12 : decode cX9_freeNozzles 12 = .ok (.getfield 16, 3) := by decide +kernel
theorem dX9_freeNozzles_15 : decode cX9_freeNozzles 15 = .ok (.getfield 143, 3) := by decide +kernel
theorem dX9_freeNozzles_18 : decode cX9_freeNozzles 18 = .ok (.iload_n 1, 1) := by decide +kernel
theorem dX9_freeNozzles_19 : decode cX9_freeNozzles 19 = .ok (.iaload, 1) := by decide +kernel
theorem dX9_freeNozzles_20 : decode cX9_freeNozzles 20 = .ok (.ireturn, 1) := by decide +kernel
theorem dX9_nozzleFor_0 : decode cX9_nozzleFor 0 = .ok (.iload_n 1, 1) := by decide +kernel
theorem dX9_nozzleFor_1 : decode cX9_nozzleFor 1 = .ok (.aload_n 0, 1) := by decide +kernel
theorem dX9_nozzleFor_2 : decode cX9_nozzleFor 2 = .ok (.getfield 16, 3) := by decide +kernel
theorem dX9_nozzleFor_5 : decode cX9_nozzleFor 5 = .ok (.getfield 93, 3) := by decide +kernel
theorem dX9_nozzleFor_8 : decode cX9_nozzleFor 8 = .ok (.getfield 97, 3) := by decide +kernel
theorem dX9_nozzleFor_11 : decode cX9_nozzleFor 11 = .ok (.invokestatic 129, 3) := by decide +kernel
theorem dX9_nozzleFor_14 : decode cX9_nozzleFor 14 = .ok (.aload_n 0, 1) := by decide +kernel
theorem dX9_nozzleFor_15 : decode cX9_nozzleFor 15 = .ok (.getfield 16, 3) := by decide +kernel
theorem dX9_nozzleFor_18 : decode cX9_nozzleFor 18 = .ok (.getfield 93, 3) := by decide +kernel
theorem dX9_nozzleFor_21 : decode cX9_nozzleFor 21 = .ok (.getfield 146, 3) := by decide +kernel
theorem dX9_nozzleFor_24 : decode cX9_nozzleFor 24 = .ok (.iload_n 1, 1) := by decide +kernel
theorem dX9_nozzleFor_25 : decode cX9_nozzleFor 25 = .ok (.iaload, 1) := by decide +kernel
theorem dX9_nozzleFor_26 : decode cX9_nozzleFor 26 = .ok (.ireturn, 1) := by decide +kernel
theorem dX9_feederValue_0 : decode cX9_feederValue 0 = .ok (.iload_n 1, 1) := by decide +kernel
theorem dX9_feederValue_1 : decode cX9_feederValue 1 = .ok (.aload_n 0, 1) := by decide +kernel
theorem dX9_feederValue_2 : decode cX9_feederValue 2 = .ok (.getfield 16, 3) := by decide +kernel
theorem dX9_feederValue_5 : decode cX9_feederValue 5 = .ok (.getfield 100, 3) := by decide +kernel
theorem dX9_feederValue_8 : decode cX9_feederValue 8 = .ok (.invokestatic 129, 3) := by decide +kernel
theorem dX9_feederValue_11 : decode cX9_feederValue 11 = .ok (.iload_n 2, 1) := by decide +kernel
theorem dX9_feederValue_12 : decode cX9_feederValue 12 = .ok (.iconst 0, 1) := by decide +kernel
theorem dX9_feederValue_13 : decode cX9_feederValue 13 = .ok (.bipush 7, 2) := by decide +kernel
theorem dX9_feederValue_15 : decode cX9_feederValue 15 = .ok (.invokestatic 113, 3) := by decide +kernel
theorem dX9_feederValue_18 : decode cX9_feederValue 18 = .ok (.aload_n 0, 1) := by decide +kernel
theorem dX9_feederValue_19 : decode cX9_feederValue 19 = .ok (.getfield 16, 3) := by decide +kernel
theorem dX9_feederValue_22 : decode cX9_feederValue 22 = .ok (.getfield 149, 3) := by decide +kernel
theorem dX9_feederValue_25 : decode cX9_feederValue 25 = .ok (.iload_n 1, 1) := by decide +kernel
theorem dX9_feederValue_26 : decode cX9_feederValue 26 = .ok (.aaload, 1) := by decide +kernel
theorem dX9_feederValue_27 : decode cX9_feederValue 27 = .ok (.iload_n 2, 1) := by decide +kernel
theorem dX9_feederValue_28 : decode cX9_feederValue 28 = .ok (.invokevirtual 153, 3) := by decide +kernel
theorem dX9_feederValue_31 : decode cX9_feederValue 31 = .ok (.ireturn, 1) := by decide +kernel
theorem dX9_splice_0 : decode cX9_splice 0 = .ok (.iload_n 1, 1) := by decide +kernel
theorem dX9_splice_1 : decode cX9_splice 1 = .ok (.aload_n 0, 1) := by decide +kernel
theorem dX9_splice_2 : decode cX9_splice 2 = .ok (.getfield 16, 3) := by decide +kernel
theorem dX9_splice_5 : decode cX9_splice 5 = .ok (.getfield 100, 3) := by decide +kernel
theorem dX9_splice_8 : decode cX9_splice 8 = .ok (.invokestatic 129, 3) := by decide +kernel
theorem dX9_splice_11 : decode cX9_splice 11 = .ok (.iload_n 2, 1) := by decide +kernel
theorem dX9_splice_12 : decode cX9_splice 12 = .ok (.iconst 0, 1) := by decide +kernel
theorem dX9_splice_13 : decode cX9_splice 13 = .ok (.sipush 500, 3) := by decide +kernel
theorem dX9_splice_16 : decode cX9_splice 16 = .ok (.invokestatic 113, 3) := by decide +kernel
theorem dX9_splice_19 : decode cX9_splice 19 = .ok (.aload_n 0, 1) := by decide +kernel
theorem dX9_splice_20 : decode cX9_splice 20 = .ok (.getfield 16, 3) := by decide +kernel
theorem dX9_splice_23 : decode cX9_splice 23 = .ok (.getfield 149, 3) := by decide +kernel
theorem dX9_splice_26 : decode cX9_splice 26 = .ok (.iload_n 1, 1) := by decide +kernel
theorem dX9_splice_27 : decode cX9_splice 27 = .ok (.aaload, 1) := by decide +kernel
theorem dX9_splice_28 : decode cX9_splice 28 = .ok (.astore_n 3, 1) := by decide +kernel
theorem dX9_splice_29 : decode cX9_splice 29 = .ok (.aload_n 3, 1) := by decide +kernel
theorem dX9_splice_30 : decode cX9_splice 30 = .ok (.getfield 156, 3) := by decide +kernel
theorem dX9_splice_33 : decode cX9_splice 33 = .ok (.iconst 3, 1) := by decide +kernel
theorem dX9_splice_34 : decode cX9_splice 34 = .ok (.if_icmp .lt 6, 3) := by decide +kernel
theorem dX9_splice_37 : decode cX9_splice 37 = .ok (.bipush (-2), 2) := by decide +kernel
theorem dX9_splice_39 : decode cX9_splice 39 = .ok (.ireturn, 1) := by decide +kernel
theorem dX9_splice_40 : decode cX9_splice 40 = .ok (.aload_n 3, 1) := by decide +kernel
theorem dX9_splice_41 : decode cX9_splice 41 = .ok (.iload_n 2, 1) := by decide +kernel
theorem dX9_splice_42 : decode cX9_splice 42 = .ok (.invokevirtual 159, 3) := by decide +kernel
theorem dX9_splice_45 : decode cX9_splice 45 = .ok (.aload_n 0, 1) := by decide +kernel
theorem dX9_splice_46 : decode cX9_splice 46 = .ok (.getfield 16, 3) := by decide +kernel
theorem dX9_splice_49 : decode cX9_splice 49 = .ok (.getfield 93, 3) := by decide +kernel
theorem dX9_splice_52 : decode cX9_splice 52 = .ok (.getfield 162, 3) := by decide +kernel
theorem dX9_splice_55 : decode cX9_splice 55 = .ok (.aload_n 3, 1) := by decide +kernel
theorem dX9_splice_56 : decode cX9_splice 56 = .ok (.getfield 165, 3) := by decide +kernel
theorem dX9_splice_59 : decode cX9_splice 59 = .ok (.dup2, 1) := by decide +kernel
theorem dX9_splice_60 : decode cX9_splice 60 = .ok (.iaload, 1) := by decide +kernel
theorem dX9_splice_61 : decode cX9_splice 61 = .ok (.iload_n 2, 1) := by decide +kernel
theorem dX9_splice_62 : decode cX9_splice 62 = .ok (.iadd, 1) := by decide +kernel
theorem dX9_splice_63 : decode cX9_splice 63 = .ok (.iastore, 1) := by decide +kernel
theorem dX9_splice_64 : decode cX9_splice 64 = .ok (.aload_n 0, 1) := by decide +kernel
theorem dX9_splice_65 : decode cX9_splice 65 = .ok (.getfield 16, 3) := by decide +kernel
theorem dX9_splice_68 : decode cX9_splice 68 = .ok (.getfield 168, 3) := by decide +kernel
theorem dX9_splice_71 : decode cX9_splice 71 = .ok (.dup, 1) := by decide +kernel
theorem dX9_splice_72 : decode cX9_splice 72 = .ok (.getfield 172, 3) := by decide +kernel
theorem dX9_splice_75 : decode cX9_splice 75 = .ok (.aload_n 3, 1) := by decide +kernel
theorem dX9_splice_76 : decode cX9_splice 76 = .ok (.invokevirtual 177, 3) := by decide +kernel
theorem dX9_splice_79 : decode cX9_splice 79 = .ok (.iadd, 1) := by decide +kernel
theorem dX9_splice_80 : decode cX9_splice 80 = .ok (.putfield 172, 3) := by decide +kernel
theorem dX9_splice_83 : decode cX9_splice 83 = .ok (.aload_n 3, 1) := by decide +kernel
theorem dX9_splice_84 : decode cX9_splice 84 = .ok (.getfield 156, 3) := by decide +kernel
theorem dX9_splice_87 : decode cX9_splice 87 = .ok (.ireturn, 1) := by decide +kernel
theorem dX9_takeReel_0 : decode cX9_takeReel 0 = .ok (.iload_n 1, 1) := by decide +kernel
theorem dX9_takeReel_1 : decode cX9_takeReel 1 = .ok (.aload_n 0, 1) := by decide +kernel
theorem dX9_takeReel_2 : decode cX9_takeReel 2 = .ok (.getfield 16, 3) := by decide +kernel
theorem dX9_takeReel_5 : decode cX9_takeReel 5 = .ok (.getfield 100, 3) := by decide +kernel
theorem dX9_takeReel_8 : decode cX9_takeReel 8 = .ok (.invokestatic 129, 3) := by decide +kernel
theorem dX9_takeReel_11 : decode cX9_takeReel 11 = .ok (.aload_n 0, 1) := by decide +kernel
theorem dX9_takeReel_12 : decode cX9_takeReel 12 = .ok (.getfield 16, 3) := by decide +kernel
theorem dX9_takeReel_15 : decode cX9_takeReel 15 = .ok (.getfield 149, 3) := by decide +kernel
theorem dX9_takeReel_18 : decode cX9_takeReel 18 = .ok (.iload_n 1, 1) := by decide +kernel
theorem dX9_takeReel_19 : decode cX9_takeReel 19 = .ok (.aaload, 1) := by decide +kernel
theorem dX9_takeReel_20 : decode cX9_takeReel 20 = .ok (.astore_n 2, 1) := by decide +kernel
theorem dX9_takeReel_21 : decode cX9_takeReel 21 = .ok (.aload_n 2, 1) := by decide +kernel
theorem dX9_takeReel_22 : decode cX9_takeReel 22 = .ok (.getfield 156, 3) := by decide +kernel
theorem dX9_takeReel_25 : decode cX9_takeReel 25 = .ok (.ifCond .ne 5, 3) := by decide +kernel
theorem dX9_takeReel_28 : decode cX9_takeReel 28 = .ok (.iconst (-1), 1) := by decide +kernel
theorem dX9_takeReel_29 : decode cX9_takeReel 29 = .ok (.ireturn, 1) := by decide +kernel
theorem dX9_takeReel_30 : decode cX9_takeReel 30 = .ok (.aload_n 2, 1) := by decide +kernel
theorem dX9_takeReel_31 : decode cX9_takeReel 31 = .ok (.invokevirtual 181, 3) := by decide +kernel
theorem dX9_takeReel_34 : decode cX9_takeReel 34 = .ok (.istore_n 3, 1) := by decide +kernel
theorem dX9_takeReel_35 : decode cX9_takeReel 35 = .ok (.aload_n 0, 1) := by decide +kernel
theorem dX9_takeReel_36 : decode cX9_takeReel 36 = .ok (.getfield 16, 3) := by decide +kernel
theorem dX9_takeReel_39 : decode cX9_takeReel 39 = .ok (.getfield 93, 3) := by decide +kernel
theorem dX9_takeReel_42 : decode cX9_takeReel 42 = .ok (.getfield 184, 3) := by decide +kernel
theorem dX9_takeReel_45 : decode cX9_takeReel 45 = .ok (.aload_n 2, 1) := by decide +kernel
theorem dX9_takeReel_46 : decode cX9_takeReel 46 = .ok (.getfield 165, 3) := by decide +kernel
theorem dX9_takeReel_49 : decode cX9_takeReel 49 = .ok (.dup2, 1) := by decide +kernel
theorem dX9_takeReel_50 : decode cX9_takeReel 50 = .ok (.iaload, 1) := by decide +kernel
theorem dX9_takeReel_51 : decode cX9_takeReel 51 = .ok (.iload_n 3, 1) := by decide +kernel
theorem dX9_takeReel_52 : decode cX9_takeReel 52 = .ok (.iadd, 1) := by decide +kernel
theorem dX9_takeReel_53 : decode cX9_takeReel 53 = .ok (.iastore, 1) := by decide +kernel
theorem dX9_takeReel_54 : decode cX9_takeReel 54 = .ok (.iload_n 3, 1) := by decide +kernel
theorem dX9_takeReel_55 : decode cX9_takeReel 55 = .ok (.ireturn, 1) := by decide +kernel
theorem dX9_spotValue_0 : decode cX9_spotValue 0 = .ok (.iload_n 1, 1) := by decide +kernel
theorem dX9_spotValue_1 : decode cX9_spotValue 1 = .ok (.aload_n 0, 1) := by decide +kernel
theorem dX9_spotValue_2 : decode cX9_spotValue 2 = .ok (.getfield 16, 3) := by decide +kernel
theorem dX9_spotValue_5 : decode cX9_spotValue 5 = .ok (.getfield 78, 3) := by decide +kernel
theorem dX9_spotValue_8 : decode cX9_spotValue 8 = .ok (.getfield 82, 3) := by decide +kernel
theorem dX9_spotValue_11 : decode cX9_spotValue 11 = .ok (.invokestatic 129, 3) := by decide +kernel
theorem dX9_spotValue_14 : decode cX9_spotValue 14 = .ok (.iload_n 2, 1) := by decide +kernel
theorem dX9_spotValue_15 : decode cX9_spotValue 15 = .ok (.iconst 0, 1) := by decide +kernel
theorem dX9_spotValue_16 : decode cX9_spotValue 16 = .ok (.iconst 5, 1) := by decide +kernel
theorem dX9_spotValue_17 : decode cX9_spotValue 17 = .ok (.invokestatic 113, 3) := by decide +kernel
theorem dX9_spotValue_20 : decode cX9_spotValue 20 = .ok (.aload_n 0, 1) := by decide +kernel
theorem dX9_spotValue_21 : decode cX9_spotValue 21 = .ok (.getfield 16, 3) := by decide +kernel
theorem dX9_spotValue_24 : decode cX9_spotValue 24 = .ok (.getfield 78, 3) := by decide +kernel
theorem dX9_spotValue_27 : decode cX9_spotValue 27 = .ok (.iload_n 1, 1) := by decide +kernel
theorem dX9_spotValue_28 : decode cX9_spotValue 28 = .ok (.iload_n 2, 1) := by decide +kernel
theorem dX9_spotValue_29 : decode cX9_spotValue 29 = .ok (.invokevirtual 196, 3) := by decide +kernel
theorem dX9_spotValue_32 : decode cX9_spotValue 32 = .ok (.ireturn, 1) := by decide +kernel
theorem dX9_leaveOut_0 : decode cX9_leaveOut 0 = .ok (.iload_n 1, 1) := by decide +kernel
theorem dX9_leaveOut_1 : decode cX9_leaveOut 1 = .ok (.aload_n 0, 1) := by decide +kernel
theorem dX9_leaveOut_2 : decode cX9_leaveOut 2 = .ok (.getfield 16, 3) := by decide +kernel
theorem dX9_leaveOut_5 : decode cX9_leaveOut 5 = .ok (.getfield 78, 3) := by decide +kernel
theorem dX9_leaveOut_8 : decode cX9_leaveOut 8 = .ok (.getfield 82, 3) := by decide +kernel
theorem dX9_leaveOut_11 : decode cX9_leaveOut 11 = .ok (.invokestatic 129, 3) := by decide +kernel
theorem dX9_leaveOut_14 : decode cX9_leaveOut 14 = .ok (.iload_n 2, 1) := by decide +kernel
theorem dX9_leaveOut_15 : decode cX9_leaveOut 15 = .ok (.ifCond .eq 17, 3) := by decide +kernel
theorem dX9_leaveOut_18 : decode cX9_leaveOut 18 = .ok (.aload_n 0, 1) := by decide +kernel
theorem dX9_leaveOut_19 : decode cX9_leaveOut 19 = .ok (.getfield 16, 3) := by decide +kernel
theorem dX9_leaveOut_22 : decode cX9_leaveOut 22 = .ok (.getfield 78, 3) := by decide +kernel
theorem dX9_leaveOut_25 : decode cX9_leaveOut 25 = .ok (.iload_n 1, 1) := by decide +kernel
theorem dX9_leaveOut_26 : decode cX9_leaveOut 26 = .ok (.invokevirtual 199, 3) := by decide +kernel
theorem dX9_leaveOut_29 : decode cX9_leaveOut 29 = .ok (.goto 14, 3) := by decide +kernel
theorem dX9_leaveOut_32 : decode cX9_leaveOut 32 = .ok (.aload_n 0, 1) := by decide +kernel
theorem dX9_leaveOut_33 : decode cX9_leaveOut 33 = .ok (.getfield 16, 3) := by decide +kernel
theorem dX9_leaveOut_36 : decode cX9_leaveOut 36 = .ok (.getfield 78, 3) := by decide +kernel
theorem dX9_leaveOut_39 : decode cX9_leaveOut 39 = .ok (.iload_n 1, 1) := by decide +kernel
theorem dX9_leaveOut_40 : decode cX9_leaveOut 40 = .ok (.invokevirtual 203, 3) := by decide +kernel
theorem dX9_leaveOut_43 : decode cX9_leaveOut 43 = .ok (.ireturn, 1) := by decide +kernel
theorem dX9_blockedBy_0 : decode cX9_blockedBy 0 = .ok (.iload_n 1, 1) := by decide +kernel
theorem dX9_blockedBy_1 : decode cX9_blockedBy 1 = .ok (.aload_n 0, 1) := by decide +kernel
theorem dX9_blockedBy_2 : decode cX9_blockedBy 2 = .ok (.getfield 16, 3) := by decide +kernel
theorem dX9_blockedBy_5 : decode cX9_blockedBy 5 = .ok (.getfield 78, 3) := by decide +kernel
theorem dX9_blockedBy_8 : decode cX9_blockedBy 8 = .ok (.getfield 82, 3) := by decide +kernel
theorem dX9_blockedBy_11 : decode cX9_blockedBy 11 = .ok (.invokestatic 129, 3) := by decide +kernel
theorem dX9_blockedBy_14 : decode cX9_blockedBy 14 = .ok (.aload_n 0, 1) := by decide +kernel
theorem dX9_blockedBy_15 : decode cX9_blockedBy 15 = .ok (.getfield 16, 3) := by decide +kernel
theorem dX9_blockedBy_18 : decode cX9_blockedBy 18 = .ok (.getfield 78, 3) := by decide +kernel
theorem dX9_blockedBy_21 : decode cX9_blockedBy 21 = .ok (.lconst 1, 1) := by decide +kernel
theorem dX9_blockedBy_22 : decode cX9_blockedBy 22 = .ok (.iload_n 1, 1) := by decide +kernel
theorem dX9_blockedBy_23 : decode cX9_blockedBy 23 = .ok (.lshl, 1) := by decide +kernel
theorem dX9_blockedBy_24 : decode cX9_blockedBy 24 = .ok (.invokevirtual 222, 3) := by decide +kernel
theorem dX9_blockedBy_27 : decode cX9_blockedBy 27 = .ok (.aload_n 0, 1) := by decide +kernel
theorem dX9_blockedBy_28 : decode cX9_blockedBy 28 = .ok (.getfield 16, 3) := by decide +kernel
theorem dX9_blockedBy_31 : decode cX9_blockedBy 31 = .ok (.getfield 78, 3) := by decide +kernel
theorem dX9_blockedBy_34 : decode cX9_blockedBy 34 = .ok (.getfield 226, 3) := by decide +kernel
theorem dX9_blockedBy_37 : decode cX9_blockedBy 37 = .ok (.land, 1) := by decide +kernel
theorem dX9_blockedBy_38 : decode cX9_blockedBy 38 = .ok (.lreturn, 1) := by decide +kernel
theorem dX9_fillableSet_0 : decode cX9_fillableSet 0 = .ok (.aload_n 0, 1) := by decide +kernel
theorem dX9_fillableSet_1 : decode cX9_fillableSet 1 = .ok (.getfield 16, 3) := by decide +kernel
theorem dX9_fillableSet_4 : decode cX9_fillableSet 4 = .ok (.getfield 78, 3) := by decide +kernel
theorem dX9_fillableSet_7 : decode cX9_fillableSet 7 = .ok (.invokevirtual 233, 3) := by decide +kernel
theorem dX9_fillableSet_10 : decode cX9_fillableSet 10 = .ok (.lreturn, 1) := by decide +kernel
theorem dX9_filledSet_0 : decode cX9_filledSet 0 = .ok (.aload_n 0, 1) := by decide +kernel
theorem dX9_filledSet_1 : decode cX9_filledSet 1 = .ok (.getfield 16, 3) := by decide +kernel
theorem dX9_filledSet_4 : decode cX9_filledSet 4 = .ok (.getfield 78, 3) := by decide +kernel
theorem dX9_filledSet_7 : decode cX9_filledSet 7 = .ok (.getfield 237, 3) := by decide +kernel
theorem dX9_filledSet_10 : decode cX9_filledSet 10 = .ok (.lreturn, 1) := by decide +kernel
theorem dX9_newBoard_0 : decode cX9_newBoard 0 = .ok (.aload_n 0, 1) := by decide +kernel
theorem dX9_newBoard_1 : decode cX9_newBoard 1 = .ok (.getfield 16, 3) := by decide +kernel
theorem dX9_newBoard_4 : decode cX9_newBoard 4 = .ok (.dup, 1) := by decide +kernel
theorem dX9_newBoard_5 : decode cX9_newBoard 5 = .ok (.getfield 240, 3) := by decide +kernel
theorem dX9_newBoard_8 : decode cX9_newBoard 8 = .ok (.iconst 1, 1) := by decide +kernel
theorem dX9_newBoard_9 : decode cX9_newBoard 9 = .ok (.iadd, 1) := by decide +kernel
theorem dX9_newBoard_10 : decode cX9_newBoard 10 = .ok (.putfield 240, 3) := by decide +kernel
theorem dX9_newBoard_13 : decode cX9_newBoard 13 = .ok (.aload_n 0, 1) := by decide +kernel
theorem dX9_newBoard_14 : decode cX9_newBoard 14 = .ok (.getfield 16, 3) := by decide +kernel
theorem dX9_newBoard_17 : decode cX9_newBoard 17 = .ok (.getfield 78, 3) := by decide +kernel
theorem dX9_newBoard_20 : decode cX9_newBoard 20 = .ok (.invokevirtual 243, 3) := by decide +kernel
theorem dX9_newBoard_23 : decode cX9_newBoard 23 = .ok (.ireturn, 1) := by decide +kernel
theorem dX9_changeNozzle_0 : decode cX9_changeNozzle 0 = .ok (.iload_n 1, 1) := by decide +kernel
theorem dX9_changeNozzle_1 : decode cX9_changeNozzle 1 = .ok (.aload_n 0, 1) := by decide +kernel
theorem dX9_changeNozzle_2 : decode cX9_changeNozzle 2 = .ok (.getfield 16, 3) := by decide +kernel
theorem dX9_changeNozzle_5 : decode cX9_changeNozzle 5 = .ok (.getfield 87, 3) := by decide +kernel
theorem dX9_changeNozzle_8 : decode cX9_changeNozzle 8 = .ok (.invokestatic 129, 3) := by decide +kernel
theorem dX9_changeNozzle_11 : decode cX9_changeNozzle 11 = .ok (.iload_n 2, 1) := by decide +kernel
theorem dX9_changeNozzle_12 : decode cX9_changeNozzle 12 = .ok (.aload_n 0, 1) := by decide +kernel
theorem dX9_changeNozzle_13 : decode cX9_changeNozzle 13 = .ok (.getfield 16, 3) := by decide +kernel
theorem dX9_changeNozzle_16 : decode cX9_changeNozzle 16 = .ok (.getfield 90, 3) := by decide +kernel
theorem dX9_changeNozzle_19 : decode cX9_changeNozzle 19 = .ok (.invokestatic 129, 3) := by decide +kernel
theorem dX9_changeNozzle_22 : decode cX9_changeNozzle 22 = .ok (.aload_n 0, 1) := by decide +kernel
theorem dX9_changeNozzle_23 : decode cX9_changeNozzle 23 = .ok (.getfield 16, 3) := by decide +kernel
theorem dX9_changeNozzle_26 : decode cX9_changeNozzle 26 = .ok (.getfield 133, 3) := by decide +kernel
theorem dX9_changeNozzle_29 : decode cX9_changeNozzle 29 = .ok (.iload_n 1, 1) := by decide +kernel
theorem dX9_changeNozzle_30 : decode cX9_changeNozzle 30 = .ok (.aaload, 1) := by decide +kernel
theorem dX9_changeNozzle_31 : decode cX9_changeNozzle 31 = .ok (.astore_n 3, 1) := by decide +kernel
theorem dX9_changeNozzle_32 : decode cX9_changeNozzle 32 = .ok (.aload_n 3, 1) := by decide +kernel
theorem dX9_changeNozzle_33 : decode cX9_changeNozzle 33 = .ok (.getfield 246, 3) := by decide +kernel
theorem dX9_changeNozzle_36 : decode cX9_changeNozzle 36 = .ok (.iconst (-1), 1) := by decide +kernel
theorem dX9_changeNozzle_37 : decode cX9_changeNozzle 37 = .ok (.if_icmp .eq 6, 3) := by decide +kernel
theorem dX9_changeNozzle_40 : decode cX9_changeNozzle 40 = .ok (.bipush (-3), 2) := by decide +kernel
theorem dX9_changeNozzle_42 : decode cX9_changeNozzle 42 = .ok (.ireturn, 1) := by decide +kernel
theorem dX9_changeNozzle_43 : decode cX9_changeNozzle 43 = .ok (.aload_n 3, 1) := by decide +kernel
theorem dX9_changeNozzle_44 : decode cX9_changeNozzle 44 = .ok (.getfield 249, 3) := by decide +kernel
theorem dX9_changeNozzle_47 : decode cX9_changeNozzle 47 = .ok (.iload_n 2, 1) := by decide +kernel
theorem dX9_changeNozzle_48 : decode cX9_changeNozzle 48 = .ok (.if_icmp .ne 6, 3) := by decide +kernel
theorem dX9_changeNozzle_51 : decode cX9_changeNozzle 51 = .ok (.bipush (-5), 2) := by decide +kernel
theorem dX9_changeNozzle_53 : decode cX9_changeNozzle 53 = .ok (.ireturn, 1) := by decide +kernel
theorem dX9_changeNozzle_54 : decode cX9_changeNozzle 54 = .ok (.aload_n 0, 1) := by decide +kernel
theorem dX9_changeNozzle_55 : decode cX9_changeNozzle 55 = .ok (.getfield 16, 3) := by decide +kernel
theorem dX9_changeNozzle_58 : decode cX9_changeNozzle 58 = .ok (.getfield 143, 3) := by decide +kernel
theorem dX9_changeNozzle_61 : decode cX9_changeNozzle 61 = .ok (.iload_n 2, 1) := by decide +kernel
theorem dX9_changeNozzle_62 : decode cX9_changeNozzle 62 = .ok (.iaload, 1) := by decide +kernel
theorem dX9_changeNozzle_63 : decode cX9_changeNozzle 63 = .ok (.ifCond .ne 6, 3) := by decide +kernel
theorem dX9_changeNozzle_66 : decode cX9_changeNozzle 66 = .ok (.bipush (-4), 2) := by decide +kernel
theorem dX9_changeNozzle_68 : decode cX9_changeNozzle 68 = .ok (.ireturn, 1) := by decide +kernel
theorem dX9_changeNozzle_69 : decode cX9_changeNozzle 69 = .ok (.aload_n 0, 1) := by decide +kernel
theorem dX9_changeNozzle_70 : decode cX9_changeNozzle 70 = .ok (.getfield 16, 3) := by decide +kernel
theorem dX9_changeNozzle_73 : decode cX9_changeNozzle 73 = .ok (.iconst 1, 1) := by decide +kernel
theorem dX9_changeNozzle_74 : decode cX9_changeNozzle 74 = .ok (.iload_n 1, 1) := by decide +kernel
theorem dX9_changeNozzle_75 : decode cX9_changeNozzle 75 = .ok (.iload_n 2, 1) := by decide +kernel
theorem dX9_changeNozzle_76 : decode cX9_changeNozzle 76 = .ok (.invokevirtual 251, 3) := by decide +kernel
theorem dX9_changeNozzle_79 : decode cX9_changeNozzle 79 = .ok (.ireturn, 1) := by decide +kernel
theorem dX9_pick_0 : decode cX9_pick 0 = .ok (.iload_n 1, 1) := by decide +kernel
theorem dX9_pick_1 : decode cX9_pick 1 = .ok (.aload_n 0, 1) := by decide +kernel
theorem dX9_pick_2 : decode cX9_pick 2 = .ok (.getfield 16, 3) := by decide +kernel
theorem dX9_pick_5 : decode cX9_pick 5 = .ok (.getfield 87, 3) := by decide +kernel
theorem dX9_pick_8 : decode cX9_pick 8 = .ok (.invokestatic 129, 3) := by decide +kernel
theorem dX9_pick_11 : decode cX9_pick 11 = .ok (.iload_n 2, 1) := by decide +kernel
theorem dX9_pick_12 : decode cX9_pick 12 = .ok (.aload_n 0, 1) := by decide +kernel
theorem dX9_pick_13 : decode cX9_pick 13 = .ok (.getfield 16, 3) := by decide +kernel
theorem dX9_pick_16 : decode cX9_pick 16 = .ok (.getfield 100, 3) := by decide +kernel
theorem dX9_pick_19 : decode cX9_pick 19 = .ok (.invokestatic 129, 3) := by decide +kernel
theorem dX9_pick_22 : decode cX9_pick 22 = .ok (.aload_n 0, 1) := by decide +kernel
theorem dX9_pick_23 : decode cX9_pick 23 = .ok (.getfield 16, 3) := by decide +kernel
theorem dX9_pick_26 : decode cX9_pick 26 = .ok (.getfield 133, 3) := by decide +kernel
theorem dX9_pick_29 : decode cX9_pick 29 = .ok (.iload_n 1, 1) := by decide +kernel
theorem dX9_pick_30 : decode cX9_pick 30 = .ok (.aaload, 1) := by decide +kernel
theorem dX9_pick_31 : decode cX9_pick 31 = .ok (.astore_n 3, 1) := by decide +kernel
theorem dX9_pick_32 : decode cX9_pick 32 = .ok (.aload_n 0, 1) := by decide +kernel
theorem dX9_pick_33 : decode cX9_pick 33 = .ok (.getfield 16, 3) := by decide +kernel
theorem dX9_pick_36 : decode cX9_pick 36 = .ok (.getfield 149, 3) := by decide +kernel
theorem dX9_pick_39 : decode cX9_pick 39 = .ok (.iload_n 2, 1) := by decide +kernel
theorem dX9_pick_40 : decode cX9_pick 40 = .ok (.aaload, 1) := by decide +kernel
theorem dX9_pick_41 : decode cX9_pick 41 = .ok (.astore 4, 2) := by decide +kernel
theorem dX9_pick_43 : decode cX9_pick 43 = .ok (.aload_n 3, 1) := by decide +kernel
theorem dX9_pick_44 : decode cX9_pick 44 = .ok (.getfield 246, 3) := by decide +kernel
theorem dX9_pick_47 : decode cX9_pick 47 = .ok (.iconst (-1), 1) := by decide +kernel
theorem dX9_pick_48 : decode cX9_pick 48 = .ok (.if_icmp .eq 6, 3) := by decide +kernel
theorem dX9_pick_51 : decode cX9_pick 51 = .ok (.bipush (-3), 2) := by decide +kernel
theorem dX9_pick_53 : decode cX9_pick 53 = .ok (.ireturn, 1) := by decide +kernel
theorem dX9_pick_54 : decode cX9_pick 54 = .ok (.aload_n 3, 1) := by decide +kernel
theorem dX9_pick_55 : decode cX9_pick 55 = .ok (.getfield 249, 3) := by decide +kernel
theorem dX9_pick_58 : decode cX9_pick 58 = .ok (.aload_n 0, 1) := by decide +kernel
theorem dX9_pick_59 : decode cX9_pick 59 = .ok (.getfield 16, 3) := by decide +kernel
theorem dX9_pick_62 : decode cX9_pick 62 = .ok (.getfield 93, 3) := by decide +kernel
theorem dX9_pick_65 : decode cX9_pick 65 = .ok (.getfield 146, 3) := by decide +kernel
theorem dX9_pick_68 : decode cX9_pick 68 = .ok (.aload 4, 2) := by decide +kernel
theorem dX9_pick_70 : decode cX9_pick 70 = .ok (.getfield 165, 3) := by decide +kernel
theorem dX9_pick_73 : decode cX9_pick 73 = .ok (.iaload, 1) := by decide +kernel
theorem dX9_pick_74 : decode cX9_pick 74 = .ok (.if_icmp .eq 6, 3) := by decide +kernel
theorem dX9_pick_77 : decode cX9_pick 77 = .ok (.bipush (-5), 2) := by decide +kernel
theorem dX9_pick_79 : decode cX9_pick 79 = .ok (.ireturn, 1) := by decide +kernel
theorem dX9_pick_80 : decode cX9_pick 80 = .ok (.aload 4, 2) := by decide +kernel
theorem dX9_pick_82 : decode cX9_pick 82 = .ok (.getfield 255, 3) := by decide +kernel
theorem dX9_pick_85 : decode cX9_pick 85 = .ok (.ifCond .ne 6, 3) := by decide +kernel
theorem dX9_pick_88 : decode cX9_pick 88 = .ok (.bipush (-4), 2) := by decide +kernel
theorem dX9_pick_90 : decode cX9_pick 90 = .ok (.ireturn, 1) := by decide +kernel
theorem dX9_pick_91 : decode cX9_pick 91 = .ok (.aload_n 0, 1) := by decide +kernel
theorem dX9_pick_92 : decode cX9_pick 92 = .ok (.getfield 16, 3) := by decide +kernel
theorem dX9_pick_95 : decode cX9_pick 95 = .ok (.iconst 2, 1) := by decide +kernel
theorem dX9_pick_96 : decode cX9_pick 96 = .ok (.iload_n 1, 1) := by decide +kernel
theorem dX9_pick_97 : decode cX9_pick 97 = .ok (.iload_n 2, 1) := by decide +kernel
theorem dX9_pick_98 : decode cX9_pick 98 = .ok (.invokevirtual 251, 3) := by decide +kernel
theorem dX9_pick_101 : decode cX9_pick 101 = .ok (.ireturn, 1) := by decide +kernel
theorem dX9_look_0 : decode cX9_look 0 = .ok (.iload_n 1, 1) := by decide +kernel
theorem dX9_look_1 : decode cX9_look 1 = .ok (.aload_n 0, 1) := by decide +kernel
theorem dX9_look_2 : decode cX9_look 2 = .ok (.getfield 16, 3) := by decide +kernel
theorem dX9_look_5 : decode cX9_look 5 = .ok (.getfield 87, 3) := by decide +kernel
theorem dX9_look_8 : decode cX9_look 8 = .ok (.invokestatic 129, 3) := by decide +kernel
theorem dX9_look_11 : decode cX9_look 11 = .ok (.aload_n 0, 1) := by decide +kernel
theorem dX9_look_12 : decode cX9_look 12 = .ok (.getfield 16, 3) := by decide +kernel
theorem dX9_look_15 : decode cX9_look 15 = .ok (.getfield 133, 3) := by decide +kernel
theorem dX9_look_18 : decode cX9_look 18 = .ok (.iload_n 1, 1) := by decide +kernel
theorem dX9_look_19 : decode cX9_look 19 = .ok (.aaload, 1) := by decide +kernel
theorem dX9_look_20 : decode cX9_look 20 = .ok (.astore_n 2, 1) := by decide +kernel
theorem dX9_look_21 : decode cX9_look 21 = .ok (.aload_n 2, 1) := by decide +kernel
theorem dX9_look_22 : decode cX9_look 22 = .ok (.getfield 246, 3) := by decide +kernel
theorem dX9_look_25 : decode cX9_look 25 = .ok (.iconst (-1), 1) := by decide +kernel
theorem dX9_look_26 : decode cX9_look 26 = .ok (.if_icmp .eq 10, 3) := by decide +kernel
theorem dX9_look_29 : decode cX9_look 29 = .ok (.aload_n 2, 1) := by decide +kernel
theorem dX9_look_30 : decode cX9_look 30 = .ok (.getfield 258, 3) := by decide +kernel
theorem dX9_look_33 : decode cX9_look 33 = .ok (.ifCond .eq 6, 3) := by decide +kernel
theorem dX9_look_36 : decode cX9_look 36 = .ok (.bipush (-3), 2) := by decide +kernel
theorem dX9_look_38 : decode cX9_look 38 = .ok (.ireturn, 1) := by decide +kernel
theorem dX9_look_39 : decode cX9_look 39 = .ok (.aload_n 0, 1) := by decide +kernel
theorem dX9_look_40 : decode cX9_look 40 = .ok (.getfield 16, 3) := by decide +kernel
theorem dX9_look_43 : decode cX9_look 43 = .ok (.iconst 3, 1) := by decide +kernel
theorem dX9_look_44 : decode cX9_look 44 = .ok (.iload_n 1, 1) := by decide +kernel
theorem dX9_look_45 : decode cX9_look 45 = .ok (.iconst 0, 1) := by decide +kernel
theorem dX9_look_46 : decode cX9_look 46 = .ok (.invokevirtual 251, 3) := by decide +kernel
theorem dX9_look_49 : decode cX9_look 49 = .ok (.ireturn, 1) := by decide +kernel
theorem dX9_place_0 : decode cX9_place 0 = .ok (.iload_n 1, 1) := by decide +kernel
theorem dX9_place_1 : decode cX9_place 1 = .ok (.aload_n 0, 1) := by decide +kernel
theorem dX9_place_2 : decode cX9_place 2 = .ok (.getfield 16, 3) := by decide +kernel
theorem dX9_place_5 : decode cX9_place 5 = .ok (.getfield 87, 3) := by decide +kernel
theorem dX9_place_8 : decode cX9_place 8 = .ok (.invokestatic 129, 3) := by decide +kernel
theorem dX9_place_11 : decode cX9_place 11 = .ok (.iload_n 2, 1) := by decide +kernel
theorem dX9_place_12 : decode cX9_place 12 = .ok (.aload_n 0, 1) := by decide +kernel
theorem dX9_place_13 : decode cX9_place 13 = .ok (.getfield 16, 3) := by decide +kernel
theorem dX9_place_16 : decode cX9_place 16 = .ok (.getfield 78, 3) := by decide +kernel
theorem dX9_place_19 : decode cX9_place 19 = .ok (.getfield 82, 3) := by decide +kernel
theorem dX9_place_22 : decode cX9_place 22 = .ok (.invokestatic 129, 3) := by decide +kernel
theorem dX9_place_25 : decode cX9_place 25 = .ok (.aload_n 0, 1) := by decide +kernel
theorem dX9_place_26 : decode cX9_place 26 = .ok (.getfield 16, 3) := by decide +kernel
theorem dX9_place_29 : decode cX9_place 29 = .ok (.getfield 133, 3) := by decide +kernel
theorem dX9_place_32 : decode cX9_place 32 = .ok (.iload_n 1, 1) := by decide +kernel
theorem dX9_place_33 : decode cX9_place 33 = .ok (.aaload, 1) := by decide +kernel
theorem dX9_place_34 : decode cX9_place 34 = .ok (.astore_n 3, 1) := by decide +kernel
theorem dX9_place_35 : decode cX9_place 35 = .ok (.aload_n 0, 1) := by decide +kernel
theorem dX9_place_36 : decode cX9_place 36 = .ok (.getfield 16, 3) := by decide +kernel
theorem dX9_place_39 : decode cX9_place 39 = .ok (.getfield 78, 3) := by decide +kernel
theorem dX9_place_42 : decode cX9_place 42 = .ok (.astore 4, 2) := by decide +kernel
theorem dX9_place_44 : decode cX9_place 44 = .ok (.aload_n 3, 1) := by decide +kernel
theorem dX9_place_45 : decode cX9_place 45 = .ok (.getfield 246, 3) := by decide +kernel
theorem dX9_place_48 : decode cX9_place 48 = .ok (.iconst (-1), 1) := by decide +kernel
theorem dX9_place_49 : decode cX9_place 49 = .ok (.if_icmp .eq 19, 3) := by decide +kernel
theorem dX9_place_52 : decode cX9_place 52 = .ok (.aload_n 3, 1) := by decide +kernel
theorem dX9_place_53 : decode cX9_place 53 = .ok (.getfield 258, 3) := by decide +kernel
theorem dX9_place_56 : decode cX9_place 56 = .ok (.ifCond .eq 12, 3) := by decide +kernel
theorem dX9_place_59 : decode cX9_place 59 = .ok (.aload 4, 2) := by decide +kernel
theorem dX9_place_61 : decode cX9_place 61 = .ok (.iload_n 2, 1) := by decide +kernel
theorem dX9_place_62 : decode cX9_place 62 = .ok (.invokevirtual 262, 3) := by decide +kernel
theorem dX9_place_65 : decode cX9_place 65 = .ok (.ifCond .ne 6, 3) := by decide +kernel
theorem dX9_place_68 : decode cX9_place 68 = .ok (.bipush (-3), 2) := by decide +kernel
theorem dX9_place_70 : decode cX9_place 70 = .ok (.ireturn, 1) := by decide +kernel
theorem dX9_place_71 : decode cX9_place 71 = .ok (.aload_n 3, 1) := by decide +kernel
theorem dX9_place_72 : decode cX9_place 72 = .ok (.getfield 246, 3) := by decide +kernel
theorem dX9_place_75 : decode cX9_place 75 = .ok (.aload 4, 2) := by decide +kernel
theorem dX9_place_77 : decode cX9_place 77 = .ok (.getfield 265, 3) := by decide +kernel
theorem dX9_place_80 : decode cX9_place 80 = .ok (.iload_n 2, 1) := by decide +kernel
theorem dX9_place_81 : decode cX9_place 81 = .ok (.iaload, 1) := by decide +kernel
theorem dX9_place_82 : decode cX9_place 82 = .ok (.if_icmp .eq 6, 3) := by decide +kernel
theorem dX9_place_85 : decode cX9_place 85 = .ok (.bipush (-5), 2) := by decide +kernel
theorem dX9_place_87 : decode cX9_place 87 = .ok (.ireturn, 1) := by decide +kernel
theorem dX9_place_88 : decode cX9_place 88 = .ok (.aload 4, 2) := by decide +kernel
theorem dX9_place_90 : decode cX9_place 90 = .ok (.lconst 1, 1) := by decide +kernel
theorem dX9_place_91 : decode cX9_place 91 = .ok (.iload_n 2, 1) := by decide +kernel
theorem dX9_place_92 : decode cX9_place 92 = .ok (.lshl, 1) := by decide +kernel
theorem dX9_place_93 : decode cX9_place 93 = .ok (.invokevirtual 222, 3) := by decide +kernel
theorem dX9_place_96 : decode cX9_place 96 = .ok (.aload 4, 2) := by decide +kernel
theorem dX9_place_98 : decode cX9_place 98 = .ok (.getfield 226, 3) := by decide +kernel
theorem dX9_place_101 : decode cX9_place 101 = .ok (.land, 1) := by decide +kernel
theorem dX9_place_102 : decode cX9_place 102 = .ok (.lconst 0, 1) := by decide +kernel
theorem dX9_place_103 : decode cX9_place 103 = .ok (.lcmp, 1) := by decide +kernel
theorem dX9_place_104 : decode cX9_place 104 = .ok (.ifCond .eq 6, 3) := by decide +kernel
theorem dX9_place_107 : decode cX9_place 107 = .ok (.bipush (-6), 2) := by decide +kernel
theorem dX9_place_109 : decode cX9_place 109 = .ok (.ireturn, 1) := by decide +kernel
theorem dX9_place_110 : decode cX9_place 110 = .ok (.aload_n 0, 1) := by decide +kernel
theorem dX9_place_111 : decode cX9_place 111 = .ok (.getfield 16, 3) := by decide +kernel
theorem dX9_place_114 : decode cX9_place 114 = .ok (.iconst 4, 1) := by decide +kernel
theorem dX9_place_115 : decode cX9_place 115 = .ok (.iload_n 1, 1) := by decide +kernel
theorem dX9_place_116 : decode cX9_place 116 = .ok (.iload_n 2, 1) := by decide +kernel
theorem dX9_place_117 : decode cX9_place 117 = .ok (.invokevirtual 251, 3) := by decide +kernel
theorem dX9_place_120 : decode cX9_place 120 = .ok (.ireturn, 1) := by decide +kernel
theorem dX9_discard_0 : decode cX9_discard 0 = .ok (.iload_n 1, 1) := by decide +kernel
theorem dX9_discard_1 : decode cX9_discard 1 = .ok (.aload_n 0, 1) := by decide +kernel
theorem dX9_discard_2 : decode cX9_discard 2 = .ok (.getfield 16, 3) := by decide +kernel
theorem dX9_discard_5 : decode cX9_discard 5 = .ok (.getfield 87, 3) := by decide +kernel
theorem dX9_discard_8 : decode cX9_discard 8 = .ok (.invokestatic 129, 3) := by decide +kernel
theorem dX9_discard_11 : decode cX9_discard 11 = .ok (.aload_n 0, 1) := by decide +kernel
theorem dX9_discard_12 : decode cX9_discard 12 = .ok (.getfield 16, 3) := by decide +kernel
theorem dX9_discard_15 : decode cX9_discard 15 = .ok (.getfield 133, 3) := by decide +kernel
theorem dX9_discard_18 : decode cX9_discard 18 = .ok (.iload_n 1, 1) := by decide +kernel
theorem dX9_discard_19 : decode cX9_discard 19 = .ok (.aaload, 1) := by decide +kernel
theorem dX9_discard_20 : decode cX9_discard 20 = .ok (.getfield 246, 3) := by decide +kernel
theorem dX9_discard_23 : decode cX9_discard 23 = .ok (.iconst (-1), 1) := by decide +kernel
theorem dX9_discard_24 : decode cX9_discard 24 = .ok (.if_icmp .ne 6, 3) := by decide +kernel
theorem dX9_discard_27 : decode cX9_discard 27 = .ok (.bipush (-3), 2) := by decide +kernel
theorem dX9_discard_29 : decode cX9_discard 29 = .ok (.ireturn, 1) := by decide +kernel
theorem dX9_discard_30 : decode cX9_discard 30 = .ok (.aload_n 0, 1) := by decide +kernel
theorem dX9_discard_31 : decode cX9_discard 31 = .ok (.getfield 16, 3) := by decide +kernel
theorem dX9_discard_34 : decode cX9_discard 34 = .ok (.iconst 5, 1) := by decide +kernel
theorem dX9_discard_35 : decode cX9_discard 35 = .ok (.iload_n 1, 1) := by decide +kernel
theorem dX9_discard_36 : decode cX9_discard 36 = .ok (.iconst 0, 1) := by decide +kernel
theorem dX9_discard_37 : decode cX9_discard 37 = .ok (.invokevirtual 251, 3) := by decide +kernel
theorem dX9_discard_40 : decode cX9_discard 40 = .ok (.ireturn, 1) := by decide +kernel
theorem dX9_clean_0 : decode cX9_clean 0 = .ok (.iload_n 1, 1) := by decide +kernel
theorem dX9_clean_1 : decode cX9_clean 1 = .ok (.aload_n 0, 1) := by decide +kernel
theorem dX9_clean_2 : decode cX9_clean 2 = .ok (.getfield 16, 3) := by decide +kernel
theorem dX9_clean_5 : decode cX9_clean 5 = .ok (.getfield 87, 3) := by decide +kernel
theorem dX9_clean_8 : decode cX9_clean 8 = .ok (.invokestatic 129, 3) := by decide +kernel
theorem dX9_clean_11 : decode cX9_clean 11 = .ok (.aload_n 0, 1) := by decide +kernel
theorem dX9_clean_12 : decode cX9_clean 12 = .ok (.getfield 16, 3) := by decide +kernel
theorem dX9_clean_15 : decode cX9_clean 15 = .ok (.getfield 133, 3) := by decide +kernel
theorem dX9_clean_18 : decode cX9_clean 18 = .ok (.iload_n 1, 1) := by decide +kernel
theorem dX9_clean_19 : decode cX9_clean 19 = .ok (.aaload, 1) := by decide +kernel
theorem dX9_clean_20 : decode cX9_clean 20 = .ok (.astore_n 2, 1) := by decide +kernel
theorem dX9_clean_21 : decode cX9_clean 21 = .ok (.aload_n 2, 1) := by decide +kernel
theorem dX9_clean_22 : decode cX9_clean 22 = .ok (.getfield 246, 3) := by decide +kernel
theorem dX9_clean_25 : decode cX9_clean 25 = .ok (.iconst (-1), 1) := by decide +kernel
theorem dX9_clean_26 : decode cX9_clean 26 = .ok (.if_icmp .eq 6, 3) := by decide +kernel
theorem dX9_clean_29 : decode cX9_clean 29 = .ok (.bipush (-3), 2) := by decide +kernel
theorem dX9_clean_31 : decode cX9_clean 31 = .ok (.ireturn, 1) := by decide +kernel
theorem dX9_clean_32 : decode cX9_clean 32 = .ok (.aload_n 2, 1) := by decide +kernel
theorem dX9_clean_33 : decode cX9_clean 33 = .ok (.getfield 249, 3) := by decide +kernel
theorem dX9_clean_36 : decode cX9_clean 36 = .ok (.iconst (-1), 1) := by decide +kernel
theorem dX9_clean_37 : decode cX9_clean 37 = .ok (.if_icmp .ne 6, 3) := by decide +kernel
theorem dX9_clean_40 : decode cX9_clean 40 = .ok (.bipush (-4), 2) := by decide +kernel
theorem dX9_clean_42 : decode cX9_clean 42 = .ok (.ireturn, 1) := by decide +kernel
theorem dX9_clean_43 : decode cX9_clean 43 = .ok (.aload_n 0, 1) := by decide +kernel
theorem dX9_clean_44 : decode cX9_clean 44 = .ok (.getfield 16, 3) := by decide +kernel
theorem dX9_clean_47 : decode cX9_clean 47 = .ok (.bipush 6, 2) := by decide +kernel
theorem dX9_clean_49 : decode cX9_clean 49 = .ok (.iload_n 1, 1) := by decide +kernel
theorem dX9_clean_50 : decode cX9_clean 50 = .ok (.iconst 0, 1) := by decide +kernel
theorem dX9_clean_51 : decode cX9_clean 51 = .ok (.invokevirtual 251, 3) := by decide +kernel
theorem dX9_clean_54 : decode cX9_clean 54 = .ok (.ireturn, 1) := by decide +kernel
theorem dX9_nextAction_0 : decode cX9_nextAction 0 = .ok (.aload_n 0, 1) := by decide +kernel
theorem dX9_nextAction_1 : decode cX9_nextAction 1 = .ok (.getfield 25, 3) := by decide +kernel
theorem dX9_nextAction_4 : decode cX9_nextAction 4 = .ok (.invokevirtual 267, 3) := by decide +kernel
theorem dX9_nextAction_7 : decode cX9_nextAction 7 = .ok (.ifCond .eq 30, 3) := by decide +kernel
theorem dX9_nextAction_10 : decode cX9_nextAction 10 = .ok (.aload_n 0, 1) := by decide +kernel
theorem dX9_nextAction_11 : decode cX9_nextAction 11 = .ok (.getfield 25, 3) := by decide +kernel
theorem dX9_nextAction_14 : decode cX9_nextAction 14 = .ok (.getfield 271, 3) := by decide +kernel
theorem dX9_nextAction_17 : decode cX9_nextAction 17 = .ok (.aload_n 0, 1) := by decide +kernel
theorem dX9_nextAction_18 : decode cX9_nextAction 18 = .ok (.getfield 25, 3) := by decide +kernel
theorem dX9_nextAction_21 : decode cX9_nextAction 21 = .ok (.getfield 274, 3) := by decide +kernel
theorem dX9_nextAction_24 : decode cX9_nextAction 24 = .ok (.aload_n 0, 1) := by decide +kernel
theorem dX9_nextAction_25 : decode cX9_nextAction 25 = .ok (.getfield 25, 3) := by decide +kernel
theorem dX9_nextAction_28 : decode cX9_nextAction 28 = .ok (.getfield 277, 3) := by decide +kernel
theorem dX9_nextAction_31 : decode cX9_nextAction 31 = .ok (.invokestatic 280, 3) := by decide +kernel
theorem dX9_nextAction_34 : decode cX9_nextAction 34 = .ok (.goto 4, 3) := by decide +kernel
theorem dX9_nextAction_37 : decode cX9_nextAction 37 = .ok (.iconst (-1), 1) := by decide +kernel
theorem dX9_nextAction_38 : decode cX9_nextAction 38 = .ok (.ireturn, 1) := by decide +kernel
theorem dX9_step_0 : decode cX9_step 0 = .ok (.aload_n 0, 1) := by decide +kernel
theorem dX9_step_1 : decode cX9_step 1 = .ok (.getfield 25, 3) := by decide +kernel
theorem dX9_step_4 : decode cX9_step 4 = .ok (.invokevirtual 283, 3) := by decide +kernel
theorem dX9_step_7 : decode cX9_step 7 = .ok (.ireturn, 1) := by decide +kernel
theorem dX9_run_0 : decode cX9_run 0 = .ok (.iload_n 1, 1) := by decide +kernel
theorem dX9_run_1 : decode cX9_run 1 = .ok (.iconst 1, 1) := by decide +kernel
theorem dX9_run_2 : decode cX9_run 2 = .ok (.sipush 500, 3) := by decide +kernel
theorem dX9_run_5 : decode cX9_run 5 = .ok (.invokestatic 113, 3) := by decide +kernel
theorem dX9_run_8 : decode cX9_run 8 = .ok (.iconst 0, 1) := by decide +kernel
theorem dX9_run_9 : decode cX9_run 9 = .ok (.istore_n 2, 1) := by decide +kernel
theorem dX9_run_10 : decode cX9_run 10 = .ok (.iload_n 2, 1) := by decide +kernel
theorem dX9_run_11 : decode cX9_run 11 = .ok (.iload_n 1, 1) := by decide +kernel
theorem dX9_run_12 : decode cX9_run 12 = .ok (.if_icmp .ge 22, 3) := by decide +kernel
theorem dX9_run_15 : decode cX9_run 15 = .ok (.aload_n 0, 1) := by decide +kernel
theorem dX9_run_16 : decode cX9_run 16 = .ok (.getfield 25, 3) := by decide +kernel
theorem dX9_run_19 : decode cX9_run 19 = .ok (.invokevirtual 283, 3) := by decide +kernel
theorem dX9_run_22 : decode cX9_run 22 = .ok (.iconst (-1), 1) := by decide +kernel
theorem dX9_run_23 : decode cX9_run 23 = .ok (.if_icmp .ne 5, 3) := by decide +kernel
theorem dX9_run_26 : decode cX9_run 26 = .ok (.iload_n 2, 1) := by decide +kernel
theorem dX9_run_27 : decode cX9_run 27 = .ok (.ireturn, 1) := by decide +kernel
theorem dX9_run_28 : decode cX9_run 28 = .ok (.iinc 2 1, 3) := by decide +kernel
theorem dX9_run_31 : decode cX9_run 31 = .ok (.goto (-21), 3) := by decide +kernel
theorem dX9_run_34 : decode cX9_run 34 = .ok (.iload_n 1, 1) := by decide +kernel
theorem dX9_run_35 : decode cX9_run 35 = .ok (.ireturn, 1) := by decide +kernel
theorem dX9_resume_0 : decode cX9_resume 0 = .ok (.aload_n 0, 1) := by decide +kernel
theorem dX9_resume_1 : decode cX9_resume 1 = .ok (.getfield 16, 3) := by decide +kernel
theorem dX9_resume_4 : decode cX9_resume 4 = .ok (.getfield 286, 3) := by decide +kernel
theorem dX9_resume_7 : decode cX9_resume 7 = .ok (.istore_n 1, 1) := by decide +kernel
theorem dX9_resume_8 : decode cX9_resume 8 = .ok (.aload_n 0, 1) := by decide +kernel
theorem dX9_resume_9 : decode cX9_resume 9 = .ok (.getfield 16, 3) := by decide +kernel
theorem dX9_resume_12 : decode cX9_resume 12 = .ok (.iconst 0, 1) := by decide +kernel
theorem dX9_resume_13 : decode cX9_resume 13 = .ok (.putfield 286, 3) := by decide +kernel
theorem dX9_resume_16 : decode cX9_resume 16 = .ok (.aload_n 0, 1) := by decide +kernel
theorem dX9_resume_17 : decode cX9_resume 17 = .ok (.getfield 16, 3) := by decide +kernel
theorem dX9_resume_20 : decode cX9_resume 20 = .ok (.iconst 0, 1) := by decide +kernel
theorem dX9_resume_21 : decode cX9_resume 21 = .ok (.putfield 289, 3) := by decide +kernel
theorem dX9_resume_24 : decode cX9_resume 24 = .ok (.iload_n 1, 1) := by decide +kernel
theorem dX9_resume_25 : decode cX9_resume 25 = .ok (.ireturn, 1) := by decide +kernel
theorem dX9_ledger_0 : decode cX9_ledger 0 = .ok (.iload_n 1, 1) := by decide +kernel
theorem dX9_ledger_1 : decode cX9_ledger 1 = .ok (.aload_n 0, 1) := by decide +kernel
theorem dX9_ledger_2 : decode cX9_ledger 2 = .ok (.getfield 16, 3) := by decide +kernel
theorem dX9_ledger_5 : decode cX9_ledger 5 = .ok (.getfield 93, 3) := by decide +kernel
theorem dX9_ledger_8 : decode cX9_ledger 8 = .ok (.getfield 97, 3) := by decide +kernel
theorem dX9_ledger_11 : decode cX9_ledger 11 = .ok (.invokestatic 129, 3) := by decide +kernel
theorem dX9_ledger_14 : decode cX9_ledger 14 = .ok (.iload_n 2, 1) := by decide +kernel
theorem dX9_ledger_15 : decode cX9_ledger 15 = .ok (.iconst 0, 1) := by decide +kernel
theorem dX9_ledger_16 : decode cX9_ledger 16 = .ok (.bipush 6, 2) := by decide +kernel
theorem dX9_ledger_18 : decode cX9_ledger 18 = .ok (.invokestatic 113, 3) := by decide +kernel
theorem dX9_ledger_21 : decode cX9_ledger 21 = .ok (.aload_n 0, 1) := by decide +kernel
theorem dX9_ledger_22 : decode cX9_ledger 22 = .ok (.getfield 16, 3) := by decide +kernel
theorem dX9_ledger_25 : decode cX9_ledger 25 = .ok (.iload_n 1, 1) := by decide +kernel
theorem dX9_ledger_26 : decode cX9_ledger 26 = .ok (.iload_n 2, 1) := by decide +kernel
theorem dX9_ledger_27 : decode cX9_ledger 27 = .ok (.invokevirtual 292, 3) := by decide +kernel
theorem dX9_ledger_30 : decode cX9_ledger 30 = .ok (.ireturn, 1) := by decide +kernel
theorem dX9_isBalanced_0 : decode cX9_isBalanced 0 = .ok (.iconst 0, 1) := by decide +kernel
theorem dX9_isBalanced_1 : decode cX9_isBalanced 1 = .ok (.istore_n 1, 1) := by decide +kernel
theorem dX9_isBalanced_2 : decode cX9_isBalanced 2 = .ok (.iload_n 1, 1) := by decide +kernel
theorem dX9_isBalanced_3 : decode cX9_isBalanced 3 = .ok (.aload_n 0, 1) := by decide +kernel
theorem dX9_isBalanced_4 : decode cX9_isBalanced 4 = .ok (.getfield 16, 3) := by decide +kernel
theorem dX9_isBalanced_7 : decode cX9_isBalanced 7 = .ok (.getfield 93, 3) := by decide +kernel
theorem dX9_isBalanced_10 : decode cX9_isBalanced 10 = .ok (.getfield 97, 3) := by decide +kernel
theorem dX9_isBalanced_13 : decode cX9_isBalanced 13 = .ok (.if_icmp .ge 52, 3) := by decide +kernel
theorem dX9_isBalanced_16 : decode cX9_isBalanced 16 = .ok (.iconst 0, 1) := by decide +kernel
theorem dX9_isBalanced_17 : decode cX9_isBalanced 17 = .ok (.istore_n 2, 1) := by decide +kernel
theorem dX9_isBalanced_18 : decode cX9_isBalanced 18 = .ok (.iconst 1, 1) := by decide +kernel
theorem dX9_isBalanced_19 : decode cX9_isBalanced 19 = .ok (.istore_n 3, 1) := by decide +kernel
theorem dX9_isBalanced_20 : decode cX9_isBalanced 20 = .ok (.iload_n 3, 1) := by decide +kernel
theorem dX9_isBalanced_21 : decode cX9_isBalanced 21 = .ok (.bipush 6, 2) := by decide +kernel
theorem dX9_isBalanced_23 : decode cX9_isBalanced 23 = .ok (.if_icmp .gt 21, 3) := by decide +kernel
theorem dX9_isBalanced_26 : decode cX9_isBalanced 26 = .ok (.iload_n 2, 1) := by decide +kernel
theorem dX9_isBalanced_27 : decode cX9_isBalanced 27 = .ok (.aload_n 0, 1) := by decide +kernel
theorem dX9_isBalanced_28 : decode cX9_isBalanced 28 = .ok (.getfield 16, 3) := by decide +kernel
theorem dX9_isBalanced_31 : decode cX9_isBalanced 31 = .ok (.iload_n 1, 1) := by decide +kernel
theorem dX9_isBalanced_32 : decode cX9_isBalanced 32 = .ok (.iload_n 3, 1) := by decide +kernel
theorem dX9_isBalanced_33 : decode cX9_isBalanced 33 = .ok (.invokevirtual 292, 3) := by decide +kernel
theorem dX9_isBalanced_36 : decode cX9_isBalanced 36 = .ok (.iadd, 1) := by decide +kernel
theorem dX9_isBalanced_37 : decode cX9_isBalanced 37 = .ok (.istore_n 2, 1) := by decide +kernel
theorem dX9_isBalanced_38 : decode cX9_isBalanced 38 = .ok (.iinc 3 1, 3) := by decide +kernel
theorem dX9_isBalanced_41 : decode cX9_isBalanced 41 = .ok (.goto (-21), 3) := by decide +kernel
theorem dX9_isBalanced_44 : decode cX9_isBalanced 44 = .ok (.iload_n 2, 1) := by decide +kernel
theorem dX9_isBalanced_45 : decode cX9_isBalanced 45 = .ok (.aload_n 0, 1) := by decide +kernel
theorem dX9_isBalanced_46 : decode cX9_isBalanced 46 = .ok (.getfield 16, 3) := by decide +kernel
theorem dX9_isBalanced_49 : decode cX9_isBalanced 49 = .ok (.iload_n 1, 1) := by decide +kernel
theorem dX9_isBalanced_50 : decode cX9_isBalanced 50 = .ok (.iconst 0, 1) := by decide +kernel
theorem dX9_isBalanced_51 : decode cX9_isBalanced 51 = .ok (.invokevirtual 292, 3) := by decide +kernel
theorem dX9_isBalanced_54 : decode cX9_isBalanced 54 = .ok (.if_icmp .eq 5, 3) := by decide +kernel
theorem dX9_isBalanced_57 : decode cX9_isBalanced 57 = .ok (.iconst 0, 1) := by decide +kernel
theorem dX9_isBalanced_58 : decode cX9_isBalanced 58 = .ok (.ireturn, 1) := by decide +kernel
theorem dX9_isBalanced_59 : decode cX9_isBalanced 59 = .ok (.iinc 1 1, 3) := by decide +kernel
theorem dX9_isBalanced_62 : decode cX9_isBalanced 62 = .ok (.goto (-60), 3) := by decide +kernel
theorem dX9_isBalanced_65 : decode cX9_isBalanced 65 = .ok (.iconst 1, 1) := by decide +kernel
theorem dX9_isBalanced_66 : decode cX9_isBalanced 66 = .ok (.ireturn, 1) := by decide +kernel
theorem dX9_now_0 : decode cX9_now 0 = .ok (.aload_n 0, 1) := by decide +kernel
theorem dX9_now_1 : decode cX9_now 1 = .ok (.getfield 16, 3) := by decide +kernel
theorem dX9_now_4 : decode cX9_now 4 = .ok (.getfield 295, 3) := by decide +kernel
theorem dX9_now_7 : decode cX9_now 7 = .ok (.ireturn, 1) := by decide +kernel
theorem dX9_head_0 : decode cX9_head 0 = .ok (.iload_n 1, 1) := by decide +kernel
theorem dX9_head_1 : decode cX9_head 1 = .ok (.iconst 0, 1) := by decide +kernel
theorem dX9_head_2 : decode cX9_head 2 = .ok (.iconst 1, 1) := by decide +kernel
theorem dX9_head_3 : decode cX9_head 3 = .ok (.invokestatic 113, 3) := by decide +kernel
theorem dX9_head_6 : decode cX9_head 6 = .ok (.iload_n 1, 1) := by decide +kernel
theorem dX9_head_7 : decode cX9_head 7 = .ok (.ifCond .ne 13, 3) := by decide +kernel
theorem dX9_head_10 : decode cX9_head 10 = .ok (.aload_n 0, 1) := by decide +kernel
theorem dX9_head_11 : decode cX9_head 11 = .ok (.getfield 16, 3) := by decide +kernel
theorem dX9_head_14 : decode cX9_head 14 = .ok (.getfield 298, 3) := by decide +kernel
theorem dX9_head_17 : decode cX9_head 17 = .ok (.goto 10, 3) := by decide +kernel
theorem dX9_head_20 : decode cX9_head 20 = .ok (.aload_n 0, 1) := by decide +kernel
theorem dX9_head_21 : decode cX9_head 21 = .ok (.getfield 16, 3) := by decide +kernel
theorem dX9_head_24 : decode cX9_head 24 = .ok (.getfield 299, 3) := by decide +kernel
theorem dX9_head_27 : decode cX9_head 27 = .ok (.ireturn, 1) := by decide +kernel
theorem dX9_done_0 : decode cX9_done 0 = .ok (.iload_n 1, 1) := by decide +kernel
theorem dX9_done_1 : decode cX9_done 1 = .ok (.iconst 1, 1) := by decide +kernel
theorem dX9_done_2 : decode cX9_done 2 = .ok (.bipush 6, 2) := by decide +kernel
theorem dX9_done_4 : decode cX9_done 4 = .ok (.invokestatic 113, 3) := by decide +kernel
theorem dX9_done_7 : decode cX9_done 7 = .ok (.aload_n 0, 1) := by decide +kernel
theorem dX9_done_8 : decode cX9_done 8 = .ok (.getfield 16, 3) := by decide +kernel
theorem dX9_done_11 : decode cX9_done 11 = .ok (.getfield 168, 3) := by decide +kernel
theorem dX9_done_14 : decode cX9_done 14 = .ok (.getfield 302, 3) := by decide +kernel
theorem dX9_done_17 : decode cX9_done 17 = .ok (.iload_n 1, 1) := by decide +kernel
theorem dX9_done_18 : decode cX9_done 18 = .ok (.iaload, 1) := by decide +kernel
theorem dX9_done_19 : decode cX9_done 19 = .ok (.ireturn, 1) := by decide +kernel
theorem dX9_timeOf_0 : decode cX9_timeOf 0 = .ok (.iload_n 1, 1) := by decide +kernel
theorem dX9_timeOf_1 : decode cX9_timeOf 1 = .ok (.iconst 1, 1) := by decide +kernel
theorem dX9_timeOf_2 : decode cX9_timeOf 2 = .ok (.bipush 6, 2) := by decide +kernel
theorem dX9_timeOf_4 : decode cX9_timeOf 4 = .ok (.invokestatic 113, 3) := by decide +kernel
theorem dX9_timeOf_7 : decode cX9_timeOf 7 = .ok (.aload_n 0, 1) := by decide +kernel
theorem dX9_timeOf_8 : decode cX9_timeOf 8 = .ok (.getfield 16, 3) := by decide +kernel
theorem dX9_timeOf_11 : decode cX9_timeOf 11 = .ok (.getfield 168, 3) := by decide +kernel
theorem dX9_timeOf_14 : decode cX9_timeOf 14 = .ok (.getfield 305, 3) := by decide +kernel
theorem dX9_timeOf_17 : decode cX9_timeOf 17 = .ok (.iload_n 1, 1) := by decide +kernel
theorem dX9_timeOf_18 : decode cX9_timeOf 18 = .ok (.iaload, 1) := by decide +kernel
theorem dX9_timeOf_19 : decode cX9_timeOf 19 = .ok (.ireturn, 1) := by decide +kernel
theorem dX9_logSize_0 : decode cX9_logSize 0 = .ok (.aload_n 0, 1) := by decide +kernel
theorem dX9_logSize_1 : decode cX9_logSize 1 = .ok (.getfield 16, 3) := by decide +kernel
theorem dX9_logSize_4 : decode cX9_logSize 4 = .ok (.getfield 168, 3) := by decide +kernel
theorem dX9_logSize_7 : decode cX9_logSize 7 = .ok (.getfield 314, 3) := by decide +kernel
theorem dX9_logSize_10 : decode cX9_logSize 10 = .ok (.ireturn, 1) := by decide +kernel
theorem dX9_logEntry_0 : decode cX9_logEntry 0 = .ok (.iload_n 2, 1) := by decide +kernel
theorem dX9_logEntry_1 : decode cX9_logEntry 1 = .ok (.iconst 0, 1) := by decide +kernel
theorem dX9_logEntry_2 : decode cX9_logEntry 2 = .ok (.iconst 2, 1) := by decide +kernel
theorem dX9_logEntry_3 : decode cX9_logEntry 3 = .ok (.invokestatic 113, 3) := by decide +kernel
theorem dX9_logEntry_6 : decode cX9_logEntry 6 = .ok (.iload_n 1, 1) := by decide +kernel
theorem dX9_logEntry_7 : decode cX9_logEntry 7 = .ok (.ifCond .lt 17, 3) := by decide +kernel
theorem dX9_logEntry_10 : decode cX9_logEntry 10 = .ok (.iload_n 1, 1) := by decide +kernel
theorem dX9_logEntry_11 : decode cX9_logEntry 11 = .ok (.aload_n 0, 1) := by decide +kernel
theorem dX9_logEntry_12 : decode cX9_logEntry 12 = .ok (.getfield 16, 3) := by decide +kernel
theorem dX9_logEntry_15 : decode cX9_logEntry 15 = .ok (.getfield 168, 3) := by decide +kernel
theorem dX9_logEntry_18 : decode cX9_logEntry 18 = .ok (.getfield 314, 3) := by decide +kernel
theorem dX9_logEntry_21 : decode cX9_logEntry 21 = .ok (.if_icmp .lt 5, 3) := by decide +kernel
theorem dX9_logEntry_24 : decode cX9_logEntry 24 = .ok (.iconst (-1), 1) := by decide +kernel
theorem dX9_logEntry_25 : decode cX9_logEntry 25 = .ok (.ireturn, 1) := by decide +kernel
theorem dX9_logEntry_26 : decode cX9_logEntry 26 = .ok (.aload_n 0, 1) := by decide +kernel
theorem dX9_logEntry_27 : decode cX9_logEntry 27 = .ok (.getfield 16, 3) := by decide +kernel
theorem dX9_logEntry_30 : decode cX9_logEntry 30 = .ok (.getfield 168, 3) := by decide +kernel
theorem dX9_logEntry_33 : decode cX9_logEntry 33 = .ok (.iload_n 1, 1) := by decide +kernel
theorem dX9_logEntry_34 : decode cX9_logEntry 34 = .ok (.iload_n 2, 1) := by decide +kernel
theorem dX9_logEntry_35 : decode cX9_logEntry 35 = .ok (.invokevirtual 315, 3) := by decide +kernel
theorem dX9_logEntry_38 : decode cX9_logEntry 38 = .ok (.ireturn, 1) := by decide +kernel
theorem dX9_actionsToEnd_0 : decode cX9_actionsToEnd 0 = .ok (.aload_n 0, 1) := by decide +kernel
theorem dX9_actionsToEnd_1 : decode cX9_actionsToEnd 1 = .ok (.getfield 37, 3) := by decide +kernel
theorem dX9_actionsToEnd_4 : decode cX9_actionsToEnd 4 = .ok (.invokevirtual 318, 3) := by decide +kernel
theorem dX9_actionsToEnd_7 : decode cX9_actionsToEnd 7 = .ok (.aload_n 0, 1) := by decide +kernel
theorem dX9_actionsToEnd_8 : decode cX9_actionsToEnd 8 = .ok (.getfield 37, 3) := by decide +kernel
theorem dX9_actionsToEnd_11 : decode cX9_actionsToEnd 11 = .ok (.invokevirtual 321, 3) := by decide +kernel
theorem dX9_actionsToEnd_14 : decode cX9_actionsToEnd 14 = .ok (.aload_n 0, 1) := by decide +kernel
theorem dX9_actionsToEnd_15 : decode cX9_actionsToEnd 15 = .ok (.getfield 37, 3) := by decide +kernel
theorem dX9_actionsToEnd_18 : decode cX9_actionsToEnd 18 = .ok (.getfield 324, 3) := by decide +kernel
theorem dX9_actionsToEnd_21 : decode cX9_actionsToEnd 21 = .ok (.iconst (-1), 1) := by decide +kernel
theorem dX9_actionsToEnd_22 : decode cX9_actionsToEnd 22 = .ok (.if_icmp .ne 7, 3) := by decide +kernel
theorem dX9_actionsToEnd_25 : decode cX9_actionsToEnd 25 = .ok (.iconst (-1), 1) := by decide +kernel
theorem dX9_actionsToEnd_26 : decode cX9_actionsToEnd 26 = .ok (.goto 10, 3) := by decide +kernel
theorem dX9_actionsToEnd_29 : decode cX9_actionsToEnd 29 = .ok (.aload_n 0, 1) := by decide +kernel
theorem dX9_actionsToEnd_30 : decode cX9_actionsToEnd 30 = .ok (.getfield 37, 3) := by decide +kernel
theorem dX9_actionsToEnd_33 : decode cX9_actionsToEnd 33 = .ok (.getfield 327, 3) := by decide +kernel
theorem dX9_actionsToEnd_36 : decode cX9_actionsToEnd 36 = .ok (.ireturn, 1) := by decide +kernel
theorem dX9_timeAtEnd_0 : decode cX9_timeAtEnd 0 = .ok (.aload_n 0, 1) := by decide +kernel
theorem dX9_timeAtEnd_1 : decode cX9_timeAtEnd 1 = .ok (.getfield 37, 3) := by decide +kernel
theorem dX9_timeAtEnd_4 : decode cX9_timeAtEnd 4 = .ok (.invokevirtual 318, 3) := by decide +kernel
theorem dX9_timeAtEnd_7 : decode cX9_timeAtEnd 7 = .ok (.aload_n 0, 1) := by decide +kernel
theorem dX9_timeAtEnd_8 : decode cX9_timeAtEnd 8 = .ok (.getfield 37, 3) := by decide +kernel
theorem dX9_timeAtEnd_11 : decode cX9_timeAtEnd 11 = .ok (.invokevirtual 321, 3) := by decide +kernel
theorem dX9_timeAtEnd_14 : decode cX9_timeAtEnd 14 = .ok (.aload_n 0, 1) := by decide +kernel
theorem dX9_timeAtEnd_15 : decode cX9_timeAtEnd 15 = .ok (.getfield 37, 3) := by decide +kernel
theorem dX9_timeAtEnd_18 : decode cX9_timeAtEnd 18 = .ok (.getfield 324, 3) := by decide +kernel
theorem dX9_timeAtEnd_21 : decode cX9_timeAtEnd 21 = .ok (.ireturn, 1) := by decide +kernel
theorem dX9_filledAtEnd_0 : decode cX9_filledAtEnd 0 = .ok (.aload_n 0, 1) := by decide +kernel
theorem dX9_filledAtEnd_1 : decode cX9_filledAtEnd 1 = .ok (.getfield 37, 3) := by decide +kernel
theorem dX9_filledAtEnd_4 : decode cX9_filledAtEnd 4 = .ok (.invokevirtual 318, 3) := by decide +kernel
theorem dX9_filledAtEnd_7 : decode cX9_filledAtEnd 7 = .ok (.aload_n 0, 1) := by decide +kernel
theorem dX9_filledAtEnd_8 : decode cX9_filledAtEnd 8 = .ok (.getfield 37, 3) := by decide +kernel
theorem dX9_filledAtEnd_11 : decode cX9_filledAtEnd 11 = .ok (.invokevirtual 321, 3) := by decide +kernel
theorem dX9_filledAtEnd_14 : decode cX9_filledAtEnd 14 = .ok (.aload_n 0, 1) := by decide +kernel
theorem dX9_filledAtEnd_15 : decode cX9_filledAtEnd 15 = .ok (.getfield 29, 3) := by decide +kernel
theorem dX9_filledAtEnd_18 : decode cX9_filledAtEnd 18 = .ok (.getfield 78, 3) := by decide +kernel
theorem dX9_filledAtEnd_21 : decode cX9_filledAtEnd 21 = .ok (.getfield 237, 3) := by decide +kernel
theorem dX9_filledAtEnd_24 : decode cX9_filledAtEnd 24 = .ok (.invokestatic 330, 3) := by decide +kernel
theorem dX9_filledAtEnd_27 : decode cX9_filledAtEnd 27 = .ok (.ireturn, 1) := by decide +kernel
theorem dX9_runsOut_0 : decode cX9_runsOut 0 = .ok (.iload_n 1, 1) := by decide +kernel
theorem dX9_runsOut_1 : decode cX9_runsOut 1 = .ok (.aload_n 0, 1) := by decide +kernel
theorem dX9_runsOut_2 : decode cX9_runsOut 2 = .ok (.getfield 16, 3) := by decide +kernel
theorem dX9_runsOut_5 : decode cX9_runsOut 5 = .ok (.getfield 100, 3) := by decide +kernel
theorem dX9_runsOut_8 : decode cX9_runsOut 8 = .ok (.invokestatic 129, 3) := by decide +kernel
theorem dX9_runsOut_11 : decode cX9_runsOut 11 = .ok (.aload_n 0, 1) := by decide +kernel
theorem dX9_runsOut_12 : decode cX9_runsOut 12 = .ok (.getfield 37, 3) := by decide +kernel
theorem dX9_runsOut_15 : decode cX9_runsOut 15 = .ok (.invokevirtual 318, 3) := by decide +kernel
theorem dX9_runsOut_18 : decode cX9_runsOut 18 = .ok (.aload_n 0, 1) := by decide +kernel
theorem dX9_runsOut_19 : decode cX9_runsOut 19 = .ok (.getfield 37, 3) := by decide +kernel
theorem dX9_runsOut_22 : decode cX9_runsOut 22 = .ok (.iload_n 1, 1) := by decide +kernel
theorem dX9_runsOut_23 : decode cX9_runsOut 23 = .ok (.invokevirtual 347, 3) := by decide +kernel
theorem dX9_runsOut_26 : decode cX9_runsOut 26 = .ok (.ireturn, 1) := by decide +kernel
theorem dX9_splicesAhead_0 : decode cX9_splicesAhead 0 = .ok (.aload_n 0, 1) := by decide +kernel
theorem dX9_splicesAhead_1 : decode cX9_splicesAhead 1 = .ok (.getfield 37, 3) := by decide +kernel
theorem dX9_splicesAhead_4 : decode cX9_splicesAhead 4 = .ok (.invokevirtual 318, 3) := by decide +kernel
theorem dX9_splicesAhead_7 : decode cX9_splicesAhead 7 = .ok (.aload_n 0, 1) := by decide +kernel
theorem dX9_splicesAhead_8 : decode cX9_splicesAhead 8 = .ok (.getfield 37, 3) := by decide +kernel
theorem dX9_splicesAhead_11 : decode cX9_splicesAhead 11 = .ok (.invokevirtual 321, 3) := by decide +kernel
theorem dX9_splicesAhead_14 : decode cX9_splicesAhead 14 = .ok (.aload_n 0, 1) := by decide +kernel
theorem dX9_splicesAhead_15 : decode cX9_splicesAhead 15 = .ok (.getfield 29, 3) := by decide +kernel
theorem dX9_splicesAhead_18 : decode cX9_splicesAhead 18 = .ok (.getfield 168, 3) := by decide +kernel
theorem dX9_splicesAhead_21 : decode cX9_splicesAhead 21 = .ok (.getfield 172, 3) := by decide +kernel
theorem dX9_splicesAhead_24 : decode cX9_splicesAhead 24 = .ok (.aload_n 0, 1) := by decide +kernel
theorem dX9_splicesAhead_25 : decode cX9_splicesAhead 25 = .ok (.getfield 16, 3) := by decide +kernel
theorem dX9_splicesAhead_28 : decode cX9_splicesAhead 28 = .ok (.getfield 168, 3) := by decide +kernel
theorem dX9_splicesAhead_31 : decode cX9_splicesAhead 31 = .ok (.getfield 172, 3) := by decide +kernel
theorem dX9_splicesAhead_34 : decode cX9_splicesAhead 34 = .ok (.isub, 1) := by decide +kernel
theorem dX9_splicesAhead_35 : decode cX9_splicesAhead 35 = .ok (.ireturn, 1) := by decide +kernel
theorem dX9_bestRetries_0 : decode cX9_bestRetries 0 = .ok (.iconst 0, 1) := by decide +kernel
theorem dX9_bestRetries_1 : decode cX9_bestRetries 1 = .ok (.istore_n 1, 1) := by decide +kernel
theorem dX9_bestRetries_2 : decode cX9_bestRetries 2 = .ok (.iconst (-1), 1) := by decide +kernel
theorem dX9_bestRetries_3 : decode cX9_bestRetries 3 = .ok (.istore_n 2, 1) := by decide +kernel
theorem dX9_bestRetries_4 : decode cX9_bestRetries 4 = .ok (.iconst 0, 1) := by decide +kernel
theorem dX9_bestRetries_5 : decode cX9_bestRetries 5 = .ok (.istore_n 3, 1) := by decide +kernel
theorem dX9_bestRetries_6 : decode cX9_bestRetries 6 = .ok (.getstatic 126, 3) := by decide +kernel
theorem dX9_bestRetries_9 : decode cX9_bestRetries 9 = .ok (.bipush 7, 2) := by decide +kernel
theorem dX9_bestRetries_11 : decode cX9_bestRetries 11 = .ok (.iaload, 1) := by decide +kernel
theorem dX9_bestRetries_12 : decode cX9_bestRetries 12 = .ok (.istore 4, 2) := by decide +kernel
theorem dX9_bestRetries_14 : decode cX9_bestRetries 14 = .ok (.iload 4, 2) := by decide +kernel
theorem dX9_bestRetries_16 : decode cX9_bestRetries 16 = .ok (.getstatic 123, 3) := by decide +kernel
theorem dX9_bestRetries_19 : decode cX9_bestRetries 19 = .ok (.bipush 7, 2) := by decide +kernel
theorem dX9_bestRetries_21 : decode cX9_bestRetries 21 = .ok (.iaload, 1) := by decide +kernel
theorem dX9_bestRetries_22 : decode cX9_bestRetries 22 = .ok (.if_icmp .gt 87, 3) := by decide +kernel
theorem dX9_bestRetries_25 : decode cX9_bestRetries 25 = .ok (.aload_n 0, 1) := by decide +kernel
theorem dX9_bestRetries_26 : decode cX9_bestRetries 26 = .ok (.getfield 37, 3) := by decide +kernel
theorem dX9_bestRetries_29 : decode cX9_bestRetries 29 = .ok (.invokevirtual 318, 3) := by decide +kernel
theorem dX9_bestRetries_32 : decode cX9_bestRetries 32 = .ok (.aload_n 0, 1) := by decide +kernel
theorem dX9_bestRetries_33 : decode cX9_bestRetries 33 = .ok (.getfield 29, 3) := by decide +kernel
theorem dX9_bestRetries_36 : decode cX9_bestRetries 36 = .ok (.getfield 117, 3) := by decide +kernel
theorem dX9_bestRetries_39 : decode cX9_bestRetries 39 = .ok (.bipush 7, 2) := by decide +kernel
theorem dX9_bestRetries_41 : decode cX9_bestRetries 41 = .ok (.iload 4, 2) := by decide +kernel
theorem dX9_bestRetries_43 : decode cX9_bestRetries 43 = .ok (.iastore, 1) := by decide +kernel
theorem dX9_bestRetries_44 : decode cX9_bestRetries 44 = .ok (.aload_n 0, 1) := by decide +kernel
theorem dX9_bestRetries_45 : decode cX9_bestRetries 45 = .ok (.getfield 37, 3) := by decide +kernel
theorem dX9_bestRetries_48 : decode cX9_bestRetries 48 = .ok (.invokevirtual 321, 3) := by decide +kernel
theorem dX9_bestRetries_51 : decode cX9_bestRetries 51 = .ok (.aload_n 0, 1) := by decide +kernel
theorem dX9_bestRetries_52 : decode cX9_bestRetries 52 = .ok (.getfield 29, 3) := by decide +kernel
theorem dX9_bestRetries_55 : decode cX9_bestRetries 55 = .ok (.getfield 78, 3) := by decide +kernel
theorem dX9_bestRetries_58 : decode cX9_bestRetries 58 = .ok (.getfield 237, 3) := by decide +kernel
theorem dX9_bestRetries_61 : decode cX9_bestRetries 61 = .ok (.invokestatic 330, 3) := by decide +kernel
theorem dX9_bestRetries_64 : decode cX9_bestRetries 64 = .ok (.istore 5, 2) := by decide +kernel
theorem dX9_bestRetries_66 : decode cX9_bestRetries 66 = .ok (.iload 5, 2) := by decide +kernel
theorem dX9_bestRetries_68 : decode cX9_bestRetries 68 = .ok (.iload_n 2, 1) := by decide +kernel
theorem dX9_bestRetries_69 : decode cX9_bestRetries 69 = .ok (.if_icmp .gt 20, 3) := by decide +kernel
theorem dX9_bestRetries_72 : decode cX9_bestRetries 72 = .ok (.iload 5, 2) := by decide +kernel
theorem dX9_bestRetries_74 : decode cX9_bestRetries 74 = .ok (.iload_n 2, 1) := by decide +kernel
theorem dX9_bestRetries_75 : decode cX9_bestRetries 75 = .ok (.if_icmp .ne 28, 3) := by decide +kernel
theorem dX9_bestRetries_78 : decode cX9_bestRetries 78 = .ok (.aload_n 0, 1) := by decide +kernel
theorem dX9_bestRetries_79 : decode cX9_bestRetries 79 = .ok (.getfield 29, 3) := by decide +kernel
theorem dX9_bestRetries_82 : decode cX9_bestRetries 82 = .ok (.getfield 295, 3) := by decide +kernel
theorem dX9_bestRetries_85 : decode cX9_bestRetries 85 = .ok (.iload_n 3, 1) := by decide +kernel
theorem dX9_bestRetries_86 : decode cX9_bestRetries 86 = .ok (.if_icmp .ge 17, 3) := by decide +kernel
theorem dX9_bestRetries_89 : decode cX9_bestRetries 89 = .ok (.iload 4, 2) := by decide +kernel
theorem dX9_bestRetries_91 : decode cX9_bestRetries 91 = .ok (.istore_n 1, 1) := by decide +kernel
theorem dX9_bestRetries_92 : decode cX9_bestRetries 92 = .ok (.iload 5, 2) := by decide +kernel
theorem dX9_bestRetries_94 : decode cX9_bestRetries 94 = .ok (.istore_n 2, 1) := by decide +kernel
theorem dX9_bestRetries_95 : decode cX9_bestRetries 95 = .ok (.aload_n 0, 1) := by decide +kernel
theorem dX9_bestRetries_96 : decode cX9_bestRetries 96 = .ok (.getfield 29, 3) := by decide +kernel
theorem dX9_bestRetries_99 : decode cX9_bestRetries 99 = .ok (.getfield 295, 3) := by decide +kernel
theorem dX9_bestRetries_102 : decode cX9_bestRetries 102 = .ok (.istore_n 3, 1) := by decide +kernel
theorem dX9_bestRetries_103 : decode cX9_bestRetries 103 = .ok (.iinc 4 1, 3) := by decide +kernel
theorem dX9_bestRetries_106 : decode cX9_bestRetries 106 = .ok (.goto (-92), 3) := by decide +kernel
theorem dX9_bestRetries_109 : decode cX9_bestRetries 109 = .ok (.iload_n 1, 1) := by decide +kernel
theorem dX9_bestRetries_110 : decode cX9_bestRetries 110 = .ok (.ireturn, 1) := by decide +kernel
theorem dX9_changesAhead_0 : decode cX9_changesAhead 0 = .ok (.aload_n 0, 1) := by decide +kernel
theorem dX9_changesAhead_1 : decode cX9_changesAhead 1 = .ok (.getfield 37, 3) := by decide +kernel
theorem dX9_changesAhead_4 : decode cX9_changesAhead 4 = .ok (.invokevirtual 318, 3) := by decide +kernel
theorem dX9_changesAhead_7 : decode cX9_changesAhead 7 = .ok (.aload_n 0, 1) := by decide +kernel
theorem dX9_changesAhead_8 : decode cX9_changesAhead 8 = .ok (.getfield 37, 3) := by decide +kernel
theorem dX9_changesAhead_11 : decode cX9_changesAhead 11 = .ok (.invokevirtual 321, 3) := by decide +kernel
theorem dX9_changesAhead_14 : decode cX9_changesAhead 14 = .ok (.aload_n 0, 1) := by decide +kernel
theorem dX9_changesAhead_15 : decode cX9_changesAhead 15 = .ok (.getfield 29, 3) := by decide +kernel
theorem dX9_changesAhead_18 : decode cX9_changesAhead 18 = .ok (.getfield 168, 3) := by decide +kernel
theorem dX9_changesAhead_21 : decode cX9_changesAhead 21 = .ok (.getfield 302, 3) := by decide +kernel
theorem dX9_changesAhead_24 : decode cX9_changesAhead 24 = .ok (.iconst 1, 1) := by decide +kernel
theorem dX9_changesAhead_25 : decode cX9_changesAhead 25 = .ok (.iaload, 1) := by decide +kernel
theorem dX9_changesAhead_26 : decode cX9_changesAhead 26 = .ok (.aload_n 0, 1) := by decide +kernel
theorem dX9_changesAhead_27 : decode cX9_changesAhead 27 = .ok (.getfield 16, 3) := by decide +kernel
theorem dX9_changesAhead_30 : decode cX9_changesAhead 30 = .ok (.getfield 168, 3) := by decide +kernel
theorem dX9_changesAhead_33 : decode cX9_changesAhead 33 = .ok (.getfield 302, 3) := by decide +kernel
theorem dX9_changesAhead_36 : decode cX9_changesAhead 36 = .ok (.iconst 1, 1) := by decide +kernel
theorem dX9_changesAhead_37 : decode cX9_changesAhead 37 = .ok (.iaload, 1) := by decide +kernel
theorem dX9_changesAhead_38 : decode cX9_changesAhead 38 = .ok (.isub, 1) := by decide +kernel
theorem dX9_changesAhead_39 : decode cX9_changesAhead 39 = .ok (.ireturn, 1) := by decide +kernel
theorem dX9_cleansAhead_0 : decode cX9_cleansAhead 0 = .ok (.aload_n 0, 1) := by decide +kernel
theorem dX9_cleansAhead_1 : decode cX9_cleansAhead 1 = .ok (.getfield 37, 3) := by decide +kernel
theorem dX9_cleansAhead_4 : decode cX9_cleansAhead 4 = .ok (.invokevirtual 318, 3) := by decide +kernel
theorem dX9_cleansAhead_7 : decode cX9_cleansAhead 7 = .ok (.aload_n 0, 1) := by decide +kernel
theorem dX9_cleansAhead_8 : decode cX9_cleansAhead 8 = .ok (.getfield 37, 3) := by decide +kernel
theorem dX9_cleansAhead_11 : decode cX9_cleansAhead 11 = .ok (.invokevirtual 321, 3) := by decide +kernel
theorem dX9_cleansAhead_14 : decode cX9_cleansAhead 14 = .ok (.aload_n 0, 1) := by decide +kernel
theorem dX9_cleansAhead_15 : decode cX9_cleansAhead 15 = .ok (.getfield 29, 3) := by decide +kernel
theorem dX9_cleansAhead_18 : decode cX9_cleansAhead 18 = .ok (.getfield 168, 3) := by decide +kernel
theorem dX9_cleansAhead_21 : decode cX9_cleansAhead 21 = .ok (.getfield 302, 3) := by decide +kernel
theorem dX9_cleansAhead_24 : decode cX9_cleansAhead 24 = .ok (.bipush 6, 2) := by decide +kernel
theorem dX9_cleansAhead_26 : decode cX9_cleansAhead 26 = .ok (.iaload, 1) := by decide +kernel
theorem dX9_cleansAhead_27 : decode cX9_cleansAhead 27 = .ok (.aload_n 0, 1) := by decide +kernel
theorem dX9_cleansAhead_28 : decode cX9_cleansAhead 28 = .ok (.getfield 16, 3) := by decide +kernel
theorem dX9_cleansAhead_31 : decode cX9_cleansAhead 31 = .ok (.getfield 168, 3) := by decide +kernel
theorem dX9_cleansAhead_34 : decode cX9_cleansAhead 34 = .ok (.getfield 302, 3) := by decide +kernel
theorem dX9_cleansAhead_37 : decode cX9_cleansAhead 37 = .ok (.bipush 6, 2) := by decide +kernel
theorem dX9_cleansAhead_39 : decode cX9_cleansAhead 39 = .ok (.iaload, 1) := by decide +kernel
theorem dX9_cleansAhead_40 : decode cX9_cleansAhead 40 = .ok (.isub, 1) := by decide +kernel
theorem dX9_cleansAhead_41 : decode cX9_cleansAhead 41 = .ok (.ireturn, 1) := by decide +kernel
theorem dX9_saveSnapshot_0 : decode cX9_saveSnapshot 0 = .ok (.iload_n 1, 1) := by decide +kernel
theorem dX9_saveSnapshot_1 : decode cX9_saveSnapshot 1 = .ok (.iconst 0, 1) := by decide +kernel
theorem dX9_saveSnapshot_2 : decode cX9_saveSnapshot 2 = .ok (.iconst 1, 1) := by decide +kernel
theorem dX9_saveSnapshot_3 : decode cX9_saveSnapshot 3 = .ok (.invokestatic 113, 3) := by decide +kernel
theorem dX9_saveSnapshot_6 : decode cX9_saveSnapshot 6 = .ok (.aload_n 0, 1) := by decide +kernel
theorem dX9_saveSnapshot_7 : decode cX9_saveSnapshot 7 = .ok (.getfield 50, 3) := by decide +kernel
theorem dX9_saveSnapshot_10 : decode cX9_saveSnapshot 10 = .ok (.iload_n 1, 1) := by decide +kernel
theorem dX9_saveSnapshot_11 : decode cX9_saveSnapshot 11 = .ok (.aaload, 1) := by decide +kernel
theorem dX9_saveSnapshot_12 : decode cX9_saveSnapshot 12 = .ok (.aload_n 0, 1) := by decide +kernel
theorem dX9_saveSnapshot_13 : decode cX9_saveSnapshot 13 = .ok (.getfield 16, 3) := by decide +kernel
theorem dX9_saveSnapshot_16 : decode cX9_saveSnapshot 16 = .ok (.invokevirtual 75, 3) := by decide +kernel
theorem dX9_saveSnapshot_19 : decode cX9_saveSnapshot 19 = .ok (.aload_n 0, 1) := by decide +kernel
theorem dX9_saveSnapshot_20 : decode cX9_saveSnapshot 20 = .ok (.getfield 54, 3) := by decide +kernel
theorem dX9_saveSnapshot_23 : decode cX9_saveSnapshot 23 = .ok (.iload_n 1, 1) := by decide +kernel
theorem dX9_saveSnapshot_24 : decode cX9_saveSnapshot 24 = .ok (.iconst 1, 1) := by decide +kernel
theorem dX9_saveSnapshot_25 : decode cX9_saveSnapshot 25 = .ok (.bastore, 1) := by decide +kernel
theorem dX9_saveSnapshot_26 : decode cX9_saveSnapshot 26 = .ok (.aload_n 0, 1) := by decide +kernel
theorem dX9_saveSnapshot_27 : decode cX9_saveSnapshot 27 = .ok (.getfield 16, 3) := by decide +kernel
theorem dX9_saveSnapshot_30 : decode cX9_saveSnapshot 30 = .ok (.getfield 295, 3) := by decide +kernel
theorem dX9_saveSnapshot_33 : decode cX9_saveSnapshot 33 = .ok (.ireturn, 1) := by decide +kernel
theorem dX9_restoreSnapshot_0 : decode cX9_restoreSnapshot 0 = .ok (.iload_n 1, 1) := by decide +kernel
theorem dX9_restoreSnapshot_1 : decode cX9_restoreSnapshot 1 = .ok (.iconst 0, 1) := by decide +kernel
theorem dX9_restoreSnapshot_2 : decode cX9_restoreSnapshot 2 = .ok (.iconst 1, 1) := by decide +kernel
theorem dX9_restoreSnapshot_3 : decode cX9_restoreSnapshot 3 = .ok (.invokestatic 113, 3) := by decide +kernel
theorem dX9_restoreSnapshot_6 : decode cX9_restoreSnapshot 6 = .ok (.aload_n 0, 1) := by decide +kernel
theorem dX9_restoreSnapshot_7 : decode cX9_restoreSnapshot 7 = .ok (.getfield 54, 3) := by decide +kernel
theorem dX9_restoreSnapshot_10 : decode cX9_restoreSnapshot 10 = .ok (.iload_n 1, 1) := by decide +kernel
theorem dX9_restoreSnapshot_11 : decode cX9_restoreSnapshot 11 = .ok (.baload, 1) := by decide +kernel
theorem dX9_restoreSnapshot_12 : decode cX9_restoreSnapshot 12 = .ok (.ifCond .ne 5, 3) := by decide +kernel
theorem dX9_restoreSnapshot_15 : decode cX9_restoreSnapshot 15 = .ok (.iconst (-1), 1) := by decide +kernel
theorem dX9_restoreSnapshot_16 : decode cX9_restoreSnapshot 16 = .ok (.ireturn, 1) := by decide +kernel
theorem dX9_restoreSnapshot_17 : decode cX9_restoreSnapshot 17 = .ok (.aload_n 0, 1) := by decide +kernel
theorem dX9_restoreSnapshot_18 : decode cX9_restoreSnapshot 18 = .ok (.getfield 16, 3) := by decide +kernel
theorem dX9_restoreSnapshot_21 : decode cX9_restoreSnapshot 21 = .ok (.aload_n 0, 1) := by decide +kernel
theorem dX9_restoreSnapshot_22 : decode cX9_restoreSnapshot 22 = .ok (.getfield 50, 3) := by decide +kernel
theorem dX9_restoreSnapshot_25 : decode cX9_restoreSnapshot 25 = .ok (.iload_n 1, 1) := by decide +kernel
theorem dX9_restoreSnapshot_26 : decode cX9_restoreSnapshot 26 = .ok (.aaload, 1) := by decide +kernel
theorem dX9_restoreSnapshot_27 : decode cX9_restoreSnapshot 27 = .ok (.invokevirtual 75, 3) := by decide +kernel
theorem dX9_restoreSnapshot_30 : decode cX9_restoreSnapshot 30 = .ok (.aload_n 0, 1) := by decide +kernel
theorem dX9_restoreSnapshot_31 : decode cX9_restoreSnapshot 31 = .ok (.getfield 16, 3) := by decide +kernel
theorem dX9_restoreSnapshot_34 : decode cX9_restoreSnapshot 34 = .ok (.getfield 295, 3) := by decide +kernel
theorem dX9_restoreSnapshot_37 : decode cX9_restoreSnapshot 37 = .ok (.ireturn, 1) := by decide +kernel
theorem dX9_requireIndex_0 : decode cX9_requireIndex 0 = .ok (.iload_n 0, 1) := by decide +kernel
theorem dX9_requireIndex_1 : decode cX9_requireIndex 1 = .ok (.ifCond .lt 8, 3) := by decide +kernel
theorem dX9_requireIndex_4 : decode cX9_requireIndex 4 = .ok (.iload_n 0, 1) := by decide +kernel
theorem dX9_requireIndex_5 : decode cX9_requireIndex 5 = .ok (.iload_n 1, 1) := by decide +kernel
theorem dX9_requireIndex_6 : decode cX9_requireIndex 6 = .ok (.if_icmp .lt 14, 3) := by decide +kernel
theorem dX9_requireIndex_9 : decode cX9_requireIndex 9 = .ok (.new 350, 3) := by decide +kernel
theorem dX9_requireIndex_12 : decode cX9_requireIndex 12 = .ok (.dup, 1) := by decide +kernel
theorem dX9_requireIndex_13 : decode cX9_requireIndex 13 = .ok (.ldc_w 352, 3) := by decide +kernel
theorem dX9_requireIndex_16 : decode cX9_requireIndex 16 = .ok (.invokespecial 354, 3) := by decide +kernel
theorem dX9_requireIndex_19 : decode cX9_requireIndex 19 = .ok (.athrow, 1) := by decide +kernel
theorem dX9_requireIndex_20 : decode cX9_requireIndex 20 = .ok (.return_, 1) := by decide +kernel
theorem dX9_requireRange_0 : decode cX9_requireRange 0 = .ok (.iload_n 0, 1) := by decide +kernel
theorem dX9_requireRange_1 : decode cX9_requireRange 1 = .ok (.iload_n 1, 1) := by decide +kernel
theorem dX9_requireRange_2 : decode cX9_requireRange 2 = .ok (.if_icmp .lt 8, 3) := by decide +kernel
theorem dX9_requireRange_5 : decode cX9_requireRange 5 = .ok (.iload_n 0, 1) := by decide +kernel
theorem dX9_requireRange_6 : decode cX9_requireRange 6 = .ok (.iload_n 2, 1) := by decide +kernel
theorem dX9_requireRange_7 : decode cX9_requireRange 7 = .ok (.if_icmp .le 14, 3) := by decide +kernel
theorem dX9_requireRange_10 : decode cX9_requireRange 10 = .ok (.new 106, 3) := by decide +kernel
theorem dX9_requireRange_13 : decode cX9_requireRange 13 = .ok (.dup, 1) := by decide +kernel
theorem dX9_requireRange_14 : decode cX9_requireRange 14 = .ok (.ldc_w 355, 3) := by decide +kernel
theorem dX9_requireRange_17 : decode cX9_requireRange 17 = .ok (.invokespecial 110, 3) := by decide +kernel
theorem dX9_requireRange_20 : decode cX9_requireRange 20 = .ok (.athrow, 1) := by decide +kernel
theorem dX9_requireRange_21 : decode cX9_requireRange 21 = .ok (.return_, 1) := by decide +kernel
theorem dX9_codeOf_0 : decode cX9_codeOf 0 = .ok (.sipush 10000, 3) := by decide +kernel
theorem dX9_codeOf_3 : decode cX9_codeOf 3 = .ok (.iload_n 0, 1) := by decide +kernel
theorem dX9_codeOf_4 : decode cX9_codeOf 4 = .ok (.imul, 1) := by decide +kernel
theorem dX9_codeOf_5 : decode cX9_codeOf 5 = .ok (.bipush 100, 2) := by decide +kernel
theorem dX9_codeOf_7 : decode cX9_codeOf 7 = .ok (.iload_n 1, 1) := by decide +kernel
theorem dX9_codeOf_8 : decode cX9_codeOf 8 = .ok (.imul, 1) := by decide +kernel
theorem dX9_codeOf_9 : decode cX9_codeOf 9 = .ok (.iadd, 1) := by decide +kernel
theorem dX9_codeOf_10 : decode cX9_codeOf 10 = .ok (.iload_n 2, 1) := by decide +kernel
theorem dX9_codeOf_11 : decode cX9_codeOf 11 = .ok (.iadd, 1) := by decide +kernel
theorem dX9_codeOf_12 : decode cX9_codeOf 12 = .ok (.ireturn, 1) := by decide +kernel
theorem dJ5_init_d00df_0 : decode cJ5_init_d00df 0 = .ok (.aload_n 0, 1) := by decide +kernel
theorem dJ5_init_d00df_1 : decode cJ5_init_d00df 1 = .ok (.invokespecial 3, 3) := by decide +kernel
theorem dJ5_init_d00df_4 : decode cJ5_init_d00df 4 = .ok (.getstatic 18, 3) := by decide +kernel
theorem dJ5_init_d00df_7 : decode cJ5_init_d00df 7 = .ok (.ifCond .eq 18, 3) := by decide +kernel
theorem dJ5_init_d00df_10 : decode cJ5_init_d00df 10 = .ok (.aload_n 0, 1) := by decide +kernel
theorem dJ5_init_d00df_11 : decode cJ5_init_d00df 11 = .ok (.iload_n 1, 1) := by decide +kernel
theorem dJ5_init_d00df_12 : decode cJ5_init_d00df 12 = .ok (.newarray .byte, 2) := by decide +kernel
theorem dJ5_init_d00df_14 : decode cJ5_init_d00df 14 = .ok (.putfield 15, 3) := by decide +kernel
theorem dJ5_init_d00df_17 : decode cJ5_init_d00df 17 = .ok (.aload_n 0, 1) := by decide +kernel
theorem dJ5_init_d00df_18 : decode cJ5_init_d00df 18 = .ok (.iconst 0, 1) := by decide +kernel
theorem dJ5_init_d00df_19 : decode cJ5_init_d00df 19 = .ok (.putfield 22, 3) := by decide +kernel
theorem dJ5_init_d00df_22 : decode cJ5_init_d00df 22 = .ok (.goto 16, 3) := by decide +kernel
theorem dJ5_init_d00df_25 : decode cJ5_init_d00df 25 = .ok (.aload_n 0, 1) := by decide +kernel
theorem dJ5_init_d00df_26 : decode cJ5_init_d00df 26 = .ok (.iload_n 1, 1) := by decide +kernel
theorem dJ5_init_d00df_27 : decode cJ5_init_d00df 27 = .ok (.invokestatic 26, 3) := by decide +kernel
theorem dJ5_init_d00df_30 : decode cJ5_init_d00df 30 = .ok (.putfield 15, 3) := by decide +kernel
theorem dJ5_init_d00df_33 : decode cJ5_init_d00df 33 = .ok (.aload_n 0, 1) := by decide +kernel
theorem dJ5_init_d00df_34 : decode cJ5_init_d00df 34 = .ok (.iconst 1, 1) := by decide +kernel
theorem dJ5_init_d00df_35 : decode cJ5_init_d00df 35 = .ok (.putfield 22, 3) := by decide +kernel
theorem dJ5_init_d00df_38 : decode cJ5_init_d00df 38 = .ok (.return_, 1) := by decide +kernel
theorem dJ5_length_8abf5_0 : decode cJ5_length_8abf5 0 = .ok (.aload_n 0, 1) := by decide +kernel
theorem dJ5_length_8abf5_1 : decode cJ5_length_8abf5 1 = .ok (.getfield 79, 3) := by decide +kernel
theorem dJ5_length_8abf5_4 : decode cJ5_length_8abf5 4 = .ok (.ireturn, 1) := by decide +kernel
theorem dJ5_ensureCapacityInternal_d00df_0 : decode cJ5_ensureCapacityInternal_d00df 0 = .ok (.aload_n 0, 1) := by decide +kernel
theorem dJ5_ensureCapacityInternal_d00df_1 : decode cJ5_ensureCapacityInternal_d00df 1 = .ok (.getfield 15, 3) := by decide +kernel
theorem dJ5_ensureCapacityInternal_d00df_4 : decode cJ5_ensureCapacityInternal_d00df 4 = .ok (.arraylength, 1) := by decide +kernel
theorem dJ5_ensureCapacityInternal_d00df_5 : decode cJ5_ensureCapacityInternal_d00df 5 = .ok (.aload_n 0, 1) := by decide +kernel
theorem dJ5_ensureCapacityInternal_d00df_6 : decode cJ5_ensureCapacityInternal_d00df 6 = .ok (.getfield 22, 3) := by decide +kernel
theorem dJ5_ensureCapacityInternal_d00df_9 : decode cJ5_ensureCapacityInternal_d00df 9 = .ok (.ishr, 1) := by decide +kernel
theorem dJ5_ensureCapacityInternal_d00df_10 : decode cJ5_ensureCapacityInternal_d00df 10 = .ok (.istore_n 2, 1) := by decide +kernel
theorem dJ5_ensureCapacityInternal_d00df_11 : decode cJ5_ensureCapacityInternal_d00df 11 = .ok (.iload_n 1, 1) := by decide +kernel
theorem dJ5_ensureCapacityInternal_d00df_12 : decode cJ5_ensureCapacityInternal_d00df 12 = .ok (.iload_n 2, 1) := by decide +kernel
theorem dJ5_ensureCapacityInternal_d00df_13 : decode cJ5_ensureCapacityInternal_d00df 13 = .ok (.isub, 1) := by decide +kernel
theorem dJ5_ensureCapacityInternal_d00df_14 : decode cJ5_ensureCapacityInternal_d00df 14 = .ok (.ifCond .le 24, 3) := by decide +kernel
theorem dJ5_ensureCapacityInternal_d00df_17 : decode cJ5_ensureCapacityInternal_d00df 17 = .ok (.aload_n 0, 1) := by decide +kernel
theorem dJ5_ensureCapacityInternal_d00df_18 : decode cJ5_ensureCapacityInternal_d00df 18 = .ok (.aload_n 0, 1) := by decide +kernel
theorem dJ5_ensureCapacityInternal_d00df_19 : decode cJ5_ensureCapacityInternal_d00df 19 = .ok (.getfield 15, 3) := by decide +kernel
theorem dJ5_ensureCapacityInternal_d00df_22 : decode cJ5_ensureCapacityInternal_d00df 22 = .ok (.aload_n 0, 1) := by decide +kernel
theorem dJ5_ensureCapacityInternal_d00df_23 : decode cJ5_ensureCapacityInternal_d00df 23 = .ok (.iload_n 1, 1) := by decide +kernel
theorem dJ5_ensureCapacityInternal_d00df_24 : decode cJ5_ensureCapacityInternal_d00df 24 = .ok (.invokevirtual 104, 3) := by decide +kernel
theorem dJ5_ensureCapacityInternal_d00df_27 : decode cJ5_ensureCapacityInternal_d00df 27 = .ok (.aload_n 0, 1) := by decide +kernel
theorem dJ5_ensureCapacityInternal_d00df_28 : decode cJ5_ensureCapacityInternal_d00df 28 = .ok (.getfield 22, 3) := by decide +kernel
theorem dJ5_ensureCapacityInternal_d00df_31 : decode cJ5_ensureCapacityInternal_d00df 31 = .ok (.ishl, 1) := by decide +kernel
theorem dJ5_ensureCapacityInternal_d00df_32 : decode cJ5_ensureCapacityInternal_d00df 32 = .ok (.invokestatic 108, 3) := by decide +kernel
theorem dJ5_ensureCapacityInternal_d00df_35 : decode cJ5_ensureCapacityInternal_d00df 35 = .ok (.putfield 15, 3) := by decide +kernel
theorem dJ5_ensureCapacityInternal_d00df_38 : decode cJ5_ensureCapacityInternal_d00df 38 = .ok (.return_, 1) := by decide +kernel
theorem dJ5_newCapacity_0f7a4_0 : decode cJ5_newCapacity_0f7a4 0 = .ok (.aload_n 0, 1) := by decide +kernel
theorem dJ5_newCapacity_0f7a4_1 : decode cJ5_newCapacity_0f7a4 1 = .ok (.getfield 15, 3) := by decide +kernel
theorem dJ5_newCapacity_0f7a4_4 : decode cJ5_newCapacity_0f7a4 4 = .ok (.arraylength, 1) := by decide +kernel
theorem dJ5_newCapacity_0f7a4_5 : decode cJ5_newCapacity_0f7a4 5 = .ok (.istore_n 2, 1) := by decide +kernel
theorem dJ5_newCapacity_0f7a4_6 : decode cJ5_newCapacity_0f7a4 6 = .ok (.iload_n 1, 1) := by decide +kernel
theorem dJ5_newCapacity_0f7a4_7 : decode cJ5_newCapacity_0f7a4 7 = .ok (.aload_n 0, 1) := by decide +kernel
theorem dJ5_newCapacity_0f7a4_8 : decode cJ5_newCapacity_0f7a4 8 = .ok (.getfield 22, 3) := by decide +kernel
theorem dJ5_newCapacity_0f7a4_11 : decode cJ5_newCapacity_0f7a4 11 = .ok (.ishl, 1) := by decide +kernel
theorem dJ5_newCapacity_0f7a4_12 : decode cJ5_newCapacity_0f7a4 12 = .ok (.istore_n 3, 1) := by decide +kernel
theorem dJ5_newCapacity_0f7a4_13 : decode cJ5_newCapacity_0f7a4 13 = .ok (.iload_n 3, 1) := by decide +kernel
theorem dJ5_newCapacity_0f7a4_14 : decode cJ5_newCapacity_0f7a4 14 = .ok (.iload_n 2, 1) := by decide +kernel
theorem dJ5_newCapacity_0f7a4_15 : decode cJ5_newCapacity_0f7a4 15 = .ok (.isub, 1) := by decide +kernel
theorem dJ5_newCapacity_0f7a4_16 : decode cJ5_newCapacity_0f7a4 16 = .ok (.istore 4, 2) := by decide +kernel
theorem dJ5_newCapacity_0f7a4_18 : decode cJ5_newCapacity_0f7a4 18 = .ok (.iload_n 2, 1) := by decide +kernel
theorem dJ5_newCapacity_0f7a4_19 : decode cJ5_newCapacity_0f7a4 19 = .ok (.iload 4, 2) := by decide +kernel
theorem dJ5_newCapacity_0f7a4_21 : decode cJ5_newCapacity_0f7a4 21 = .ok (.iload_n 2, 1) := by decide +kernel
theorem dJ5_newCapacity_0f7a4_22 : decode cJ5_newCapacity_0f7a4 22 = .ok (.iconst 2, 1) := by decide +kernel
theorem dJ5_newCapacity_0f7a4_23 : decode cJ5_newCapacity_0f7a4 23 = .ok (.aload_n 0, 1) := by decide +kernel
theorem dJ5_newCapacity_0f7a4_24 : decode cJ5_newCapacity_0f7a4 24 = .ok (.getfield 22, 3) := by decide +kernel
theorem dJ5_newCapacity_0f7a4_27 : decode cJ5_newCapacity_0f7a4 27 = .ok (.ishl, 1) := by decide +kernel
theorem dJ5_newCapacity_0f7a4_28 : decode cJ5_newCapacity_0f7a4 28 = .ok (.iadd, 1) := by decide +kernel
theorem dJ5_newCapacity_0f7a4_29 : decode cJ5_newCapacity_0f7a4 29 = .ok (.invokestatic 114, 3) := by decide +kernel
theorem dJ5_newCapacity_0f7a4_32 : decode cJ5_newCapacity_0f7a4 32 = .ok (.istore 5, 2) := by decide +kernel
theorem dJ5_newCapacity_0f7a4_34 : decode cJ5_newCapacity_0f7a4 34 = .ok (.iload 5, 2) := by decide +kernel
theorem dJ5_newCapacity_0f7a4_36 : decode cJ5_newCapacity_0f7a4 36 = .ok (.ldc 39, 2) := by decide +kernel
theorem dJ5_newCapacity_0f7a4_38 : decode cJ5_newCapacity_0f7a4 38 = .ok (.if_icmp .ne 13, 3) := by decide +kernel
theorem dJ5_newCapacity_0f7a4_41 : decode cJ5_newCapacity_0f7a4 41 = .ok (.new 120, 3) := by decide +kernel
theorem dJ5_newCapacity_0f7a4_44 : decode cJ5_newCapacity_0f7a4 44 = .ok (.dup, 1) := by decide +kernel
theorem dJ5_newCapacity_0f7a4_45 : decode cJ5_newCapacity_0f7a4 45 = .ok (.ldc 122, 2) := by decide +kernel
theorem dJ5_newCapacity_0f7a4_47 : decode cJ5_newCapacity_0f7a4 47 = .ok (.invokespecial 124, 3) := by decide +kernel
theorem dJ5_newCapacity_0f7a4_50 : decode cJ5_newCapacity_0f7a4 50 = .ok (.athrow, 1) := by decide +kernel
theorem dJ5_newCapacity_0f7a4_51 : decode cJ5_newCapacity_0f7a4 51 = .ok (.iload 5, 2) := by decide +kernel
theorem dJ5_newCapacity_0f7a4_53 : decode cJ5_newCapacity_0f7a4 53 = .ok (.aload_n 0, 1) := by decide +kernel
theorem dJ5_newCapacity_0f7a4_54 : decode cJ5_newCapacity_0f7a4 54 = .ok (.getfield 22, 3) := by decide +kernel
theorem dJ5_newCapacity_0f7a4_57 : decode cJ5_newCapacity_0f7a4 57 = .ok (.ishr, 1) := by decide +kernel
theorem dJ5_newCapacity_0f7a4_58 : decode cJ5_newCapacity_0f7a4 58 = .ok (.ireturn, 1) := by decide +kernel
theorem dJ5_inflate_da8c8_0 : decode cJ5_inflate_da8c8 0 = .ok (.aload_n 0, 1) := by decide +kernel
theorem dJ5_inflate_da8c8_1 : decode cJ5_inflate_da8c8 1 = .ok (.invokevirtual 83, 3) := by decide +kernel
theorem dJ5_inflate_da8c8_4 : decode cJ5_inflate_da8c8 4 = .ok (.ifCond .ne 4, 3) := by decide +kernel
theorem dJ5_inflate_da8c8_7 : decode cJ5_inflate_da8c8 7 = .ok (.return_, 1) := by decide +kernel
theorem dJ5_inflate_da8c8_8 : decode cJ5_inflate_da8c8 8 = .ok (.aload_n 0, 1) := by decide +kernel
theorem dJ5_inflate_da8c8_9 : decode cJ5_inflate_da8c8 9 = .ok (.getfield 15, 3) := by decide +kernel
theorem dJ5_inflate_da8c8_12 : decode cJ5_inflate_da8c8 12 = .ok (.arraylength, 1) := by decide +kernel
theorem dJ5_inflate_da8c8_13 : decode cJ5_inflate_da8c8 13 = .ok (.invokestatic 26, 3) := by decide +kernel
theorem dJ5_inflate_da8c8_16 : decode cJ5_inflate_da8c8 16 = .ok (.astore_n 1, 1) := by decide +kernel
theorem dJ5_inflate_da8c8_17 : decode cJ5_inflate_da8c8 17 = .ok (.aload_n 0, 1) := by decide +kernel
theorem dJ5_inflate_da8c8_18 : decode cJ5_inflate_da8c8 18 = .ok (.getfield 15, 3) := by decide +kernel
theorem dJ5_inflate_da8c8_21 : decode cJ5_inflate_da8c8 21 = .ok (.iconst 0, 1) := by decide +kernel
theorem dJ5_inflate_da8c8_22 : decode cJ5_inflate_da8c8 22 = .ok (.aload_n 1, 1) := by decide +kernel
theorem dJ5_inflate_da8c8_23 : decode cJ5_inflate_da8c8 23 = .ok (.iconst 0, 1) := by decide +kernel
theorem dJ5_inflate_da8c8_24 : decode cJ5_inflate_da8c8 24 = .ok (.aload_n 0, 1) := by decide +kernel
theorem dJ5_inflate_da8c8_25 : decode cJ5_inflate_da8c8 25 = .ok (.getfield 79, 3) := by decide +kernel
theorem dJ5_inflate_da8c8_28 : decode cJ5_inflate_da8c8 28 = .ok (.invokestatic 125, 3) := by decide +kernel
theorem dJ5_inflate_da8c8_31 : decode cJ5_inflate_da8c8 31 = .ok (.aload_n 0, 1) := by decide +kernel
theorem dJ5_inflate_da8c8_32 : decode cJ5_inflate_da8c8 32 = .ok (.aload_n 1, 1) := by decide +kernel
theorem dJ5_inflate_da8c8_33 : decode cJ5_inflate_da8c8 33 = .ok (.putfield 15, 3) := by decide +kernel
theorem dJ5_inflate_da8c8_36 : decode cJ5_inflate_da8c8 36 = .ok (.aload_n 0, 1) := by decide +kernel
theorem dJ5_inflate_da8c8_37 : decode cJ5_inflate_da8c8 37 = .ok (.iconst 1, 1) := by decide +kernel
theorem dJ5_inflate_da8c8_38 : decode cJ5_inflate_da8c8 38 = .ok (.putfield 22, 3) := by decide +kernel
theorem dJ5_inflate_da8c8_41 : decode cJ5_inflate_da8c8 41 = .ok (.return_, 1) := by decide +kernel
theorem dJ5_append_cf1ce_0 : decode cJ5_append_cf1ce 0 = .ok (.aload_n 1, 1) := by decide +kernel
theorem dJ5_append_cf1ce_1 : decode cJ5_append_cf1ce 1 = .ok (.ifnonnull 8, 3) := by decide +kernel
theorem dJ5_append_cf1ce_4 : decode cJ5_append_cf1ce 4 = .ok (.aload_n 0, 1) := by decide +kernel
theorem dJ5_append_cf1ce_5 : decode cJ5_append_cf1ce 5 = .ok (.invokevirtual 204, 3) := by decide +kernel
theorem dJ5_append_cf1ce_8 : decode cJ5_append_cf1ce 8 = .ok (.areturn, 1) := by decide +kernel
theorem dJ5_append_cf1ce_9 : decode cJ5_append_cf1ce 9 = .ok (.aload_n 1, 1) := by decide +kernel
theorem dJ5_append_cf1ce_10 : decode cJ5_append_cf1ce 10 = .ok (.invokevirtual 32, 3) := by decide +kernel
theorem dJ5_append_cf1ce_13 : decode cJ5_append_cf1ce 13 = .ok (.istore_n 2, 1) := by decide +kernel
theorem dJ5_append_cf1ce_14 : decode cJ5_append_cf1ce 14 = .ok (.aload_n 0, 1) := by decide +kernel
theorem dJ5_append_cf1ce_15 : decode cJ5_append_cf1ce 15 = .ok (.aload_n 0, 1) := by decide +kernel
theorem dJ5_append_cf1ce_16 : decode cJ5_append_cf1ce 16 = .ok (.getfield 79, 3) := by decide +kernel
theorem dJ5_append_cf1ce_19 : decode cJ5_append_cf1ce 19 = .ok (.iload_n 2, 1) := by decide +kernel
theorem dJ5_append_cf1ce_20 : decode cJ5_append_cf1ce 20 = .ok (.iadd, 1) := by decide +kernel
theorem dJ5_append_cf1ce_21 : decode cJ5_append_cf1ce 21 = .ok (.invokevirtual 100, 3) := by decide +kernel
theorem dJ5_append_cf1ce_24 : decode cJ5_append_cf1ce 24 = .ok (.aload_n 0, 1) := by decide +kernel
theorem dJ5_append_cf1ce_25 : decode cJ5_append_cf1ce 25 = .ok (.aload_n 0, 1) := by decide +kernel
theorem dJ5_append_cf1ce_26 : decode cJ5_append_cf1ce 26 = .ok (.getfield 79, 3) := by decide +kernel
theorem dJ5_append_cf1ce_29 : decode cJ5_append_cf1ce 29 = .ok (.aload_n 1, 1) := by decide +kernel
theorem dJ5_append_cf1ce_30 : decode cJ5_append_cf1ce 30 = .ok (.invokevirtual 208, 3) := by decide +kernel
theorem dJ5_append_cf1ce_33 : decode cJ5_append_cf1ce 33 = .ok (.aload_n 0, 1) := by decide +kernel
theorem dJ5_append_cf1ce_34 : decode cJ5_append_cf1ce 34 = .ok (.dup, 1) := by decide +kernel
theorem dJ5_append_cf1ce_35 : decode cJ5_append_cf1ce 35 = .ok (.getfield 79, 3) := by decide +kernel
theorem dJ5_append_cf1ce_38 : decode cJ5_append_cf1ce 38 = .ok (.iload_n 2, 1) := by decide +kernel
theorem dJ5_append_cf1ce_39 : decode cJ5_append_cf1ce 39 = .ok (.iadd, 1) := by decide +kernel
theorem dJ5_append_cf1ce_40 : decode cJ5_append_cf1ce 40 = .ok (.putfield 79, 3) := by decide +kernel
theorem dJ5_append_cf1ce_43 : decode cJ5_append_cf1ce 43 = .ok (.aload_n 0, 1) := by decide +kernel
theorem dJ5_append_cf1ce_44 : decode cJ5_append_cf1ce 44 = .ok (.areturn, 1) := by decide +kernel
theorem dJ5_appendNull_278bc_0 : decode cJ5_appendNull_278bc 0 = .ok (.aload_n 0, 1) := by decide +kernel
theorem dJ5_appendNull_278bc_1 : decode cJ5_appendNull_278bc 1 = .ok (.aload_n 0, 1) := by decide +kernel
theorem dJ5_appendNull_278bc_2 : decode cJ5_appendNull_278bc 2 = .ok (.getfield 79, 3) := by decide +kernel
theorem dJ5_appendNull_278bc_5 : decode cJ5_appendNull_278bc 5 = .ok (.iconst 4, 1) := by decide +kernel
theorem dJ5_appendNull_278bc_6 : decode cJ5_appendNull_278bc 6 = .ok (.iadd, 1) := by decide +kernel
theorem dJ5_appendNull_278bc_7 : decode cJ5_appendNull_278bc 7 = .ok (.invokevirtual 100, 3) := by decide +kernel
theorem dJ5_appendNull_278bc_10 : decode cJ5_appendNull_278bc 10 = .ok (.aload_n 0, 1) := by decide +kernel
theorem dJ5_appendNull_278bc_11 : decode cJ5_appendNull_278bc 11 = .ok (.getfield 79, 3) := by decide +kernel
theorem dJ5_appendNull_278bc_14 : decode cJ5_appendNull_278bc 14 = .ok (.istore_n 1, 1) := by decide +kernel
theorem dJ5_appendNull_278bc_15 : decode cJ5_appendNull_278bc 15 = .ok (.aload_n 0, 1) := by decide +kernel
theorem dJ5_appendNull_278bc_16 : decode cJ5_appendNull_278bc 16 = .ok (.getfield 15, 3) := by decide +kernel
theorem dJ5_appendNull_278bc_19 : decode cJ5_appendNull_278bc 19 = .ok (.astore_n 2, 1) := by decide +kernel
theorem dJ5_appendNull_278bc_20 : decode cJ5_appendNull_278bc 20 = .ok (.aload_n 0, 1) := by decide +kernel
theorem dJ5_appendNull_278bc_21 : decode cJ5_appendNull_278bc 21 = .ok (.invokevirtual 83, 3) := by decide +kernel
theorem dJ5_appendNull_278bc_24 : decode cJ5_appendNull_278bc 24 = .ok (.ifCond .eq 38, 3) := by decide +kernel
theorem dJ5_appendNull_278bc_27 : decode cJ5_appendNull_278bc 27 = .ok (.aload_n 2, 1) := by decide +kernel
theorem dJ5_appendNull_278bc_28 : decode cJ5_appendNull_278bc 28 = .ok (.iload_n 1, 1) := by decide +kernel
theorem dJ5_appendNull_278bc_29 : decode cJ5_appendNull_278bc 29 = .ok (.iinc 1 1, 3) := by decide +kernel
theorem dJ5_appendNull_278bc_32 : decode cJ5_appendNull_278bc 32 = .ok (.bipush 110, 2) := by decide +kernel
theorem dJ5_appendNull_278bc_34 : decode cJ5_appendNull_278bc 34 = .ok (.bastore, 1) := by decide +kernel
theorem dJ5_appendNull_278bc_35 : decode cJ5_appendNull_278bc 35 = .ok (.aload_n 2, 1) := by decide +kernel
theorem dJ5_appendNull_278bc_36 : decode cJ5_appendNull_278bc 36 = .ok (.iload_n 1, 1) := by decide +kernel
theorem dJ5_appendNull_278bc_37 : decode cJ5_appendNull_278bc 37 = .ok (.iinc 1 1, 3) := by decide +kernel
theorem dJ5_appendNull_278bc_40 : decode cJ5_appendNull_278bc 40 = .ok (.bipush 117, 2) := by decide +kernel
theorem dJ5_appendNull_278bc_42 : decode cJ5_appendNull_278bc 42 = .ok (.bastore, 1) := by decide +kernel
theorem dJ5_appendNull_278bc_43 : decode cJ5_appendNull_278bc 43 = .ok (.aload_n 2, 1) := by decide +kernel
theorem dJ5_appendNull_278bc_44 : decode cJ5_appendNull_278bc 44 = .ok (.iload_n 1, 1) := by decide +kernel
theorem dJ5_appendNull_278bc_45 : decode cJ5_appendNull_278bc 45 = .ok (.iinc 1 1, 3) := by decide +kernel
theorem dJ5_appendNull_278bc_48 : decode cJ5_appendNull_278bc 48 = .ok (.bipush 108, 2) := by decide +kernel
theorem dJ5_appendNull_278bc_50 : decode cJ5_appendNull_278bc 50 = .ok (.bastore, 1) := by decide +kernel
theorem dJ5_appendNull_278bc_51 : decode cJ5_appendNull_278bc 51 = .ok (.aload_n 2, 1) := by decide +kernel
theorem dJ5_appendNull_278bc_52 : decode cJ5_appendNull_278bc 52 = .ok (.iload_n 1, 1) := by decide +kernel
theorem dJ5_appendNull_278bc_53 : decode cJ5_appendNull_278bc 53 = .ok (.iinc 1 1, 3) := by decide +kernel
theorem dJ5_appendNull_278bc_56 : decode cJ5_appendNull_278bc 56 = .ok (.bipush 108, 2) := by decide +kernel
theorem dJ5_appendNull_278bc_58 : decode cJ5_appendNull_278bc 58 = .ok (.bastore, 1) := by decide +kernel
theorem dJ5_appendNull_278bc_59 : decode cJ5_appendNull_278bc 59 = .ok (.goto 17, 3) := by decide +kernel
theorem dJ5_appendNull_278bc_62 : decode cJ5_appendNull_278bc 62 = .ok (.aload_n 2, 1) := by decide +kernel
theorem dJ5_appendNull_278bc_63 : decode cJ5_appendNull_278bc 63 = .ok (.iload_n 1, 1) := by decide +kernel
theorem dJ5_appendNull_278bc_64 : decode cJ5_appendNull_278bc 64 = .ok (.bipush 110, 2) := by decide +kernel
theorem dJ5_appendNull_278bc_66 : decode cJ5_appendNull_278bc 66 = .ok (.bipush 117, 2) := by decide +kernel
theorem dJ5_appendNull_278bc_68 : decode cJ5_appendNull_278bc 68 = .ok (.bipush 108, 2) := by decide +kernel
theorem dJ5_appendNull_278bc_70 : decode cJ5_appendNull_278bc 70 = .ok (.bipush 108, 2) := by decide +kernel
theorem dJ5_appendNull_278bc_72 : decode cJ5_appendNull_278bc 72 = .ok (.invokestatic 226, 3) := by decide +kernel
theorem dJ5_appendNull_278bc_75 : decode cJ5_appendNull_278bc 75 = .ok (.istore_n 1, 1) := by decide +kernel
theorem dJ5_appendNull_278bc_76 : decode cJ5_appendNull_278bc 76 = .ok (.aload_n 0, 1) := by decide +kernel
theorem dJ5_appendNull_278bc_77 : decode cJ5_appendNull_278bc 77 = .ok (.iload_n 1, 1) := by decide +kernel
theorem dJ5_appendNull_278bc_78 : decode cJ5_appendNull_278bc 78 = .ok (.putfield 79, 3) := by decide +kernel
theorem dJ5_appendNull_278bc_81 : decode cJ5_appendNull_278bc 81 = .ok (.aload_n 0, 1) := by decide +kernel
theorem dJ5_appendNull_278bc_82 : decode cJ5_appendNull_278bc 82 = .ok (.areturn, 1) := by decide +kernel
theorem dJ5_append_c97b9_0 : decode cJ5_append_c97b9 0 = .ok (.aload_n 0, 1) := by decide +kernel
theorem dJ5_append_c97b9_1 : decode cJ5_append_c97b9 1 = .ok (.getfield 79, 3) := by decide +kernel
theorem dJ5_append_c97b9_4 : decode cJ5_append_c97b9 4 = .ok (.istore_n 2, 1) := by decide +kernel
theorem dJ5_append_c97b9_5 : decode cJ5_append_c97b9 5 = .ok (.iload_n 2, 1) := by decide +kernel
theorem dJ5_append_c97b9_6 : decode cJ5_append_c97b9 6 = .ok (.iload_n 1, 1) := by decide +kernel
theorem dJ5_append_c97b9_7 : decode cJ5_append_c97b9 7 = .ok (.invokestatic 245, 3) := by decide +kernel
theorem dJ5_append_c97b9_10 : decode cJ5_append_c97b9 10 = .ok (.iadd, 1) := by decide +kernel
theorem dJ5_append_c97b9_11 : decode cJ5_append_c97b9 11 = .ok (.istore_n 3, 1) := by decide +kernel
theorem dJ5_append_c97b9_12 : decode cJ5_append_c97b9 12 = .ok (.aload_n 0, 1) := by decide +kernel
theorem dJ5_append_c97b9_13 : decode cJ5_append_c97b9 13 = .ok (.iload_n 3, 1) := by decide +kernel
theorem dJ5_append_c97b9_14 : decode cJ5_append_c97b9 14 = .ok (.invokevirtual 100, 3) := by decide +kernel
theorem dJ5_append_c97b9_17 : decode cJ5_append_c97b9 17 = .ok (.aload_n 0, 1) := by decide +kernel
theorem dJ5_append_c97b9_18 : decode cJ5_append_c97b9 18 = .ok (.invokevirtual 83, 3) := by decide +kernel
theorem dJ5_append_c97b9_21 : decode cJ5_append_c97b9 21 = .ok (.ifCond .eq 16, 3) := by decide +kernel
theorem dJ5_append_c97b9_24 : decode cJ5_append_c97b9 24 = .ok (.iload_n 1, 1) := by decide +kernel
theorem dJ5_append_c97b9_25 : decode cJ5_append_c97b9 25 = .ok (.iload_n 3, 1) := by decide +kernel
theorem dJ5_append_c97b9_26 : decode cJ5_append_c97b9 26 = .ok (.aload_n 0, 1) := by decide +kernel
theorem dJ5_append_c97b9_27 : decode cJ5_append_c97b9 27 = .ok (.getfield 15, 3) := by decide +kernel
theorem dJ5_append_c97b9_30 : decode cJ5_append_c97b9 30 = .ok (.invokestatic 248, 3) := by decide +kernel
theorem dJ5_append_c97b9_33 : decode cJ5_append_c97b9 33 = .ok (.pop, 1) := by decide +kernel
theorem dJ5_append_c97b9_34 : decode cJ5_append_c97b9 34 = .ok (.goto 14, 3) := by decide +kernel
theorem dJ5_append_c97b9_37 : decode cJ5_append_c97b9 37 = .ok (.iload_n 1, 1) := by decide +kernel
theorem dJ5_append_c97b9_38 : decode cJ5_append_c97b9 38 = .ok (.iload_n 2, 1) := by decide +kernel
theorem dJ5_append_c97b9_39 : decode cJ5_append_c97b9 39 = .ok (.iload_n 3, 1) := by decide +kernel
theorem dJ5_append_c97b9_40 : decode cJ5_append_c97b9 40 = .ok (.aload_n 0, 1) := by decide +kernel
theorem dJ5_append_c97b9_41 : decode cJ5_append_c97b9 41 = .ok (.getfield 15, 3) := by decide +kernel
theorem dJ5_append_c97b9_44 : decode cJ5_append_c97b9 44 = .ok (.invokestatic 251, 3) := by decide +kernel
theorem dJ5_append_c97b9_47 : decode cJ5_append_c97b9 47 = .ok (.pop, 1) := by decide +kernel
theorem dJ5_append_c97b9_48 : decode cJ5_append_c97b9 48 = .ok (.aload_n 0, 1) := by decide +kernel
theorem dJ5_append_c97b9_49 : decode cJ5_append_c97b9 49 = .ok (.iload_n 3, 1) := by decide +kernel
theorem dJ5_append_c97b9_50 : decode cJ5_append_c97b9 50 = .ok (.putfield 79, 3) := by decide +kernel
theorem dJ5_append_c97b9_53 : decode cJ5_append_c97b9 53 = .ok (.aload_n 0, 1) := by decide +kernel
theorem dJ5_append_c97b9_54 : decode cJ5_append_c97b9 54 = .ok (.areturn, 1) := by decide +kernel
theorem dJ5_getValue_6d5f1_0 : decode cJ5_getValue_6d5f1 0 = .ok (.aload_n 0, 1) := by decide +kernel
theorem dJ5_getValue_6d5f1_1 : decode cJ5_getValue_6d5f1 1 = .ok (.getfield 15, 3) := by decide +kernel
theorem dJ5_getValue_6d5f1_4 : decode cJ5_getValue_6d5f1 4 = .ok (.areturn, 1) := by decide +kernel
theorem dJ5_isLatin1_aae02_0 : decode cJ5_isLatin1_aae02 0 = .ok (.getstatic 18, 3) := by decide +kernel
theorem dJ5_isLatin1_aae02_3 : decode cJ5_isLatin1_aae02 3 = .ok (.ifCond .eq 14, 3) := by decide +kernel
theorem dJ5_isLatin1_aae02_6 : decode cJ5_isLatin1_aae02 6 = .ok (.aload_n 0, 1) := by decide +kernel
theorem dJ5_isLatin1_aae02_7 : decode cJ5_isLatin1_aae02 7 = .ok (.getfield 22, 3) := by decide +kernel
theorem dJ5_isLatin1_aae02_10 : decode cJ5_isLatin1_aae02 10 = .ok (.ifCond .ne 7, 3) := by decide +kernel
theorem dJ5_isLatin1_aae02_13 : decode cJ5_isLatin1_aae02 13 = .ok (.iconst 1, 1) := by decide +kernel
theorem dJ5_isLatin1_aae02_14 : decode cJ5_isLatin1_aae02 14 = .ok (.goto 4, 3) := by decide +kernel
theorem dJ5_isLatin1_aae02_17 : decode cJ5_isLatin1_aae02 17 = .ok (.iconst 0, 1) := by decide +kernel
theorem dJ5_isLatin1_aae02_18 : decode cJ5_isLatin1_aae02 18 = .ok (.ireturn, 1) := by decide +kernel
theorem dJ5_inflateIfNeededFor_a7421_0 : decode cJ5_inflateIfNeededFor_a7421 0 = .ok (.getstatic 18, 3) := by decide +kernel
theorem dJ5_inflateIfNeededFor_a7421_3 : decode cJ5_inflateIfNeededFor_a7421 3 = .ok (.ifCond .eq 18, 3) := by decide +kernel
theorem dJ5_inflateIfNeededFor_a7421_6 : decode cJ5_inflateIfNeededFor_a7421 6 = .ok (.aload_n 0, 1) := by decide +kernel
theorem dJ5_inflateIfNeededFor_a7421_7 : decode cJ5_inflateIfNeededFor_a7421 7 = .ok (.getfield 22, 3) := by decide +kernel
theorem dJ5_inflateIfNeededFor_a7421_10 : decode cJ5_inflateIfNeededFor_a7421 10 = .ok (.aload_n 1, 1) := by decide +kernel
theorem dJ5_inflateIfNeededFor_a7421_11 : decode cJ5_inflateIfNeededFor_a7421 11 = .ok (.invokevirtual 40, 3) := by decide +kernel
theorem dJ5_inflateIfNeededFor_a7421_14 : decode cJ5_inflateIfNeededFor_a7421 14 = .ok (.if_icmp .eq 7, 3) := by decide +kernel
theorem dJ5_inflateIfNeededFor_a7421_17 : decode cJ5_inflateIfNeededFor_a7421 17 = .ok (.aload_n 0, 1) := by decide +kernel
theorem dJ5_inflateIfNeededFor_a7421_18 : decode cJ5_inflateIfNeededFor_a7421 18 = .ok (.invokevirtual 195, 3) := by decide +kernel
theorem dJ5_inflateIfNeededFor_a7421_21 : decode cJ5_inflateIfNeededFor_a7421 21 = .ok (.return_, 1) := by decide +kernel
theorem dJ5_putStringAt_47b60_0 : decode cJ5_putStringAt_47b60 0 = .ok (.aload_n 0, 1) := by decide +kernel
theorem dJ5_putStringAt_47b60_1 : decode cJ5_putStringAt_47b60 1 = .ok (.aload_n 2, 1) := by decide +kernel
theorem dJ5_putStringAt_47b60_2 : decode cJ5_putStringAt_47b60 2 = .ok (.invokevirtual 397, 3) := by decide +kernel
theorem dJ5_putStringAt_47b60_5 : decode cJ5_putStringAt_47b60 5 = .ok (.aload_n 2, 1) := by decide +kernel
theorem dJ5_putStringAt_47b60_6 : decode cJ5_putStringAt_47b60 6 = .ok (.aload_n 0, 1) := by decide +kernel
theorem dJ5_putStringAt_47b60_7 : decode cJ5_putStringAt_47b60 7 = .ok (.getfield 15, 3) := by decide +kernel
theorem dJ5_putStringAt_47b60_10 : decode cJ5_putStringAt_47b60 10 = .ok (.iload_n 1, 1) := by decide +kernel
theorem dJ5_putStringAt_47b60_11 : decode cJ5_putStringAt_47b60 11 = .ok (.aload_n 0, 1) := by decide +kernel
theorem dJ5_putStringAt_47b60_12 : decode cJ5_putStringAt_47b60 12 = .ok (.getfield 22, 3) := by decide +kernel
theorem dJ5_putStringAt_47b60_15 : decode cJ5_putStringAt_47b60 15 = .ok (.invokevirtual 399, 3) := by decide +kernel
theorem dJ5_putStringAt_47b60_18 : decode cJ5_putStringAt_47b60 18 = .ok (.return_, 1) := by decide +kernel
theorem dJ6_getChars_ba4f3_0 : decode cJ6_getChars_ba4f3 0 = .ok (.iload_n 1, 1) := by decide +kernel
theorem dJ6_getChars_ba4f3_1 : decode cJ6_getChars_ba4f3 1 = .ok (.istore 5, 2) := by decide +kernel
theorem dJ6_getChars_ba4f3_3 : decode cJ6_getChars_ba4f3 3 = .ok (.iload_n 0, 1) := by decide +kernel
theorem dJ6_getChars_ba4f3_4 : decode cJ6_getChars_ba4f3 4 = .ok (.ifCond .ge 7, 3) := by decide +kernel
theorem dJ6_getChars_ba4f3_7 : decode cJ6_getChars_ba4f3 7 = .ok (.iconst 1, 1) := by decide +kernel
theorem dJ6_getChars_ba4f3_8 : decode cJ6_getChars_ba4f3 8 = .ok (.goto 4, 3) := by decide +kernel
theorem dJ6_getChars_ba4f3_11 : decode cJ6_getChars_ba4f3 11 = .ok (.iconst 0, 1) := by decide +kernel
theorem dJ6_getChars_ba4f3_12 : decode cJ6_getChars_ba4f3 12 = .ok (.istore 6, 2) := by decide +kernel
theorem dJ6_getChars_ba4f3_14 : decode cJ6_getChars_ba4f3 14 = .ok (.iload 6, 2) := by decide +kernel
theorem dJ6_getChars_ba4f3_16 : decode cJ6_getChars_ba4f3 16 = .ok (.ifCond .ne 6, 3) := by decide +kernel
theorem dJ6_getChars_ba4f3_19 : decode cJ6_getChars_ba4f3 19 = .ok (.iload_n 0, 1) := by decide +kernel
theorem dJ6_getChars_ba4f3_20 : decode cJ6_getChars_ba4f3 20 = .ok (.ineg, 1) := by decide +kernel
theorem dJ6_getChars_ba4f3_21 : decode cJ6_getChars_ba4f3 21 = .ok (.istore_n 0, 1) := by decide +kernel
theorem dJ6_getChars_ba4f3_22 : decode cJ6_getChars_ba4f3 22 = .ok (.iload_n 0, 1) := by decide +kernel
theorem dJ6_getChars_ba4f3_23 : decode cJ6_getChars_ba4f3 23 = .ok (.bipush (-100), 2) := by decide +kernel
theorem dJ6_getChars_ba4f3_25 : decode cJ6_getChars_ba4f3 25 = .ok (.if_icmp .gt 47, 3) := by decide +kernel
theorem dJ6_getChars_ba4f3_28 : decode cJ6_getChars_ba4f3 28 = .ok (.iload_n 0, 1) := by decide +kernel
theorem dJ6_getChars_ba4f3_29 : decode cJ6_getChars_ba4f3 29 = .ok (.bipush 100, 2) := by decide +kernel
theorem dJ6_getChars_ba4f3_31 : decode cJ6_getChars_ba4f3 31 = .ok (.idiv, 1) := by decide +kernel
theorem dJ6_getChars_ba4f3_32 : decode cJ6_getChars_ba4f3 32 = .ok (.istore_n 3, 1) := by decide +kernel
theorem dJ6_getChars_ba4f3_33 : decode cJ6_getChars_ba4f3 33 = .ok (.iload_n 3, 1) := by decide +kernel
theorem dJ6_getChars_ba4f3_34 : decode cJ6_getChars_ba4f3 34 = .ok (.bipush 100, 2) := by decide +kernel
theorem dJ6_getChars_ba4f3_36 : decode cJ6_getChars_ba4f3 36 = .ok (.imul, 1) := by decide +kernel
theorem dJ6_getChars_ba4f3_37 : decode cJ6_getChars_ba4f3 37 = .ok (.iload_n 0, 1) := by decide +kernel
theorem dJ6_getChars_ba4f3_38 : decode cJ6_getChars_ba4f3 38 = .ok (.isub, 1) := by decide +kernel
theorem dJ6_getChars_ba4f3_39 : decode cJ6_getChars_ba4f3 39 = .ok (.istore 4, 2) := by decide +kernel
theorem dJ6_getChars_ba4f3_41 : decode cJ6_getChars_ba4f3 41 = .ok (.iload_n 3, 1) := by decide +kernel
theorem dJ6_getChars_ba4f3_42 : decode cJ6_getChars_ba4f3 42 = .ok (.istore_n 0, 1) := by decide +kernel
theorem dJ6_getChars_ba4f3_43 : decode cJ6_getChars_ba4f3 43 = .ok (.aload_n 2, 1) := by decide +kernel
theorem dJ6_getChars_ba4f3_44 : decode cJ6_getChars_ba4f3 44 = .ok (.iinc 5 (-1), 3) := by decide +kernel
theorem dJ6_getChars_ba4f3_47 : decode cJ6_getChars_ba4f3 47 = .ok (.iload 5, 2) := by decide +kernel
theorem dJ6_getChars_ba4f3_49 : decode cJ6_getChars_ba4f3 49 = .ok (.getstatic 83, 3) := by decide +kernel
theorem dJ6_getChars_ba4f3_52 : decode cJ6_getChars_ba4f3 52 = .ok (.iload 4, 2) := by decide +kernel
theorem dJ6_getChars_ba4f3_54 : decode cJ6_getChars_ba4f3 54 = .ok (.baload, 1) := by decide +kernel
theorem dJ6_getChars_ba4f3_55 : decode cJ6_getChars_ba4f3 55 = .ok (.bastore, 1) := by decide +kernel
theorem dJ6_getChars_ba4f3_56 : decode cJ6_getChars_ba4f3 56 = .ok (.aload_n 2, 1) := by decide +kernel
theorem dJ6_getChars_ba4f3_57 : decode cJ6_getChars_ba4f3 57 = .ok (.iinc 5 (-1), 3) := by decide +kernel
theorem dJ6_getChars_ba4f3_60 : decode cJ6_getChars_ba4f3 60 = .ok (.iload 5, 2) := by decide +kernel
theorem dJ6_getChars_ba4f3_62 : decode cJ6_getChars_ba4f3 62 = .ok (.getstatic 87, 3) := by decide +kernel
theorem dJ6_getChars_ba4f3_65 : decode cJ6_getChars_ba4f3 65 = .ok (.iload 4, 2) := by decide +kernel
theorem dJ6_getChars_ba4f3_67 : decode cJ6_getChars_ba4f3 67 = .ok (.baload, 1) := by decide +kernel
theorem dJ6_getChars_ba4f3_68 : decode cJ6_getChars_ba4f3 68 = .ok (.bastore, 1) := by decide +kernel
theorem dJ6_getChars_ba4f3_69 : decode cJ6_getChars_ba4f3 69 = .ok (.goto (-47), 3) := by decide +kernel
theorem dJ6_getChars_ba4f3_72 : decode cJ6_getChars_ba4f3 72 = .ok (.aload_n 2, 1) := by decide +kernel
theorem dJ6_getChars_ba4f3_73 : decode cJ6_getChars_ba4f3 73 = .ok (.iinc 5 (-1), 3) := by decide +kernel
theorem dJ6_getChars_ba4f3_76 : decode cJ6_getChars_ba4f3 76 = .ok (.iload 5, 2) := by decide +kernel
theorem dJ6_getChars_ba4f3_78 : decode cJ6_getChars_ba4f3 78 = .ok (.getstatic 83, 3) := by decide +kernel
theorem dJ6_getChars_ba4f3_81 : decode cJ6_getChars_ba4f3 81 = .ok (.iload_n 0, 1) := by decide +kernel
theorem dJ6_getChars_ba4f3_82 : decode cJ6_getChars_ba4f3 82 = .ok (.ineg, 1) := by decide +kernel
theorem dJ6_getChars_ba4f3_83 : decode cJ6_getChars_ba4f3 83 = .ok (.baload, 1) := by decide +kernel
theorem dJ6_getChars_ba4f3_84 : decode cJ6_getChars_ba4f3 84 = .ok (.bastore, 1) := by decide +kernel
theorem dJ6_getChars_ba4f3_85 : decode cJ6_getChars_ba4f3 85 = .ok (.iload_n 0, 1) := by decide +kernel
theorem dJ6_getChars_ba4f3_86 : decode cJ6_getChars_ba4f3 86 = .ok (.bipush (-9), 2) := by decide +kernel
theorem dJ6_getChars_ba4f3_88 : decode cJ6_getChars_ba4f3 88 = .ok (.if_icmp .ge 16, 3) := by decide +kernel
theorem dJ6_getChars_ba4f3_91 : decode cJ6_getChars_ba4f3 91 = .ok (.aload_n 2, 1) := by decide +kernel
theorem dJ6_getChars_ba4f3_92 : decode cJ6_getChars_ba4f3 92 = .ok (.iinc 5 (-1), 3) := by decide +kernel
theorem dJ6_getChars_ba4f3_95 : decode cJ6_getChars_ba4f3 95 = .ok (.iload 5, 2) := by decide +kernel
theorem dJ6_getChars_ba4f3_97 : decode cJ6_getChars_ba4f3 97 = .ok (.getstatic 87, 3) := by decide +kernel
theorem dJ6_getChars_ba4f3_100 : decode cJ6_getChars_ba4f3 100 = .ok (.iload_n 0, 1) := by decide +kernel
theorem dJ6_getChars_ba4f3_101 : decode cJ6_getChars_ba4f3 101 = .ok (.ineg, 1) := by decide +kernel
theorem dJ6_getChars_ba4f3_102 : decode cJ6_getChars_ba4f3 102 = .ok (.baload, 1) := by decide +kernel
theorem dJ6_getChars_ba4f3_103 : decode cJ6_getChars_ba4f3 103 = .ok (.bastore, 1) := by decide +kernel
theorem dJ6_getChars_ba4f3_104 : decode cJ6_getChars_ba4f3 104 = .ok (.iload 6, 2) := by decide +kernel
theorem dJ6_getChars_ba4f3_106 : decode cJ6_getChars_ba4f3 106 = .ok (.ifCond .eq 12, 3) := by decide +kernel
theorem dJ6_getChars_ba4f3_109 : decode cJ6_getChars_ba4f3 109 = .ok (.aload_n 2, 1) := by decide +kernel
theorem dJ6_getChars_ba4f3_110 : decode cJ6_getChars_ba4f3 110 = .ok (.iinc 5 (-1), 3) := by decide +kernel
theorem dJ6_getChars_ba4f3_113 : decode cJ6_getChars_ba4f3 113 = .ok (.iload 5, 2) := by decide +kernel
theorem dJ6_getChars_ba4f3_115 : decode cJ6_getChars_ba4f3 115 = .ok (.bipush 45, 2) := by decide +kernel
theorem dJ6_getChars_ba4f3_117 : decode cJ6_getChars_ba4f3 117 = .ok (.bastore, 1) := by decide +kernel
theorem dJ6_getChars_ba4f3_118 : decode cJ6_getChars_ba4f3 118 = .ok (.iload 5, 2) := by decide +kernel
theorem dJ6_getChars_ba4f3_120 : decode cJ6_getChars_ba4f3 120 = .ok (.ireturn, 1) := by decide +kernel
theorem dJ6_stringSize_0f7a4_0 : decode cJ6_stringSize_0f7a4 0 = .ok (.iconst 1, 1) := by decide +kernel
theorem dJ6_stringSize_0f7a4_1 : decode cJ6_stringSize_0f7a4 1 = .ok (.istore_n 1, 1) := by decide +kernel
theorem dJ6_stringSize_0f7a4_2 : decode cJ6_stringSize_0f7a4 2 = .ok (.iload_n 0, 1) := by decide +kernel
theorem dJ6_stringSize_0f7a4_3 : decode cJ6_stringSize_0f7a4 3 = .ok (.ifCond .lt 8, 3) := by decide +kernel
theorem dJ6_stringSize_0f7a4_6 : decode cJ6_stringSize_0f7a4 6 = .ok (.iconst 0, 1) := by decide +kernel
theorem dJ6_stringSize_0f7a4_7 : decode cJ6_stringSize_0f7a4 7 = .ok (.istore_n 1, 1) := by decide +kernel
theorem dJ6_stringSize_0f7a4_8 : decode cJ6_stringSize_0f7a4 8 = .ok (.iload_n 0, 1) := by decide +kernel
theorem dJ6_stringSize_0f7a4_9 : decode cJ6_stringSize_0f7a4 9 = .ok (.ineg, 1) := by decide +kernel
theorem dJ6_stringSize_0f7a4_10 : decode cJ6_stringSize_0f7a4 10 = .ok (.istore_n 0, 1) := by decide +kernel
theorem dJ6_stringSize_0f7a4_11 : decode cJ6_stringSize_0f7a4 11 = .ok (.bipush (-10), 2) := by decide +kernel
theorem dJ6_stringSize_0f7a4_13 : decode cJ6_stringSize_0f7a4 13 = .ok (.istore_n 2, 1) := by decide +kernel
theorem dJ6_stringSize_0f7a4_14 : decode cJ6_stringSize_0f7a4 14 = .ok (.iconst 1, 1) := by decide +kernel
theorem dJ6_stringSize_0f7a4_15 : decode cJ6_stringSize_0f7a4 15 = .ok (.istore_n 3, 1) := by decide +kernel
theorem dJ6_stringSize_0f7a4_16 : decode cJ6_stringSize_0f7a4 16 = .ok (.iload_n 3, 1) := by decide +kernel
theorem dJ6_stringSize_0f7a4_17 : decode cJ6_stringSize_0f7a4 17 = .ok (.bipush 10, 2) := by decide +kernel
theorem dJ6_stringSize_0f7a4_19 : decode cJ6_stringSize_0f7a4 19 = .ok (.if_icmp .ge 23, 3) := by decide +kernel
theorem dJ6_stringSize_0f7a4_22 : decode cJ6_stringSize_0f7a4 22 = .ok (.iload_n 0, 1) := by decide +kernel
theorem dJ6_stringSize_0f7a4_23 : decode cJ6_stringSize_0f7a4 23 = .ok (.iload_n 2, 1) := by decide +kernel
theorem dJ6_stringSize_0f7a4_24 : decode cJ6_stringSize_0f7a4 24 = .ok (.if_icmp .le 7, 3) := by decide +kernel
theorem dJ6_stringSize_0f7a4_27 : decode cJ6_stringSize_0f7a4 27 = .ok (.iload_n 3, 1) := by decide +kernel
theorem dJ6_stringSize_0f7a4_28 : decode cJ6_stringSize_0f7a4 28 = .ok (.iload_n 1, 1) := by decide +kernel
theorem dJ6_stringSize_0f7a4_29 : decode cJ6_stringSize_0f7a4 29 = .ok (.iadd, 1) := by decide +kernel
theorem dJ6_stringSize_0f7a4_30 : decode cJ6_stringSize_0f7a4 30 = .ok (.ireturn, 1) := by decide +kernel
theorem dJ6_stringSize_0f7a4_31 : decode cJ6_stringSize_0f7a4 31 = .ok (.bipush 10, 2) := by decide +kernel
theorem dJ6_stringSize_0f7a4_33 : decode cJ6_stringSize_0f7a4 33 = .ok (.iload_n 2, 1) := by decide +kernel
theorem dJ6_stringSize_0f7a4_34 : decode cJ6_stringSize_0f7a4 34 = .ok (.imul, 1) := by decide +kernel
theorem dJ6_stringSize_0f7a4_35 : decode cJ6_stringSize_0f7a4 35 = .ok (.istore_n 2, 1) := by decide +kernel
theorem dJ6_stringSize_0f7a4_36 : decode cJ6_stringSize_0f7a4 36 = .ok (.iinc 3 1, 3) := by decide +kernel
theorem dJ6_stringSize_0f7a4_39 : decode cJ6_stringSize_0f7a4 39 = .ok (.goto (-23), 3) := by decide +kernel
theorem dJ6_stringSize_0f7a4_42 : decode cJ6_stringSize_0f7a4 42 = .ok (.bipush 10, 2) := by decide +kernel
theorem dJ6_stringSize_0f7a4_44 : decode cJ6_stringSize_0f7a4 44 = .ok (.iload_n 1, 1) := by decide +kernel
theorem dJ6_stringSize_0f7a4_45 : decode cJ6_stringSize_0f7a4 45 = .ok (.iadd, 1) := by decide +kernel
theorem dJ6_stringSize_0f7a4_46 : decode cJ6_stringSize_0f7a4 46 = .ok (.ireturn, 1) := by decide +kernel
theorem dJ13_bitCount_95d88_0 : decode cJ13_bitCount_95d88 0 = .ok (.lload_n 0, 1) := by decide +kernel
theorem dJ13_bitCount_95d88_1 : decode cJ13_bitCount_95d88 1 = .ok (.lload_n 0, 1) := by decide +kernel
theorem dJ13_bitCount_95d88_2 : decode cJ13_bitCount_95d88 2 = .ok (.iconst 1, 1) := by decide +kernel
theorem dJ13_bitCount_95d88_3 : decode cJ13_bitCount_95d88 3 = .ok (.lushr, 1) := by decide +kernel
theorem dJ13_bitCount_95d88_4 : decode cJ13_bitCount_95d88 4 = .ok (.ldc2_w 314, 3) := by decide +kernel
theorem dJ13_bitCount_95d88_7 : decode cJ13_bitCount_95d88 7 = .ok (.land, 1) := by decide +kernel
theorem dJ13_bitCount_95d88_8 : decode cJ13_bitCount_95d88 8 = .ok (.lsub, 1) := by decide +kernel
theorem dJ13_bitCount_95d88_9 : decode cJ13_bitCount_95d88 9 = .ok (.lstore_n 0, 1) := by decide +kernel
theorem dJ13_bitCount_95d88_10 : decode cJ13_bitCount_95d88 10 = .ok (.lload_n 0, 1) := by decide +kernel
theorem dJ13_bitCount_95d88_11 : decode cJ13_bitCount_95d88 11 = .ok (.ldc2_w 316, 3) := by decide +kernel
theorem dJ13_bitCount_95d88_14 : decode cJ13_bitCount_95d88 14 = .ok (.land, 1) := by decide +kernel
theorem dJ13_bitCount_95d88_15 : decode cJ13_bitCount_95d88 15 = .ok (.lload_n 0, 1) := by decide +kernel
theorem dJ13_bitCount_95d88_16 : decode cJ13_bitCount_95d88 16 = .ok (.iconst 2, 1) := by decide +kernel
theorem dJ13_bitCount_95d88_17 : decode cJ13_bitCount_95d88 17 = .ok (.lushr, 1) := by decide +kernel
theorem dJ13_bitCount_95d88_18 : decode cJ13_bitCount_95d88 18 = .ok (.ldc2_w 316, 3) := by decide +kernel
theorem dJ13_bitCount_95d88_21 : decode cJ13_bitCount_95d88 21 = .ok (.land, 1) := by decide +kernel
theorem dJ13_bitCount_95d88_22 : decode cJ13_bitCount_95d88 22 = .ok (.ladd, 1) := by decide +kernel
theorem dJ13_bitCount_95d88_23 : decode cJ13_bitCount_95d88 23 = .ok (.lstore_n 0, 1) := by decide +kernel
theorem dJ13_bitCount_95d88_24 : decode cJ13_bitCount_95d88 24 = .ok (.lload_n 0, 1) := by decide +kernel
theorem dJ13_bitCount_95d88_25 : decode cJ13_bitCount_95d88 25 = .ok (.lload_n 0, 1) := by decide +kernel
theorem dJ13_bitCount_95d88_26 : decode cJ13_bitCount_95d88 26 = .ok (.iconst 4, 1) := by decide +kernel
theorem dJ13_bitCount_95d88_27 : decode cJ13_bitCount_95d88 27 = .ok (.lushr, 1) := by decide +kernel
theorem dJ13_bitCount_95d88_28 : decode cJ13_bitCount_95d88 28 = .ok (.ladd, 1) := by decide +kernel
theorem dJ13_bitCount_95d88_29 : decode cJ13_bitCount_95d88 29 = .ok (.ldc2_w 318, 3) := by decide +kernel
theorem dJ13_bitCount_95d88_32 : decode cJ13_bitCount_95d88 32 = .ok (.land, 1) := by decide +kernel
theorem dJ13_bitCount_95d88_33 : decode cJ13_bitCount_95d88 33 = .ok (.lstore_n 0, 1) := by decide +kernel
theorem dJ13_bitCount_95d88_34 : decode cJ13_bitCount_95d88 34 = .ok (.lload_n 0, 1) := by decide +kernel
theorem dJ13_bitCount_95d88_35 : decode cJ13_bitCount_95d88 35 = .ok (.lload_n 0, 1) := by decide +kernel
theorem dJ13_bitCount_95d88_36 : decode cJ13_bitCount_95d88 36 = .ok (.bipush 8, 2) := by decide +kernel
theorem dJ13_bitCount_95d88_38 : decode cJ13_bitCount_95d88 38 = .ok (.lushr, 1) := by decide +kernel
theorem dJ13_bitCount_95d88_39 : decode cJ13_bitCount_95d88 39 = .ok (.ladd, 1) := by decide +kernel
theorem dJ13_bitCount_95d88_40 : decode cJ13_bitCount_95d88 40 = .ok (.lstore_n 0, 1) := by decide +kernel
theorem dJ13_bitCount_95d88_41 : decode cJ13_bitCount_95d88 41 = .ok (.lload_n 0, 1) := by decide +kernel
theorem dJ13_bitCount_95d88_42 : decode cJ13_bitCount_95d88 42 = .ok (.lload_n 0, 1) := by decide +kernel
theorem dJ13_bitCount_95d88_43 : decode cJ13_bitCount_95d88 43 = .ok (.bipush 16, 2) := by decide +kernel
theorem dJ13_bitCount_95d88_45 : decode cJ13_bitCount_95d88 45 = .ok (.lushr, 1) := by decide +kernel
theorem dJ13_bitCount_95d88_46 : decode cJ13_bitCount_95d88 46 = .ok (.ladd, 1) := by decide +kernel
theorem dJ13_bitCount_95d88_47 : decode cJ13_bitCount_95d88 47 = .ok (.lstore_n 0, 1) := by decide +kernel
theorem dJ13_bitCount_95d88_48 : decode cJ13_bitCount_95d88 48 = .ok (.lload_n 0, 1) := by decide +kernel
theorem dJ13_bitCount_95d88_49 : decode cJ13_bitCount_95d88 49 = .ok (.lload_n 0, 1) := by decide +kernel
theorem dJ13_bitCount_95d88_50 : decode cJ13_bitCount_95d88 50 = .ok (.bipush 32, 2) := by decide +kernel
theorem dJ13_bitCount_95d88_52 : decode cJ13_bitCount_95d88 52 = .ok (.lushr, 1) := by decide +kernel
theorem dJ13_bitCount_95d88_53 : decode cJ13_bitCount_95d88 53 = .ok (.ladd, 1) := by decide +kernel
theorem dJ13_bitCount_95d88_54 : decode cJ13_bitCount_95d88 54 = .ok (.lstore_n 0, 1) := by decide +kernel
theorem dJ13_bitCount_95d88_55 : decode cJ13_bitCount_95d88 55 = .ok (.lload_n 0, 1) := by decide +kernel
theorem dJ13_bitCount_95d88_56 : decode cJ13_bitCount_95d88 56 = .ok (.l2i, 1) := by decide +kernel
theorem dJ13_bitCount_95d88_57 : decode cJ13_bitCount_95d88 57 = .ok (.bipush 127, 2) := by decide +kernel
theorem dJ13_bitCount_95d88_59 : decode cJ13_bitCount_95d88 59 = .ok (.iand, 1) := by decide +kernel
theorem dJ13_bitCount_95d88_60 : decode cJ13_bitCount_95d88 60 = .ok (.ireturn, 1) := by decide +kernel
theorem dJ9_abs_0f7a4_0 : decode cJ9_abs_0f7a4 0 = .ok (.iload_n 0, 1) := by decide +kernel
theorem dJ9_abs_0f7a4_1 : decode cJ9_abs_0f7a4 1 = .ok (.ifCond .ge 8, 3) := by decide +kernel
theorem dJ9_abs_0f7a4_4 : decode cJ9_abs_0f7a4 4 = .ok (.iload_n 0, 1) := by decide +kernel
theorem dJ9_abs_0f7a4_5 : decode cJ9_abs_0f7a4 5 = .ok (.ineg, 1) := by decide +kernel
theorem dJ9_abs_0f7a4_6 : decode cJ9_abs_0f7a4 6 = .ok (.goto 4, 3) := by decide +kernel
theorem dJ9_abs_0f7a4_9 : decode cJ9_abs_0f7a4 9 = .ok (.iload_n 0, 1) := by decide +kernel
theorem dJ9_abs_0f7a4_10 : decode cJ9_abs_0f7a4 10 = .ok (.ireturn, 1) := by decide +kernel
theorem dJ9_max_7cf53_0 : decode cJ9_max_7cf53 0 = .ok (.iload_n 0, 1) := by decide +kernel
theorem dJ9_max_7cf53_1 : decode cJ9_max_7cf53 1 = .ok (.iload_n 1, 1) := by decide +kernel
theorem dJ9_max_7cf53_2 : decode cJ9_max_7cf53 2 = .ok (.if_icmp .lt 7, 3) := by decide +kernel
theorem dJ9_max_7cf53_5 : decode cJ9_max_7cf53 5 = .ok (.iload_n 0, 1) := by decide +kernel
theorem dJ9_max_7cf53_6 : decode cJ9_max_7cf53 6 = .ok (.goto 4, 3) := by decide +kernel
theorem dJ9_max_7cf53_9 : decode cJ9_max_7cf53 9 = .ok (.iload_n 1, 1) := by decide +kernel
theorem dJ9_max_7cf53_10 : decode cJ9_max_7cf53 10 = .ok (.ireturn, 1) := by decide +kernel
theorem dJ9_min_7cf53_0 : decode cJ9_min_7cf53 0 = .ok (.iload_n 0, 1) := by decide +kernel
theorem dJ9_min_7cf53_1 : decode cJ9_min_7cf53 1 = .ok (.iload_n 1, 1) := by decide +kernel
theorem dJ9_min_7cf53_2 : decode cJ9_min_7cf53 2 = .ok (.if_icmp .gt 7, 3) := by decide +kernel
theorem dJ9_min_7cf53_5 : decode cJ9_min_7cf53 5 = .ok (.iload_n 0, 1) := by decide +kernel
theorem dJ9_min_7cf53_6 : decode cJ9_min_7cf53 6 = .ok (.goto 4, 3) := by decide +kernel
theorem dJ9_min_7cf53_9 : decode cJ9_min_7cf53 9 = .ok (.iload_n 1, 1) := by decide +kernel
theorem dJ9_min_7cf53_10 : decode cJ9_min_7cf53 10 = .ok (.ireturn, 1) := by decide +kernel
theorem dJ0_init_81219_0 : decode cJ0_init_81219 0 = .ok (.aload_n 0, 1) := by decide +kernel
theorem dJ0_init_81219_1 : decode cJ0_init_81219 1 = .ok (.aload_n 1, 1) := by decide +kernel
theorem dJ0_init_81219_2 : decode cJ0_init_81219 2 = .ok (.aconst_null, 1) := by decide +kernel
theorem dJ0_init_81219_3 : decode cJ0_init_81219 3 = .ok (.invokespecial 489, 3) := by decide +kernel
theorem dJ0_init_81219_6 : decode cJ0_init_81219 6 = .ok (.return_, 1) := by decide +kernel
theorem dJ0_length_8abf5_0 : decode cJ0_length_8abf5 0 = .ok (.aload_n 0, 1) := by decide +kernel
theorem dJ0_length_8abf5_1 : decode cJ0_length_8abf5 1 = .ok (.getfield 9, 3) := by decide +kernel
theorem dJ0_length_8abf5_4 : decode cJ0_length_8abf5 4 = .ok (.arraylength, 1) := by decide +kernel
theorem dJ0_length_8abf5_5 : decode cJ0_length_8abf5 5 = .ok (.aload_n 0, 1) := by decide +kernel
theorem dJ0_length_8abf5_6 : decode cJ0_length_8abf5 6 = .ok (.invokevirtual 335, 3) := by decide +kernel
theorem dJ0_length_8abf5_9 : decode cJ0_length_8abf5 9 = .ok (.ishr, 1) := by decide +kernel
theorem dJ0_length_8abf5_10 : decode cJ0_length_8abf5 10 = .ok (.ireturn, 1) := by decide +kernel
theorem dJ0_charAt_5068e_0 : decode cJ0_charAt_5068e 0 = .ok (.aload_n 0, 1) := by decide +kernel
theorem dJ0_charAt_5068e_1 : decode cJ0_charAt_5068e 1 = .ok (.invokevirtual 492, 3) := by decide +kernel
theorem dJ0_charAt_5068e_4 : decode cJ0_charAt_5068e 4 = .ok (.ifCond .eq 12, 3) := by decide +kernel
theorem dJ0_charAt_5068e_7 : decode cJ0_charAt_5068e 7 = .ok (.aload_n 0, 1) := by decide +kernel
theorem dJ0_charAt_5068e_8 : decode cJ0_charAt_5068e 8 = .ok (.getfield 9, 3) := by decide +kernel
theorem dJ0_charAt_5068e_11 : decode cJ0_charAt_5068e 11 = .ok (.iload_n 1, 1) := by decide +kernel
theorem dJ0_charAt_5068e_12 : decode cJ0_charAt_5068e 12 = .ok (.invokestatic 495, 3) := by decide +kernel
theorem dJ0_charAt_5068e_15 : decode cJ0_charAt_5068e 15 = .ok (.ireturn, 1) := by decide +kernel
theorem dJ0_charAt_5068e_16 : decode cJ0_charAt_5068e 16 = .ok (.aload_n 0, 1) := by decide +kernel
theorem dJ0_charAt_5068e_17 : decode cJ0_charAt_5068e 17 = .ok (.getfield 9, 3) := by decide +kernel
theorem dJ0_charAt_5068e_20 : decode cJ0_charAt_5068e 20 = .ok (.iload_n 1, 1) := by decide +kernel
theorem dJ0_charAt_5068e_21 : decode cJ0_charAt_5068e 21 = .ok (.invokestatic 498, 3) := by decide +kernel
theorem dJ0_charAt_5068e_24 : decode cJ0_charAt_5068e 24 = .ok (.ireturn, 1) := by decide +kernel
theorem dJ0_getBytes_840e7_0 : decode cJ0_getBytes_840e7 0 = .ok (.aload_n 0, 1) := by decide +kernel
theorem dJ0_getBytes_840e7_1 : decode cJ0_getBytes_840e7 1 = .ok (.invokevirtual 335, 3) := by decide +kernel
theorem dJ0_getBytes_840e7_4 : decode cJ0_getBytes_840e7 4 = .ok (.iload_n 3, 1) := by decide +kernel
theorem dJ0_getBytes_840e7_5 : decode cJ0_getBytes_840e7 5 = .ok (.if_icmp .ne 23, 3) := by decide +kernel
theorem dJ0_getBytes_840e7_8 : decode cJ0_getBytes_840e7 8 = .ok (.aload_n 0, 1) := by decide +kernel
theorem dJ0_getBytes_840e7_9 : decode cJ0_getBytes_840e7 9 = .ok (.getfield 9, 3) := by decide +kernel
theorem dJ0_getBytes_840e7_12 : decode cJ0_getBytes_840e7 12 = .ok (.iconst 0, 1) := by decide +kernel
theorem dJ0_getBytes_840e7_13 : decode cJ0_getBytes_840e7 13 = .ok (.aload_n 1, 1) := by decide +kernel
theorem dJ0_getBytes_840e7_14 : decode cJ0_getBytes_840e7 14 = .ok (.iload_n 2, 1) := by decide +kernel
theorem dJ0_getBytes_840e7_15 : decode cJ0_getBytes_840e7 15 = .ok (.iload_n 3, 1) := by decide +kernel
theorem dJ0_getBytes_840e7_16 : decode cJ0_getBytes_840e7 16 = .ok (.ishl, 1) := by decide +kernel
theorem dJ0_getBytes_840e7_17 : decode cJ0_getBytes_840e7 17 = .ok (.aload_n 0, 1) := by decide +kernel
theorem dJ0_getBytes_840e7_18 : decode cJ0_getBytes_840e7 18 = .ok (.getfield 9, 3) := by decide +kernel
theorem dJ0_getBytes_840e7_21 : decode cJ0_getBytes_840e7 21 = .ok (.arraylength, 1) := by decide +kernel
theorem dJ0_getBytes_840e7_22 : decode cJ0_getBytes_840e7 22 = .ok (.invokestatic 212, 3) := by decide +kernel
theorem dJ0_getBytes_840e7_25 : decode cJ0_getBytes_840e7 25 = .ok (.goto 18, 3) := by decide +kernel
theorem dJ0_getBytes_840e7_28 : decode cJ0_getBytes_840e7 28 = .ok (.aload_n 0, 1) := by decide +kernel
theorem dJ0_getBytes_840e7_29 : decode cJ0_getBytes_840e7 29 = .ok (.getfield 9, 3) := by decide +kernel
theorem dJ0_getBytes_840e7_32 : decode cJ0_getBytes_840e7 32 = .ok (.iconst 0, 1) := by decide +kernel
theorem dJ0_getBytes_840e7_33 : decode cJ0_getBytes_840e7 33 = .ok (.aload_n 1, 1) := by decide +kernel
theorem dJ0_getBytes_840e7_34 : decode cJ0_getBytes_840e7 34 = .ok (.iload_n 2, 1) := by decide +kernel
theorem dJ0_getBytes_840e7_35 : decode cJ0_getBytes_840e7 35 = .ok (.aload_n 0, 1) := by decide +kernel
theorem dJ0_getBytes_840e7_36 : decode cJ0_getBytes_840e7 36 = .ok (.getfield 9, 3) := by decide +kernel
theorem dJ0_getBytes_840e7_39 : decode cJ0_getBytes_840e7 39 = .ok (.arraylength, 1) := by decide +kernel
theorem dJ0_getBytes_840e7_40 : decode cJ0_getBytes_840e7 40 = .ok (.invokestatic 106, 3) := by decide +kernel
theorem dJ0_getBytes_840e7_43 : decode cJ0_getBytes_840e7 43 = .ok (.return_, 1) := by decide +kernel
theorem dJ0_init_db425_0 : decode cJ0_init_db425 0 = .ok (.aload_n 0, 1) := by decide +kernel
theorem dJ0_init_db425_1 : decode cJ0_init_db425 1 = .ok (.invokespecial 1, 3) := by decide +kernel
theorem dJ0_init_db425_4 : decode cJ0_init_db425 4 = .ok (.aload_n 1, 1) := by decide +kernel
theorem dJ0_init_db425_5 : decode cJ0_init_db425 5 = .ok (.invokevirtual 552, 3) := by decide +kernel
theorem dJ0_init_db425_8 : decode cJ0_init_db425 8 = .ok (.astore_n 3, 1) := by decide +kernel
theorem dJ0_init_db425_9 : decode cJ0_init_db425 9 = .ok (.aload_n 1, 1) := by decide +kernel
theorem dJ0_init_db425_10 : decode cJ0_init_db425 10 = .ok (.invokevirtual 549, 3) := by decide +kernel
theorem dJ0_init_db425_13 : decode cJ0_init_db425 13 = .ok (.istore 4, 2) := by decide +kernel
theorem dJ0_init_db425_15 : decode cJ0_init_db425 15 = .ok (.aload_n 1, 1) := by decide +kernel
theorem dJ0_init_db425_16 : decode cJ0_init_db425 16 = .ok (.invokevirtual 1047, 3) := by decide +kernel
theorem dJ0_init_db425_19 : decode cJ0_init_db425 19 = .ok (.ifCond .eq 22, 3) := by decide +kernel
theorem dJ0_init_db425_22 : decode cJ0_init_db425 22 = .ok (.aload_n 0, 1) := by decide +kernel
theorem dJ0_init_db425_23 : decode cJ0_init_db425 23 = .ok (.iconst 0, 1) := by decide +kernel
theorem dJ0_init_db425_24 : decode cJ0_init_db425 24 = .ok (.putfield 15, 3) := by decide +kernel
theorem dJ0_init_db425_27 : decode cJ0_init_db425 27 = .ok (.aload_n 0, 1) := by decide +kernel
theorem dJ0_init_db425_28 : decode cJ0_init_db425 28 = .ok (.aload_n 3, 1) := by decide +kernel
theorem dJ0_init_db425_29 : decode cJ0_init_db425 29 = .ok (.iconst 0, 1) := by decide +kernel
theorem dJ0_init_db425_30 : decode cJ0_init_db425 30 = .ok (.iload 4, 2) := by decide +kernel
theorem dJ0_init_db425_32 : decode cJ0_init_db425 32 = .ok (.invokestatic 54, 3) := by decide +kernel
theorem dJ0_init_db425_35 : decode cJ0_init_db425 35 = .ok (.putfield 9, 3) := by decide +kernel
theorem dJ0_init_db425_38 : decode cJ0_init_db425 38 = .ok (.goto 59, 3) := by decide +kernel
theorem dJ0_init_db425_41 : decode cJ0_init_db425 41 = .ok (.getstatic 38, 3) := by decide +kernel
theorem dJ0_init_db425_44 : decode cJ0_init_db425 44 = .ok (.ifCond .eq 35, 3) := by decide +kernel
theorem dJ0_init_db425_47 : decode cJ0_init_db425 47 = .ok (.aload_n 1, 1) := by decide +kernel
theorem dJ0_init_db425_48 : decode cJ0_init_db425 48 = .ok (.getfield 1048, 3) := by decide +kernel
theorem dJ0_init_db425_51 : decode cJ0_init_db425 51 = .ok (.ifCond .eq 28, 3) := by decide +kernel
theorem dJ0_init_db425_54 : decode cJ0_init_db425 54 = .ok (.aload_n 0, 1) := by decide +kernel
theorem dJ0_init_db425_55 : decode cJ0_init_db425 55 = .ok (.aload_n 3, 1) := by decide +kernel
theorem dJ0_init_db425_56 : decode cJ0_init_db425 56 = .ok (.iconst 0, 1) := by decide +kernel
theorem dJ0_init_db425_57 : decode cJ0_init_db425 57 = .ok (.iload 4, 2) := by decide +kernel
theorem dJ0_init_db425_59 : decode cJ0_init_db425 59 = .ok (.invokestatic 1051, 3) := by decide +kernel
theorem dJ0_init_db425_62 : decode cJ0_init_db425 62 = .ok (.putfield 9, 3) := by decide +kernel
theorem dJ0_init_db425_65 : decode cJ0_init_db425 65 = .ok (.aload_n 0, 1) := by decide +kernel
theorem dJ0_init_db425_66 : decode cJ0_init_db425 66 = .ok (.aload_n 0, 1) := by decide +kernel
theorem dJ0_init_db425_67 : decode cJ0_init_db425 67 = .ok (.getfield 9, 3) := by decide +kernel
theorem dJ0_init_db425_70 : decode cJ0_init_db425 70 = .ok (.iload 4, 2) := by decide +kernel
theorem dJ0_init_db425_72 : decode cJ0_init_db425 72 = .ok (.invokestatic 47, 3) := by decide +kernel
theorem dJ0_init_db425_75 : decode cJ0_init_db425 75 = .ok (.putfield 15, 3) := by decide +kernel
theorem dJ0_init_db425_78 : decode cJ0_init_db425 78 = .ok (.return_, 1) := by decide +kernel
theorem dJ0_init_db425_79 : decode cJ0_init_db425 79 = .ok (.aload_n 0, 1) := by decide +kernel
theorem dJ0_init_db425_80 : decode cJ0_init_db425 80 = .ok (.iconst 1, 1) := by decide +kernel
theorem dJ0_init_db425_81 : decode cJ0_init_db425 81 = .ok (.putfield 15, 3) := by decide +kernel
theorem dJ0_init_db425_84 : decode cJ0_init_db425 84 = .ok (.aload_n 0, 1) := by decide +kernel
theorem dJ0_init_db425_85 : decode cJ0_init_db425 85 = .ok (.aload_n 3, 1) := by decide +kernel
theorem dJ0_init_db425_86 : decode cJ0_init_db425 86 = .ok (.iconst 0, 1) := by decide +kernel
theorem dJ0_init_db425_87 : decode cJ0_init_db425 87 = .ok (.iload 4, 2) := by decide +kernel
theorem dJ0_init_db425_89 : decode cJ0_init_db425 89 = .ok (.iconst 1, 1) := by decide +kernel
theorem dJ0_init_db425_90 : decode cJ0_init_db425 90 = .ok (.ishl, 1) := by decide +kernel
theorem dJ0_init_db425_91 : decode cJ0_init_db425 91 = .ok (.invokestatic 54, 3) := by decide +kernel
theorem dJ0_init_db425_94 : decode cJ0_init_db425 94 = .ok (.putfield 9, 3) := by decide +kernel
theorem dJ0_init_db425_97 : decode cJ0_init_db425 97 = .ok (.return_, 1) := by decide +kernel
theorem dJ0_coder_7d493_0 : decode cJ0_coder_7d493 0 = .ok (.getstatic 38, 3) := by decide +kernel
theorem dJ0_coder_7d493_3 : decode cJ0_coder_7d493 3 = .ok (.ifCond .eq 10, 3) := by decide +kernel
theorem dJ0_coder_7d493_6 : decode cJ0_coder_7d493 6 = .ok (.aload_n 0, 1) := by decide +kernel
theorem dJ0_coder_7d493_7 : decode cJ0_coder_7d493 7 = .ok (.getfield 15, 3) := by decide +kernel
theorem dJ0_coder_7d493_10 : decode cJ0_coder_7d493 10 = .ok (.goto 4, 3) := by decide +kernel
theorem dJ0_coder_7d493_13 : decode cJ0_coder_7d493 13 = .ok (.iconst 1, 1) := by decide +kernel
theorem dJ0_coder_7d493_14 : decode cJ0_coder_7d493 14 = .ok (.ireturn, 1) := by decide +kernel
theorem dJ0_isLatin1_aae02_0 : decode cJ0_isLatin1_aae02 0 = .ok (.getstatic 38, 3) := by decide +kernel
theorem dJ0_isLatin1_aae02_3 : decode cJ0_isLatin1_aae02 3 = .ok (.ifCond .eq 14, 3) := by decide +kernel
theorem dJ0_isLatin1_aae02_6 : decode cJ0_isLatin1_aae02 6 = .ok (.aload_n 0, 1) := by decide +kernel
theorem dJ0_isLatin1_aae02_7 : decode cJ0_isLatin1_aae02 7 = .ok (.getfield 15, 3) := by decide +kernel
theorem dJ0_isLatin1_aae02_10 : decode cJ0_isLatin1_aae02 10 = .ok (.ifCond .ne 7, 3) := by decide +kernel
theorem dJ0_isLatin1_aae02_13 : decode cJ0_isLatin1_aae02 13 = .ok (.iconst 1, 1) := by decide +kernel
theorem dJ0_isLatin1_aae02_14 : decode cJ0_isLatin1_aae02 14 = .ok (.goto 4, 3) := by decide +kernel
theorem dJ0_isLatin1_aae02_17 : decode cJ0_isLatin1_aae02 17 = .ok (.iconst 0, 1) := by decide +kernel
theorem dJ0_isLatin1_aae02_18 : decode cJ0_isLatin1_aae02 18 = .ok (.ireturn, 1) := by decide +kernel
theorem dJ0_checkIndex_df160_0 : decode cJ0_checkIndex_df160 0 = .ok (.iload_n 0, 1) := by decide +kernel
theorem dJ0_checkIndex_df160_1 : decode cJ0_checkIndex_df160 1 = .ok (.iload_n 1, 1) := by decide +kernel
theorem dJ0_checkIndex_df160_2 : decode cJ0_checkIndex_df160 2 = .ok (.getstatic 1053, 3) := by decide +kernel
theorem dJ0_checkIndex_df160_5 : decode cJ0_checkIndex_df160 5 = .ok (.invokestatic 1059, 3) := by decide +kernel
theorem dJ0_checkIndex_df160_8 : decode cJ0_checkIndex_df160 8 = .ok (.pop, 1) := by decide +kernel
theorem dJ0_checkIndex_df160_9 : decode cJ0_checkIndex_df160 9 = .ok (.return_, 1) := by decide +kernel
theorem dJ0_checkBoundsOffCount_cabcc_0 : decode cJ0_checkBoundsOffCount_cabcc 0 = .ok (.iload_n 0, 1) := by decide +kernel
theorem dJ0_checkBoundsOffCount_cabcc_1 : decode cJ0_checkBoundsOffCount_cabcc 1 = .ok (.iload_n 1, 1) := by decide +kernel
theorem dJ0_checkBoundsOffCount_cabcc_2 : decode cJ0_checkBoundsOffCount_cabcc 2 = .ok (.iload_n 2, 1) := by decide +kernel
theorem dJ0_checkBoundsOffCount_cabcc_3 : decode cJ0_checkBoundsOffCount_cabcc 3 = .ok (.getstatic 1053, 3) := by decide +kernel
theorem dJ0_checkBoundsOffCount_cabcc_6 : decode cJ0_checkBoundsOffCount_cabcc 6 = .ok (.invokestatic 1065, 3) := by decide +kernel
theorem dJ0_checkBoundsOffCount_cabcc_9 : decode cJ0_checkBoundsOffCount_cabcc 9 = .ok (.ireturn, 1) := by decide +kernel
theorem dJ0_checkBoundsBeginEnd_23922_0 : decode cJ0_checkBoundsBeginEnd_23922 0 = .ok (.iload_n 0, 1) := by decide +kernel
theorem dJ0_checkBoundsBeginEnd_23922_1 : decode cJ0_checkBoundsBeginEnd_23922 1 = .ok (.iload_n 1, 1) := by decide +kernel
theorem dJ0_checkBoundsBeginEnd_23922_2 : decode cJ0_checkBoundsBeginEnd_23922 2 = .ok (.iload_n 2, 1) := by decide +kernel
theorem dJ0_checkBoundsBeginEnd_23922_3 : decode cJ0_checkBoundsBeginEnd_23922 3 = .ok (.getstatic 1053, 3) := by decide +kernel
theorem dJ0_checkBoundsBeginEnd_23922_6 : decode cJ0_checkBoundsBeginEnd_23922 6 = .ok (.invokestatic 1062, 3) := by decide +kernel
theorem dJ0_checkBoundsBeginEnd_23922_9 : decode cJ0_checkBoundsBeginEnd_23922 9 = .ok (.pop, 1) := by decide +kernel
theorem dJ0_checkBoundsBeginEnd_23922_10 : decode cJ0_checkBoundsBeginEnd_23922 10 = .ok (.return_, 1) := by decide +kernel
theorem dJ4_init_da8c8_0 : decode cJ4_init_da8c8 0 = .ok (.aload_n 0, 1) := by decide +kernel
theorem dJ4_init_da8c8_1 : decode cJ4_init_da8c8 1 = .ok (.bipush 16, 2) := by decide +kernel
theorem dJ4_init_da8c8_3 : decode cJ4_init_da8c8 3 = .ok (.invokespecial 1, 3) := by decide +kernel
theorem dJ4_init_da8c8_6 : decode cJ4_init_da8c8 6 = .ok (.return_, 1) := by decide +kernel
theorem dJ4_append_15ec4_0 : decode cJ4_append_15ec4 0 = .ok (.aload_n 0, 1) := by decide +kernel
theorem dJ4_append_15ec4_1 : decode cJ4_append_15ec4 1 = .ok (.aload_n 1, 1) := by decide +kernel
theorem dJ4_append_15ec4_2 : decode cJ4_append_15ec4 2 = .ok (.invokespecial 29, 3) := by decide +kernel
theorem dJ4_append_15ec4_5 : decode cJ4_append_15ec4 5 = .ok (.pop, 1) := by decide +kernel
theorem dJ4_append_15ec4_6 : decode cJ4_append_15ec4 6 = .ok (.aload_n 0, 1) := by decide +kernel
theorem dJ4_append_15ec4_7 : decode cJ4_append_15ec4 7 = .ok (.areturn, 1) := by decide +kernel
theorem dJ4_append_bf812_0 : decode cJ4_append_bf812 0 = .ok (.aload_n 0, 1) := by decide +kernel
theorem dJ4_append_bf812_1 : decode cJ4_append_bf812 1 = .ok (.iload_n 1, 1) := by decide +kernel
theorem dJ4_append_bf812_2 : decode cJ4_append_bf812 2 = .ok (.invokespecial 53, 3) := by decide +kernel
theorem dJ4_append_bf812_5 : decode cJ4_append_bf812 5 = .ok (.pop, 1) := by decide +kernel
theorem dJ4_append_bf812_6 : decode cJ4_append_bf812 6 = .ok (.aload_n 0, 1) := by decide +kernel
theorem dJ4_append_bf812_7 : decode cJ4_append_bf812 7 = .ok (.areturn, 1) := by decide +kernel
theorem dJ4_toString_0e30d_0 : decode cJ4_toString_0e30d 0 = .ok (.new 18, 3) := by decide +kernel
theorem dJ4_toString_0e30d_3 : decode cJ4_toString_0e30d 3 = .ok (.dup, 1) := by decide +kernel
theorem dJ4_toString_0e30d_4 : decode cJ4_toString_0e30d 4 = .ok (.aload_n 0, 1) := by decide +kernel
theorem dJ4_toString_0e30d_5 : decode cJ4_toString_0e30d 5 = .ok (.invokespecial 137, 3) := by decide +kernel
theorem dJ4_toString_0e30d_8 : decode cJ4_toString_0e30d 8 = .ok (.areturn, 1) := by decide +kernel
theorem dJ4_length_8abf5_0 : decode cJ4_length_8abf5 0 = .ok (.aload_n 0, 1) := by decide +kernel
theorem dJ4_length_8abf5_1 : decode cJ4_length_8abf5 1 = .ok (.invokespecial 343, 3) := by decide +kernel
theorem dJ4_length_8abf5_4 : decode cJ4_length_8abf5 4 = .ok (.ireturn, 1) := by decide +kernel
theorem dJ1_charAt_3b067_0 : decode cJ1_charAt_3b067 0 = .ok (.iload_n 1, 1) := by decide +kernel
theorem dJ1_charAt_3b067_1 : decode cJ1_charAt_3b067 1 = .ok (.aload_n 0, 1) := by decide +kernel
theorem dJ1_charAt_3b067_2 : decode cJ1_charAt_3b067 2 = .ok (.arraylength, 1) := by decide +kernel
theorem dJ1_charAt_3b067_3 : decode cJ1_charAt_3b067 3 = .ok (.invokestatic 9, 3) := by decide +kernel
theorem dJ1_charAt_3b067_6 : decode cJ1_charAt_3b067 6 = .ok (.aload_n 0, 1) := by decide +kernel
theorem dJ1_charAt_3b067_7 : decode cJ1_charAt_3b067 7 = .ok (.iload_n 1, 1) := by decide +kernel
theorem dJ1_charAt_3b067_8 : decode cJ1_charAt_3b067 8 = .ok (.baload, 1) := by decide +kernel
theorem dJ1_charAt_3b067_9 : decode cJ1_charAt_3b067 9 = .ok (.sipush 255, 3) := by decide +kernel
theorem dJ1_charAt_3b067_12 : decode cJ1_charAt_3b067 12 = .ok (.iand, 1) := by decide +kernel
theorem dJ1_charAt_3b067_13 : decode cJ1_charAt_3b067 13 = .ok (.i2c, 1) := by decide +kernel
theorem dJ1_charAt_3b067_14 : decode cJ1_charAt_3b067 14 = .ok (.ireturn, 1) := by decide +kernel
theorem dJ1_inflate_0e8fd_0 : decode cJ1_inflate_0e8fd 0 = .ok (.aload_n 0, 1) := by decide +kernel
theorem dJ1_inflate_0e8fd_1 : decode cJ1_inflate_0e8fd 1 = .ok (.iload_n 1, 1) := by decide +kernel
theorem dJ1_inflate_0e8fd_2 : decode cJ1_inflate_0e8fd 2 = .ok (.aload_n 2, 1) := by decide +kernel
theorem dJ1_inflate_0e8fd_3 : decode cJ1_inflate_0e8fd 3 = .ok (.iload_n 3, 1) := by decide +kernel
theorem dJ1_inflate_0e8fd_4 : decode cJ1_inflate_0e8fd 4 = .ok (.iload 4, 2) := by decide +kernel
theorem dJ1_inflate_0e8fd_6 : decode cJ1_inflate_0e8fd 6 = .ok (.invokestatic 240, 3) := by decide +kernel
theorem dJ1_inflate_0e8fd_9 : decode cJ1_inflate_0e8fd 9 = .ok (.return_, 1) := by decide +kernel
theorem dJ2_newBytesFor_77867_0 : decode cJ2_newBytesFor_77867 0 = .ok (.iload_n 0, 1) := by decide +kernel
theorem dJ2_newBytesFor_77867_1 : decode cJ2_newBytesFor_77867 1 = .ok (.invokestatic 11, 3) := by decide +kernel
theorem dJ2_newBytesFor_77867_4 : decode cJ2_newBytesFor_77867 4 = .ok (.newarray .byte, 2) := by decide +kernel
theorem dJ2_newBytesFor_77867_6 : decode cJ2_newBytesFor_77867 6 = .ok (.areturn, 1) := by decide +kernel
theorem dJ2_newBytesLength_0f7a4_0 : decode cJ2_newBytesLength_0f7a4 0 = .ok (.iload_n 0, 1) := by decide +kernel
theorem dJ2_newBytesLength_0f7a4_1 : decode cJ2_newBytesLength_0f7a4 1 = .ok (.ifCond .ge 11, 3) := by decide +kernel
theorem dJ2_newBytesLength_0f7a4_4 : decode cJ2_newBytesLength_0f7a4 4 = .ok (.new 17, 3) := by decide +kernel
theorem dJ2_newBytesLength_0f7a4_7 : decode cJ2_newBytesLength_0f7a4 7 = .ok (.dup, 1) := by decide +kernel
theorem dJ2_newBytesLength_0f7a4_8 : decode cJ2_newBytesLength_0f7a4 8 = .ok (.invokespecial 19, 3) := by decide +kernel
theorem dJ2_newBytesLength_0f7a4_11 : decode cJ2_newBytesLength_0f7a4 11 = .ok (.athrow, 1) := by decide +kernel
theorem dJ2_newBytesLength_0f7a4_12 : decode cJ2_newBytesLength_0f7a4 12 = .ok (.iload_n 0, 1) := by decide +kernel
theorem dJ2_newBytesLength_0f7a4_13 : decode cJ2_newBytesLength_0f7a4 13 = .ok (.ldc 20, 2) := by decide +kernel
theorem dJ2_newBytesLength_0f7a4_15 : decode cJ2_newBytesLength_0f7a4 15 = .ok (.if_icmp .lt 40, 3) := by decide +kernel
theorem dJ2_newBytesLength_0f7a4_18 : decode cJ2_newBytesLength_0f7a4 18 = .ok (.new 21, 3) := by decide +kernel
theorem dJ2_newBytesLength_0f7a4_21 : decode cJ2_newBytesLength_0f7a4 21 = .ok (.dup, 1) := by decide +kernel
theorem dJ2_newBytesLength_0f7a4_22 : decode cJ2_newBytesLength_0f7a4 22 = .ok (.new 23, 3) := by decide +kernel
theorem dJ2_newBytesLength_0f7a4_25 : decode cJ2_newBytesLength_0f7a4 25 = .ok (.dup, 1) := by decide +kernel
theorem dJ2_newBytesLength_0f7a4_26 : decode cJ2_newBytesLength_0f7a4 26 = .ok (.invokespecial 25, 3) := by decide +kernel
theorem dJ2_newBytesLength_0f7a4_29 : decode cJ2_newBytesLength_0f7a4 29 = .ok (.ldc 26, 2) := by decide +kernel
theorem dJ2_newBytesLength_0f7a4_31 : decode cJ2_newBytesLength_0f7a4 31 = .ok (.invokevirtual 28, 3) := by decide +kernel
theorem dJ2_newBytesLength_0f7a4_34 : decode cJ2_newBytesLength_0f7a4 34 = .ok (.iload_n 0, 1) := by decide +kernel
theorem dJ2_newBytesLength_0f7a4_35 : decode cJ2_newBytesLength_0f7a4 35 = .ok (.invokevirtual 32, 3) := by decide +kernel
theorem dJ2_newBytesLength_0f7a4_38 : decode cJ2_newBytesLength_0f7a4 38 = .ok (.ldc 35, 2) := by decide +kernel
theorem dJ2_newBytesLength_0f7a4_40 : decode cJ2_newBytesLength_0f7a4 40 = .ok (.invokevirtual 28, 3) := by decide +kernel
theorem dJ2_newBytesLength_0f7a4_43 : decode cJ2_newBytesLength_0f7a4 43 = .ok (.ldc 20, 2) := by decide +kernel
theorem dJ2_newBytesLength_0f7a4_45 : decode cJ2_newBytesLength_0f7a4 45 = .ok (.invokevirtual 32, 3) := by decide +kernel
theorem dJ2_newBytesLength_0f7a4_48 : decode cJ2_newBytesLength_0f7a4 48 = .ok (.invokevirtual 37, 3) := by decide +kernel
theorem dJ2_newBytesLength_0f7a4_51 : decode cJ2_newBytesLength_0f7a4 51 = .ok (.invokespecial 41, 3) := by decide +kernel
theorem dJ2_newBytesLength_0f7a4_54 : decode cJ2_newBytesLength_0f7a4 54 = .ok (.athrow, 1) := by decide +kernel
theorem dJ2_newBytesLength_0f7a4_55 : decode cJ2_newBytesLength_0f7a4 55 = .ok (.iload_n 0, 1) := by decide +kernel
theorem dJ2_newBytesLength_0f7a4_56 : decode cJ2_newBytesLength_0f7a4 56 = .ok (.iconst 1, 1) := by decide +kernel
theorem dJ2_newBytesLength_0f7a4_57 : decode cJ2_newBytesLength_0f7a4 57 = .ok (.ishl, 1) := by decide +kernel
theorem dJ2_newBytesLength_0f7a4_58 : decode cJ2_newBytesLength_0f7a4 58 = .ok (.ireturn, 1) := by decide +kernel
theorem dJ2_putChar_b72d1_0 : decode cJ2_putChar_b72d1 0 = .ok (.getstatic 44, 3) := by decide +kernel
theorem dJ2_putChar_b72d1_3 : decode cJ2_putChar_b72d1 3 = .ok (.ifCond .ne 25, 3) := by decide +kernel
theorem dJ2_putChar_b72d1_6 : decode cJ2_putChar_b72d1 6 = .ok (.iload_n 1, 1) := by decide +kernel
theorem dJ2_putChar_b72d1_7 : decode cJ2_putChar_b72d1 7 = .ok (.ifCond .lt 11, 3) := by decide +kernel
theorem dJ2_putChar_b72d1_10 : decode cJ2_putChar_b72d1 10 = .ok (.iload_n 1, 1) := by decide +kernel
theorem dJ2_putChar_b72d1_11 : decode cJ2_putChar_b72d1 11 = .ok (.aload_n 0, 1) := by decide +kernel
theorem dJ2_putChar_b72d1_12 : decode cJ2_putChar_b72d1 12 = .ok (.invokestatic 48, 3) := by decide +kernel
theorem dJ2_putChar_b72d1_15 : decode cJ2_putChar_b72d1 15 = .ok (.if_icmp .lt 13, 3) := by decide +kernel
theorem dJ2_putChar_b72d1_18 : decode cJ2_putChar_b72d1 18 = .ok (.new 52, 3) := by decide +kernel
theorem dJ2_putChar_b72d1_21 : decode cJ2_putChar_b72d1 21 = .ok (.dup, 1) := by decide +kernel
theorem dJ2_putChar_b72d1_22 : decode cJ2_putChar_b72d1 22 = .ok (.ldc 54, 2) := by decide +kernel
theorem dJ2_putChar_b72d1_24 : decode cJ2_putChar_b72d1 24 = .ok (.invokespecial 56, 3) := by decide +kernel
theorem dJ2_putChar_b72d1_27 : decode cJ2_putChar_b72d1 27 = .ok (.athrow, 1) := by decide +kernel
theorem dJ2_putChar_b72d1_28 : decode cJ2_putChar_b72d1 28 = .ok (.iload_n 1, 1) := by decide +kernel
theorem dJ2_putChar_b72d1_29 : decode cJ2_putChar_b72d1 29 = .ok (.iconst 1, 1) := by decide +kernel
theorem dJ2_putChar_b72d1_30 : decode cJ2_putChar_b72d1 30 = .ok (.ishl, 1) := by decide +kernel
theorem dJ2_putChar_b72d1_31 : decode cJ2_putChar_b72d1 31 = .ok (.istore_n 1, 1) := by decide +kernel
theorem dJ2_putChar_b72d1_32 : decode cJ2_putChar_b72d1 32 = .ok (.aload_n 0, 1) := by decide +kernel
theorem dJ2_putChar_b72d1_33 : decode cJ2_putChar_b72d1 33 = .ok (.iload_n 1, 1) := by decide +kernel
theorem dJ2_putChar_b72d1_34 : decode cJ2_putChar_b72d1 34 = .ok (.iinc 1 1, 3) := by decide +kernel
theorem dJ2_putChar_b72d1_37 : decode cJ2_putChar_b72d1 37 = .ok (.iload_n 2, 1) := by decide +kernel
theorem dJ2_putChar_b72d1_38 : decode cJ2_putChar_b72d1 38 = .ok (.getstatic 59, 3) := by decide +kernel
theorem dJ2_putChar_b72d1_41 : decode cJ2_putChar_b72d1 41 = .ok (.ishr, 1) := by decide +kernel
theorem dJ2_putChar_b72d1_42 : decode cJ2_putChar_b72d1 42 = .ok (.i2b, 1) := by decide +kernel
theorem dJ2_putChar_b72d1_43 : decode cJ2_putChar_b72d1 43 = .ok (.bastore, 1) := by decide +kernel
theorem dJ2_putChar_b72d1_44 : decode cJ2_putChar_b72d1 44 = .ok (.aload_n 0, 1) := by decide +kernel
theorem dJ2_putChar_b72d1_45 : decode cJ2_putChar_b72d1 45 = .ok (.iload_n 1, 1) := by decide +kernel
theorem dJ2_putChar_b72d1_46 : decode cJ2_putChar_b72d1 46 = .ok (.iload_n 2, 1) := by decide +kernel
theorem dJ2_putChar_b72d1_47 : decode cJ2_putChar_b72d1 47 = .ok (.getstatic 63, 3) := by decide +kernel
theorem dJ2_putChar_b72d1_50 : decode cJ2_putChar_b72d1 50 = .ok (.ishr, 1) := by decide +kernel
theorem dJ2_putChar_b72d1_51 : decode cJ2_putChar_b72d1 51 = .ok (.i2b, 1) := by decide +kernel
theorem dJ2_putChar_b72d1_52 : decode cJ2_putChar_b72d1 52 = .ok (.bastore, 1) := by decide +kernel
theorem dJ2_putChar_b72d1_53 : decode cJ2_putChar_b72d1 53 = .ok (.return_, 1) := by decide +kernel
theorem dJ2_getChar_3b067_0 : decode cJ2_getChar_3b067 0 = .ok (.getstatic 44, 3) := by decide +kernel
theorem dJ2_getChar_3b067_3 : decode cJ2_getChar_3b067 3 = .ok (.ifCond .ne 25, 3) := by decide +kernel
theorem dJ2_getChar_3b067_6 : decode cJ2_getChar_3b067 6 = .ok (.iload_n 1, 1) := by decide +kernel
theorem dJ2_getChar_3b067_7 : decode cJ2_getChar_3b067 7 = .ok (.ifCond .lt 11, 3) := by decide +kernel
theorem dJ2_getChar_3b067_10 : decode cJ2_getChar_3b067 10 = .ok (.iload_n 1, 1) := by decide +kernel
theorem dJ2_getChar_3b067_11 : decode cJ2_getChar_3b067 11 = .ok (.aload_n 0, 1) := by decide +kernel
theorem dJ2_getChar_3b067_12 : decode cJ2_getChar_3b067 12 = .ok (.invokestatic 48, 3) := by decide +kernel
theorem dJ2_getChar_3b067_15 : decode cJ2_getChar_3b067 15 = .ok (.if_icmp .lt 13, 3) := by decide +kernel
theorem dJ2_getChar_3b067_18 : decode cJ2_getChar_3b067 18 = .ok (.new 52, 3) := by decide +kernel
theorem dJ2_getChar_3b067_21 : decode cJ2_getChar_3b067 21 = .ok (.dup, 1) := by decide +kernel
theorem dJ2_getChar_3b067_22 : decode cJ2_getChar_3b067 22 = .ok (.ldc 54, 2) := by decide +kernel
theorem dJ2_getChar_3b067_24 : decode cJ2_getChar_3b067 24 = .ok (.invokespecial 56, 3) := by decide +kernel
theorem dJ2_getChar_3b067_27 : decode cJ2_getChar_3b067 27 = .ok (.athrow, 1) := by decide +kernel
theorem dJ2_getChar_3b067_28 : decode cJ2_getChar_3b067 28 = .ok (.iload_n 1, 1) := by decide +kernel
theorem dJ2_getChar_3b067_29 : decode cJ2_getChar_3b067 29 = .ok (.iconst 1, 1) := by decide +kernel
theorem dJ2_getChar_3b067_30 : decode cJ2_getChar_3b067 30 = .ok (.ishl, 1) := by decide +kernel
theorem dJ2_getChar_3b067_31 : decode cJ2_getChar_3b067 31 = .ok (.istore_n 1, 1) := by decide +kernel
theorem dJ2_getChar_3b067_32 : decode cJ2_getChar_3b067 32 = .ok (.aload_n 0, 1) := by decide +kernel
theorem dJ2_getChar_3b067_33 : decode cJ2_getChar_3b067 33 = .ok (.iload_n 1, 1) := by decide +kernel
theorem dJ2_getChar_3b067_34 : decode cJ2_getChar_3b067 34 = .ok (.iinc 1 1, 3) := by decide +kernel
theorem dJ2_getChar_3b067_37 : decode cJ2_getChar_3b067 37 = .ok (.baload, 1) := by decide +kernel
theorem dJ2_getChar_3b067_38 : decode cJ2_getChar_3b067 38 = .ok (.sipush 255, 3) := by decide +kernel
theorem dJ2_getChar_3b067_41 : decode cJ2_getChar_3b067 41 = .ok (.iand, 1) := by decide +kernel
theorem dJ2_getChar_3b067_42 : decode cJ2_getChar_3b067 42 = .ok (.getstatic 59, 3) := by decide +kernel
theorem dJ2_getChar_3b067_45 : decode cJ2_getChar_3b067 45 = .ok (.ishl, 1) := by decide +kernel
theorem dJ2_getChar_3b067_46 : decode cJ2_getChar_3b067 46 = .ok (.aload_n 0, 1) := by decide +kernel
theorem dJ2_getChar_3b067_47 : decode cJ2_getChar_3b067 47 = .ok (.iload_n 1, 1) := by decide +kernel
theorem dJ2_getChar_3b067_48 : decode cJ2_getChar_3b067 48 = .ok (.baload, 1) := by decide +kernel
theorem dJ2_getChar_3b067_49 : decode cJ2_getChar_3b067 49 = .ok (.sipush 255, 3) := by decide +kernel
theorem dJ2_getChar_3b067_52 : decode cJ2_getChar_3b067 52 = .ok (.iand, 1) := by decide +kernel
theorem dJ2_getChar_3b067_53 : decode cJ2_getChar_3b067 53 = .ok (.getstatic 63, 3) := by decide +kernel
theorem dJ2_getChar_3b067_56 : decode cJ2_getChar_3b067 56 = .ok (.ishl, 1) := by decide +kernel
theorem dJ2_getChar_3b067_57 : decode cJ2_getChar_3b067 57 = .ok (.ior, 1) := by decide +kernel
theorem dJ2_getChar_3b067_58 : decode cJ2_getChar_3b067 58 = .ok (.i2c, 1) := by decide +kernel
theorem dJ2_getChar_3b067_59 : decode cJ2_getChar_3b067 59 = .ok (.ireturn, 1) := by decide +kernel
theorem dJ2_length_9d52b_0 : decode cJ2_length_9d52b 0 = .ok (.aload_n 0, 1) := by decide +kernel
theorem dJ2_length_9d52b_1 : decode cJ2_length_9d52b 1 = .ok (.arraylength, 1) := by decide +kernel
theorem dJ2_length_9d52b_2 : decode cJ2_length_9d52b 2 = .ok (.iconst 1, 1) := by decide +kernel
theorem dJ2_length_9d52b_3 : decode cJ2_length_9d52b 3 = .ok (.ishr, 1) := by decide +kernel
theorem dJ2_length_9d52b_4 : decode cJ2_length_9d52b 4 = .ok (.ireturn, 1) := by decide +kernel
theorem dJ2_coderFromArrayLen_85cad_0 : decode cJ2_coderFromArrayLen_85cad 0 = .ok (.iload_n 1, 1) := by decide +kernel
theorem dJ2_coderFromArrayLen_85cad_1 : decode cJ2_coderFromArrayLen_85cad 1 = .ok (.aload_n 0, 1) := by decide +kernel
theorem dJ2_coderFromArrayLen_85cad_2 : decode cJ2_coderFromArrayLen_85cad 2 = .ok (.arraylength, 1) := by decide +kernel
theorem dJ2_coderFromArrayLen_85cad_3 : decode cJ2_coderFromArrayLen_85cad 3 = .ok (.isub, 1) := by decide +kernel
theorem dJ2_coderFromArrayLen_85cad_4 : decode cJ2_coderFromArrayLen_85cad 4 = .ok (.bipush 31, 2) := by decide +kernel
theorem dJ2_coderFromArrayLen_85cad_6 : decode cJ2_coderFromArrayLen_85cad 6 = .ok (.iushr, 1) := by decide +kernel
theorem dJ2_coderFromArrayLen_85cad_7 : decode cJ2_coderFromArrayLen_85cad 7 = .ok (.i2b, 1) := by decide +kernel
theorem dJ2_coderFromArrayLen_85cad_8 : decode cJ2_coderFromArrayLen_85cad 8 = .ok (.ireturn, 1) := by decide +kernel
theorem dJ2_compress_39247_0 : decode cJ2_compress_39247 0 = .ok (.iload_n 2, 1) := by decide +kernel
theorem dJ2_compress_39247_1 : decode cJ2_compress_39247 1 = .ok (.newarray .byte, 2) := by decide +kernel
theorem dJ2_compress_39247_3 : decode cJ2_compress_39247 3 = .ok (.astore_n 3, 1) := by decide +kernel
theorem dJ2_compress_39247_4 : decode cJ2_compress_39247 4 = .ok (.aload_n 0, 1) := by decide +kernel
theorem dJ2_compress_39247_5 : decode cJ2_compress_39247 5 = .ok (.iload_n 1, 1) := by decide +kernel
theorem dJ2_compress_39247_6 : decode cJ2_compress_39247 6 = .ok (.aload_n 3, 1) := by decide +kernel
theorem dJ2_compress_39247_7 : decode cJ2_compress_39247 7 = .ok (.iconst 0, 1) := by decide +kernel
theorem dJ2_compress_39247_8 : decode cJ2_compress_39247 8 = .ok (.iload_n 2, 1) := by decide +kernel
theorem dJ2_compress_39247_9 : decode cJ2_compress_39247 9 = .ok (.invokestatic 123, 3) := by decide +kernel
theorem dJ2_compress_39247_12 : decode cJ2_compress_39247 12 = .ok (.istore 4, 2) := by decide +kernel
theorem dJ2_compress_39247_14 : decode cJ2_compress_39247 14 = .ok (.iload 4, 2) := by decide +kernel
theorem dJ2_compress_39247_16 : decode cJ2_compress_39247 16 = .ok (.iload_n 2, 1) := by decide +kernel
theorem dJ2_compress_39247_17 : decode cJ2_compress_39247 17 = .ok (.if_icmp .eq 47, 3) := by decide +kernel
theorem dJ2_compress_39247_20 : decode cJ2_compress_39247 20 = .ok (.aload_n 0, 1) := by decide +kernel
theorem dJ2_compress_39247_21 : decode cJ2_compress_39247 21 = .ok (.iload_n 1, 1) := by decide +kernel
theorem dJ2_compress_39247_22 : decode cJ2_compress_39247 22 = .ok (.iconst 1, 1) := by decide +kernel
theorem dJ2_compress_39247_23 : decode cJ2_compress_39247 23 = .ok (.ishl, 1) := by decide +kernel
theorem dJ2_compress_39247_24 : decode cJ2_compress_39247 24 = .ok (.iload_n 1, 1) := by decide +kernel
theorem dJ2_compress_39247_25 : decode cJ2_compress_39247 25 = .ok (.iload_n 2, 1) := by decide +kernel
theorem dJ2_compress_39247_26 : decode cJ2_compress_39247 26 = .ok (.iadd, 1) := by decide +kernel
theorem dJ2_compress_39247_27 : decode cJ2_compress_39247 27 = .ok (.invokestatic 11, 3) := by decide +kernel
theorem dJ2_compress_39247_30 : decode cJ2_compress_39247 30 = .ok (.invokestatic 126, 3) := by decide +kernel
theorem dJ2_compress_39247_33 : decode cJ2_compress_39247 33 = .ok (.astore 5, 2) := by decide +kernel
theorem dJ2_compress_39247_35 : decode cJ2_compress_39247 35 = .ok (.aload 5, 2) := by decide +kernel
theorem dJ2_compress_39247_37 : decode cJ2_compress_39247 37 = .ok (.iload 4, 2) := by decide +kernel
theorem dJ2_compress_39247_39 : decode cJ2_compress_39247 39 = .ok (.invokestatic 71, 3) := by decide +kernel
theorem dJ2_compress_39247_42 : decode cJ2_compress_39247 42 = .ok (.sipush 255, 3) := by decide +kernel
theorem dJ2_compress_39247_45 : decode cJ2_compress_39247 45 = .ok (.if_icmp .gt 16, 3) := by decide +kernel
theorem dJ2_compress_39247_48 : decode cJ2_compress_39247 48 = .ok (.aload 5, 2) := by decide +kernel
theorem dJ2_compress_39247_50 : decode cJ2_compress_39247 50 = .ok (.iconst 0, 1) := by decide +kernel
theorem dJ2_compress_39247_51 : decode cJ2_compress_39247 51 = .ok (.aload_n 3, 1) := by decide +kernel
theorem dJ2_compress_39247_52 : decode cJ2_compress_39247 52 = .ok (.iconst 0, 1) := by decide +kernel
theorem dJ2_compress_39247_53 : decode cJ2_compress_39247 53 = .ok (.iload_n 2, 1) := by decide +kernel
theorem dJ2_compress_39247_54 : decode cJ2_compress_39247 54 = .ok (.invokestatic 123, 3) := by decide +kernel
theorem dJ2_compress_39247_57 : decode cJ2_compress_39247 57 = .ok (.iload_n 2, 1) := by decide +kernel
theorem dJ2_compress_39247_58 : decode cJ2_compress_39247 58 = .ok (.if_icmp .eq 6, 3) := by decide +kernel
theorem dJ2_compress_39247_61 : decode cJ2_compress_39247 61 = .ok (.aload 5, 2) := by decide +kernel
theorem dJ2_compress_39247_63 : decode cJ2_compress_39247 63 = .ok (.areturn, 1) := by decide +kernel
theorem dJ2_compress_39247_64 : decode cJ2_compress_39247 64 = .ok (.aload_n 3, 1) := by decide +kernel
theorem dJ2_compress_39247_65 : decode cJ2_compress_39247 65 = .ok (.areturn, 1) := by decide +kernel
theorem dJ2_compress_5af95_0 : decode cJ2_compress_5af95 0 = .ok (.iload_n 1, 1) := by decide +kernel
theorem dJ2_compress_5af95_1 : decode cJ2_compress_5af95 1 = .ok (.iload 4, 2) := by decide +kernel
theorem dJ2_compress_5af95_3 : decode cJ2_compress_5af95 3 = .ok (.aload_n 0, 1) := by decide +kernel
theorem dJ2_compress_5af95_4 : decode cJ2_compress_5af95 4 = .ok (.invokestatic 173, 3) := by decide +kernel
theorem dJ2_compress_5af95_7 : decode cJ2_compress_5af95 7 = .ok (.iconst 0, 1) := by decide +kernel
theorem dJ2_compress_5af95_8 : decode cJ2_compress_5af95 8 = .ok (.istore 5, 2) := by decide +kernel
theorem dJ2_compress_5af95_10 : decode cJ2_compress_5af95 10 = .ok (.iload 5, 2) := by decide +kernel
theorem dJ2_compress_5af95_12 : decode cJ2_compress_5af95 12 = .ok (.iload 4, 2) := by decide +kernel
theorem dJ2_compress_5af95_14 : decode cJ2_compress_5af95 14 = .ok (.if_icmp .ge 39, 3) := by decide +kernel
theorem dJ2_compress_5af95_17 : decode cJ2_compress_5af95 17 = .ok (.aload_n 0, 1) := by decide +kernel
theorem dJ2_compress_5af95_18 : decode cJ2_compress_5af95 18 = .ok (.iload_n 1, 1) := by decide +kernel
theorem dJ2_compress_5af95_19 : decode cJ2_compress_5af95 19 = .ok (.invokestatic 71, 3) := by decide +kernel
theorem dJ2_compress_5af95_22 : decode cJ2_compress_5af95 22 = .ok (.istore 6, 2) := by decide +kernel
theorem dJ2_compress_5af95_24 : decode cJ2_compress_5af95 24 = .ok (.iload 6, 2) := by decide +kernel
theorem dJ2_compress_5af95_26 : decode cJ2_compress_5af95 26 = .ok (.sipush 255, 3) := by decide +kernel
theorem dJ2_compress_5af95_29 : decode cJ2_compress_5af95 29 = .ok (.if_icmp .le 6, 3) := by decide +kernel
theorem dJ2_compress_5af95_32 : decode cJ2_compress_5af95 32 = .ok (.iload 5, 2) := by decide +kernel
theorem dJ2_compress_5af95_34 : decode cJ2_compress_5af95 34 = .ok (.ireturn, 1) := by decide +kernel
theorem dJ2_compress_5af95_35 : decode cJ2_compress_5af95 35 = .ok (.aload_n 2, 1) := by decide +kernel
theorem dJ2_compress_5af95_36 : decode cJ2_compress_5af95 36 = .ok (.iload_n 3, 1) := by decide +kernel
theorem dJ2_compress_5af95_37 : decode cJ2_compress_5af95 37 = .ok (.iload 6, 2) := by decide +kernel
theorem dJ2_compress_5af95_39 : decode cJ2_compress_5af95 39 = .ok (.i2b, 1) := by decide +kernel
theorem dJ2_compress_5af95_40 : decode cJ2_compress_5af95 40 = .ok (.bastore, 1) := by decide +kernel
theorem dJ2_compress_5af95_41 : decode cJ2_compress_5af95 41 = .ok (.iinc 1 1, 3) := by decide +kernel
theorem dJ2_compress_5af95_44 : decode cJ2_compress_5af95 44 = .ok (.iinc 3 1, 3) := by decide +kernel
theorem dJ2_compress_5af95_47 : decode cJ2_compress_5af95 47 = .ok (.iinc 5 1, 3) := by decide +kernel
theorem dJ2_compress_5af95_50 : decode cJ2_compress_5af95 50 = .ok (.goto (-40), 3) := by decide +kernel
theorem dJ2_compress_5af95_53 : decode cJ2_compress_5af95 53 = .ok (.iload 4, 2) := by decide +kernel
theorem dJ2_compress_5af95_55 : decode cJ2_compress_5af95 55 = .ok (.ireturn, 1) := by decide +kernel
theorem dJ2_getChars_46870_0 : decode cJ2_getChars_46870 0 = .ok (.iload_n 1, 1) := by decide +kernel
theorem dJ2_getChars_46870_1 : decode cJ2_getChars_46870 1 = .ok (.iload_n 2, 1) := by decide +kernel
theorem dJ2_getChars_46870_2 : decode cJ2_getChars_46870 2 = .ok (.aload_n 3, 1) := by decide +kernel
theorem dJ2_getChars_46870_3 : decode cJ2_getChars_46870 3 = .ok (.invokestatic 96, 3) := by decide +kernel
theorem dJ2_getChars_46870_6 : decode cJ2_getChars_46870 6 = .ok (.iload_n 0, 1) := by decide +kernel
theorem dJ2_getChars_46870_7 : decode cJ2_getChars_46870 7 = .ok (.iload_n 2, 1) := by decide +kernel
theorem dJ2_getChars_46870_8 : decode cJ2_getChars_46870 8 = .ok (.aload_n 3, 1) := by decide +kernel
theorem dJ2_getChars_46870_9 : decode cJ2_getChars_46870 9 = .ok (.invokestatic 393, 3) := by decide +kernel
theorem dJ2_getChars_46870_12 : decode cJ2_getChars_46870 12 = .ok (.istore 4, 2) := by decide +kernel
theorem dJ2_getChars_46870_14 : decode cJ2_getChars_46870 14 = .ok (.getstatic 44, 3) := by decide +kernel
theorem dJ2_getChars_46870_17 : decode cJ2_getChars_46870 17 = .ok (.ifCond .ne 17, 3) := by decide +kernel
theorem dJ2_getChars_46870_20 : decode cJ2_getChars_46870 20 = .ok (.iload_n 1, 1) := by decide +kernel
theorem dJ2_getChars_46870_21 : decode cJ2_getChars_46870 21 = .ok (.iload 4, 2) := by decide +kernel
theorem dJ2_getChars_46870_23 : decode cJ2_getChars_46870 23 = .ok (.if_icmp .eq 11, 3) := by decide +kernel
theorem dJ2_getChars_46870_26 : decode cJ2_getChars_46870 26 = .ok (.new 52, 3) := by decide +kernel
theorem dJ2_getChars_46870_29 : decode cJ2_getChars_46870 29 = .ok (.dup, 1) := by decide +kernel
theorem dJ2_getChars_46870_30 : decode cJ2_getChars_46870 30 = .ok (.invokespecial 66, 3) := by decide +kernel
theorem dJ2_getChars_46870_33 : decode cJ2_getChars_46870 33 = .ok (.athrow, 1) := by decide +kernel
theorem dJ2_getChars_46870_34 : decode cJ2_getChars_46870 34 = .ok (.iload 4, 2) := by decide +kernel
theorem dJ2_getChars_46870_36 : decode cJ2_getChars_46870 36 = .ok (.ireturn, 1) := by decide +kernel
theorem dJ2_putCharsAt_cd4e5_0 : decode cJ2_putCharsAt_cd4e5 0 = .ok (.iload_n 1, 1) := by decide +kernel
theorem dJ2_putCharsAt_cd4e5_1 : decode cJ2_putCharsAt_cd4e5 1 = .ok (.iconst 4, 1) := by decide +kernel
theorem dJ2_putCharsAt_cd4e5_2 : decode cJ2_putCharsAt_cd4e5 2 = .ok (.iadd, 1) := by decide +kernel
theorem dJ2_putCharsAt_cd4e5_3 : decode cJ2_putCharsAt_cd4e5 3 = .ok (.istore 6, 2) := by decide +kernel
theorem dJ2_putCharsAt_cd4e5_5 : decode cJ2_putCharsAt_cd4e5 5 = .ok (.iload_n 1, 1) := by decide +kernel
theorem dJ2_putCharsAt_cd4e5_6 : decode cJ2_putCharsAt_cd4e5 6 = .ok (.iload 6, 2) := by decide +kernel
theorem dJ2_putCharsAt_cd4e5_8 : decode cJ2_putCharsAt_cd4e5 8 = .ok (.aload_n 0, 1) := by decide +kernel
theorem dJ2_putCharsAt_cd4e5_9 : decode cJ2_putCharsAt_cd4e5 9 = .ok (.invokestatic 96, 3) := by decide +kernel
theorem dJ2_putCharsAt_cd4e5_12 : decode cJ2_putCharsAt_cd4e5 12 = .ok (.aload_n 0, 1) := by decide +kernel
theorem dJ2_putCharsAt_cd4e5_13 : decode cJ2_putCharsAt_cd4e5 13 = .ok (.iload_n 1, 1) := by decide +kernel
theorem dJ2_putCharsAt_cd4e5_14 : decode cJ2_putCharsAt_cd4e5 14 = .ok (.iinc 1 1, 3) := by decide +kernel
theorem dJ2_putCharsAt_cd4e5_17 : decode cJ2_putCharsAt_cd4e5 17 = .ok (.iload_n 2, 1) := by decide +kernel
theorem dJ2_putCharsAt_cd4e5_18 : decode cJ2_putCharsAt_cd4e5 18 = .ok (.invokestatic 111, 3) := by decide +kernel
theorem dJ2_putCharsAt_cd4e5_21 : decode cJ2_putCharsAt_cd4e5 21 = .ok (.aload_n 0, 1) := by decide +kernel
theorem dJ2_putCharsAt_cd4e5_22 : decode cJ2_putCharsAt_cd4e5 22 = .ok (.iload_n 1, 1) := by decide +kernel
theorem dJ2_putCharsAt_cd4e5_23 : decode cJ2_putCharsAt_cd4e5 23 = .ok (.iinc 1 1, 3) := by decide +kernel
theorem dJ2_putCharsAt_cd4e5_26 : decode cJ2_putCharsAt_cd4e5 26 = .ok (.iload_n 3, 1) := by decide +kernel
theorem dJ2_putCharsAt_cd4e5_27 : decode cJ2_putCharsAt_cd4e5 27 = .ok (.invokestatic 111, 3) := by decide +kernel
theorem dJ2_putCharsAt_cd4e5_30 : decode cJ2_putCharsAt_cd4e5 30 = .ok (.aload_n 0, 1) := by decide +kernel
theorem dJ2_putCharsAt_cd4e5_31 : decode cJ2_putCharsAt_cd4e5 31 = .ok (.iload_n 1, 1) := by decide +kernel
theorem dJ2_putCharsAt_cd4e5_32 : decode cJ2_putCharsAt_cd4e5 32 = .ok (.iinc 1 1, 3) := by decide +kernel
theorem dJ2_putCharsAt_cd4e5_35 : decode cJ2_putCharsAt_cd4e5 35 = .ok (.iload 4, 2) := by decide +kernel
theorem dJ2_putCharsAt_cd4e5_37 : decode cJ2_putCharsAt_cd4e5 37 = .ok (.invokestatic 111, 3) := by decide +kernel
theorem dJ2_putCharsAt_cd4e5_40 : decode cJ2_putCharsAt_cd4e5 40 = .ok (.aload_n 0, 1) := by decide +kernel
theorem dJ2_putCharsAt_cd4e5_41 : decode cJ2_putCharsAt_cd4e5 41 = .ok (.iload_n 1, 1) := by decide +kernel
theorem dJ2_putCharsAt_cd4e5_42 : decode cJ2_putCharsAt_cd4e5 42 = .ok (.iinc 1 1, 3) := by decide +kernel
theorem dJ2_putCharsAt_cd4e5_45 : decode cJ2_putCharsAt_cd4e5 45 = .ok (.iload 5, 2) := by decide +kernel
theorem dJ2_putCharsAt_cd4e5_47 : decode cJ2_putCharsAt_cd4e5 47 = .ok (.invokestatic 111, 3) := by decide +kernel
theorem dJ2_putCharsAt_cd4e5_50 : decode cJ2_putCharsAt_cd4e5 50 = .ok (.getstatic 44, 3) := by decide +kernel
theorem dJ2_putCharsAt_cd4e5_53 : decode cJ2_putCharsAt_cd4e5 53 = .ok (.ifCond .ne 17, 3) := by decide +kernel
theorem dJ2_putCharsAt_cd4e5_56 : decode cJ2_putCharsAt_cd4e5 56 = .ok (.iload_n 1, 1) := by decide +kernel
theorem dJ2_putCharsAt_cd4e5_57 : decode cJ2_putCharsAt_cd4e5 57 = .ok (.iload 6, 2) := by decide +kernel
theorem dJ2_putCharsAt_cd4e5_59 : decode cJ2_putCharsAt_cd4e5 59 = .ok (.if_icmp .eq 11, 3) := by decide +kernel
theorem dJ2_putCharsAt_cd4e5_62 : decode cJ2_putCharsAt_cd4e5 62 = .ok (.new 52, 3) := by decide +kernel
theorem dJ2_putCharsAt_cd4e5_65 : decode cJ2_putCharsAt_cd4e5 65 = .ok (.dup, 1) := by decide +kernel
theorem dJ2_putCharsAt_cd4e5_66 : decode cJ2_putCharsAt_cd4e5 66 = .ok (.invokespecial 66, 3) := by decide +kernel
theorem dJ2_putCharsAt_cd4e5_69 : decode cJ2_putCharsAt_cd4e5 69 = .ok (.athrow, 1) := by decide +kernel
theorem dJ2_putCharsAt_cd4e5_70 : decode cJ2_putCharsAt_cd4e5 70 = .ok (.iload 6, 2) := by decide +kernel
theorem dJ2_putCharsAt_cd4e5_72 : decode cJ2_putCharsAt_cd4e5 72 = .ok (.ireturn, 1) := by decide +kernel
theorem dJ2_charAt_3b067_0 : decode cJ2_charAt_3b067 0 = .ok (.iload_n 1, 1) := by decide +kernel
theorem dJ2_charAt_3b067_1 : decode cJ2_charAt_3b067 1 = .ok (.aload_n 0, 1) := by decide +kernel
theorem dJ2_charAt_3b067_2 : decode cJ2_charAt_3b067 2 = .ok (.invokestatic 67, 3) := by decide +kernel
theorem dJ2_charAt_3b067_5 : decode cJ2_charAt_3b067 5 = .ok (.aload_n 0, 1) := by decide +kernel
theorem dJ2_charAt_3b067_6 : decode cJ2_charAt_3b067 6 = .ok (.iload_n 1, 1) := by decide +kernel
theorem dJ2_charAt_3b067_7 : decode cJ2_charAt_3b067 7 = .ok (.invokestatic 71, 3) := by decide +kernel
theorem dJ2_charAt_3b067_10 : decode cJ2_charAt_3b067 10 = .ok (.ireturn, 1) := by decide +kernel
theorem dJ2_inflate_0e8fd_0 : decode cJ2_inflate_0e8fd 0 = .ok (.iload_n 3, 1) := by decide +kernel
theorem dJ2_inflate_0e8fd_1 : decode cJ2_inflate_0e8fd 1 = .ok (.iload 4, 2) := by decide +kernel
theorem dJ2_inflate_0e8fd_3 : decode cJ2_inflate_0e8fd 3 = .ok (.aload_n 2, 1) := by decide +kernel
theorem dJ2_inflate_0e8fd_4 : decode cJ2_inflate_0e8fd 4 = .ok (.invokestatic 173, 3) := by decide +kernel
theorem dJ2_inflate_0e8fd_7 : decode cJ2_inflate_0e8fd 7 = .ok (.iconst 0, 1) := by decide +kernel
theorem dJ2_inflate_0e8fd_8 : decode cJ2_inflate_0e8fd 8 = .ok (.istore 5, 2) := by decide +kernel
theorem dJ2_inflate_0e8fd_10 : decode cJ2_inflate_0e8fd 10 = .ok (.iload 5, 2) := by decide +kernel
theorem dJ2_inflate_0e8fd_12 : decode cJ2_inflate_0e8fd 12 = .ok (.iload 4, 2) := by decide +kernel
theorem dJ2_inflate_0e8fd_14 : decode cJ2_inflate_0e8fd 14 = .ok (.if_icmp .ge 27, 3) := by decide +kernel
theorem dJ2_inflate_0e8fd_17 : decode cJ2_inflate_0e8fd 17 = .ok (.aload_n 2, 1) := by decide +kernel
theorem dJ2_inflate_0e8fd_18 : decode cJ2_inflate_0e8fd 18 = .ok (.iload_n 3, 1) := by decide +kernel
theorem dJ2_inflate_0e8fd_19 : decode cJ2_inflate_0e8fd 19 = .ok (.iinc 3 1, 3) := by decide +kernel
theorem dJ2_inflate_0e8fd_22 : decode cJ2_inflate_0e8fd 22 = .ok (.aload_n 0, 1) := by decide +kernel
theorem dJ2_inflate_0e8fd_23 : decode cJ2_inflate_0e8fd 23 = .ok (.iload_n 1, 1) := by decide +kernel
theorem dJ2_inflate_0e8fd_24 : decode cJ2_inflate_0e8fd 24 = .ok (.iinc 1 1, 3) := by decide +kernel
theorem dJ2_inflate_0e8fd_27 : decode cJ2_inflate_0e8fd 27 = .ok (.baload, 1) := by decide +kernel
theorem dJ2_inflate_0e8fd_28 : decode cJ2_inflate_0e8fd 28 = .ok (.sipush 255, 3) := by decide +kernel
theorem dJ2_inflate_0e8fd_31 : decode cJ2_inflate_0e8fd 31 = .ok (.iand, 1) := by decide +kernel
theorem dJ2_inflate_0e8fd_32 : decode cJ2_inflate_0e8fd 32 = .ok (.invokestatic 111, 3) := by decide +kernel
theorem dJ2_inflate_0e8fd_35 : decode cJ2_inflate_0e8fd 35 = .ok (.iinc 5 1, 3) := by decide +kernel
theorem dJ2_inflate_0e8fd_38 : decode cJ2_inflate_0e8fd 38 = .ok (.goto (-28), 3) := by decide +kernel
theorem dJ2_inflate_0e8fd_41 : decode cJ2_inflate_0e8fd 41 = .ok (.return_, 1) := by decide +kernel
theorem dJ2_getChars_ba4f3_0 : decode cJ2_getChars_ba4f3 0 = .ok (.iload_n 1, 1) := by decide +kernel
theorem dJ2_getChars_ba4f3_1 : decode cJ2_getChars_ba4f3 1 = .ok (.istore 5, 2) := by decide +kernel
theorem dJ2_getChars_ba4f3_3 : decode cJ2_getChars_ba4f3 3 = .ok (.iload_n 0, 1) := by decide +kernel
theorem dJ2_getChars_ba4f3_4 : decode cJ2_getChars_ba4f3 4 = .ok (.ifCond .ge 7, 3) := by decide +kernel
theorem dJ2_getChars_ba4f3_7 : decode cJ2_getChars_ba4f3 7 = .ok (.iconst 1, 1) := by decide +kernel
theorem dJ2_getChars_ba4f3_8 : decode cJ2_getChars_ba4f3 8 = .ok (.goto 4, 3) := by decide +kernel
theorem dJ2_getChars_ba4f3_11 : decode cJ2_getChars_ba4f3 11 = .ok (.iconst 0, 1) := by decide +kernel
theorem dJ2_getChars_ba4f3_12 : decode cJ2_getChars_ba4f3 12 = .ok (.istore 6, 2) := by decide +kernel
theorem dJ2_getChars_ba4f3_14 : decode cJ2_getChars_ba4f3 14 = .ok (.iload 6, 2) := by decide +kernel
theorem dJ2_getChars_ba4f3_16 : decode cJ2_getChars_ba4f3 16 = .ok (.ifCond .ne 6, 3) := by decide +kernel
theorem dJ2_getChars_ba4f3_19 : decode cJ2_getChars_ba4f3 19 = .ok (.iload_n 0, 1) := by decide +kernel
theorem dJ2_getChars_ba4f3_20 : decode cJ2_getChars_ba4f3 20 = .ok (.ineg, 1) := by decide +kernel
theorem dJ2_getChars_ba4f3_21 : decode cJ2_getChars_ba4f3 21 = .ok (.istore_n 0, 1) := by decide +kernel
theorem dJ2_getChars_ba4f3_22 : decode cJ2_getChars_ba4f3 22 = .ok (.iload_n 0, 1) := by decide +kernel
theorem dJ2_getChars_ba4f3_23 : decode cJ2_getChars_ba4f3 23 = .ok (.bipush (-100), 2) := by decide +kernel
theorem dJ2_getChars_ba4f3_25 : decode cJ2_getChars_ba4f3 25 = .ok (.if_icmp .gt 51, 3) := by decide +kernel
theorem dJ2_getChars_ba4f3_28 : decode cJ2_getChars_ba4f3 28 = .ok (.iload_n 0, 1) := by decide +kernel
theorem dJ2_getChars_ba4f3_29 : decode cJ2_getChars_ba4f3 29 = .ok (.bipush 100, 2) := by decide +kernel
theorem dJ2_getChars_ba4f3_31 : decode cJ2_getChars_ba4f3 31 = .ok (.idiv, 1) := by decide +kernel
theorem dJ2_getChars_ba4f3_32 : decode cJ2_getChars_ba4f3 32 = .ok (.istore_n 3, 1) := by decide +kernel
theorem dJ2_getChars_ba4f3_33 : decode cJ2_getChars_ba4f3 33 = .ok (.iload_n 3, 1) := by decide +kernel
theorem dJ2_getChars_ba4f3_34 : decode cJ2_getChars_ba4f3 34 = .ok (.bipush 100, 2) := by decide +kernel
theorem dJ2_getChars_ba4f3_36 : decode cJ2_getChars_ba4f3 36 = .ok (.imul, 1) := by decide +kernel
theorem dJ2_getChars_ba4f3_37 : decode cJ2_getChars_ba4f3 37 = .ok (.iload_n 0, 1) := by decide +kernel
theorem dJ2_getChars_ba4f3_38 : decode cJ2_getChars_ba4f3 38 = .ok (.isub, 1) := by decide +kernel
theorem dJ2_getChars_ba4f3_39 : decode cJ2_getChars_ba4f3 39 = .ok (.istore 4, 2) := by decide +kernel
theorem dJ2_getChars_ba4f3_41 : decode cJ2_getChars_ba4f3 41 = .ok (.iload_n 3, 1) := by decide +kernel
theorem dJ2_getChars_ba4f3_42 : decode cJ2_getChars_ba4f3 42 = .ok (.istore_n 0, 1) := by decide +kernel
theorem dJ2_getChars_ba4f3_43 : decode cJ2_getChars_ba4f3 43 = .ok (.aload_n 2, 1) := by decide +kernel
theorem dJ2_getChars_ba4f3_44 : decode cJ2_getChars_ba4f3 44 = .ok (.iinc 5 (-1), 3) := by decide +kernel
theorem dJ2_getChars_ba4f3_47 : decode cJ2_getChars_ba4f3 47 = .ok (.iload 5, 2) := by decide +kernel
theorem dJ2_getChars_ba4f3_49 : decode cJ2_getChars_ba4f3 49 = .ok (.getstatic 403, 3) := by decide +kernel
theorem dJ2_getChars_ba4f3_52 : decode cJ2_getChars_ba4f3 52 = .ok (.iload 4, 2) := by decide +kernel
theorem dJ2_getChars_ba4f3_54 : decode cJ2_getChars_ba4f3 54 = .ok (.baload, 1) := by decide +kernel
theorem dJ2_getChars_ba4f3_55 : decode cJ2_getChars_ba4f3 55 = .ok (.invokestatic 111, 3) := by decide +kernel
theorem dJ2_getChars_ba4f3_58 : decode cJ2_getChars_ba4f3 58 = .ok (.aload_n 2, 1) := by decide +kernel
theorem dJ2_getChars_ba4f3_59 : decode cJ2_getChars_ba4f3 59 = .ok (.iinc 5 (-1), 3) := by decide +kernel
theorem dJ2_getChars_ba4f3_62 : decode cJ2_getChars_ba4f3 62 = .ok (.iload 5, 2) := by decide +kernel
theorem dJ2_getChars_ba4f3_64 : decode cJ2_getChars_ba4f3 64 = .ok (.getstatic 407, 3) := by decide +kernel
theorem dJ2_getChars_ba4f3_67 : decode cJ2_getChars_ba4f3 67 = .ok (.iload 4, 2) := by decide +kernel
theorem dJ2_getChars_ba4f3_69 : decode cJ2_getChars_ba4f3 69 = .ok (.baload, 1) := by decide +kernel
theorem dJ2_getChars_ba4f3_70 : decode cJ2_getChars_ba4f3 70 = .ok (.invokestatic 111, 3) := by decide +kernel
theorem dJ2_getChars_ba4f3_73 : decode cJ2_getChars_ba4f3 73 = .ok (.goto (-51), 3) := by decide +kernel
theorem dJ2_getChars_ba4f3_76 : decode cJ2_getChars_ba4f3 76 = .ok (.aload_n 2, 1) := by decide +kernel
theorem dJ2_getChars_ba4f3_77 : decode cJ2_getChars_ba4f3 77 = .ok (.iinc 5 (-1), 3) := by decide +kernel
theorem dJ2_getChars_ba4f3_80 : decode cJ2_getChars_ba4f3 80 = .ok (.iload 5, 2) := by decide +kernel
theorem dJ2_getChars_ba4f3_82 : decode cJ2_getChars_ba4f3 82 = .ok (.getstatic 403, 3) := by decide +kernel
theorem dJ2_getChars_ba4f3_85 : decode cJ2_getChars_ba4f3 85 = .ok (.iload_n 0, 1) := by decide +kernel
theorem dJ2_getChars_ba4f3_86 : decode cJ2_getChars_ba4f3 86 = .ok (.ineg, 1) := by decide +kernel
theorem dJ2_getChars_ba4f3_87 : decode cJ2_getChars_ba4f3 87 = .ok (.baload, 1) := by decide +kernel
theorem dJ2_getChars_ba4f3_88 : decode cJ2_getChars_ba4f3 88 = .ok (.invokestatic 111, 3) := by decide +kernel
theorem dJ2_getChars_ba4f3_91 : decode cJ2_getChars_ba4f3 91 = .ok (.iload_n 0, 1) := by decide +kernel
theorem dJ2_getChars_ba4f3_92 : decode cJ2_getChars_ba4f3 92 = .ok (.bipush (-9), 2) := by decide +kernel
theorem dJ2_getChars_ba4f3_94 : decode cJ2_getChars_ba4f3 94 = .ok (.if_icmp .ge 18, 3) := by decide +kernel
theorem dJ2_getChars_ba4f3_97 : decode cJ2_getChars_ba4f3 97 = .ok (.aload_n 2, 1) := by decide +kernel
theorem dJ2_getChars_ba4f3_98 : decode cJ2_getChars_ba4f3 98 = .ok (.iinc 5 (-1), 3) := by decide +kernel
theorem dJ2_getChars_ba4f3_101 : decode cJ2_getChars_ba4f3 101 = .ok (.iload 5, 2) := by decide +kernel
theorem dJ2_getChars_ba4f3_103 : decode cJ2_getChars_ba4f3 103 = .ok (.getstatic 407, 3) := by decide +kernel
theorem dJ2_getChars_ba4f3_106 : decode cJ2_getChars_ba4f3 106 = .ok (.iload_n 0, 1) := by decide +kernel
theorem dJ2_getChars_ba4f3_107 : decode cJ2_getChars_ba4f3 107 = .ok (.ineg, 1) := by decide +kernel
theorem dJ2_getChars_ba4f3_108 : decode cJ2_getChars_ba4f3 108 = .ok (.baload, 1) := by decide +kernel
theorem dJ2_getChars_ba4f3_109 : decode cJ2_getChars_ba4f3 109 = .ok (.invokestatic 111, 3) := by decide +kernel
theorem dJ2_getChars_ba4f3_112 : decode cJ2_getChars_ba4f3 112 = .ok (.iload 6, 2) := by decide +kernel
theorem dJ2_getChars_ba4f3_114 : decode cJ2_getChars_ba4f3 114 = .ok (.ifCond .eq 14, 3) := by decide +kernel
theorem dJ2_getChars_ba4f3_117 : decode cJ2_getChars_ba4f3 117 = .ok (.aload_n 2, 1) := by decide +kernel
theorem dJ2_getChars_ba4f3_118 : decode cJ2_getChars_ba4f3 118 = .ok (.iinc 5 (-1), 3) := by decide +kernel
theorem dJ2_getChars_ba4f3_121 : decode cJ2_getChars_ba4f3 121 = .ok (.iload 5, 2) := by decide +kernel
theorem dJ2_getChars_ba4f3_123 : decode cJ2_getChars_ba4f3 123 = .ok (.bipush 45, 2) := by decide +kernel
theorem dJ2_getChars_ba4f3_125 : decode cJ2_getChars_ba4f3 125 = .ok (.invokestatic 111, 3) := by decide +kernel
theorem dJ2_getChars_ba4f3_128 : decode cJ2_getChars_ba4f3 128 = .ok (.iload 5, 2) := by decide +kernel
theorem dJ2_getChars_ba4f3_130 : decode cJ2_getChars_ba4f3 130 = .ok (.ireturn, 1) := by decide +kernel
theorem dJ2_checkIndex_2214a_0 : decode cJ2_checkIndex_2214a 0 = .ok (.iload_n 0, 1) := by decide +kernel
theorem dJ2_checkIndex_2214a_1 : decode cJ2_checkIndex_2214a 1 = .ok (.aload_n 1, 1) := by decide +kernel
theorem dJ2_checkIndex_2214a_2 : decode cJ2_checkIndex_2214a 2 = .ok (.invokestatic 48, 3) := by decide +kernel
theorem dJ2_checkIndex_2214a_5 : decode cJ2_checkIndex_2214a 5 = .ok (.invokestatic 414, 3) := by decide +kernel
theorem dJ2_checkIndex_2214a_8 : decode cJ2_checkIndex_2214a 8 = .ok (.return_, 1) := by decide +kernel
theorem dJ2_checkBoundsBeginEnd_d044e_0 : decode cJ2_checkBoundsBeginEnd_d044e 0 = .ok (.iload_n 0, 1) := by decide +kernel
theorem dJ2_checkBoundsBeginEnd_d044e_1 : decode cJ2_checkBoundsBeginEnd_d044e 1 = .ok (.iload_n 1, 1) := by decide +kernel
theorem dJ2_checkBoundsBeginEnd_d044e_2 : decode cJ2_checkBoundsBeginEnd_d044e 2 = .ok (.aload_n 2, 1) := by decide +kernel
theorem dJ2_checkBoundsBeginEnd_d044e_3 : decode cJ2_checkBoundsBeginEnd_d044e 3 = .ok (.invokestatic 48, 3) := by decide +kernel
theorem dJ2_checkBoundsBeginEnd_d044e_6 : decode cJ2_checkBoundsBeginEnd_d044e 6 = .ok (.invokestatic 241, 3) := by decide +kernel
theorem dJ2_checkBoundsBeginEnd_d044e_9 : decode cJ2_checkBoundsBeginEnd_d044e 9 = .ok (.return_, 1) := by decide +kernel
theorem dJ2_checkBoundsOffCount_d044e_0 : decode cJ2_checkBoundsOffCount_d044e 0 = .ok (.iload_n 0, 1) := by decide +kernel
theorem dJ2_checkBoundsOffCount_d044e_1 : decode cJ2_checkBoundsOffCount_d044e 1 = .ok (.iload_n 1, 1) := by decide +kernel
theorem dJ2_checkBoundsOffCount_d044e_2 : decode cJ2_checkBoundsOffCount_d044e 2 = .ok (.aload_n 2, 1) := by decide +kernel
theorem dJ2_checkBoundsOffCount_d044e_3 : decode cJ2_checkBoundsOffCount_d044e 3 = .ok (.invokestatic 48, 3) := by decide +kernel
theorem dJ2_checkBoundsOffCount_d044e_6 : decode cJ2_checkBoundsOffCount_d044e 6 = .ok (.invokestatic 419, 3) := by decide +kernel
theorem dJ2_checkBoundsOffCount_d044e_9 : decode cJ2_checkBoundsOffCount_d044e 9 = .ok (.pop, 1) := by decide +kernel
theorem dJ2_checkBoundsOffCount_d044e_10 : decode cJ2_checkBoundsOffCount_d044e 10 = .ok (.return_, 1) := by decide +kernel
theorem dJ7_fill_d0a16_0 : decode cJ7_fill_d0a16 0 = .ok (.iconst 0, 1) := by decide +kernel
theorem dJ7_fill_d0a16_1 : decode cJ7_fill_d0a16 1 = .ok (.istore_n 3, 1) := by decide +kernel
theorem dJ7_fill_d0a16_2 : decode cJ7_fill_d0a16 2 = .ok (.aload_n 0, 1) := by decide +kernel
theorem dJ7_fill_d0a16_3 : decode cJ7_fill_d0a16 3 = .ok (.arraylength, 1) := by decide +kernel
theorem dJ7_fill_d0a16_4 : decode cJ7_fill_d0a16 4 = .ok (.istore 4, 2) := by decide +kernel
theorem dJ7_fill_d0a16_6 : decode cJ7_fill_d0a16 6 = .ok (.iload_n 3, 1) := by decide +kernel
theorem dJ7_fill_d0a16_7 : decode cJ7_fill_d0a16 7 = .ok (.iload 4, 2) := by decide +kernel
theorem dJ7_fill_d0a16_9 : decode cJ7_fill_d0a16 9 = .ok (.if_icmp .ge 13, 3) := by decide +kernel
theorem dJ7_fill_d0a16_12 : decode cJ7_fill_d0a16 12 = .ok (.aload_n 0, 1) := by decide +kernel
theorem dJ7_fill_d0a16_13 : decode cJ7_fill_d0a16 13 = .ok (.iload_n 3, 1) := by decide +kernel
theorem dJ7_fill_d0a16_14 : decode cJ7_fill_d0a16 14 = .ok (.lload_n 1, 1) := by decide +kernel
theorem dJ7_fill_d0a16_15 : decode cJ7_fill_d0a16 15 = .ok (.lastore, 1) := by decide +kernel
theorem dJ7_fill_d0a16_16 : decode cJ7_fill_d0a16 16 = .ok (.iinc 3 1, 3) := by decide +kernel
theorem dJ7_fill_d0a16_19 : decode cJ7_fill_d0a16 19 = .ok (.goto (-13), 3) := by decide +kernel
theorem dJ7_fill_d0a16_22 : decode cJ7_fill_d0a16 22 = .ok (.return_, 1) := by decide +kernel
theorem dJ7_fill_53178_0 : decode cJ7_fill_53178 0 = .ok (.iconst 0, 1) := by decide +kernel
theorem dJ7_fill_53178_1 : decode cJ7_fill_53178 1 = .ok (.istore_n 2, 1) := by decide +kernel
theorem dJ7_fill_53178_2 : decode cJ7_fill_53178 2 = .ok (.aload_n 0, 1) := by decide +kernel
theorem dJ7_fill_53178_3 : decode cJ7_fill_53178 3 = .ok (.arraylength, 1) := by decide +kernel
theorem dJ7_fill_53178_4 : decode cJ7_fill_53178 4 = .ok (.istore_n 3, 1) := by decide +kernel
theorem dJ7_fill_53178_5 : decode cJ7_fill_53178 5 = .ok (.iload_n 2, 1) := by decide +kernel
theorem dJ7_fill_53178_6 : decode cJ7_fill_53178 6 = .ok (.iload_n 3, 1) := by decide +kernel
theorem dJ7_fill_53178_7 : decode cJ7_fill_53178 7 = .ok (.if_icmp .ge 13, 3) := by decide +kernel
theorem dJ7_fill_53178_10 : decode cJ7_fill_53178 10 = .ok (.aload_n 0, 1) := by decide +kernel
theorem dJ7_fill_53178_11 : decode cJ7_fill_53178 11 = .ok (.iload_n 2, 1) := by decide +kernel
theorem dJ7_fill_53178_12 : decode cJ7_fill_53178 12 = .ok (.iload_n 1, 1) := by decide +kernel
theorem dJ7_fill_53178_13 : decode cJ7_fill_53178 13 = .ok (.iastore, 1) := by decide +kernel
theorem dJ7_fill_53178_14 : decode cJ7_fill_53178 14 = .ok (.iinc 2 1, 3) := by decide +kernel
theorem dJ7_fill_53178_17 : decode cJ7_fill_53178 17 = .ok (.goto (-12), 3) := by decide +kernel
theorem dJ7_fill_53178_20 : decode cJ7_fill_53178 20 = .ok (.return_, 1) := by decide +kernel
theorem dJ7_copyOf_9075b_0 : decode cJ7_copyOf_9075b 0 = .ok (.iload_n 1, 1) := by decide +kernel
theorem dJ7_copyOf_9075b_1 : decode cJ7_copyOf_9075b 1 = .ok (.aload_n 0, 1) := by decide +kernel
theorem dJ7_copyOf_9075b_2 : decode cJ7_copyOf_9075b 2 = .ok (.arraylength, 1) := by decide +kernel
theorem dJ7_copyOf_9075b_3 : decode cJ7_copyOf_9075b 3 = .ok (.if_icmp .ne 11, 3) := by decide +kernel
theorem dJ7_copyOf_9075b_6 : decode cJ7_copyOf_9075b 6 = .ok (.aload_n 0, 1) := by decide +kernel
theorem dJ7_copyOf_9075b_7 : decode cJ7_copyOf_9075b 7 = .ok (.invokevirtual 310, 3) := by decide +kernel
theorem dJ7_copyOf_9075b_10 : decode cJ7_copyOf_9075b 10 = .ok (.checkcast 311, 3) := by decide +kernel
theorem dJ7_copyOf_9075b_13 : decode cJ7_copyOf_9075b 13 = .ok (.areturn, 1) := by decide +kernel
theorem dJ7_copyOf_9075b_14 : decode cJ7_copyOf_9075b 14 = .ok (.iload_n 1, 1) := by decide +kernel
theorem dJ7_copyOf_9075b_15 : decode cJ7_copyOf_9075b 15 = .ok (.newarray .byte, 2) := by decide +kernel
theorem dJ7_copyOf_9075b_17 : decode cJ7_copyOf_9075b 17 = .ok (.astore_n 2, 1) := by decide +kernel
theorem dJ7_copyOf_9075b_18 : decode cJ7_copyOf_9075b 18 = .ok (.aload_n 0, 1) := by decide +kernel
theorem dJ7_copyOf_9075b_19 : decode cJ7_copyOf_9075b 19 = .ok (.iconst 0, 1) := by decide +kernel
theorem dJ7_copyOf_9075b_20 : decode cJ7_copyOf_9075b 20 = .ok (.aload_n 2, 1) := by decide +kernel
theorem dJ7_copyOf_9075b_21 : decode cJ7_copyOf_9075b 21 = .ok (.iconst 0, 1) := by decide +kernel
theorem dJ7_copyOf_9075b_22 : decode cJ7_copyOf_9075b 22 = .ok (.aload_n 0, 1) := by decide +kernel
theorem dJ7_copyOf_9075b_23 : decode cJ7_copyOf_9075b 23 = .ok (.arraylength, 1) := by decide +kernel
theorem dJ7_copyOf_9075b_24 : decode cJ7_copyOf_9075b 24 = .ok (.iload_n 1, 1) := by decide +kernel
theorem dJ7_copyOf_9075b_25 : decode cJ7_copyOf_9075b 25 = .ok (.invokestatic 304, 3) := by decide +kernel
theorem dJ7_copyOf_9075b_28 : decode cJ7_copyOf_9075b 28 = .ok (.invokestatic 150, 3) := by decide +kernel
theorem dJ7_copyOf_9075b_31 : decode cJ7_copyOf_9075b 31 = .ok (.aload_n 2, 1) := by decide +kernel
theorem dJ7_copyOf_9075b_32 : decode cJ7_copyOf_9075b 32 = .ok (.areturn, 1) := by decide +kernel
theorem dJ7_checkLength_df160_0 : decode cJ7_checkLength_df160 0 = .ok (.iload_n 1, 1) := by decide +kernel
theorem dJ7_checkLength_df160_1 : decode cJ7_checkLength_df160 1 = .ok (.iload_n 0, 1) := by decide +kernel
theorem dJ7_checkLength_df160_2 : decode cJ7_checkLength_df160 2 = .ok (.if_icmp .ge 35, 3) := by decide +kernel
theorem dJ7_checkLength_df160_5 : decode cJ7_checkLength_df160 5 = .ok (.new 43, 3) := by decide +kernel
theorem dJ7_checkLength_df160_8 : decode cJ7_checkLength_df160 8 = .ok (.dup, 1) := by decide +kernel
theorem dJ7_checkLength_df160_9 : decode cJ7_checkLength_df160 9 = .ok (.new 45, 3) := by decide +kernel
theorem dJ7_checkLength_df160_12 : decode cJ7_checkLength_df160 12 = .ok (.dup, 1) := by decide +kernel
theorem dJ7_checkLength_df160_13 : decode cJ7_checkLength_df160 13 = .ok (.invokespecial 47, 3) := by decide +kernel
theorem dJ7_checkLength_df160_16 : decode cJ7_checkLength_df160 16 = .ok (.iload_n 0, 1) := by decide +kernel
theorem dJ7_checkLength_df160_17 : decode cJ7_checkLength_df160 17 = .ok (.invokevirtual 54, 3) := by decide +kernel
theorem dJ7_checkLength_df160_20 : decode cJ7_checkLength_df160 20 = .ok (.ldc_w 337, 3) := by decide +kernel
theorem dJ7_checkLength_df160_23 : decode cJ7_checkLength_df160 23 = .ok (.invokevirtual 50, 3) := by decide +kernel
theorem dJ7_checkLength_df160_26 : decode cJ7_checkLength_df160 26 = .ok (.iload_n 1, 1) := by decide +kernel
theorem dJ7_checkLength_df160_27 : decode cJ7_checkLength_df160 27 = .ok (.invokevirtual 54, 3) := by decide +kernel
theorem dJ7_checkLength_df160_30 : decode cJ7_checkLength_df160 30 = .ok (.invokevirtual 61, 3) := by decide +kernel
theorem dJ7_checkLength_df160_33 : decode cJ7_checkLength_df160 33 = .ok (.invokespecial 65, 3) := by decide +kernel
theorem dJ7_checkLength_df160_36 : decode cJ7_checkLength_df160 36 = .ok (.athrow, 1) := by decide +kernel
theorem dJ7_checkLength_df160_37 : decode cJ7_checkLength_df160 37 = .ok (.return_, 1) := by decide +kernel
theorem dJ7_copyOfRange_39247_0 : decode cJ7_copyOfRange_39247 0 = .ok (.iload_n 1, 1) := by decide +kernel
theorem dJ7_copyOfRange_39247_1 : decode cJ7_copyOfRange_39247 1 = .ok (.ifCond .ne 9, 3) := by decide +kernel
theorem dJ7_copyOfRange_39247_4 : decode cJ7_copyOfRange_39247 4 = .ok (.iload_n 2, 1) := by decide +kernel
theorem dJ7_copyOfRange_39247_5 : decode cJ7_copyOfRange_39247 5 = .ok (.aload_n 0, 1) := by decide +kernel
theorem dJ7_copyOfRange_39247_6 : decode cJ7_copyOfRange_39247 6 = .ok (.arraylength, 1) := by decide +kernel
theorem dJ7_copyOfRange_39247_7 : decode cJ7_copyOfRange_39247 7 = .ok (.if_icmp .eq 10, 3) := by decide +kernel
theorem dJ7_copyOfRange_39247_10 : decode cJ7_copyOfRange_39247 10 = .ok (.aload_n 0, 1) := by decide +kernel
theorem dJ7_copyOfRange_39247_11 : decode cJ7_copyOfRange_39247 11 = .ok (.iload_n 1, 1) := by decide +kernel
theorem dJ7_copyOfRange_39247_12 : decode cJ7_copyOfRange_39247 12 = .ok (.iload_n 2, 1) := by decide +kernel
theorem dJ7_copyOfRange_39247_13 : decode cJ7_copyOfRange_39247 13 = .ok (.invokestatic 339, 3) := by decide +kernel
theorem dJ7_copyOfRange_39247_16 : decode cJ7_copyOfRange_39247 16 = .ok (.areturn, 1) := by decide +kernel
theorem dJ7_copyOfRange_39247_17 : decode cJ7_copyOfRange_39247 17 = .ok (.aload_n 0, 1) := by decide +kernel
theorem dJ7_copyOfRange_39247_18 : decode cJ7_copyOfRange_39247 18 = .ok (.invokevirtual 310, 3) := by decide +kernel
theorem dJ7_copyOfRange_39247_21 : decode cJ7_copyOfRange_39247 21 = .ok (.checkcast 311, 3) := by decide +kernel
theorem dJ7_copyOfRange_39247_24 : decode cJ7_copyOfRange_39247 24 = .ok (.areturn, 1) := by decide +kernel
theorem dJ7_copyOfRangeByte_39247_0 : decode cJ7_copyOfRangeByte_39247 0 = .ok (.iload_n 1, 1) := by decide +kernel
theorem dJ7_copyOfRangeByte_39247_1 : decode cJ7_copyOfRangeByte_39247 1 = .ok (.iload_n 2, 1) := by decide +kernel
theorem dJ7_copyOfRangeByte_39247_2 : decode cJ7_copyOfRangeByte_39247 2 = .ok (.invokestatic 343, 3) := by decide +kernel
theorem dJ7_copyOfRangeByte_39247_5 : decode cJ7_copyOfRangeByte_39247 5 = .ok (.iload_n 2, 1) := by decide +kernel
theorem dJ7_copyOfRangeByte_39247_6 : decode cJ7_copyOfRangeByte_39247 6 = .ok (.iload_n 1, 1) := by decide +kernel
theorem dJ7_copyOfRangeByte_39247_7 : decode cJ7_copyOfRangeByte_39247 7 = .ok (.isub, 1) := by decide +kernel
theorem dJ7_copyOfRangeByte_39247_8 : decode cJ7_copyOfRangeByte_39247 8 = .ok (.istore_n 3, 1) := by decide +kernel
theorem dJ7_copyOfRangeByte_39247_9 : decode cJ7_copyOfRangeByte_39247 9 = .ok (.iload_n 3, 1) := by decide +kernel
theorem dJ7_copyOfRangeByte_39247_10 : decode cJ7_copyOfRangeByte_39247 10 = .ok (.newarray .byte, 2) := by decide +kernel
theorem dJ7_copyOfRangeByte_39247_12 : decode cJ7_copyOfRangeByte_39247 12 = .ok (.astore 4, 2) := by decide +kernel
theorem dJ7_copyOfRangeByte_39247_14 : decode cJ7_copyOfRangeByte_39247 14 = .ok (.aload_n 0, 1) := by decide +kernel
theorem dJ7_copyOfRangeByte_39247_15 : decode cJ7_copyOfRangeByte_39247 15 = .ok (.iload_n 1, 1) := by decide +kernel
theorem dJ7_copyOfRangeByte_39247_16 : decode cJ7_copyOfRangeByte_39247 16 = .ok (.aload 4, 2) := by decide +kernel
theorem dJ7_copyOfRangeByte_39247_18 : decode cJ7_copyOfRangeByte_39247 18 = .ok (.iconst 0, 1) := by decide +kernel
theorem dJ7_copyOfRangeByte_39247_19 : decode cJ7_copyOfRangeByte_39247 19 = .ok (.aload_n 0, 1) := by decide +kernel
theorem dJ7_copyOfRangeByte_39247_20 : decode cJ7_copyOfRangeByte_39247 20 = .ok (.arraylength, 1) := by decide +kernel
theorem dJ7_copyOfRangeByte_39247_21 : decode cJ7_copyOfRangeByte_39247 21 = .ok (.iload_n 1, 1) := by decide +kernel
theorem dJ7_copyOfRangeByte_39247_22 : decode cJ7_copyOfRangeByte_39247 22 = .ok (.isub, 1) := by decide +kernel
theorem dJ7_copyOfRangeByte_39247_23 : decode cJ7_copyOfRangeByte_39247 23 = .ok (.iload_n 3, 1) := by decide +kernel
theorem dJ7_copyOfRangeByte_39247_24 : decode cJ7_copyOfRangeByte_39247 24 = .ok (.invokestatic 304, 3) := by decide +kernel
theorem dJ7_copyOfRangeByte_39247_27 : decode cJ7_copyOfRangeByte_39247 27 = .ok (.invokestatic 150, 3) := by decide +kernel
theorem dJ7_copyOfRangeByte_39247_30 : decode cJ7_copyOfRangeByte_39247 30 = .ok (.aload 4, 2) := by decide +kernel
theorem dJ7_copyOfRangeByte_39247_32 : decode cJ7_copyOfRangeByte_39247 32 = .ok (.areturn, 1) := by decide +kernel
theorem dJ8_newLength_cabcc_0 : decode cJ8_newLength_cabcc 0 = .ok (.iload_n 0, 1) := by decide +kernel
theorem dJ8_newLength_cabcc_1 : decode cJ8_newLength_cabcc 1 = .ok (.iload_n 1, 1) := by decide +kernel
theorem dJ8_newLength_cabcc_2 : decode cJ8_newLength_cabcc 2 = .ok (.iload_n 2, 1) := by decide +kernel
theorem dJ8_newLength_cabcc_3 : decode cJ8_newLength_cabcc 3 = .ok (.invokestatic 194, 3) := by decide +kernel
theorem dJ8_newLength_cabcc_6 : decode cJ8_newLength_cabcc 6 = .ok (.iadd, 1) := by decide +kernel
theorem dJ8_newLength_cabcc_7 : decode cJ8_newLength_cabcc 7 = .ok (.istore_n 3, 1) := by decide +kernel
theorem dJ8_newLength_cabcc_8 : decode cJ8_newLength_cabcc 8 = .ok (.iconst 0, 1) := by decide +kernel
theorem dJ8_newLength_cabcc_9 : decode cJ8_newLength_cabcc 9 = .ok (.iload_n 3, 1) := by decide +kernel
theorem dJ8_newLength_cabcc_10 : decode cJ8_newLength_cabcc 10 = .ok (.if_icmp .ge 11, 3) := by decide +kernel
theorem dJ8_newLength_cabcc_13 : decode cJ8_newLength_cabcc 13 = .ok (.iload_n 3, 1) := by decide +kernel
theorem dJ8_newLength_cabcc_14 : decode cJ8_newLength_cabcc 14 = .ok (.ldc 200, 2) := by decide +kernel
theorem dJ8_newLength_cabcc_16 : decode cJ8_newLength_cabcc 16 = .ok (.if_icmp .gt 5, 3) := by decide +kernel
theorem dJ8_newLength_cabcc_19 : decode cJ8_newLength_cabcc 19 = .ok (.iload_n 3, 1) := by decide +kernel
theorem dJ8_newLength_cabcc_20 : decode cJ8_newLength_cabcc 20 = .ok (.ireturn, 1) := by decide +kernel
theorem dJ8_newLength_cabcc_21 : decode cJ8_newLength_cabcc 21 = .ok (.iload_n 0, 1) := by decide +kernel
theorem dJ8_newLength_cabcc_22 : decode cJ8_newLength_cabcc 22 = .ok (.iload_n 1, 1) := by decide +kernel
theorem dJ8_newLength_cabcc_23 : decode cJ8_newLength_cabcc 23 = .ok (.invokestatic 201, 3) := by decide +kernel
theorem dJ8_newLength_cabcc_26 : decode cJ8_newLength_cabcc 26 = .ok (.ireturn, 1) := by decide +kernel
theorem dJ8_hugeLength_7cf53_0 : decode cJ8_hugeLength_7cf53 0 = .ok (.iload_n 0, 1) := by decide +kernel
theorem dJ8_hugeLength_7cf53_1 : decode cJ8_hugeLength_7cf53 1 = .ok (.iload_n 1, 1) := by decide +kernel
theorem dJ8_hugeLength_7cf53_2 : decode cJ8_hugeLength_7cf53 2 = .ok (.iadd, 1) := by decide +kernel
theorem dJ8_hugeLength_7cf53_3 : decode cJ8_hugeLength_7cf53 3 = .ok (.istore_n 2, 1) := by decide +kernel
theorem dJ8_hugeLength_7cf53_4 : decode cJ8_hugeLength_7cf53 4 = .ok (.iload_n 2, 1) := by decide +kernel
theorem dJ8_hugeLength_7cf53_5 : decode cJ8_hugeLength_7cf53 5 = .ok (.ifCond .ge 44, 3) := by decide +kernel
theorem dJ8_hugeLength_7cf53_8 : decode cJ8_hugeLength_7cf53 8 = .ok (.new 204, 3) := by decide +kernel
theorem dJ8_hugeLength_7cf53_11 : decode cJ8_hugeLength_7cf53 11 = .ok (.dup, 1) := by decide +kernel
theorem dJ8_hugeLength_7cf53_12 : decode cJ8_hugeLength_7cf53 12 = .ok (.new 89, 3) := by decide +kernel
theorem dJ8_hugeLength_7cf53_15 : decode cJ8_hugeLength_7cf53 15 = .ok (.dup, 1) := by decide +kernel
theorem dJ8_hugeLength_7cf53_16 : decode cJ8_hugeLength_7cf53 16 = .ok (.invokespecial 91, 3) := by decide +kernel
theorem dJ8_hugeLength_7cf53_19 : decode cJ8_hugeLength_7cf53 19 = .ok (.ldc 206, 2) := by decide +kernel
theorem dJ8_hugeLength_7cf53_21 : decode cJ8_hugeLength_7cf53 21 = .ok (.invokevirtual 94, 3) := by decide +kernel
theorem dJ8_hugeLength_7cf53_24 : decode cJ8_hugeLength_7cf53 24 = .ok (.iload_n 0, 1) := by decide +kernel
theorem dJ8_hugeLength_7cf53_25 : decode cJ8_hugeLength_7cf53 25 = .ok (.invokevirtual 98, 3) := by decide +kernel
theorem dJ8_hugeLength_7cf53_28 : decode cJ8_hugeLength_7cf53 28 = .ok (.ldc 208, 2) := by decide +kernel
theorem dJ8_hugeLength_7cf53_30 : decode cJ8_hugeLength_7cf53 30 = .ok (.invokevirtual 94, 3) := by decide +kernel
theorem dJ8_hugeLength_7cf53_33 : decode cJ8_hugeLength_7cf53 33 = .ok (.iload_n 1, 1) := by decide +kernel
theorem dJ8_hugeLength_7cf53_34 : decode cJ8_hugeLength_7cf53 34 = .ok (.invokevirtual 98, 3) := by decide +kernel
theorem dJ8_hugeLength_7cf53_37 : decode cJ8_hugeLength_7cf53 37 = .ok (.ldc 210, 2) := by decide +kernel
theorem dJ8_hugeLength_7cf53_39 : decode cJ8_hugeLength_7cf53 39 = .ok (.invokevirtual 94, 3) := by decide +kernel
theorem dJ8_hugeLength_7cf53_42 : decode cJ8_hugeLength_7cf53 42 = .ok (.invokevirtual 101, 3) := by decide +kernel
theorem dJ8_hugeLength_7cf53_45 : decode cJ8_hugeLength_7cf53 45 = .ok (.invokespecial 212, 3) := by decide +kernel
theorem dJ8_hugeLength_7cf53_48 : decode cJ8_hugeLength_7cf53 48 = .ok (.athrow, 1) := by decide +kernel
theorem dJ8_hugeLength_7cf53_49 : decode cJ8_hugeLength_7cf53 49 = .ok (.iload_n 2, 1) := by decide +kernel
theorem dJ8_hugeLength_7cf53_50 : decode cJ8_hugeLength_7cf53 50 = .ok (.ldc 200, 2) := by decide +kernel
theorem dJ8_hugeLength_7cf53_52 : decode cJ8_hugeLength_7cf53 52 = .ok (.if_icmp .gt 6, 3) := by decide +kernel
theorem dJ8_hugeLength_7cf53_55 : decode cJ8_hugeLength_7cf53 55 = .ok (.ldc 200, 2) := by decide +kernel
theorem dJ8_hugeLength_7cf53_57 : decode cJ8_hugeLength_7cf53 57 = .ok (.ireturn, 1) := by decide +kernel
theorem dJ8_hugeLength_7cf53_58 : decode cJ8_hugeLength_7cf53 58 = .ok (.iload_n 2, 1) := by decide +kernel
theorem dJ8_hugeLength_7cf53_59 : decode cJ8_hugeLength_7cf53 59 = .ok (.ireturn, 1) := by decide +kernel
theorem dJ3_checkIndex_8e157_0 : decode cJ3_checkIndex_8e157 0 = .ok (.iload_n 0, 1) := by decide +kernel
theorem dJ3_checkIndex_8e157_1 : decode cJ3_checkIndex_8e157 1 = .ok (.ifCond .lt 8, 3) := by decide +kernel
theorem dJ3_checkIndex_8e157_4 : decode cJ3_checkIndex_8e157 4 = .ok (.iload_n 0, 1) := by decide +kernel
theorem dJ3_checkIndex_8e157_5 : decode cJ3_checkIndex_8e157 5 = .ok (.iload_n 1, 1) := by decide +kernel
theorem dJ3_checkIndex_8e157_6 : decode cJ3_checkIndex_8e157 6 = .ok (.if_icmp .lt 10, 3) := by decide +kernel
theorem dJ3_checkIndex_8e157_9 : decode cJ3_checkIndex_8e157 9 = .ok (.aload_n 2, 1) := by decide +kernel
theorem dJ3_checkIndex_8e157_10 : decode cJ3_checkIndex_8e157 10 = .ok (.iload_n 0, 1) := by decide +kernel
theorem dJ3_checkIndex_8e157_11 : decode cJ3_checkIndex_8e157 11 = .ok (.iload_n 1, 1) := by decide +kernel
theorem dJ3_checkIndex_8e157_12 : decode cJ3_checkIndex_8e157 12 = .ok (.invokestatic 95, 3) := by decide +kernel
theorem dJ3_checkIndex_8e157_15 : decode cJ3_checkIndex_8e157 15 = .ok (.athrow, 1) := by decide +kernel
theorem dJ3_checkIndex_8e157_16 : decode cJ3_checkIndex_8e157 16 = .ok (.iload_n 0, 1) := by decide +kernel
theorem dJ3_checkIndex_8e157_17 : decode cJ3_checkIndex_8e157 17 = .ok (.ireturn, 1) := by decide +kernel
theorem dJ3_checkFromToIndex_8c36e_0 : decode cJ3_checkFromToIndex_8c36e 0 = .ok (.iload_n 0, 1) := by decide +kernel
theorem dJ3_checkFromToIndex_8c36e_1 : decode cJ3_checkFromToIndex_8c36e 1 = .ok (.ifCond .lt 13, 3) := by decide +kernel
theorem dJ3_checkFromToIndex_8c36e_4 : decode cJ3_checkFromToIndex_8c36e 4 = .ok (.iload_n 0, 1) := by decide +kernel
theorem dJ3_checkFromToIndex_8c36e_5 : decode cJ3_checkFromToIndex_8c36e 5 = .ok (.iload_n 1, 1) := by decide +kernel
theorem dJ3_checkFromToIndex_8c36e_6 : decode cJ3_checkFromToIndex_8c36e 6 = .ok (.if_icmp .gt 8, 3) := by decide +kernel
theorem dJ3_checkFromToIndex_8c36e_9 : decode cJ3_checkFromToIndex_8c36e 9 = .ok (.iload_n 1, 1) := by decide +kernel
theorem dJ3_checkFromToIndex_8c36e_10 : decode cJ3_checkFromToIndex_8c36e 10 = .ok (.iload_n 2, 1) := by decide +kernel
theorem dJ3_checkFromToIndex_8c36e_11 : decode cJ3_checkFromToIndex_8c36e 11 = .ok (.if_icmp .le 11, 3) := by decide +kernel
theorem dJ3_checkFromToIndex_8c36e_14 : decode cJ3_checkFromToIndex_8c36e 14 = .ok (.aload_n 3, 1) := by decide +kernel
theorem dJ3_checkFromToIndex_8c36e_15 : decode cJ3_checkFromToIndex_8c36e 15 = .ok (.iload_n 0, 1) := by decide +kernel
theorem dJ3_checkFromToIndex_8c36e_16 : decode cJ3_checkFromToIndex_8c36e 16 = .ok (.iload_n 1, 1) := by decide +kernel
theorem dJ3_checkFromToIndex_8c36e_17 : decode cJ3_checkFromToIndex_8c36e 17 = .ok (.iload_n 2, 1) := by decide +kernel
theorem dJ3_checkFromToIndex_8c36e_18 : decode cJ3_checkFromToIndex_8c36e 18 = .ok (.invokestatic 99, 3) := by decide +kernel
theorem dJ3_checkFromToIndex_8c36e_21 : decode cJ3_checkFromToIndex_8c36e 21 = .ok (.athrow, 1) := by decide +kernel
theorem dJ3_checkFromToIndex_8c36e_22 : decode cJ3_checkFromToIndex_8c36e 22 = .ok (.iload_n 0, 1) := by decide +kernel
theorem dJ3_checkFromToIndex_8c36e_23 : decode cJ3_checkFromToIndex_8c36e 23 = .ok (.ireturn, 1) := by decide +kernel
theorem dJ3_checkFromIndexSize_8c36e_0 : decode cJ3_checkFromIndexSize_8c36e 0 = .ok (.iload_n 2, 1) := by decide +kernel
theorem dJ3_checkFromIndexSize_8c36e_1 : decode cJ3_checkFromIndexSize_8c36e 1 = .ok (.iload_n 0, 1) := by decide +kernel
theorem dJ3_checkFromIndexSize_8c36e_2 : decode cJ3_checkFromIndexSize_8c36e 2 = .ok (.ior, 1) := by decide +kernel
theorem dJ3_checkFromIndexSize_8c36e_3 : decode cJ3_checkFromIndexSize_8c36e 3 = .ok (.iload_n 1, 1) := by decide +kernel
theorem dJ3_checkFromIndexSize_8c36e_4 : decode cJ3_checkFromIndexSize_8c36e 4 = .ok (.ior, 1) := by decide +kernel
theorem dJ3_checkFromIndexSize_8c36e_5 : decode cJ3_checkFromIndexSize_8c36e 5 = .ok (.ifCond .lt 10, 3) := by decide +kernel
theorem dJ3_checkFromIndexSize_8c36e_8 : decode cJ3_checkFromIndexSize_8c36e 8 = .ok (.iload_n 1, 1) := by decide +kernel
theorem dJ3_checkFromIndexSize_8c36e_9 : decode cJ3_checkFromIndexSize_8c36e 9 = .ok (.iload_n 2, 1) := by decide +kernel
theorem dJ3_checkFromIndexSize_8c36e_10 : decode cJ3_checkFromIndexSize_8c36e 10 = .ok (.iload_n 0, 1) := by decide +kernel
theorem dJ3_checkFromIndexSize_8c36e_11 : decode cJ3_checkFromIndexSize_8c36e 11 = .ok (.isub, 1) := by decide +kernel
theorem dJ3_checkFromIndexSize_8c36e_12 : decode cJ3_checkFromIndexSize_8c36e 12 = .ok (.if_icmp .le 11, 3) := by decide +kernel
theorem dJ3_checkFromIndexSize_8c36e_15 : decode cJ3_checkFromIndexSize_8c36e 15 = .ok (.aload_n 3, 1) := by decide +kernel
theorem dJ3_checkFromIndexSize_8c36e_16 : decode cJ3_checkFromIndexSize_8c36e 16 = .ok (.iload_n 0, 1) := by decide +kernel
theorem dJ3_checkFromIndexSize_8c36e_17 : decode cJ3_checkFromIndexSize_8c36e 17 = .ok (.iload_n 1, 1) := by decide +kernel
theorem dJ3_checkFromIndexSize_8c36e_18 : decode cJ3_checkFromIndexSize_8c36e 18 = .ok (.iload_n 2, 1) := by decide +kernel
theorem dJ3_checkFromIndexSize_8c36e_19 : decode cJ3_checkFromIndexSize_8c36e 19 = .ok (.invokestatic 103, 3) := by decide +kernel
theorem dJ3_checkFromIndexSize_8c36e_22 : decode cJ3_checkFromIndexSize_8c36e 22 = .ok (.athrow, 1) := by decide +kernel
theorem dJ3_checkFromIndexSize_8c36e_23 : decode cJ3_checkFromIndexSize_8c36e 23 = .ok (.iload_n 0, 1) := by decide +kernel
theorem dJ3_checkFromIndexSize_8c36e_24 : decode cJ3_checkFromIndexSize_8c36e 24 = .ok (.ireturn, 1) := by decide +kernel
