theorem dMM_add_0 : decode b_MM_add 0 = .ok (.aload_n 0, 1) := by decide +kernel
theorem dMM_add_1 : decode b_MM_add 1 = .ok (.aload_n 0, 1) := by decide +kernel
theorem dMM_add_2 : decode b_MM_add 2 = .ok (.iload_n 1, 1) := by decide +kernel
theorem dMM_add_3 : decode b_MM_add 3 = .ok (.invokevirtual 102, 3) := by decide +kernel
theorem dMM_add_6 : decode b_MM_add 6 = .ok (.iload_n 2, 1) := by decide +kernel
theorem dMM_add_7 : decode b_MM_add 7 = .ok (.iconst 0, 1) := by decide +kernel
theorem dMM_add_8 : decode b_MM_add 8 = .ok (.bipush 25, 2) := by decide +kernel
theorem dMM_add_10 : decode b_MM_add 10 = .ok (.invokestatic 90, 3) := by decide +kernel
theorem dMM_add_13 : decode b_MM_add 13 = .ok (.aload_n 0, 1) := by decide +kernel
theorem dMM_add_14 : decode b_MM_add 14 = .ok (.iload_n 1, 1) := by decide +kernel
theorem dMM_add_15 : decode b_MM_add 15 = .ok (.invokevirtual 102, 3) := by decide +kernel
theorem dMM_add_18 : decode b_MM_add 18 = .ok (.ifCond .eq 18, 3) := by decide +kernel
theorem dMM_add_21 : decode b_MM_add 21 = .ok (.aload_n 0, 1) := by decide +kernel
theorem dMM_add_22 : decode b_MM_add 22 = .ok (.getfield 29, 3) := by decide +kernel
theorem dMM_add_25 : decode b_MM_add 25 = .ok (.iload_n 1, 1) := by decide +kernel
theorem dMM_add_26 : decode b_MM_add 26 = .ok (.iaload, 1) := by decide +kernel
theorem dMM_add_27 : decode b_MM_add 27 = .ok (.bipush 120, 2) := by decide +kernel
theorem dMM_add_29 : decode b_MM_add 29 = .ok (.if_icmp .ge 7, 3) := by decide +kernel
theorem dMM_add_32 : decode b_MM_add 32 = .ok (.iconst 1, 1) := by decide +kernel
theorem dMM_add_33 : decode b_MM_add 33 = .ok (.goto 4, 3) := by decide +kernel
theorem dMM_add_36 : decode b_MM_add 36 = .ok (.iconst 0, 1) := by decide +kernel
theorem dMM_add_37 : decode b_MM_add 37 = .ok (.invokevirtual 94, 3) := by decide +kernel
theorem dMM_add_40 : decode b_MM_add 40 = .ok (.ifCond .ne 5, 3) := by decide +kernel
theorem dMM_add_43 : decode b_MM_add 43 = .ok (.iconst 0, 1) := by decide +kernel
theorem dMM_add_44 : decode b_MM_add 44 = .ok (.ireturn, 1) := by decide +kernel
theorem dMM_add_45 : decode b_MM_add 45 = .ok (.aload_n 0, 1) := by decide +kernel
theorem dMM_add_46 : decode b_MM_add 46 = .ok (.getfield 32, 3) := by decide +kernel
theorem dMM_add_49 : decode b_MM_add 49 = .ok (.bipush 120, 2) := by decide +kernel
theorem dMM_add_51 : decode b_MM_add 51 = .ok (.iload_n 1, 1) := by decide +kernel
theorem dMM_add_52 : decode b_MM_add 52 = .ok (.imul, 1) := by decide +kernel
theorem dMM_add_53 : decode b_MM_add 53 = .ok (.aload_n 0, 1) := by decide +kernel
theorem dMM_add_54 : decode b_MM_add 54 = .ok (.getfield 29, 3) := by decide +kernel
theorem dMM_add_57 : decode b_MM_add 57 = .ok (.iload_n 1, 1) := by decide +kernel
theorem dMM_add_58 : decode b_MM_add 58 = .ok (.iaload, 1) := by decide +kernel
theorem dMM_add_59 : decode b_MM_add 59 = .ok (.iadd, 1) := by decide +kernel
theorem dMM_add_60 : decode b_MM_add 60 = .ok (.iload_n 2, 1) := by decide +kernel
theorem dMM_add_61 : decode b_MM_add 61 = .ok (.iastore, 1) := by decide +kernel
theorem dMM_add_62 : decode b_MM_add 62 = .ok (.aload_n 0, 1) := by decide +kernel
theorem dMM_add_63 : decode b_MM_add 63 = .ok (.getfield 35, 3) := by decide +kernel
theorem dMM_add_66 : decode b_MM_add 66 = .ok (.bipush 120, 2) := by decide +kernel
theorem dMM_add_68 : decode b_MM_add 68 = .ok (.iload_n 1, 1) := by decide +kernel
theorem dMM_add_69 : decode b_MM_add 69 = .ok (.imul, 1) := by decide +kernel
theorem dMM_add_70 : decode b_MM_add 70 = .ok (.aload_n 0, 1) := by decide +kernel
theorem dMM_add_71 : decode b_MM_add 71 = .ok (.getfield 29, 3) := by decide +kernel
theorem dMM_add_74 : decode b_MM_add 74 = .ok (.iload_n 1, 1) := by decide +kernel
theorem dMM_add_75 : decode b_MM_add 75 = .ok (.iaload, 1) := by decide +kernel
theorem dMM_add_76 : decode b_MM_add 76 = .ok (.iadd, 1) := by decide +kernel
theorem dMM_add_77 : decode b_MM_add 77 = .ok (.iload_n 3, 1) := by decide +kernel
theorem dMM_add_78 : decode b_MM_add 78 = .ok (.iastore, 1) := by decide +kernel
theorem dMM_add_79 : decode b_MM_add 79 = .ok (.aload_n 0, 1) := by decide +kernel
theorem dMM_add_80 : decode b_MM_add 80 = .ok (.getfield 29, 3) := by decide +kernel
theorem dMM_add_83 : decode b_MM_add 83 = .ok (.iload_n 1, 1) := by decide +kernel
theorem dMM_add_84 : decode b_MM_add 84 = .ok (.dup2, 1) := by decide +kernel
theorem dMM_add_85 : decode b_MM_add 85 = .ok (.iaload, 1) := by decide +kernel
theorem dMM_add_86 : decode b_MM_add 86 = .ok (.iconst 1, 1) := by decide +kernel
theorem dMM_add_87 : decode b_MM_add 87 = .ok (.iadd, 1) := by decide +kernel
theorem dMM_add_88 : decode b_MM_add 88 = .ok (.iastore, 1) := by decide +kernel
theorem dMM_add_89 : decode b_MM_add 89 = .ok (.aload_n 0, 1) := by decide +kernel
theorem dMM_add_90 : decode b_MM_add 90 = .ok (.iconst 0, 1) := by decide +kernel
theorem dMM_add_91 : decode b_MM_add 91 = .ok (.putfield 98, 3) := by decide +kernel
theorem dMM_add_94 : decode b_MM_add 94 = .ok (.aload_n 0, 1) := by decide +kernel
theorem dMM_add_95 : decode b_MM_add 95 = .ok (.getfield 29, 3) := by decide +kernel
theorem dMM_add_98 : decode b_MM_add 98 = .ok (.iload_n 1, 1) := by decide +kernel
theorem dMM_add_99 : decode b_MM_add 99 = .ok (.iaload, 1) := by decide +kernel
theorem dMM_add_100 : decode b_MM_add 100 = .ok (.ireturn, 1) := by decide +kernel
theorem dMM_allGood_0 : decode b_MM_allGood 0 = .ok (.iconst 0, 1) := by decide +kernel
theorem dMM_allGood_1 : decode b_MM_allGood 1 = .ok (.istore_n 2, 1) := by decide +kernel
theorem dMM_allGood_2 : decode b_MM_allGood 2 = .ok (.iload_n 2, 1) := by decide +kernel
theorem dMM_allGood_3 : decode b_MM_allGood 3 = .ok (.bipush 8, 2) := by decide +kernel
theorem dMM_allGood_5 : decode b_MM_allGood 5 = .ok (.if_icmp .ge 25, 3) := by decide +kernel
theorem dMM_allGood_8 : decode b_MM_allGood 8 = .ok (.aload_n 0, 1) := by decide +kernel
theorem dMM_allGood_9 : decode b_MM_allGood 9 = .ok (.getfield 56, 3) := by decide +kernel
theorem dMM_allGood_12 : decode b_MM_allGood 12 = .ok (.iload_n 2, 1) := by decide +kernel
theorem dMM_allGood_13 : decode b_MM_allGood 13 = .ok (.iload_n 2, 1) := by decide +kernel
theorem dMM_allGood_14 : decode b_MM_allGood 14 = .ok (.iload_n 1, 1) := by decide +kernel
theorem dMM_allGood_15 : decode b_MM_allGood 15 = .ok (.if_icmp .ne 7, 3) := by decide +kernel
theorem dMM_allGood_18 : decode b_MM_allGood 18 = .ok (.iconst 1, 1) := by decide +kernel
theorem dMM_allGood_19 : decode b_MM_allGood 19 = .ok (.goto 4, 3) := by decide +kernel
theorem dMM_allGood_22 : decode b_MM_allGood 22 = .ok (.iconst 0, 1) := by decide +kernel
theorem dMM_allGood_23 : decode b_MM_allGood 23 = .ok (.bastore, 1) := by decide +kernel
theorem dMM_allGood_24 : decode b_MM_allGood 24 = .ok (.iinc 2 1, 3) := by decide +kernel
theorem dMM_allGood_27 : decode b_MM_allGood 27 = .ok (.goto (-25), 3) := by decide +kernel
theorem dMM_allGood_30 : decode b_MM_allGood 30 = .ok (.iconst 1, 1) := by decide +kernel
theorem dMM_allGood_31 : decode b_MM_allGood 31 = .ok (.istore_n 2, 1) := by decide +kernel
theorem dMM_allGood_32 : decode b_MM_allGood 32 = .ok (.iconst 0, 1) := by decide +kernel
theorem dMM_allGood_33 : decode b_MM_allGood 33 = .ok (.istore_n 3, 1) := by decide +kernel
theorem dMM_allGood_34 : decode b_MM_allGood 34 = .ok (.iload_n 3, 1) := by decide +kernel
theorem dMM_allGood_35 : decode b_MM_allGood 35 = .ok (.bipush 8, 2) := by decide +kernel
theorem dMM_allGood_37 : decode b_MM_allGood 37 = .ok (.if_icmp .ge 147, 3) := by decide +kernel
theorem dMM_allGood_40 : decode b_MM_allGood 40 = .ok (.iconst 0, 1) := by decide +kernel
theorem dMM_allGood_41 : decode b_MM_allGood 41 = .ok (.istore 4, 2) := by decide +kernel
theorem dMM_allGood_43 : decode b_MM_allGood 43 = .ok (.iload 4, 2) := by decide +kernel
theorem dMM_allGood_45 : decode b_MM_allGood 45 = .ok (.bipush 8, 2) := by decide +kernel
theorem dMM_allGood_47 : decode b_MM_allGood 47 = .ok (.if_icmp .ge 131, 3) := by decide +kernel
theorem dMM_allGood_50 : decode b_MM_allGood 50 = .ok (.iload_n 2, 1) := by decide +kernel
theorem dMM_allGood_51 : decode b_MM_allGood 51 = .ok (.ifCond .eq 36, 3) := by decide +kernel
theorem dMM_allGood_54 : decode b_MM_allGood 54 = .ok (.aload_n 0, 1) := by decide +kernel
theorem dMM_allGood_55 : decode b_MM_allGood 55 = .ok (.getfield 56, 3) := by decide +kernel
theorem dMM_allGood_58 : decode b_MM_allGood 58 = .ok (.iload 4, 2) := by decide +kernel
theorem dMM_allGood_60 : decode b_MM_allGood 60 = .ok (.baload, 1) := by decide +kernel
theorem dMM_allGood_61 : decode b_MM_allGood 61 = .ok (.ifCond .eq 22, 3) := by decide +kernel
theorem dMM_allGood_64 : decode b_MM_allGood 64 = .ok (.aload_n 0, 1) := by decide +kernel
theorem dMM_allGood_65 : decode b_MM_allGood 65 = .ok (.getfield 7, 3) := by decide +kernel
theorem dMM_allGood_68 : decode b_MM_allGood 68 = .ok (.iload 4, 2) := by decide +kernel
theorem dMM_allGood_70 : decode b_MM_allGood 70 = .ok (.baload, 1) := by decide +kernel
theorem dMM_allGood_71 : decode b_MM_allGood 71 = .ok (.ifCond .eq 16, 3) := by decide +kernel
theorem dMM_allGood_74 : decode b_MM_allGood 74 = .ok (.aload_n 0, 1) := by decide +kernel
theorem dMM_allGood_75 : decode b_MM_allGood 75 = .ok (.iload 4, 2) := by decide +kernel
theorem dMM_allGood_77 : decode b_MM_allGood 77 = .ok (.invokevirtual 145, 3) := by decide +kernel
theorem dMM_allGood_80 : decode b_MM_allGood 80 = .ok (.ifCond .eq 7, 3) := by decide +kernel
theorem dMM_allGood_83 : decode b_MM_allGood 83 = .ok (.iconst 1, 1) := by decide +kernel
theorem dMM_allGood_84 : decode b_MM_allGood 84 = .ok (.goto 4, 3) := by decide +kernel
theorem dMM_allGood_87 : decode b_MM_allGood 87 = .ok (.iconst 0, 1) := by decide +kernel
theorem dMM_allGood_88 : decode b_MM_allGood 88 = .ok (.istore_n 2, 1) := by decide +kernel
theorem dMM_allGood_89 : decode b_MM_allGood 89 = .ok (.iconst 0, 1) := by decide +kernel
theorem dMM_allGood_90 : decode b_MM_allGood 90 = .ok (.istore 5, 2) := by decide +kernel
theorem dMM_allGood_92 : decode b_MM_allGood 92 = .ok (.iload 5, 2) := by decide +kernel
theorem dMM_allGood_94 : decode b_MM_allGood 94 = .ok (.aload_n 0, 1) := by decide +kernel
theorem dMM_allGood_95 : decode b_MM_allGood 95 = .ok (.getfield 29, 3) := by decide +kernel
theorem dMM_allGood_98 : decode b_MM_allGood 98 = .ok (.iload 4, 2) := by decide +kernel
theorem dMM_allGood_100 : decode b_MM_allGood 100 = .ok (.iaload, 1) := by decide +kernel
theorem dMM_allGood_101 : decode b_MM_allGood 101 = .ok (.if_icmp .ge 71, 3) := by decide +kernel
theorem dMM_allGood_104 : decode b_MM_allGood 104 = .ok (.iload_n 2, 1) := by decide +kernel
theorem dMM_allGood_105 : decode b_MM_allGood 105 = .ok (.ifCond .eq 67, 3) := by decide +kernel
theorem dMM_allGood_108 : decode b_MM_allGood 108 = .ok (.aload_n 0, 1) := by decide +kernel
theorem dMM_allGood_109 : decode b_MM_allGood 109 = .ok (.getfield 56, 3) := by decide +kernel
theorem dMM_allGood_112 : decode b_MM_allGood 112 = .ok (.iload 4, 2) := by decide +kernel
theorem dMM_allGood_114 : decode b_MM_allGood 114 = .ok (.baload, 1) := by decide +kernel
theorem dMM_allGood_115 : decode b_MM_allGood 115 = .ok (.ifCond .eq 57, 3) := by decide +kernel
theorem dMM_allGood_118 : decode b_MM_allGood 118 = .ok (.aload_n 0, 1) := by decide +kernel
theorem dMM_allGood_119 : decode b_MM_allGood 119 = .ok (.getfield 38, 3) := by decide +kernel
theorem dMM_allGood_122 : decode b_MM_allGood 122 = .ok (.iload 5, 2) := by decide +kernel
theorem dMM_allGood_124 : decode b_MM_allGood 124 = .ok (.iaload, 1) := by decide +kernel
theorem dMM_allGood_125 : decode b_MM_allGood 125 = .ok (.iconst (-1), 1) := by decide +kernel
theorem dMM_allGood_126 : decode b_MM_allGood 126 = .ok (.if_icmp .eq 40, 3) := by decide +kernel
theorem dMM_allGood_129 : decode b_MM_allGood 129 = .ok (.aload_n 0, 1) := by decide +kernel
theorem dMM_allGood_130 : decode b_MM_allGood 130 = .ok (.getfield 32, 3) := by decide +kernel
theorem dMM_allGood_133 : decode b_MM_allGood 133 = .ok (.bipush 120, 2) := by decide +kernel
theorem dMM_allGood_135 : decode b_MM_allGood 135 = .ok (.iload 4, 2) := by decide +kernel
theorem dMM_allGood_137 : decode b_MM_allGood 137 = .ok (.imul, 1) := by decide +kernel
theorem dMM_allGood_138 : decode b_MM_allGood 138 = .ok (.iload 5, 2) := by decide +kernel
theorem dMM_allGood_140 : decode b_MM_allGood 140 = .ok (.iadd, 1) := by decide +kernel
theorem dMM_allGood_141 : decode b_MM_allGood 141 = .ok (.iaload, 1) := by decide +kernel
theorem dMM_allGood_142 : decode b_MM_allGood 142 = .ok (.bipush 23, 2) := by decide +kernel
theorem dMM_allGood_144 : decode b_MM_allGood 144 = .ok (.if_icmp .ne 22, 3) := by decide +kernel
theorem dMM_allGood_147 : decode b_MM_allGood 147 = .ok (.aload_n 0, 1) := by decide +kernel
theorem dMM_allGood_148 : decode b_MM_allGood 148 = .ok (.getfield 56, 3) := by decide +kernel
theorem dMM_allGood_151 : decode b_MM_allGood 151 = .ok (.aload_n 0, 1) := by decide +kernel
theorem dMM_allGood_152 : decode b_MM_allGood 152 = .ok (.getfield 35, 3) := by decide +kernel
theorem dMM_allGood_155 : decode b_MM_allGood 155 = .ok (.bipush 120, 2) := by decide +kernel
theorem dMM_allGood_157 : decode b_MM_allGood 157 = .ok (.iload 4, 2) := by decide +kernel
theorem dMM_allGood_159 : decode b_MM_allGood 159 = .ok (.imul, 1) := by decide +kernel
theorem dMM_allGood_160 : decode b_MM_allGood 160 = .ok (.iload 5, 2) := by decide +kernel
theorem dMM_allGood_162 : decode b_MM_allGood 162 = .ok (.iadd, 1) := by decide +kernel
theorem dMM_allGood_163 : decode b_MM_allGood 163 = .ok (.iaload, 1) := by decide +kernel
theorem dMM_allGood_164 : decode b_MM_allGood 164 = .ok (.iconst 1, 1) := by decide +kernel
theorem dMM_allGood_165 : decode b_MM_allGood 165 = .ok (.bastore, 1) := by decide +kernel
theorem dMM_allGood_166 : decode b_MM_allGood 166 = .ok (.iinc 5 1, 3) := by decide +kernel
theorem dMM_allGood_169 : decode b_MM_allGood 169 = .ok (.goto (-77), 3) := by decide +kernel
theorem dMM_allGood_172 : decode b_MM_allGood 172 = .ok (.iinc 4 1, 3) := by decide +kernel
theorem dMM_allGood_175 : decode b_MM_allGood 175 = .ok (.goto (-132), 3) := by decide +kernel
theorem dMM_allGood_178 : decode b_MM_allGood 178 = .ok (.iinc 3 1, 3) := by decide +kernel
theorem dMM_allGood_181 : decode b_MM_allGood 181 = .ok (.goto (-147), 3) := by decide +kernel
theorem dMM_allGood_184 : decode b_MM_allGood 184 = .ok (.iload_n 2, 1) := by decide +kernel
theorem dMM_allGood_185 : decode b_MM_allGood 185 = .ok (.ireturn, 1) := by decide +kernel
theorem dMM_back_0 : decode b_MM_back 0 = .ok (.aload_n 0, 1) := by decide +kernel
theorem dMM_back_1 : decode b_MM_back 1 = .ok (.getfield 59, 3) := by decide +kernel
theorem dMM_back_4 : decode b_MM_back 4 = .ok (.aload_n 0, 1) := by decide +kernel
theorem dMM_back_5 : decode b_MM_back 5 = .ok (.getfield 154, 3) := by decide +kernel
theorem dMM_back_8 : decode b_MM_back 8 = .ok (.iconst 1, 1) := by decide +kernel
theorem dMM_back_9 : decode b_MM_back 9 = .ok (.isub, 1) := by decide +kernel
theorem dMM_back_10 : decode b_MM_back 10 = .ok (.iaload, 1) := by decide +kernel
theorem dMM_back_11 : decode b_MM_back 11 = .ok (.istore_n 1, 1) := by decide +kernel
theorem dMM_back_12 : decode b_MM_back 12 = .ok (.aload_n 0, 1) := by decide +kernel
theorem dMM_back_13 : decode b_MM_back 13 = .ok (.getfield 20, 3) := by decide +kernel
theorem dMM_back_16 : decode b_MM_back 16 = .ok (.iload_n 1, 1) := by decide +kernel
theorem dMM_back_17 : decode b_MM_back 17 = .ok (.iaload, 1) := by decide +kernel
theorem dMM_back_18 : decode b_MM_back 18 = .ok (.ifCond .le 10, 3) := by decide +kernel
theorem dMM_back_21 : decode b_MM_back 21 = .ok (.aload_n 0, 1) := by decide +kernel
theorem dMM_back_22 : decode b_MM_back 22 = .ok (.invokevirtual 185, 3) := by decide +kernel
theorem dMM_back_25 : decode b_MM_back 25 = .ok (.goto 4, 3) := by decide +kernel
theorem dMM_back_28 : decode b_MM_back 28 = .ok (.iconst 0, 1) := by decide +kernel
theorem dMM_back_29 : decode b_MM_back 29 = .ok (.istore_n 2, 1) := by decide +kernel
theorem dMM_back_30 : decode b_MM_back 30 = .ok (.aload_n 0, 1) := by decide +kernel
theorem dMM_back_31 : decode b_MM_back 31 = .ok (.dup, 1) := by decide +kernel
theorem dMM_back_32 : decode b_MM_back 32 = .ok (.getfield 154, 3) := by decide +kernel
theorem dMM_back_35 : decode b_MM_back 35 = .ok (.iconst 1, 1) := by decide +kernel
theorem dMM_back_36 : decode b_MM_back 36 = .ok (.isub, 1) := by decide +kernel
theorem dMM_back_37 : decode b_MM_back 37 = .ok (.putfield 154, 3) := by decide +kernel
theorem dMM_back_40 : decode b_MM_back 40 = .ok (.aload_n 0, 1) := by decide +kernel
theorem dMM_back_41 : decode b_MM_back 41 = .ok (.getfield 154, 3) := by decide +kernel
theorem dMM_back_44 : decode b_MM_back 44 = .ok (.ifCond .ne 11, 3) := by decide +kernel
theorem dMM_back_47 : decode b_MM_back 47 = .ok (.aload_n 0, 1) := by decide +kernel
theorem dMM_back_48 : decode b_MM_back 48 = .ok (.iload_n 2, 1) := by decide +kernel
theorem dMM_back_49 : decode b_MM_back 49 = .ok (.putfield 170, 3) := by decide +kernel
theorem dMM_back_52 : decode b_MM_back 52 = .ok (.goto 17, 3) := by decide +kernel
theorem dMM_back_55 : decode b_MM_back 55 = .ok (.aload_n 0, 1) := by decide +kernel
theorem dMM_back_56 : decode b_MM_back 56 = .ok (.getfield 20, 3) := by decide +kernel
theorem dMM_back_59 : decode b_MM_back 59 = .ok (.iload_n 1, 1) := by decide +kernel
theorem dMM_back_60 : decode b_MM_back 60 = .ok (.iaload, 1) := by decide +kernel
theorem dMM_back_61 : decode b_MM_back 61 = .ok (.ifCond .le 8, 3) := by decide +kernel
theorem dMM_back_64 : decode b_MM_back 64 = .ok (.aload_n 0, 1) := by decide +kernel
theorem dMM_back_65 : decode b_MM_back 65 = .ok (.iload_n 2, 1) := by decide +kernel
theorem dMM_back_66 : decode b_MM_back 66 = .ok (.invokevirtual 189, 3) := by decide +kernel
theorem dMM_back_69 : decode b_MM_back 69 = .ok (.return_, 1) := by decide +kernel
theorem dMM_call_0 : decode b_MM_call 0 = .ok (.aload_n 0, 1) := by decide +kernel
theorem dMM_call_1 : decode b_MM_call 1 = .ok (.iload_n 1, 1) := by decide +kernel
theorem dMM_call_2 : decode b_MM_call 2 = .ok (.invokevirtual 102, 3) := by decide +kernel
theorem dMM_call_5 : decode b_MM_call 5 = .ok (.ifCond .ne 9, 3) := by decide +kernel
theorem dMM_call_8 : decode b_MM_call 8 = .ok (.aload_n 0, 1) := by decide +kernel
theorem dMM_call_9 : decode b_MM_call 9 = .ok (.iconst 1, 1) := by decide +kernel
theorem dMM_call_10 : decode b_MM_call 10 = .ok (.putfield 113, 3) := by decide +kernel
theorem dMM_call_13 : decode b_MM_call 13 = .ok (.return_, 1) := by decide +kernel
theorem dMM_call_14 : decode b_MM_call 14 = .ok (.aload_n 0, 1) := by decide +kernel
theorem dMM_call_15 : decode b_MM_call 15 = .ok (.getfield 13, 3) := by decide +kernel
theorem dMM_call_18 : decode b_MM_call 18 = .ok (.iload_n 1, 1) := by decide +kernel
theorem dMM_call_19 : decode b_MM_call 19 = .ok (.iaload, 1) := by decide +kernel
theorem dMM_call_20 : decode b_MM_call 20 = .ok (.iconst 1, 1) := by decide +kernel
theorem dMM_call_21 : decode b_MM_call 21 = .ok (.isub, 1) := by decide +kernel
theorem dMM_call_22 : decode b_MM_call 22 = .ok (.istore_n 2, 1) := by decide +kernel
theorem dMM_call_23 : decode b_MM_call 23 = .ok (.iload_n 2, 1) := by decide +kernel
theorem dMM_call_24 : decode b_MM_call 24 = .ok (.ifCond .lt 33, 3) := by decide +kernel
theorem dMM_call_27 : decode b_MM_call 27 = .ok (.aload_n 0, 1) := by decide +kernel
theorem dMM_call_28 : decode b_MM_call 28 = .ok (.aload_n 0, 1) := by decide +kernel
theorem dMM_call_29 : decode b_MM_call 29 = .ok (.getfield 17, 3) := by decide +kernel
theorem dMM_call_32 : decode b_MM_call 32 = .ok (.iload_n 1, 1) := by decide +kernel
theorem dMM_call_33 : decode b_MM_call 33 = .ok (.iaload, 1) := by decide +kernel
theorem dMM_call_34 : decode b_MM_call 34 = .ok (.iload_n 2, 1) := by decide +kernel
theorem dMM_call_35 : decode b_MM_call 35 = .ok (.ishr, 1) := by decide +kernel
theorem dMM_call_36 : decode b_MM_call 36 = .ok (.iconst 1, 1) := by decide +kernel
theorem dMM_call_37 : decode b_MM_call 37 = .ok (.iand, 1) := by decide +kernel
theorem dMM_call_38 : decode b_MM_call 38 = .ok (.iconst 1, 1) := by decide +kernel
theorem dMM_call_39 : decode b_MM_call 39 = .ok (.if_icmp .ne 7, 3) := by decide +kernel
theorem dMM_call_42 : decode b_MM_call 42 = .ok (.iconst 2, 1) := by decide +kernel
theorem dMM_call_43 : decode b_MM_call 43 = .ok (.goto 4, 3) := by decide +kernel
theorem dMM_call_46 : decode b_MM_call 46 = .ok (.iconst 1, 1) := by decide +kernel
theorem dMM_call_47 : decode b_MM_call 47 = .ok (.invokevirtual 120, 3) := by decide +kernel
theorem dMM_call_50 : decode b_MM_call 50 = .ok (.istore_n 3, 1) := by decide +kernel
theorem dMM_call_51 : decode b_MM_call 51 = .ok (.iinc 2 (-1), 3) := by decide +kernel
theorem dMM_call_54 : decode b_MM_call 54 = .ok (.goto (-31), 3) := by decide +kernel
theorem dMM_call_57 : decode b_MM_call 57 = .ok (.aload_n 0, 1) := by decide +kernel
theorem dMM_call_58 : decode b_MM_call 58 = .ok (.getfield 20, 3) := by decide +kernel
theorem dMM_call_61 : decode b_MM_call 61 = .ok (.iload_n 1, 1) := by decide +kernel
theorem dMM_call_62 : decode b_MM_call 62 = .ok (.iaload, 1) := by decide +kernel
theorem dMM_call_63 : decode b_MM_call 63 = .ok (.ifCond .le 13, 3) := by decide +kernel
theorem dMM_call_66 : decode b_MM_call 66 = .ok (.aload_n 0, 1) := by decide +kernel
theorem dMM_call_67 : decode b_MM_call 67 = .ok (.aload_n 0, 1) := by decide +kernel
theorem dMM_call_68 : decode b_MM_call 68 = .ok (.getfield 20, 3) := by decide +kernel
theorem dMM_call_71 : decode b_MM_call 71 = .ok (.iload_n 1, 1) := by decide +kernel
theorem dMM_call_72 : decode b_MM_call 72 = .ok (.iaload, 1) := by decide +kernel
theorem dMM_call_73 : decode b_MM_call 73 = .ok (.invokevirtual 116, 3) := by decide +kernel
theorem dMM_call_76 : decode b_MM_call 76 = .ok (.return_, 1) := by decide +kernel
theorem dMM_cell_0 : decode b_MM_cell 0 = .ok (.aload_n 0, 1) := by decide +kernel
theorem dMM_cell_1 : decode b_MM_cell 1 = .ok (.getfield 98, 3) := by decide +kernel
theorem dMM_cell_4 : decode b_MM_cell 4 = .ok (.ifCond .eq 19, 3) := by decide +kernel
theorem dMM_cell_7 : decode b_MM_cell 7 = .ok (.iload_n 1, 1) := by decide +kernel
theorem dMM_cell_8 : decode b_MM_cell 8 = .ok (.ifCond .lt 15, 3) := by decide +kernel
theorem dMM_cell_11 : decode b_MM_cell 11 = .ok (.iload_n 1, 1) := by decide +kernel
theorem dMM_cell_12 : decode b_MM_cell 12 = .ok (.aload_n 0, 1) := by decide +kernel
theorem dMM_cell_13 : decode b_MM_cell 13 = .ok (.getfield 148, 3) := by decide +kernel
theorem dMM_cell_16 : decode b_MM_cell 16 = .ok (.if_icmp .ge 7, 3) := by decide +kernel
theorem dMM_cell_19 : decode b_MM_cell 19 = .ok (.iconst 1, 1) := by decide +kernel
theorem dMM_cell_20 : decode b_MM_cell 20 = .ok (.goto 4, 3) := by decide +kernel
theorem dMM_cell_23 : decode b_MM_cell 23 = .ok (.iconst 0, 1) := by decide +kernel
theorem dMM_cell_24 : decode b_MM_cell 24 = .ok (.istore_n 3, 1) := by decide +kernel
theorem dMM_cell_25 : decode b_MM_cell 25 = .ok (.iload_n 3, 1) := by decide +kernel
theorem dMM_cell_26 : decode b_MM_cell 26 = .ok (.ifCond .eq 22, 3) := by decide +kernel
theorem dMM_cell_29 : decode b_MM_cell 29 = .ok (.iload_n 2, 1) := by decide +kernel
theorem dMM_cell_30 : decode b_MM_cell 30 = .ok (.iconst (-1), 1) := by decide +kernel
theorem dMM_cell_31 : decode b_MM_cell 31 = .ok (.if_icmp .lt 17, 3) := by decide +kernel
theorem dMM_cell_34 : decode b_MM_cell 34 = .ok (.iload_n 2, 1) := by decide +kernel
theorem dMM_cell_35 : decode b_MM_cell 35 = .ok (.aload_n 0, 1) := by decide +kernel
theorem dMM_cell_36 : decode b_MM_cell 36 = .ok (.getfield 77, 3) := by decide +kernel
theorem dMM_cell_39 : decode b_MM_cell 39 = .ok (.iload_n 1, 1) := by decide +kernel
theorem dMM_cell_40 : decode b_MM_cell 40 = .ok (.iaload, 1) := by decide +kernel
theorem dMM_cell_41 : decode b_MM_cell 41 = .ok (.if_icmp .ge 7, 3) := by decide +kernel
theorem dMM_cell_44 : decode b_MM_cell 44 = .ok (.iconst 1, 1) := by decide +kernel
theorem dMM_cell_45 : decode b_MM_cell 45 = .ok (.goto 4, 3) := by decide +kernel
theorem dMM_cell_48 : decode b_MM_cell 48 = .ok (.iconst 0, 1) := by decide +kernel
theorem dMM_cell_49 : decode b_MM_cell 49 = .ok (.istore_n 3, 1) := by decide +kernel
theorem dMM_cell_50 : decode b_MM_cell 50 = .ok (.aload_n 0, 1) := by decide +kernel
theorem dMM_cell_51 : decode b_MM_cell 51 = .ok (.iload_n 3, 1) := by decide +kernel
theorem dMM_cell_52 : decode b_MM_cell 52 = .ok (.iconst 1, 1) := by decide +kernel
theorem dMM_cell_53 : decode b_MM_cell 53 = .ok (.iconst 1, 1) := by decide +kernel
theorem dMM_cell_54 : decode b_MM_cell 54 = .ok (.invokevirtual 94, 3) := by decide +kernel
theorem dMM_cell_57 : decode b_MM_cell 57 = .ok (.ifCond .ne 5, 3) := by decide +kernel
theorem dMM_cell_60 : decode b_MM_cell 60 = .ok (.iconst 0, 1) := by decide +kernel
theorem dMM_cell_61 : decode b_MM_cell 61 = .ok (.ireturn, 1) := by decide +kernel
theorem dMM_cell_62 : decode b_MM_cell 62 = .ok (.iload_n 2, 1) := by decide +kernel
theorem dMM_cell_63 : decode b_MM_cell 63 = .ok (.iconst (-1), 1) := by decide +kernel
theorem dMM_cell_64 : decode b_MM_cell 64 = .ok (.if_icmp .ne 12, 3) := by decide +kernel
theorem dMM_cell_67 : decode b_MM_cell 67 = .ok (.aload_n 0, 1) := by decide +kernel
theorem dMM_cell_68 : decode b_MM_cell 68 = .ok (.getfield 77, 3) := by decide +kernel
theorem dMM_cell_71 : decode b_MM_cell 71 = .ok (.iload_n 1, 1) := by decide +kernel
theorem dMM_cell_72 : decode b_MM_cell 72 = .ok (.iaload, 1) := by decide +kernel
theorem dMM_cell_73 : decode b_MM_cell 73 = .ok (.goto 16, 3) := by decide +kernel
theorem dMM_cell_76 : decode b_MM_cell 76 = .ok (.aload_n 0, 1) := by decide +kernel
theorem dMM_cell_77 : decode b_MM_cell 77 = .ok (.getfield 80, 3) := by decide +kernel
theorem dMM_cell_80 : decode b_MM_cell 80 = .ok (.aload_n 0, 1) := by decide +kernel
theorem dMM_cell_81 : decode b_MM_cell 81 = .ok (.getfield 74, 3) := by decide +kernel
theorem dMM_cell_84 : decode b_MM_cell 84 = .ok (.iload_n 1, 1) := by decide +kernel
theorem dMM_cell_85 : decode b_MM_cell 85 = .ok (.iaload, 1) := by decide +kernel
theorem dMM_cell_86 : decode b_MM_cell 86 = .ok (.iload_n 2, 1) := by decide +kernel
theorem dMM_cell_87 : decode b_MM_cell 87 = .ok (.iadd, 1) := by decide +kernel
theorem dMM_cell_88 : decode b_MM_cell 88 = .ok (.iaload, 1) := by decide +kernel
theorem dMM_cell_89 : decode b_MM_cell 89 = .ok (.ireturn, 1) := by decide +kernel
theorem dMM_come_0 : decode b_MM_come 0 = .ok (.iload_n 2, 1) := by decide +kernel
theorem dMM_come_1 : decode b_MM_come 1 = .ok (.ifCond .lt 13, 3) := by decide +kernel
theorem dMM_come_4 : decode b_MM_come 4 = .ok (.iload_n 2, 1) := by decide +kernel
theorem dMM_come_5 : decode b_MM_come 5 = .ok (.aload_n 0, 1) := by decide +kernel
theorem dMM_come_6 : decode b_MM_come 6 = .ok (.getfield 29, 3) := by decide +kernel
theorem dMM_come_9 : decode b_MM_come 9 = .ok (.iload_n 1, 1) := by decide +kernel
theorem dMM_come_10 : decode b_MM_come 10 = .ok (.iaload, 1) := by decide +kernel
theorem dMM_come_11 : decode b_MM_come 11 = .ok (.if_icmp .lt 9, 3) := by decide +kernel
theorem dMM_come_14 : decode b_MM_come 14 = .ok (.aload_n 0, 1) := by decide +kernel
theorem dMM_come_15 : decode b_MM_come 15 = .ok (.iconst 1, 1) := by decide +kernel
theorem dMM_come_16 : decode b_MM_come 16 = .ok (.putfield 113, 3) := by decide +kernel
theorem dMM_come_19 : decode b_MM_come 19 = .ok (.return_, 1) := by decide +kernel
theorem dMM_come_20 : decode b_MM_come 20 = .ok (.aload_n 0, 1) := by decide +kernel
theorem dMM_come_21 : decode b_MM_come 21 = .ok (.getfield 38, 3) := by decide +kernel
theorem dMM_come_24 : decode b_MM_come 24 = .ok (.iload_n 2, 1) := by decide +kernel
theorem dMM_come_25 : decode b_MM_come 25 = .ok (.iaload, 1) := by decide +kernel
theorem dMM_come_26 : decode b_MM_come 26 = .ok (.iconst (-1), 1) := by decide +kernel
theorem dMM_come_27 : decode b_MM_come 27 = .ok (.if_icmp .ne 85, 3) := by decide +kernel
theorem dMM_come_30 : decode b_MM_come 30 = .ok (.aload_n 0, 1) := by decide +kernel
theorem dMM_come_31 : decode b_MM_come 31 = .ok (.getfield 38, 3) := by decide +kernel
theorem dMM_come_34 : decode b_MM_come 34 = .ok (.iload_n 2, 1) := by decide +kernel
theorem dMM_come_35 : decode b_MM_come 35 = .ok (.aload_n 0, 1) := by decide +kernel
theorem dMM_come_36 : decode b_MM_come 36 = .ok (.getfield 110, 3) := by decide +kernel
theorem dMM_come_39 : decode b_MM_come 39 = .ok (.iastore, 1) := by decide +kernel
theorem dMM_come_40 : decode b_MM_come 40 = .ok (.iconst 0, 1) := by decide +kernel
theorem dMM_come_41 : decode b_MM_come 41 = .ok (.istore_n 3, 1) := by decide +kernel
theorem dMM_come_42 : decode b_MM_come 42 = .ok (.iload_n 3, 1) := by decide +kernel
theorem dMM_come_43 : decode b_MM_come 43 = .ok (.aload_n 0, 1) := by decide +kernel
theorem dMM_come_44 : decode b_MM_come 44 = .ok (.getfield 110, 3) := by decide +kernel
theorem dMM_come_47 : decode b_MM_come 47 = .ok (.if_icmp .ge 26, 3) := by decide +kernel
theorem dMM_come_50 : decode b_MM_come 50 = .ok (.aload_n 0, 1) := by decide +kernel
theorem dMM_come_51 : decode b_MM_come 51 = .ok (.getfield 41, 3) := by decide +kernel
theorem dMM_come_54 : decode b_MM_come 54 = .ok (.bipush 16, 2) := by decide +kernel
theorem dMM_come_56 : decode b_MM_come 56 = .ok (.iload_n 2, 1) := by decide +kernel
theorem dMM_come_57 : decode b_MM_come 57 = .ok (.imul, 1) := by decide +kernel
theorem dMM_come_58 : decode b_MM_come 58 = .ok (.iload_n 3, 1) := by decide +kernel
theorem dMM_come_59 : decode b_MM_come 59 = .ok (.iadd, 1) := by decide +kernel
theorem dMM_come_60 : decode b_MM_come 60 = .ok (.aload_n 0, 1) := by decide +kernel
theorem dMM_come_61 : decode b_MM_come 61 = .ok (.getfield 50, 3) := by decide +kernel
theorem dMM_come_64 : decode b_MM_come 64 = .ok (.iload_n 3, 1) := by decide +kernel
theorem dMM_come_65 : decode b_MM_come 65 = .ok (.iaload, 1) := by decide +kernel
theorem dMM_come_66 : decode b_MM_come 66 = .ok (.iastore, 1) := by decide +kernel
theorem dMM_come_67 : decode b_MM_come 67 = .ok (.iinc 3 1, 3) := by decide +kernel
theorem dMM_come_70 : decode b_MM_come 70 = .ok (.goto (-28), 3) := by decide +kernel
theorem dMM_come_73 : decode b_MM_come 73 = .ok (.iconst 0, 1) := by decide +kernel
theorem dMM_come_74 : decode b_MM_come 74 = .ok (.istore_n 3, 1) := by decide +kernel
theorem dMM_come_75 : decode b_MM_come 75 = .ok (.iload_n 3, 1) := by decide +kernel
theorem dMM_come_76 : decode b_MM_come 76 = .ok (.bipush 10, 2) := by decide +kernel
theorem dMM_come_78 : decode b_MM_come 78 = .ok (.if_icmp .ge 26, 3) := by decide +kernel
theorem dMM_come_81 : decode b_MM_come 81 = .ok (.aload_n 0, 1) := by decide +kernel
theorem dMM_come_82 : decode b_MM_come 82 = .ok (.getfield 44, 3) := by decide +kernel
theorem dMM_come_85 : decode b_MM_come 85 = .ok (.bipush 10, 2) := by decide +kernel
theorem dMM_come_87 : decode b_MM_come 87 = .ok (.iload_n 2, 1) := by decide +kernel
theorem dMM_come_88 : decode b_MM_come 88 = .ok (.imul, 1) := by decide +kernel
theorem dMM_come_89 : decode b_MM_come 89 = .ok (.iload_n 3, 1) := by decide +kernel
theorem dMM_come_90 : decode b_MM_come 90 = .ok (.iadd, 1) := by decide +kernel
theorem dMM_come_91 : decode b_MM_come 91 = .ok (.aload_n 0, 1) := by decide +kernel
theorem dMM_come_92 : decode b_MM_come 92 = .ok (.getfield 53, 3) := by decide +kernel
theorem dMM_come_95 : decode b_MM_come 95 = .ok (.iload_n 3, 1) := by decide +kernel
theorem dMM_come_96 : decode b_MM_come 96 = .ok (.iaload, 1) := by decide +kernel
theorem dMM_come_97 : decode b_MM_come 97 = .ok (.iastore, 1) := by decide +kernel
theorem dMM_come_98 : decode b_MM_come 98 = .ok (.iinc 3 1, 3) := by decide +kernel
theorem dMM_come_101 : decode b_MM_come 101 = .ok (.goto (-26), 3) := by decide +kernel
theorem dMM_come_104 : decode b_MM_come 104 = .ok (.aload_n 0, 1) := by decide +kernel
theorem dMM_come_105 : decode b_MM_come 105 = .ok (.getfield 47, 3) := by decide +kernel
theorem dMM_come_108 : decode b_MM_come 108 = .ok (.iload_n 2, 1) := by decide +kernel
theorem dMM_come_109 : decode b_MM_come 109 = .ok (.iconst 1, 1) := by decide +kernel
theorem dMM_come_110 : decode b_MM_come 110 = .ok (.bastore, 1) := by decide +kernel
theorem dMM_come_111 : decode b_MM_come 111 = .ok (.return_, 1) := by decide +kernel
theorem dMM_come_112 : decode b_MM_come 112 = .ok (.aload_n 0, 1) := by decide +kernel
theorem dMM_come_113 : decode b_MM_come 113 = .ok (.aload_n 0, 1) := by decide +kernel
theorem dMM_come_114 : decode b_MM_come 114 = .ok (.getfield 113, 3) := by decide +kernel
theorem dMM_come_117 : decode b_MM_come 117 = .ok (.ifCond .ne 16, 3) := by decide +kernel
theorem dMM_come_120 : decode b_MM_come 120 = .ok (.aload_n 0, 1) := by decide +kernel
theorem dMM_come_121 : decode b_MM_come 121 = .ok (.getfield 38, 3) := by decide +kernel
theorem dMM_come_124 : decode b_MM_come 124 = .ok (.iload_n 2, 1) := by decide +kernel
theorem dMM_come_125 : decode b_MM_come 125 = .ok (.iaload, 1) := by decide +kernel
theorem dMM_come_126 : decode b_MM_come 126 = .ok (.aload_n 0, 1) := by decide +kernel
theorem dMM_come_127 : decode b_MM_come 127 = .ok (.getfield 110, 3) := by decide +kernel
theorem dMM_come_130 : decode b_MM_come 130 = .ok (.if_icmp .eq 7, 3) := by decide +kernel
theorem dMM_come_133 : decode b_MM_come 133 = .ok (.iconst 1, 1) := by decide +kernel
theorem dMM_come_134 : decode b_MM_come 134 = .ok (.goto 4, 3) := by decide +kernel
theorem dMM_come_137 : decode b_MM_come 137 = .ok (.iconst 0, 1) := by decide +kernel
theorem dMM_come_138 : decode b_MM_come 138 = .ok (.putfield 113, 3) := by decide +kernel
theorem dMM_come_141 : decode b_MM_come 141 = .ok (.iconst 0, 1) := by decide +kernel
theorem dMM_come_142 : decode b_MM_come 142 = .ok (.istore_n 3, 1) := by decide +kernel
theorem dMM_come_143 : decode b_MM_come 143 = .ok (.iload_n 3, 1) := by decide +kernel
theorem dMM_come_144 : decode b_MM_come 144 = .ok (.aload_n 0, 1) := by decide +kernel
theorem dMM_come_145 : decode b_MM_come 145 = .ok (.getfield 110, 3) := by decide +kernel
theorem dMM_come_148 : decode b_MM_come 148 = .ok (.if_icmp .ge 45, 3) := by decide +kernel
theorem dMM_come_151 : decode b_MM_come 151 = .ok (.aload_n 0, 1) := by decide +kernel
theorem dMM_come_152 : decode b_MM_come 152 = .ok (.getfield 113, 3) := by decide +kernel
theorem dMM_come_155 : decode b_MM_come 155 = .ok (.ifCond .ne 38, 3) := by decide +kernel
theorem dMM_come_158 : decode b_MM_come 158 = .ok (.aload_n 0, 1) := by decide +kernel
theorem dMM_come_159 : decode b_MM_come 159 = .ok (.aload_n 0, 1) := by decide +kernel
theorem dMM_come_160 : decode b_MM_come 160 = .ok (.getfield 41, 3) := by decide +kernel
theorem dMM_come_163 : decode b_MM_come 163 = .ok (.bipush 16, 2) := by decide +kernel
theorem dMM_come_165 : decode b_MM_come 165 = .ok (.iload_n 2, 1) := by decide +kernel
theorem dMM_come_166 : decode b_MM_come 166 = .ok (.imul, 1) := by decide +kernel
theorem dMM_come_167 : decode b_MM_come 167 = .ok (.iload_n 3, 1) := by decide +kernel
theorem dMM_come_168 : decode b_MM_come 168 = .ok (.iadd, 1) := by decide +kernel
theorem dMM_come_169 : decode b_MM_come 169 = .ok (.iaload, 1) := by decide +kernel
theorem dMM_come_170 : decode b_MM_come 170 = .ok (.aload_n 0, 1) := by decide +kernel
theorem dMM_come_171 : decode b_MM_come 171 = .ok (.getfield 50, 3) := by decide +kernel
theorem dMM_come_174 : decode b_MM_come 174 = .ok (.iload_n 3, 1) := by decide +kernel
theorem dMM_come_175 : decode b_MM_come 175 = .ok (.iaload, 1) := by decide +kernel
theorem dMM_come_176 : decode b_MM_come 176 = .ok (.if_icmp .eq 7, 3) := by decide +kernel
theorem dMM_come_179 : decode b_MM_come 179 = .ok (.iconst 1, 1) := by decide +kernel
theorem dMM_come_180 : decode b_MM_come 180 = .ok (.goto 4, 3) := by decide +kernel
theorem dMM_come_183 : decode b_MM_come 183 = .ok (.iconst 0, 1) := by decide +kernel
theorem dMM_come_184 : decode b_MM_come 184 = .ok (.putfield 113, 3) := by decide +kernel
theorem dMM_come_187 : decode b_MM_come 187 = .ok (.iinc 3 1, 3) := by decide +kernel
theorem dMM_come_190 : decode b_MM_come 190 = .ok (.goto (-47), 3) := by decide +kernel
theorem dMM_come_193 : decode b_MM_come 193 = .ok (.iconst 0, 1) := by decide +kernel
theorem dMM_come_194 : decode b_MM_come 194 = .ok (.istore_n 3, 1) := by decide +kernel
theorem dMM_come_195 : decode b_MM_come 195 = .ok (.iload_n 3, 1) := by decide +kernel
theorem dMM_come_196 : decode b_MM_come 196 = .ok (.bipush 10, 2) := by decide +kernel
theorem dMM_come_198 : decode b_MM_come 198 = .ok (.if_icmp .ge 106, 3) := by decide +kernel
theorem dMM_come_201 : decode b_MM_come 201 = .ok (.aload_n 0, 1) := by decide +kernel
theorem dMM_come_202 : decode b_MM_come 202 = .ok (.getfield 44, 3) := by decide +kernel
theorem dMM_come_205 : decode b_MM_come 205 = .ok (.bipush 10, 2) := by decide +kernel
theorem dMM_come_207 : decode b_MM_come 207 = .ok (.iload_n 2, 1) := by decide +kernel
theorem dMM_come_208 : decode b_MM_come 208 = .ok (.imul, 1) := by decide +kernel
theorem dMM_come_209 : decode b_MM_come 209 = .ok (.iload_n 3, 1) := by decide +kernel
theorem dMM_come_210 : decode b_MM_come 210 = .ok (.iadd, 1) := by decide +kernel
theorem dMM_come_211 : decode b_MM_come 211 = .ok (.iaload, 1) := by decide +kernel
theorem dMM_come_212 : decode b_MM_come 212 = .ok (.ifCond .eq 27, 3) := by decide +kernel
theorem dMM_come_215 : decode b_MM_come 215 = .ok (.aload_n 0, 1) := by decide +kernel
theorem dMM_come_216 : decode b_MM_come 216 = .ok (.getfield 44, 3) := by decide +kernel
theorem dMM_come_219 : decode b_MM_come 219 = .ok (.bipush 10, 2) := by decide +kernel
theorem dMM_come_221 : decode b_MM_come 221 = .ok (.iload_n 2, 1) := by decide +kernel
theorem dMM_come_222 : decode b_MM_come 222 = .ok (.imul, 1) := by decide +kernel
theorem dMM_come_223 : decode b_MM_come 223 = .ok (.iload_n 3, 1) := by decide +kernel
theorem dMM_come_224 : decode b_MM_come 224 = .ok (.iadd, 1) := by decide +kernel
theorem dMM_come_225 : decode b_MM_come 225 = .ok (.iaload, 1) := by decide +kernel
theorem dMM_come_226 : decode b_MM_come 226 = .ok (.aload_n 0, 1) := by decide +kernel
theorem dMM_come_227 : decode b_MM_come 227 = .ok (.getfield 53, 3) := by decide +kernel
theorem dMM_come_230 : decode b_MM_come 230 = .ok (.iload_n 3, 1) := by decide +kernel
theorem dMM_come_231 : decode b_MM_come 231 = .ok (.iaload, 1) := by decide +kernel
theorem dMM_come_232 : decode b_MM_come 232 = .ok (.if_icmp .eq 7, 3) := by decide +kernel
theorem dMM_come_235 : decode b_MM_come 235 = .ok (.iconst 1, 1) := by decide +kernel
theorem dMM_come_236 : decode b_MM_come 236 = .ok (.goto 4, 3) := by decide +kernel
theorem dMM_come_239 : decode b_MM_come 239 = .ok (.iconst 0, 1) := by decide +kernel
theorem dMM_come_240 : decode b_MM_come 240 = .ok (.istore 4, 2) := by decide +kernel
theorem dMM_come_242 : decode b_MM_come 242 = .ok (.aload_n 0, 1) := by decide +kernel
theorem dMM_come_243 : decode b_MM_come 243 = .ok (.getfield 44, 3) := by decide +kernel
theorem dMM_come_246 : decode b_MM_come 246 = .ok (.bipush 10, 2) := by decide +kernel
theorem dMM_come_248 : decode b_MM_come 248 = .ok (.iload_n 2, 1) := by decide +kernel
theorem dMM_come_249 : decode b_MM_come 249 = .ok (.imul, 1) := by decide +kernel
theorem dMM_come_250 : decode b_MM_come 250 = .ok (.iload_n 3, 1) := by decide +kernel
theorem dMM_come_251 : decode b_MM_come 251 = .ok (.iadd, 1) := by decide +kernel
theorem dMM_come_252 : decode b_MM_come 252 = .ok (.iload 4, 2) := by decide +kernel
theorem dMM_come_254 : decode b_MM_come 254 = .ok (.ifCond .eq 7, 3) := by decide +kernel
theorem dMM_come_257 : decode b_MM_come 257 = .ok (.iconst 0, 1) := by decide +kernel
theorem dMM_come_258 : decode b_MM_come 258 = .ok (.goto 14, 3) := by decide +kernel
theorem dMM_come_261 : decode b_MM_come 261 = .ok (.aload_n 0, 1) := by decide +kernel
theorem dMM_come_262 : decode b_MM_come 262 = .ok (.getfield 44, 3) := by decide +kernel
theorem dMM_come_265 : decode b_MM_come 265 = .ok (.bipush 10, 2) := by decide +kernel
theorem dMM_come_267 : decode b_MM_come 267 = .ok (.iload_n 2, 1) := by decide +kernel
theorem dMM_come_268 : decode b_MM_come 268 = .ok (.imul, 1) := by decide +kernel
theorem dMM_come_269 : decode b_MM_come 269 = .ok (.iload_n 3, 1) := by decide +kernel
theorem dMM_come_270 : decode b_MM_come 270 = .ok (.iadd, 1) := by decide +kernel
theorem dMM_come_271 : decode b_MM_come 271 = .ok (.iaload, 1) := by decide +kernel
theorem dMM_come_272 : decode b_MM_come 272 = .ok (.iastore, 1) := by decide +kernel
theorem dMM_come_273 : decode b_MM_come 273 = .ok (.aload_n 0, 1) := by decide +kernel
theorem dMM_come_274 : decode b_MM_come 274 = .ok (.getfield 47, 3) := by decide +kernel
theorem dMM_come_277 : decode b_MM_come 277 = .ok (.iload_n 2, 1) := by decide +kernel
theorem dMM_come_278 : decode b_MM_come 278 = .ok (.aload_n 0, 1) := by decide +kernel
theorem dMM_come_279 : decode b_MM_come 279 = .ok (.getfield 47, 3) := by decide +kernel
theorem dMM_come_282 : decode b_MM_come 282 = .ok (.iload_n 2, 1) := by decide +kernel
theorem dMM_come_283 : decode b_MM_come 283 = .ok (.baload, 1) := by decide +kernel
theorem dMM_come_284 : decode b_MM_come 284 = .ok (.ifCond .ne 8, 3) := by decide +kernel
theorem dMM_come_287 : decode b_MM_come 287 = .ok (.iload 4, 2) := by decide +kernel
theorem dMM_come_289 : decode b_MM_come 289 = .ok (.ifCond .eq 7, 3) := by decide +kernel
theorem dMM_come_292 : decode b_MM_come 292 = .ok (.iconst 1, 1) := by decide +kernel
theorem dMM_come_293 : decode b_MM_come 293 = .ok (.goto 4, 3) := by decide +kernel
theorem dMM_come_296 : decode b_MM_come 296 = .ok (.iconst 0, 1) := by decide +kernel
theorem dMM_come_297 : decode b_MM_come 297 = .ok (.bastore, 1) := by decide +kernel
theorem dMM_come_298 : decode b_MM_come 298 = .ok (.iinc 3 1, 3) := by decide +kernel
theorem dMM_come_301 : decode b_MM_come 301 = .ok (.goto (-106), 3) := by decide +kernel
theorem dMM_come_304 : decode b_MM_come 304 = .ok (.return_, 1) := by decide +kernel
theorem dMM_count_0 : decode b_MM_count 0 = .ok (.aload_n 0, 1) := by decide +kernel
theorem dMM_count_1 : decode b_MM_count 1 = .ok (.iload_n 1, 1) := by decide +kernel
theorem dMM_count_2 : decode b_MM_count 2 = .ok (.iconst 0, 1) := by decide +kernel
theorem dMM_count_3 : decode b_MM_count 3 = .ok (.iconst 2, 1) := by decide +kernel
theorem dMM_count_4 : decode b_MM_count 4 = .ok (.invokestatic 90, 3) := by decide +kernel
theorem dMM_count_7 : decode b_MM_count 7 = .ok (.iconst 1, 1) := by decide +kernel
theorem dMM_count_8 : decode b_MM_count 8 = .ok (.iconst 1, 1) := by decide +kernel
theorem dMM_count_9 : decode b_MM_count 9 = .ok (.invokevirtual 94, 3) := by decide +kernel
theorem dMM_count_12 : decode b_MM_count 12 = .ok (.ifCond .ne 5, 3) := by decide +kernel
theorem dMM_count_15 : decode b_MM_count 15 = .ok (.iconst 0, 1) := by decide +kernel
theorem dMM_count_16 : decode b_MM_count 16 = .ok (.ireturn, 1) := by decide +kernel
theorem dMM_count_17 : decode b_MM_count 17 = .ok (.iconst 0, 1) := by decide +kernel
theorem dMM_count_18 : decode b_MM_count 18 = .ok (.istore_n 2, 1) := by decide +kernel
theorem dMM_count_19 : decode b_MM_count 19 = .ok (.iconst 0, 1) := by decide +kernel
theorem dMM_count_20 : decode b_MM_count 20 = .ok (.istore_n 3, 1) := by decide +kernel
theorem dMM_count_21 : decode b_MM_count 21 = .ok (.iload_n 3, 1) := by decide +kernel
theorem dMM_count_22 : decode b_MM_count 22 = .ok (.bipush 8, 2) := by decide +kernel
theorem dMM_count_24 : decode b_MM_count 24 = .ok (.if_icmp .ge 82, 3) := by decide +kernel
theorem dMM_count_27 : decode b_MM_count 27 = .ok (.iload_n 1, 1) := by decide +kernel
theorem dMM_count_28 : decode b_MM_count 28 = .ok (.ifCond .ne 7, 3) := by decide +kernel
theorem dMM_count_31 : decode b_MM_count 31 = .ok (.iconst 1, 1) := by decide +kernel
theorem dMM_count_32 : decode b_MM_count 32 = .ok (.goto 18, 3) := by decide +kernel
theorem dMM_count_35 : decode b_MM_count 35 = .ok (.iload_n 1, 1) := by decide +kernel
theorem dMM_count_36 : decode b_MM_count 36 = .ok (.iconst 1, 1) := by decide +kernel
theorem dMM_count_37 : decode b_MM_count 37 = .ok (.if_icmp .ne 12, 3) := by decide +kernel
theorem dMM_count_40 : decode b_MM_count 40 = .ok (.aload_n 0, 1) := by decide +kernel
theorem dMM_count_41 : decode b_MM_count 41 = .ok (.getfield 29, 3) := by decide +kernel
theorem dMM_count_44 : decode b_MM_count 44 = .ok (.iload_n 3, 1) := by decide +kernel
theorem dMM_count_45 : decode b_MM_count 45 = .ok (.iaload, 1) := by decide +kernel
theorem dMM_count_46 : decode b_MM_count 46 = .ok (.goto 4, 3) := by decide +kernel
theorem dMM_count_49 : decode b_MM_count 49 = .ok (.iconst 0, 1) := by decide +kernel
theorem dMM_count_50 : decode b_MM_count 50 = .ok (.istore 4, 2) := by decide +kernel
theorem dMM_count_52 : decode b_MM_count 52 = .ok (.aload_n 0, 1) := by decide +kernel
theorem dMM_count_53 : decode b_MM_count 53 = .ok (.getfield 7, 3) := by decide +kernel
theorem dMM_count_56 : decode b_MM_count 56 = .ok (.iload_n 3, 1) := by decide +kernel
theorem dMM_count_57 : decode b_MM_count 57 = .ok (.baload, 1) := by decide +kernel
theorem dMM_count_58 : decode b_MM_count 58 = .ok (.ifCond .eq 10, 3) := by decide +kernel
theorem dMM_count_61 : decode b_MM_count 61 = .ok (.iload_n 2, 1) := by decide +kernel
theorem dMM_count_62 : decode b_MM_count 62 = .ok (.iload 4, 2) := by decide +kernel
theorem dMM_count_64 : decode b_MM_count 64 = .ok (.iadd, 1) := by decide +kernel
theorem dMM_count_65 : decode b_MM_count 65 = .ok (.goto 4, 3) := by decide +kernel
theorem dMM_count_68 : decode b_MM_count 68 = .ok (.iload_n 2, 1) := by decide +kernel
theorem dMM_count_69 : decode b_MM_count 69 = .ok (.istore_n 2, 1) := by decide +kernel
theorem dMM_count_70 : decode b_MM_count 70 = .ok (.iload_n 1, 1) := by decide +kernel
theorem dMM_count_71 : decode b_MM_count 71 = .ok (.iconst 2, 1) := by decide +kernel
theorem dMM_count_72 : decode b_MM_count 72 = .ok (.if_icmp .ne 26, 3) := by decide +kernel
theorem dMM_count_75 : decode b_MM_count 75 = .ok (.aload_n 0, 1) := by decide +kernel
theorem dMM_count_76 : decode b_MM_count 76 = .ok (.getfield 7, 3) := by decide +kernel
theorem dMM_count_79 : decode b_MM_count 79 = .ok (.iload_n 3, 1) := by decide +kernel
theorem dMM_count_80 : decode b_MM_count 80 = .ok (.baload, 1) := by decide +kernel
theorem dMM_count_81 : decode b_MM_count 81 = .ok (.ifCond .eq 17, 3) := by decide +kernel
theorem dMM_count_84 : decode b_MM_count 84 = .ok (.aload_n 0, 1) := by decide +kernel
theorem dMM_count_85 : decode b_MM_count 85 = .ok (.iload_n 3, 1) := by decide +kernel
theorem dMM_count_86 : decode b_MM_count 86 = .ok (.invokevirtual 145, 3) := by decide +kernel
theorem dMM_count_89 : decode b_MM_count 89 = .ok (.ifCond .eq 9, 3) := by decide +kernel
theorem dMM_count_92 : decode b_MM_count 92 = .ok (.iload_n 2, 1) := by decide +kernel
theorem dMM_count_93 : decode b_MM_count 93 = .ok (.iconst 1, 1) := by decide +kernel
theorem dMM_count_94 : decode b_MM_count 94 = .ok (.iadd, 1) := by decide +kernel
theorem dMM_count_95 : decode b_MM_count 95 = .ok (.goto 4, 3) := by decide +kernel
theorem dMM_count_98 : decode b_MM_count 98 = .ok (.iload_n 2, 1) := by decide +kernel
theorem dMM_count_99 : decode b_MM_count 99 = .ok (.istore_n 2, 1) := by decide +kernel
theorem dMM_count_100 : decode b_MM_count 100 = .ok (.iinc 3 1, 3) := by decide +kernel
theorem dMM_count_103 : decode b_MM_count 103 = .ok (.goto (-82), 3) := by decide +kernel
theorem dMM_count_106 : decode b_MM_count 106 = .ok (.iload_n 2, 1) := by decide +kernel
theorem dMM_count_107 : decode b_MM_count 107 = .ok (.ireturn, 1) := by decide +kernel
theorem dMM_drop_0 : decode b_MM_drop 0 = .ok (.aload_n 0, 1) := by decide +kernel
theorem dMM_drop_1 : decode b_MM_drop 1 = .ok (.aload_n 0, 1) := by decide +kernel
theorem dMM_drop_2 : decode b_MM_drop 2 = .ok (.iload_n 1, 1) := by decide +kernel
theorem dMM_drop_3 : decode b_MM_drop 3 = .ok (.invokevirtual 102, 3) := by decide +kernel
theorem dMM_drop_6 : decode b_MM_drop 6 = .ok (.iconst 1, 1) := by decide +kernel
theorem dMM_drop_7 : decode b_MM_drop 7 = .ok (.iconst 1, 1) := by decide +kernel
theorem dMM_drop_8 : decode b_MM_drop 8 = .ok (.invokevirtual 94, 3) := by decide +kernel
theorem dMM_drop_11 : decode b_MM_drop 11 = .ok (.ifCond .ne 5, 3) := by decide +kernel
theorem dMM_drop_14 : decode b_MM_drop 14 = .ok (.iconst 0, 1) := by decide +kernel
theorem dMM_drop_15 : decode b_MM_drop 15 = .ok (.ireturn, 1) := by decide +kernel
theorem dMM_drop_16 : decode b_MM_drop 16 = .ok (.aload_n 0, 1) := by decide +kernel
theorem dMM_drop_17 : decode b_MM_drop 17 = .ok (.getfield 7, 3) := by decide +kernel
theorem dMM_drop_20 : decode b_MM_drop 20 = .ok (.iload_n 1, 1) := by decide +kernel
theorem dMM_drop_21 : decode b_MM_drop 21 = .ok (.iconst 0, 1) := by decide +kernel
theorem dMM_drop_22 : decode b_MM_drop 22 = .ok (.bastore, 1) := by decide +kernel
theorem dMM_drop_23 : decode b_MM_drop 23 = .ok (.aload_n 0, 1) := by decide +kernel
theorem dMM_drop_24 : decode b_MM_drop 24 = .ok (.iconst 0, 1) := by decide +kernel
theorem dMM_drop_25 : decode b_MM_drop 25 = .ok (.putfield 98, 3) := by decide +kernel
theorem dMM_drop_28 : decode b_MM_drop 28 = .ok (.aload_n 0, 1) := by decide +kernel
theorem dMM_drop_29 : decode b_MM_drop 29 = .ok (.getfield 29, 3) := by decide +kernel
theorem dMM_drop_32 : decode b_MM_drop 32 = .ok (.iload_n 1, 1) := by decide +kernel
theorem dMM_drop_33 : decode b_MM_drop 33 = .ok (.iaload, 1) := by decide +kernel
theorem dMM_drop_34 : decode b_MM_drop 34 = .ok (.ireturn, 1) := by decide +kernel
theorem dMM_effect_0 : decode b_MM_effect 0 = .ok (.iload_n 2, 1) := by decide +kernel
theorem dMM_effect_1 : decode b_MM_effect 1 = .ok (.ifCond .ne 11, 3) := by decide +kernel
theorem dMM_effect_4 : decode b_MM_effect 4 = .ok (.aload_n 0, 1) := by decide +kernel
theorem dMM_effect_5 : decode b_MM_effect 5 = .ok (.iconst 1, 1) := by decide +kernel
theorem dMM_effect_6 : decode b_MM_effect 6 = .ok (.invokevirtual 116, 3) := by decide +kernel
theorem dMM_effect_9 : decode b_MM_effect 9 = .ok (.goto 373, 3) := by decide +kernel
theorem dMM_effect_12 : decode b_MM_effect 12 = .ok (.iload_n 2, 1) := by decide +kernel
theorem dMM_effect_13 : decode b_MM_effect 13 = .ok (.iconst 1, 1) := by decide +kernel
theorem dMM_effect_14 : decode b_MM_effect 14 = .ok (.if_icmp .eq 8, 3) := by decide +kernel
theorem dMM_effect_17 : decode b_MM_effect 17 = .ok (.iload_n 2, 1) := by decide +kernel
theorem dMM_effect_18 : decode b_MM_effect 18 = .ok (.iconst 3, 1) := by decide +kernel
theorem dMM_effect_19 : decode b_MM_effect 19 = .ok (.if_icmp .ne 23, 3) := by decide +kernel
theorem dMM_effect_22 : decode b_MM_effect 22 = .ok (.aload_n 0, 1) := by decide +kernel
theorem dMM_effect_23 : decode b_MM_effect 23 = .ok (.iload_n 1, 1) := by decide +kernel
theorem dMM_effect_24 : decode b_MM_effect 24 = .ok (.iload_n 3, 1) := by decide +kernel
theorem dMM_effect_25 : decode b_MM_effect 25 = .ok (.iload_n 2, 1) := by decide +kernel
theorem dMM_effect_26 : decode b_MM_effect 26 = .ok (.iconst 1, 1) := by decide +kernel
theorem dMM_effect_27 : decode b_MM_effect 27 = .ok (.if_icmp .ne 7, 3) := by decide +kernel
theorem dMM_effect_30 : decode b_MM_effect 30 = .ok (.iconst 1, 1) := by decide +kernel
theorem dMM_effect_31 : decode b_MM_effect 31 = .ok (.goto 4, 3) := by decide +kernel
theorem dMM_effect_34 : decode b_MM_effect 34 = .ok (.iconst 2, 1) := by decide +kernel
theorem dMM_effect_35 : decode b_MM_effect 35 = .ok (.iconst 1, 1) := by decide +kernel
theorem dMM_effect_36 : decode b_MM_effect 36 = .ok (.invokevirtual 124, 3) := by decide +kernel
theorem dMM_effect_39 : decode b_MM_effect 39 = .ok (.goto 343, 3) := by decide +kernel
theorem dMM_effect_42 : decode b_MM_effect 42 = .ok (.iload_n 2, 1) := by decide +kernel
theorem dMM_effect_43 : decode b_MM_effect 43 = .ok (.iconst 2, 1) := by decide +kernel
theorem dMM_effect_44 : decode b_MM_effect 44 = .ok (.if_icmp .eq 8, 3) := by decide +kernel
theorem dMM_effect_47 : decode b_MM_effect 47 = .ok (.iload_n 2, 1) := by decide +kernel
theorem dMM_effect_48 : decode b_MM_effect 48 = .ok (.iconst 4, 1) := by decide +kernel
theorem dMM_effect_49 : decode b_MM_effect 49 = .ok (.if_icmp .ne 23, 3) := by decide +kernel
theorem dMM_effect_52 : decode b_MM_effect 52 = .ok (.aload_n 0, 1) := by decide +kernel
theorem dMM_effect_53 : decode b_MM_effect 53 = .ok (.iload_n 1, 1) := by decide +kernel
theorem dMM_effect_54 : decode b_MM_effect 54 = .ok (.iload_n 3, 1) := by decide +kernel
theorem dMM_effect_55 : decode b_MM_effect 55 = .ok (.iload_n 2, 1) := by decide +kernel
theorem dMM_effect_56 : decode b_MM_effect 56 = .ok (.iconst 2, 1) := by decide +kernel
theorem dMM_effect_57 : decode b_MM_effect 57 = .ok (.if_icmp .ne 7, 3) := by decide +kernel
theorem dMM_effect_60 : decode b_MM_effect 60 = .ok (.iconst 1, 1) := by decide +kernel
theorem dMM_effect_61 : decode b_MM_effect 61 = .ok (.goto 4, 3) := by decide +kernel
theorem dMM_effect_64 : decode b_MM_effect 64 = .ok (.iconst 2, 1) := by decide +kernel
theorem dMM_effect_65 : decode b_MM_effect 65 = .ok (.iconst 0, 1) := by decide +kernel
theorem dMM_effect_66 : decode b_MM_effect 66 = .ok (.invokevirtual 124, 3) := by decide +kernel
theorem dMM_effect_69 : decode b_MM_effect 69 = .ok (.goto 313, 3) := by decide +kernel
theorem dMM_effect_72 : decode b_MM_effect 72 = .ok (.iload_n 2, 1) := by decide +kernel
theorem dMM_effect_73 : decode b_MM_effect 73 = .ok (.bipush 10, 2) := by decide +kernel
theorem dMM_effect_75 : decode b_MM_effect 75 = .ok (.if_icmp .ge 18, 3) := by decide +kernel
theorem dMM_effect_78 : decode b_MM_effect 78 = .ok (.aload_n 0, 1) := by decide +kernel
theorem dMM_effect_79 : decode b_MM_effect 79 = .ok (.iconst 1, 1) := by decide +kernel
theorem dMM_effect_80 : decode b_MM_effect 80 = .ok (.iconst 1, 1) := by decide +kernel
theorem dMM_effect_81 : decode b_MM_effect 81 = .ok (.iconst 0, 1) := by decide +kernel
theorem dMM_effect_82 : decode b_MM_effect 82 = .ok (.invokevirtual 128, 3) := by decide +kernel
theorem dMM_effect_85 : decode b_MM_effect 85 = .ok (.aload_n 0, 1) := by decide +kernel
theorem dMM_effect_86 : decode b_MM_effect 86 = .ok (.iconst 1, 1) := by decide +kernel
theorem dMM_effect_87 : decode b_MM_effect 87 = .ok (.invokevirtual 116, 3) := by decide +kernel
theorem dMM_effect_90 : decode b_MM_effect 90 = .ok (.goto 292, 3) := by decide +kernel
theorem dMM_effect_93 : decode b_MM_effect 93 = .ok (.iload_n 2, 1) := by decide +kernel
theorem dMM_effect_94 : decode b_MM_effect 94 = .ok (.bipush 10, 2) := by decide +kernel
theorem dMM_effect_96 : decode b_MM_effect 96 = .ok (.if_icmp .eq 9, 3) := by decide +kernel
theorem dMM_effect_99 : decode b_MM_effect 99 = .ok (.iload_n 2, 1) := by decide +kernel
theorem dMM_effect_100 : decode b_MM_effect 100 = .ok (.bipush 18, 2) := by decide +kernel
theorem dMM_effect_102 : decode b_MM_effect 102 = .ok (.if_icmp .ne 28, 3) := by decide +kernel
theorem dMM_effect_105 : decode b_MM_effect 105 = .ok (.aload_n 0, 1) := by decide +kernel
theorem dMM_effect_106 : decode b_MM_effect 106 = .ok (.iload_n 2, 1) := by decide +kernel
theorem dMM_effect_107 : decode b_MM_effect 107 = .ok (.bipush 10, 2) := by decide +kernel
theorem dMM_effect_109 : decode b_MM_effect 109 = .ok (.if_icmp .ne 7, 3) := by decide +kernel
theorem dMM_effect_112 : decode b_MM_effect 112 = .ok (.iconst 1, 1) := by decide +kernel
theorem dMM_effect_113 : decode b_MM_effect 113 = .ok (.goto 4, 3) := by decide +kernel
theorem dMM_effect_116 : decode b_MM_effect 116 = .ok (.iconst 0, 1) := by decide +kernel
theorem dMM_effect_117 : decode b_MM_effect 117 = .ok (.iconst 0, 1) := by decide +kernel
theorem dMM_effect_118 : decode b_MM_effect 118 = .ok (.iconst 0, 1) := by decide +kernel
theorem dMM_effect_119 : decode b_MM_effect 119 = .ok (.invokevirtual 128, 3) := by decide +kernel
theorem dMM_effect_122 : decode b_MM_effect 122 = .ok (.aload_n 0, 1) := by decide +kernel
theorem dMM_effect_123 : decode b_MM_effect 123 = .ok (.iconst 2, 1) := by decide +kernel
theorem dMM_effect_124 : decode b_MM_effect 124 = .ok (.invokevirtual 116, 3) := by decide +kernel
theorem dMM_effect_127 : decode b_MM_effect 127 = .ok (.goto 255, 3) := by decide +kernel
theorem dMM_effect_130 : decode b_MM_effect 130 = .ok (.iload_n 2, 1) := by decide +kernel
theorem dMM_effect_131 : decode b_MM_effect 131 = .ok (.bipush 11, 2) := by decide +kernel
theorem dMM_effect_133 : decode b_MM_effect 133 = .ok (.if_icmp .ne 18, 3) := by decide +kernel
theorem dMM_effect_136 : decode b_MM_effect 136 = .ok (.aload_n 0, 1) := by decide +kernel
theorem dMM_effect_137 : decode b_MM_effect 137 = .ok (.iconst 2, 1) := by decide +kernel
theorem dMM_effect_138 : decode b_MM_effect 138 = .ok (.iconst 0, 1) := by decide +kernel
theorem dMM_effect_139 : decode b_MM_effect 139 = .ok (.iconst 0, 1) := by decide +kernel
theorem dMM_effect_140 : decode b_MM_effect 140 = .ok (.invokevirtual 128, 3) := by decide +kernel
theorem dMM_effect_143 : decode b_MM_effect 143 = .ok (.aload_n 0, 1) := by decide +kernel
theorem dMM_effect_144 : decode b_MM_effect 144 = .ok (.iconst 1, 1) := by decide +kernel
theorem dMM_effect_145 : decode b_MM_effect 145 = .ok (.invokevirtual 116, 3) := by decide +kernel
theorem dMM_effect_148 : decode b_MM_effect 148 = .ok (.goto 234, 3) := by decide +kernel
theorem dMM_effect_151 : decode b_MM_effect 151 = .ok (.iload_n 2, 1) := by decide +kernel
theorem dMM_effect_152 : decode b_MM_effect 152 = .ok (.bipush 12, 2) := by decide +kernel
theorem dMM_effect_154 : decode b_MM_effect 154 = .ok (.if_icmp .ne 18, 3) := by decide +kernel
theorem dMM_effect_157 : decode b_MM_effect 157 = .ok (.aload_n 0, 1) := by decide +kernel
theorem dMM_effect_158 : decode b_MM_effect 158 = .ok (.iconst 1, 1) := by decide +kernel
theorem dMM_effect_159 : decode b_MM_effect 159 = .ok (.iconst 2, 1) := by decide +kernel
theorem dMM_effect_160 : decode b_MM_effect 160 = .ok (.iconst 0, 1) := by decide +kernel
theorem dMM_effect_161 : decode b_MM_effect 161 = .ok (.invokevirtual 128, 3) := by decide +kernel
theorem dMM_effect_164 : decode b_MM_effect 164 = .ok (.aload_n 0, 1) := by decide +kernel
theorem dMM_effect_165 : decode b_MM_effect 165 = .ok (.iconst 1, 1) := by decide +kernel
theorem dMM_effect_166 : decode b_MM_effect 166 = .ok (.invokevirtual 116, 3) := by decide +kernel
theorem dMM_effect_169 : decode b_MM_effect 169 = .ok (.goto 213, 3) := by decide +kernel
theorem dMM_effect_172 : decode b_MM_effect 172 = .ok (.iload_n 2, 1) := by decide +kernel
theorem dMM_effect_173 : decode b_MM_effect 173 = .ok (.bipush 13, 2) := by decide +kernel
theorem dMM_effect_175 : decode b_MM_effect 175 = .ok (.if_icmp .ne 13, 3) := by decide +kernel
theorem dMM_effect_178 : decode b_MM_effect 178 = .ok (.aload_n 0, 1) := by decide +kernel
theorem dMM_effect_179 : decode b_MM_effect 179 = .ok (.iconst 1, 1) := by decide +kernel
theorem dMM_effect_180 : decode b_MM_effect 180 = .ok (.iconst 1, 1) := by decide +kernel
theorem dMM_effect_181 : decode b_MM_effect 181 = .ok (.iconst 2, 1) := by decide +kernel
theorem dMM_effect_182 : decode b_MM_effect 182 = .ok (.invokevirtual 128, 3) := by decide +kernel
theorem dMM_effect_185 : decode b_MM_effect 185 = .ok (.goto 197, 3) := by decide +kernel
theorem dMM_effect_188 : decode b_MM_effect 188 = .ok (.iload_n 2, 1) := by decide +kernel
theorem dMM_effect_189 : decode b_MM_effect 189 = .ok (.bipush 15, 2) := by decide +kernel
theorem dMM_effect_191 : decode b_MM_effect 191 = .ok (.if_icmp .eq 9, 3) := by decide +kernel
theorem dMM_effect_194 : decode b_MM_effect 194 = .ok (.iload_n 2, 1) := by decide +kernel
theorem dMM_effect_195 : decode b_MM_effect 195 = .ok (.bipush 25, 2) := by decide +kernel
theorem dMM_effect_197 : decode b_MM_effect 197 = .ok (.if_icmp .ne 13, 3) := by decide +kernel
theorem dMM_effect_200 : decode b_MM_effect 200 = .ok (.aload_n 0, 1) := by decide +kernel
theorem dMM_effect_201 : decode b_MM_effect 201 = .ok (.iconst 1, 1) := by decide +kernel
theorem dMM_effect_202 : decode b_MM_effect 202 = .ok (.iconst 0, 1) := by decide +kernel
theorem dMM_effect_203 : decode b_MM_effect 203 = .ok (.iconst 0, 1) := by decide +kernel
theorem dMM_effect_204 : decode b_MM_effect 204 = .ok (.invokevirtual 128, 3) := by decide +kernel
theorem dMM_effect_207 : decode b_MM_effect 207 = .ok (.goto 175, 3) := by decide +kernel
theorem dMM_effect_210 : decode b_MM_effect 210 = .ok (.iload_n 2, 1) := by decide +kernel
theorem dMM_effect_211 : decode b_MM_effect 211 = .ok (.bipush 16, 2) := by decide +kernel
theorem dMM_effect_213 : decode b_MM_effect 213 = .ok (.if_icmp .eq 9, 3) := by decide +kernel
theorem dMM_effect_216 : decode b_MM_effect 216 = .ok (.iload_n 2, 1) := by decide +kernel
theorem dMM_effect_217 : decode b_MM_effect 217 = .ok (.bipush 17, 2) := by decide +kernel
theorem dMM_effect_219 : decode b_MM_effect 219 = .ok (.if_icmp .ne 13, 3) := by decide +kernel
theorem dMM_effect_222 : decode b_MM_effect 222 = .ok (.aload_n 0, 1) := by decide +kernel
theorem dMM_effect_223 : decode b_MM_effect 223 = .ok (.iconst 1, 1) := by decide +kernel
theorem dMM_effect_224 : decode b_MM_effect 224 = .ok (.iconst 1, 1) := by decide +kernel
theorem dMM_effect_225 : decode b_MM_effect 225 = .ok (.iconst 0, 1) := by decide +kernel
theorem dMM_effect_226 : decode b_MM_effect 226 = .ok (.invokevirtual 128, 3) := by decide +kernel
theorem dMM_effect_229 : decode b_MM_effect 229 = .ok (.goto 153, 3) := by decide +kernel
theorem dMM_effect_232 : decode b_MM_effect 232 = .ok (.iload_n 2, 1) := by decide +kernel
theorem dMM_effect_233 : decode b_MM_effect 233 = .ok (.bipush 19, 2) := by decide +kernel
theorem dMM_effect_235 : decode b_MM_effect 235 = .ok (.if_icmp .ne 13, 3) := by decide +kernel
theorem dMM_effect_238 : decode b_MM_effect 238 = .ok (.aload_n 0, 1) := by decide +kernel
theorem dMM_effect_239 : decode b_MM_effect 239 = .ok (.iconst 2, 1) := by decide +kernel
theorem dMM_effect_240 : decode b_MM_effect 240 = .ok (.iconst 0, 1) := by decide +kernel
theorem dMM_effect_241 : decode b_MM_effect 241 = .ok (.iconst 0, 1) := by decide +kernel
theorem dMM_effect_242 : decode b_MM_effect 242 = .ok (.invokevirtual 128, 3) := by decide +kernel
theorem dMM_effect_245 : decode b_MM_effect 245 = .ok (.goto 137, 3) := by decide +kernel
theorem dMM_effect_248 : decode b_MM_effect 248 = .ok (.iload_n 2, 1) := by decide +kernel
theorem dMM_effect_249 : decode b_MM_effect 249 = .ok (.bipush 20, 2) := by decide +kernel
theorem dMM_effect_251 : decode b_MM_effect 251 = .ok (.if_icmp .ne 25, 3) := by decide +kernel
theorem dMM_effect_254 : decode b_MM_effect 254 = .ok (.aload_n 0, 1) := by decide +kernel
theorem dMM_effect_255 : decode b_MM_effect 255 = .ok (.iconst 0, 1) := by decide +kernel
theorem dMM_effect_256 : decode b_MM_effect 256 = .ok (.invokevirtual 120, 3) := by decide +kernel
theorem dMM_effect_259 : decode b_MM_effect 259 = .ok (.istore 4, 2) := by decide +kernel
theorem dMM_effect_261 : decode b_MM_effect 261 = .ok (.aload_n 0, 1) := by decide +kernel
theorem dMM_effect_262 : decode b_MM_effect 262 = .ok (.iload 4, 2) := by decide +kernel
theorem dMM_effect_264 : decode b_MM_effect 264 = .ok (.invokevirtual 116, 3) := by decide +kernel
theorem dMM_effect_267 : decode b_MM_effect 267 = .ok (.aload_n 0, 1) := by decide +kernel
theorem dMM_effect_268 : decode b_MM_effect 268 = .ok (.iload 4, 2) := by decide +kernel
theorem dMM_effect_270 : decode b_MM_effect 270 = .ok (.invokevirtual 116, 3) := by decide +kernel
theorem dMM_effect_273 : decode b_MM_effect 273 = .ok (.goto 109, 3) := by decide +kernel
theorem dMM_effect_276 : decode b_MM_effect 276 = .ok (.iload_n 2, 1) := by decide +kernel
theorem dMM_effect_277 : decode b_MM_effect 277 = .ok (.bipush 21, 2) := by decide +kernel
theorem dMM_effect_279 : decode b_MM_effect 279 = .ok (.if_icmp .ne 13, 3) := by decide +kernel
theorem dMM_effect_282 : decode b_MM_effect 282 = .ok (.aload_n 0, 1) := by decide +kernel
theorem dMM_effect_283 : decode b_MM_effect 283 = .ok (.iconst 0, 1) := by decide +kernel
theorem dMM_effect_284 : decode b_MM_effect 284 = .ok (.invokevirtual 120, 3) := by decide +kernel
theorem dMM_effect_287 : decode b_MM_effect 287 = .ok (.istore 4, 2) := by decide +kernel
theorem dMM_effect_289 : decode b_MM_effect 289 = .ok (.goto 93, 3) := by decide +kernel
theorem dMM_effect_292 : decode b_MM_effect 292 = .ok (.iload_n 2, 1) := by decide +kernel
theorem dMM_effect_293 : decode b_MM_effect 293 = .ok (.bipush 22, 2) := by decide +kernel
theorem dMM_effect_295 : decode b_MM_effect 295 = .ok (.if_icmp .ne 32, 3) := by decide +kernel
theorem dMM_effect_298 : decode b_MM_effect 298 = .ok (.aload_n 0, 1) := by decide +kernel
theorem dMM_effect_299 : decode b_MM_effect 299 = .ok (.iconst 0, 1) := by decide +kernel
theorem dMM_effect_300 : decode b_MM_effect 300 = .ok (.invokevirtual 120, 3) := by decide +kernel
theorem dMM_effect_303 : decode b_MM_effect 303 = .ok (.istore 4, 2) := by decide +kernel
theorem dMM_effect_305 : decode b_MM_effect 305 = .ok (.aload_n 0, 1) := by decide +kernel
theorem dMM_effect_306 : decode b_MM_effect 306 = .ok (.iconst 0, 1) := by decide +kernel
theorem dMM_effect_307 : decode b_MM_effect 307 = .ok (.invokevirtual 120, 3) := by decide +kernel
theorem dMM_effect_310 : decode b_MM_effect 310 = .ok (.istore 5, 2) := by decide +kernel
theorem dMM_effect_312 : decode b_MM_effect 312 = .ok (.aload_n 0, 1) := by decide +kernel
theorem dMM_effect_313 : decode b_MM_effect 313 = .ok (.iload 4, 2) := by decide +kernel
theorem dMM_effect_315 : decode b_MM_effect 315 = .ok (.invokevirtual 116, 3) := by decide +kernel
theorem dMM_effect_318 : decode b_MM_effect 318 = .ok (.aload_n 0, 1) := by decide +kernel
theorem dMM_effect_319 : decode b_MM_effect 319 = .ok (.iload 5, 2) := by decide +kernel
theorem dMM_effect_321 : decode b_MM_effect 321 = .ok (.invokevirtual 116, 3) := by decide +kernel
theorem dMM_effect_324 : decode b_MM_effect 324 = .ok (.goto 58, 3) := by decide +kernel
theorem dMM_effect_327 : decode b_MM_effect 327 = .ok (.iload_n 2, 1) := by decide +kernel
theorem dMM_effect_328 : decode b_MM_effect 328 = .ok (.bipush 23, 2) := by decide +kernel
theorem dMM_effect_330 : decode b_MM_effect 330 = .ok (.if_icmp .ne 11, 3) := by decide +kernel
theorem dMM_effect_333 : decode b_MM_effect 333 = .ok (.aload_n 0, 1) := by decide +kernel
theorem dMM_effect_334 : decode b_MM_effect 334 = .ok (.iload_n 3, 1) := by decide +kernel
theorem dMM_effect_335 : decode b_MM_effect 335 = .ok (.invokevirtual 132, 3) := by decide +kernel
theorem dMM_effect_338 : decode b_MM_effect 338 = .ok (.goto 44, 3) := by decide +kernel
theorem dMM_effect_341 : decode b_MM_effect 341 = .ok (.iload_n 2, 1) := by decide +kernel
theorem dMM_effect_342 : decode b_MM_effect 342 = .ok (.bipush 24, 2) := by decide +kernel
theorem dMM_effect_344 : decode b_MM_effect 344 = .ok (.if_icmp .ne 38, 3) := by decide +kernel
theorem dMM_effect_347 : decode b_MM_effect 347 = .ok (.aload_n 0, 1) := by decide +kernel
theorem dMM_effect_348 : decode b_MM_effect 348 = .ok (.aload_n 0, 1) := by decide +kernel
theorem dMM_effect_349 : decode b_MM_effect 349 = .ok (.getfield 20, 3) := by decide +kernel
theorem dMM_effect_352 : decode b_MM_effect 352 = .ok (.iload_n 1, 1) := by decide +kernel
theorem dMM_effect_353 : decode b_MM_effect 353 = .ok (.iaload, 1) := by decide +kernel
theorem dMM_effect_354 : decode b_MM_effect 354 = .ok (.iconst 0, 1) := by decide +kernel
theorem dMM_effect_355 : decode b_MM_effect 355 = .ok (.iconst 0, 1) := by decide +kernel
theorem dMM_effect_356 : decode b_MM_effect 356 = .ok (.invokevirtual 128, 3) := by decide +kernel
theorem dMM_effect_359 : decode b_MM_effect 359 = .ok (.aload_n 0, 1) := by decide +kernel
theorem dMM_effect_360 : decode b_MM_effect 360 = .ok (.aload_n 0, 1) := by decide +kernel
theorem dMM_effect_361 : decode b_MM_effect 361 = .ok (.getfield 113, 3) := by decide +kernel
theorem dMM_effect_364 : decode b_MM_effect 364 = .ok (.ifCond .ne 10, 3) := by decide +kernel
theorem dMM_effect_367 : decode b_MM_effect 367 = .ok (.aload_n 0, 1) := by decide +kernel
theorem dMM_effect_368 : decode b_MM_effect 368 = .ok (.getfield 110, 3) := by decide +kernel
theorem dMM_effect_371 : decode b_MM_effect 371 = .ok (.ifCond .le 7, 3) := by decide +kernel
theorem dMM_effect_374 : decode b_MM_effect 374 = .ok (.iconst 1, 1) := by decide +kernel
theorem dMM_effect_375 : decode b_MM_effect 375 = .ok (.goto 4, 3) := by decide +kernel
theorem dMM_effect_378 : decode b_MM_effect 378 = .ok (.iconst 0, 1) := by decide +kernel
theorem dMM_effect_379 : decode b_MM_effect 379 = .ok (.putfield 113, 3) := by decide +kernel
theorem dMM_effect_382 : decode b_MM_effect 382 = .ok (.return_, 1) := by decide +kernel
theorem dMM_goes_0 : decode b_MM_goes 0 = .ok (.aload_n 0, 1) := by decide +kernel
theorem dMM_goes_1 : decode b_MM_goes 1 = .ok (.iload_n 1, 1) := by decide +kernel
theorem dMM_goes_2 : decode b_MM_goes 2 = .ok (.ifCond .ne 7, 3) := by decide +kernel
theorem dMM_goes_5 : decode b_MM_goes 5 = .ok (.iconst 1, 1) := by decide +kernel
theorem dMM_goes_6 : decode b_MM_goes 6 = .ok (.goto 20, 3) := by decide +kernel
theorem dMM_goes_9 : decode b_MM_goes 9 = .ok (.iload_n 2, 1) := by decide +kernel
theorem dMM_goes_10 : decode b_MM_goes 10 = .ok (.ifCond .ne 7, 3) := by decide +kernel
theorem dMM_goes_13 : decode b_MM_goes 13 = .ok (.iconst 2, 1) := by decide +kernel
theorem dMM_goes_14 : decode b_MM_goes 14 = .ok (.goto 12, 3) := by decide +kernel
theorem dMM_goes_17 : decode b_MM_goes 17 = .ok (.iload_n 3, 1) := by decide +kernel
theorem dMM_goes_18 : decode b_MM_goes 18 = .ok (.ifCond .ne 7, 3) := by decide +kernel
theorem dMM_goes_21 : decode b_MM_goes 21 = .ok (.iconst 3, 1) := by decide +kernel
theorem dMM_goes_22 : decode b_MM_goes 22 = .ok (.goto 4, 3) := by decide +kernel
theorem dMM_goes_25 : decode b_MM_goes 25 = .ok (.iconst 0, 1) := by decide +kernel
theorem dMM_goes_26 : decode b_MM_goes 26 = .ok (.putfield 86, 3) := by decide +kernel
theorem dMM_goes_29 : decode b_MM_goes 29 = .ok (.aload_n 0, 1) := by decide +kernel
theorem dMM_goes_30 : decode b_MM_goes 30 = .ok (.getfield 86, 3) := by decide +kernel
theorem dMM_goes_33 : decode b_MM_goes 33 = .ok (.ifCond .ne 7, 3) := by decide +kernel
theorem dMM_goes_36 : decode b_MM_goes 36 = .ok (.iconst 1, 1) := by decide +kernel
theorem dMM_goes_37 : decode b_MM_goes 37 = .ok (.goto 4, 3) := by decide +kernel
theorem dMM_goes_40 : decode b_MM_goes 40 = .ok (.iconst 0, 1) := by decide +kernel
theorem dMM_goes_41 : decode b_MM_goes 41 = .ok (.ireturn, 1) := by decide +kernel
theorem dMM_good_0 : decode b_MM_good 0 = .ok (.aload_n 0, 1) := by decide +kernel
theorem dMM_good_1 : decode b_MM_good 1 = .ok (.aload_n 0, 1) := by decide +kernel
theorem dMM_good_2 : decode b_MM_good 2 = .ok (.iload_n 1, 1) := by decide +kernel
theorem dMM_good_3 : decode b_MM_good 3 = .ok (.invokevirtual 102, 3) := by decide +kernel
theorem dMM_good_6 : decode b_MM_good 6 = .ok (.iconst 1, 1) := by decide +kernel
theorem dMM_good_7 : decode b_MM_good 7 = .ok (.iconst 1, 1) := by decide +kernel
theorem dMM_good_8 : decode b_MM_good 8 = .ok (.invokevirtual 94, 3) := by decide +kernel
theorem dMM_good_11 : decode b_MM_good 11 = .ok (.ifCond .eq 15, 3) := by decide +kernel
theorem dMM_good_14 : decode b_MM_good 14 = .ok (.aload_n 0, 1) := by decide +kernel
theorem dMM_good_15 : decode b_MM_good 15 = .ok (.iload_n 1, 1) := by decide +kernel
theorem dMM_good_16 : decode b_MM_good 16 = .ok (.invokevirtual 145, 3) := by decide +kernel
theorem dMM_good_19 : decode b_MM_good 19 = .ok (.ifCond .eq 7, 3) := by decide +kernel
theorem dMM_good_22 : decode b_MM_good 22 = .ok (.iconst 1, 1) := by decide +kernel
theorem dMM_good_23 : decode b_MM_good 23 = .ok (.goto 4, 3) := by decide +kernel
theorem dMM_good_26 : decode b_MM_good 26 = .ok (.iconst 0, 1) := by decide +kernel
theorem dMM_good_27 : decode b_MM_good 27 = .ok (.ireturn, 1) := by decide +kernel
theorem dMM_handle_0 : decode b_MM_handle 0 = .ok (.aload_n 0, 1) := by decide +kernel
theorem dMM_handle_1 : decode b_MM_handle 1 = .ok (.invokevirtual 185, 3) := by decide +kernel
theorem dMM_handle_4 : decode b_MM_handle 4 = .ok (.istore_n 2, 1) := by decide +kernel
theorem dMM_handle_5 : decode b_MM_handle 5 = .ok (.iload_n 1, 1) := by decide +kernel
theorem dMM_handle_6 : decode b_MM_handle 6 = .ok (.bipush 10, 2) := by decide +kernel
theorem dMM_handle_8 : decode b_MM_handle 8 = .ok (.if_icmp .ne 15, 3) := by decide +kernel
theorem dMM_handle_11 : decode b_MM_handle 11 = .ok (.aload_n 0, 1) := by decide +kernel
theorem dMM_handle_12 : decode b_MM_handle 12 = .ok (.aload_n 0, 1) := by decide +kernel
theorem dMM_handle_13 : decode b_MM_handle 13 = .ok (.iload_n 2, 1) := by decide +kernel
theorem dMM_handle_14 : decode b_MM_handle 14 = .ok (.invokevirtual 179, 3) := by decide +kernel
theorem dMM_handle_17 : decode b_MM_handle 17 = .ok (.invokevirtual 189, 3) := by decide +kernel
theorem dMM_handle_20 : decode b_MM_handle 20 = .ok (.goto 154, 3) := by decide +kernel
theorem dMM_handle_23 : decode b_MM_handle 23 = .ok (.iload_n 1, 1) := by decide +kernel
theorem dMM_handle_24 : decode b_MM_handle 24 = .ok (.bipush 11, 2) := by decide +kernel
theorem dMM_handle_26 : decode b_MM_handle 26 = .ok (.if_icmp .ne 16, 3) := by decide +kernel
theorem dMM_handle_29 : decode b_MM_handle 29 = .ok (.aload_n 0, 1) := by decide +kernel
theorem dMM_handle_30 : decode b_MM_handle 30 = .ok (.aload_n 0, 1) := by decide +kernel
theorem dMM_handle_31 : decode b_MM_handle 31 = .ok (.getfield 77, 3) := by decide +kernel
theorem dMM_handle_34 : decode b_MM_handle 34 = .ok (.iload_n 2, 1) := by decide +kernel
theorem dMM_handle_35 : decode b_MM_handle 35 = .ok (.iaload, 1) := by decide +kernel
theorem dMM_handle_36 : decode b_MM_handle 36 = .ok (.invokevirtual 189, 3) := by decide +kernel
theorem dMM_handle_39 : decode b_MM_handle 39 = .ok (.goto 135, 3) := by decide +kernel
theorem dMM_handle_42 : decode b_MM_handle 42 = .ok (.iload_n 1, 1) := by decide +kernel
theorem dMM_handle_43 : decode b_MM_handle 43 = .ok (.bipush 12, 2) := by decide +kernel
theorem dMM_handle_45 : decode b_MM_handle 45 = .ok (.if_icmp .ne 26, 3) := by decide +kernel
theorem dMM_handle_48 : decode b_MM_handle 48 = .ok (.aload_n 0, 1) := by decide +kernel
theorem dMM_handle_49 : decode b_MM_handle 49 = .ok (.aload_n 0, 1) := by decide +kernel
theorem dMM_handle_50 : decode b_MM_handle 50 = .ok (.getfield 80, 3) := by decide +kernel
theorem dMM_handle_53 : decode b_MM_handle 53 = .ok (.aload_n 0, 1) := by decide +kernel
theorem dMM_handle_54 : decode b_MM_handle 54 = .ok (.getfield 74, 3) := by decide +kernel
theorem dMM_handle_57 : decode b_MM_handle 57 = .ok (.aload_n 0, 1) := by decide +kernel
theorem dMM_handle_58 : decode b_MM_handle 58 = .ok (.invokevirtual 185, 3) := by decide +kernel
theorem dMM_handle_61 : decode b_MM_handle 61 = .ok (.iaload, 1) := by decide +kernel
theorem dMM_handle_62 : decode b_MM_handle 62 = .ok (.iload_n 2, 1) := by decide +kernel
theorem dMM_handle_63 : decode b_MM_handle 63 = .ok (.iadd, 1) := by decide +kernel
theorem dMM_handle_64 : decode b_MM_handle 64 = .ok (.iaload, 1) := by decide +kernel
theorem dMM_handle_65 : decode b_MM_handle 65 = .ok (.invokevirtual 189, 3) := by decide +kernel
theorem dMM_handle_68 : decode b_MM_handle 68 = .ok (.goto 106, 3) := by decide +kernel
theorem dMM_handle_71 : decode b_MM_handle 71 = .ok (.iload_n 1, 1) := by decide +kernel
theorem dMM_handle_72 : decode b_MM_handle 72 = .ok (.bipush 13, 2) := by decide +kernel
theorem dMM_handle_74 : decode b_MM_handle 74 = .ok (.if_icmp .ne 28, 3) := by decide +kernel
theorem dMM_handle_77 : decode b_MM_handle 77 = .ok (.aload_n 0, 1) := by decide +kernel
theorem dMM_handle_78 : decode b_MM_handle 78 = .ok (.invokevirtual 185, 3) := by decide +kernel
theorem dMM_handle_81 : decode b_MM_handle 81 = .ok (.istore_n 3, 1) := by decide +kernel
theorem dMM_handle_82 : decode b_MM_handle 82 = .ok (.aload_n 0, 1) := by decide +kernel
theorem dMM_handle_83 : decode b_MM_handle 83 = .ok (.getfield 80, 3) := by decide +kernel
theorem dMM_handle_86 : decode b_MM_handle 86 = .ok (.aload_n 0, 1) := by decide +kernel
theorem dMM_handle_87 : decode b_MM_handle 87 = .ok (.getfield 74, 3) := by decide +kernel
theorem dMM_handle_90 : decode b_MM_handle 90 = .ok (.aload_n 0, 1) := by decide +kernel
theorem dMM_handle_91 : decode b_MM_handle 91 = .ok (.invokevirtual 185, 3) := by decide +kernel
theorem dMM_handle_94 : decode b_MM_handle 94 = .ok (.iaload, 1) := by decide +kernel
theorem dMM_handle_95 : decode b_MM_handle 95 = .ok (.iload_n 3, 1) := by decide +kernel
theorem dMM_handle_96 : decode b_MM_handle 96 = .ok (.iadd, 1) := by decide +kernel
theorem dMM_handle_97 : decode b_MM_handle 97 = .ok (.iload_n 2, 1) := by decide +kernel
theorem dMM_handle_98 : decode b_MM_handle 98 = .ok (.iastore, 1) := by decide +kernel
theorem dMM_handle_99 : decode b_MM_handle 99 = .ok (.goto 75, 3) := by decide +kernel
theorem dMM_handle_102 : decode b_MM_handle 102 = .ok (.iload_n 1, 1) := by decide +kernel
theorem dMM_handle_103 : decode b_MM_handle 103 = .ok (.bipush 20, 2) := by decide +kernel
theorem dMM_handle_105 : decode b_MM_handle 105 = .ok (.if_icmp .ne 16, 3) := by decide +kernel
theorem dMM_handle_108 : decode b_MM_handle 108 = .ok (.aload_n 0, 1) := by decide +kernel
theorem dMM_handle_109 : decode b_MM_handle 109 = .ok (.iload_n 2, 1) := by decide +kernel
theorem dMM_handle_110 : decode b_MM_handle 110 = .ok (.invokevirtual 189, 3) := by decide +kernel
theorem dMM_handle_113 : decode b_MM_handle 113 = .ok (.aload_n 0, 1) := by decide +kernel
theorem dMM_handle_114 : decode b_MM_handle 114 = .ok (.iload_n 2, 1) := by decide +kernel
theorem dMM_handle_115 : decode b_MM_handle 115 = .ok (.invokevirtual 189, 3) := by decide +kernel
theorem dMM_handle_118 : decode b_MM_handle 118 = .ok (.goto 56, 3) := by decide +kernel
theorem dMM_handle_121 : decode b_MM_handle 121 = .ok (.iload_n 1, 1) := by decide +kernel
theorem dMM_handle_122 : decode b_MM_handle 122 = .ok (.bipush 22, 2) := by decide +kernel
theorem dMM_handle_124 : decode b_MM_handle 124 = .ok (.if_icmp .ne 21, 3) := by decide +kernel
theorem dMM_handle_127 : decode b_MM_handle 127 = .ok (.aload_n 0, 1) := by decide +kernel
theorem dMM_handle_128 : decode b_MM_handle 128 = .ok (.invokevirtual 185, 3) := by decide +kernel
theorem dMM_handle_131 : decode b_MM_handle 131 = .ok (.istore_n 3, 1) := by decide +kernel
theorem dMM_handle_132 : decode b_MM_handle 132 = .ok (.aload_n 0, 1) := by decide +kernel
theorem dMM_handle_133 : decode b_MM_handle 133 = .ok (.iload_n 2, 1) := by decide +kernel
theorem dMM_handle_134 : decode b_MM_handle 134 = .ok (.invokevirtual 189, 3) := by decide +kernel
theorem dMM_handle_137 : decode b_MM_handle 137 = .ok (.aload_n 0, 1) := by decide +kernel
theorem dMM_handle_138 : decode b_MM_handle 138 = .ok (.iload_n 3, 1) := by decide +kernel
theorem dMM_handle_139 : decode b_MM_handle 139 = .ok (.invokevirtual 189, 3) := by decide +kernel
theorem dMM_handle_142 : decode b_MM_handle 142 = .ok (.goto 32, 3) := by decide +kernel
theorem dMM_handle_145 : decode b_MM_handle 145 = .ok (.iload_n 1, 1) := by decide +kernel
theorem dMM_handle_146 : decode b_MM_handle 146 = .ok (.bipush 25, 2) := by decide +kernel
theorem dMM_handle_148 : decode b_MM_handle 148 = .ok (.if_icmp .ne 26, 3) := by decide +kernel
theorem dMM_handle_151 : decode b_MM_handle 151 = .ok (.aload_n 0, 1) := by decide +kernel
theorem dMM_handle_152 : decode b_MM_handle 152 = .ok (.getfield 83, 3) := by decide +kernel
theorem dMM_handle_155 : decode b_MM_handle 155 = .ok (.aload_n 0, 1) := by decide +kernel
theorem dMM_handle_156 : decode b_MM_handle 156 = .ok (.getfield 173, 3) := by decide +kernel
theorem dMM_handle_159 : decode b_MM_handle 159 = .ok (.bipush 100, 2) := by decide +kernel
theorem dMM_handle_161 : decode b_MM_handle 161 = .ok (.irem, 1) := by decide +kernel
theorem dMM_handle_162 : decode b_MM_handle 162 = .ok (.iload_n 2, 1) := by decide +kernel
theorem dMM_handle_163 : decode b_MM_handle 163 = .ok (.iastore, 1) := by decide +kernel
theorem dMM_handle_164 : decode b_MM_handle 164 = .ok (.aload_n 0, 1) := by decide +kernel
theorem dMM_handle_165 : decode b_MM_handle 165 = .ok (.dup, 1) := by decide +kernel
theorem dMM_handle_166 : decode b_MM_handle 166 = .ok (.getfield 173, 3) := by decide +kernel
theorem dMM_handle_169 : decode b_MM_handle 169 = .ok (.iconst 1, 1) := by decide +kernel
theorem dMM_handle_170 : decode b_MM_handle 170 = .ok (.iadd, 1) := by decide +kernel
theorem dMM_handle_171 : decode b_MM_handle 171 = .ok (.putfield 173, 3) := by decide +kernel
theorem dMM_handle_174 : decode b_MM_handle 174 = .ok (.return_, 1) := by decide +kernel
theorem dMM_height_0 : decode b_MM_height 0 = .ok (.aload_n 0, 1) := by decide +kernel
theorem dMM_height_1 : decode b_MM_height 1 = .ok (.aload_n 0, 1) := by decide +kernel
theorem dMM_height_2 : decode b_MM_height 2 = .ok (.iload_n 1, 1) := by decide +kernel
theorem dMM_height_3 : decode b_MM_height 3 = .ok (.iload_n 2, 1) := by decide +kernel
theorem dMM_height_4 : decode b_MM_height 4 = .ok (.invokevirtual 106, 3) := by decide +kernel
theorem dMM_height_7 : decode b_MM_height 7 = .ok (.aload_n 0, 1) := by decide +kernel
theorem dMM_height_8 : decode b_MM_height 8 = .ok (.iload_n 1, 1) := by decide +kernel
theorem dMM_height_9 : decode b_MM_height 9 = .ok (.iload_n 2, 1) := by decide +kernel
theorem dMM_height_10 : decode b_MM_height 10 = .ok (.invokevirtual 106, 3) := by decide +kernel
theorem dMM_height_13 : decode b_MM_height 13 = .ok (.ifCond .eq 15, 3) := by decide +kernel
theorem dMM_height_16 : decode b_MM_height 16 = .ok (.aload_n 0, 1) := by decide +kernel
theorem dMM_height_17 : decode b_MM_height 17 = .ok (.iload_n 1, 1) := by decide +kernel
theorem dMM_height_18 : decode b_MM_height 18 = .ok (.invokevirtual 145, 3) := by decide +kernel
theorem dMM_height_21 : decode b_MM_height 21 = .ok (.ifCond .eq 7, 3) := by decide +kernel
theorem dMM_height_24 : decode b_MM_height 24 = .ok (.iconst 1, 1) := by decide +kernel
theorem dMM_height_25 : decode b_MM_height 25 = .ok (.goto 4, 3) := by decide +kernel
theorem dMM_height_28 : decode b_MM_height 28 = .ok (.iconst 0, 1) := by decide +kernel
theorem dMM_height_29 : decode b_MM_height 29 = .ok (.iconst 1, 1) := by decide +kernel
theorem dMM_height_30 : decode b_MM_height 30 = .ok (.invokevirtual 94, 3) := by decide +kernel
theorem dMM_height_33 : decode b_MM_height 33 = .ok (.ifCond .eq 12, 3) := by decide +kernel
theorem dMM_height_36 : decode b_MM_height 36 = .ok (.aload_n 0, 1) := by decide +kernel
theorem dMM_height_37 : decode b_MM_height 37 = .ok (.getfield 38, 3) := by decide +kernel
theorem dMM_height_40 : decode b_MM_height 40 = .ok (.iload_n 2, 1) := by decide +kernel
theorem dMM_height_41 : decode b_MM_height 41 = .ok (.iaload, 1) := by decide +kernel
theorem dMM_height_42 : decode b_MM_height 42 = .ok (.goto 4, 3) := by decide +kernel
theorem dMM_height_45 : decode b_MM_height 45 = .ok (.iconst 0, 1) := by decide +kernel
theorem dMM_height_46 : decode b_MM_height 46 = .ok (.ireturn, 1) := by decide +kernel
theorem dMM_init_0 : decode b_MM_init 0 = .ok (.aload_n 0, 1) := by decide +kernel
theorem dMM_init_1 : decode b_MM_init 1 = .ok (.invokespecial 1, 3) := by decide +kernel
theorem dMM_init_4 : decode b_MM_init 4 = .ok (.aload_n 0, 1) := by decide +kernel
theorem dMM_init_5 : decode b_MM_init 5 = .ok (.bipush 8, 2) := by decide +kernel
theorem dMM_init_7 : decode b_MM_init 7 = .ok (.newarray .boolean, 2) := by decide +kernel
theorem dMM_init_9 : decode b_MM_init 9 = .ok (.putfield 7, 3) := by decide +kernel
theorem dMM_init_12 : decode b_MM_init 12 = .ok (.aload_n 0, 1) := by decide +kernel
theorem dMM_init_13 : decode b_MM_init 13 = .ok (.bipush 8, 2) := by decide +kernel
theorem dMM_init_15 : decode b_MM_init 15 = .ok (.newarray .int, 2) := by decide +kernel
theorem dMM_init_17 : decode b_MM_init 17 = .ok (.putfield 13, 3) := by decide +kernel
theorem dMM_init_20 : decode b_MM_init 20 = .ok (.aload_n 0, 1) := by decide +kernel
theorem dMM_init_21 : decode b_MM_init 21 = .ok (.bipush 8, 2) := by decide +kernel
theorem dMM_init_23 : decode b_MM_init 23 = .ok (.newarray .int, 2) := by decide +kernel
theorem dMM_init_25 : decode b_MM_init 25 = .ok (.putfield 17, 3) := by decide +kernel
theorem dMM_init_28 : decode b_MM_init 28 = .ok (.aload_n 0, 1) := by decide +kernel
theorem dMM_init_29 : decode b_MM_init 29 = .ok (.bipush 8, 2) := by decide +kernel
theorem dMM_init_31 : decode b_MM_init 31 = .ok (.newarray .int, 2) := by decide +kernel
theorem dMM_init_33 : decode b_MM_init 33 = .ok (.putfield 20, 3) := by decide +kernel
theorem dMM_init_36 : decode b_MM_init 36 = .ok (.aload_n 0, 1) := by decide +kernel
theorem dMM_init_37 : decode b_MM_init 37 = .ok (.bipush 8, 2) := by decide +kernel
theorem dMM_init_39 : decode b_MM_init 39 = .ok (.newarray .int, 2) := by decide +kernel
theorem dMM_init_41 : decode b_MM_init 41 = .ok (.putfield 23, 3) := by decide +kernel
theorem dMM_init_44 : decode b_MM_init 44 = .ok (.aload_n 0, 1) := by decide +kernel
theorem dMM_init_45 : decode b_MM_init 45 = .ok (.bipush 8, 2) := by decide +kernel
theorem dMM_init_47 : decode b_MM_init 47 = .ok (.newarray .int, 2) := by decide +kernel
theorem dMM_init_49 : decode b_MM_init 49 = .ok (.putfield 26, 3) := by decide +kernel
theorem dMM_init_52 : decode b_MM_init 52 = .ok (.aload_n 0, 1) := by decide +kernel
theorem dMM_init_53 : decode b_MM_init 53 = .ok (.bipush 8, 2) := by decide +kernel
theorem dMM_init_55 : decode b_MM_init 55 = .ok (.newarray .int, 2) := by decide +kernel
theorem dMM_init_57 : decode b_MM_init 57 = .ok (.putfield 29, 3) := by decide +kernel
theorem dMM_init_60 : decode b_MM_init 60 = .ok (.aload_n 0, 1) := by decide +kernel
theorem dMM_init_61 : decode b_MM_init 61 = .ok (.sipush 960, 3) := by decide +kernel
theorem dMM_init_64 : decode b_MM_init 64 = .ok (.newarray .int, 2) := by decide +kernel
theorem dMM_init_66 : decode b_MM_init 66 = .ok (.putfield 32, 3) := by decide +kernel
theorem dMM_init_69 : decode b_MM_init 69 = .ok (.aload_n 0, 1) := by decide +kernel
theorem dMM_init_70 : decode b_MM_init 70 = .ok (.sipush 960, 3) := by decide +kernel
theorem dMM_init_73 : decode b_MM_init 73 = .ok (.newarray .int, 2) := by decide +kernel
theorem dMM_init_75 : decode b_MM_init 75 = .ok (.putfield 35, 3) := by decide +kernel
theorem dMM_init_78 : decode b_MM_init 78 = .ok (.aload_n 0, 1) := by decide +kernel
theorem dMM_init_79 : decode b_MM_init 79 = .ok (.bipush 120, 2) := by decide +kernel
theorem dMM_init_81 : decode b_MM_init 81 = .ok (.newarray .int, 2) := by decide +kernel
theorem dMM_init_83 : decode b_MM_init 83 = .ok (.putfield 38, 3) := by decide +kernel
theorem dMM_init_86 : decode b_MM_init 86 = .ok (.aload_n 0, 1) := by decide +kernel
theorem dMM_init_87 : decode b_MM_init 87 = .ok (.sipush 1920, 3) := by decide +kernel
theorem dMM_init_90 : decode b_MM_init 90 = .ok (.newarray .int, 2) := by decide +kernel
theorem dMM_init_92 : decode b_MM_init 92 = .ok (.putfield 41, 3) := by decide +kernel
theorem dMM_init_95 : decode b_MM_init 95 = .ok (.aload_n 0, 1) := by decide +kernel
theorem dMM_init_96 : decode b_MM_init 96 = .ok (.sipush 1200, 3) := by decide +kernel
theorem dMM_init_99 : decode b_MM_init 99 = .ok (.newarray .int, 2) := by decide +kernel
theorem dMM_init_101 : decode b_MM_init 101 = .ok (.putfield 44, 3) := by decide +kernel
theorem dMM_init_104 : decode b_MM_init 104 = .ok (.aload_n 0, 1) := by decide +kernel
theorem dMM_init_105 : decode b_MM_init 105 = .ok (.bipush 120, 2) := by decide +kernel
theorem dMM_init_107 : decode b_MM_init 107 = .ok (.newarray .boolean, 2) := by decide +kernel
theorem dMM_init_109 : decode b_MM_init 109 = .ok (.putfield 47, 3) := by decide +kernel
theorem dMM_init_112 : decode b_MM_init 112 = .ok (.aload_n 0, 1) := by decide +kernel
theorem dMM_init_113 : decode b_MM_init 113 = .ok (.bipush 32, 2) := by decide +kernel
theorem dMM_init_115 : decode b_MM_init 115 = .ok (.newarray .int, 2) := by decide +kernel
theorem dMM_init_117 : decode b_MM_init 117 = .ok (.putfield 50, 3) := by decide +kernel
theorem dMM_init_120 : decode b_MM_init 120 = .ok (.aload_n 0, 1) := by decide +kernel
theorem dMM_init_121 : decode b_MM_init 121 = .ok (.bipush 10, 2) := by decide +kernel
theorem dMM_init_123 : decode b_MM_init 123 = .ok (.newarray .int, 2) := by decide +kernel
theorem dMM_init_125 : decode b_MM_init 125 = .ok (.putfield 53, 3) := by decide +kernel
theorem dMM_init_128 : decode b_MM_init 128 = .ok (.aload_n 0, 1) := by decide +kernel
theorem dMM_init_129 : decode b_MM_init 129 = .ok (.bipush 8, 2) := by decide +kernel
theorem dMM_init_131 : decode b_MM_init 131 = .ok (.newarray .boolean, 2) := by decide +kernel
theorem dMM_init_133 : decode b_MM_init 133 = .ok (.putfield 56, 3) := by decide +kernel
theorem dMM_init_136 : decode b_MM_init 136 = .ok (.aload_n 0, 1) := by decide +kernel
theorem dMM_init_137 : decode b_MM_init 137 = .ok (.bipush 50, 2) := by decide +kernel
theorem dMM_init_139 : decode b_MM_init 139 = .ok (.newarray .int, 2) := by decide +kernel
theorem dMM_init_141 : decode b_MM_init 141 = .ok (.putfield 59, 3) := by decide +kernel
theorem dMM_init_144 : decode b_MM_init 144 = .ok (.aload_n 0, 1) := by decide +kernel
theorem dMM_init_145 : decode b_MM_init 145 = .ok (.bipush 50, 2) := by decide +kernel
theorem dMM_init_147 : decode b_MM_init 147 = .ok (.newarray .int, 2) := by decide +kernel
theorem dMM_init_149 : decode b_MM_init 149 = .ok (.putfield 62, 3) := by decide +kernel
theorem dMM_init_152 : decode b_MM_init 152 = .ok (.aload_n 0, 1) := by decide +kernel
theorem dMM_init_153 : decode b_MM_init 153 = .ok (.bipush 50, 2) := by decide +kernel
theorem dMM_init_155 : decode b_MM_init 155 = .ok (.newarray .int, 2) := by decide +kernel
theorem dMM_init_157 : decode b_MM_init 157 = .ok (.putfield 65, 3) := by decide +kernel
theorem dMM_init_160 : decode b_MM_init 160 = .ok (.aload_n 0, 1) := by decide +kernel
theorem dMM_init_161 : decode b_MM_init 161 = .ok (.sipush 800, 3) := by decide +kernel
theorem dMM_init_164 : decode b_MM_init 164 = .ok (.newarray .int, 2) := by decide +kernel
theorem dMM_init_166 : decode b_MM_init 166 = .ok (.putfield 68, 3) := by decide +kernel
theorem dMM_init_169 : decode b_MM_init 169 = .ok (.aload_n 0, 1) := by decide +kernel
theorem dMM_init_170 : decode b_MM_init 170 = .ok (.sipush 500, 3) := by decide +kernel
theorem dMM_init_173 : decode b_MM_init 173 = .ok (.newarray .int, 2) := by decide +kernel
theorem dMM_init_175 : decode b_MM_init 175 = .ok (.putfield 71, 3) := by decide +kernel
theorem dMM_init_178 : decode b_MM_init 178 = .ok (.aload_n 0, 1) := by decide +kernel
theorem dMM_init_179 : decode b_MM_init 179 = .ok (.sipush 201, 3) := by decide +kernel
theorem dMM_init_182 : decode b_MM_init 182 = .ok (.newarray .int, 2) := by decide +kernel
theorem dMM_init_184 : decode b_MM_init 184 = .ok (.putfield 74, 3) := by decide +kernel
theorem dMM_init_187 : decode b_MM_init 187 = .ok (.aload_n 0, 1) := by decide +kernel
theorem dMM_init_188 : decode b_MM_init 188 = .ok (.sipush 201, 3) := by decide +kernel
theorem dMM_init_191 : decode b_MM_init 191 = .ok (.newarray .int, 2) := by decide +kernel
theorem dMM_init_193 : decode b_MM_init 193 = .ok (.putfield 77, 3) := by decide +kernel
theorem dMM_init_196 : decode b_MM_init 196 = .ok (.aload_n 0, 1) := by decide +kernel
theorem dMM_init_197 : decode b_MM_init 197 = .ok (.sipush 2000, 3) := by decide +kernel
theorem dMM_init_200 : decode b_MM_init 200 = .ok (.newarray .int, 2) := by decide +kernel
theorem dMM_init_202 : decode b_MM_init 202 = .ok (.putfield 80, 3) := by decide +kernel
theorem dMM_init_205 : decode b_MM_init 205 = .ok (.aload_n 0, 1) := by decide +kernel
theorem dMM_init_206 : decode b_MM_init 206 = .ok (.bipush 100, 2) := by decide +kernel
theorem dMM_init_208 : decode b_MM_init 208 = .ok (.newarray .int, 2) := by decide +kernel
theorem dMM_init_210 : decode b_MM_init 210 = .ok (.putfield 83, 3) := by decide +kernel
theorem dMM_init_213 : decode b_MM_init 213 = .ok (.return_, 1) := by decide +kernel
theorem dMM_into_0 : decode b_MM_into 0 = .ok (.aload_n 0, 1) := by decide +kernel
theorem dMM_into_1 : decode b_MM_into 1 = .ok (.iload_n 1, 1) := by decide +kernel
theorem dMM_into_2 : decode b_MM_into 2 = .ok (.invokevirtual 176, 3) := by decide +kernel
theorem dMM_into_5 : decode b_MM_into 5 = .ok (.aload_n 0, 1) := by decide +kernel
theorem dMM_into_6 : decode b_MM_into 6 = .ok (.getfield 154, 3) := by decide +kernel
theorem dMM_into_9 : decode b_MM_into 9 = .ok (.iconst 2, 1) := by decide +kernel
theorem dMM_into_10 : decode b_MM_into 10 = .ok (.isub, 1) := by decide +kernel
theorem dMM_into_11 : decode b_MM_into 11 = .ok (.istore_n 2, 1) := by decide +kernel
theorem dMM_into_12 : decode b_MM_into 12 = .ok (.aload_n 0, 1) := by decide +kernel
theorem dMM_into_13 : decode b_MM_into 13 = .ok (.getfield 13, 3) := by decide +kernel
theorem dMM_into_16 : decode b_MM_into 16 = .ok (.iload_n 1, 1) := by decide +kernel
theorem dMM_into_17 : decode b_MM_into 17 = .ok (.iaload, 1) := by decide +kernel
theorem dMM_into_18 : decode b_MM_into 18 = .ok (.iconst 1, 1) := by decide +kernel
theorem dMM_into_19 : decode b_MM_into 19 = .ok (.isub, 1) := by decide +kernel
theorem dMM_into_20 : decode b_MM_into 20 = .ok (.istore_n 3, 1) := by decide +kernel
theorem dMM_into_21 : decode b_MM_into 21 = .ok (.iload_n 3, 1) := by decide +kernel
theorem dMM_into_22 : decode b_MM_into 22 = .ok (.ifCond .lt 52, 3) := by decide +kernel
theorem dMM_into_25 : decode b_MM_into 25 = .ok (.aload_n 0, 1) := by decide +kernel
theorem dMM_into_26 : decode b_MM_into 26 = .ok (.getfield 65, 3) := by decide +kernel
theorem dMM_into_29 : decode b_MM_into 29 = .ok (.iload_n 2, 1) := by decide +kernel
theorem dMM_into_30 : decode b_MM_into 30 = .ok (.dup2, 1) := by decide +kernel
theorem dMM_into_31 : decode b_MM_into 31 = .ok (.iaload, 1) := by decide +kernel
theorem dMM_into_32 : decode b_MM_into 32 = .ok (.iconst 1, 1) := by decide +kernel
theorem dMM_into_33 : decode b_MM_into 33 = .ok (.isub, 1) := by decide +kernel
theorem dMM_into_34 : decode b_MM_into 34 = .ok (.iastore, 1) := by decide +kernel
theorem dMM_into_35 : decode b_MM_into 35 = .ok (.aload_n 0, 1) := by decide +kernel
theorem dMM_into_36 : decode b_MM_into 36 = .ok (.getfield 71, 3) := by decide +kernel
theorem dMM_into_39 : decode b_MM_into 39 = .ok (.bipush 10, 2) := by decide +kernel
theorem dMM_into_41 : decode b_MM_into 41 = .ok (.aload_n 0, 1) := by decide +kernel
theorem dMM_into_42 : decode b_MM_into 42 = .ok (.getfield 154, 3) := by decide +kernel
theorem dMM_into_45 : decode b_MM_into 45 = .ok (.imul, 1) := by decide +kernel
theorem dMM_into_46 : decode b_MM_into 46 = .ok (.bipush 10, 2) := by decide +kernel
theorem dMM_into_48 : decode b_MM_into 48 = .ok (.isub, 1) := by decide +kernel
theorem dMM_into_49 : decode b_MM_into 49 = .ok (.iload_n 3, 1) := by decide +kernel
theorem dMM_into_50 : decode b_MM_into 50 = .ok (.iadd, 1) := by decide +kernel
theorem dMM_into_51 : decode b_MM_into 51 = .ok (.aload_n 0, 1) := by decide +kernel
theorem dMM_into_52 : decode b_MM_into 52 = .ok (.getfield 68, 3) := by decide +kernel
theorem dMM_into_55 : decode b_MM_into 55 = .ok (.bipush 16, 2) := by decide +kernel
theorem dMM_into_57 : decode b_MM_into 57 = .ok (.iload_n 2, 1) := by decide +kernel
theorem dMM_into_58 : decode b_MM_into 58 = .ok (.imul, 1) := by decide +kernel
theorem dMM_into_59 : decode b_MM_into 59 = .ok (.aload_n 0, 1) := by decide +kernel
theorem dMM_into_60 : decode b_MM_into 60 = .ok (.getfield 65, 3) := by decide +kernel
theorem dMM_into_63 : decode b_MM_into 63 = .ok (.iload_n 2, 1) := by decide +kernel
theorem dMM_into_64 : decode b_MM_into 64 = .ok (.iaload, 1) := by decide +kernel
theorem dMM_into_65 : decode b_MM_into 65 = .ok (.iadd, 1) := by decide +kernel
theorem dMM_into_66 : decode b_MM_into 66 = .ok (.iaload, 1) := by decide +kernel
theorem dMM_into_67 : decode b_MM_into 67 = .ok (.iastore, 1) := by decide +kernel
theorem dMM_into_68 : decode b_MM_into 68 = .ok (.iinc 3 (-1), 3) := by decide +kernel
theorem dMM_into_71 : decode b_MM_into 71 = .ok (.goto (-50), 3) := by decide +kernel
theorem dMM_into_74 : decode b_MM_into 74 = .ok (.return_, 1) := by decide +kernel
theorem dMM_isMethod_0 : decode b_MM_isMethod 0 = .ok (.iload_n 1, 1) := by decide +kernel
theorem dMM_isMethod_1 : decode b_MM_isMethod 1 = .ok (.ifCond .lt 22, 3) := by decide +kernel
theorem dMM_isMethod_4 : decode b_MM_isMethod 4 = .ok (.iload_n 1, 1) := by decide +kernel
theorem dMM_isMethod_5 : decode b_MM_isMethod 5 = .ok (.bipush 8, 2) := by decide +kernel
theorem dMM_isMethod_7 : decode b_MM_isMethod 7 = .ok (.if_icmp .ge 16, 3) := by decide +kernel
theorem dMM_isMethod_10 : decode b_MM_isMethod 10 = .ok (.aload_n 0, 1) := by decide +kernel
theorem dMM_isMethod_11 : decode b_MM_isMethod 11 = .ok (.getfield 7, 3) := by decide +kernel
theorem dMM_isMethod_14 : decode b_MM_isMethod 14 = .ok (.iload_n 1, 1) := by decide +kernel
theorem dMM_isMethod_15 : decode b_MM_isMethod 15 = .ok (.baload, 1) := by decide +kernel
theorem dMM_isMethod_16 : decode b_MM_isMethod 16 = .ok (.ifCond .eq 7, 3) := by decide +kernel
theorem dMM_isMethod_19 : decode b_MM_isMethod 19 = .ok (.iconst 1, 1) := by decide +kernel
theorem dMM_isMethod_20 : decode b_MM_isMethod 20 = .ok (.goto 4, 3) := by decide +kernel
theorem dMM_isMethod_23 : decode b_MM_isMethod 23 = .ok (.iconst 0, 1) := by decide +kernel
theorem dMM_isMethod_24 : decode b_MM_isMethod 24 = .ok (.ireturn, 1) := by decide +kernel
theorem dMM_isPlace_0 : decode b_MM_isPlace 0 = .ok (.aload_n 0, 1) := by decide +kernel
theorem dMM_isPlace_1 : decode b_MM_isPlace 1 = .ok (.iload_n 1, 1) := by decide +kernel
theorem dMM_isPlace_2 : decode b_MM_isPlace 2 = .ok (.invokevirtual 102, 3) := by decide +kernel
theorem dMM_isPlace_5 : decode b_MM_isPlace 5 = .ok (.ifCond .eq 21, 3) := by decide +kernel
theorem dMM_isPlace_8 : decode b_MM_isPlace 8 = .ok (.iload_n 2, 1) := by decide +kernel
theorem dMM_isPlace_9 : decode b_MM_isPlace 9 = .ok (.ifCond .lt 17, 3) := by decide +kernel
theorem dMM_isPlace_12 : decode b_MM_isPlace 12 = .ok (.iload_n 2, 1) := by decide +kernel
theorem dMM_isPlace_13 : decode b_MM_isPlace 13 = .ok (.aload_n 0, 1) := by decide +kernel
theorem dMM_isPlace_14 : decode b_MM_isPlace 14 = .ok (.getfield 29, 3) := by decide +kernel
theorem dMM_isPlace_17 : decode b_MM_isPlace 17 = .ok (.iload_n 1, 1) := by decide +kernel
theorem dMM_isPlace_18 : decode b_MM_isPlace 18 = .ok (.iaload, 1) := by decide +kernel
theorem dMM_isPlace_19 : decode b_MM_isPlace 19 = .ok (.if_icmp .ge 7, 3) := by decide +kernel
theorem dMM_isPlace_22 : decode b_MM_isPlace 22 = .ok (.iconst 1, 1) := by decide +kernel
theorem dMM_isPlace_23 : decode b_MM_isPlace 23 = .ok (.goto 4, 3) := by decide +kernel
theorem dMM_isPlace_26 : decode b_MM_isPlace 26 = .ok (.iconst 0, 1) := by decide +kernel
theorem dMM_isPlace_27 : decode b_MM_isPlace 27 = .ok (.ireturn, 1) := by decide +kernel
