theorem dMM_judge_0 : decode b_MM_judge 0 = .ok (.aload_n 0, 1) := by decide +kernel
theorem dMM_judge_1 : decode b_MM_judge 1 = .ok (.iconst 0, 1) := by decide +kernel
theorem dMM_judge_2 : decode b_MM_judge 2 = .ok (.putfield 113, 3) := by decide +kernel
theorem dMM_judge_5 : decode b_MM_judge 5 = .ok (.iconst 0, 1) := by decide +kernel
theorem dMM_judge_6 : decode b_MM_judge 6 = .ok (.istore_n 2, 1) := by decide +kernel
theorem dMM_judge_7 : decode b_MM_judge 7 = .ok (.iload_n 2, 1) := by decide +kernel
theorem dMM_judge_8 : decode b_MM_judge 8 = .ok (.bipush 120, 2) := by decide +kernel
theorem dMM_judge_10 : decode b_MM_judge 10 = .ok (.if_icmp .ge 23, 3) := by decide +kernel
theorem dMM_judge_13 : decode b_MM_judge 13 = .ok (.aload_n 0, 1) := by decide +kernel
theorem dMM_judge_14 : decode b_MM_judge 14 = .ok (.getfield 38, 3) := by decide +kernel
theorem dMM_judge_17 : decode b_MM_judge 17 = .ok (.iload_n 2, 1) := by decide +kernel
theorem dMM_judge_18 : decode b_MM_judge 18 = .ok (.iconst (-1), 1) := by decide +kernel
theorem dMM_judge_19 : decode b_MM_judge 19 = .ok (.iastore, 1) := by decide +kernel
theorem dMM_judge_20 : decode b_MM_judge 20 = .ok (.aload_n 0, 1) := by decide +kernel
theorem dMM_judge_21 : decode b_MM_judge 21 = .ok (.getfield 47, 3) := by decide +kernel
theorem dMM_judge_24 : decode b_MM_judge 24 = .ok (.iload_n 2, 1) := by decide +kernel
theorem dMM_judge_25 : decode b_MM_judge 25 = .ok (.iconst 0, 1) := by decide +kernel
theorem dMM_judge_26 : decode b_MM_judge 26 = .ok (.bastore, 1) := by decide +kernel
theorem dMM_judge_27 : decode b_MM_judge 27 = .ok (.iinc 2 1, 3) := by decide +kernel
theorem dMM_judge_30 : decode b_MM_judge 30 = .ok (.goto (-23), 3) := by decide +kernel
theorem dMM_judge_33 : decode b_MM_judge 33 = .ok (.aload_n 0, 1) := by decide +kernel
theorem dMM_judge_34 : decode b_MM_judge 34 = .ok (.iconst 0, 1) := by decide +kernel
theorem dMM_judge_35 : decode b_MM_judge 35 = .ok (.putfield 110, 3) := by decide +kernel
theorem dMM_judge_38 : decode b_MM_judge 38 = .ok (.iconst 0, 1) := by decide +kernel
theorem dMM_judge_39 : decode b_MM_judge 39 = .ok (.istore_n 2, 1) := by decide +kernel
theorem dMM_judge_40 : decode b_MM_judge 40 = .ok (.iload_n 2, 1) := by decide +kernel
theorem dMM_judge_41 : decode b_MM_judge 41 = .ok (.bipush 10, 2) := by decide +kernel
theorem dMM_judge_43 : decode b_MM_judge 43 = .ok (.if_icmp .ge 48, 3) := by decide +kernel
theorem dMM_judge_46 : decode b_MM_judge 46 = .ok (.aload_n 0, 1) := by decide +kernel
theorem dMM_judge_47 : decode b_MM_judge 47 = .ok (.getfield 53, 3) := by decide +kernel
theorem dMM_judge_50 : decode b_MM_judge 50 = .ok (.iload_n 2, 1) := by decide +kernel
theorem dMM_judge_51 : decode b_MM_judge 51 = .ok (.iload_n 2, 1) := by decide +kernel
theorem dMM_judge_52 : decode b_MM_judge 52 = .ok (.aload_n 0, 1) := by decide +kernel
theorem dMM_judge_53 : decode b_MM_judge 53 = .ok (.getfield 13, 3) := by decide +kernel
theorem dMM_judge_56 : decode b_MM_judge 56 = .ok (.iload_n 1, 1) := by decide +kernel
theorem dMM_judge_57 : decode b_MM_judge 57 = .ok (.iaload, 1) := by decide +kernel
theorem dMM_judge_58 : decode b_MM_judge 58 = .ok (.if_icmp .lt 7, 3) := by decide +kernel
theorem dMM_judge_61 : decode b_MM_judge 61 = .ok (.iconst 0, 1) := by decide +kernel
theorem dMM_judge_62 : decode b_MM_judge 62 = .ok (.goto 22, 3) := by decide +kernel
theorem dMM_judge_65 : decode b_MM_judge 65 = .ok (.aload_n 0, 1) := by decide +kernel
theorem dMM_judge_66 : decode b_MM_judge 66 = .ok (.getfield 17, 3) := by decide +kernel
theorem dMM_judge_69 : decode b_MM_judge 69 = .ok (.iload_n 1, 1) := by decide +kernel
theorem dMM_judge_70 : decode b_MM_judge 70 = .ok (.iaload, 1) := by decide +kernel
theorem dMM_judge_71 : decode b_MM_judge 71 = .ok (.iload_n 2, 1) := by decide +kernel
theorem dMM_judge_72 : decode b_MM_judge 72 = .ok (.ishr, 1) := by decide +kernel
theorem dMM_judge_73 : decode b_MM_judge 73 = .ok (.iconst 1, 1) := by decide +kernel
theorem dMM_judge_74 : decode b_MM_judge 74 = .ok (.iand, 1) := by decide +kernel
theorem dMM_judge_75 : decode b_MM_judge 75 = .ok (.iconst 1, 1) := by decide +kernel
theorem dMM_judge_76 : decode b_MM_judge 76 = .ok (.if_icmp .ne 7, 3) := by decide +kernel
theorem dMM_judge_79 : decode b_MM_judge 79 = .ok (.iconst 2, 1) := by decide +kernel
theorem dMM_judge_80 : decode b_MM_judge 80 = .ok (.goto 4, 3) := by decide +kernel
theorem dMM_judge_83 : decode b_MM_judge 83 = .ok (.iconst 1, 1) := by decide +kernel
theorem dMM_judge_84 : decode b_MM_judge 84 = .ok (.iastore, 1) := by decide +kernel
theorem dMM_judge_85 : decode b_MM_judge 85 = .ok (.iinc 2 1, 3) := by decide +kernel
theorem dMM_judge_88 : decode b_MM_judge 88 = .ok (.goto (-48), 3) := by decide +kernel
theorem dMM_judge_91 : decode b_MM_judge 91 = .ok (.aload_n 0, 1) := by decide +kernel
theorem dMM_judge_92 : decode b_MM_judge 92 = .ok (.iload_n 1, 1) := by decide +kernel
theorem dMM_judge_93 : decode b_MM_judge 93 = .ok (.iconst 0, 1) := by decide +kernel
theorem dMM_judge_94 : decode b_MM_judge 94 = .ok (.invokevirtual 138, 3) := by decide +kernel
theorem dMM_judge_97 : decode b_MM_judge 97 = .ok (.aload_n 0, 1) := by decide +kernel
theorem dMM_judge_98 : decode b_MM_judge 98 = .ok (.getfield 113, 3) := by decide +kernel
theorem dMM_judge_101 : decode b_MM_judge 101 = .ok (.ifCond .ne 7, 3) := by decide +kernel
theorem dMM_judge_104 : decode b_MM_judge 104 = .ok (.iconst 1, 1) := by decide +kernel
theorem dMM_judge_105 : decode b_MM_judge 105 = .ok (.goto 4, 3) := by decide +kernel
theorem dMM_judge_108 : decode b_MM_judge 108 = .ok (.iconst 0, 1) := by decide +kernel
theorem dMM_judge_109 : decode b_MM_judge 109 = .ok (.istore_n 2, 1) := by decide +kernel
theorem dMM_judge_110 : decode b_MM_judge 110 = .ok (.iload_n 2, 1) := by decide +kernel
theorem dMM_judge_111 : decode b_MM_judge 111 = .ok (.ifCond .eq 64, 3) := by decide +kernel
theorem dMM_judge_114 : decode b_MM_judge 114 = .ok (.aload_n 0, 1) := by decide +kernel
theorem dMM_judge_115 : decode b_MM_judge 115 = .ok (.getfield 113, 3) := by decide +kernel
theorem dMM_judge_118 : decode b_MM_judge 118 = .ok (.ifCond .ne 57, 3) := by decide +kernel
theorem dMM_judge_121 : decode b_MM_judge 121 = .ok (.iconst 0, 1) := by decide +kernel
theorem dMM_judge_122 : decode b_MM_judge 122 = .ok (.istore_n 2, 1) := by decide +kernel
theorem dMM_judge_123 : decode b_MM_judge 123 = .ok (.iconst 0, 1) := by decide +kernel
theorem dMM_judge_124 : decode b_MM_judge 124 = .ok (.istore_n 3, 1) := by decide +kernel
theorem dMM_judge_125 : decode b_MM_judge 125 = .ok (.iload_n 3, 1) := by decide +kernel
theorem dMM_judge_126 : decode b_MM_judge 126 = .ok (.aload_n 0, 1) := by decide +kernel
theorem dMM_judge_127 : decode b_MM_judge 127 = .ok (.getfield 29, 3) := by decide +kernel
theorem dMM_judge_130 : decode b_MM_judge 130 = .ok (.iload_n 1, 1) := by decide +kernel
theorem dMM_judge_131 : decode b_MM_judge 131 = .ok (.iaload, 1) := by decide +kernel
theorem dMM_judge_132 : decode b_MM_judge 132 = .ok (.if_icmp .ge 40, 3) := by decide +kernel
theorem dMM_judge_135 : decode b_MM_judge 135 = .ok (.aload_n 0, 1) := by decide +kernel
theorem dMM_judge_136 : decode b_MM_judge 136 = .ok (.getfield 113, 3) := by decide +kernel
theorem dMM_judge_139 : decode b_MM_judge 139 = .ok (.ifCond .ne 33, 3) := by decide +kernel
theorem dMM_judge_142 : decode b_MM_judge 142 = .ok (.aload_n 0, 1) := by decide +kernel
theorem dMM_judge_143 : decode b_MM_judge 143 = .ok (.getfield 47, 3) := by decide +kernel
theorem dMM_judge_146 : decode b_MM_judge 146 = .ok (.iload_n 3, 1) := by decide +kernel
theorem dMM_judge_147 : decode b_MM_judge 147 = .ok (.baload, 1) := by decide +kernel
theorem dMM_judge_148 : decode b_MM_judge 148 = .ok (.ifCond .eq 18, 3) := by decide +kernel
theorem dMM_judge_151 : decode b_MM_judge 151 = .ok (.aload_n 0, 1) := by decide +kernel
theorem dMM_judge_152 : decode b_MM_judge 152 = .ok (.getfield 47, 3) := by decide +kernel
theorem dMM_judge_155 : decode b_MM_judge 155 = .ok (.iload_n 3, 1) := by decide +kernel
theorem dMM_judge_156 : decode b_MM_judge 156 = .ok (.iconst 0, 1) := by decide +kernel
theorem dMM_judge_157 : decode b_MM_judge 157 = .ok (.bastore, 1) := by decide +kernel
theorem dMM_judge_158 : decode b_MM_judge 158 = .ok (.aload_n 0, 1) := by decide +kernel
theorem dMM_judge_159 : decode b_MM_judge 159 = .ok (.iload_n 1, 1) := by decide +kernel
theorem dMM_judge_160 : decode b_MM_judge 160 = .ok (.iload_n 3, 1) := by decide +kernel
theorem dMM_judge_161 : decode b_MM_judge 161 = .ok (.invokevirtual 142, 3) := by decide +kernel
theorem dMM_judge_164 : decode b_MM_judge 164 = .ok (.iconst 1, 1) := by decide +kernel
theorem dMM_judge_165 : decode b_MM_judge 165 = .ok (.istore_n 2, 1) := by decide +kernel
theorem dMM_judge_166 : decode b_MM_judge 166 = .ok (.iinc 3 1, 3) := by decide +kernel
theorem dMM_judge_169 : decode b_MM_judge 169 = .ok (.goto (-44), 3) := by decide +kernel
theorem dMM_judge_172 : decode b_MM_judge 172 = .ok (.goto (-62), 3) := by decide +kernel
theorem dMM_judge_175 : decode b_MM_judge 175 = .ok (.aload_n 0, 1) := by decide +kernel
theorem dMM_judge_176 : decode b_MM_judge 176 = .ok (.getfield 113, 3) := by decide +kernel
theorem dMM_judge_179 : decode b_MM_judge 179 = .ok (.ifCond .ne 7, 3) := by decide +kernel
theorem dMM_judge_182 : decode b_MM_judge 182 = .ok (.iconst 1, 1) := by decide +kernel
theorem dMM_judge_183 : decode b_MM_judge 183 = .ok (.goto 4, 3) := by decide +kernel
theorem dMM_judge_186 : decode b_MM_judge 186 = .ok (.iconst 0, 1) := by decide +kernel
theorem dMM_judge_187 : decode b_MM_judge 187 = .ok (.ireturn, 1) := by decide +kernel
theorem dMM_jumps_0 : decode b_MM_jumps 0 = .ok (.iload_n 1, 1) := by decide +kernel
theorem dMM_jumps_1 : decode b_MM_jumps 1 = .ok (.bipush 14, 2) := by decide +kernel
theorem dMM_jumps_3 : decode b_MM_jumps 3 = .ok (.if_icmp .ne 5, 3) := by decide +kernel
theorem dMM_jumps_6 : decode b_MM_jumps 6 = .ok (.iconst 1, 1) := by decide +kernel
theorem dMM_jumps_7 : decode b_MM_jumps 7 = .ok (.ireturn, 1) := by decide +kernel
theorem dMM_jumps_8 : decode b_MM_jumps 8 = .ok (.aload_n 0, 1) := by decide +kernel
theorem dMM_jumps_9 : decode b_MM_jumps 9 = .ok (.invokevirtual 185, 3) := by decide +kernel
theorem dMM_jumps_12 : decode b_MM_jumps 12 = .ok (.istore_n 2, 1) := by decide +kernel
theorem dMM_jumps_13 : decode b_MM_jumps 13 = .ok (.iload_n 1, 1) := by decide +kernel
theorem dMM_jumps_14 : decode b_MM_jumps 14 = .ok (.bipush 15, 2) := by decide +kernel
theorem dMM_jumps_16 : decode b_MM_jumps 16 = .ok (.if_icmp .eq 9, 3) := by decide +kernel
theorem dMM_jumps_19 : decode b_MM_jumps 19 = .ok (.iload_n 1, 1) := by decide +kernel
theorem dMM_jumps_20 : decode b_MM_jumps 20 = .ok (.bipush 19, 2) := by decide +kernel
theorem dMM_jumps_22 : decode b_MM_jumps 22 = .ok (.if_icmp .ne 32, 3) := by decide +kernel
theorem dMM_jumps_25 : decode b_MM_jumps 25 = .ok (.iload_n 1, 1) := by decide +kernel
theorem dMM_jumps_26 : decode b_MM_jumps 26 = .ok (.bipush 15, 2) := by decide +kernel
theorem dMM_jumps_28 : decode b_MM_jumps 28 = .ok (.if_icmp .ne 15, 3) := by decide +kernel
theorem dMM_jumps_31 : decode b_MM_jumps 31 = .ok (.iload_n 2, 1) := by decide +kernel
theorem dMM_jumps_32 : decode b_MM_jumps 32 = .ok (.ifCond .ne 7, 3) := by decide +kernel
theorem dMM_jumps_35 : decode b_MM_jumps 35 = .ok (.iconst 1, 1) := by decide +kernel
theorem dMM_jumps_36 : decode b_MM_jumps 36 = .ok (.goto 17, 3) := by decide +kernel
theorem dMM_jumps_39 : decode b_MM_jumps 39 = .ok (.iconst 0, 1) := by decide +kernel
theorem dMM_jumps_40 : decode b_MM_jumps 40 = .ok (.goto 13, 3) := by decide +kernel
theorem dMM_jumps_43 : decode b_MM_jumps 43 = .ok (.iload_n 2, 1) := by decide +kernel
theorem dMM_jumps_44 : decode b_MM_jumps 44 = .ok (.iconst (-1), 1) := by decide +kernel
theorem dMM_jumps_45 : decode b_MM_jumps 45 = .ok (.if_icmp .ne 7, 3) := by decide +kernel
theorem dMM_jumps_48 : decode b_MM_jumps 48 = .ok (.iconst 1, 1) := by decide +kernel
theorem dMM_jumps_49 : decode b_MM_jumps 49 = .ok (.goto 4, 3) := by decide +kernel
theorem dMM_jumps_52 : decode b_MM_jumps 52 = .ok (.iconst 0, 1) := by decide +kernel
theorem dMM_jumps_53 : decode b_MM_jumps 53 = .ok (.ireturn, 1) := by decide +kernel
theorem dMM_jumps_54 : decode b_MM_jumps 54 = .ok (.aload_n 0, 1) := by decide +kernel
theorem dMM_jumps_55 : decode b_MM_jumps 55 = .ok (.invokevirtual 185, 3) := by decide +kernel
theorem dMM_jumps_58 : decode b_MM_jumps 58 = .ok (.istore_n 3, 1) := by decide +kernel
theorem dMM_jumps_59 : decode b_MM_jumps 59 = .ok (.iload_n 1, 1) := by decide +kernel
theorem dMM_jumps_60 : decode b_MM_jumps 60 = .ok (.bipush 16, 2) := by decide +kernel
theorem dMM_jumps_62 : decode b_MM_jumps 62 = .ok (.if_icmp .ne 16, 3) := by decide +kernel
theorem dMM_jumps_65 : decode b_MM_jumps 65 = .ok (.iload_n 3, 1) := by decide +kernel
theorem dMM_jumps_66 : decode b_MM_jumps 66 = .ok (.iload_n 2, 1) := by decide +kernel
theorem dMM_jumps_67 : decode b_MM_jumps 67 = .ok (.if_icmp .ge 7, 3) := by decide +kernel
theorem dMM_jumps_70 : decode b_MM_jumps 70 = .ok (.iconst 1, 1) := by decide +kernel
theorem dMM_jumps_71 : decode b_MM_jumps 71 = .ok (.goto 17, 3) := by decide +kernel
theorem dMM_jumps_74 : decode b_MM_jumps 74 = .ok (.iconst 0, 1) := by decide +kernel
theorem dMM_jumps_75 : decode b_MM_jumps 75 = .ok (.goto 13, 3) := by decide +kernel
theorem dMM_jumps_78 : decode b_MM_jumps 78 = .ok (.iload_n 3, 1) := by decide +kernel
theorem dMM_jumps_79 : decode b_MM_jumps 79 = .ok (.iload_n 2, 1) := by decide +kernel
theorem dMM_jumps_80 : decode b_MM_jumps 80 = .ok (.if_icmp .ne 7, 3) := by decide +kernel
theorem dMM_jumps_83 : decode b_MM_jumps 83 = .ok (.iconst 1, 1) := by decide +kernel
theorem dMM_jumps_84 : decode b_MM_jumps 84 = .ok (.goto 4, 3) := by decide +kernel
theorem dMM_jumps_87 : decode b_MM_jumps 87 = .ok (.iconst 0, 1) := by decide +kernel
theorem dMM_jumps_88 : decode b_MM_jumps 88 = .ok (.ireturn, 1) := by decide +kernel
theorem dMM_local_0 : decode b_MM_local 0 = .ok (.iload_n 2, 1) := by decide +kernel
theorem dMM_local_1 : decode b_MM_local 1 = .ok (.ifCond .lt 13, 3) := by decide +kernel
theorem dMM_local_4 : decode b_MM_local 4 = .ok (.iload_n 2, 1) := by decide +kernel
theorem dMM_local_5 : decode b_MM_local 5 = .ok (.aload_n 0, 1) := by decide +kernel
theorem dMM_local_6 : decode b_MM_local 6 = .ok (.getfield 23, 3) := by decide +kernel
theorem dMM_local_9 : decode b_MM_local 9 = .ok (.iload_n 1, 1) := by decide +kernel
theorem dMM_local_10 : decode b_MM_local 10 = .ok (.iaload, 1) := by decide +kernel
theorem dMM_local_11 : decode b_MM_local 11 = .ok (.if_icmp .lt 11, 3) := by decide +kernel
theorem dMM_local_14 : decode b_MM_local 14 = .ok (.aload_n 0, 1) := by decide +kernel
theorem dMM_local_15 : decode b_MM_local 15 = .ok (.iconst 1, 1) := by decide +kernel
theorem dMM_local_16 : decode b_MM_local 16 = .ok (.putfield 113, 3) := by decide +kernel
theorem dMM_local_19 : decode b_MM_local 19 = .ok (.goto 56, 3) := by decide +kernel
theorem dMM_local_22 : decode b_MM_local 22 = .ok (.iload 4, 2) := by decide +kernel
theorem dMM_local_24 : decode b_MM_local 24 = .ok (.ifCond .eq 37, 3) := by decide +kernel
theorem dMM_local_27 : decode b_MM_local 27 = .ok (.aload_n 0, 1) := by decide +kernel
theorem dMM_local_28 : decode b_MM_local 28 = .ok (.aload_n 0, 1) := by decide +kernel
theorem dMM_local_29 : decode b_MM_local 29 = .ok (.getfield 113, 3) := by decide +kernel
theorem dMM_local_32 : decode b_MM_local 32 = .ok (.ifCond .ne 13, 3) := by decide +kernel
theorem dMM_local_35 : decode b_MM_local 35 = .ok (.aload_n 0, 1) := by decide +kernel
theorem dMM_local_36 : decode b_MM_local 36 = .ok (.getfield 53, 3) := by decide +kernel
theorem dMM_local_39 : decode b_MM_local 39 = .ok (.iload_n 2, 1) := by decide +kernel
theorem dMM_local_40 : decode b_MM_local 40 = .ok (.iaload, 1) := by decide +kernel
theorem dMM_local_41 : decode b_MM_local 41 = .ok (.iload_n 3, 1) := by decide +kernel
theorem dMM_local_42 : decode b_MM_local 42 = .ok (.if_icmp .eq 7, 3) := by decide +kernel
theorem dMM_local_45 : decode b_MM_local 45 = .ok (.iconst 1, 1) := by decide +kernel
theorem dMM_local_46 : decode b_MM_local 46 = .ok (.goto 4, 3) := by decide +kernel
theorem dMM_local_49 : decode b_MM_local 49 = .ok (.iconst 0, 1) := by decide +kernel
theorem dMM_local_50 : decode b_MM_local 50 = .ok (.putfield 113, 3) := by decide +kernel
theorem dMM_local_53 : decode b_MM_local 53 = .ok (.aload_n 0, 1) := by decide +kernel
theorem dMM_local_54 : decode b_MM_local 54 = .ok (.iload_n 3, 1) := by decide +kernel
theorem dMM_local_55 : decode b_MM_local 55 = .ok (.invokevirtual 116, 3) := by decide +kernel
theorem dMM_local_58 : decode b_MM_local 58 = .ok (.goto 17, 3) := by decide +kernel
theorem dMM_local_61 : decode b_MM_local 61 = .ok (.aload_n 0, 1) := by decide +kernel
theorem dMM_local_62 : decode b_MM_local 62 = .ok (.iload_n 3, 1) := by decide +kernel
theorem dMM_local_63 : decode b_MM_local 63 = .ok (.invokevirtual 120, 3) := by decide +kernel
theorem dMM_local_66 : decode b_MM_local 66 = .ok (.istore 5, 2) := by decide +kernel
theorem dMM_local_68 : decode b_MM_local 68 = .ok (.aload_n 0, 1) := by decide +kernel
theorem dMM_local_69 : decode b_MM_local 69 = .ok (.getfield 53, 3) := by decide +kernel
theorem dMM_local_72 : decode b_MM_local 72 = .ok (.iload_n 2, 1) := by decide +kernel
theorem dMM_local_73 : decode b_MM_local 73 = .ok (.iload_n 3, 1) := by decide +kernel
theorem dMM_local_74 : decode b_MM_local 74 = .ok (.iastore, 1) := by decide +kernel
theorem dMM_local_75 : decode b_MM_local 75 = .ok (.return_, 1) := by decide +kernel
theorem dMM_look_0 : decode b_MM_look 0 = .ok (.aload_n 0, 1) := by decide +kernel
theorem dMM_look_1 : decode b_MM_look 1 = .ok (.aload_n 0, 1) := by decide +kernel
theorem dMM_look_2 : decode b_MM_look 2 = .ok (.getfield 38, 3) := by decide +kernel
theorem dMM_look_5 : decode b_MM_look 5 = .ok (.iload_n 2, 1) := by decide +kernel
theorem dMM_look_6 : decode b_MM_look 6 = .ok (.iaload, 1) := by decide +kernel
theorem dMM_look_7 : decode b_MM_look 7 = .ok (.putfield 110, 3) := by decide +kernel
theorem dMM_look_10 : decode b_MM_look 10 = .ok (.iconst 0, 1) := by decide +kernel
theorem dMM_look_11 : decode b_MM_look 11 = .ok (.istore_n 3, 1) := by decide +kernel
theorem dMM_look_12 : decode b_MM_look 12 = .ok (.iload_n 3, 1) := by decide +kernel
theorem dMM_look_13 : decode b_MM_look 13 = .ok (.aload_n 0, 1) := by decide +kernel
theorem dMM_look_14 : decode b_MM_look 14 = .ok (.getfield 110, 3) := by decide +kernel
theorem dMM_look_17 : decode b_MM_look 17 = .ok (.if_icmp .ge 26, 3) := by decide +kernel
theorem dMM_look_20 : decode b_MM_look 20 = .ok (.aload_n 0, 1) := by decide +kernel
theorem dMM_look_21 : decode b_MM_look 21 = .ok (.getfield 50, 3) := by decide +kernel
theorem dMM_look_24 : decode b_MM_look 24 = .ok (.iload_n 3, 1) := by decide +kernel
theorem dMM_look_25 : decode b_MM_look 25 = .ok (.aload_n 0, 1) := by decide +kernel
theorem dMM_look_26 : decode b_MM_look 26 = .ok (.getfield 41, 3) := by decide +kernel
theorem dMM_look_29 : decode b_MM_look 29 = .ok (.bipush 16, 2) := by decide +kernel
theorem dMM_look_31 : decode b_MM_look 31 = .ok (.iload_n 2, 1) := by decide +kernel
theorem dMM_look_32 : decode b_MM_look 32 = .ok (.imul, 1) := by decide +kernel
theorem dMM_look_33 : decode b_MM_look 33 = .ok (.iload_n 3, 1) := by decide +kernel
theorem dMM_look_34 : decode b_MM_look 34 = .ok (.iadd, 1) := by decide +kernel
theorem dMM_look_35 : decode b_MM_look 35 = .ok (.iaload, 1) := by decide +kernel
theorem dMM_look_36 : decode b_MM_look 36 = .ok (.iastore, 1) := by decide +kernel
theorem dMM_look_37 : decode b_MM_look 37 = .ok (.iinc 3 1, 3) := by decide +kernel
theorem dMM_look_40 : decode b_MM_look 40 = .ok (.goto (-28), 3) := by decide +kernel
theorem dMM_look_43 : decode b_MM_look 43 = .ok (.iconst 0, 1) := by decide +kernel
theorem dMM_look_44 : decode b_MM_look 44 = .ok (.istore_n 3, 1) := by decide +kernel
theorem dMM_look_45 : decode b_MM_look 45 = .ok (.iload_n 3, 1) := by decide +kernel
theorem dMM_look_46 : decode b_MM_look 46 = .ok (.bipush 10, 2) := by decide +kernel
theorem dMM_look_48 : decode b_MM_look 48 = .ok (.if_icmp .ge 26, 3) := by decide +kernel
theorem dMM_look_51 : decode b_MM_look 51 = .ok (.aload_n 0, 1) := by decide +kernel
theorem dMM_look_52 : decode b_MM_look 52 = .ok (.getfield 53, 3) := by decide +kernel
theorem dMM_look_55 : decode b_MM_look 55 = .ok (.iload_n 3, 1) := by decide +kernel
theorem dMM_look_56 : decode b_MM_look 56 = .ok (.aload_n 0, 1) := by decide +kernel
theorem dMM_look_57 : decode b_MM_look 57 = .ok (.getfield 44, 3) := by decide +kernel
theorem dMM_look_60 : decode b_MM_look 60 = .ok (.bipush 10, 2) := by decide +kernel
theorem dMM_look_62 : decode b_MM_look 62 = .ok (.iload_n 2, 1) := by decide +kernel
theorem dMM_look_63 : decode b_MM_look 63 = .ok (.imul, 1) := by decide +kernel
theorem dMM_look_64 : decode b_MM_look 64 = .ok (.iload_n 3, 1) := by decide +kernel
theorem dMM_look_65 : decode b_MM_look 65 = .ok (.iadd, 1) := by decide +kernel
theorem dMM_look_66 : decode b_MM_look 66 = .ok (.iaload, 1) := by decide +kernel
theorem dMM_look_67 : decode b_MM_look 67 = .ok (.iastore, 1) := by decide +kernel
theorem dMM_look_68 : decode b_MM_look 68 = .ok (.iinc 3 1, 3) := by decide +kernel
theorem dMM_look_71 : decode b_MM_look 71 = .ok (.goto (-26), 3) := by decide +kernel
theorem dMM_look_74 : decode b_MM_look 74 = .ok (.aload_n 0, 1) := by decide +kernel
theorem dMM_look_75 : decode b_MM_look 75 = .ok (.getfield 32, 3) := by decide +kernel
theorem dMM_look_78 : decode b_MM_look 78 = .ok (.bipush 120, 2) := by decide +kernel
theorem dMM_look_80 : decode b_MM_look 80 = .ok (.iload_n 1, 1) := by decide +kernel
theorem dMM_look_81 : decode b_MM_look 81 = .ok (.imul, 1) := by decide +kernel
theorem dMM_look_82 : decode b_MM_look 82 = .ok (.iload_n 2, 1) := by decide +kernel
theorem dMM_look_83 : decode b_MM_look 83 = .ok (.iadd, 1) := by decide +kernel
theorem dMM_look_84 : decode b_MM_look 84 = .ok (.iaload, 1) := by decide +kernel
theorem dMM_look_85 : decode b_MM_look 85 = .ok (.istore_n 3, 1) := by decide +kernel
theorem dMM_look_86 : decode b_MM_look 86 = .ok (.aload_n 0, 1) := by decide +kernel
theorem dMM_look_87 : decode b_MM_look 87 = .ok (.getfield 35, 3) := by decide +kernel
theorem dMM_look_90 : decode b_MM_look 90 = .ok (.bipush 120, 2) := by decide +kernel
theorem dMM_look_92 : decode b_MM_look 92 = .ok (.iload_n 1, 1) := by decide +kernel
theorem dMM_look_93 : decode b_MM_look 93 = .ok (.imul, 1) := by decide +kernel
theorem dMM_look_94 : decode b_MM_look 94 = .ok (.iload_n 2, 1) := by decide +kernel
theorem dMM_look_95 : decode b_MM_look 95 = .ok (.iadd, 1) := by decide +kernel
theorem dMM_look_96 : decode b_MM_look 96 = .ok (.iaload, 1) := by decide +kernel
theorem dMM_look_97 : decode b_MM_look 97 = .ok (.istore 4, 2) := by decide +kernel
theorem dMM_look_99 : decode b_MM_look 99 = .ok (.aload_n 0, 1) := by decide +kernel
theorem dMM_look_100 : decode b_MM_look 100 = .ok (.iload_n 1, 1) := by decide +kernel
theorem dMM_look_101 : decode b_MM_look 101 = .ok (.iload_n 3, 1) := by decide +kernel
theorem dMM_look_102 : decode b_MM_look 102 = .ok (.iload 4, 2) := by decide +kernel
theorem dMM_look_104 : decode b_MM_look 104 = .ok (.invokevirtual 135, 3) := by decide +kernel
theorem dMM_look_107 : decode b_MM_look 107 = .ok (.aload_n 0, 1) := by decide +kernel
theorem dMM_look_108 : decode b_MM_look 108 = .ok (.getfield 113, 3) := by decide +kernel
theorem dMM_look_111 : decode b_MM_look 111 = .ok (.ifCond .ne 16, 3) := by decide +kernel
theorem dMM_look_114 : decode b_MM_look 114 = .ok (.aload_n 0, 1) := by decide +kernel
theorem dMM_look_115 : decode b_MM_look 115 = .ok (.getfield 110, 3) := by decide +kernel
theorem dMM_look_118 : decode b_MM_look 118 = .ok (.aload_n 0, 1) := by decide +kernel
theorem dMM_look_119 : decode b_MM_look 119 = .ok (.getfield 26, 3) := by decide +kernel
theorem dMM_look_122 : decode b_MM_look 122 = .ok (.iload_n 1, 1) := by decide +kernel
theorem dMM_look_123 : decode b_MM_look 123 = .ok (.iaload, 1) := by decide +kernel
theorem dMM_look_124 : decode b_MM_look 124 = .ok (.if_icmp .le 9, 3) := by decide +kernel
theorem dMM_look_127 : decode b_MM_look 127 = .ok (.aload_n 0, 1) := by decide +kernel
theorem dMM_look_128 : decode b_MM_look 128 = .ok (.iconst 1, 1) := by decide +kernel
theorem dMM_look_129 : decode b_MM_look 129 = .ok (.putfield 113, 3) := by decide +kernel
theorem dMM_look_132 : decode b_MM_look 132 = .ok (.return_, 1) := by decide +kernel
theorem dMM_look_133 : decode b_MM_look 133 = .ok (.iload_n 3, 1) := by decide +kernel
theorem dMM_look_134 : decode b_MM_look 134 = .ok (.bipush 14, 2) := by decide +kernel
theorem dMM_look_136 : decode b_MM_look 136 = .ok (.if_icmp .lt 9, 3) := by decide +kernel
theorem dMM_look_139 : decode b_MM_look 139 = .ok (.iload_n 3, 1) := by decide +kernel
theorem dMM_look_140 : decode b_MM_look 140 = .ok (.bipush 17, 2) := by decide +kernel
theorem dMM_look_142 : decode b_MM_look 142 = .ok (.if_icmp .le 9, 3) := by decide +kernel
theorem dMM_look_145 : decode b_MM_look 145 = .ok (.iload_n 3, 1) := by decide +kernel
theorem dMM_look_146 : decode b_MM_look 146 = .ok (.bipush 19, 2) := by decide +kernel
theorem dMM_look_148 : decode b_MM_look 148 = .ok (.if_icmp .ne 10, 3) := by decide +kernel
theorem dMM_look_151 : decode b_MM_look 151 = .ok (.aload_n 0, 1) := by decide +kernel
theorem dMM_look_152 : decode b_MM_look 152 = .ok (.iload_n 1, 1) := by decide +kernel
theorem dMM_look_153 : decode b_MM_look 153 = .ok (.iload 4, 2) := by decide +kernel
theorem dMM_look_155 : decode b_MM_look 155 = .ok (.invokevirtual 138, 3) := by decide +kernel
theorem dMM_look_158 : decode b_MM_look 158 = .ok (.iload_n 3, 1) := by decide +kernel
theorem dMM_look_159 : decode b_MM_look 159 = .ok (.bipush 14, 2) := by decide +kernel
theorem dMM_look_161 : decode b_MM_look 161 = .ok (.if_icmp .eq 24, 3) := by decide +kernel
theorem dMM_look_164 : decode b_MM_look 164 = .ok (.iload_n 3, 1) := by decide +kernel
theorem dMM_look_165 : decode b_MM_look 165 = .ok (.bipush 24, 2) := by decide +kernel
theorem dMM_look_167 : decode b_MM_look 167 = .ok (.if_icmp .eq 18, 3) := by decide +kernel
theorem dMM_look_170 : decode b_MM_look 170 = .ok (.aload_n 0, 1) := by decide +kernel
theorem dMM_look_171 : decode b_MM_look 171 = .ok (.getfield 113, 3) := by decide +kernel
theorem dMM_look_174 : decode b_MM_look 174 = .ok (.ifCond .ne 11, 3) := by decide +kernel
theorem dMM_look_177 : decode b_MM_look 177 = .ok (.aload_n 0, 1) := by decide +kernel
theorem dMM_look_178 : decode b_MM_look 178 = .ok (.iload_n 1, 1) := by decide +kernel
theorem dMM_look_179 : decode b_MM_look 179 = .ok (.iload_n 2, 1) := by decide +kernel
theorem dMM_look_180 : decode b_MM_look 180 = .ok (.iconst 1, 1) := by decide +kernel
theorem dMM_look_181 : decode b_MM_look 181 = .ok (.iadd, 1) := by decide +kernel
theorem dMM_look_182 : decode b_MM_look 182 = .ok (.invokevirtual 138, 3) := by decide +kernel
theorem dMM_look_185 : decode b_MM_look 185 = .ok (.return_, 1) := by decide +kernel
theorem dMM_make_0 : decode b_MM_make 0 = .ok (.aload_n 0, 1) := by decide +kernel
theorem dMM_make_1 : decode b_MM_make 1 = .ok (.getfield 74, 3) := by decide +kernel
theorem dMM_make_4 : decode b_MM_make 4 = .ok (.aload_n 0, 1) := by decide +kernel
theorem dMM_make_5 : decode b_MM_make 5 = .ok (.getfield 148, 3) := by decide +kernel
theorem dMM_make_8 : decode b_MM_make 8 = .ok (.aload_n 0, 1) := by decide +kernel
theorem dMM_make_9 : decode b_MM_make 9 = .ok (.getfield 151, 3) := by decide +kernel
theorem dMM_make_12 : decode b_MM_make 12 = .ok (.iastore, 1) := by decide +kernel
theorem dMM_make_13 : decode b_MM_make 13 = .ok (.aload_n 0, 1) := by decide +kernel
theorem dMM_make_14 : decode b_MM_make 14 = .ok (.getfield 77, 3) := by decide +kernel
theorem dMM_make_17 : decode b_MM_make 17 = .ok (.aload_n 0, 1) := by decide +kernel
theorem dMM_make_18 : decode b_MM_make 18 = .ok (.getfield 148, 3) := by decide +kernel
theorem dMM_make_21 : decode b_MM_make 21 = .ok (.iload_n 1, 1) := by decide +kernel
theorem dMM_make_22 : decode b_MM_make 22 = .ok (.iastore, 1) := by decide +kernel
theorem dMM_make_23 : decode b_MM_make 23 = .ok (.iconst 0, 1) := by decide +kernel
theorem dMM_make_24 : decode b_MM_make 24 = .ok (.istore_n 2, 1) := by decide +kernel
theorem dMM_make_25 : decode b_MM_make 25 = .ok (.iload_n 2, 1) := by decide +kernel
theorem dMM_make_26 : decode b_MM_make 26 = .ok (.iload_n 1, 1) := by decide +kernel
theorem dMM_make_27 : decode b_MM_make 27 = .ok (.if_icmp .ge 21, 3) := by decide +kernel
theorem dMM_make_30 : decode b_MM_make 30 = .ok (.aload_n 0, 1) := by decide +kernel
theorem dMM_make_31 : decode b_MM_make 31 = .ok (.getfield 80, 3) := by decide +kernel
theorem dMM_make_34 : decode b_MM_make 34 = .ok (.aload_n 0, 1) := by decide +kernel
theorem dMM_make_35 : decode b_MM_make 35 = .ok (.getfield 151, 3) := by decide +kernel
theorem dMM_make_38 : decode b_MM_make 38 = .ok (.iload_n 2, 1) := by decide +kernel
theorem dMM_make_39 : decode b_MM_make 39 = .ok (.iadd, 1) := by decide +kernel
theorem dMM_make_40 : decode b_MM_make 40 = .ok (.iconst 0, 1) := by decide +kernel
theorem dMM_make_41 : decode b_MM_make 41 = .ok (.iastore, 1) := by decide +kernel
theorem dMM_make_42 : decode b_MM_make 42 = .ok (.iinc 2 1, 3) := by decide +kernel
theorem dMM_make_45 : decode b_MM_make 45 = .ok (.goto (-20), 3) := by decide +kernel
theorem dMM_make_48 : decode b_MM_make 48 = .ok (.aload_n 0, 1) := by decide +kernel
theorem dMM_make_49 : decode b_MM_make 49 = .ok (.aload_n 0, 1) := by decide +kernel
theorem dMM_make_50 : decode b_MM_make 50 = .ok (.getfield 151, 3) := by decide +kernel
theorem dMM_make_53 : decode b_MM_make 53 = .ok (.iload_n 1, 1) := by decide +kernel
theorem dMM_make_54 : decode b_MM_make 54 = .ok (.iadd, 1) := by decide +kernel
theorem dMM_make_55 : decode b_MM_make 55 = .ok (.putfield 151, 3) := by decide +kernel
theorem dMM_make_58 : decode b_MM_make 58 = .ok (.aload_n 0, 1) := by decide +kernel
theorem dMM_make_59 : decode b_MM_make 59 = .ok (.dup, 1) := by decide +kernel
theorem dMM_make_60 : decode b_MM_make 60 = .ok (.getfield 148, 3) := by decide +kernel
theorem dMM_make_63 : decode b_MM_make 63 = .ok (.iconst 1, 1) := by decide +kernel
theorem dMM_make_64 : decode b_MM_make 64 = .ok (.iadd, 1) := by decide +kernel
theorem dMM_make_65 : decode b_MM_make 65 = .ok (.putfield 148, 3) := by decide +kernel
theorem dMM_make_68 : decode b_MM_make 68 = .ok (.aload_n 0, 1) := by decide +kernel
theorem dMM_make_69 : decode b_MM_make 69 = .ok (.getfield 148, 3) := by decide +kernel
theorem dMM_make_72 : decode b_MM_make 72 = .ok (.iconst 1, 1) := by decide +kernel
theorem dMM_make_73 : decode b_MM_make 73 = .ok (.isub, 1) := by decide +kernel
theorem dMM_make_74 : decode b_MM_make 74 = .ok (.ireturn, 1) := by decide +kernel
theorem dMM_method_0 : decode b_MM_method 0 = .ok (.iload_n 2, 1) := by decide +kernel
theorem dMM_method_1 : decode b_MM_method 1 = .ok (.iconst 0, 1) := by decide +kernel
theorem dMM_method_2 : decode b_MM_method 2 = .ok (.iconst 4, 1) := by decide +kernel
theorem dMM_method_3 : decode b_MM_method 3 = .ok (.invokestatic 90, 3) := by decide +kernel
theorem dMM_method_6 : decode b_MM_method 6 = .ok (.ifCond .eq 51, 3) := by decide +kernel
theorem dMM_method_9 : decode b_MM_method 9 = .ok (.iload_n 3, 1) := by decide +kernel
theorem dMM_method_10 : decode b_MM_method 10 = .ok (.ifCond .lt 47, 3) := by decide +kernel
theorem dMM_method_13 : decode b_MM_method 13 = .ok (.iload_n 3, 1) := by decide +kernel
theorem dMM_method_14 : decode b_MM_method 14 = .ok (.iload_n 2, 1) := by decide +kernel
theorem dMM_method_15 : decode b_MM_method 15 = .ok (.ishr, 1) := by decide +kernel
theorem dMM_method_16 : decode b_MM_method 16 = .ok (.ifCond .ne 41, 3) := by decide +kernel
theorem dMM_method_19 : decode b_MM_method 19 = .ok (.iload 4, 2) := by decide +kernel
theorem dMM_method_21 : decode b_MM_method 21 = .ok (.iconst 0, 1) := by decide +kernel
theorem dMM_method_22 : decode b_MM_method 22 = .ok (.iconst 2, 1) := by decide +kernel
theorem dMM_method_23 : decode b_MM_method 23 = .ok (.invokestatic 90, 3) := by decide +kernel
theorem dMM_method_26 : decode b_MM_method 26 = .ok (.ifCond .eq 31, 3) := by decide +kernel
theorem dMM_method_29 : decode b_MM_method 29 = .ok (.iload 5, 2) := by decide +kernel
theorem dMM_method_31 : decode b_MM_method 31 = .ok (.iload_n 2, 1) := by decide +kernel
theorem dMM_method_32 : decode b_MM_method 32 = .ok (.if_icmp .lt 25, 3) := by decide +kernel
theorem dMM_method_35 : decode b_MM_method 35 = .ok (.iload 5, 2) := by decide +kernel
theorem dMM_method_37 : decode b_MM_method 37 = .ok (.bipush 10, 2) := by decide +kernel
theorem dMM_method_39 : decode b_MM_method 39 = .ok (.if_icmp .gt 18, 3) := by decide +kernel
theorem dMM_method_42 : decode b_MM_method 42 = .ok (.iload 6, 2) := by decide +kernel
theorem dMM_method_44 : decode b_MM_method 44 = .ok (.iconst 0, 1) := by decide +kernel
theorem dMM_method_45 : decode b_MM_method 45 = .ok (.bipush 15, 2) := by decide +kernel
theorem dMM_method_47 : decode b_MM_method 47 = .ok (.invokestatic 90, 3) := by decide +kernel
theorem dMM_method_50 : decode b_MM_method 50 = .ok (.ifCond .eq 7, 3) := by decide +kernel
theorem dMM_method_53 : decode b_MM_method 53 = .ok (.iconst 1, 1) := by decide +kernel
theorem dMM_method_54 : decode b_MM_method 54 = .ok (.goto 4, 3) := by decide +kernel
theorem dMM_method_57 : decode b_MM_method 57 = .ok (.iconst 0, 1) := by decide +kernel
theorem dMM_method_58 : decode b_MM_method 58 = .ok (.istore 7, 2) := by decide +kernel
theorem dMM_method_60 : decode b_MM_method 60 = .ok (.aload_n 0, 1) := by decide +kernel
theorem dMM_method_61 : decode b_MM_method 61 = .ok (.iload_n 1, 1) := by decide +kernel
theorem dMM_method_62 : decode b_MM_method 62 = .ok (.iconst 0, 1) := by decide +kernel
theorem dMM_method_63 : decode b_MM_method 63 = .ok (.bipush 7, 2) := by decide +kernel
theorem dMM_method_65 : decode b_MM_method 65 = .ok (.invokestatic 90, 3) := by decide +kernel
theorem dMM_method_68 : decode b_MM_method 68 = .ok (.iload 7, 2) := by decide +kernel
theorem dMM_method_70 : decode b_MM_method 70 = .ok (.iconst 1, 1) := by decide +kernel
theorem dMM_method_71 : decode b_MM_method 71 = .ok (.invokevirtual 94, 3) := by decide +kernel
theorem dMM_method_74 : decode b_MM_method 74 = .ok (.ifCond .ne 5, 3) := by decide +kernel
theorem dMM_method_77 : decode b_MM_method 77 = .ok (.iconst 0, 1) := by decide +kernel
theorem dMM_method_78 : decode b_MM_method 78 = .ok (.ireturn, 1) := by decide +kernel
theorem dMM_method_79 : decode b_MM_method 79 = .ok (.aload_n 0, 1) := by decide +kernel
theorem dMM_method_80 : decode b_MM_method 80 = .ok (.getfield 7, 3) := by decide +kernel
theorem dMM_method_83 : decode b_MM_method 83 = .ok (.iload_n 1, 1) := by decide +kernel
theorem dMM_method_84 : decode b_MM_method 84 = .ok (.baload, 1) := by decide +kernel
theorem dMM_method_85 : decode b_MM_method 85 = .ok (.istore 8, 2) := by decide +kernel
theorem dMM_method_87 : decode b_MM_method 87 = .ok (.aload_n 0, 1) := by decide +kernel
theorem dMM_method_88 : decode b_MM_method 88 = .ok (.getfield 7, 3) := by decide +kernel
theorem dMM_method_91 : decode b_MM_method 91 = .ok (.iload_n 1, 1) := by decide +kernel
theorem dMM_method_92 : decode b_MM_method 92 = .ok (.iconst 1, 1) := by decide +kernel
theorem dMM_method_93 : decode b_MM_method 93 = .ok (.bastore, 1) := by decide +kernel
theorem dMM_method_94 : decode b_MM_method 94 = .ok (.aload_n 0, 1) := by decide +kernel
theorem dMM_method_95 : decode b_MM_method 95 = .ok (.getfield 13, 3) := by decide +kernel
theorem dMM_method_98 : decode b_MM_method 98 = .ok (.iload_n 1, 1) := by decide +kernel
theorem dMM_method_99 : decode b_MM_method 99 = .ok (.iload_n 2, 1) := by decide +kernel
theorem dMM_method_100 : decode b_MM_method 100 = .ok (.iastore, 1) := by decide +kernel
theorem dMM_method_101 : decode b_MM_method 101 = .ok (.aload_n 0, 1) := by decide +kernel
theorem dMM_method_102 : decode b_MM_method 102 = .ok (.getfield 17, 3) := by decide +kernel
theorem dMM_method_105 : decode b_MM_method 105 = .ok (.iload_n 1, 1) := by decide +kernel
theorem dMM_method_106 : decode b_MM_method 106 = .ok (.iload_n 3, 1) := by decide +kernel
theorem dMM_method_107 : decode b_MM_method 107 = .ok (.iastore, 1) := by decide +kernel
theorem dMM_method_108 : decode b_MM_method 108 = .ok (.aload_n 0, 1) := by decide +kernel
theorem dMM_method_109 : decode b_MM_method 109 = .ok (.getfield 20, 3) := by decide +kernel
theorem dMM_method_112 : decode b_MM_method 112 = .ok (.iload_n 1, 1) := by decide +kernel
theorem dMM_method_113 : decode b_MM_method 113 = .ok (.iload 4, 2) := by decide +kernel
theorem dMM_method_115 : decode b_MM_method 115 = .ok (.iastore, 1) := by decide +kernel
theorem dMM_method_116 : decode b_MM_method 116 = .ok (.aload_n 0, 1) := by decide +kernel
theorem dMM_method_117 : decode b_MM_method 117 = .ok (.getfield 23, 3) := by decide +kernel
theorem dMM_method_120 : decode b_MM_method 120 = .ok (.iload_n 1, 1) := by decide +kernel
theorem dMM_method_121 : decode b_MM_method 121 = .ok (.iload 5, 2) := by decide +kernel
theorem dMM_method_123 : decode b_MM_method 123 = .ok (.iastore, 1) := by decide +kernel
theorem dMM_method_124 : decode b_MM_method 124 = .ok (.aload_n 0, 1) := by decide +kernel
theorem dMM_method_125 : decode b_MM_method 125 = .ok (.getfield 26, 3) := by decide +kernel
theorem dMM_method_128 : decode b_MM_method 128 = .ok (.iload_n 1, 1) := by decide +kernel
theorem dMM_method_129 : decode b_MM_method 129 = .ok (.iload 6, 2) := by decide +kernel
theorem dMM_method_131 : decode b_MM_method 131 = .ok (.iastore, 1) := by decide +kernel
theorem dMM_method_132 : decode b_MM_method 132 = .ok (.aload_n 0, 1) := by decide +kernel
theorem dMM_method_133 : decode b_MM_method 133 = .ok (.getfield 29, 3) := by decide +kernel
theorem dMM_method_136 : decode b_MM_method 136 = .ok (.iload_n 1, 1) := by decide +kernel
theorem dMM_method_137 : decode b_MM_method 137 = .ok (.iconst 0, 1) := by decide +kernel
theorem dMM_method_138 : decode b_MM_method 138 = .ok (.iastore, 1) := by decide +kernel
theorem dMM_method_139 : decode b_MM_method 139 = .ok (.aload_n 0, 1) := by decide +kernel
theorem dMM_method_140 : decode b_MM_method 140 = .ok (.iconst 0, 1) := by decide +kernel
theorem dMM_method_141 : decode b_MM_method 141 = .ok (.putfield 98, 3) := by decide +kernel
theorem dMM_method_144 : decode b_MM_method 144 = .ok (.iload 8, 2) := by decide +kernel
theorem dMM_method_146 : decode b_MM_method 146 = .ok (.ireturn, 1) := by decide +kernel
theorem dMM_of_0 : decode b_MM_of 0 = .ok (.iload_n 0, 1) := by decide +kernel
theorem dMM_of_1 : decode b_MM_of 1 = .ok (.ifCond .ne 7, 3) := by decide +kernel
theorem dMM_of_4 : decode b_MM_of 4 = .ok (.iload_n 1, 1) := by decide +kernel
theorem dMM_of_5 : decode b_MM_of 5 = .ok (.goto 23, 3) := by decide +kernel
theorem dMM_of_8 : decode b_MM_of 8 = .ok (.iload_n 0, 1) := by decide +kernel
theorem dMM_of_9 : decode b_MM_of 9 = .ok (.iconst 1, 1) := by decide +kernel
theorem dMM_of_10 : decode b_MM_of 10 = .ok (.if_icmp .ne 7, 3) := by decide +kernel
theorem dMM_of_13 : decode b_MM_of 13 = .ok (.iload_n 2, 1) := by decide +kernel
theorem dMM_of_14 : decode b_MM_of 14 = .ok (.goto 14, 3) := by decide +kernel
theorem dMM_of_17 : decode b_MM_of 17 = .ok (.iload_n 0, 1) := by decide +kernel
theorem dMM_of_18 : decode b_MM_of 18 = .ok (.iconst 2, 1) := by decide +kernel
theorem dMM_of_19 : decode b_MM_of 19 = .ok (.if_icmp .ne 7, 3) := by decide +kernel
theorem dMM_of_22 : decode b_MM_of 22 = .ok (.iload_n 3, 1) := by decide +kernel
theorem dMM_of_23 : decode b_MM_of 23 = .ok (.goto 5, 3) := by decide +kernel
theorem dMM_of_26 : decode b_MM_of 26 = .ok (.iload 4, 2) := by decide +kernel
theorem dMM_of_28 : decode b_MM_of 28 = .ok (.ireturn, 1) := by decide +kernel
theorem dMM_open_0 : decode b_MM_open 0 = .ok (.aload_n 0, 1) := by decide +kernel
theorem dMM_open_1 : decode b_MM_open 1 = .ok (.getfield 59, 3) := by decide +kernel
theorem dMM_open_4 : decode b_MM_open 4 = .ok (.aload_n 0, 1) := by decide +kernel
theorem dMM_open_5 : decode b_MM_open 5 = .ok (.getfield 154, 3) := by decide +kernel
theorem dMM_open_8 : decode b_MM_open 8 = .ok (.iload_n 1, 1) := by decide +kernel
theorem dMM_open_9 : decode b_MM_open 9 = .ok (.iastore, 1) := by decide +kernel
theorem dMM_open_10 : decode b_MM_open 10 = .ok (.aload_n 0, 1) := by decide +kernel
theorem dMM_open_11 : decode b_MM_open 11 = .ok (.getfield 62, 3) := by decide +kernel
theorem dMM_open_14 : decode b_MM_open 14 = .ok (.aload_n 0, 1) := by decide +kernel
theorem dMM_open_15 : decode b_MM_open 15 = .ok (.getfield 154, 3) := by decide +kernel
theorem dMM_open_18 : decode b_MM_open 18 = .ok (.iconst 0, 1) := by decide +kernel
theorem dMM_open_19 : decode b_MM_open 19 = .ok (.iastore, 1) := by decide +kernel
theorem dMM_open_20 : decode b_MM_open 20 = .ok (.aload_n 0, 1) := by decide +kernel
theorem dMM_open_21 : decode b_MM_open 21 = .ok (.getfield 65, 3) := by decide +kernel
theorem dMM_open_24 : decode b_MM_open 24 = .ok (.aload_n 0, 1) := by decide +kernel
theorem dMM_open_25 : decode b_MM_open 25 = .ok (.getfield 154, 3) := by decide +kernel
theorem dMM_open_28 : decode b_MM_open 28 = .ok (.iconst 0, 1) := by decide +kernel
theorem dMM_open_29 : decode b_MM_open 29 = .ok (.iastore, 1) := by decide +kernel
theorem dMM_open_30 : decode b_MM_open 30 = .ok (.iconst 0, 1) := by decide +kernel
theorem dMM_open_31 : decode b_MM_open 31 = .ok (.istore_n 2, 1) := by decide +kernel
theorem dMM_open_32 : decode b_MM_open 32 = .ok (.iload_n 2, 1) := by decide +kernel
theorem dMM_open_33 : decode b_MM_open 33 = .ok (.bipush 10, 2) := by decide +kernel
theorem dMM_open_35 : decode b_MM_open 35 = .ok (.if_icmp .ge 24, 3) := by decide +kernel
theorem dMM_open_38 : decode b_MM_open 38 = .ok (.aload_n 0, 1) := by decide +kernel
theorem dMM_open_39 : decode b_MM_open 39 = .ok (.getfield 71, 3) := by decide +kernel
theorem dMM_open_42 : decode b_MM_open 42 = .ok (.bipush 10, 2) := by decide +kernel
theorem dMM_open_44 : decode b_MM_open 44 = .ok (.aload_n 0, 1) := by decide +kernel
theorem dMM_open_45 : decode b_MM_open 45 = .ok (.getfield 154, 3) := by decide +kernel
theorem dMM_open_48 : decode b_MM_open 48 = .ok (.imul, 1) := by decide +kernel
theorem dMM_open_49 : decode b_MM_open 49 = .ok (.iload_n 2, 1) := by decide +kernel
theorem dMM_open_50 : decode b_MM_open 50 = .ok (.iadd, 1) := by decide +kernel
theorem dMM_open_51 : decode b_MM_open 51 = .ok (.iconst 0, 1) := by decide +kernel
theorem dMM_open_52 : decode b_MM_open 52 = .ok (.iastore, 1) := by decide +kernel
theorem dMM_open_53 : decode b_MM_open 53 = .ok (.iinc 2 1, 3) := by decide +kernel
theorem dMM_open_56 : decode b_MM_open 56 = .ok (.goto (-24), 3) := by decide +kernel
theorem dMM_open_59 : decode b_MM_open 59 = .ok (.aload_n 0, 1) := by decide +kernel
theorem dMM_open_60 : decode b_MM_open 60 = .ok (.dup, 1) := by decide +kernel
theorem dMM_open_61 : decode b_MM_open 61 = .ok (.getfield 154, 3) := by decide +kernel
theorem dMM_open_64 : decode b_MM_open 64 = .ok (.iconst 1, 1) := by decide +kernel
theorem dMM_open_65 : decode b_MM_open 65 = .ok (.iadd, 1) := by decide +kernel
theorem dMM_open_66 : decode b_MM_open 66 = .ok (.putfield 154, 3) := by decide +kernel
theorem dMM_open_69 : decode b_MM_open 69 = .ok (.return_, 1) := by decide +kernel
theorem dMM_output_0 : decode b_MM_output 0 = .ok (.aload_n 0, 1) := by decide +kernel
theorem dMM_output_1 : decode b_MM_output 1 = .ok (.aload_n 0, 1) := by decide +kernel
theorem dMM_output_2 : decode b_MM_output 2 = .ok (.getfield 98, 3) := by decide +kernel
theorem dMM_output_5 : decode b_MM_output 5 = .ok (.ifCond .eq 30, 3) := by decide +kernel
theorem dMM_output_8 : decode b_MM_output 8 = .ok (.iload_n 1, 1) := by decide +kernel
theorem dMM_output_9 : decode b_MM_output 9 = .ok (.ifCond .lt 26, 3) := by decide +kernel
theorem dMM_output_12 : decode b_MM_output 12 = .ok (.iload_n 1, 1) := by decide +kernel
theorem dMM_output_13 : decode b_MM_output 13 = .ok (.aload_n 0, 1) := by decide +kernel
theorem dMM_output_14 : decode b_MM_output 14 = .ok (.getfield 173, 3) := by decide +kernel
theorem dMM_output_17 : decode b_MM_output 17 = .ok (.if_icmp .ge 18, 3) := by decide +kernel
theorem dMM_output_20 : decode b_MM_output 20 = .ok (.iload_n 1, 1) := by decide +kernel
theorem dMM_output_21 : decode b_MM_output 21 = .ok (.aload_n 0, 1) := by decide +kernel
theorem dMM_output_22 : decode b_MM_output 22 = .ok (.getfield 173, 3) := by decide +kernel
theorem dMM_output_25 : decode b_MM_output 25 = .ok (.bipush 100, 2) := by decide +kernel
theorem dMM_output_27 : decode b_MM_output 27 = .ok (.isub, 1) := by decide +kernel
theorem dMM_output_28 : decode b_MM_output 28 = .ok (.if_icmp .lt 7, 3) := by decide +kernel
theorem dMM_output_31 : decode b_MM_output 31 = .ok (.iconst 1, 1) := by decide +kernel
theorem dMM_output_32 : decode b_MM_output 32 = .ok (.goto 4, 3) := by decide +kernel
theorem dMM_output_35 : decode b_MM_output 35 = .ok (.iconst 0, 1) := by decide +kernel
theorem dMM_output_36 : decode b_MM_output 36 = .ok (.iconst 1, 1) := by decide +kernel
theorem dMM_output_37 : decode b_MM_output 37 = .ok (.iconst 1, 1) := by decide +kernel
theorem dMM_output_38 : decode b_MM_output 38 = .ok (.invokevirtual 94, 3) := by decide +kernel
theorem dMM_output_41 : decode b_MM_output 41 = .ok (.ifCond .eq 15, 3) := by decide +kernel
theorem dMM_output_44 : decode b_MM_output 44 = .ok (.aload_n 0, 1) := by decide +kernel
theorem dMM_output_45 : decode b_MM_output 45 = .ok (.getfield 83, 3) := by decide +kernel
theorem dMM_output_48 : decode b_MM_output 48 = .ok (.iload_n 1, 1) := by decide +kernel
theorem dMM_output_49 : decode b_MM_output 49 = .ok (.bipush 100, 2) := by decide +kernel
theorem dMM_output_51 : decode b_MM_output 51 = .ok (.irem, 1) := by decide +kernel
theorem dMM_output_52 : decode b_MM_output 52 = .ok (.iaload, 1) := by decide +kernel
theorem dMM_output_53 : decode b_MM_output 53 = .ok (.goto 4, 3) := by decide +kernel
theorem dMM_output_56 : decode b_MM_output 56 = .ok (.iconst 0, 1) := by decide +kernel
theorem dMM_output_57 : decode b_MM_output 57 = .ok (.ireturn, 1) := by decide +kernel
theorem dMM_patch_0 : decode b_MM_patch 0 = .ok (.aload_n 0, 1) := by decide +kernel
theorem dMM_patch_1 : decode b_MM_patch 1 = .ok (.aload_n 0, 1) := by decide +kernel
theorem dMM_patch_2 : decode b_MM_patch 2 = .ok (.iload_n 1, 1) := by decide +kernel
theorem dMM_patch_3 : decode b_MM_patch 3 = .ok (.iload_n 2, 1) := by decide +kernel
theorem dMM_patch_4 : decode b_MM_patch 4 = .ok (.invokevirtual 106, 3) := by decide +kernel
theorem dMM_patch_7 : decode b_MM_patch 7 = .ok (.iconst 1, 1) := by decide +kernel
theorem dMM_patch_8 : decode b_MM_patch 8 = .ok (.iconst 1, 1) := by decide +kernel
theorem dMM_patch_9 : decode b_MM_patch 9 = .ok (.invokevirtual 94, 3) := by decide +kernel
theorem dMM_patch_12 : decode b_MM_patch 12 = .ok (.ifCond .ne 5, 3) := by decide +kernel
theorem dMM_patch_15 : decode b_MM_patch 15 = .ok (.iconst 0, 1) := by decide +kernel
theorem dMM_patch_16 : decode b_MM_patch 16 = .ok (.ireturn, 1) := by decide +kernel
theorem dMM_patch_17 : decode b_MM_patch 17 = .ok (.aload_n 0, 1) := by decide +kernel
theorem dMM_patch_18 : decode b_MM_patch 18 = .ok (.getfield 35, 3) := by decide +kernel
theorem dMM_patch_21 : decode b_MM_patch 21 = .ok (.bipush 120, 2) := by decide +kernel
theorem dMM_patch_23 : decode b_MM_patch 23 = .ok (.iload_n 1, 1) := by decide +kernel
theorem dMM_patch_24 : decode b_MM_patch 24 = .ok (.imul, 1) := by decide +kernel
theorem dMM_patch_25 : decode b_MM_patch 25 = .ok (.iload_n 2, 1) := by decide +kernel
theorem dMM_patch_26 : decode b_MM_patch 26 = .ok (.iadd, 1) := by decide +kernel
theorem dMM_patch_27 : decode b_MM_patch 27 = .ok (.iaload, 1) := by decide +kernel
theorem dMM_patch_28 : decode b_MM_patch 28 = .ok (.istore 4, 2) := by decide +kernel
theorem dMM_patch_30 : decode b_MM_patch 30 = .ok (.aload_n 0, 1) := by decide +kernel
theorem dMM_patch_31 : decode b_MM_patch 31 = .ok (.getfield 35, 3) := by decide +kernel
theorem dMM_patch_34 : decode b_MM_patch 34 = .ok (.bipush 120, 2) := by decide +kernel
theorem dMM_patch_36 : decode b_MM_patch 36 = .ok (.iload_n 1, 1) := by decide +kernel
theorem dMM_patch_37 : decode b_MM_patch 37 = .ok (.imul, 1) := by decide +kernel
theorem dMM_patch_38 : decode b_MM_patch 38 = .ok (.iload_n 2, 1) := by decide +kernel
theorem dMM_patch_39 : decode b_MM_patch 39 = .ok (.iadd, 1) := by decide +kernel
theorem dMM_patch_40 : decode b_MM_patch 40 = .ok (.iload_n 3, 1) := by decide +kernel
theorem dMM_patch_41 : decode b_MM_patch 41 = .ok (.iastore, 1) := by decide +kernel
theorem dMM_patch_42 : decode b_MM_patch 42 = .ok (.aload_n 0, 1) := by decide +kernel
theorem dMM_patch_43 : decode b_MM_patch 43 = .ok (.iconst 0, 1) := by decide +kernel
theorem dMM_patch_44 : decode b_MM_patch 44 = .ok (.putfield 98, 3) := by decide +kernel
theorem dMM_patch_47 : decode b_MM_patch 47 = .ok (.iload 4, 2) := by decide +kernel
theorem dMM_patch_49 : decode b_MM_patch 49 = .ok (.ireturn, 1) := by decide +kernel
theorem dMM_peek_0 : decode b_MM_peek 0 = .ok (.aload_n 0, 1) := by decide +kernel
theorem dMM_peek_1 : decode b_MM_peek 1 = .ok (.getfield 68, 3) := by decide +kernel
theorem dMM_peek_4 : decode b_MM_peek 4 = .ok (.bipush 16, 2) := by decide +kernel
theorem dMM_peek_6 : decode b_MM_peek 6 = .ok (.aload_n 0, 1) := by decide +kernel
theorem dMM_peek_7 : decode b_MM_peek 7 = .ok (.getfield 154, 3) := by decide +kernel
theorem dMM_peek_10 : decode b_MM_peek 10 = .ok (.imul, 1) := by decide +kernel
theorem dMM_peek_11 : decode b_MM_peek 11 = .ok (.bipush 17, 2) := by decide +kernel
theorem dMM_peek_13 : decode b_MM_peek 13 = .ok (.isub, 1) := by decide +kernel
theorem dMM_peek_14 : decode b_MM_peek 14 = .ok (.aload_n 0, 1) := by decide +kernel
theorem dMM_peek_15 : decode b_MM_peek 15 = .ok (.getfield 65, 3) := by decide +kernel
theorem dMM_peek_18 : decode b_MM_peek 18 = .ok (.aload_n 0, 1) := by decide +kernel
theorem dMM_peek_19 : decode b_MM_peek 19 = .ok (.getfield 154, 3) := by decide +kernel
theorem dMM_peek_22 : decode b_MM_peek 22 = .ok (.iconst 1, 1) := by decide +kernel
theorem dMM_peek_23 : decode b_MM_peek 23 = .ok (.isub, 1) := by decide +kernel
theorem dMM_peek_24 : decode b_MM_peek 24 = .ok (.iaload, 1) := by decide +kernel
theorem dMM_peek_25 : decode b_MM_peek 25 = .ok (.iadd, 1) := by decide +kernel
theorem dMM_peek_26 : decode b_MM_peek 26 = .ok (.iload_n 1, 1) := by decide +kernel
theorem dMM_peek_27 : decode b_MM_peek 27 = .ok (.isub, 1) := by decide +kernel
theorem dMM_peek_28 : decode b_MM_peek 28 = .ok (.iaload, 1) := by decide +kernel
theorem dMM_peek_29 : decode b_MM_peek 29 = .ok (.ireturn, 1) := by decide +kernel
theorem dMM_pop_0 : decode b_MM_pop 0 = .ok (.aload_n 0, 1) := by decide +kernel
theorem dMM_pop_1 : decode b_MM_pop 1 = .ok (.getfield 110, 3) := by decide +kernel
theorem dMM_pop_4 : decode b_MM_pop 4 = .ok (.ifCond .eq 10, 3) := by decide +kernel
theorem dMM_pop_7 : decode b_MM_pop 7 = .ok (.aload_n 0, 1) := by decide +kernel
theorem dMM_pop_8 : decode b_MM_pop 8 = .ok (.getfield 113, 3) := by decide +kernel
theorem dMM_pop_11 : decode b_MM_pop 11 = .ok (.ifCond .eq 10, 3) := by decide +kernel
theorem dMM_pop_14 : decode b_MM_pop 14 = .ok (.aload_n 0, 1) := by decide +kernel
theorem dMM_pop_15 : decode b_MM_pop 15 = .ok (.iconst 1, 1) := by decide +kernel
theorem dMM_pop_16 : decode b_MM_pop 16 = .ok (.putfield 113, 3) := by decide +kernel
theorem dMM_pop_19 : decode b_MM_pop 19 = .ok (.iconst 0, 1) := by decide +kernel
theorem dMM_pop_20 : decode b_MM_pop 20 = .ok (.ireturn, 1) := by decide +kernel
theorem dMM_pop_21 : decode b_MM_pop 21 = .ok (.aload_n 0, 1) := by decide +kernel
theorem dMM_pop_22 : decode b_MM_pop 22 = .ok (.dup, 1) := by decide +kernel
theorem dMM_pop_23 : decode b_MM_pop 23 = .ok (.getfield 110, 3) := by decide +kernel
theorem dMM_pop_26 : decode b_MM_pop 26 = .ok (.iconst 1, 1) := by decide +kernel
theorem dMM_pop_27 : decode b_MM_pop 27 = .ok (.isub, 1) := by decide +kernel
theorem dMM_pop_28 : decode b_MM_pop 28 = .ok (.putfield 110, 3) := by decide +kernel
theorem dMM_pop_31 : decode b_MM_pop 31 = .ok (.aload_n 0, 1) := by decide +kernel
theorem dMM_pop_32 : decode b_MM_pop 32 = .ok (.iload_n 1, 1) := by decide +kernel
theorem dMM_pop_33 : decode b_MM_pop 33 = .ok (.ifCond .eq 20, 3) := by decide +kernel
theorem dMM_pop_36 : decode b_MM_pop 36 = .ok (.aload_n 0, 1) := by decide +kernel
theorem dMM_pop_37 : decode b_MM_pop 37 = .ok (.getfield 50, 3) := by decide +kernel
theorem dMM_pop_40 : decode b_MM_pop 40 = .ok (.aload_n 0, 1) := by decide +kernel
theorem dMM_pop_41 : decode b_MM_pop 41 = .ok (.getfield 110, 3) := by decide +kernel
theorem dMM_pop_44 : decode b_MM_pop 44 = .ok (.iaload, 1) := by decide +kernel
theorem dMM_pop_45 : decode b_MM_pop 45 = .ok (.iload_n 1, 1) := by decide +kernel
theorem dMM_pop_46 : decode b_MM_pop 46 = .ok (.if_icmp .eq 7, 3) := by decide +kernel
theorem dMM_pop_49 : decode b_MM_pop 49 = .ok (.iconst 1, 1) := by decide +kernel
theorem dMM_pop_50 : decode b_MM_pop 50 = .ok (.goto 4, 3) := by decide +kernel
theorem dMM_pop_53 : decode b_MM_pop 53 = .ok (.iconst 0, 1) := by decide +kernel
theorem dMM_pop_54 : decode b_MM_pop 54 = .ok (.putfield 113, 3) := by decide +kernel
theorem dMM_pop_57 : decode b_MM_pop 57 = .ok (.aload_n 0, 1) := by decide +kernel
theorem dMM_pop_58 : decode b_MM_pop 58 = .ok (.getfield 50, 3) := by decide +kernel
theorem dMM_pop_61 : decode b_MM_pop 61 = .ok (.aload_n 0, 1) := by decide +kernel
theorem dMM_pop_62 : decode b_MM_pop 62 = .ok (.getfield 110, 3) := by decide +kernel
theorem dMM_pop_65 : decode b_MM_pop 65 = .ok (.iaload, 1) := by decide +kernel
theorem dMM_pop_66 : decode b_MM_pop 66 = .ok (.ireturn, 1) := by decide +kernel
theorem dMM_popValue_0 : decode b_MM_popValue 0 = .ok (.aload_n 0, 1) := by decide +kernel
theorem dMM_popValue_1 : decode b_MM_popValue 1 = .ok (.getfield 65, 3) := by decide +kernel
theorem dMM_popValue_4 : decode b_MM_popValue 4 = .ok (.aload_n 0, 1) := by decide +kernel
theorem dMM_popValue_5 : decode b_MM_popValue 5 = .ok (.getfield 154, 3) := by decide +kernel
theorem dMM_popValue_8 : decode b_MM_popValue 8 = .ok (.iconst 1, 1) := by decide +kernel
theorem dMM_popValue_9 : decode b_MM_popValue 9 = .ok (.isub, 1) := by decide +kernel
theorem dMM_popValue_10 : decode b_MM_popValue 10 = .ok (.dup2, 1) := by decide +kernel
theorem dMM_popValue_11 : decode b_MM_popValue 11 = .ok (.iaload, 1) := by decide +kernel
theorem dMM_popValue_12 : decode b_MM_popValue 12 = .ok (.iconst 1, 1) := by decide +kernel
theorem dMM_popValue_13 : decode b_MM_popValue 13 = .ok (.isub, 1) := by decide +kernel
theorem dMM_popValue_14 : decode b_MM_popValue 14 = .ok (.iastore, 1) := by decide +kernel
theorem dMM_popValue_15 : decode b_MM_popValue 15 = .ok (.aload_n 0, 1) := by decide +kernel
theorem dMM_popValue_16 : decode b_MM_popValue 16 = .ok (.getfield 68, 3) := by decide +kernel
theorem dMM_popValue_19 : decode b_MM_popValue 19 = .ok (.bipush 16, 2) := by decide +kernel
theorem dMM_popValue_21 : decode b_MM_popValue 21 = .ok (.aload_n 0, 1) := by decide +kernel
theorem dMM_popValue_22 : decode b_MM_popValue 22 = .ok (.getfield 154, 3) := by decide +kernel
theorem dMM_popValue_25 : decode b_MM_popValue 25 = .ok (.imul, 1) := by decide +kernel
theorem dMM_popValue_26 : decode b_MM_popValue 26 = .ok (.bipush 16, 2) := by decide +kernel
theorem dMM_popValue_28 : decode b_MM_popValue 28 = .ok (.isub, 1) := by decide +kernel
theorem dMM_popValue_29 : decode b_MM_popValue 29 = .ok (.aload_n 0, 1) := by decide +kernel
theorem dMM_popValue_30 : decode b_MM_popValue 30 = .ok (.getfield 65, 3) := by decide +kernel
theorem dMM_popValue_33 : decode b_MM_popValue 33 = .ok (.aload_n 0, 1) := by decide +kernel
theorem dMM_popValue_34 : decode b_MM_popValue 34 = .ok (.getfield 154, 3) := by decide +kernel
theorem dMM_popValue_37 : decode b_MM_popValue 37 = .ok (.iconst 1, 1) := by decide +kernel
theorem dMM_popValue_38 : decode b_MM_popValue 38 = .ok (.isub, 1) := by decide +kernel
theorem dMM_popValue_39 : decode b_MM_popValue 39 = .ok (.iaload, 1) := by decide +kernel
theorem dMM_popValue_40 : decode b_MM_popValue 40 = .ok (.iadd, 1) := by decide +kernel
theorem dMM_popValue_41 : decode b_MM_popValue 41 = .ok (.iaload, 1) := by decide +kernel
theorem dMM_popValue_42 : decode b_MM_popValue 42 = .ok (.ireturn, 1) := by decide +kernel
theorem dMM_push_0 : decode b_MM_push 0 = .ok (.aload_n 0, 1) := by decide +kernel
theorem dMM_push_1 : decode b_MM_push 1 = .ok (.getfield 50, 3) := by decide +kernel
theorem dMM_push_4 : decode b_MM_push 4 = .ok (.aload_n 0, 1) := by decide +kernel
theorem dMM_push_5 : decode b_MM_push 5 = .ok (.getfield 110, 3) := by decide +kernel
theorem dMM_push_8 : decode b_MM_push 8 = .ok (.iload_n 1, 1) := by decide +kernel
theorem dMM_push_9 : decode b_MM_push 9 = .ok (.iastore, 1) := by decide +kernel
theorem dMM_push_10 : decode b_MM_push 10 = .ok (.aload_n 0, 1) := by decide +kernel
theorem dMM_push_11 : decode b_MM_push 11 = .ok (.dup, 1) := by decide +kernel
theorem dMM_push_12 : decode b_MM_push 12 = .ok (.getfield 110, 3) := by decide +kernel
theorem dMM_push_15 : decode b_MM_push 15 = .ok (.iconst 1, 1) := by decide +kernel
theorem dMM_push_16 : decode b_MM_push 16 = .ok (.iadd, 1) := by decide +kernel
theorem dMM_push_17 : decode b_MM_push 17 = .ok (.putfield 110, 3) := by decide +kernel
theorem dMM_push_20 : decode b_MM_push 20 = .ok (.return_, 1) := by decide +kernel
theorem dMM_pushValue_0 : decode b_MM_pushValue 0 = .ok (.aload_n 0, 1) := by decide +kernel
theorem dMM_pushValue_1 : decode b_MM_pushValue 1 = .ok (.getfield 68, 3) := by decide +kernel
theorem dMM_pushValue_4 : decode b_MM_pushValue 4 = .ok (.bipush 16, 2) := by decide +kernel
theorem dMM_pushValue_6 : decode b_MM_pushValue 6 = .ok (.aload_n 0, 1) := by decide +kernel
theorem dMM_pushValue_7 : decode b_MM_pushValue 7 = .ok (.getfield 154, 3) := by decide +kernel
theorem dMM_pushValue_10 : decode b_MM_pushValue 10 = .ok (.imul, 1) := by decide +kernel
theorem dMM_pushValue_11 : decode b_MM_pushValue 11 = .ok (.bipush 16, 2) := by decide +kernel
theorem dMM_pushValue_13 : decode b_MM_pushValue 13 = .ok (.isub, 1) := by decide +kernel
theorem dMM_pushValue_14 : decode b_MM_pushValue 14 = .ok (.aload_n 0, 1) := by decide +kernel
theorem dMM_pushValue_15 : decode b_MM_pushValue 15 = .ok (.getfield 65, 3) := by decide +kernel
theorem dMM_pushValue_18 : decode b_MM_pushValue 18 = .ok (.aload_n 0, 1) := by decide +kernel
theorem dMM_pushValue_19 : decode b_MM_pushValue 19 = .ok (.getfield 154, 3) := by decide +kernel
theorem dMM_pushValue_22 : decode b_MM_pushValue 22 = .ok (.iconst 1, 1) := by decide +kernel
theorem dMM_pushValue_23 : decode b_MM_pushValue 23 = .ok (.isub, 1) := by decide +kernel
theorem dMM_pushValue_24 : decode b_MM_pushValue 24 = .ok (.iaload, 1) := by decide +kernel
theorem dMM_pushValue_25 : decode b_MM_pushValue 25 = .ok (.iadd, 1) := by decide +kernel
theorem dMM_pushValue_26 : decode b_MM_pushValue 26 = .ok (.iload_n 1, 1) := by decide +kernel
theorem dMM_pushValue_27 : decode b_MM_pushValue 27 = .ok (.iastore, 1) := by decide +kernel
theorem dMM_pushValue_28 : decode b_MM_pushValue 28 = .ok (.aload_n 0, 1) := by decide +kernel
theorem dMM_pushValue_29 : decode b_MM_pushValue 29 = .ok (.getfield 65, 3) := by decide +kernel
theorem dMM_pushValue_32 : decode b_MM_pushValue 32 = .ok (.aload_n 0, 1) := by decide +kernel
theorem dMM_pushValue_33 : decode b_MM_pushValue 33 = .ok (.getfield 154, 3) := by decide +kernel
theorem dMM_pushValue_36 : decode b_MM_pushValue 36 = .ok (.iconst 1, 1) := by decide +kernel
theorem dMM_pushValue_37 : decode b_MM_pushValue 37 = .ok (.isub, 1) := by decide +kernel
theorem dMM_pushValue_38 : decode b_MM_pushValue 38 = .ok (.dup2, 1) := by decide +kernel
theorem dMM_pushValue_39 : decode b_MM_pushValue 39 = .ok (.iaload, 1) := by decide +kernel
theorem dMM_pushValue_40 : decode b_MM_pushValue 40 = .ok (.iconst 1, 1) := by decide +kernel
theorem dMM_pushValue_41 : decode b_MM_pushValue 41 = .ok (.iadd, 1) := by decide +kernel
theorem dMM_pushValue_42 : decode b_MM_pushValue 42 = .ok (.iastore, 1) := by decide +kernel
theorem dMM_pushValue_43 : decode b_MM_pushValue 43 = .ok (.return_, 1) := by decide +kernel
theorem dMM_run_0 : decode b_MM_run 0 = .ok (.aload_n 0, 1) := by decide +kernel
theorem dMM_run_1 : decode b_MM_run 1 = .ok (.iload_n 1, 1) := by decide +kernel
theorem dMM_run_2 : decode b_MM_run 2 = .ok (.iconst 0, 1) := by decide +kernel
theorem dMM_run_3 : decode b_MM_run 3 = .ok (.sipush 2000, 3) := by decide +kernel
theorem dMM_run_6 : decode b_MM_run 6 = .ok (.invokestatic 90, 3) := by decide +kernel
theorem dMM_run_9 : decode b_MM_run 9 = .ok (.aload_n 0, 1) := by decide +kernel
theorem dMM_run_10 : decode b_MM_run 10 = .ok (.getfield 98, 3) := by decide +kernel
theorem dMM_run_13 : decode b_MM_run 13 = .ok (.iconst 1, 1) := by decide +kernel
theorem dMM_run_14 : decode b_MM_run 14 = .ok (.invokevirtual 94, 3) := by decide +kernel
theorem dMM_run_17 : decode b_MM_run 17 = .ok (.ifCond .ne 5, 3) := by decide +kernel
theorem dMM_run_20 : decode b_MM_run 20 = .ok (.iconst 0, 1) := by decide +kernel
theorem dMM_run_21 : decode b_MM_run 21 = .ok (.ireturn, 1) := by decide +kernel
theorem dMM_run_22 : decode b_MM_run 22 = .ok (.iconst 0, 1) := by decide +kernel
theorem dMM_run_23 : decode b_MM_run 23 = .ok (.istore_n 2, 1) := by decide +kernel
theorem dMM_run_24 : decode b_MM_run 24 = .ok (.iload_n 2, 1) := by decide +kernel
theorem dMM_run_25 : decode b_MM_run 25 = .ok (.iload_n 1, 1) := by decide +kernel
theorem dMM_run_26 : decode b_MM_run 26 = .ok (.if_icmp .ge 87, 3) := by decide +kernel
theorem dMM_run_29 : decode b_MM_run 29 = .ok (.aload_n 0, 1) := by decide +kernel
theorem dMM_run_30 : decode b_MM_run 30 = .ok (.getfield 154, 3) := by decide +kernel
theorem dMM_run_33 : decode b_MM_run 33 = .ok (.ifCond .le 80, 3) := by decide +kernel
theorem dMM_run_36 : decode b_MM_run 36 = .ok (.aload_n 0, 1) := by decide +kernel
theorem dMM_run_37 : decode b_MM_run 37 = .ok (.getfield 164, 3) := by decide +kernel
theorem dMM_run_40 : decode b_MM_run 40 = .ok (.ifCond .ne 73, 3) := by decide +kernel
theorem dMM_run_43 : decode b_MM_run 43 = .ok (.bipush 120, 2) := by decide +kernel
theorem dMM_run_45 : decode b_MM_run 45 = .ok (.aload_n 0, 1) := by decide +kernel
theorem dMM_run_46 : decode b_MM_run 46 = .ok (.getfield 59, 3) := by decide +kernel
theorem dMM_run_49 : decode b_MM_run 49 = .ok (.aload_n 0, 1) := by decide +kernel
theorem dMM_run_50 : decode b_MM_run 50 = .ok (.getfield 154, 3) := by decide +kernel
theorem dMM_run_53 : decode b_MM_run 53 = .ok (.iconst 1, 1) := by decide +kernel
theorem dMM_run_54 : decode b_MM_run 54 = .ok (.isub, 1) := by decide +kernel
theorem dMM_run_55 : decode b_MM_run 55 = .ok (.iaload, 1) := by decide +kernel
theorem dMM_run_56 : decode b_MM_run 56 = .ok (.imul, 1) := by decide +kernel
theorem dMM_run_57 : decode b_MM_run 57 = .ok (.aload_n 0, 1) := by decide +kernel
theorem dMM_run_58 : decode b_MM_run 58 = .ok (.getfield 62, 3) := by decide +kernel
theorem dMM_run_61 : decode b_MM_run 61 = .ok (.aload_n 0, 1) := by decide +kernel
theorem dMM_run_62 : decode b_MM_run 62 = .ok (.getfield 154, 3) := by decide +kernel
theorem dMM_run_65 : decode b_MM_run 65 = .ok (.iconst 1, 1) := by decide +kernel
theorem dMM_run_66 : decode b_MM_run 66 = .ok (.isub, 1) := by decide +kernel
theorem dMM_run_67 : decode b_MM_run 67 = .ok (.iaload, 1) := by decide +kernel
theorem dMM_run_68 : decode b_MM_run 68 = .ok (.iadd, 1) := by decide +kernel
theorem dMM_run_69 : decode b_MM_run 69 = .ok (.istore_n 3, 1) := by decide +kernel
theorem dMM_run_70 : decode b_MM_run 70 = .ok (.aload_n 0, 1) := by decide +kernel
theorem dMM_run_71 : decode b_MM_run 71 = .ok (.aload_n 0, 1) := by decide +kernel
theorem dMM_run_72 : decode b_MM_run 72 = .ok (.aload_n 0, 1) := by decide +kernel
theorem dMM_run_73 : decode b_MM_run 73 = .ok (.getfield 32, 3) := by decide +kernel
theorem dMM_run_76 : decode b_MM_run 76 = .ok (.iload_n 3, 1) := by decide +kernel
theorem dMM_run_77 : decode b_MM_run 77 = .ok (.iaload, 1) := by decide +kernel
theorem dMM_run_78 : decode b_MM_run 78 = .ok (.invokevirtual 208, 3) := by decide +kernel
theorem dMM_run_81 : decode b_MM_run 81 = .ok (.putfield 164, 3) := by decide +kernel
theorem dMM_run_84 : decode b_MM_run 84 = .ok (.aload_n 0, 1) := by decide +kernel
theorem dMM_run_85 : decode b_MM_run 85 = .ok (.getfield 164, 3) := by decide +kernel
theorem dMM_run_88 : decode b_MM_run 88 = .ok (.ifCond .ne 22, 3) := by decide +kernel
theorem dMM_run_91 : decode b_MM_run 91 = .ok (.aload_n 0, 1) := by decide +kernel
theorem dMM_run_92 : decode b_MM_run 92 = .ok (.aload_n 0, 1) := by decide +kernel
theorem dMM_run_93 : decode b_MM_run 93 = .ok (.getfield 32, 3) := by decide +kernel
theorem dMM_run_96 : decode b_MM_run 96 = .ok (.iload_n 3, 1) := by decide +kernel
theorem dMM_run_97 : decode b_MM_run 97 = .ok (.iaload, 1) := by decide +kernel
theorem dMM_run_98 : decode b_MM_run 98 = .ok (.aload_n 0, 1) := by decide +kernel
theorem dMM_run_99 : decode b_MM_run 99 = .ok (.getfield 35, 3) := by decide +kernel
theorem dMM_run_102 : decode b_MM_run 102 = .ok (.iload_n 3, 1) := by decide +kernel
theorem dMM_run_103 : decode b_MM_run 103 = .ok (.iaload, 1) := by decide +kernel
theorem dMM_run_104 : decode b_MM_run 104 = .ok (.invokevirtual 211, 3) := by decide +kernel
theorem dMM_run_107 : decode b_MM_run 107 = .ok (.iinc 2 1, 3) := by decide +kernel
theorem dMM_run_110 : decode b_MM_run 110 = .ok (.goto (-86), 3) := by decide +kernel
theorem dMM_run_113 : decode b_MM_run 113 = .ok (.aload_n 0, 1) := by decide +kernel
theorem dMM_run_114 : decode b_MM_run 114 = .ok (.aload_n 0, 1) := by decide +kernel
theorem dMM_run_115 : decode b_MM_run 115 = .ok (.getfield 167, 3) := by decide +kernel
theorem dMM_run_118 : decode b_MM_run 118 = .ok (.iload_n 2, 1) := by decide +kernel
theorem dMM_run_119 : decode b_MM_run 119 = .ok (.iadd, 1) := by decide +kernel
theorem dMM_run_120 : decode b_MM_run 120 = .ok (.putfield 167, 3) := by decide +kernel
theorem dMM_run_123 : decode b_MM_run 123 = .ok (.iload_n 2, 1) := by decide +kernel
theorem dMM_run_124 : decode b_MM_run 124 = .ok (.ireturn, 1) := by decide +kernel
theorem dMM_start_0 : decode b_MM_start 0 = .ok (.aload_n 0, 1) := by decide +kernel
theorem dMM_start_1 : decode b_MM_start 1 = .ok (.iload_n 1, 1) := by decide +kernel
theorem dMM_start_2 : decode b_MM_start 2 = .ok (.invokevirtual 102, 3) := by decide +kernel
theorem dMM_start_5 : decode b_MM_start 5 = .ok (.istore 6, 2) := by decide +kernel
theorem dMM_start_7 : decode b_MM_start 7 = .ok (.iload 6, 2) := by decide +kernel
theorem dMM_start_9 : decode b_MM_start 9 = .ok (.istore 7, 2) := by decide +kernel
theorem dMM_start_11 : decode b_MM_start 11 = .ok (.iconst 0, 1) := by decide +kernel
theorem dMM_start_12 : decode b_MM_start 12 = .ok (.istore 8, 2) := by decide +kernel
theorem dMM_start_14 : decode b_MM_start 14 = .ok (.iload 8, 2) := by decide +kernel
theorem dMM_start_16 : decode b_MM_start 16 = .ok (.iconst 4, 1) := by decide +kernel
theorem dMM_start_17 : decode b_MM_start 17 = .ok (.if_icmp .ge 61, 3) := by decide +kernel
theorem dMM_start_20 : decode b_MM_start 20 = .ok (.iload 6, 2) := by decide +kernel
theorem dMM_start_22 : decode b_MM_start 22 = .ok (.ifCond .eq 56, 3) := by decide +kernel
theorem dMM_start_25 : decode b_MM_start 25 = .ok (.iload 7, 2) := by decide +kernel
theorem dMM_start_27 : decode b_MM_start 27 = .ok (.ifCond .eq 42, 3) := by decide +kernel
theorem dMM_start_30 : decode b_MM_start 30 = .ok (.aload_n 0, 1) := by decide +kernel
theorem dMM_start_31 : decode b_MM_start 31 = .ok (.getfield 17, 3) := by decide +kernel
theorem dMM_start_34 : decode b_MM_start 34 = .ok (.iload_n 1, 1) := by decide +kernel
theorem dMM_start_35 : decode b_MM_start 35 = .ok (.iaload, 1) := by decide +kernel
theorem dMM_start_36 : decode b_MM_start 36 = .ok (.iload 8, 2) := by decide +kernel
theorem dMM_start_38 : decode b_MM_start 38 = .ok (.ishr, 1) := by decide +kernel
theorem dMM_start_39 : decode b_MM_start 39 = .ok (.iconst 1, 1) := by decide +kernel
theorem dMM_start_40 : decode b_MM_start 40 = .ok (.iand, 1) := by decide +kernel
theorem dMM_start_41 : decode b_MM_start 41 = .ok (.ifCond .eq 24, 3) := by decide +kernel
theorem dMM_start_44 : decode b_MM_start 44 = .ok (.iload 8, 2) := by decide +kernel
theorem dMM_start_46 : decode b_MM_start 46 = .ok (.iload_n 2, 1) := by decide +kernel
theorem dMM_start_47 : decode b_MM_start 47 = .ok (.iload_n 3, 1) := by decide +kernel
theorem dMM_start_48 : decode b_MM_start 48 = .ok (.iload 4, 2) := by decide +kernel
theorem dMM_start_50 : decode b_MM_start 50 = .ok (.iload 5, 2) := by decide +kernel
theorem dMM_start_52 : decode b_MM_start 52 = .ok (.invokestatic 157, 3) := by decide +kernel
theorem dMM_start_55 : decode b_MM_start 55 = .ok (.iconst 0, 1) := by decide +kernel
theorem dMM_start_56 : decode b_MM_start 56 = .ok (.sipush 400, 3) := by decide +kernel
theorem dMM_start_59 : decode b_MM_start 59 = .ok (.invokestatic 90, 3) := by decide +kernel
theorem dMM_start_62 : decode b_MM_start 62 = .ok (.ifCond .eq 7, 3) := by decide +kernel
theorem dMM_start_65 : decode b_MM_start 65 = .ok (.iconst 1, 1) := by decide +kernel
theorem dMM_start_66 : decode b_MM_start 66 = .ok (.goto 4, 3) := by decide +kernel
theorem dMM_start_69 : decode b_MM_start 69 = .ok (.iconst 0, 1) := by decide +kernel
theorem dMM_start_70 : decode b_MM_start 70 = .ok (.istore 7, 2) := by decide +kernel
theorem dMM_start_72 : decode b_MM_start 72 = .ok (.iinc 8 1, 3) := by decide +kernel
theorem dMM_start_75 : decode b_MM_start 75 = .ok (.goto (-61), 3) := by decide +kernel
theorem dMM_start_78 : decode b_MM_start 78 = .ok (.aload_n 0, 1) := by decide +kernel
theorem dMM_start_79 : decode b_MM_start 79 = .ok (.iload 6, 2) := by decide +kernel
theorem dMM_start_81 : decode b_MM_start 81 = .ok (.iload 7, 2) := by decide +kernel
theorem dMM_start_83 : decode b_MM_start 83 = .ok (.iload 6, 2) := by decide +kernel
theorem dMM_start_85 : decode b_MM_start 85 = .ok (.ifCond .eq 20, 3) := by decide +kernel
theorem dMM_start_88 : decode b_MM_start 88 = .ok (.iload 7, 2) := by decide +kernel
theorem dMM_start_90 : decode b_MM_start 90 = .ok (.ifCond .eq 15, 3) := by decide +kernel
theorem dMM_start_93 : decode b_MM_start 93 = .ok (.aload_n 0, 1) := by decide +kernel
theorem dMM_start_94 : decode b_MM_start 94 = .ok (.iload_n 1, 1) := by decide +kernel
theorem dMM_start_95 : decode b_MM_start 95 = .ok (.invokevirtual 161, 3) := by decide +kernel
theorem dMM_start_98 : decode b_MM_start 98 = .ok (.ifCond .eq 7, 3) := by decide +kernel
theorem dMM_start_101 : decode b_MM_start 101 = .ok (.iconst 1, 1) := by decide +kernel
theorem dMM_start_102 : decode b_MM_start 102 = .ok (.goto 4, 3) := by decide +kernel
theorem dMM_start_105 : decode b_MM_start 105 = .ok (.iconst 0, 1) := by decide +kernel
theorem dMM_start_106 : decode b_MM_start 106 = .ok (.invokevirtual 94, 3) := by decide +kernel
theorem dMM_start_109 : decode b_MM_start 109 = .ok (.ifCond .ne 4, 3) := by decide +kernel
theorem dMM_start_112 : decode b_MM_start 112 = .ok (.return_, 1) := by decide +kernel
theorem dMM_start_113 : decode b_MM_start 113 = .ok (.aload_n 0, 1) := by decide +kernel
theorem dMM_start_114 : decode b_MM_start 114 = .ok (.iconst 1, 1) := by decide +kernel
theorem dMM_start_115 : decode b_MM_start 115 = .ok (.putfield 98, 3) := by decide +kernel
theorem dMM_start_118 : decode b_MM_start 118 = .ok (.aload_n 0, 1) := by decide +kernel
theorem dMM_start_119 : decode b_MM_start 119 = .ok (.iconst 0, 1) := by decide +kernel
theorem dMM_start_120 : decode b_MM_start 120 = .ok (.putfield 154, 3) := by decide +kernel
theorem dMM_start_123 : decode b_MM_start 123 = .ok (.aload_n 0, 1) := by decide +kernel
theorem dMM_start_124 : decode b_MM_start 124 = .ok (.iconst 0, 1) := by decide +kernel
theorem dMM_start_125 : decode b_MM_start 125 = .ok (.putfield 164, 3) := by decide +kernel
theorem dMM_start_128 : decode b_MM_start 128 = .ok (.aload_n 0, 1) := by decide +kernel
theorem dMM_start_129 : decode b_MM_start 129 = .ok (.iconst 0, 1) := by decide +kernel
theorem dMM_start_130 : decode b_MM_start 130 = .ok (.putfield 167, 3) := by decide +kernel
theorem dMM_start_133 : decode b_MM_start 133 = .ok (.aload_n 0, 1) := by decide +kernel
theorem dMM_start_134 : decode b_MM_start 134 = .ok (.iconst 0, 1) := by decide +kernel
theorem dMM_start_135 : decode b_MM_start 135 = .ok (.putfield 170, 3) := by decide +kernel
theorem dMM_start_138 : decode b_MM_start 138 = .ok (.aload_n 0, 1) := by decide +kernel
theorem dMM_start_139 : decode b_MM_start 139 = .ok (.iconst 0, 1) := by decide +kernel
theorem dMM_start_140 : decode b_MM_start 140 = .ok (.putfield 148, 3) := by decide +kernel
theorem dMM_start_143 : decode b_MM_start 143 = .ok (.aload_n 0, 1) := by decide +kernel
theorem dMM_start_144 : decode b_MM_start 144 = .ok (.iconst 0, 1) := by decide +kernel
theorem dMM_start_145 : decode b_MM_start 145 = .ok (.putfield 151, 3) := by decide +kernel
theorem dMM_start_148 : decode b_MM_start 148 = .ok (.aload_n 0, 1) := by decide +kernel
theorem dMM_start_149 : decode b_MM_start 149 = .ok (.iconst 0, 1) := by decide +kernel
theorem dMM_start_150 : decode b_MM_start 150 = .ok (.putfield 173, 3) := by decide +kernel
theorem dMM_start_153 : decode b_MM_start 153 = .ok (.aload_n 0, 1) := by decide +kernel
theorem dMM_start_154 : decode b_MM_start 154 = .ok (.iload_n 1, 1) := by decide +kernel
theorem dMM_start_155 : decode b_MM_start 155 = .ok (.invokevirtual 176, 3) := by decide +kernel
theorem dMM_start_158 : decode b_MM_start 158 = .ok (.iconst 0, 1) := by decide +kernel
theorem dMM_start_159 : decode b_MM_start 159 = .ok (.istore 8, 2) := by decide +kernel
theorem dMM_start_161 : decode b_MM_start 161 = .ok (.iload 8, 2) := by decide +kernel
theorem dMM_start_163 : decode b_MM_start 163 = .ok (.aload_n 0, 1) := by decide +kernel
theorem dMM_start_164 : decode b_MM_start 164 = .ok (.getfield 13, 3) := by decide +kernel
theorem dMM_start_167 : decode b_MM_start 167 = .ok (.iload_n 1, 1) := by decide +kernel
theorem dMM_start_168 : decode b_MM_start 168 = .ok (.iaload, 1) := by decide +kernel
theorem dMM_start_169 : decode b_MM_start 169 = .ok (.if_icmp .ge 55, 3) := by decide +kernel
theorem dMM_start_172 : decode b_MM_start 172 = .ok (.iload 8, 2) := by decide +kernel
theorem dMM_start_174 : decode b_MM_start 174 = .ok (.iload_n 2, 1) := by decide +kernel
theorem dMM_start_175 : decode b_MM_start 175 = .ok (.iload_n 3, 1) := by decide +kernel
theorem dMM_start_176 : decode b_MM_start 176 = .ok (.iload 4, 2) := by decide +kernel
theorem dMM_start_178 : decode b_MM_start 178 = .ok (.iload 5, 2) := by decide +kernel
theorem dMM_start_180 : decode b_MM_start 180 = .ok (.invokestatic 157, 3) := by decide +kernel
theorem dMM_start_183 : decode b_MM_start 183 = .ok (.istore 9, 2) := by decide +kernel
theorem dMM_start_185 : decode b_MM_start 185 = .ok (.aload_n 0, 1) := by decide +kernel
theorem dMM_start_186 : decode b_MM_start 186 = .ok (.getfield 71, 3) := by decide +kernel
theorem dMM_start_189 : decode b_MM_start 189 = .ok (.iload 8, 2) := by decide +kernel
theorem dMM_start_191 : decode b_MM_start 191 = .ok (.aload_n 0, 1) := by decide +kernel
theorem dMM_start_192 : decode b_MM_start 192 = .ok (.getfield 17, 3) := by decide +kernel
theorem dMM_start_195 : decode b_MM_start 195 = .ok (.iload_n 1, 1) := by decide +kernel
theorem dMM_start_196 : decode b_MM_start 196 = .ok (.iaload, 1) := by decide +kernel
theorem dMM_start_197 : decode b_MM_start 197 = .ok (.iload 8, 2) := by decide +kernel
theorem dMM_start_199 : decode b_MM_start 199 = .ok (.ishr, 1) := by decide +kernel
theorem dMM_start_200 : decode b_MM_start 200 = .ok (.iconst 1, 1) := by decide +kernel
theorem dMM_start_201 : decode b_MM_start 201 = .ok (.iand, 1) := by decide +kernel
theorem dMM_start_202 : decode b_MM_start 202 = .ok (.iconst 1, 1) := by decide +kernel
theorem dMM_start_203 : decode b_MM_start 203 = .ok (.if_icmp .ne 12, 3) := by decide +kernel
theorem dMM_start_206 : decode b_MM_start 206 = .ok (.aload_n 0, 1) := by decide +kernel
theorem dMM_start_207 : decode b_MM_start 207 = .ok (.iload 9, 2) := by decide +kernel
theorem dMM_start_209 : decode b_MM_start 209 = .ok (.invokevirtual 179, 3) := by decide +kernel
theorem dMM_start_212 : decode b_MM_start 212 = .ok (.goto 5, 3) := by decide +kernel
theorem dMM_start_215 : decode b_MM_start 215 = .ok (.iload 9, 2) := by decide +kernel
theorem dMM_start_217 : decode b_MM_start 217 = .ok (.iastore, 1) := by decide +kernel
theorem dMM_start_218 : decode b_MM_start 218 = .ok (.iinc 8 1, 3) := by decide +kernel
theorem dMM_start_221 : decode b_MM_start 221 = .ok (.goto (-60), 3) := by decide +kernel
theorem dMM_start_224 : decode b_MM_start 224 = .ok (.return_, 1) := by decide +kernel
theorem dMM_state_0 : decode b_MM_state 0 = .ok (.aload_n 0, 1) := by decide +kernel
theorem dMM_state_1 : decode b_MM_state 1 = .ok (.iload_n 1, 1) := by decide +kernel
theorem dMM_state_2 : decode b_MM_state 2 = .ok (.iconst 0, 1) := by decide +kernel
theorem dMM_state_3 : decode b_MM_state 3 = .ok (.bipush 8, 2) := by decide +kernel
theorem dMM_state_5 : decode b_MM_state 5 = .ok (.invokestatic 90, 3) := by decide +kernel
theorem dMM_state_8 : decode b_MM_state 8 = .ok (.aload_n 0, 1) := by decide +kernel
theorem dMM_state_9 : decode b_MM_state 9 = .ok (.getfield 98, 3) := by decide +kernel
theorem dMM_state_12 : decode b_MM_state 12 = .ok (.iconst 1, 1) := by decide +kernel
theorem dMM_state_13 : decode b_MM_state 13 = .ok (.invokevirtual 94, 3) := by decide +kernel
theorem dMM_state_16 : decode b_MM_state 16 = .ok (.ifCond .ne 5, 3) := by decide +kernel
theorem dMM_state_19 : decode b_MM_state 19 = .ok (.iconst 0, 1) := by decide +kernel
theorem dMM_state_20 : decode b_MM_state 20 = .ok (.ireturn, 1) := by decide +kernel
theorem dMM_state_21 : decode b_MM_state 21 = .ok (.iload_n 1, 1) := by decide +kernel
theorem dMM_state_22 : decode b_MM_state 22 = .ok (.tableswitch 144 0 7 #[46, 73, 78, 83, 106, 129, 134, 139], 46) := by decide +kernel
theorem dMM_state_68 : decode b_MM_state 68 = .ok (.aload_n 0, 1) := by decide +kernel
theorem dMM_state_69 : decode b_MM_state 69 = .ok (.getfield 164, 3) := by decide +kernel
theorem dMM_state_72 : decode b_MM_state 72 = .ok (.ifCond .le 10, 3) := by decide +kernel
theorem dMM_state_75 : decode b_MM_state 75 = .ok (.aload_n 0, 1) := by decide +kernel
theorem dMM_state_76 : decode b_MM_state 76 = .ok (.getfield 164, 3) := by decide +kernel
theorem dMM_state_79 : decode b_MM_state 79 = .ok (.goto 15, 3) := by decide +kernel
theorem dMM_state_82 : decode b_MM_state 82 = .ok (.aload_n 0, 1) := by decide +kernel
theorem dMM_state_83 : decode b_MM_state 83 = .ok (.getfield 154, 3) := by decide +kernel
theorem dMM_state_86 : decode b_MM_state 86 = .ok (.ifCond .ne 7, 3) := by decide +kernel
theorem dMM_state_89 : decode b_MM_state 89 = .ok (.iconst 1, 1) := by decide +kernel
theorem dMM_state_90 : decode b_MM_state 90 = .ok (.goto 4, 3) := by decide +kernel
theorem dMM_state_93 : decode b_MM_state 93 = .ok (.iconst 0, 1) := by decide +kernel
theorem dMM_state_94 : decode b_MM_state 94 = .ok (.ireturn, 1) := by decide +kernel
theorem dMM_state_95 : decode b_MM_state 95 = .ok (.aload_n 0, 1) := by decide +kernel
theorem dMM_state_96 : decode b_MM_state 96 = .ok (.getfield 167, 3) := by decide +kernel
theorem dMM_state_99 : decode b_MM_state 99 = .ok (.ireturn, 1) := by decide +kernel
theorem dMM_state_100 : decode b_MM_state 100 = .ok (.aload_n 0, 1) := by decide +kernel
theorem dMM_state_101 : decode b_MM_state 101 = .ok (.getfield 154, 3) := by decide +kernel
theorem dMM_state_104 : decode b_MM_state 104 = .ok (.ireturn, 1) := by decide +kernel
theorem dMM_state_105 : decode b_MM_state 105 = .ok (.aload_n 0, 1) := by decide +kernel
theorem dMM_state_106 : decode b_MM_state 106 = .ok (.getfield 154, 3) := by decide +kernel
theorem dMM_state_109 : decode b_MM_state 109 = .ok (.ifCond .ne 7, 3) := by decide +kernel
theorem dMM_state_112 : decode b_MM_state 112 = .ok (.iconst (-1), 1) := by decide +kernel
theorem dMM_state_113 : decode b_MM_state 113 = .ok (.goto 14, 3) := by decide +kernel
theorem dMM_state_116 : decode b_MM_state 116 = .ok (.aload_n 0, 1) := by decide +kernel
theorem dMM_state_117 : decode b_MM_state 117 = .ok (.getfield 59, 3) := by decide +kernel
theorem dMM_state_120 : decode b_MM_state 120 = .ok (.aload_n 0, 1) := by decide +kernel
theorem dMM_state_121 : decode b_MM_state 121 = .ok (.getfield 154, 3) := by decide +kernel
theorem dMM_state_124 : decode b_MM_state 124 = .ok (.iconst 1, 1) := by decide +kernel
theorem dMM_state_125 : decode b_MM_state 125 = .ok (.isub, 1) := by decide +kernel
theorem dMM_state_126 : decode b_MM_state 126 = .ok (.iaload, 1) := by decide +kernel
theorem dMM_state_127 : decode b_MM_state 127 = .ok (.ireturn, 1) := by decide +kernel
theorem dMM_state_128 : decode b_MM_state 128 = .ok (.aload_n 0, 1) := by decide +kernel
theorem dMM_state_129 : decode b_MM_state 129 = .ok (.getfield 154, 3) := by decide +kernel
theorem dMM_state_132 : decode b_MM_state 132 = .ok (.ifCond .ne 7, 3) := by decide +kernel
theorem dMM_state_135 : decode b_MM_state 135 = .ok (.iconst (-1), 1) := by decide +kernel
theorem dMM_state_136 : decode b_MM_state 136 = .ok (.goto 14, 3) := by decide +kernel
theorem dMM_state_139 : decode b_MM_state 139 = .ok (.aload_n 0, 1) := by decide +kernel
theorem dMM_state_140 : decode b_MM_state 140 = .ok (.getfield 62, 3) := by decide +kernel
theorem dMM_state_143 : decode b_MM_state 143 = .ok (.aload_n 0, 1) := by decide +kernel
theorem dMM_state_144 : decode b_MM_state 144 = .ok (.getfield 154, 3) := by decide +kernel
theorem dMM_state_147 : decode b_MM_state 147 = .ok (.iconst 1, 1) := by decide +kernel
theorem dMM_state_148 : decode b_MM_state 148 = .ok (.isub, 1) := by decide +kernel
theorem dMM_state_149 : decode b_MM_state 149 = .ok (.iaload, 1) := by decide +kernel
theorem dMM_state_150 : decode b_MM_state 150 = .ok (.ireturn, 1) := by decide +kernel
theorem dMM_state_151 : decode b_MM_state 151 = .ok (.aload_n 0, 1) := by decide +kernel
theorem dMM_state_152 : decode b_MM_state 152 = .ok (.getfield 170, 3) := by decide +kernel
theorem dMM_state_155 : decode b_MM_state 155 = .ok (.ireturn, 1) := by decide +kernel
theorem dMM_state_156 : decode b_MM_state 156 = .ok (.aload_n 0, 1) := by decide +kernel
theorem dMM_state_157 : decode b_MM_state 157 = .ok (.getfield 148, 3) := by decide +kernel
theorem dMM_state_160 : decode b_MM_state 160 = .ok (.ireturn, 1) := by decide +kernel
theorem dMM_state_161 : decode b_MM_state 161 = .ok (.aload_n 0, 1) := by decide +kernel
theorem dMM_state_162 : decode b_MM_state 162 = .ok (.getfield 151, 3) := by decide +kernel
theorem dMM_state_165 : decode b_MM_state 165 = .ok (.ireturn, 1) := by decide +kernel
theorem dMM_state_166 : decode b_MM_state 166 = .ok (.aload_n 0, 1) := by decide +kernel
theorem dMM_state_167 : decode b_MM_state 167 = .ok (.getfield 173, 3) := by decide +kernel
theorem dMM_state_170 : decode b_MM_state 170 = .ok (.ireturn, 1) := by decide +kernel
theorem dMM_step_0 : decode b_MM_step 0 = .ok (.aload_n 0, 1) := by decide +kernel
theorem dMM_step_1 : decode b_MM_step 1 = .ok (.getfield 62, 3) := by decide +kernel
theorem dMM_step_4 : decode b_MM_step 4 = .ok (.aload_n 0, 1) := by decide +kernel
theorem dMM_step_5 : decode b_MM_step 5 = .ok (.getfield 154, 3) := by decide +kernel
theorem dMM_step_8 : decode b_MM_step 8 = .ok (.iconst 1, 1) := by decide +kernel
theorem dMM_step_9 : decode b_MM_step 9 = .ok (.isub, 1) := by decide +kernel
theorem dMM_step_10 : decode b_MM_step 10 = .ok (.dup2, 1) := by decide +kernel
theorem dMM_step_11 : decode b_MM_step 11 = .ok (.iaload, 1) := by decide +kernel
theorem dMM_step_12 : decode b_MM_step 12 = .ok (.iconst 1, 1) := by decide +kernel
theorem dMM_step_13 : decode b_MM_step 13 = .ok (.iadd, 1) := by decide +kernel
theorem dMM_step_14 : decode b_MM_step 14 = .ok (.iastore, 1) := by decide +kernel
theorem dMM_step_15 : decode b_MM_step 15 = .ok (.iload_n 1, 1) := by decide +kernel
theorem dMM_step_16 : decode b_MM_step 16 = .ok (.ifCond .eq 9, 3) := by decide +kernel
theorem dMM_step_19 : decode b_MM_step 19 = .ok (.iload_n 1, 1) := by decide +kernel
theorem dMM_step_20 : decode b_MM_step 20 = .ok (.bipush 18, 2) := by decide +kernel
theorem dMM_step_22 : decode b_MM_step 22 = .ok (.if_icmp .ne 19, 3) := by decide +kernel
theorem dMM_step_25 : decode b_MM_step 25 = .ok (.aload_n 0, 1) := by decide +kernel
theorem dMM_step_26 : decode b_MM_step 26 = .ok (.iload_n 1, 1) := by decide +kernel
theorem dMM_step_27 : decode b_MM_step 27 = .ok (.ifCond .ne 7, 3) := by decide +kernel
theorem dMM_step_30 : decode b_MM_step 30 = .ok (.iload_n 2, 1) := by decide +kernel
theorem dMM_step_31 : decode b_MM_step 31 = .ok (.goto 4, 3) := by decide +kernel
theorem dMM_step_34 : decode b_MM_step 34 = .ok (.iconst (-1), 1) := by decide +kernel
theorem dMM_step_35 : decode b_MM_step 35 = .ok (.invokevirtual 189, 3) := by decide +kernel
theorem dMM_step_38 : decode b_MM_step 38 = .ok (.goto 185, 3) := by decide +kernel
theorem dMM_step_41 : decode b_MM_step 41 = .ok (.iload_n 1, 1) := by decide +kernel
theorem dMM_step_42 : decode b_MM_step 42 = .ok (.iconst 1, 1) := by decide +kernel
theorem dMM_step_43 : decode b_MM_step 43 = .ok (.if_icmp .eq 8, 3) := by decide +kernel
theorem dMM_step_46 : decode b_MM_step 46 = .ok (.iload_n 1, 1) := by decide +kernel
theorem dMM_step_47 : decode b_MM_step 47 = .ok (.iconst 3, 1) := by decide +kernel
theorem dMM_step_48 : decode b_MM_step 48 = .ok (.if_icmp .ne 27, 3) := by decide +kernel
theorem dMM_step_51 : decode b_MM_step 51 = .ok (.aload_n 0, 1) := by decide +kernel
theorem dMM_step_52 : decode b_MM_step 52 = .ok (.aload_n 0, 1) := by decide +kernel
theorem dMM_step_53 : decode b_MM_step 53 = .ok (.getfield 71, 3) := by decide +kernel
theorem dMM_step_56 : decode b_MM_step 56 = .ok (.bipush 10, 2) := by decide +kernel
theorem dMM_step_58 : decode b_MM_step 58 = .ok (.aload_n 0, 1) := by decide +kernel
theorem dMM_step_59 : decode b_MM_step 59 = .ok (.getfield 154, 3) := by decide +kernel
theorem dMM_step_62 : decode b_MM_step 62 = .ok (.imul, 1) := by decide +kernel
theorem dMM_step_63 : decode b_MM_step 63 = .ok (.bipush 10, 2) := by decide +kernel
theorem dMM_step_65 : decode b_MM_step 65 = .ok (.isub, 1) := by decide +kernel
theorem dMM_step_66 : decode b_MM_step 66 = .ok (.iload_n 2, 1) := by decide +kernel
theorem dMM_step_67 : decode b_MM_step 67 = .ok (.iadd, 1) := by decide +kernel
theorem dMM_step_68 : decode b_MM_step 68 = .ok (.iaload, 1) := by decide +kernel
theorem dMM_step_69 : decode b_MM_step 69 = .ok (.invokevirtual 189, 3) := by decide +kernel
theorem dMM_step_72 : decode b_MM_step 72 = .ok (.goto 151, 3) := by decide +kernel
theorem dMM_step_75 : decode b_MM_step 75 = .ok (.iload_n 1, 1) := by decide +kernel
theorem dMM_step_76 : decode b_MM_step 76 = .ok (.iconst 2, 1) := by decide +kernel
theorem dMM_step_77 : decode b_MM_step 77 = .ok (.if_icmp .eq 8, 3) := by decide +kernel
theorem dMM_step_80 : decode b_MM_step 80 = .ok (.iload_n 1, 1) := by decide +kernel
theorem dMM_step_81 : decode b_MM_step 81 = .ok (.iconst 4, 1) := by decide +kernel
theorem dMM_step_82 : decode b_MM_step 82 = .ok (.if_icmp .ne 27, 3) := by decide +kernel
theorem dMM_step_85 : decode b_MM_step 85 = .ok (.aload_n 0, 1) := by decide +kernel
theorem dMM_step_86 : decode b_MM_step 86 = .ok (.getfield 71, 3) := by decide +kernel
theorem dMM_step_89 : decode b_MM_step 89 = .ok (.bipush 10, 2) := by decide +kernel
theorem dMM_step_91 : decode b_MM_step 91 = .ok (.aload_n 0, 1) := by decide +kernel
theorem dMM_step_92 : decode b_MM_step 92 = .ok (.getfield 154, 3) := by decide +kernel
theorem dMM_step_95 : decode b_MM_step 95 = .ok (.imul, 1) := by decide +kernel
theorem dMM_step_96 : decode b_MM_step 96 = .ok (.bipush 10, 2) := by decide +kernel
theorem dMM_step_98 : decode b_MM_step 98 = .ok (.isub, 1) := by decide +kernel
theorem dMM_step_99 : decode b_MM_step 99 = .ok (.iload_n 2, 1) := by decide +kernel
theorem dMM_step_100 : decode b_MM_step 100 = .ok (.iadd, 1) := by decide +kernel
theorem dMM_step_101 : decode b_MM_step 101 = .ok (.aload_n 0, 1) := by decide +kernel
theorem dMM_step_102 : decode b_MM_step 102 = .ok (.invokevirtual 185, 3) := by decide +kernel
theorem dMM_step_105 : decode b_MM_step 105 = .ok (.iastore, 1) := by decide +kernel
theorem dMM_step_106 : decode b_MM_step 106 = .ok (.goto 117, 3) := by decide +kernel
theorem dMM_step_109 : decode b_MM_step 109 = .ok (.iload_n 1, 1) := by decide +kernel
theorem dMM_step_110 : decode b_MM_step 110 = .ok (.bipush 10, 2) := by decide +kernel
theorem dMM_step_112 : decode b_MM_step 112 = .ok (.if_icmp .ge 24, 3) := by decide +kernel
theorem dMM_step_115 : decode b_MM_step 115 = .ok (.aload_n 0, 1) := by decide +kernel
theorem dMM_step_116 : decode b_MM_step 116 = .ok (.invokevirtual 185, 3) := by decide +kernel
theorem dMM_step_119 : decode b_MM_step 119 = .ok (.istore_n 3, 1) := by decide +kernel
theorem dMM_step_120 : decode b_MM_step 120 = .ok (.aload_n 0, 1) := by decide +kernel
theorem dMM_step_121 : decode b_MM_step 121 = .ok (.iload_n 1, 1) := by decide +kernel
theorem dMM_step_122 : decode b_MM_step 122 = .ok (.aload_n 0, 1) := by decide +kernel
theorem dMM_step_123 : decode b_MM_step 123 = .ok (.invokevirtual 185, 3) := by decide +kernel
theorem dMM_step_126 : decode b_MM_step 126 = .ok (.iload_n 3, 1) := by decide +kernel
theorem dMM_step_127 : decode b_MM_step 127 = .ok (.invokestatic 192, 3) := by decide +kernel
theorem dMM_step_130 : decode b_MM_step 130 = .ok (.invokevirtual 189, 3) := by decide +kernel
theorem dMM_step_133 : decode b_MM_step 133 = .ok (.goto 90, 3) := by decide +kernel
theorem dMM_step_136 : decode b_MM_step 136 = .ok (.iload_n 1, 1) := by decide +kernel
theorem dMM_step_137 : decode b_MM_step 137 = .ok (.bipush 14, 2) := by decide +kernel
theorem dMM_step_139 : decode b_MM_step 139 = .ok (.if_icmp .lt 9, 3) := by decide +kernel
theorem dMM_step_142 : decode b_MM_step 142 = .ok (.iload_n 1, 1) := by decide +kernel
theorem dMM_step_143 : decode b_MM_step 143 = .ok (.bipush 17, 2) := by decide +kernel
theorem dMM_step_145 : decode b_MM_step 145 = .ok (.if_icmp .le 9, 3) := by decide +kernel
theorem dMM_step_148 : decode b_MM_step 148 = .ok (.iload_n 1, 1) := by decide +kernel
theorem dMM_step_149 : decode b_MM_step 149 = .ok (.bipush 19, 2) := by decide +kernel
theorem dMM_step_151 : decode b_MM_step 151 = .ok (.if_icmp .ne 40, 3) := by decide +kernel
theorem dMM_step_154 : decode b_MM_step 154 = .ok (.aload_n 0, 1) := by decide +kernel
theorem dMM_step_155 : decode b_MM_step 155 = .ok (.getfield 62, 3) := by decide +kernel
theorem dMM_step_158 : decode b_MM_step 158 = .ok (.aload_n 0, 1) := by decide +kernel
theorem dMM_step_159 : decode b_MM_step 159 = .ok (.getfield 154, 3) := by decide +kernel
theorem dMM_step_162 : decode b_MM_step 162 = .ok (.iconst 1, 1) := by decide +kernel
theorem dMM_step_163 : decode b_MM_step 163 = .ok (.isub, 1) := by decide +kernel
theorem dMM_step_164 : decode b_MM_step 164 = .ok (.aload_n 0, 1) := by decide +kernel
theorem dMM_step_165 : decode b_MM_step 165 = .ok (.iload_n 1, 1) := by decide +kernel
theorem dMM_step_166 : decode b_MM_step 166 = .ok (.invokevirtual 196, 3) := by decide +kernel
theorem dMM_step_169 : decode b_MM_step 169 = .ok (.ifCond .eq 7, 3) := by decide +kernel
theorem dMM_step_172 : decode b_MM_step 172 = .ok (.iload_n 2, 1) := by decide +kernel
theorem dMM_step_173 : decode b_MM_step 173 = .ok (.goto 14, 3) := by decide +kernel
theorem dMM_step_176 : decode b_MM_step 176 = .ok (.aload_n 0, 1) := by decide +kernel
theorem dMM_step_177 : decode b_MM_step 177 = .ok (.getfield 62, 3) := by decide +kernel
theorem dMM_step_180 : decode b_MM_step 180 = .ok (.aload_n 0, 1) := by decide +kernel
theorem dMM_step_181 : decode b_MM_step 181 = .ok (.getfield 154, 3) := by decide +kernel
theorem dMM_step_184 : decode b_MM_step 184 = .ok (.iconst 1, 1) := by decide +kernel
theorem dMM_step_185 : decode b_MM_step 185 = .ok (.isub, 1) := by decide +kernel
theorem dMM_step_186 : decode b_MM_step 186 = .ok (.iaload, 1) := by decide +kernel
theorem dMM_step_187 : decode b_MM_step 187 = .ok (.iastore, 1) := by decide +kernel
theorem dMM_step_188 : decode b_MM_step 188 = .ok (.goto 35, 3) := by decide +kernel
theorem dMM_step_191 : decode b_MM_step 191 = .ok (.iload_n 1, 1) := by decide +kernel
theorem dMM_step_192 : decode b_MM_step 192 = .ok (.bipush 23, 2) := by decide +kernel
theorem dMM_step_194 : decode b_MM_step 194 = .ok (.if_icmp .ne 11, 3) := by decide +kernel
theorem dMM_step_197 : decode b_MM_step 197 = .ok (.aload_n 0, 1) := by decide +kernel
theorem dMM_step_198 : decode b_MM_step 198 = .ok (.iload_n 2, 1) := by decide +kernel
theorem dMM_step_199 : decode b_MM_step 199 = .ok (.invokevirtual 199, 3) := by decide +kernel
theorem dMM_step_202 : decode b_MM_step 202 = .ok (.goto 21, 3) := by decide +kernel
theorem dMM_step_205 : decode b_MM_step 205 = .ok (.iload_n 1, 1) := by decide +kernel
theorem dMM_step_206 : decode b_MM_step 206 = .ok (.bipush 24, 2) := by decide +kernel
theorem dMM_step_208 : decode b_MM_step 208 = .ok (.if_icmp .ne 10, 3) := by decide +kernel
theorem dMM_step_211 : decode b_MM_step 211 = .ok (.aload_n 0, 1) := by decide +kernel
theorem dMM_step_212 : decode b_MM_step 212 = .ok (.invokevirtual 202, 3) := by decide +kernel
theorem dMM_step_215 : decode b_MM_step 215 = .ok (.goto 8, 3) := by decide +kernel
theorem dMM_step_218 : decode b_MM_step 218 = .ok (.aload_n 0, 1) := by decide +kernel
theorem dMM_step_219 : decode b_MM_step 219 = .ok (.iload_n 1, 1) := by decide +kernel
theorem dMM_step_220 : decode b_MM_step 220 = .ok (.invokevirtual 205, 3) := by decide +kernel
theorem dMM_step_223 : decode b_MM_step 223 = .ok (.return_, 1) := by decide +kernel
theorem dMM_take_0 : decode b_MM_take 0 = .ok (.iload_n 1, 1) := by decide +kernel
theorem dMM_take_1 : decode b_MM_take 1 = .ok (.ifCond .ne 7, 3) := by decide +kernel
theorem dMM_take_4 : decode b_MM_take 4 = .ok (.iconst 0, 1) := by decide +kernel
theorem dMM_take_5 : decode b_MM_take 5 = .ok (.goto 8, 3) := by decide +kernel
theorem dMM_take_8 : decode b_MM_take 8 = .ok (.aload_n 0, 1) := by decide +kernel
theorem dMM_take_9 : decode b_MM_take 9 = .ok (.iload_n 1, 1) := by decide +kernel
theorem dMM_take_10 : decode b_MM_take 10 = .ok (.invokevirtual 120, 3) := by decide +kernel
theorem dMM_take_13 : decode b_MM_take 13 = .ok (.istore 4, 2) := by decide +kernel
theorem dMM_take_15 : decode b_MM_take 15 = .ok (.iload_n 2, 1) := by decide +kernel
theorem dMM_take_16 : decode b_MM_take 16 = .ok (.ifCond .ne 7, 3) := by decide +kernel
theorem dMM_take_19 : decode b_MM_take 19 = .ok (.iconst 0, 1) := by decide +kernel
theorem dMM_take_20 : decode b_MM_take 20 = .ok (.goto 8, 3) := by decide +kernel
theorem dMM_take_23 : decode b_MM_take 23 = .ok (.aload_n 0, 1) := by decide +kernel
theorem dMM_take_24 : decode b_MM_take 24 = .ok (.iload_n 2, 1) := by decide +kernel
theorem dMM_take_25 : decode b_MM_take 25 = .ok (.invokevirtual 120, 3) := by decide +kernel
theorem dMM_take_28 : decode b_MM_take 28 = .ok (.istore 5, 2) := by decide +kernel
theorem dMM_take_30 : decode b_MM_take 30 = .ok (.iload_n 3, 1) := by decide +kernel
theorem dMM_take_31 : decode b_MM_take 31 = .ok (.ifCond .ne 7, 3) := by decide +kernel
theorem dMM_take_34 : decode b_MM_take 34 = .ok (.iconst 0, 1) := by decide +kernel
theorem dMM_take_35 : decode b_MM_take 35 = .ok (.goto 8, 3) := by decide +kernel
theorem dMM_take_38 : decode b_MM_take 38 = .ok (.aload_n 0, 1) := by decide +kernel
theorem dMM_take_39 : decode b_MM_take 39 = .ok (.iload_n 3, 1) := by decide +kernel
theorem dMM_take_40 : decode b_MM_take 40 = .ok (.invokevirtual 120, 3) := by decide +kernel
theorem dMM_take_43 : decode b_MM_take 43 = .ok (.istore 6, 2) := by decide +kernel
theorem dMM_take_45 : decode b_MM_take 45 = .ok (.return_, 1) := by decide +kernel
theorem dMM_thrown_0 : decode b_MM_thrown 0 = .ok (.aload_n 0, 1) := by decide +kernel
theorem dMM_thrown_1 : decode b_MM_thrown 1 = .ok (.getfield 86, 3) := by decide +kernel
theorem dMM_thrown_4 : decode b_MM_thrown 4 = .ok (.ireturn, 1) := by decide +kernel
theorem dMM_troubleOf_0 : decode b_MM_troubleOf 0 = .ok (.iload_n 1, 1) := by decide +kernel
theorem dMM_troubleOf_1 : decode b_MM_troubleOf 1 = .ok (.bipush 8, 2) := by decide +kernel
theorem dMM_troubleOf_3 : decode b_MM_troubleOf 3 = .ok (.if_icmp .eq 9, 3) := by decide +kernel
theorem dMM_troubleOf_6 : decode b_MM_troubleOf 6 = .ok (.iload_n 1, 1) := by decide +kernel
theorem dMM_troubleOf_7 : decode b_MM_troubleOf 7 = .ok (.bipush 9, 2) := by decide +kernel
theorem dMM_troubleOf_9 : decode b_MM_troubleOf 9 = .ok (.if_icmp .ne 13, 3) := by decide +kernel
theorem dMM_troubleOf_12 : decode b_MM_troubleOf 12 = .ok (.aload_n 0, 1) := by decide +kernel
theorem dMM_troubleOf_13 : decode b_MM_troubleOf 13 = .ok (.iconst 0, 1) := by decide +kernel
theorem dMM_troubleOf_14 : decode b_MM_troubleOf 14 = .ok (.invokevirtual 182, 3) := by decide +kernel
theorem dMM_troubleOf_17 : decode b_MM_troubleOf 17 = .ok (.ifCond .ne 5, 3) := by decide +kernel
theorem dMM_troubleOf_20 : decode b_MM_troubleOf 20 = .ok (.iconst 2, 1) := by decide +kernel
theorem dMM_troubleOf_21 : decode b_MM_troubleOf 21 = .ok (.ireturn, 1) := by decide +kernel
theorem dMM_troubleOf_22 : decode b_MM_troubleOf 22 = .ok (.iload_n 1, 1) := by decide +kernel
theorem dMM_troubleOf_23 : decode b_MM_troubleOf 23 = .ok (.bipush 11, 2) := by decide +kernel
theorem dMM_troubleOf_25 : decode b_MM_troubleOf 25 = .ok (.if_icmp .ne 12, 3) := by decide +kernel
theorem dMM_troubleOf_28 : decode b_MM_troubleOf 28 = .ok (.aload_n 0, 1) := by decide +kernel
theorem dMM_troubleOf_29 : decode b_MM_troubleOf 29 = .ok (.iconst 0, 1) := by decide +kernel
theorem dMM_troubleOf_30 : decode b_MM_troubleOf 30 = .ok (.invokevirtual 182, 3) := by decide +kernel
theorem dMM_troubleOf_33 : decode b_MM_troubleOf 33 = .ok (.iconst (-1), 1) := by decide +kernel
theorem dMM_troubleOf_34 : decode b_MM_troubleOf 34 = .ok (.if_icmp .eq 33, 3) := by decide +kernel
theorem dMM_troubleOf_37 : decode b_MM_troubleOf 37 = .ok (.iload_n 1, 1) := by decide +kernel
theorem dMM_troubleOf_38 : decode b_MM_troubleOf 38 = .ok (.bipush 12, 2) := by decide +kernel
theorem dMM_troubleOf_40 : decode b_MM_troubleOf 40 = .ok (.if_icmp .ne 12, 3) := by decide +kernel
theorem dMM_troubleOf_43 : decode b_MM_troubleOf 43 = .ok (.aload_n 0, 1) := by decide +kernel
theorem dMM_troubleOf_44 : decode b_MM_troubleOf 44 = .ok (.iconst 1, 1) := by decide +kernel
theorem dMM_troubleOf_45 : decode b_MM_troubleOf 45 = .ok (.invokevirtual 182, 3) := by decide +kernel
theorem dMM_troubleOf_48 : decode b_MM_troubleOf 48 = .ok (.iconst (-1), 1) := by decide +kernel
theorem dMM_troubleOf_49 : decode b_MM_troubleOf 49 = .ok (.if_icmp .eq 18, 3) := by decide +kernel
theorem dMM_troubleOf_52 : decode b_MM_troubleOf 52 = .ok (.iload_n 1, 1) := by decide +kernel
theorem dMM_troubleOf_53 : decode b_MM_troubleOf 53 = .ok (.bipush 13, 2) := by decide +kernel
theorem dMM_troubleOf_55 : decode b_MM_troubleOf 55 = .ok (.if_icmp .ne 14, 3) := by decide +kernel
theorem dMM_troubleOf_58 : decode b_MM_troubleOf 58 = .ok (.aload_n 0, 1) := by decide +kernel
theorem dMM_troubleOf_59 : decode b_MM_troubleOf 59 = .ok (.iconst 2, 1) := by decide +kernel
theorem dMM_troubleOf_60 : decode b_MM_troubleOf 60 = .ok (.invokevirtual 182, 3) := by decide +kernel
theorem dMM_troubleOf_63 : decode b_MM_troubleOf 63 = .ok (.iconst (-1), 1) := by decide +kernel
theorem dMM_troubleOf_64 : decode b_MM_troubleOf 64 = .ok (.if_icmp .ne 5, 3) := by decide +kernel
theorem dMM_troubleOf_67 : decode b_MM_troubleOf 67 = .ok (.iconst 3, 1) := by decide +kernel
theorem dMM_troubleOf_68 : decode b_MM_troubleOf 68 = .ok (.ireturn, 1) := by decide +kernel
theorem dMM_troubleOf_69 : decode b_MM_troubleOf 69 = .ok (.iload_n 1, 1) := by decide +kernel
theorem dMM_troubleOf_70 : decode b_MM_troubleOf 70 = .ok (.bipush 12, 2) := by decide +kernel
theorem dMM_troubleOf_72 : decode b_MM_troubleOf 72 = .ok (.if_icmp .ne 27, 3) := by decide +kernel
theorem dMM_troubleOf_75 : decode b_MM_troubleOf 75 = .ok (.aload_n 0, 1) := by decide +kernel
theorem dMM_troubleOf_76 : decode b_MM_troubleOf 76 = .ok (.iconst 0, 1) := by decide +kernel
theorem dMM_troubleOf_77 : decode b_MM_troubleOf 77 = .ok (.invokevirtual 182, 3) := by decide +kernel
theorem dMM_troubleOf_80 : decode b_MM_troubleOf 80 = .ok (.iconst 0, 1) := by decide +kernel
theorem dMM_troubleOf_81 : decode b_MM_troubleOf 81 = .ok (.aload_n 0, 1) := by decide +kernel
theorem dMM_troubleOf_82 : decode b_MM_troubleOf 82 = .ok (.getfield 77, 3) := by decide +kernel
theorem dMM_troubleOf_85 : decode b_MM_troubleOf 85 = .ok (.aload_n 0, 1) := by decide +kernel
theorem dMM_troubleOf_86 : decode b_MM_troubleOf 86 = .ok (.iconst 1, 1) := by decide +kernel
theorem dMM_troubleOf_87 : decode b_MM_troubleOf 87 = .ok (.invokevirtual 182, 3) := by decide +kernel
theorem dMM_troubleOf_90 : decode b_MM_troubleOf 90 = .ok (.iaload, 1) := by decide +kernel
theorem dMM_troubleOf_91 : decode b_MM_troubleOf 91 = .ok (.iconst 1, 1) := by decide +kernel
theorem dMM_troubleOf_92 : decode b_MM_troubleOf 92 = .ok (.isub, 1) := by decide +kernel
theorem dMM_troubleOf_93 : decode b_MM_troubleOf 93 = .ok (.invokestatic 90, 3) := by decide +kernel
theorem dMM_troubleOf_96 : decode b_MM_troubleOf 96 = .ok (.ifCond .eq 33, 3) := by decide +kernel
theorem dMM_troubleOf_99 : decode b_MM_troubleOf 99 = .ok (.iload_n 1, 1) := by decide +kernel
theorem dMM_troubleOf_100 : decode b_MM_troubleOf 100 = .ok (.bipush 13, 2) := by decide +kernel
theorem dMM_troubleOf_102 : decode b_MM_troubleOf 102 = .ok (.if_icmp .ne 29, 3) := by decide +kernel
theorem dMM_troubleOf_105 : decode b_MM_troubleOf 105 = .ok (.aload_n 0, 1) := by decide +kernel
theorem dMM_troubleOf_106 : decode b_MM_troubleOf 106 = .ok (.iconst 1, 1) := by decide +kernel
theorem dMM_troubleOf_107 : decode b_MM_troubleOf 107 = .ok (.invokevirtual 182, 3) := by decide +kernel
theorem dMM_troubleOf_110 : decode b_MM_troubleOf 110 = .ok (.iconst 0, 1) := by decide +kernel
theorem dMM_troubleOf_111 : decode b_MM_troubleOf 111 = .ok (.aload_n 0, 1) := by decide +kernel
theorem dMM_troubleOf_112 : decode b_MM_troubleOf 112 = .ok (.getfield 77, 3) := by decide +kernel
theorem dMM_troubleOf_115 : decode b_MM_troubleOf 115 = .ok (.aload_n 0, 1) := by decide +kernel
theorem dMM_troubleOf_116 : decode b_MM_troubleOf 116 = .ok (.iconst 2, 1) := by decide +kernel
theorem dMM_troubleOf_117 : decode b_MM_troubleOf 117 = .ok (.invokevirtual 182, 3) := by decide +kernel
theorem dMM_troubleOf_120 : decode b_MM_troubleOf 120 = .ok (.iaload, 1) := by decide +kernel
theorem dMM_troubleOf_121 : decode b_MM_troubleOf 121 = .ok (.iconst 1, 1) := by decide +kernel
theorem dMM_troubleOf_122 : decode b_MM_troubleOf 122 = .ok (.isub, 1) := by decide +kernel
theorem dMM_troubleOf_123 : decode b_MM_troubleOf 123 = .ok (.invokestatic 90, 3) := by decide +kernel
theorem dMM_troubleOf_126 : decode b_MM_troubleOf 126 = .ok (.ifCond .ne 5, 3) := by decide +kernel
theorem dMM_troubleOf_129 : decode b_MM_troubleOf 129 = .ok (.iconst 4, 1) := by decide +kernel
theorem dMM_troubleOf_130 : decode b_MM_troubleOf 130 = .ok (.ireturn, 1) := by decide +kernel
theorem dMM_troubleOf_131 : decode b_MM_troubleOf 131 = .ok (.iload_n 1, 1) := by decide +kernel
theorem dMM_troubleOf_132 : decode b_MM_troubleOf 132 = .ok (.bipush 10, 2) := by decide +kernel
theorem dMM_troubleOf_134 : decode b_MM_troubleOf 134 = .ok (.if_icmp .ne 48, 3) := by decide +kernel
theorem dMM_troubleOf_137 : decode b_MM_troubleOf 137 = .ok (.aload_n 0, 1) := by decide +kernel
theorem dMM_troubleOf_138 : decode b_MM_troubleOf 138 = .ok (.iconst 0, 1) := by decide +kernel
theorem dMM_troubleOf_139 : decode b_MM_troubleOf 139 = .ok (.invokevirtual 182, 3) := by decide +kernel
theorem dMM_troubleOf_142 : decode b_MM_troubleOf 142 = .ok (.ifCond .ge 7, 3) := by decide +kernel
theorem dMM_troubleOf_145 : decode b_MM_troubleOf 145 = .ok (.iconst 5, 1) := by decide +kernel
theorem dMM_troubleOf_146 : decode b_MM_troubleOf 146 = .ok (.goto 35, 3) := by decide +kernel
theorem dMM_troubleOf_149 : decode b_MM_troubleOf 149 = .ok (.aload_n 0, 1) := by decide +kernel
theorem dMM_troubleOf_150 : decode b_MM_troubleOf 150 = .ok (.iconst 0, 1) := by decide +kernel
theorem dMM_troubleOf_151 : decode b_MM_troubleOf 151 = .ok (.invokevirtual 182, 3) := by decide +kernel
theorem dMM_troubleOf_154 : decode b_MM_troubleOf 154 = .ok (.sipush 2000, 3) := by decide +kernel
theorem dMM_troubleOf_157 : decode b_MM_troubleOf 157 = .ok (.aload_n 0, 1) := by decide +kernel
theorem dMM_troubleOf_158 : decode b_MM_troubleOf 158 = .ok (.getfield 151, 3) := by decide +kernel
theorem dMM_troubleOf_161 : decode b_MM_troubleOf 161 = .ok (.isub, 1) := by decide +kernel
theorem dMM_troubleOf_162 : decode b_MM_troubleOf 162 = .ok (.if_icmp .gt 13, 3) := by decide +kernel
theorem dMM_troubleOf_165 : decode b_MM_troubleOf 165 = .ok (.aload_n 0, 1) := by decide +kernel
theorem dMM_troubleOf_166 : decode b_MM_troubleOf 166 = .ok (.getfield 148, 3) := by decide +kernel
theorem dMM_troubleOf_169 : decode b_MM_troubleOf 169 = .ok (.sipush 200, 3) := by decide +kernel
theorem dMM_troubleOf_172 : decode b_MM_troubleOf 172 = .ok (.if_icmp .ne 8, 3) := by decide +kernel
theorem dMM_troubleOf_175 : decode b_MM_troubleOf 175 = .ok (.bipush 6, 2) := by decide +kernel
theorem dMM_troubleOf_177 : decode b_MM_troubleOf 177 = .ok (.goto 4, 3) := by decide +kernel
theorem dMM_troubleOf_180 : decode b_MM_troubleOf 180 = .ok (.iconst 0, 1) := by decide +kernel
theorem dMM_troubleOf_181 : decode b_MM_troubleOf 181 = .ok (.ireturn, 1) := by decide +kernel
theorem dMM_troubleOf_182 : decode b_MM_troubleOf 182 = .ok (.iload_n 1, 1) := by decide +kernel
theorem dMM_troubleOf_183 : decode b_MM_troubleOf 183 = .ok (.bipush 23, 2) := by decide +kernel
theorem dMM_troubleOf_185 : decode b_MM_troubleOf 185 = .ok (.if_icmp .ne 17, 3) := by decide +kernel
theorem dMM_troubleOf_188 : decode b_MM_troubleOf 188 = .ok (.aload_n 0, 1) := by decide +kernel
theorem dMM_troubleOf_189 : decode b_MM_troubleOf 189 = .ok (.getfield 154, 3) := by decide +kernel
theorem dMM_troubleOf_192 : decode b_MM_troubleOf 192 = .ok (.bipush 50, 2) := by decide +kernel
theorem dMM_troubleOf_194 : decode b_MM_troubleOf 194 = .ok (.if_icmp .ne 8, 3) := by decide +kernel
theorem dMM_troubleOf_197 : decode b_MM_troubleOf 197 = .ok (.bipush 7, 2) := by decide +kernel
theorem dMM_troubleOf_199 : decode b_MM_troubleOf 199 = .ok (.goto 4, 3) := by decide +kernel
theorem dMM_troubleOf_202 : decode b_MM_troubleOf 202 = .ok (.iconst 0, 1) := by decide +kernel
theorem dMM_troubleOf_203 : decode b_MM_troubleOf 203 = .ok (.ireturn, 1) := by decide +kernel
theorem dMM_type_0 : decode b_MM_type 0 = .ok (.aload_n 0, 1) := by decide +kernel
theorem dMM_type_1 : decode b_MM_type 1 = .ok (.iload_n 1, 1) := by decide +kernel
theorem dMM_type_2 : decode b_MM_type 2 = .ok (.iload_n 2, 1) := by decide +kernel
theorem dMM_type_3 : decode b_MM_type 3 = .ok (.invokevirtual 106, 3) := by decide +kernel
theorem dMM_type_6 : decode b_MM_type 6 = .ok (.ifCond .eq 32, 3) := by decide +kernel
theorem dMM_type_9 : decode b_MM_type 9 = .ok (.iload 4, 2) := by decide +kernel
theorem dMM_type_11 : decode b_MM_type 11 = .ok (.ifCond .lt 27, 3) := by decide +kernel
theorem dMM_type_14 : decode b_MM_type 14 = .ok (.iload_n 3, 1) := by decide +kernel
theorem dMM_type_15 : decode b_MM_type 15 = .ok (.ifCond .eq 19, 3) := by decide +kernel
theorem dMM_type_18 : decode b_MM_type 18 = .ok (.iload_n 3, 1) := by decide +kernel
theorem dMM_type_19 : decode b_MM_type 19 = .ok (.iconst 1, 1) := by decide +kernel
theorem dMM_type_20 : decode b_MM_type 20 = .ok (.if_icmp .ne 18, 3) := by decide +kernel
theorem dMM_type_23 : decode b_MM_type 23 = .ok (.iload 4, 2) := by decide +kernel
theorem dMM_type_25 : decode b_MM_type 25 = .ok (.aload_n 0, 1) := by decide +kernel
theorem dMM_type_26 : decode b_MM_type 26 = .ok (.getfield 23, 3) := by decide +kernel
theorem dMM_type_29 : decode b_MM_type 29 = .ok (.iload_n 1, 1) := by decide +kernel
theorem dMM_type_30 : decode b_MM_type 30 = .ok (.iaload, 1) := by decide +kernel
theorem dMM_type_31 : decode b_MM_type 31 = .ok (.if_icmp .ge 7, 3) := by decide +kernel
theorem dMM_type_34 : decode b_MM_type 34 = .ok (.iconst 1, 1) := by decide +kernel
theorem dMM_type_35 : decode b_MM_type 35 = .ok (.goto 4, 3) := by decide +kernel
theorem dMM_type_38 : decode b_MM_type 38 = .ok (.iconst 0, 1) := by decide +kernel
theorem dMM_type_39 : decode b_MM_type 39 = .ok (.istore 5, 2) := by decide +kernel
theorem dMM_type_41 : decode b_MM_type 41 = .ok (.aload_n 0, 1) := by decide +kernel
theorem dMM_type_42 : decode b_MM_type 42 = .ok (.iload 5, 2) := by decide +kernel
theorem dMM_type_44 : decode b_MM_type 44 = .ok (.iload 5, 2) := by decide +kernel
theorem dMM_type_46 : decode b_MM_type 46 = .ok (.ifCond .eq 15, 3) := by decide +kernel
theorem dMM_type_49 : decode b_MM_type 49 = .ok (.aload_n 0, 1) := by decide +kernel
theorem dMM_type_50 : decode b_MM_type 50 = .ok (.iload_n 1, 1) := by decide +kernel
theorem dMM_type_51 : decode b_MM_type 51 = .ok (.invokevirtual 145, 3) := by decide +kernel
theorem dMM_type_54 : decode b_MM_type 54 = .ok (.ifCond .eq 7, 3) := by decide +kernel
theorem dMM_type_57 : decode b_MM_type 57 = .ok (.iconst 1, 1) := by decide +kernel
theorem dMM_type_58 : decode b_MM_type 58 = .ok (.goto 4, 3) := by decide +kernel
theorem dMM_type_61 : decode b_MM_type 61 = .ok (.iconst 0, 1) := by decide +kernel
theorem dMM_type_62 : decode b_MM_type 62 = .ok (.iconst 1, 1) := by decide +kernel
theorem dMM_type_63 : decode b_MM_type 63 = .ok (.invokevirtual 94, 3) := by decide +kernel
theorem dMM_type_66 : decode b_MM_type 66 = .ok (.ifCond .ne 5, 3) := by decide +kernel
theorem dMM_type_69 : decode b_MM_type 69 = .ok (.iconst 0, 1) := by decide +kernel
theorem dMM_type_70 : decode b_MM_type 70 = .ok (.ireturn, 1) := by decide +kernel
theorem dMM_type_71 : decode b_MM_type 71 = .ok (.aload_n 0, 1) := by decide +kernel
theorem dMM_type_72 : decode b_MM_type 72 = .ok (.getfield 38, 3) := by decide +kernel
theorem dMM_type_75 : decode b_MM_type 75 = .ok (.iload_n 2, 1) := by decide +kernel
theorem dMM_type_76 : decode b_MM_type 76 = .ok (.iaload, 1) := by decide +kernel
theorem dMM_type_77 : decode b_MM_type 77 = .ok (.iconst (-1), 1) := by decide +kernel
theorem dMM_type_78 : decode b_MM_type 78 = .ok (.if_icmp .eq 18, 3) := by decide +kernel
theorem dMM_type_81 : decode b_MM_type 81 = .ok (.iload_n 3, 1) := by decide +kernel
theorem dMM_type_82 : decode b_MM_type 82 = .ok (.ifCond .ne 16, 3) := by decide +kernel
theorem dMM_type_85 : decode b_MM_type 85 = .ok (.iload 4, 2) := by decide +kernel
theorem dMM_type_87 : decode b_MM_type 87 = .ok (.aload_n 0, 1) := by decide +kernel
theorem dMM_type_88 : decode b_MM_type 88 = .ok (.getfield 38, 3) := by decide +kernel
theorem dMM_type_91 : decode b_MM_type 91 = .ok (.iload_n 2, 1) := by decide +kernel
theorem dMM_type_92 : decode b_MM_type 92 = .ok (.iaload, 1) := by decide +kernel
theorem dMM_type_93 : decode b_MM_type 93 = .ok (.if_icmp .lt 5, 3) := by decide +kernel
theorem dMM_type_96 : decode b_MM_type 96 = .ok (.iconst (-1), 1) := by decide +kernel
theorem dMM_type_97 : decode b_MM_type 97 = .ok (.ireturn, 1) := by decide +kernel
theorem dMM_type_98 : decode b_MM_type 98 = .ok (.iload_n 3, 1) := by decide +kernel
theorem dMM_type_99 : decode b_MM_type 99 = .ok (.ifCond .ne 18, 3) := by decide +kernel
theorem dMM_type_102 : decode b_MM_type 102 = .ok (.aload_n 0, 1) := by decide +kernel
theorem dMM_type_103 : decode b_MM_type 103 = .ok (.getfield 41, 3) := by decide +kernel
theorem dMM_type_106 : decode b_MM_type 106 = .ok (.bipush 16, 2) := by decide +kernel
theorem dMM_type_108 : decode b_MM_type 108 = .ok (.iload_n 2, 1) := by decide +kernel
theorem dMM_type_109 : decode b_MM_type 109 = .ok (.imul, 1) := by decide +kernel
theorem dMM_type_110 : decode b_MM_type 110 = .ok (.iload 4, 2) := by decide +kernel
theorem dMM_type_112 : decode b_MM_type 112 = .ok (.iadd, 1) := by decide +kernel
theorem dMM_type_113 : decode b_MM_type 113 = .ok (.iaload, 1) := by decide +kernel
theorem dMM_type_114 : decode b_MM_type 114 = .ok (.goto 15, 3) := by decide +kernel
theorem dMM_type_117 : decode b_MM_type 117 = .ok (.aload_n 0, 1) := by decide +kernel
theorem dMM_type_118 : decode b_MM_type 118 = .ok (.getfield 44, 3) := by decide +kernel
theorem dMM_type_121 : decode b_MM_type 121 = .ok (.bipush 10, 2) := by decide +kernel
theorem dMM_type_123 : decode b_MM_type 123 = .ok (.iload_n 2, 1) := by decide +kernel
theorem dMM_type_124 : decode b_MM_type 124 = .ok (.imul, 1) := by decide +kernel
theorem dMM_type_125 : decode b_MM_type 125 = .ok (.iload 4, 2) := by decide +kernel
theorem dMM_type_127 : decode b_MM_type 127 = .ok (.iadd, 1) := by decide +kernel
theorem dMM_type_128 : decode b_MM_type 128 = .ok (.iaload, 1) := by decide +kernel
theorem dMM_type_129 : decode b_MM_type 129 = .ok (.ireturn, 1) := by decide +kernel
theorem dMM_value_0 : decode b_MM_value 0 = .ok (.aload_n 0, 1) := by decide +kernel
theorem dMM_value_1 : decode b_MM_value 1 = .ok (.getfield 98, 3) := by decide +kernel
theorem dMM_value_4 : decode b_MM_value 4 = .ok (.ifCond .eq 18, 3) := by decide +kernel
theorem dMM_value_7 : decode b_MM_value 7 = .ok (.aload_n 0, 1) := by decide +kernel
theorem dMM_value_8 : decode b_MM_value 8 = .ok (.getfield 154, 3) := by decide +kernel
theorem dMM_value_11 : decode b_MM_value 11 = .ok (.ifCond .le 11, 3) := by decide +kernel
theorem dMM_value_14 : decode b_MM_value 14 = .ok (.iload_n 2, 1) := by decide +kernel
theorem dMM_value_15 : decode b_MM_value 15 = .ok (.ifCond .lt 7, 3) := by decide +kernel
theorem dMM_value_18 : decode b_MM_value 18 = .ok (.iconst 1, 1) := by decide +kernel
theorem dMM_value_19 : decode b_MM_value 19 = .ok (.goto 4, 3) := by decide +kernel
theorem dMM_value_22 : decode b_MM_value 22 = .ok (.iconst 0, 1) := by decide +kernel
theorem dMM_value_23 : decode b_MM_value 23 = .ok (.istore_n 3, 1) := by decide +kernel
theorem dMM_value_24 : decode b_MM_value 24 = .ok (.iload_n 3, 1) := by decide +kernel
theorem dMM_value_25 : decode b_MM_value 25 = .ok (.ifCond .eq 51, 3) := by decide +kernel
theorem dMM_value_28 : decode b_MM_value 28 = .ok (.iload_n 1, 1) := by decide +kernel
theorem dMM_value_29 : decode b_MM_value 29 = .ok (.ifCond .ne 18, 3) := by decide +kernel
theorem dMM_value_32 : decode b_MM_value 32 = .ok (.iload_n 2, 1) := by decide +kernel
theorem dMM_value_33 : decode b_MM_value 33 = .ok (.aload_n 0, 1) := by decide +kernel
theorem dMM_value_34 : decode b_MM_value 34 = .ok (.getfield 65, 3) := by decide +kernel
theorem dMM_value_37 : decode b_MM_value 37 = .ok (.aload_n 0, 1) := by decide +kernel
theorem dMM_value_38 : decode b_MM_value 38 = .ok (.getfield 154, 3) := by decide +kernel
theorem dMM_value_41 : decode b_MM_value 41 = .ok (.iconst 1, 1) := by decide +kernel
theorem dMM_value_42 : decode b_MM_value 42 = .ok (.isub, 1) := by decide +kernel
theorem dMM_value_43 : decode b_MM_value 43 = .ok (.iaload, 1) := by decide +kernel
theorem dMM_value_44 : decode b_MM_value 44 = .ok (.if_icmp .lt 28, 3) := by decide +kernel
theorem dMM_value_47 : decode b_MM_value 47 = .ok (.iload_n 1, 1) := by decide +kernel
theorem dMM_value_48 : decode b_MM_value 48 = .ok (.iconst 1, 1) := by decide +kernel
theorem dMM_value_49 : decode b_MM_value 49 = .ok (.if_icmp .ne 27, 3) := by decide +kernel
theorem dMM_value_52 : decode b_MM_value 52 = .ok (.iload_n 2, 1) := by decide +kernel
theorem dMM_value_53 : decode b_MM_value 53 = .ok (.aload_n 0, 1) := by decide +kernel
theorem dMM_value_54 : decode b_MM_value 54 = .ok (.getfield 23, 3) := by decide +kernel
theorem dMM_value_57 : decode b_MM_value 57 = .ok (.aload_n 0, 1) := by decide +kernel
theorem dMM_value_58 : decode b_MM_value 58 = .ok (.getfield 59, 3) := by decide +kernel
theorem dMM_value_61 : decode b_MM_value 61 = .ok (.aload_n 0, 1) := by decide +kernel
theorem dMM_value_62 : decode b_MM_value 62 = .ok (.getfield 154, 3) := by decide +kernel
theorem dMM_value_65 : decode b_MM_value 65 = .ok (.iconst 1, 1) := by decide +kernel
theorem dMM_value_66 : decode b_MM_value 66 = .ok (.isub, 1) := by decide +kernel
theorem dMM_value_67 : decode b_MM_value 67 = .ok (.iaload, 1) := by decide +kernel
theorem dMM_value_68 : decode b_MM_value 68 = .ok (.iaload, 1) := by decide +kernel
theorem dMM_value_69 : decode b_MM_value 69 = .ok (.if_icmp .ge 7, 3) := by decide +kernel
theorem dMM_value_72 : decode b_MM_value 72 = .ok (.iconst 1, 1) := by decide +kernel
theorem dMM_value_73 : decode b_MM_value 73 = .ok (.goto 4, 3) := by decide +kernel
theorem dMM_value_76 : decode b_MM_value 76 = .ok (.iconst 0, 1) := by decide +kernel
theorem dMM_value_77 : decode b_MM_value 77 = .ok (.istore_n 3, 1) := by decide +kernel
theorem dMM_value_78 : decode b_MM_value 78 = .ok (.aload_n 0, 1) := by decide +kernel
theorem dMM_value_79 : decode b_MM_value 79 = .ok (.iload_n 3, 1) := by decide +kernel
theorem dMM_value_80 : decode b_MM_value 80 = .ok (.iconst 1, 1) := by decide +kernel
theorem dMM_value_81 : decode b_MM_value 81 = .ok (.iconst 1, 1) := by decide +kernel
theorem dMM_value_82 : decode b_MM_value 82 = .ok (.invokevirtual 94, 3) := by decide +kernel
theorem dMM_value_85 : decode b_MM_value 85 = .ok (.ifCond .ne 5, 3) := by decide +kernel
theorem dMM_value_88 : decode b_MM_value 88 = .ok (.iconst 0, 1) := by decide +kernel
theorem dMM_value_89 : decode b_MM_value 89 = .ok (.ireturn, 1) := by decide +kernel
theorem dMM_value_90 : decode b_MM_value 90 = .ok (.iload_n 1, 1) := by decide +kernel
theorem dMM_value_91 : decode b_MM_value 91 = .ok (.ifCond .ne 23, 3) := by decide +kernel
theorem dMM_value_94 : decode b_MM_value 94 = .ok (.aload_n 0, 1) := by decide +kernel
theorem dMM_value_95 : decode b_MM_value 95 = .ok (.getfield 68, 3) := by decide +kernel
theorem dMM_value_98 : decode b_MM_value 98 = .ok (.bipush 16, 2) := by decide +kernel
theorem dMM_value_100 : decode b_MM_value 100 = .ok (.aload_n 0, 1) := by decide +kernel
theorem dMM_value_101 : decode b_MM_value 101 = .ok (.getfield 154, 3) := by decide +kernel
theorem dMM_value_104 : decode b_MM_value 104 = .ok (.imul, 1) := by decide +kernel
theorem dMM_value_105 : decode b_MM_value 105 = .ok (.bipush 16, 2) := by decide +kernel
theorem dMM_value_107 : decode b_MM_value 107 = .ok (.isub, 1) := by decide +kernel
theorem dMM_value_108 : decode b_MM_value 108 = .ok (.iload_n 2, 1) := by decide +kernel
theorem dMM_value_109 : decode b_MM_value 109 = .ok (.iadd, 1) := by decide +kernel
theorem dMM_value_110 : decode b_MM_value 110 = .ok (.iaload, 1) := by decide +kernel
theorem dMM_value_111 : decode b_MM_value 111 = .ok (.goto 20, 3) := by decide +kernel
theorem dMM_value_114 : decode b_MM_value 114 = .ok (.aload_n 0, 1) := by decide +kernel
theorem dMM_value_115 : decode b_MM_value 115 = .ok (.getfield 71, 3) := by decide +kernel
theorem dMM_value_118 : decode b_MM_value 118 = .ok (.bipush 10, 2) := by decide +kernel
theorem dMM_value_120 : decode b_MM_value 120 = .ok (.aload_n 0, 1) := by decide +kernel
theorem dMM_value_121 : decode b_MM_value 121 = .ok (.getfield 154, 3) := by decide +kernel
theorem dMM_value_124 : decode b_MM_value 124 = .ok (.imul, 1) := by decide +kernel
theorem dMM_value_125 : decode b_MM_value 125 = .ok (.bipush 10, 2) := by decide +kernel
theorem dMM_value_127 : decode b_MM_value 127 = .ok (.isub, 1) := by decide +kernel
theorem dMM_value_128 : decode b_MM_value 128 = .ok (.iload_n 2, 1) := by decide +kernel
theorem dMM_value_129 : decode b_MM_value 129 = .ok (.iadd, 1) := by decide +kernel
theorem dMM_value_130 : decode b_MM_value 130 = .ok (.iaload, 1) := by decide +kernel
theorem dMM_value_131 : decode b_MM_value 131 = .ok (.ireturn, 1) := by decide +kernel
theorem dMM_within_0 : decode b_MM_within 0 = .ok (.iload_n 0, 1) := by decide +kernel
theorem dMM_within_1 : decode b_MM_within 1 = .ok (.iload_n 1, 1) := by decide +kernel
theorem dMM_within_2 : decode b_MM_within 2 = .ok (.if_icmp .lt 12, 3) := by decide +kernel
theorem dMM_within_5 : decode b_MM_within 5 = .ok (.iload_n 0, 1) := by decide +kernel
theorem dMM_within_6 : decode b_MM_within 6 = .ok (.iload_n 2, 1) := by decide +kernel
theorem dMM_within_7 : decode b_MM_within 7 = .ok (.if_icmp .gt 7, 3) := by decide +kernel
theorem dMM_within_10 : decode b_MM_within 10 = .ok (.iconst 1, 1) := by decide +kernel
theorem dMM_within_11 : decode b_MM_within 11 = .ok (.goto 4, 3) := by decide +kernel
theorem dMM_within_14 : decode b_MM_within 14 = .ok (.iconst 0, 1) := by decide +kernel
theorem dMM_within_15 : decode b_MM_within 15 = .ok (.ireturn, 1) := by decide +kernel
theorem dMM_worked_0 : decode b_MM_worked 0 = .ok (.iload_n 0, 1) := by decide +kernel
theorem dMM_worked_1 : decode b_MM_worked 1 = .ok (.tableswitch 47 5 8 #[31, 35, 39, 43], 31) := by decide +kernel
theorem dMM_worked_32 : decode b_MM_worked 32 = .ok (.iload_n 1, 1) := by decide +kernel
theorem dMM_worked_33 : decode b_MM_worked 33 = .ok (.iload_n 2, 1) := by decide +kernel
theorem dMM_worked_34 : decode b_MM_worked 34 = .ok (.iadd, 1) := by decide +kernel
theorem dMM_worked_35 : decode b_MM_worked 35 = .ok (.ireturn, 1) := by decide +kernel
theorem dMM_worked_36 : decode b_MM_worked 36 = .ok (.iload_n 1, 1) := by decide +kernel
theorem dMM_worked_37 : decode b_MM_worked 37 = .ok (.iload_n 2, 1) := by decide +kernel
theorem dMM_worked_38 : decode b_MM_worked 38 = .ok (.isub, 1) := by decide +kernel
theorem dMM_worked_39 : decode b_MM_worked 39 = .ok (.ireturn, 1) := by decide +kernel
theorem dMM_worked_40 : decode b_MM_worked 40 = .ok (.iload_n 1, 1) := by decide +kernel
theorem dMM_worked_41 : decode b_MM_worked 41 = .ok (.iload_n 2, 1) := by decide +kernel
theorem dMM_worked_42 : decode b_MM_worked 42 = .ok (.imul, 1) := by decide +kernel
theorem dMM_worked_43 : decode b_MM_worked 43 = .ok (.ireturn, 1) := by decide +kernel
theorem dMM_worked_44 : decode b_MM_worked 44 = .ok (.iload_n 1, 1) := by decide +kernel
theorem dMM_worked_45 : decode b_MM_worked 45 = .ok (.iload_n 2, 1) := by decide +kernel
theorem dMM_worked_46 : decode b_MM_worked 46 = .ok (.idiv, 1) := by decide +kernel
theorem dMM_worked_47 : decode b_MM_worked 47 = .ok (.ireturn, 1) := by decide +kernel
theorem dMM_worked_48 : decode b_MM_worked 48 = .ok (.iload_n 1, 1) := by decide +kernel
theorem dMM_worked_49 : decode b_MM_worked 49 = .ok (.iload_n 2, 1) := by decide +kernel
theorem dMM_worked_50 : decode b_MM_worked 50 = .ok (.irem, 1) := by decide +kernel
theorem dMM_worked_51 : decode b_MM_worked 51 = .ok (.ireturn, 1) := by decide +kernel
