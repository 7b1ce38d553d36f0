abbrev b_LW_add : ByteArray := method_4_code
abbrev y_LW_add : MethodName := ⟨"CodeJudgeLaw", "add", "(LCodeJudge;III[J)I"⟩
theorem wc_LW_add : Cond.codeWith y_LW_add b_LW_add 6 (some .int) [(0, 12, 15, 13), (0, 12, 19, 15), (0, 12, 23, 21)] ∈ TB := tw_2_97
theorem dLW_add_0 : decode b_LW_add 0 = .ok (.aload 4, 2) := by decide +kernel
theorem dLW_add_2 : decode b_LW_add 2 = .ok (.iconst 0, 1) := by decide +kernel
theorem dLW_add_3 : decode b_LW_add 3 = .ok (.aload_n 0, 1) := by decide +kernel
theorem dLW_add_4 : decode b_LW_add 4 = .ok (.iload_n 1, 1) := by decide +kernel
theorem dLW_add_5 : decode b_LW_add 5 = .ok (.iload_n 2, 1) := by decide +kernel
theorem dLW_add_6 : decode b_LW_add 6 = .ok (.iload_n 3, 1) := by decide +kernel
theorem dLW_add_7 : decode b_LW_add 7 = .ok (.invokevirtual 17, 3) := by decide +kernel
theorem dLW_add_10 : decode b_LW_add 10 = .ok (.i2l, 1) := by decide +kernel
theorem dLW_add_11 : decode b_LW_add 11 = .ok (.lastore, 1) := by decide +kernel
theorem dLW_add_12 : decode b_LW_add 12 = .ok (.goto 15, 3) := by decide +kernel
theorem dLW_add_15 : decode b_LW_add 15 = .ok (.astore 5, 2) := by decide +kernel
theorem dLW_add_17 : decode b_LW_add 17 = .ok (.iconst 1, 1) := by decide +kernel
theorem dLW_add_18 : decode b_LW_add 18 = .ok (.ireturn, 1) := by decide +kernel
theorem dLW_add_19 : decode b_LW_add 19 = .ok (.astore 5, 2) := by decide +kernel
theorem dLW_add_21 : decode b_LW_add 21 = .ok (.iconst 2, 1) := by decide +kernel
theorem dLW_add_22 : decode b_LW_add 22 = .ok (.ireturn, 1) := by decide +kernel
theorem dLW_add_23 : decode b_LW_add 23 = .ok (.astore 5, 2) := by decide +kernel
theorem dLW_add_25 : decode b_LW_add 25 = .ok (.iconst 3, 1) := by decide +kernel
theorem dLW_add_26 : decode b_LW_add 26 = .ok (.ireturn, 1) := by decide +kernel
theorem dLW_add_27 : decode b_LW_add 27 = .ok (.iconst 0, 1) := by decide +kernel
theorem dLW_add_28 : decode b_LW_add 28 = .ok (.ireturn, 1) := by decide +kernel
abbrev b_LW_cell : ByteArray := method_14_code
abbrev y_LW_cell : MethodName := ⟨"CodeJudgeLaw", "cell", "(LCodeJudge;II[J)I"⟩
theorem wc_LW_cell : Cond.codeWith y_LW_cell b_LW_cell 5 (some .int) [(0, 10, 13, 13)] ∈ TB := tw_4_23
theorem dLW_cell_0 : decode b_LW_cell 0 = .ok (.aload_n 3, 1) := by decide +kernel
theorem dLW_cell_1 : decode b_LW_cell 1 = .ok (.iconst 0, 1) := by decide +kernel
theorem dLW_cell_2 : decode b_LW_cell 2 = .ok (.aload_n 0, 1) := by decide +kernel
theorem dLW_cell_3 : decode b_LW_cell 3 = .ok (.iload_n 1, 1) := by decide +kernel
theorem dLW_cell_4 : decode b_LW_cell 4 = .ok (.iload_n 2, 1) := by decide +kernel
theorem dLW_cell_5 : decode b_LW_cell 5 = .ok (.invokevirtual 55, 3) := by decide +kernel
theorem dLW_cell_8 : decode b_LW_cell 8 = .ok (.i2l, 1) := by decide +kernel
theorem dLW_cell_9 : decode b_LW_cell 9 = .ok (.lastore, 1) := by decide +kernel
theorem dLW_cell_10 : decode b_LW_cell 10 = .ok (.goto 7, 3) := by decide +kernel
theorem dLW_cell_13 : decode b_LW_cell 13 = .ok (.astore 4, 2) := by decide +kernel
theorem dLW_cell_15 : decode b_LW_cell 15 = .ok (.iconst 1, 1) := by decide +kernel
theorem dLW_cell_16 : decode b_LW_cell 16 = .ok (.ireturn, 1) := by decide +kernel
theorem dLW_cell_17 : decode b_LW_cell 17 = .ok (.iconst 0, 1) := by decide +kernel
theorem dLW_cell_18 : decode b_LW_cell 18 = .ok (.ireturn, 1) := by decide +kernel
abbrev b_LW_count : ByteArray := method_16_code
abbrev y_LW_count : MethodName := ⟨"CodeJudgeLaw", "count", "(LCodeJudge;I[J)I"⟩
theorem wc_LW_count : Cond.codeWith y_LW_count b_LW_count 4 (some .int) [(0, 9, 12, 15)] ∈ TB := tw_4_51
theorem dLW_count_0 : decode b_LW_count 0 = .ok (.aload_n 2, 1) := by decide +kernel
theorem dLW_count_1 : decode b_LW_count 1 = .ok (.iconst 0, 1) := by decide +kernel
theorem dLW_count_2 : decode b_LW_count 2 = .ok (.aload_n 0, 1) := by decide +kernel
theorem dLW_count_3 : decode b_LW_count 3 = .ok (.iload_n 1, 1) := by decide +kernel
theorem dLW_count_4 : decode b_LW_count 4 = .ok (.invokevirtual 61, 3) := by decide +kernel
theorem dLW_count_7 : decode b_LW_count 7 = .ok (.i2l, 1) := by decide +kernel
theorem dLW_count_8 : decode b_LW_count 8 = .ok (.lastore, 1) := by decide +kernel
theorem dLW_count_9 : decode b_LW_count 9 = .ok (.goto 6, 3) := by decide +kernel
theorem dLW_count_12 : decode b_LW_count 12 = .ok (.astore_n 3, 1) := by decide +kernel
theorem dLW_count_13 : decode b_LW_count 13 = .ok (.iconst 1, 1) := by decide +kernel
theorem dLW_count_14 : decode b_LW_count 14 = .ok (.ireturn, 1) := by decide +kernel
theorem dLW_count_15 : decode b_LW_count 15 = .ok (.iconst 0, 1) := by decide +kernel
theorem dLW_count_16 : decode b_LW_count 16 = .ok (.ireturn, 1) := by decide +kernel
abbrev b_LW_drop : ByteArray := method_6_code
abbrev y_LW_drop : MethodName := ⟨"CodeJudgeLaw", "drop", "(LCodeJudge;I[J)I"⟩
theorem wc_LW_drop : Cond.codeWith y_LW_drop b_LW_drop 4 (some .int) [(0, 9, 12, 13)] ∈ TB := tw_2_153
theorem dLW_drop_0 : decode b_LW_drop 0 = .ok (.aload_n 2, 1) := by decide +kernel
theorem dLW_drop_1 : decode b_LW_drop 1 = .ok (.iconst 0, 1) := by decide +kernel
theorem dLW_drop_2 : decode b_LW_drop 2 = .ok (.aload_n 0, 1) := by decide +kernel
theorem dLW_drop_3 : decode b_LW_drop 3 = .ok (.iload_n 1, 1) := by decide +kernel
theorem dLW_drop_4 : decode b_LW_drop 4 = .ok (.invokevirtual 26, 3) := by decide +kernel
theorem dLW_drop_7 : decode b_LW_drop 7 = .ok (.i2l, 1) := by decide +kernel
theorem dLW_drop_8 : decode b_LW_drop 8 = .ok (.lastore, 1) := by decide +kernel
theorem dLW_drop_9 : decode b_LW_drop 9 = .ok (.goto 6, 3) := by decide +kernel
theorem dLW_drop_12 : decode b_LW_drop 12 = .ok (.astore_n 3, 1) := by decide +kernel
theorem dLW_drop_13 : decode b_LW_drop 13 = .ok (.iconst 1, 1) := by decide +kernel
theorem dLW_drop_14 : decode b_LW_drop 14 = .ok (.ireturn, 1) := by decide +kernel
theorem dLW_drop_15 : decode b_LW_drop 15 = .ok (.iconst 0, 1) := by decide +kernel
theorem dLW_drop_16 : decode b_LW_drop 16 = .ok (.ireturn, 1) := by decide +kernel
abbrev b_LW_good : ByteArray := method_7_code
abbrev y_LW_good : MethodName := ⟨"CodeJudgeLaw", "good", "(LCodeJudge;I[J)I"⟩
theorem wc_LW_good : Cond.codeWith y_LW_good b_LW_good 4 (some .int) [(0, 16, 19, 13)] ∈ TB := tw_2_164
theorem dLW_good_0 : decode b_LW_good 0 = .ok (.aload_n 2, 1) := by decide +kernel
theorem dLW_good_1 : decode b_LW_good 1 = .ok (.iconst 0, 1) := by decide +kernel
theorem dLW_good_2 : decode b_LW_good 2 = .ok (.aload_n 0, 1) := by decide +kernel
theorem dLW_good_3 : decode b_LW_good 3 = .ok (.iload_n 1, 1) := by decide +kernel
theorem dLW_good_4 : decode b_LW_good 4 = .ok (.invokevirtual 30, 3) := by decide +kernel
theorem dLW_good_7 : decode b_LW_good 7 = .ok (.ifCond .eq 7, 3) := by decide +kernel
theorem dLW_good_10 : decode b_LW_good 10 = .ok (.lconst 1, 1) := by decide +kernel
theorem dLW_good_11 : decode b_LW_good 11 = .ok (.goto 4, 3) := by decide +kernel
theorem dLW_good_14 : decode b_LW_good 14 = .ok (.lconst 0, 1) := by decide +kernel
theorem dLW_good_15 : decode b_LW_good 15 = .ok (.lastore, 1) := by decide +kernel
theorem dLW_good_16 : decode b_LW_good 16 = .ok (.goto 6, 3) := by decide +kernel
theorem dLW_good_19 : decode b_LW_good 19 = .ok (.astore_n 3, 1) := by decide +kernel
theorem dLW_good_20 : decode b_LW_good 20 = .ok (.iconst 1, 1) := by decide +kernel
theorem dLW_good_21 : decode b_LW_good 21 = .ok (.ireturn, 1) := by decide +kernel
theorem dLW_good_22 : decode b_LW_good 22 = .ok (.iconst 0, 1) := by decide +kernel
theorem dLW_good_23 : decode b_LW_good 23 = .ok (.ireturn, 1) := by decide +kernel
abbrev b_LW_height : ByteArray := method_8_code
abbrev y_LW_height : MethodName := ⟨"CodeJudgeLaw", "height", "(LCodeJudge;II[J)I"⟩
theorem wc_LW_height : Cond.codeWith y_LW_height b_LW_height 5 (some .int) [(0, 10, 13, 13), (0, 10, 17, 21)] ∈ TB := tw_3_12
theorem dLW_height_0 : decode b_LW_height 0 = .ok (.aload_n 3, 1) := by decide +kernel
theorem dLW_height_1 : decode b_LW_height 1 = .ok (.iconst 0, 1) := by decide +kernel
theorem dLW_height_2 : decode b_LW_height 2 = .ok (.aload_n 0, 1) := by decide +kernel
theorem dLW_height_3 : decode b_LW_height 3 = .ok (.iload_n 1, 1) := by decide +kernel
theorem dLW_height_4 : decode b_LW_height 4 = .ok (.iload_n 2, 1) := by decide +kernel
theorem dLW_height_5 : decode b_LW_height 5 = .ok (.invokevirtual 34, 3) := by decide +kernel
theorem dLW_height_8 : decode b_LW_height 8 = .ok (.i2l, 1) := by decide +kernel
theorem dLW_height_9 : decode b_LW_height 9 = .ok (.lastore, 1) := by decide +kernel
theorem dLW_height_10 : decode b_LW_height 10 = .ok (.goto 11, 3) := by decide +kernel
theorem dLW_height_13 : decode b_LW_height 13 = .ok (.astore 4, 2) := by decide +kernel
theorem dLW_height_15 : decode b_LW_height 15 = .ok (.iconst 1, 1) := by decide +kernel
theorem dLW_height_16 : decode b_LW_height 16 = .ok (.ireturn, 1) := by decide +kernel
theorem dLW_height_17 : decode b_LW_height 17 = .ok (.astore 4, 2) := by decide +kernel
theorem dLW_height_19 : decode b_LW_height 19 = .ok (.iconst 2, 1) := by decide +kernel
theorem dLW_height_20 : decode b_LW_height 20 = .ok (.ireturn, 1) := by decide +kernel
theorem dLW_height_21 : decode b_LW_height 21 = .ok (.iconst 0, 1) := by decide +kernel
theorem dLW_height_22 : decode b_LW_height 22 = .ok (.ireturn, 1) := by decide +kernel
abbrev b_LW_method : ByteArray := method_3_code
abbrev y_LW_method : MethodName := ⟨"CodeJudgeLaw", "method", "(LCodeJudge;IIIIII[J)I"⟩
theorem wc_LW_method : Cond.codeWith y_LW_method b_LW_method 9 (some .int) [(0, 25, 28, 13), (0, 25, 32, 15)] ∈ TB := tw_1_239
theorem dLW_method_0 : decode b_LW_method 0 = .ok (.aload 7, 2) := by decide +kernel
theorem dLW_method_2 : decode b_LW_method 2 = .ok (.iconst 0, 1) := by decide +kernel
theorem dLW_method_3 : decode b_LW_method 3 = .ok (.aload_n 0, 1) := by decide +kernel
theorem dLW_method_4 : decode b_LW_method 4 = .ok (.iload_n 1, 1) := by decide +kernel
theorem dLW_method_5 : decode b_LW_method 5 = .ok (.iload_n 2, 1) := by decide +kernel
theorem dLW_method_6 : decode b_LW_method 6 = .ok (.iload_n 3, 1) := by decide +kernel
theorem dLW_method_7 : decode b_LW_method 7 = .ok (.iload 4, 2) := by decide +kernel
theorem dLW_method_9 : decode b_LW_method 9 = .ok (.iload 5, 2) := by decide +kernel
theorem dLW_method_11 : decode b_LW_method 11 = .ok (.iload 6, 2) := by decide +kernel
theorem dLW_method_13 : decode b_LW_method 13 = .ok (.invokevirtual 7, 3) := by decide +kernel
theorem dLW_method_16 : decode b_LW_method 16 = .ok (.ifCond .eq 7, 3) := by decide +kernel
theorem dLW_method_19 : decode b_LW_method 19 = .ok (.lconst 1, 1) := by decide +kernel
theorem dLW_method_20 : decode b_LW_method 20 = .ok (.goto 4, 3) := by decide +kernel
theorem dLW_method_23 : decode b_LW_method 23 = .ok (.lconst 0, 1) := by decide +kernel
theorem dLW_method_24 : decode b_LW_method 24 = .ok (.lastore, 1) := by decide +kernel
theorem dLW_method_25 : decode b_LW_method 25 = .ok (.goto 11, 3) := by decide +kernel
theorem dLW_method_28 : decode b_LW_method 28 = .ok (.astore 8, 2) := by decide +kernel
theorem dLW_method_30 : decode b_LW_method 30 = .ok (.iconst 1, 1) := by decide +kernel
theorem dLW_method_31 : decode b_LW_method 31 = .ok (.ireturn, 1) := by decide +kernel
theorem dLW_method_32 : decode b_LW_method 32 = .ok (.astore 8, 2) := by decide +kernel
theorem dLW_method_34 : decode b_LW_method 34 = .ok (.iconst 2, 1) := by decide +kernel
theorem dLW_method_35 : decode b_LW_method 35 = .ok (.ireturn, 1) := by decide +kernel
theorem dLW_method_36 : decode b_LW_method 36 = .ok (.iconst 0, 1) := by decide +kernel
theorem dLW_method_37 : decode b_LW_method 37 = .ok (.ireturn, 1) := by decide +kernel
abbrev b_LW_output : ByteArray := method_15_code
abbrev y_LW_output : MethodName := ⟨"CodeJudgeLaw", "output", "(LCodeJudge;I[J)I"⟩
theorem wc_LW_output : Cond.codeWith y_LW_output b_LW_output 4 (some .int) [(0, 9, 12, 13)] ∈ TB := tw_4_34
theorem dLW_output_0 : decode b_LW_output 0 = .ok (.aload_n 2, 1) := by decide +kernel
theorem dLW_output_1 : decode b_LW_output 1 = .ok (.iconst 0, 1) := by decide +kernel
theorem dLW_output_2 : decode b_LW_output 2 = .ok (.aload_n 0, 1) := by decide +kernel
theorem dLW_output_3 : decode b_LW_output 3 = .ok (.iload_n 1, 1) := by decide +kernel
theorem dLW_output_4 : decode b_LW_output 4 = .ok (.invokevirtual 58, 3) := by decide +kernel
theorem dLW_output_7 : decode b_LW_output 7 = .ok (.i2l, 1) := by decide +kernel
theorem dLW_output_8 : decode b_LW_output 8 = .ok (.lastore, 1) := by decide +kernel
theorem dLW_output_9 : decode b_LW_output 9 = .ok (.goto 6, 3) := by decide +kernel
theorem dLW_output_12 : decode b_LW_output 12 = .ok (.astore_n 3, 1) := by decide +kernel
theorem dLW_output_13 : decode b_LW_output 13 = .ok (.iconst 1, 1) := by decide +kernel
theorem dLW_output_14 : decode b_LW_output 14 = .ok (.ireturn, 1) := by decide +kernel
theorem dLW_output_15 : decode b_LW_output 15 = .ok (.iconst 0, 1) := by decide +kernel
theorem dLW_output_16 : decode b_LW_output 16 = .ok (.ireturn, 1) := by decide +kernel
abbrev b_LW_patch : ByteArray := method_5_code
abbrev y_LW_patch : MethodName := ⟨"CodeJudgeLaw", "patch", "(LCodeJudge;III[J)I"⟩
theorem wc_LW_patch : Cond.codeWith y_LW_patch b_LW_patch 6 (some .int) [(0, 12, 15, 13)] ∈ TB := tw_2_128
theorem dLW_patch_0 : decode b_LW_patch 0 = .ok (.aload 4, 2) := by decide +kernel
theorem dLW_patch_2 : decode b_LW_patch 2 = .ok (.iconst 0, 1) := by decide +kernel
theorem dLW_patch_3 : decode b_LW_patch 3 = .ok (.aload_n 0, 1) := by decide +kernel
theorem dLW_patch_4 : decode b_LW_patch 4 = .ok (.iload_n 1, 1) := by decide +kernel
theorem dLW_patch_5 : decode b_LW_patch 5 = .ok (.iload_n 2, 1) := by decide +kernel
theorem dLW_patch_6 : decode b_LW_patch 6 = .ok (.iload_n 3, 1) := by decide +kernel
theorem dLW_patch_7 : decode b_LW_patch 7 = .ok (.invokevirtual 23, 3) := by decide +kernel
theorem dLW_patch_10 : decode b_LW_patch 10 = .ok (.i2l, 1) := by decide +kernel
theorem dLW_patch_11 : decode b_LW_patch 11 = .ok (.lastore, 1) := by decide +kernel
theorem dLW_patch_12 : decode b_LW_patch 12 = .ok (.goto 7, 3) := by decide +kernel
theorem dLW_patch_15 : decode b_LW_patch 15 = .ok (.astore 5, 2) := by decide +kernel
theorem dLW_patch_17 : decode b_LW_patch 17 = .ok (.iconst 1, 1) := by decide +kernel
theorem dLW_patch_18 : decode b_LW_patch 18 = .ok (.ireturn, 1) := by decide +kernel
theorem dLW_patch_19 : decode b_LW_patch 19 = .ok (.iconst 0, 1) := by decide +kernel
theorem dLW_patch_20 : decode b_LW_patch 20 = .ok (.ireturn, 1) := by decide +kernel
abbrev b_LW_run : ByteArray := method_11_code
abbrev y_LW_run : MethodName := ⟨"CodeJudgeLaw", "run", "(LCodeJudge;I[J)I"⟩
theorem wc_LW_run : Cond.codeWith y_LW_run b_LW_run 4 (some .int) [(0, 9, 12, 15), (0, 9, 15, 21)] ∈ TB := tw_3_103
theorem dLW_run_0 : decode b_LW_run 0 = .ok (.aload_n 2, 1) := by decide +kernel
theorem dLW_run_1 : decode b_LW_run 1 = .ok (.iconst 0, 1) := by decide +kernel
theorem dLW_run_2 : decode b_LW_run 2 = .ok (.aload_n 0, 1) := by decide +kernel
theorem dLW_run_3 : decode b_LW_run 3 = .ok (.iload_n 1, 1) := by decide +kernel
theorem dLW_run_4 : decode b_LW_run 4 = .ok (.invokevirtual 46, 3) := by decide +kernel
theorem dLW_run_7 : decode b_LW_run 7 = .ok (.i2l, 1) := by decide +kernel
theorem dLW_run_8 : decode b_LW_run 8 = .ok (.lastore, 1) := by decide +kernel
theorem dLW_run_9 : decode b_LW_run 9 = .ok (.goto 9, 3) := by decide +kernel
theorem dLW_run_12 : decode b_LW_run 12 = .ok (.astore_n 3, 1) := by decide +kernel
theorem dLW_run_13 : decode b_LW_run 13 = .ok (.iconst 1, 1) := by decide +kernel
theorem dLW_run_14 : decode b_LW_run 14 = .ok (.ireturn, 1) := by decide +kernel
theorem dLW_run_15 : decode b_LW_run 15 = .ok (.astore_n 3, 1) := by decide +kernel
theorem dLW_run_16 : decode b_LW_run 16 = .ok (.iconst 2, 1) := by decide +kernel
theorem dLW_run_17 : decode b_LW_run 17 = .ok (.ireturn, 1) := by decide +kernel
theorem dLW_run_18 : decode b_LW_run 18 = .ok (.iconst 0, 1) := by decide +kernel
theorem dLW_run_19 : decode b_LW_run 19 = .ok (.ireturn, 1) := by decide +kernel
abbrev b_LW_start : ByteArray := method_10_code
abbrev y_LW_start : MethodName := ⟨"CodeJudgeLaw", "start", "(LCodeJudge;IIIII)I"⟩
theorem wc_LW_start : Cond.codeWith y_LW_start b_LW_start 7 (some .int) [(0, 11, 14, 13), (0, 11, 18, 15), (0, 11, 22, 21)] ∈ TB := tw_3_43
theorem dLW_start_0 : decode b_LW_start 0 = .ok (.aload_n 0, 1) := by decide +kernel
theorem dLW_start_1 : decode b_LW_start 1 = .ok (.iload_n 1, 1) := by decide +kernel
theorem dLW_start_2 : decode b_LW_start 2 = .ok (.iload_n 2, 1) := by decide +kernel
theorem dLW_start_3 : decode b_LW_start 3 = .ok (.iload_n 3, 1) := by decide +kernel
theorem dLW_start_4 : decode b_LW_start 4 = .ok (.iload 4, 2) := by decide +kernel
theorem dLW_start_6 : decode b_LW_start 6 = .ok (.iload 5, 2) := by decide +kernel
theorem dLW_start_8 : decode b_LW_start 8 = .ok (.invokevirtual 42, 3) := by decide +kernel
theorem dLW_start_11 : decode b_LW_start 11 = .ok (.goto 15, 3) := by decide +kernel
theorem dLW_start_14 : decode b_LW_start 14 = .ok (.astore 6, 2) := by decide +kernel
theorem dLW_start_16 : decode b_LW_start 16 = .ok (.iconst 1, 1) := by decide +kernel
theorem dLW_start_17 : decode b_LW_start 17 = .ok (.ireturn, 1) := by decide +kernel
theorem dLW_start_18 : decode b_LW_start 18 = .ok (.astore 6, 2) := by decide +kernel
theorem dLW_start_20 : decode b_LW_start 20 = .ok (.iconst 2, 1) := by decide +kernel
theorem dLW_start_21 : decode b_LW_start 21 = .ok (.ireturn, 1) := by decide +kernel
theorem dLW_start_22 : decode b_LW_start 22 = .ok (.astore 6, 2) := by decide +kernel
theorem dLW_start_24 : decode b_LW_start 24 = .ok (.iconst 3, 1) := by decide +kernel
theorem dLW_start_25 : decode b_LW_start 25 = .ok (.ireturn, 1) := by decide +kernel
theorem dLW_start_26 : decode b_LW_start 26 = .ok (.iconst 0, 1) := by decide +kernel
theorem dLW_start_27 : decode b_LW_start 27 = .ok (.ireturn, 1) := by decide +kernel
abbrev b_LW_state : ByteArray := method_12_code
abbrev y_LW_state : MethodName := ⟨"CodeJudgeLaw", "state", "(LCodeJudge;I[J)I"⟩
theorem wc_LW_state : Cond.codeWith y_LW_state b_LW_state 4 (some .int) [(0, 9, 12, 15), (0, 9, 15, 21)] ∈ TB := tw_4_1
theorem dLW_state_0 : decode b_LW_state 0 = .ok (.aload_n 2, 1) := by decide +kernel
theorem dLW_state_1 : decode b_LW_state 1 = .ok (.iconst 0, 1) := by decide +kernel
theorem dLW_state_2 : decode b_LW_state 2 = .ok (.aload_n 0, 1) := by decide +kernel
theorem dLW_state_3 : decode b_LW_state 3 = .ok (.iload_n 1, 1) := by decide +kernel
theorem dLW_state_4 : decode b_LW_state 4 = .ok (.invokevirtual 49, 3) := by decide +kernel
theorem dLW_state_7 : decode b_LW_state 7 = .ok (.i2l, 1) := by decide +kernel
theorem dLW_state_8 : decode b_LW_state 8 = .ok (.lastore, 1) := by decide +kernel
theorem dLW_state_9 : decode b_LW_state 9 = .ok (.goto 9, 3) := by decide +kernel
theorem dLW_state_12 : decode b_LW_state 12 = .ok (.astore_n 3, 1) := by decide +kernel
theorem dLW_state_13 : decode b_LW_state 13 = .ok (.iconst 1, 1) := by decide +kernel
theorem dLW_state_14 : decode b_LW_state 14 = .ok (.ireturn, 1) := by decide +kernel
theorem dLW_state_15 : decode b_LW_state 15 = .ok (.astore_n 3, 1) := by decide +kernel
theorem dLW_state_16 : decode b_LW_state 16 = .ok (.iconst 2, 1) := by decide +kernel
theorem dLW_state_17 : decode b_LW_state 17 = .ok (.ireturn, 1) := by decide +kernel
theorem dLW_state_18 : decode b_LW_state 18 = .ok (.iconst 0, 1) := by decide +kernel
theorem dLW_state_19 : decode b_LW_state 19 = .ok (.ireturn, 1) := by decide +kernel
abbrev b_LW_type : ByteArray := method_9_code
abbrev y_LW_type : MethodName := ⟨"CodeJudgeLaw", "type", "(LCodeJudge;IIII[J)I"⟩
theorem wc_LW_type : Cond.codeWith y_LW_type b_LW_type 7 (some .int) [(0, 14, 17, 13), (0, 14, 21, 21)] ∈ TB := tw_3_27
theorem dLW_type_0 : decode b_LW_type 0 = .ok (.aload 5, 2) := by decide +kernel
theorem dLW_type_2 : decode b_LW_type 2 = .ok (.iconst 0, 1) := by decide +kernel
theorem dLW_type_3 : decode b_LW_type 3 = .ok (.aload_n 0, 1) := by decide +kernel
theorem dLW_type_4 : decode b_LW_type 4 = .ok (.iload_n 1, 1) := by decide +kernel
theorem dLW_type_5 : decode b_LW_type 5 = .ok (.iload_n 2, 1) := by decide +kernel
theorem dLW_type_6 : decode b_LW_type 6 = .ok (.iload_n 3, 1) := by decide +kernel
theorem dLW_type_7 : decode b_LW_type 7 = .ok (.iload 4, 2) := by decide +kernel
theorem dLW_type_9 : decode b_LW_type 9 = .ok (.invokevirtual 38, 3) := by decide +kernel
theorem dLW_type_12 : decode b_LW_type 12 = .ok (.i2l, 1) := by decide +kernel
theorem dLW_type_13 : decode b_LW_type 13 = .ok (.lastore, 1) := by decide +kernel
theorem dLW_type_14 : decode b_LW_type 14 = .ok (.goto 11, 3) := by decide +kernel
theorem dLW_type_17 : decode b_LW_type 17 = .ok (.astore 6, 2) := by decide +kernel
theorem dLW_type_19 : decode b_LW_type 19 = .ok (.iconst 1, 1) := by decide +kernel
theorem dLW_type_20 : decode b_LW_type 20 = .ok (.ireturn, 1) := by decide +kernel
theorem dLW_type_21 : decode b_LW_type 21 = .ok (.astore 6, 2) := by decide +kernel
theorem dLW_type_23 : decode b_LW_type 23 = .ok (.iconst 2, 1) := by decide +kernel
theorem dLW_type_24 : decode b_LW_type 24 = .ok (.ireturn, 1) := by decide +kernel
theorem dLW_type_25 : decode b_LW_type 25 = .ok (.iconst 0, 1) := by decide +kernel
theorem dLW_type_26 : decode b_LW_type 26 = .ok (.ireturn, 1) := by decide +kernel
abbrev b_LW_value : ByteArray := method_13_code
abbrev y_LW_value : MethodName := ⟨"CodeJudgeLaw", "value", "(LCodeJudge;II[J)I"⟩
theorem wc_LW_value : Cond.codeWith y_LW_value b_LW_value 5 (some .int) [(0, 10, 13, 13)] ∈ TB := tw_4_12
theorem dLW_value_0 : decode b_LW_value 0 = .ok (.aload_n 3, 1) := by decide +kernel
theorem dLW_value_1 : decode b_LW_value 1 = .ok (.iconst 0, 1) := by decide +kernel
theorem dLW_value_2 : decode b_LW_value 2 = .ok (.aload_n 0, 1) := by decide +kernel
theorem dLW_value_3 : decode b_LW_value 3 = .ok (.iload_n 1, 1) := by decide +kernel
theorem dLW_value_4 : decode b_LW_value 4 = .ok (.iload_n 2, 1) := by decide +kernel
theorem dLW_value_5 : decode b_LW_value 5 = .ok (.invokevirtual 52, 3) := by decide +kernel
theorem dLW_value_8 : decode b_LW_value 8 = .ok (.i2l, 1) := by decide +kernel
theorem dLW_value_9 : decode b_LW_value 9 = .ok (.lastore, 1) := by decide +kernel
theorem dLW_value_10 : decode b_LW_value 10 = .ok (.goto 7, 3) := by decide +kernel
theorem dLW_value_13 : decode b_LW_value 13 = .ok (.astore 4, 2) := by decide +kernel
theorem dLW_value_15 : decode b_LW_value 15 = .ok (.iconst 1, 1) := by decide +kernel
theorem dLW_value_16 : decode b_LW_value 16 = .ok (.ireturn, 1) := by decide +kernel
theorem dLW_value_17 : decode b_LW_value 17 = .ok (.iconst 0, 1) := by decide +kernel
theorem dLW_value_18 : decode b_LW_value 18 = .ok (.ireturn, 1) := by decide +kernel
