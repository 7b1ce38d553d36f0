theorem dCJ_add_0 : decode b_CJ_add 0 = .ok (.aload_n 0, 1) := by decide +kernel
theorem dCJ_add_1 : decode b_CJ_add 1 = .ok (.iload_n 1, 1) := by decide +kernel
theorem dCJ_add_2 : decode b_CJ_add 2 = .ok (.invokevirtual 51, 3) := by decide +kernel
theorem dCJ_add_5 : decode b_CJ_add 5 = .ok (.astore 4, 2) := by decide +kernel
theorem dCJ_add_7 : decode b_CJ_add 7 = .ok (.iload_n 2, 1) := by decide +kernel
theorem dCJ_add_8 : decode b_CJ_add 8 = .ok (.bipush 26, 2) := by decide +kernel
theorem dCJ_add_10 : decode b_CJ_add 10 = .ok (.invokestatic 30, 3) := by decide +kernel
theorem dCJ_add_13 : decode b_CJ_add 13 = .ok (.ifCond .ne 11, 3) := by decide +kernel
theorem dCJ_add_16 : decode b_CJ_add 16 = .ok (.new 37, 3) := by decide +kernel
theorem dCJ_add_19 : decode b_CJ_add 19 = .ok (.dup, 1) := by decide +kernel
theorem dCJ_add_20 : decode b_CJ_add 20 = .ok (.invokespecial 39, 3) := by decide +kernel
theorem dCJ_add_23 : decode b_CJ_add 23 = .ok (.athrow, 1) := by decide +kernel
theorem dCJ_add_24 : decode b_CJ_add 24 = .ok (.aload 4, 2) := by decide +kernel
theorem dCJ_add_26 : decode b_CJ_add 26 = .ok (.getfield 57, 3) := by decide +kernel
theorem dCJ_add_29 : decode b_CJ_add 29 = .ok (.bipush 120, 2) := by decide +kernel
theorem dCJ_add_31 : decode b_CJ_add 31 = .ok (.if_icmp .lt 11, 3) := by decide +kernel
theorem dCJ_add_34 : decode b_CJ_add 34 = .ok (.new 61, 3) := by decide +kernel
theorem dCJ_add_37 : decode b_CJ_add 37 = .ok (.dup, 1) := by decide +kernel
theorem dCJ_add_38 : decode b_CJ_add 38 = .ok (.invokespecial 63, 3) := by decide +kernel
theorem dCJ_add_41 : decode b_CJ_add 41 = .ok (.athrow, 1) := by decide +kernel
theorem dCJ_add_42 : decode b_CJ_add 42 = .ok (.aload 4, 2) := by decide +kernel
theorem dCJ_add_44 : decode b_CJ_add 44 = .ok (.iload_n 2, 1) := by decide +kernel
theorem dCJ_add_45 : decode b_CJ_add 45 = .ok (.iload_n 3, 1) := by decide +kernel
theorem dCJ_add_46 : decode b_CJ_add 46 = .ok (.invokevirtual 64, 3) := by decide +kernel
theorem dCJ_add_49 : decode b_CJ_add 49 = .ok (.aload_n 0, 1) := by decide +kernel
theorem dCJ_add_50 : decode b_CJ_add 50 = .ok (.getfield 26, 3) := by decide +kernel
theorem dCJ_add_53 : decode b_CJ_add 53 = .ok (.invokevirtual 48, 3) := by decide +kernel
theorem dCJ_add_56 : decode b_CJ_add 56 = .ok (.aload 4, 2) := by decide +kernel
theorem dCJ_add_58 : decode b_CJ_add 58 = .ok (.getfield 57, 3) := by decide +kernel
theorem dCJ_add_61 : decode b_CJ_add 61 = .ok (.ireturn, 1) := by decide +kernel
theorem dCJ_areGoodFrom_0 : decode b_CJ_areGoodFrom 0 = .ok (.iconst 1, 1) := by decide +kernel
theorem dCJ_areGoodFrom_1 : decode b_CJ_areGoodFrom 1 = .ok (.iload_n 1, 1) := by decide +kernel
theorem dCJ_areGoodFrom_2 : decode b_CJ_areGoodFrom 2 = .ok (.ishl, 1) := by decide +kernel
theorem dCJ_areGoodFrom_3 : decode b_CJ_areGoodFrom 3 = .ok (.istore_n 2, 1) := by decide +kernel
theorem dCJ_areGoodFrom_4 : decode b_CJ_areGoodFrom 4 = .ok (.iconst 0, 1) := by decide +kernel
theorem dCJ_areGoodFrom_5 : decode b_CJ_areGoodFrom 5 = .ok (.istore_n 3, 1) := by decide +kernel
theorem dCJ_areGoodFrom_6 : decode b_CJ_areGoodFrom 6 = .ok (.iconst 0, 1) := by decide +kernel
theorem dCJ_areGoodFrom_7 : decode b_CJ_areGoodFrom 7 = .ok (.istore 4, 2) := by decide +kernel
theorem dCJ_areGoodFrom_9 : decode b_CJ_areGoodFrom 9 = .ok (.iload 4, 2) := by decide +kernel
theorem dCJ_areGoodFrom_11 : decode b_CJ_areGoodFrom 11 = .ok (.bipush 8, 2) := by decide +kernel
theorem dCJ_areGoodFrom_13 : decode b_CJ_areGoodFrom 13 = .ok (.if_icmp .ge 81, 3) := by decide +kernel
theorem dCJ_areGoodFrom_16 : decode b_CJ_areGoodFrom 16 = .ok (.iload_n 2, 1) := by decide +kernel
theorem dCJ_areGoodFrom_17 : decode b_CJ_areGoodFrom 17 = .ok (.iload_n 3, 1) := by decide +kernel
theorem dCJ_areGoodFrom_18 : decode b_CJ_areGoodFrom 18 = .ok (.if_icmp .eq 76, 3) := by decide +kernel
theorem dCJ_areGoodFrom_21 : decode b_CJ_areGoodFrom 21 = .ok (.iload_n 2, 1) := by decide +kernel
theorem dCJ_areGoodFrom_22 : decode b_CJ_areGoodFrom 22 = .ok (.iload_n 3, 1) := by decide +kernel
theorem dCJ_areGoodFrom_23 : decode b_CJ_areGoodFrom 23 = .ok (.iconst (-1), 1) := by decide +kernel
theorem dCJ_areGoodFrom_24 : decode b_CJ_areGoodFrom 24 = .ok (.ixor, 1) := by decide +kernel
theorem dCJ_areGoodFrom_25 : decode b_CJ_areGoodFrom 25 = .ok (.iand, 1) := by decide +kernel
theorem dCJ_areGoodFrom_26 : decode b_CJ_areGoodFrom 26 = .ok (.invokestatic 185, 3) := by decide +kernel
theorem dCJ_areGoodFrom_29 : decode b_CJ_areGoodFrom 29 = .ok (.istore 5, 2) := by decide +kernel
theorem dCJ_areGoodFrom_31 : decode b_CJ_areGoodFrom 31 = .ok (.iload 5, 2) := by decide +kernel
theorem dCJ_areGoodFrom_33 : decode b_CJ_areGoodFrom 33 = .ok (.bipush 8, 2) := by decide +kernel
theorem dCJ_areGoodFrom_35 : decode b_CJ_areGoodFrom 35 = .ok (.invokestatic 30, 3) := by decide +kernel
theorem dCJ_areGoodFrom_38 : decode b_CJ_areGoodFrom 38 = .ok (.ifCond .eq 24, 3) := by decide +kernel
theorem dCJ_areGoodFrom_41 : decode b_CJ_areGoodFrom 41 = .ok (.aload_n 0, 1) := by decide +kernel
theorem dCJ_areGoodFrom_42 : decode b_CJ_areGoodFrom 42 = .ok (.getfield 19, 3) := by decide +kernel
theorem dCJ_areGoodFrom_45 : decode b_CJ_areGoodFrom 45 = .ok (.aload_n 0, 1) := by decide +kernel
theorem dCJ_areGoodFrom_46 : decode b_CJ_areGoodFrom 46 = .ok (.getfield 11, 3) := by decide +kernel
theorem dCJ_areGoodFrom_49 : decode b_CJ_areGoodFrom 49 = .ok (.aload_n 0, 1) := by decide +kernel
theorem dCJ_areGoodFrom_50 : decode b_CJ_areGoodFrom 50 = .ok (.getfield 11, 3) := by decide +kernel
theorem dCJ_areGoodFrom_53 : decode b_CJ_areGoodFrom 53 = .ok (.iload 5, 2) := by decide +kernel
theorem dCJ_areGoodFrom_55 : decode b_CJ_areGoodFrom 55 = .ok (.aaload, 1) := by decide +kernel
theorem dCJ_areGoodFrom_56 : decode b_CJ_areGoodFrom 56 = .ok (.invokevirtual 82, 3) := by decide +kernel
theorem dCJ_areGoodFrom_59 : decode b_CJ_areGoodFrom 59 = .ok (.ifCond .ne 5, 3) := by decide +kernel
theorem dCJ_areGoodFrom_62 : decode b_CJ_areGoodFrom 62 = .ok (.iconst 0, 1) := by decide +kernel
theorem dCJ_areGoodFrom_63 : decode b_CJ_areGoodFrom 63 = .ok (.ireturn, 1) := by decide +kernel
theorem dCJ_areGoodFrom_64 : decode b_CJ_areGoodFrom 64 = .ok (.iload_n 3, 1) := by decide +kernel
theorem dCJ_areGoodFrom_65 : decode b_CJ_areGoodFrom 65 = .ok (.iconst 1, 1) := by decide +kernel
theorem dCJ_areGoodFrom_66 : decode b_CJ_areGoodFrom 66 = .ok (.iload 5, 2) := by decide +kernel
theorem dCJ_areGoodFrom_68 : decode b_CJ_areGoodFrom 68 = .ok (.ishl, 1) := by decide +kernel
theorem dCJ_areGoodFrom_69 : decode b_CJ_areGoodFrom 69 = .ok (.ior, 1) := by decide +kernel
theorem dCJ_areGoodFrom_70 : decode b_CJ_areGoodFrom 70 = .ok (.istore_n 3, 1) := by decide +kernel
theorem dCJ_areGoodFrom_71 : decode b_CJ_areGoodFrom 71 = .ok (.iload_n 2, 1) := by decide +kernel
theorem dCJ_areGoodFrom_72 : decode b_CJ_areGoodFrom 72 = .ok (.aload_n 0, 1) := by decide +kernel
theorem dCJ_areGoodFrom_73 : decode b_CJ_areGoodFrom 73 = .ok (.getfield 19, 3) := by decide +kernel
theorem dCJ_areGoodFrom_76 : decode b_CJ_areGoodFrom 76 = .ok (.aload_n 0, 1) := by decide +kernel
theorem dCJ_areGoodFrom_77 : decode b_CJ_areGoodFrom 77 = .ok (.getfield 11, 3) := by decide +kernel
theorem dCJ_areGoodFrom_80 : decode b_CJ_areGoodFrom 80 = .ok (.iload 5, 2) := by decide +kernel
theorem dCJ_areGoodFrom_82 : decode b_CJ_areGoodFrom 82 = .ok (.aaload, 1) := by decide +kernel
theorem dCJ_areGoodFrom_83 : decode b_CJ_areGoodFrom 83 = .ok (.invokevirtual 190, 3) := by decide +kernel
theorem dCJ_areGoodFrom_86 : decode b_CJ_areGoodFrom 86 = .ok (.ior, 1) := by decide +kernel
theorem dCJ_areGoodFrom_87 : decode b_CJ_areGoodFrom 87 = .ok (.istore_n 2, 1) := by decide +kernel
theorem dCJ_areGoodFrom_88 : decode b_CJ_areGoodFrom 88 = .ok (.iinc 4 1, 3) := by decide +kernel
theorem dCJ_areGoodFrom_91 : decode b_CJ_areGoodFrom 91 = .ok (.goto (-82), 3) := by decide +kernel
theorem dCJ_areGoodFrom_94 : decode b_CJ_areGoodFrom 94 = .ok (.iconst 1, 1) := by decide +kernel
theorem dCJ_areGoodFrom_95 : decode b_CJ_areGoodFrom 95 = .ok (.ireturn, 1) := by decide +kernel
theorem dCJ_cell_0 : decode b_CJ_cell 0 = .ok (.aload_n 0, 1) := by decide +kernel
theorem dCJ_cell_1 : decode b_CJ_cell 1 = .ok (.getfield 26, 3) := by decide +kernel
theorem dCJ_cell_4 : decode b_CJ_cell 4 = .ok (.getfield 128, 3) := by decide +kernel
theorem dCJ_cell_7 : decode b_CJ_cell 7 = .ok (.ifCond .eq 17, 3) := by decide +kernel
theorem dCJ_cell_10 : decode b_CJ_cell 10 = .ok (.aload_n 0, 1) := by decide +kernel
theorem dCJ_cell_11 : decode b_CJ_cell 11 = .ok (.getfield 26, 3) := by decide +kernel
theorem dCJ_cell_14 : decode b_CJ_cell 14 = .ok (.getfield 151, 3) := by decide +kernel
theorem dCJ_cell_17 : decode b_CJ_cell 17 = .ok (.iload_n 1, 1) := by decide +kernel
theorem dCJ_cell_18 : decode b_CJ_cell 18 = .ok (.invokevirtual 155, 3) := by decide +kernel
theorem dCJ_cell_21 : decode b_CJ_cell 21 = .ok (.ifCond .ne 11, 3) := by decide +kernel
theorem dCJ_cell_24 : decode b_CJ_cell 24 = .ok (.new 34, 3) := by decide +kernel
theorem dCJ_cell_27 : decode b_CJ_cell 27 = .ok (.dup, 1) := by decide +kernel
theorem dCJ_cell_28 : decode b_CJ_cell 28 = .ok (.invokespecial 36, 3) := by decide +kernel
theorem dCJ_cell_31 : decode b_CJ_cell 31 = .ok (.athrow, 1) := by decide +kernel
theorem dCJ_cell_32 : decode b_CJ_cell 32 = .ok (.iload_n 2, 1) := by decide +kernel
theorem dCJ_cell_33 : decode b_CJ_cell 33 = .ok (.iconst (-1), 1) := by decide +kernel
theorem dCJ_cell_34 : decode b_CJ_cell 34 = .ok (.if_icmp .ne 15, 3) := by decide +kernel
theorem dCJ_cell_37 : decode b_CJ_cell 37 = .ok (.aload_n 0, 1) := by decide +kernel
theorem dCJ_cell_38 : decode b_CJ_cell 38 = .ok (.getfield 26, 3) := by decide +kernel
theorem dCJ_cell_41 : decode b_CJ_cell 41 = .ok (.getfield 151, 3) := by decide +kernel
theorem dCJ_cell_44 : decode b_CJ_cell 44 = .ok (.iload_n 1, 1) := by decide +kernel
theorem dCJ_cell_45 : decode b_CJ_cell 45 = .ok (.invokevirtual 160, 3) := by decide +kernel
theorem dCJ_cell_48 : decode b_CJ_cell 48 = .ok (.ireturn, 1) := by decide +kernel
theorem dCJ_cell_49 : decode b_CJ_cell 49 = .ok (.aload_n 0, 1) := by decide +kernel
theorem dCJ_cell_50 : decode b_CJ_cell 50 = .ok (.getfield 26, 3) := by decide +kernel
theorem dCJ_cell_53 : decode b_CJ_cell 53 = .ok (.getfield 151, 3) := by decide +kernel
theorem dCJ_cell_56 : decode b_CJ_cell 56 = .ok (.iload_n 1, 1) := by decide +kernel
theorem dCJ_cell_57 : decode b_CJ_cell 57 = .ok (.iload_n 2, 1) := by decide +kernel
theorem dCJ_cell_58 : decode b_CJ_cell 58 = .ok (.invokevirtual 163, 3) := by decide +kernel
theorem dCJ_cell_61 : decode b_CJ_cell 61 = .ok (.ifCond .ne 11, 3) := by decide +kernel
theorem dCJ_cell_64 : decode b_CJ_cell 64 = .ok (.new 34, 3) := by decide +kernel
theorem dCJ_cell_67 : decode b_CJ_cell 67 = .ok (.dup, 1) := by decide +kernel
theorem dCJ_cell_68 : decode b_CJ_cell 68 = .ok (.invokespecial 36, 3) := by decide +kernel
theorem dCJ_cell_71 : decode b_CJ_cell 71 = .ok (.athrow, 1) := by decide +kernel
theorem dCJ_cell_72 : decode b_CJ_cell 72 = .ok (.aload_n 0, 1) := by decide +kernel
theorem dCJ_cell_73 : decode b_CJ_cell 73 = .ok (.getfield 26, 3) := by decide +kernel
theorem dCJ_cell_76 : decode b_CJ_cell 76 = .ok (.getfield 151, 3) := by decide +kernel
theorem dCJ_cell_79 : decode b_CJ_cell 79 = .ok (.iload_n 1, 1) := by decide +kernel
theorem dCJ_cell_80 : decode b_CJ_cell 80 = .ok (.iload_n 2, 1) := by decide +kernel
theorem dCJ_cell_81 : decode b_CJ_cell 81 = .ok (.invokevirtual 166, 3) := by decide +kernel
theorem dCJ_cell_84 : decode b_CJ_cell 84 = .ok (.ireturn, 1) := by decide +kernel
theorem dCJ_cellsFit_0 : decode b_CJ_cellsFit 0 = .ok (.aload_n 0, 1) := by decide +kernel
theorem dCJ_cellsFit_1 : decode b_CJ_cellsFit 1 = .ok (.iload_n 1, 1) := by decide +kernel
theorem dCJ_cellsFit_2 : decode b_CJ_cellsFit 2 = .ok (.invokevirtual 194, 3) := by decide +kernel
theorem dCJ_cellsFit_5 : decode b_CJ_cellsFit 5 = .ok (.ifCond .eq 13, 3) := by decide +kernel
theorem dCJ_cellsFit_8 : decode b_CJ_cellsFit 8 = .ok (.iload_n 2, 1) := by decide +kernel
theorem dCJ_cellsFit_9 : decode b_CJ_cellsFit 9 = .ok (.sipush 401, 3) := by decide +kernel
theorem dCJ_cellsFit_12 : decode b_CJ_cellsFit 12 = .ok (.invokestatic 30, 3) := by decide +kernel
theorem dCJ_cellsFit_15 : decode b_CJ_cellsFit 15 = .ok (.ifCond .eq 7, 3) := by decide +kernel
theorem dCJ_cellsFit_18 : decode b_CJ_cellsFit 18 = .ok (.iconst 1, 1) := by decide +kernel
theorem dCJ_cellsFit_19 : decode b_CJ_cellsFit 19 = .ok (.goto 4, 3) := by decide +kernel
theorem dCJ_cellsFit_22 : decode b_CJ_cellsFit 22 = .ok (.iconst 0, 1) := by decide +kernel
theorem dCJ_cellsFit_23 : decode b_CJ_cellsFit 23 = .ok (.ireturn, 1) := by decide +kernel
theorem dCJ_count_0 : decode b_CJ_count 0 = .ok (.iload_n 1, 1) := by decide +kernel
theorem dCJ_count_1 : decode b_CJ_count 1 = .ok (.iconst 3, 1) := by decide +kernel
theorem dCJ_count_2 : decode b_CJ_count 2 = .ok (.invokestatic 30, 3) := by decide +kernel
theorem dCJ_count_5 : decode b_CJ_count 5 = .ok (.ifCond .ne 11, 3) := by decide +kernel
theorem dCJ_count_8 : decode b_CJ_count 8 = .ok (.new 37, 3) := by decide +kernel
theorem dCJ_count_11 : decode b_CJ_count 11 = .ok (.dup, 1) := by decide +kernel
theorem dCJ_count_12 : decode b_CJ_count 12 = .ok (.invokespecial 39, 3) := by decide +kernel
theorem dCJ_count_15 : decode b_CJ_count 15 = .ok (.athrow, 1) := by decide +kernel
theorem dCJ_count_16 : decode b_CJ_count 16 = .ok (.iconst 0, 1) := by decide +kernel
theorem dCJ_count_17 : decode b_CJ_count 17 = .ok (.istore_n 2, 1) := by decide +kernel
theorem dCJ_count_18 : decode b_CJ_count 18 = .ok (.iconst 0, 1) := by decide +kernel
theorem dCJ_count_19 : decode b_CJ_count 19 = .ok (.istore_n 3, 1) := by decide +kernel
theorem dCJ_count_20 : decode b_CJ_count 20 = .ok (.iload_n 3, 1) := by decide +kernel
theorem dCJ_count_21 : decode b_CJ_count 21 = .ok (.bipush 8, 2) := by decide +kernel
theorem dCJ_count_23 : decode b_CJ_count 23 = .ok (.if_icmp .ge 35, 3) := by decide +kernel
theorem dCJ_count_26 : decode b_CJ_count 26 = .ok (.aload_n 0, 1) := by decide +kernel
theorem dCJ_count_27 : decode b_CJ_count 27 = .ok (.getfield 11, 3) := by decide +kernel
theorem dCJ_count_30 : decode b_CJ_count 30 = .ok (.iload_n 3, 1) := by decide +kernel
theorem dCJ_count_31 : decode b_CJ_count 31 = .ok (.aaload, 1) := by decide +kernel
theorem dCJ_count_32 : decode b_CJ_count 32 = .ok (.getfield 40, 3) := by decide +kernel
theorem dCJ_count_35 : decode b_CJ_count 35 = .ok (.ifCond .eq 17, 3) := by decide +kernel
theorem dCJ_count_38 : decode b_CJ_count 38 = .ok (.iload_n 2, 1) := by decide +kernel
theorem dCJ_count_39 : decode b_CJ_count 39 = .ok (.aload_n 0, 1) := by decide +kernel
theorem dCJ_count_40 : decode b_CJ_count 40 = .ok (.aload_n 0, 1) := by decide +kernel
theorem dCJ_count_41 : decode b_CJ_count 41 = .ok (.getfield 11, 3) := by decide +kernel
theorem dCJ_count_44 : decode b_CJ_count 44 = .ok (.iload_n 3, 1) := by decide +kernel
theorem dCJ_count_45 : decode b_CJ_count 45 = .ok (.aaload, 1) := by decide +kernel
theorem dCJ_count_46 : decode b_CJ_count 46 = .ok (.iload_n 1, 1) := by decide +kernel
theorem dCJ_count_47 : decode b_CJ_count 47 = .ok (.invokevirtual 180, 3) := by decide +kernel
theorem dCJ_count_50 : decode b_CJ_count 50 = .ok (.iadd, 1) := by decide +kernel
theorem dCJ_count_51 : decode b_CJ_count 51 = .ok (.istore_n 2, 1) := by decide +kernel
theorem dCJ_count_52 : decode b_CJ_count 52 = .ok (.iinc 3 1, 3) := by decide +kernel
theorem dCJ_count_55 : decode b_CJ_count 55 = .ok (.goto (-35), 3) := by decide +kernel
theorem dCJ_count_58 : decode b_CJ_count 58 = .ok (.iload_n 2, 1) := by decide +kernel
theorem dCJ_count_59 : decode b_CJ_count 59 = .ok (.ireturn, 1) := by decide +kernel
theorem dCJ_drop_0 : decode b_CJ_drop 0 = .ok (.aload_n 0, 1) := by decide +kernel
theorem dCJ_drop_1 : decode b_CJ_drop 1 = .ok (.iload_n 1, 1) := by decide +kernel
theorem dCJ_drop_2 : decode b_CJ_drop 2 = .ok (.invokevirtual 51, 3) := by decide +kernel
theorem dCJ_drop_5 : decode b_CJ_drop 5 = .ok (.astore_n 2, 1) := by decide +kernel
theorem dCJ_drop_6 : decode b_CJ_drop 6 = .ok (.aload_n 2, 1) := by decide +kernel
theorem dCJ_drop_7 : decode b_CJ_drop 7 = .ok (.getfield 57, 3) := by decide +kernel
theorem dCJ_drop_10 : decode b_CJ_drop 10 = .ok (.istore_n 3, 1) := by decide +kernel
theorem dCJ_drop_11 : decode b_CJ_drop 11 = .ok (.aload_n 2, 1) := by decide +kernel
theorem dCJ_drop_12 : decode b_CJ_drop 12 = .ok (.invokevirtual 79, 3) := by decide +kernel
theorem dCJ_drop_15 : decode b_CJ_drop 15 = .ok (.aload_n 0, 1) := by decide +kernel
theorem dCJ_drop_16 : decode b_CJ_drop 16 = .ok (.getfield 26, 3) := by decide +kernel
theorem dCJ_drop_19 : decode b_CJ_drop 19 = .ok (.invokevirtual 48, 3) := by decide +kernel
theorem dCJ_drop_22 : decode b_CJ_drop 22 = .ok (.iload_n 3, 1) := by decide +kernel
theorem dCJ_drop_23 : decode b_CJ_drop 23 = .ok (.ireturn, 1) := by decide +kernel
theorem dCJ_good_0 : decode b_CJ_good 0 = .ok (.aload_n 0, 1) := by decide +kernel
theorem dCJ_good_1 : decode b_CJ_good 1 = .ok (.getfield 19, 3) := by decide +kernel
theorem dCJ_good_4 : decode b_CJ_good 4 = .ok (.aload_n 0, 1) := by decide +kernel
theorem dCJ_good_5 : decode b_CJ_good 5 = .ok (.getfield 11, 3) := by decide +kernel
theorem dCJ_good_8 : decode b_CJ_good 8 = .ok (.aload_n 0, 1) := by decide +kernel
theorem dCJ_good_9 : decode b_CJ_good 9 = .ok (.iload_n 1, 1) := by decide +kernel
theorem dCJ_good_10 : decode b_CJ_good 10 = .ok (.invokevirtual 51, 3) := by decide +kernel
theorem dCJ_good_13 : decode b_CJ_good 13 = .ok (.invokevirtual 82, 3) := by decide +kernel
theorem dCJ_good_16 : decode b_CJ_good 16 = .ok (.ireturn, 1) := by decide +kernel
theorem dCJ_height_0 : decode b_CJ_height 0 = .ok (.aload_n 0, 1) := by decide +kernel
theorem dCJ_height_1 : decode b_CJ_height 1 = .ok (.iload_n 1, 1) := by decide +kernel
theorem dCJ_height_2 : decode b_CJ_height 2 = .ok (.iload_n 2, 1) := by decide +kernel
theorem dCJ_height_3 : decode b_CJ_height 3 = .ok (.invokevirtual 68, 3) := by decide +kernel
theorem dCJ_height_6 : decode b_CJ_height 6 = .ok (.astore_n 3, 1) := by decide +kernel
theorem dCJ_height_7 : decode b_CJ_height 7 = .ok (.aload_n 0, 1) := by decide +kernel
theorem dCJ_height_8 : decode b_CJ_height 8 = .ok (.aload_n 3, 1) := by decide +kernel
theorem dCJ_height_9 : decode b_CJ_height 9 = .ok (.invokevirtual 86, 3) := by decide +kernel
theorem dCJ_height_12 : decode b_CJ_height 12 = .ok (.aload_n 0, 1) := by decide +kernel
theorem dCJ_height_13 : decode b_CJ_height 13 = .ok (.getfield 19, 3) := by decide +kernel
theorem dCJ_height_16 : decode b_CJ_height 16 = .ok (.iload_n 2, 1) := by decide +kernel
theorem dCJ_height_17 : decode b_CJ_height 17 = .ok (.invokevirtual 90, 3) := by decide +kernel
theorem dCJ_height_20 : decode b_CJ_height 20 = .ok (.ireturn, 1) := by decide +kernel
theorem dCJ_init_0 : decode b_CJ_init 0 = .ok (.aload_n 0, 1) := by decide +kernel
theorem dCJ_init_1 : decode b_CJ_init 1 = .ok (.invokespecial 1, 3) := by decide +kernel
theorem dCJ_init_4 : decode b_CJ_init 4 = .ok (.aload_n 0, 1) := by decide +kernel
theorem dCJ_init_5 : decode b_CJ_init 5 = .ok (.bipush 8, 2) := by decide +kernel
theorem dCJ_init_7 : decode b_CJ_init 7 = .ok (.anewarray 9, 3) := by decide +kernel
theorem dCJ_init_10 : decode b_CJ_init 10 = .ok (.putfield 11, 3) := by decide +kernel
theorem dCJ_init_13 : decode b_CJ_init 13 = .ok (.iconst 0, 1) := by decide +kernel
theorem dCJ_init_14 : decode b_CJ_init 14 = .ok (.istore_n 1, 1) := by decide +kernel
theorem dCJ_init_15 : decode b_CJ_init 15 = .ok (.iload_n 1, 1) := by decide +kernel
theorem dCJ_init_16 : decode b_CJ_init 16 = .ok (.bipush 8, 2) := by decide +kernel
theorem dCJ_init_18 : decode b_CJ_init 18 = .ok (.if_icmp .ge 22, 3) := by decide +kernel
theorem dCJ_init_21 : decode b_CJ_init 21 = .ok (.aload_n 0, 1) := by decide +kernel
theorem dCJ_init_22 : decode b_CJ_init 22 = .ok (.getfield 11, 3) := by decide +kernel
theorem dCJ_init_25 : decode b_CJ_init 25 = .ok (.iload_n 1, 1) := by decide +kernel
theorem dCJ_init_26 : decode b_CJ_init 26 = .ok (.new 9, 3) := by decide +kernel
theorem dCJ_init_29 : decode b_CJ_init 29 = .ok (.dup, 1) := by decide +kernel
theorem dCJ_init_30 : decode b_CJ_init 30 = .ok (.invokespecial 15, 3) := by decide +kernel
theorem dCJ_init_33 : decode b_CJ_init 33 = .ok (.aastore, 1) := by decide +kernel
theorem dCJ_init_34 : decode b_CJ_init 34 = .ok (.iinc 1 1, 3) := by decide +kernel
theorem dCJ_init_37 : decode b_CJ_init 37 = .ok (.goto (-22), 3) := by decide +kernel
theorem dCJ_init_40 : decode b_CJ_init 40 = .ok (.aload_n 0, 1) := by decide +kernel
theorem dCJ_init_41 : decode b_CJ_init 41 = .ok (.new 16, 3) := by decide +kernel
theorem dCJ_init_44 : decode b_CJ_init 44 = .ok (.dup, 1) := by decide +kernel
theorem dCJ_init_45 : decode b_CJ_init 45 = .ok (.invokespecial 18, 3) := by decide +kernel
theorem dCJ_init_48 : decode b_CJ_init 48 = .ok (.putfield 19, 3) := by decide +kernel
theorem dCJ_init_51 : decode b_CJ_init 51 = .ok (.aload_n 0, 1) := by decide +kernel
theorem dCJ_init_52 : decode b_CJ_init 52 = .ok (.new 23, 3) := by decide +kernel
theorem dCJ_init_55 : decode b_CJ_init 55 = .ok (.dup, 1) := by decide +kernel
theorem dCJ_init_56 : decode b_CJ_init 56 = .ok (.invokespecial 25, 3) := by decide +kernel
theorem dCJ_init_59 : decode b_CJ_init 59 = .ok (.putfield 26, 3) := by decide +kernel
theorem dCJ_init_62 : decode b_CJ_init 62 = .ok (.return_, 1) := by decide +kernel
theorem dCJ_isBelow_0 : decode b_CJ_isBelow 0 = .ok (.iload_n 0, 1) := by decide +kernel
theorem dCJ_isBelow_1 : decode b_CJ_isBelow 1 = .ok (.ifCond .lt 12, 3) := by decide +kernel
theorem dCJ_isBelow_4 : decode b_CJ_isBelow 4 = .ok (.iload_n 0, 1) := by decide +kernel
theorem dCJ_isBelow_5 : decode b_CJ_isBelow 5 = .ok (.iload_n 1, 1) := by decide +kernel
theorem dCJ_isBelow_6 : decode b_CJ_isBelow 6 = .ok (.if_icmp .ge 7, 3) := by decide +kernel
theorem dCJ_isBelow_9 : decode b_CJ_isBelow 9 = .ok (.iconst 1, 1) := by decide +kernel
theorem dCJ_isBelow_10 : decode b_CJ_isBelow 10 = .ok (.goto 4, 3) := by decide +kernel
theorem dCJ_isBelow_13 : decode b_CJ_isBelow 13 = .ok (.iconst 0, 1) := by decide +kernel
theorem dCJ_isBelow_14 : decode b_CJ_isBelow 14 = .ok (.ireturn, 1) := by decide +kernel
theorem dCJ_method_0 : decode b_CJ_method 0 = .ok (.iload_n 1, 1) := by decide +kernel
theorem dCJ_method_1 : decode b_CJ_method 1 = .ok (.bipush 8, 2) := by decide +kernel
theorem dCJ_method_3 : decode b_CJ_method 3 = .ok (.invokestatic 30, 3) := by decide +kernel
theorem dCJ_method_6 : decode b_CJ_method 6 = .ok (.ifCond .ne 11, 3) := by decide +kernel
theorem dCJ_method_9 : decode b_CJ_method 9 = .ok (.new 34, 3) := by decide +kernel
theorem dCJ_method_12 : decode b_CJ_method 12 = .ok (.dup, 1) := by decide +kernel
theorem dCJ_method_13 : decode b_CJ_method 13 = .ok (.invokespecial 36, 3) := by decide +kernel
theorem dCJ_method_16 : decode b_CJ_method 16 = .ok (.athrow, 1) := by decide +kernel
theorem dCJ_method_17 : decode b_CJ_method 17 = .ok (.iload_n 2, 1) := by decide +kernel
theorem dCJ_method_18 : decode b_CJ_method 18 = .ok (.iconst 5, 1) := by decide +kernel
theorem dCJ_method_19 : decode b_CJ_method 19 = .ok (.invokestatic 30, 3) := by decide +kernel
theorem dCJ_method_22 : decode b_CJ_method 22 = .ok (.ifCond .eq 41, 3) := by decide +kernel
theorem dCJ_method_25 : decode b_CJ_method 25 = .ok (.iload_n 3, 1) := by decide +kernel
theorem dCJ_method_26 : decode b_CJ_method 26 = .ok (.iload_n 2, 1) := by decide +kernel
theorem dCJ_method_27 : decode b_CJ_method 27 = .ok (.ishr, 1) := by decide +kernel
theorem dCJ_method_28 : decode b_CJ_method 28 = .ok (.ifCond .ne 35, 3) := by decide +kernel
theorem dCJ_method_31 : decode b_CJ_method 31 = .ok (.iload 4, 2) := by decide +kernel
theorem dCJ_method_33 : decode b_CJ_method 33 = .ok (.iconst 3, 1) := by decide +kernel
theorem dCJ_method_34 : decode b_CJ_method 34 = .ok (.invokestatic 30, 3) := by decide +kernel
theorem dCJ_method_37 : decode b_CJ_method 37 = .ok (.ifCond .eq 26, 3) := by decide +kernel
theorem dCJ_method_40 : decode b_CJ_method 40 = .ok (.iload 5, 2) := by decide +kernel
theorem dCJ_method_42 : decode b_CJ_method 42 = .ok (.iload_n 2, 1) := by decide +kernel
theorem dCJ_method_43 : decode b_CJ_method 43 = .ok (.if_icmp .lt 20, 3) := by decide +kernel
theorem dCJ_method_46 : decode b_CJ_method 46 = .ok (.iload 5, 2) := by decide +kernel
theorem dCJ_method_48 : decode b_CJ_method 48 = .ok (.bipush 10, 2) := by decide +kernel
theorem dCJ_method_50 : decode b_CJ_method 50 = .ok (.if_icmp .gt 13, 3) := by decide +kernel
theorem dCJ_method_53 : decode b_CJ_method 53 = .ok (.iload 6, 2) := by decide +kernel
theorem dCJ_method_55 : decode b_CJ_method 55 = .ok (.bipush 16, 2) := by decide +kernel
theorem dCJ_method_57 : decode b_CJ_method 57 = .ok (.invokestatic 30, 3) := by decide +kernel
theorem dCJ_method_60 : decode b_CJ_method 60 = .ok (.ifCond .ne 11, 3) := by decide +kernel
theorem dCJ_method_63 : decode b_CJ_method 63 = .ok (.new 37, 3) := by decide +kernel
theorem dCJ_method_66 : decode b_CJ_method 66 = .ok (.dup, 1) := by decide +kernel
theorem dCJ_method_67 : decode b_CJ_method 67 = .ok (.invokespecial 39, 3) := by decide +kernel
theorem dCJ_method_70 : decode b_CJ_method 70 = .ok (.athrow, 1) := by decide +kernel
theorem dCJ_method_71 : decode b_CJ_method 71 = .ok (.aload_n 0, 1) := by decide +kernel
theorem dCJ_method_72 : decode b_CJ_method 72 = .ok (.getfield 11, 3) := by decide +kernel
theorem dCJ_method_75 : decode b_CJ_method 75 = .ok (.iload_n 1, 1) := by decide +kernel
theorem dCJ_method_76 : decode b_CJ_method 76 = .ok (.aaload, 1) := by decide +kernel
theorem dCJ_method_77 : decode b_CJ_method 77 = .ok (.astore 7, 2) := by decide +kernel
theorem dCJ_method_79 : decode b_CJ_method 79 = .ok (.aload 7, 2) := by decide +kernel
theorem dCJ_method_81 : decode b_CJ_method 81 = .ok (.getfield 40, 3) := by decide +kernel
theorem dCJ_method_84 : decode b_CJ_method 84 = .ok (.istore 8, 2) := by decide +kernel
theorem dCJ_method_86 : decode b_CJ_method 86 = .ok (.aload 7, 2) := by decide +kernel
theorem dCJ_method_88 : decode b_CJ_method 88 = .ok (.iload_n 2, 1) := by decide +kernel
theorem dCJ_method_89 : decode b_CJ_method 89 = .ok (.iload_n 3, 1) := by decide +kernel
theorem dCJ_method_90 : decode b_CJ_method 90 = .ok (.iload 4, 2) := by decide +kernel
theorem dCJ_method_92 : decode b_CJ_method 92 = .ok (.iload 5, 2) := by decide +kernel
theorem dCJ_method_94 : decode b_CJ_method 94 = .ok (.iload 6, 2) := by decide +kernel
theorem dCJ_method_96 : decode b_CJ_method 96 = .ok (.invokevirtual 44, 3) := by decide +kernel
theorem dCJ_method_99 : decode b_CJ_method 99 = .ok (.aload_n 0, 1) := by decide +kernel
theorem dCJ_method_100 : decode b_CJ_method 100 = .ok (.getfield 26, 3) := by decide +kernel
theorem dCJ_method_103 : decode b_CJ_method 103 = .ok (.invokevirtual 48, 3) := by decide +kernel
theorem dCJ_method_106 : decode b_CJ_method 106 = .ok (.iload 8, 2) := by decide +kernel
theorem dCJ_method_108 : decode b_CJ_method 108 = .ok (.ireturn, 1) := by decide +kernel
theorem dCJ_needGood_0 : decode b_CJ_needGood 0 = .ok (.aload_n 0, 1) := by decide +kernel
theorem dCJ_needGood_1 : decode b_CJ_needGood 1 = .ok (.getfield 19, 3) := by decide +kernel
theorem dCJ_needGood_4 : decode b_CJ_needGood 4 = .ok (.aload_n 0, 1) := by decide +kernel
theorem dCJ_needGood_5 : decode b_CJ_needGood 5 = .ok (.getfield 11, 3) := by decide +kernel
theorem dCJ_needGood_8 : decode b_CJ_needGood 8 = .ok (.aload_n 1, 1) := by decide +kernel
theorem dCJ_needGood_9 : decode b_CJ_needGood 9 = .ok (.invokevirtual 82, 3) := by decide +kernel
theorem dCJ_needGood_12 : decode b_CJ_needGood 12 = .ok (.ifCond .ne 11, 3) := by decide +kernel
theorem dCJ_needGood_15 : decode b_CJ_needGood 15 = .ok (.new 61, 3) := by decide +kernel
theorem dCJ_needGood_18 : decode b_CJ_needGood 18 = .ok (.dup, 1) := by decide +kernel
theorem dCJ_needGood_19 : decode b_CJ_needGood 19 = .ok (.invokespecial 63, 3) := by decide +kernel
theorem dCJ_needGood_22 : decode b_CJ_needGood 22 = .ok (.athrow, 1) := by decide +kernel
theorem dCJ_needGood_23 : decode b_CJ_needGood 23 = .ok (.return_, 1) := by decide +kernel
theorem dCJ_needRun_0 : decode b_CJ_needRun 0 = .ok (.aload_n 0, 1) := by decide +kernel
theorem dCJ_needRun_1 : decode b_CJ_needRun 1 = .ok (.getfield 26, 3) := by decide +kernel
theorem dCJ_needRun_4 : decode b_CJ_needRun 4 = .ok (.getfield 128, 3) := by decide +kernel
theorem dCJ_needRun_7 : decode b_CJ_needRun 7 = .ok (.ifCond .ne 11, 3) := by decide +kernel
theorem dCJ_needRun_10 : decode b_CJ_needRun 10 = .ok (.new 61, 3) := by decide +kernel
theorem dCJ_needRun_13 : decode b_CJ_needRun 13 = .ok (.dup, 1) := by decide +kernel
theorem dCJ_needRun_14 : decode b_CJ_needRun 14 = .ok (.invokespecial 63, 3) := by decide +kernel
theorem dCJ_needRun_17 : decode b_CJ_needRun 17 = .ok (.athrow, 1) := by decide +kernel
theorem dCJ_needRun_18 : decode b_CJ_needRun 18 = .ok (.return_, 1) := by decide +kernel
theorem dCJ_output_0 : decode b_CJ_output 0 = .ok (.aload_n 0, 1) := by decide +kernel
theorem dCJ_output_1 : decode b_CJ_output 1 = .ok (.getfield 26, 3) := by decide +kernel
theorem dCJ_output_4 : decode b_CJ_output 4 = .ok (.getfield 128, 3) := by decide +kernel
theorem dCJ_output_7 : decode b_CJ_output 7 = .ok (.ifCond .eq 17, 3) := by decide +kernel
theorem dCJ_output_10 : decode b_CJ_output 10 = .ok (.aload_n 0, 1) := by decide +kernel
theorem dCJ_output_11 : decode b_CJ_output 11 = .ok (.getfield 26, 3) := by decide +kernel
theorem dCJ_output_14 : decode b_CJ_output 14 = .ok (.getfield 169, 3) := by decide +kernel
theorem dCJ_output_17 : decode b_CJ_output 17 = .ok (.iload_n 1, 1) := by decide +kernel
theorem dCJ_output_18 : decode b_CJ_output 18 = .ok (.invokevirtual 173, 3) := by decide +kernel
theorem dCJ_output_21 : decode b_CJ_output 21 = .ok (.ifCond .ne 11, 3) := by decide +kernel
theorem dCJ_output_24 : decode b_CJ_output 24 = .ok (.new 34, 3) := by decide +kernel
theorem dCJ_output_27 : decode b_CJ_output 27 = .ok (.dup, 1) := by decide +kernel
theorem dCJ_output_28 : decode b_CJ_output 28 = .ok (.invokespecial 36, 3) := by decide +kernel
theorem dCJ_output_31 : decode b_CJ_output 31 = .ok (.athrow, 1) := by decide +kernel
theorem dCJ_output_32 : decode b_CJ_output 32 = .ok (.aload_n 0, 1) := by decide +kernel
theorem dCJ_output_33 : decode b_CJ_output 33 = .ok (.getfield 26, 3) := by decide +kernel
theorem dCJ_output_36 : decode b_CJ_output 36 = .ok (.getfield 169, 3) := by decide +kernel
theorem dCJ_output_39 : decode b_CJ_output 39 = .ok (.iload_n 1, 1) := by decide +kernel
theorem dCJ_output_40 : decode b_CJ_output 40 = .ok (.invokevirtual 178, 3) := by decide +kernel
theorem dCJ_output_43 : decode b_CJ_output 43 = .ok (.ireturn, 1) := by decide +kernel
theorem dCJ_patch_0 : decode b_CJ_patch 0 = .ok (.aload_n 0, 1) := by decide +kernel
theorem dCJ_patch_1 : decode b_CJ_patch 1 = .ok (.iload_n 1, 1) := by decide +kernel
theorem dCJ_patch_2 : decode b_CJ_patch 2 = .ok (.iload_n 2, 1) := by decide +kernel
theorem dCJ_patch_3 : decode b_CJ_patch 3 = .ok (.invokevirtual 68, 3) := by decide +kernel
theorem dCJ_patch_6 : decode b_CJ_patch 6 = .ok (.astore 4, 2) := by decide +kernel
theorem dCJ_patch_8 : decode b_CJ_patch 8 = .ok (.aload 4, 2) := by decide +kernel
theorem dCJ_patch_10 : decode b_CJ_patch 10 = .ok (.iload_n 2, 1) := by decide +kernel
theorem dCJ_patch_11 : decode b_CJ_patch 11 = .ok (.invokevirtual 72, 3) := by decide +kernel
theorem dCJ_patch_14 : decode b_CJ_patch 14 = .ok (.istore 5, 2) := by decide +kernel
theorem dCJ_patch_16 : decode b_CJ_patch 16 = .ok (.aload 4, 2) := by decide +kernel
theorem dCJ_patch_18 : decode b_CJ_patch 18 = .ok (.iload_n 2, 1) := by decide +kernel
theorem dCJ_patch_19 : decode b_CJ_patch 19 = .ok (.iload_n 3, 1) := by decide +kernel
theorem dCJ_patch_20 : decode b_CJ_patch 20 = .ok (.invokevirtual 76, 3) := by decide +kernel
theorem dCJ_patch_23 : decode b_CJ_patch 23 = .ok (.aload_n 0, 1) := by decide +kernel
theorem dCJ_patch_24 : decode b_CJ_patch 24 = .ok (.getfield 26, 3) := by decide +kernel
theorem dCJ_patch_27 : decode b_CJ_patch 27 = .ok (.invokevirtual 48, 3) := by decide +kernel
theorem dCJ_patch_30 : decode b_CJ_patch 30 = .ok (.iload 5, 2) := by decide +kernel
theorem dCJ_patch_32 : decode b_CJ_patch 32 = .ok (.ireturn, 1) := by decide +kernel
theorem dCJ_present_0 : decode b_CJ_present 0 = .ok (.iload_n 1, 1) := by decide +kernel
theorem dCJ_present_1 : decode b_CJ_present 1 = .ok (.bipush 8, 2) := by decide +kernel
theorem dCJ_present_3 : decode b_CJ_present 3 = .ok (.invokestatic 30, 3) := by decide +kernel
theorem dCJ_present_6 : decode b_CJ_present 6 = .ok (.ifCond .eq 15, 3) := by decide +kernel
theorem dCJ_present_9 : decode b_CJ_present 9 = .ok (.aload_n 0, 1) := by decide +kernel
theorem dCJ_present_10 : decode b_CJ_present 10 = .ok (.getfield 11, 3) := by decide +kernel
theorem dCJ_present_13 : decode b_CJ_present 13 = .ok (.iload_n 1, 1) := by decide +kernel
theorem dCJ_present_14 : decode b_CJ_present 14 = .ok (.aaload, 1) := by decide +kernel
theorem dCJ_present_15 : decode b_CJ_present 15 = .ok (.getfield 40, 3) := by decide +kernel
theorem dCJ_present_18 : decode b_CJ_present 18 = .ok (.ifCond .ne 11, 3) := by decide +kernel
theorem dCJ_present_21 : decode b_CJ_present 21 = .ok (.new 34, 3) := by decide +kernel
theorem dCJ_present_24 : decode b_CJ_present 24 = .ok (.dup, 1) := by decide +kernel
theorem dCJ_present_25 : decode b_CJ_present 25 = .ok (.invokespecial 36, 3) := by decide +kernel
theorem dCJ_present_28 : decode b_CJ_present 28 = .ok (.athrow, 1) := by decide +kernel
theorem dCJ_present_29 : decode b_CJ_present 29 = .ok (.aload_n 0, 1) := by decide +kernel
theorem dCJ_present_30 : decode b_CJ_present 30 = .ok (.getfield 11, 3) := by decide +kernel
theorem dCJ_present_33 : decode b_CJ_present 33 = .ok (.iload_n 1, 1) := by decide +kernel
theorem dCJ_present_34 : decode b_CJ_present 34 = .ok (.aaload, 1) := by decide +kernel
theorem dCJ_present_35 : decode b_CJ_present 35 = .ok (.areturn, 1) := by decide +kernel
theorem dCJ_presentWith_0 : decode b_CJ_presentWith 0 = .ok (.aload_n 0, 1) := by decide +kernel
theorem dCJ_presentWith_1 : decode b_CJ_presentWith 1 = .ok (.iload_n 1, 1) := by decide +kernel
theorem dCJ_presentWith_2 : decode b_CJ_presentWith 2 = .ok (.invokevirtual 51, 3) := by decide +kernel
theorem dCJ_presentWith_5 : decode b_CJ_presentWith 5 = .ok (.astore_n 3, 1) := by decide +kernel
theorem dCJ_presentWith_6 : decode b_CJ_presentWith 6 = .ok (.aload_n 3, 1) := by decide +kernel
theorem dCJ_presentWith_7 : decode b_CJ_presentWith 7 = .ok (.iload_n 2, 1) := by decide +kernel
theorem dCJ_presentWith_8 : decode b_CJ_presentWith 8 = .ok (.invokevirtual 184, 3) := by decide +kernel
theorem dCJ_presentWith_11 : decode b_CJ_presentWith 11 = .ok (.ifCond .ne 11, 3) := by decide +kernel
theorem dCJ_presentWith_14 : decode b_CJ_presentWith 14 = .ok (.new 34, 3) := by decide +kernel
theorem dCJ_presentWith_17 : decode b_CJ_presentWith 17 = .ok (.dup, 1) := by decide +kernel
theorem dCJ_presentWith_18 : decode b_CJ_presentWith 18 = .ok (.invokespecial 36, 3) := by decide +kernel
theorem dCJ_presentWith_21 : decode b_CJ_presentWith 21 = .ok (.athrow, 1) := by decide +kernel
theorem dCJ_presentWith_22 : decode b_CJ_presentWith 22 = .ok (.aload_n 3, 1) := by decide +kernel
theorem dCJ_presentWith_23 : decode b_CJ_presentWith 23 = .ok (.areturn, 1) := by decide +kernel
theorem dCJ_run_0 : decode b_CJ_run 0 = .ok (.iload_n 1, 1) := by decide +kernel
theorem dCJ_run_1 : decode b_CJ_run 1 = .ok (.sipush 2001, 3) := by decide +kernel
theorem dCJ_run_4 : decode b_CJ_run 4 = .ok (.invokestatic 30, 3) := by decide +kernel
theorem dCJ_run_7 : decode b_CJ_run 7 = .ok (.ifCond .ne 11, 3) := by decide +kernel
theorem dCJ_run_10 : decode b_CJ_run 10 = .ok (.new 37, 3) := by decide +kernel
theorem dCJ_run_13 : decode b_CJ_run 13 = .ok (.dup, 1) := by decide +kernel
theorem dCJ_run_14 : decode b_CJ_run 14 = .ok (.invokespecial 39, 3) := by decide +kernel
theorem dCJ_run_17 : decode b_CJ_run 17 = .ok (.athrow, 1) := by decide +kernel
theorem dCJ_run_18 : decode b_CJ_run 18 = .ok (.aload_n 0, 1) := by decide +kernel
theorem dCJ_run_19 : decode b_CJ_run 19 = .ok (.invokevirtual 118, 3) := by decide +kernel
theorem dCJ_run_22 : decode b_CJ_run 22 = .ok (.aload_n 0, 1) := by decide +kernel
theorem dCJ_run_23 : decode b_CJ_run 23 = .ok (.getfield 26, 3) := by decide +kernel
theorem dCJ_run_26 : decode b_CJ_run 26 = .ok (.aload_n 0, 1) := by decide +kernel
theorem dCJ_run_27 : decode b_CJ_run 27 = .ok (.getfield 11, 3) := by decide +kernel
theorem dCJ_run_30 : decode b_CJ_run 30 = .ok (.iload_n 1, 1) := by decide +kernel
theorem dCJ_run_31 : decode b_CJ_run 31 = .ok (.invokevirtual 121, 3) := by decide +kernel
theorem dCJ_run_34 : decode b_CJ_run 34 = .ok (.ireturn, 1) := by decide +kernel
theorem dCJ_share_0 : decode b_CJ_share 0 = .ok (.iload_n 2, 1) := by decide +kernel
theorem dCJ_share_1 : decode b_CJ_share 1 = .ok (.ifCond .ne 5, 3) := by decide +kernel
theorem dCJ_share_4 : decode b_CJ_share 4 = .ok (.iconst 1, 1) := by decide +kernel
theorem dCJ_share_5 : decode b_CJ_share 5 = .ok (.ireturn, 1) := by decide +kernel
theorem dCJ_share_6 : decode b_CJ_share 6 = .ok (.iload_n 2, 1) := by decide +kernel
theorem dCJ_share_7 : decode b_CJ_share 7 = .ok (.iconst 1, 1) := by decide +kernel
theorem dCJ_share_8 : decode b_CJ_share 8 = .ok (.if_icmp .ne 8, 3) := by decide +kernel
theorem dCJ_share_11 : decode b_CJ_share 11 = .ok (.aload_n 1, 1) := by decide +kernel
theorem dCJ_share_12 : decode b_CJ_share 12 = .ok (.getfield 57, 3) := by decide +kernel
theorem dCJ_share_15 : decode b_CJ_share 15 = .ok (.ireturn, 1) := by decide +kernel
theorem dCJ_share_16 : decode b_CJ_share 16 = .ok (.aload_n 0, 1) := by decide +kernel
theorem dCJ_share_17 : decode b_CJ_share 17 = .ok (.getfield 19, 3) := by decide +kernel
theorem dCJ_share_20 : decode b_CJ_share 20 = .ok (.aload_n 0, 1) := by decide +kernel
theorem dCJ_share_21 : decode b_CJ_share 21 = .ok (.getfield 11, 3) := by decide +kernel
theorem dCJ_share_24 : decode b_CJ_share 24 = .ok (.aload_n 1, 1) := by decide +kernel
theorem dCJ_share_25 : decode b_CJ_share 25 = .ok (.invokevirtual 82, 3) := by decide +kernel
theorem dCJ_share_28 : decode b_CJ_share 28 = .ok (.ifCond .eq 7, 3) := by decide +kernel
theorem dCJ_share_31 : decode b_CJ_share 31 = .ok (.iconst 1, 1) := by decide +kernel
theorem dCJ_share_32 : decode b_CJ_share 32 = .ok (.goto 4, 3) := by decide +kernel
theorem dCJ_share_35 : decode b_CJ_share 35 = .ok (.iconst 0, 1) := by decide +kernel
theorem dCJ_share_36 : decode b_CJ_share 36 = .ok (.ireturn, 1) := by decide +kernel
theorem dCJ_start_0 : decode b_CJ_start 0 = .ok (.aload_n 0, 1) := by decide +kernel
theorem dCJ_start_1 : decode b_CJ_start 1 = .ok (.iload_n 1, 1) := by decide +kernel
theorem dCJ_start_2 : decode b_CJ_start 2 = .ok (.invokevirtual 51, 3) := by decide +kernel
theorem dCJ_start_5 : decode b_CJ_start 5 = .ok (.astore 6, 2) := by decide +kernel
theorem dCJ_start_7 : decode b_CJ_start 7 = .ok (.aload 6, 2) := by decide +kernel
theorem dCJ_start_9 : decode b_CJ_start 9 = .ok (.iconst 0, 1) := by decide +kernel
theorem dCJ_start_10 : decode b_CJ_start 10 = .ok (.iload_n 2, 1) := by decide +kernel
theorem dCJ_start_11 : decode b_CJ_start 11 = .ok (.invokestatic 103, 3) := by decide +kernel
theorem dCJ_start_14 : decode b_CJ_start 14 = .ok (.ifCond .eq 35, 3) := by decide +kernel
theorem dCJ_start_17 : decode b_CJ_start 17 = .ok (.aload 6, 2) := by decide +kernel
theorem dCJ_start_19 : decode b_CJ_start 19 = .ok (.iconst 1, 1) := by decide +kernel
theorem dCJ_start_20 : decode b_CJ_start 20 = .ok (.iload_n 3, 1) := by decide +kernel
theorem dCJ_start_21 : decode b_CJ_start 21 = .ok (.invokestatic 103, 3) := by decide +kernel
theorem dCJ_start_24 : decode b_CJ_start 24 = .ok (.ifCond .eq 25, 3) := by decide +kernel
theorem dCJ_start_27 : decode b_CJ_start 27 = .ok (.aload 6, 2) := by decide +kernel
theorem dCJ_start_29 : decode b_CJ_start 29 = .ok (.iconst 2, 1) := by decide +kernel
theorem dCJ_start_30 : decode b_CJ_start 30 = .ok (.iload 4, 2) := by decide +kernel
theorem dCJ_start_32 : decode b_CJ_start 32 = .ok (.invokestatic 103, 3) := by decide +kernel
theorem dCJ_start_35 : decode b_CJ_start 35 = .ok (.ifCond .eq 14, 3) := by decide +kernel
theorem dCJ_start_38 : decode b_CJ_start 38 = .ok (.aload 6, 2) := by decide +kernel
theorem dCJ_start_40 : decode b_CJ_start 40 = .ok (.iconst 3, 1) := by decide +kernel
theorem dCJ_start_41 : decode b_CJ_start 41 = .ok (.iload 5, 2) := by decide +kernel
theorem dCJ_start_43 : decode b_CJ_start 43 = .ok (.invokestatic 103, 3) := by decide +kernel
theorem dCJ_start_46 : decode b_CJ_start 46 = .ok (.ifCond .ne 11, 3) := by decide +kernel
theorem dCJ_start_49 : decode b_CJ_start 49 = .ok (.new 37, 3) := by decide +kernel
theorem dCJ_start_52 : decode b_CJ_start 52 = .ok (.dup, 1) := by decide +kernel
theorem dCJ_start_53 : decode b_CJ_start 53 = .ok (.invokespecial 39, 3) := by decide +kernel
theorem dCJ_start_56 : decode b_CJ_start 56 = .ok (.athrow, 1) := by decide +kernel
theorem dCJ_start_57 : decode b_CJ_start 57 = .ok (.aload_n 0, 1) := by decide +kernel
theorem dCJ_start_58 : decode b_CJ_start 58 = .ok (.iload_n 1, 1) := by decide +kernel
theorem dCJ_start_59 : decode b_CJ_start 59 = .ok (.invokevirtual 107, 3) := by decide +kernel
theorem dCJ_start_62 : decode b_CJ_start 62 = .ok (.ifCond .ne 11, 3) := by decide +kernel
theorem dCJ_start_65 : decode b_CJ_start 65 = .ok (.new 61, 3) := by decide +kernel
theorem dCJ_start_68 : decode b_CJ_start 68 = .ok (.dup, 1) := by decide +kernel
theorem dCJ_start_69 : decode b_CJ_start 69 = .ok (.invokespecial 63, 3) := by decide +kernel
theorem dCJ_start_72 : decode b_CJ_start 72 = .ok (.athrow, 1) := by decide +kernel
theorem dCJ_start_73 : decode b_CJ_start 73 = .ok (.aload_n 0, 1) := by decide +kernel
theorem dCJ_start_74 : decode b_CJ_start 74 = .ok (.getfield 26, 3) := by decide +kernel
theorem dCJ_start_77 : decode b_CJ_start 77 = .ok (.iload_n 1, 1) := by decide +kernel
theorem dCJ_start_78 : decode b_CJ_start 78 = .ok (.invokevirtual 111, 3) := by decide +kernel
theorem dCJ_start_81 : decode b_CJ_start 81 = .ok (.aload_n 0, 1) := by decide +kernel
theorem dCJ_start_82 : decode b_CJ_start 82 = .ok (.getfield 26, 3) := by decide +kernel
theorem dCJ_start_85 : decode b_CJ_start 85 = .ok (.aload 6, 2) := by decide +kernel
theorem dCJ_start_87 : decode b_CJ_start 87 = .ok (.iconst 0, 1) := by decide +kernel
theorem dCJ_start_88 : decode b_CJ_start 88 = .ok (.iload_n 2, 1) := by decide +kernel
theorem dCJ_start_89 : decode b_CJ_start 89 = .ok (.invokevirtual 114, 3) := by decide +kernel
theorem dCJ_start_92 : decode b_CJ_start 92 = .ok (.aload_n 0, 1) := by decide +kernel
theorem dCJ_start_93 : decode b_CJ_start 93 = .ok (.getfield 26, 3) := by decide +kernel
theorem dCJ_start_96 : decode b_CJ_start 96 = .ok (.aload 6, 2) := by decide +kernel
theorem dCJ_start_98 : decode b_CJ_start 98 = .ok (.iconst 1, 1) := by decide +kernel
theorem dCJ_start_99 : decode b_CJ_start 99 = .ok (.iload_n 3, 1) := by decide +kernel
theorem dCJ_start_100 : decode b_CJ_start 100 = .ok (.invokevirtual 114, 3) := by decide +kernel
theorem dCJ_start_103 : decode b_CJ_start 103 = .ok (.aload_n 0, 1) := by decide +kernel
theorem dCJ_start_104 : decode b_CJ_start 104 = .ok (.getfield 26, 3) := by decide +kernel
theorem dCJ_start_107 : decode b_CJ_start 107 = .ok (.aload 6, 2) := by decide +kernel
theorem dCJ_start_109 : decode b_CJ_start 109 = .ok (.iconst 2, 1) := by decide +kernel
theorem dCJ_start_110 : decode b_CJ_start 110 = .ok (.iload 4, 2) := by decide +kernel
theorem dCJ_start_112 : decode b_CJ_start 112 = .ok (.invokevirtual 114, 3) := by decide +kernel
theorem dCJ_start_115 : decode b_CJ_start 115 = .ok (.aload_n 0, 1) := by decide +kernel
theorem dCJ_start_116 : decode b_CJ_start 116 = .ok (.getfield 26, 3) := by decide +kernel
theorem dCJ_start_119 : decode b_CJ_start 119 = .ok (.aload 6, 2) := by decide +kernel
theorem dCJ_start_121 : decode b_CJ_start 121 = .ok (.iconst 3, 1) := by decide +kernel
theorem dCJ_start_122 : decode b_CJ_start 122 = .ok (.iload 5, 2) := by decide +kernel
theorem dCJ_start_124 : decode b_CJ_start 124 = .ok (.invokevirtual 114, 3) := by decide +kernel
theorem dCJ_start_127 : decode b_CJ_start 127 = .ok (.return_, 1) := by decide +kernel
theorem dCJ_state_0 : decode b_CJ_state 0 = .ok (.iload_n 1, 1) := by decide +kernel
theorem dCJ_state_1 : decode b_CJ_state 1 = .ok (.bipush 9, 2) := by decide +kernel
theorem dCJ_state_3 : decode b_CJ_state 3 = .ok (.invokestatic 30, 3) := by decide +kernel
theorem dCJ_state_6 : decode b_CJ_state 6 = .ok (.ifCond .ne 11, 3) := by decide +kernel
theorem dCJ_state_9 : decode b_CJ_state 9 = .ok (.new 37, 3) := by decide +kernel
theorem dCJ_state_12 : decode b_CJ_state 12 = .ok (.dup, 1) := by decide +kernel
theorem dCJ_state_13 : decode b_CJ_state 13 = .ok (.invokespecial 39, 3) := by decide +kernel
theorem dCJ_state_16 : decode b_CJ_state 16 = .ok (.athrow, 1) := by decide +kernel
theorem dCJ_state_17 : decode b_CJ_state 17 = .ok (.aload_n 0, 1) := by decide +kernel
theorem dCJ_state_18 : decode b_CJ_state 18 = .ok (.invokevirtual 118, 3) := by decide +kernel
theorem dCJ_state_21 : decode b_CJ_state 21 = .ok (.aload_n 0, 1) := by decide +kernel
theorem dCJ_state_22 : decode b_CJ_state 22 = .ok (.getfield 26, 3) := by decide +kernel
theorem dCJ_state_25 : decode b_CJ_state 25 = .ok (.iload_n 1, 1) := by decide +kernel
theorem dCJ_state_26 : decode b_CJ_state 26 = .ok (.invokevirtual 125, 3) := by decide +kernel
theorem dCJ_state_29 : decode b_CJ_state 29 = .ok (.ireturn, 1) := by decide +kernel
theorem dCJ_type_0 : decode b_CJ_type 0 = .ok (.aload_n 0, 1) := by decide +kernel
theorem dCJ_type_1 : decode b_CJ_type 1 = .ok (.iload_n 1, 1) := by decide +kernel
theorem dCJ_type_2 : decode b_CJ_type 2 = .ok (.iload_n 2, 1) := by decide +kernel
theorem dCJ_type_3 : decode b_CJ_type 3 = .ok (.invokevirtual 68, 3) := by decide +kernel
theorem dCJ_type_6 : decode b_CJ_type 6 = .ok (.astore 5, 2) := by decide +kernel
theorem dCJ_type_8 : decode b_CJ_type 8 = .ok (.iload 4, 2) := by decide +kernel
theorem dCJ_type_10 : decode b_CJ_type 10 = .ok (.ifCond .lt 22, 3) := by decide +kernel
theorem dCJ_type_13 : decode b_CJ_type 13 = .ok (.iload_n 3, 1) := by decide +kernel
theorem dCJ_type_14 : decode b_CJ_type 14 = .ok (.ifCond .eq 26, 3) := by decide +kernel
theorem dCJ_type_17 : decode b_CJ_type 17 = .ok (.iload_n 3, 1) := by decide +kernel
theorem dCJ_type_18 : decode b_CJ_type 18 = .ok (.iconst 1, 1) := by decide +kernel
theorem dCJ_type_19 : decode b_CJ_type 19 = .ok (.if_icmp .ne 13, 3) := by decide +kernel
theorem dCJ_type_22 : decode b_CJ_type 22 = .ok (.iload 4, 2) := by decide +kernel
theorem dCJ_type_24 : decode b_CJ_type 24 = .ok (.aload 5, 2) := by decide +kernel
theorem dCJ_type_26 : decode b_CJ_type 26 = .ok (.getfield 93, 3) := by decide +kernel
theorem dCJ_type_29 : decode b_CJ_type 29 = .ok (.if_icmp .lt 11, 3) := by decide +kernel
theorem dCJ_type_32 : decode b_CJ_type 32 = .ok (.new 34, 3) := by decide +kernel
theorem dCJ_type_35 : decode b_CJ_type 35 = .ok (.dup, 1) := by decide +kernel
theorem dCJ_type_36 : decode b_CJ_type 36 = .ok (.invokespecial 36, 3) := by decide +kernel
theorem dCJ_type_39 : decode b_CJ_type 39 = .ok (.athrow, 1) := by decide +kernel
theorem dCJ_type_40 : decode b_CJ_type 40 = .ok (.aload_n 0, 1) := by decide +kernel
theorem dCJ_type_41 : decode b_CJ_type 41 = .ok (.aload 5, 2) := by decide +kernel
theorem dCJ_type_43 : decode b_CJ_type 43 = .ok (.invokevirtual 86, 3) := by decide +kernel
theorem dCJ_type_46 : decode b_CJ_type 46 = .ok (.iload_n 3, 1) := by decide +kernel
theorem dCJ_type_47 : decode b_CJ_type 47 = .ok (.ifCond .ne 16, 3) := by decide +kernel
theorem dCJ_type_50 : decode b_CJ_type 50 = .ok (.aload_n 0, 1) := by decide +kernel
theorem dCJ_type_51 : decode b_CJ_type 51 = .ok (.getfield 19, 3) := by decide +kernel
theorem dCJ_type_54 : decode b_CJ_type 54 = .ok (.iload_n 2, 1) := by decide +kernel
theorem dCJ_type_55 : decode b_CJ_type 55 = .ok (.iload 4, 2) := by decide +kernel
theorem dCJ_type_57 : decode b_CJ_type 57 = .ok (.invokevirtual 96, 3) := by decide +kernel
theorem dCJ_type_60 : decode b_CJ_type 60 = .ok (.goto 13, 3) := by decide +kernel
theorem dCJ_type_63 : decode b_CJ_type 63 = .ok (.aload_n 0, 1) := by decide +kernel
theorem dCJ_type_64 : decode b_CJ_type 64 = .ok (.getfield 19, 3) := by decide +kernel
theorem dCJ_type_67 : decode b_CJ_type 67 = .ok (.iload_n 2, 1) := by decide +kernel
theorem dCJ_type_68 : decode b_CJ_type 68 = .ok (.iload 4, 2) := by decide +kernel
theorem dCJ_type_70 : decode b_CJ_type 70 = .ok (.invokevirtual 100, 3) := by decide +kernel
theorem dCJ_type_73 : decode b_CJ_type 73 = .ok (.ireturn, 1) := by decide +kernel
theorem dCJ_value_0 : decode b_CJ_value 0 = .ok (.aload_n 0, 1) := by decide +kernel
theorem dCJ_value_1 : decode b_CJ_value 1 = .ok (.getfield 26, 3) := by decide +kernel
theorem dCJ_value_4 : decode b_CJ_value 4 = .ok (.getfield 128, 3) := by decide +kernel
theorem dCJ_value_7 : decode b_CJ_value 7 = .ok (.ifCond .eq 16, 3) := by decide +kernel
theorem dCJ_value_10 : decode b_CJ_value 10 = .ok (.aload_n 0, 1) := by decide +kernel
theorem dCJ_value_11 : decode b_CJ_value 11 = .ok (.getfield 26, 3) := by decide +kernel
theorem dCJ_value_14 : decode b_CJ_value 14 = .ok (.getfield 129, 3) := by decide +kernel
theorem dCJ_value_17 : decode b_CJ_value 17 = .ok (.getfield 133, 3) := by decide +kernel
theorem dCJ_value_20 : decode b_CJ_value 20 = .ok (.ifCond .ne 11, 3) := by decide +kernel
theorem dCJ_value_23 : decode b_CJ_value 23 = .ok (.new 34, 3) := by decide +kernel
theorem dCJ_value_26 : decode b_CJ_value 26 = .ok (.dup, 1) := by decide +kernel
theorem dCJ_value_27 : decode b_CJ_value 27 = .ok (.invokespecial 36, 3) := by decide +kernel
theorem dCJ_value_30 : decode b_CJ_value 30 = .ok (.athrow, 1) := by decide +kernel
theorem dCJ_value_31 : decode b_CJ_value 31 = .ok (.aload_n 0, 1) := by decide +kernel
theorem dCJ_value_32 : decode b_CJ_value 32 = .ok (.getfield 26, 3) := by decide +kernel
theorem dCJ_value_35 : decode b_CJ_value 35 = .ok (.getfield 129, 3) := by decide +kernel
theorem dCJ_value_38 : decode b_CJ_value 38 = .ok (.astore_n 3, 1) := by decide +kernel
theorem dCJ_value_39 : decode b_CJ_value 39 = .ok (.iload_n 1, 1) := by decide +kernel
theorem dCJ_value_40 : decode b_CJ_value 40 = .ok (.ifCond .ne 20, 3) := by decide +kernel
theorem dCJ_value_43 : decode b_CJ_value 43 = .ok (.iload_n 2, 1) := by decide +kernel
theorem dCJ_value_44 : decode b_CJ_value 44 = .ok (.aload_n 3, 1) := by decide +kernel
theorem dCJ_value_45 : decode b_CJ_value 45 = .ok (.invokevirtual 138, 3) := by decide +kernel
theorem dCJ_value_48 : decode b_CJ_value 48 = .ok (.invokestatic 30, 3) := by decide +kernel
theorem dCJ_value_51 : decode b_CJ_value 51 = .ok (.ifCond .eq 9, 3) := by decide +kernel
theorem dCJ_value_54 : decode b_CJ_value 54 = .ok (.aload_n 3, 1) := by decide +kernel
theorem dCJ_value_55 : decode b_CJ_value 55 = .ok (.iload_n 2, 1) := by decide +kernel
theorem dCJ_value_56 : decode b_CJ_value 56 = .ok (.invokevirtual 142, 3) := by decide +kernel
theorem dCJ_value_59 : decode b_CJ_value 59 = .ok (.ireturn, 1) := by decide +kernel
theorem dCJ_value_60 : decode b_CJ_value 60 = .ok (.iload_n 1, 1) := by decide +kernel
theorem dCJ_value_61 : decode b_CJ_value 61 = .ok (.iconst 1, 1) := by decide +kernel
theorem dCJ_value_62 : decode b_CJ_value 62 = .ok (.if_icmp .ne 28, 3) := by decide +kernel
theorem dCJ_value_65 : decode b_CJ_value 65 = .ok (.iload_n 2, 1) := by decide +kernel
theorem dCJ_value_66 : decode b_CJ_value 66 = .ok (.aload_n 0, 1) := by decide +kernel
theorem dCJ_value_67 : decode b_CJ_value 67 = .ok (.getfield 11, 3) := by decide +kernel
theorem dCJ_value_70 : decode b_CJ_value 70 = .ok (.aload_n 3, 1) := by decide +kernel
theorem dCJ_value_71 : decode b_CJ_value 71 = .ok (.invokevirtual 145, 3) := by decide +kernel
theorem dCJ_value_74 : decode b_CJ_value 74 = .ok (.aaload, 1) := by decide +kernel
theorem dCJ_value_75 : decode b_CJ_value 75 = .ok (.getfield 93, 3) := by decide +kernel
theorem dCJ_value_78 : decode b_CJ_value 78 = .ok (.invokestatic 30, 3) := by decide +kernel
theorem dCJ_value_81 : decode b_CJ_value 81 = .ok (.ifCond .eq 9, 3) := by decide +kernel
theorem dCJ_value_84 : decode b_CJ_value 84 = .ok (.aload_n 3, 1) := by decide +kernel
theorem dCJ_value_85 : decode b_CJ_value 85 = .ok (.iload_n 2, 1) := by decide +kernel
theorem dCJ_value_86 : decode b_CJ_value 86 = .ok (.invokevirtual 148, 3) := by decide +kernel
theorem dCJ_value_89 : decode b_CJ_value 89 = .ok (.ireturn, 1) := by decide +kernel
theorem dCJ_value_90 : decode b_CJ_value 90 = .ok (.new 34, 3) := by decide +kernel
theorem dCJ_value_93 : decode b_CJ_value 93 = .ok (.dup, 1) := by decide +kernel
theorem dCJ_value_94 : decode b_CJ_value 94 = .ok (.invokespecial 36, 3) := by decide +kernel
theorem dCJ_value_97 : decode b_CJ_value 97 = .ok (.athrow, 1) := by decide +kernel
theorem dFr_enter_0 : decode b_Fr_enter 0 = .ok (.aload_n 0, 1) := by decide +kernel
theorem dFr_enter_1 : decode b_Fr_enter 1 = .ok (.getfield 27, 3) := by decide +kernel
theorem dFr_enter_4 : decode b_Fr_enter 4 = .ok (.bipush 50, 2) := by decide +kernel
theorem dFr_enter_6 : decode b_Fr_enter 6 = .ok (.if_icmp .lt 4, 3) := by decide +kernel
theorem dFr_enter_9 : decode b_Fr_enter 9 = .ok (.return_, 1) := by decide +kernel
theorem dFr_enter_10 : decode b_Fr_enter 10 = .ok (.aload_n 0, 1) := by decide +kernel
theorem dFr_enter_11 : decode b_Fr_enter 11 = .ok (.getfield 11, 3) := by decide +kernel
theorem dFr_enter_14 : decode b_Fr_enter 14 = .ok (.aload_n 0, 1) := by decide +kernel
theorem dFr_enter_15 : decode b_Fr_enter 15 = .ok (.getfield 27, 3) := by decide +kernel
theorem dFr_enter_18 : decode b_Fr_enter 18 = .ok (.iload_n 1, 1) := by decide +kernel
theorem dFr_enter_19 : decode b_Fr_enter 19 = .ok (.iastore, 1) := by decide +kernel
theorem dFr_enter_20 : decode b_Fr_enter 20 = .ok (.aload_n 0, 1) := by decide +kernel
theorem dFr_enter_21 : decode b_Fr_enter 21 = .ok (.getfield 15, 3) := by decide +kernel
theorem dFr_enter_24 : decode b_Fr_enter 24 = .ok (.aload_n 0, 1) := by decide +kernel
theorem dFr_enter_25 : decode b_Fr_enter 25 = .ok (.getfield 27, 3) := by decide +kernel
theorem dFr_enter_28 : decode b_Fr_enter 28 = .ok (.iconst 0, 1) := by decide +kernel
theorem dFr_enter_29 : decode b_Fr_enter 29 = .ok (.iastore, 1) := by decide +kernel
theorem dFr_enter_30 : decode b_Fr_enter 30 = .ok (.aload_n 0, 1) := by decide +kernel
theorem dFr_enter_31 : decode b_Fr_enter 31 = .ok (.getfield 18, 3) := by decide +kernel
theorem dFr_enter_34 : decode b_Fr_enter 34 = .ok (.aload_n 0, 1) := by decide +kernel
theorem dFr_enter_35 : decode b_Fr_enter 35 = .ok (.getfield 27, 3) := by decide +kernel
theorem dFr_enter_38 : decode b_Fr_enter 38 = .ok (.iconst 0, 1) := by decide +kernel
theorem dFr_enter_39 : decode b_Fr_enter 39 = .ok (.iastore, 1) := by decide +kernel
theorem dFr_enter_40 : decode b_Fr_enter 40 = .ok (.iconst 0, 1) := by decide +kernel
theorem dFr_enter_41 : decode b_Fr_enter 41 = .ok (.istore_n 2, 1) := by decide +kernel
theorem dFr_enter_42 : decode b_Fr_enter 42 = .ok (.iload_n 2, 1) := by decide +kernel
theorem dFr_enter_43 : decode b_Fr_enter 43 = .ok (.bipush 10, 2) := by decide +kernel
theorem dFr_enter_45 : decode b_Fr_enter 45 = .ok (.if_icmp .ge 24, 3) := by decide +kernel
theorem dFr_enter_48 : decode b_Fr_enter 48 = .ok (.aload_n 0, 1) := by decide +kernel
theorem dFr_enter_49 : decode b_Fr_enter 49 = .ok (.getfield 21, 3) := by decide +kernel
theorem dFr_enter_52 : decode b_Fr_enter 52 = .ok (.aload_n 0, 1) := by decide +kernel
theorem dFr_enter_53 : decode b_Fr_enter 53 = .ok (.getfield 27, 3) := by decide +kernel
theorem dFr_enter_56 : decode b_Fr_enter 56 = .ok (.bipush 10, 2) := by decide +kernel
theorem dFr_enter_58 : decode b_Fr_enter 58 = .ok (.imul, 1) := by decide +kernel
theorem dFr_enter_59 : decode b_Fr_enter 59 = .ok (.iload_n 2, 1) := by decide +kernel
theorem dFr_enter_60 : decode b_Fr_enter 60 = .ok (.iadd, 1) := by decide +kernel
theorem dFr_enter_61 : decode b_Fr_enter 61 = .ok (.iconst 0, 1) := by decide +kernel
theorem dFr_enter_62 : decode b_Fr_enter 62 = .ok (.iastore, 1) := by decide +kernel
theorem dFr_enter_63 : decode b_Fr_enter 63 = .ok (.iinc 2 1, 3) := by decide +kernel
theorem dFr_enter_66 : decode b_Fr_enter 66 = .ok (.goto (-24), 3) := by decide +kernel
theorem dFr_enter_69 : decode b_Fr_enter 69 = .ok (.aload_n 0, 1) := by decide +kernel
theorem dFr_enter_70 : decode b_Fr_enter 70 = .ok (.dup, 1) := by decide +kernel
theorem dFr_enter_71 : decode b_Fr_enter 71 = .ok (.getfield 27, 3) := by decide +kernel
theorem dFr_enter_74 : decode b_Fr_enter 74 = .ok (.iconst 1, 1) := by decide +kernel
theorem dFr_enter_75 : decode b_Fr_enter 75 = .ok (.iadd, 1) := by decide +kernel
theorem dFr_enter_76 : decode b_Fr_enter 76 = .ok (.putfield 27, 3) := by decide +kernel
theorem dFr_enter_79 : decode b_Fr_enter 79 = .ok (.return_, 1) := by decide +kernel
theorem dFr_enterWith_0 : decode b_Fr_enterWith 0 = .ok (.aload_n 0, 1) := by decide +kernel
theorem dFr_enterWith_1 : decode b_Fr_enterWith 1 = .ok (.getfield 27, 3) := by decide +kernel
theorem dFr_enterWith_4 : decode b_Fr_enterWith 4 = .ok (.iconst 1, 1) := by decide +kernel
theorem dFr_enterWith_5 : decode b_Fr_enterWith 5 = .ok (.isub, 1) := by decide +kernel
theorem dFr_enterWith_6 : decode b_Fr_enterWith 6 = .ok (.istore_n 3, 1) := by decide +kernel
theorem dFr_enterWith_7 : decode b_Fr_enterWith 7 = .ok (.aload_n 0, 1) := by decide +kernel
theorem dFr_enterWith_8 : decode b_Fr_enterWith 8 = .ok (.getfield 27, 3) := by decide +kernel
theorem dFr_enterWith_11 : decode b_Fr_enterWith 11 = .ok (.ifCond .eq 22, 3) := by decide +kernel
theorem dFr_enterWith_14 : decode b_Fr_enterWith 14 = .ok (.aload_n 0, 1) := by decide +kernel
theorem dFr_enterWith_15 : decode b_Fr_enterWith 15 = .ok (.getfield 27, 3) := by decide +kernel
theorem dFr_enterWith_18 : decode b_Fr_enterWith 18 = .ok (.bipush 50, 2) := by decide +kernel
theorem dFr_enterWith_20 : decode b_Fr_enterWith 20 = .ok (.if_icmp .ge 13, 3) := by decide +kernel
theorem dFr_enterWith_23 : decode b_Fr_enterWith 23 = .ok (.aload_n 0, 1) := by decide +kernel
theorem dFr_enterWith_24 : decode b_Fr_enterWith 24 = .ok (.getfield 18, 3) := by decide +kernel
theorem dFr_enterWith_27 : decode b_Fr_enterWith 27 = .ok (.iload_n 3, 1) := by decide +kernel
theorem dFr_enterWith_28 : decode b_Fr_enterWith 28 = .ok (.iaload, 1) := by decide +kernel
theorem dFr_enterWith_29 : decode b_Fr_enterWith 29 = .ok (.iload_n 2, 1) := by decide +kernel
theorem dFr_enterWith_30 : decode b_Fr_enterWith 30 = .ok (.if_icmp .ge 4, 3) := by decide +kernel
theorem dFr_enterWith_33 : decode b_Fr_enterWith 33 = .ok (.return_, 1) := by decide +kernel
theorem dFr_enterWith_34 : decode b_Fr_enterWith 34 = .ok (.aload_n 0, 1) := by decide +kernel
theorem dFr_enterWith_35 : decode b_Fr_enterWith 35 = .ok (.iload_n 1, 1) := by decide +kernel
theorem dFr_enterWith_36 : decode b_Fr_enterWith 36 = .ok (.invokevirtual 31, 3) := by decide +kernel
theorem dFr_enterWith_39 : decode b_Fr_enterWith 39 = .ok (.aload_n 0, 1) := by decide +kernel
theorem dFr_enterWith_40 : decode b_Fr_enterWith 40 = .ok (.getfield 18, 3) := by decide +kernel
theorem dFr_enterWith_43 : decode b_Fr_enterWith 43 = .ok (.iload_n 3, 1) := by decide +kernel
theorem dFr_enterWith_44 : decode b_Fr_enterWith 44 = .ok (.dup2, 1) := by decide +kernel
theorem dFr_enterWith_45 : decode b_Fr_enterWith 45 = .ok (.iaload, 1) := by decide +kernel
theorem dFr_enterWith_46 : decode b_Fr_enterWith 46 = .ok (.iload_n 2, 1) := by decide +kernel
theorem dFr_enterWith_47 : decode b_Fr_enterWith 47 = .ok (.isub, 1) := by decide +kernel
theorem dFr_enterWith_48 : decode b_Fr_enterWith 48 = .ok (.iastore, 1) := by decide +kernel
theorem dFr_enterWith_49 : decode b_Fr_enterWith 49 = .ok (.iconst 0, 1) := by decide +kernel
theorem dFr_enterWith_50 : decode b_Fr_enterWith 50 = .ok (.istore 4, 2) := by decide +kernel
theorem dFr_enterWith_52 : decode b_Fr_enterWith 52 = .ok (.iload 4, 2) := by decide +kernel
theorem dFr_enterWith_54 : decode b_Fr_enterWith 54 = .ok (.iload_n 2, 1) := by decide +kernel
theorem dFr_enterWith_55 : decode b_Fr_enterWith 55 = .ok (.if_icmp .ge 34, 3) := by decide +kernel
theorem dFr_enterWith_58 : decode b_Fr_enterWith 58 = .ok (.aload_n 0, 1) := by decide +kernel
theorem dFr_enterWith_59 : decode b_Fr_enterWith 59 = .ok (.iload 4, 2) := by decide +kernel
theorem dFr_enterWith_61 : decode b_Fr_enterWith 61 = .ok (.aload_n 0, 1) := by decide +kernel
theorem dFr_enterWith_62 : decode b_Fr_enterWith 62 = .ok (.getfield 24, 3) := by decide +kernel
theorem dFr_enterWith_65 : decode b_Fr_enterWith 65 = .ok (.iload_n 3, 1) := by decide +kernel
theorem dFr_enterWith_66 : decode b_Fr_enterWith 66 = .ok (.bipush 15, 2) := by decide +kernel
theorem dFr_enterWith_68 : decode b_Fr_enterWith 68 = .ok (.imul, 1) := by decide +kernel
theorem dFr_enterWith_69 : decode b_Fr_enterWith 69 = .ok (.aload_n 0, 1) := by decide +kernel
theorem dFr_enterWith_70 : decode b_Fr_enterWith 70 = .ok (.getfield 18, 3) := by decide +kernel
theorem dFr_enterWith_73 : decode b_Fr_enterWith 73 = .ok (.iload_n 3, 1) := by decide +kernel
theorem dFr_enterWith_74 : decode b_Fr_enterWith 74 = .ok (.iaload, 1) := by decide +kernel
theorem dFr_enterWith_75 : decode b_Fr_enterWith 75 = .ok (.iadd, 1) := by decide +kernel
theorem dFr_enterWith_76 : decode b_Fr_enterWith 76 = .ok (.iload 4, 2) := by decide +kernel
theorem dFr_enterWith_78 : decode b_Fr_enterWith 78 = .ok (.iadd, 1) := by decide +kernel
theorem dFr_enterWith_79 : decode b_Fr_enterWith 79 = .ok (.iaload, 1) := by decide +kernel
theorem dFr_enterWith_80 : decode b_Fr_enterWith 80 = .ok (.invokevirtual 35, 3) := by decide +kernel
theorem dFr_enterWith_83 : decode b_Fr_enterWith 83 = .ok (.iinc 4 1, 3) := by decide +kernel
theorem dFr_enterWith_86 : decode b_Fr_enterWith 86 = .ok (.goto (-34), 3) := by decide +kernel
theorem dFr_enterWith_89 : decode b_Fr_enterWith 89 = .ok (.return_, 1) := by decide +kernel
theorem dFr_fromTop_0 : decode b_Fr_fromTop 0 = .ok (.aload_n 0, 1) := by decide +kernel
theorem dFr_fromTop_1 : decode b_Fr_fromTop 1 = .ok (.aload_n 0, 1) := by decide +kernel
theorem dFr_fromTop_2 : decode b_Fr_fromTop 2 = .ok (.invokevirtual 43, 3) := by decide +kernel
theorem dFr_fromTop_5 : decode b_Fr_fromTop 5 = .ok (.iconst 1, 1) := by decide +kernel
theorem dFr_fromTop_6 : decode b_Fr_fromTop 6 = .ok (.isub, 1) := by decide +kernel
theorem dFr_fromTop_7 : decode b_Fr_fromTop 7 = .ok (.iload_n 1, 1) := by decide +kernel
theorem dFr_fromTop_8 : decode b_Fr_fromTop 8 = .ok (.isub, 1) := by decide +kernel
theorem dFr_fromTop_9 : decode b_Fr_fromTop 9 = .ok (.invokevirtual 47, 3) := by decide +kernel
theorem dFr_fromTop_12 : decode b_Fr_fromTop 12 = .ok (.ireturn, 1) := by decide +kernel
theorem dFr_go_0 : decode b_Fr_go 0 = .ok (.aload_n 0, 1) := by decide +kernel
theorem dFr_go_1 : decode b_Fr_go 1 = .ok (.getfield 27, 3) := by decide +kernel
theorem dFr_go_4 : decode b_Fr_go 4 = .ok (.ifCond .le 15, 3) := by decide +kernel
theorem dFr_go_7 : decode b_Fr_go 7 = .ok (.aload_n 0, 1) := by decide +kernel
theorem dFr_go_8 : decode b_Fr_go 8 = .ok (.getfield 15, 3) := by decide +kernel
theorem dFr_go_11 : decode b_Fr_go 11 = .ok (.aload_n 0, 1) := by decide +kernel
theorem dFr_go_12 : decode b_Fr_go 12 = .ok (.getfield 27, 3) := by decide +kernel
theorem dFr_go_15 : decode b_Fr_go 15 = .ok (.iconst 1, 1) := by decide +kernel
theorem dFr_go_16 : decode b_Fr_go 16 = .ok (.isub, 1) := by decide +kernel
theorem dFr_go_17 : decode b_Fr_go 17 = .ok (.iload_n 1, 1) := by decide +kernel
theorem dFr_go_18 : decode b_Fr_go 18 = .ok (.iastore, 1) := by decide +kernel
theorem dFr_go_19 : decode b_Fr_go 19 = .ok (.return_, 1) := by decide +kernel
theorem dFr_inLocal_0 : decode b_Fr_inLocal 0 = .ok (.aload_n 0, 1) := by decide +kernel
theorem dFr_inLocal_1 : decode b_Fr_inLocal 1 = .ok (.getfield 27, 3) := by decide +kernel
theorem dFr_inLocal_4 : decode b_Fr_inLocal 4 = .ok (.ifCond .le 31, 3) := by decide +kernel
theorem dFr_inLocal_7 : decode b_Fr_inLocal 7 = .ok (.iload_n 1, 1) := by decide +kernel
theorem dFr_inLocal_8 : decode b_Fr_inLocal 8 = .ok (.bipush 10, 2) := by decide +kernel
theorem dFr_inLocal_10 : decode b_Fr_inLocal 10 = .ok (.invokestatic 39, 3) := by decide +kernel
theorem dFr_inLocal_13 : decode b_Fr_inLocal 13 = .ok (.ifCond .eq 22, 3) := by decide +kernel
theorem dFr_inLocal_16 : decode b_Fr_inLocal 16 = .ok (.aload_n 0, 1) := by decide +kernel
theorem dFr_inLocal_17 : decode b_Fr_inLocal 17 = .ok (.getfield 21, 3) := by decide +kernel
theorem dFr_inLocal_20 : decode b_Fr_inLocal 20 = .ok (.aload_n 0, 1) := by decide +kernel
theorem dFr_inLocal_21 : decode b_Fr_inLocal 21 = .ok (.getfield 27, 3) := by decide +kernel
theorem dFr_inLocal_24 : decode b_Fr_inLocal 24 = .ok (.iconst 1, 1) := by decide +kernel
theorem dFr_inLocal_25 : decode b_Fr_inLocal 25 = .ok (.isub, 1) := by decide +kernel
theorem dFr_inLocal_26 : decode b_Fr_inLocal 26 = .ok (.bipush 10, 2) := by decide +kernel
theorem dFr_inLocal_28 : decode b_Fr_inLocal 28 = .ok (.imul, 1) := by decide +kernel
theorem dFr_inLocal_29 : decode b_Fr_inLocal 29 = .ok (.iload_n 1, 1) := by decide +kernel
theorem dFr_inLocal_30 : decode b_Fr_inLocal 30 = .ok (.iadd, 1) := by decide +kernel
theorem dFr_inLocal_31 : decode b_Fr_inLocal 31 = .ok (.iaload, 1) := by decide +kernel
theorem dFr_inLocal_32 : decode b_Fr_inLocal 32 = .ok (.goto 4, 3) := by decide +kernel
theorem dFr_inLocal_35 : decode b_Fr_inLocal 35 = .ok (.iconst 0, 1) := by decide +kernel
theorem dFr_inLocal_36 : decode b_Fr_inLocal 36 = .ok (.ireturn, 1) := by decide +kernel
theorem dFr_init_0 : decode b_Fr_init 0 = .ok (.aload_n 0, 1) := by decide +kernel
theorem dFr_init_1 : decode b_Fr_init 1 = .ok (.invokespecial 3, 3) := by decide +kernel
theorem dFr_init_4 : decode b_Fr_init 4 = .ok (.aload_n 0, 1) := by decide +kernel
theorem dFr_init_5 : decode b_Fr_init 5 = .ok (.bipush 50, 2) := by decide +kernel
theorem dFr_init_7 : decode b_Fr_init 7 = .ok (.newarray .int, 2) := by decide +kernel
theorem dFr_init_9 : decode b_Fr_init 9 = .ok (.putfield 11, 3) := by decide +kernel
theorem dFr_init_12 : decode b_Fr_init 12 = .ok (.aload_n 0, 1) := by decide +kernel
theorem dFr_init_13 : decode b_Fr_init 13 = .ok (.bipush 50, 2) := by decide +kernel
theorem dFr_init_15 : decode b_Fr_init 15 = .ok (.newarray .int, 2) := by decide +kernel
theorem dFr_init_17 : decode b_Fr_init 17 = .ok (.putfield 15, 3) := by decide +kernel
theorem dFr_init_20 : decode b_Fr_init 20 = .ok (.aload_n 0, 1) := by decide +kernel
theorem dFr_init_21 : decode b_Fr_init 21 = .ok (.bipush 50, 2) := by decide +kernel
theorem dFr_init_23 : decode b_Fr_init 23 = .ok (.newarray .int, 2) := by decide +kernel
theorem dFr_init_25 : decode b_Fr_init 25 = .ok (.putfield 18, 3) := by decide +kernel
theorem dFr_init_28 : decode b_Fr_init 28 = .ok (.aload_n 0, 1) := by decide +kernel
theorem dFr_init_29 : decode b_Fr_init 29 = .ok (.sipush 500, 3) := by decide +kernel
theorem dFr_init_32 : decode b_Fr_init 32 = .ok (.newarray .int, 2) := by decide +kernel
theorem dFr_init_34 : decode b_Fr_init 34 = .ok (.putfield 21, 3) := by decide +kernel
theorem dFr_init_37 : decode b_Fr_init 37 = .ok (.aload_n 0, 1) := by decide +kernel
theorem dFr_init_38 : decode b_Fr_init 38 = .ok (.sipush 750, 3) := by decide +kernel
theorem dFr_init_41 : decode b_Fr_init 41 = .ok (.newarray .int, 2) := by decide +kernel
theorem dFr_init_43 : decode b_Fr_init 43 = .ok (.putfield 24, 3) := by decide +kernel
theorem dFr_init_46 : decode b_Fr_init 46 = .ok (.return_, 1) := by decide +kernel
theorem dFr_leave_0 : decode b_Fr_leave 0 = .ok (.aload_n 0, 1) := by decide +kernel
theorem dFr_leave_1 : decode b_Fr_leave 1 = .ok (.getfield 27, 3) := by decide +kernel
theorem dFr_leave_4 : decode b_Fr_leave 4 = .ok (.ifCond .le 13, 3) := by decide +kernel
theorem dFr_leave_7 : decode b_Fr_leave 7 = .ok (.aload_n 0, 1) := by decide +kernel
theorem dFr_leave_8 : decode b_Fr_leave 8 = .ok (.dup, 1) := by decide +kernel
theorem dFr_leave_9 : decode b_Fr_leave 9 = .ok (.getfield 27, 3) := by decide +kernel
theorem dFr_leave_12 : decode b_Fr_leave 12 = .ok (.iconst 1, 1) := by decide +kernel
theorem dFr_leave_13 : decode b_Fr_leave 13 = .ok (.isub, 1) := by decide +kernel
theorem dFr_leave_14 : decode b_Fr_leave 14 = .ok (.putfield 27, 3) := by decide +kernel
theorem dFr_leave_17 : decode b_Fr_leave 17 = .ok (.return_, 1) := by decide +kernel
theorem dFr_onStack_0 : decode b_Fr_onStack 0 = .ok (.iload_n 1, 1) := by decide +kernel
theorem dFr_onStack_1 : decode b_Fr_onStack 1 = .ok (.aload_n 0, 1) := by decide +kernel
theorem dFr_onStack_2 : decode b_Fr_onStack 2 = .ok (.invokevirtual 43, 3) := by decide +kernel
theorem dFr_onStack_5 : decode b_Fr_onStack 5 = .ok (.invokestatic 39, 3) := by decide +kernel
theorem dFr_onStack_8 : decode b_Fr_onStack 8 = .ok (.ifCond .eq 22, 3) := by decide +kernel
theorem dFr_onStack_11 : decode b_Fr_onStack 11 = .ok (.aload_n 0, 1) := by decide +kernel
theorem dFr_onStack_12 : decode b_Fr_onStack 12 = .ok (.getfield 24, 3) := by decide +kernel
theorem dFr_onStack_15 : decode b_Fr_onStack 15 = .ok (.aload_n 0, 1) := by decide +kernel
theorem dFr_onStack_16 : decode b_Fr_onStack 16 = .ok (.getfield 27, 3) := by decide +kernel
theorem dFr_onStack_19 : decode b_Fr_onStack 19 = .ok (.iconst 1, 1) := by decide +kernel
theorem dFr_onStack_20 : decode b_Fr_onStack 20 = .ok (.isub, 1) := by decide +kernel
theorem dFr_onStack_21 : decode b_Fr_onStack 21 = .ok (.bipush 15, 2) := by decide +kernel
theorem dFr_onStack_23 : decode b_Fr_onStack 23 = .ok (.imul, 1) := by decide +kernel
theorem dFr_onStack_24 : decode b_Fr_onStack 24 = .ok (.iload_n 1, 1) := by decide +kernel
theorem dFr_onStack_25 : decode b_Fr_onStack 25 = .ok (.iadd, 1) := by decide +kernel
theorem dFr_onStack_26 : decode b_Fr_onStack 26 = .ok (.iaload, 1) := by decide +kernel
theorem dFr_onStack_27 : decode b_Fr_onStack 27 = .ok (.goto 4, 3) := by decide +kernel
theorem dFr_onStack_30 : decode b_Fr_onStack 30 = .ok (.iconst 0, 1) := by decide +kernel
theorem dFr_onStack_31 : decode b_Fr_onStack 31 = .ok (.ireturn, 1) := by decide +kernel
theorem dFr_pop_0 : decode b_Fr_pop 0 = .ok (.aload_n 0, 1) := by decide +kernel
theorem dFr_pop_1 : decode b_Fr_pop 1 = .ok (.getfield 27, 3) := by decide +kernel
theorem dFr_pop_4 : decode b_Fr_pop 4 = .ok (.ifCond .eq 17, 3) := by decide +kernel
theorem dFr_pop_7 : decode b_Fr_pop 7 = .ok (.aload_n 0, 1) := by decide +kernel
theorem dFr_pop_8 : decode b_Fr_pop 8 = .ok (.getfield 18, 3) := by decide +kernel
theorem dFr_pop_11 : decode b_Fr_pop 11 = .ok (.aload_n 0, 1) := by decide +kernel
theorem dFr_pop_12 : decode b_Fr_pop 12 = .ok (.getfield 27, 3) := by decide +kernel
theorem dFr_pop_15 : decode b_Fr_pop 15 = .ok (.iconst 1, 1) := by decide +kernel
theorem dFr_pop_16 : decode b_Fr_pop 16 = .ok (.isub, 1) := by decide +kernel
theorem dFr_pop_17 : decode b_Fr_pop 17 = .ok (.iaload, 1) := by decide +kernel
theorem dFr_pop_18 : decode b_Fr_pop 18 = .ok (.ifCond .ne 5, 3) := by decide +kernel
theorem dFr_pop_21 : decode b_Fr_pop 21 = .ok (.iconst 0, 1) := by decide +kernel
theorem dFr_pop_22 : decode b_Fr_pop 22 = .ok (.ireturn, 1) := by decide +kernel
theorem dFr_pop_23 : decode b_Fr_pop 23 = .ok (.aload_n 0, 1) := by decide +kernel
theorem dFr_pop_24 : decode b_Fr_pop 24 = .ok (.getfield 18, 3) := by decide +kernel
theorem dFr_pop_27 : decode b_Fr_pop 27 = .ok (.aload_n 0, 1) := by decide +kernel
theorem dFr_pop_28 : decode b_Fr_pop 28 = .ok (.getfield 27, 3) := by decide +kernel
theorem dFr_pop_31 : decode b_Fr_pop 31 = .ok (.iconst 1, 1) := by decide +kernel
theorem dFr_pop_32 : decode b_Fr_pop 32 = .ok (.isub, 1) := by decide +kernel
theorem dFr_pop_33 : decode b_Fr_pop 33 = .ok (.dup2, 1) := by decide +kernel
theorem dFr_pop_34 : decode b_Fr_pop 34 = .ok (.iaload, 1) := by decide +kernel
theorem dFr_pop_35 : decode b_Fr_pop 35 = .ok (.iconst 1, 1) := by decide +kernel
theorem dFr_pop_36 : decode b_Fr_pop 36 = .ok (.isub, 1) := by decide +kernel
theorem dFr_pop_37 : decode b_Fr_pop 37 = .ok (.iastore, 1) := by decide +kernel
theorem dFr_pop_38 : decode b_Fr_pop 38 = .ok (.aload_n 0, 1) := by decide +kernel
theorem dFr_pop_39 : decode b_Fr_pop 39 = .ok (.getfield 24, 3) := by decide +kernel
theorem dFr_pop_42 : decode b_Fr_pop 42 = .ok (.aload_n 0, 1) := by decide +kernel
theorem dFr_pop_43 : decode b_Fr_pop 43 = .ok (.getfield 27, 3) := by decide +kernel
theorem dFr_pop_46 : decode b_Fr_pop 46 = .ok (.iconst 1, 1) := by decide +kernel
theorem dFr_pop_47 : decode b_Fr_pop 47 = .ok (.isub, 1) := by decide +kernel
theorem dFr_pop_48 : decode b_Fr_pop 48 = .ok (.bipush 15, 2) := by decide +kernel
theorem dFr_pop_50 : decode b_Fr_pop 50 = .ok (.imul, 1) := by decide +kernel
theorem dFr_pop_51 : decode b_Fr_pop 51 = .ok (.aload_n 0, 1) := by decide +kernel
theorem dFr_pop_52 : decode b_Fr_pop 52 = .ok (.getfield 18, 3) := by decide +kernel
theorem dFr_pop_55 : decode b_Fr_pop 55 = .ok (.aload_n 0, 1) := by decide +kernel
theorem dFr_pop_56 : decode b_Fr_pop 56 = .ok (.getfield 27, 3) := by decide +kernel
theorem dFr_pop_59 : decode b_Fr_pop 59 = .ok (.iconst 1, 1) := by decide +kernel
theorem dFr_pop_60 : decode b_Fr_pop 60 = .ok (.isub, 1) := by decide +kernel
theorem dFr_pop_61 : decode b_Fr_pop 61 = .ok (.iaload, 1) := by decide +kernel
theorem dFr_pop_62 : decode b_Fr_pop 62 = .ok (.iadd, 1) := by decide +kernel
theorem dFr_pop_63 : decode b_Fr_pop 63 = .ok (.iaload, 1) := by decide +kernel
theorem dFr_pop_64 : decode b_Fr_pop 64 = .ok (.ireturn, 1) := by decide +kernel
theorem dFr_push_0 : decode b_Fr_push 0 = .ok (.aload_n 0, 1) := by decide +kernel
theorem dFr_push_1 : decode b_Fr_push 1 = .ok (.invokevirtual 43, 3) := by decide +kernel
theorem dFr_push_4 : decode b_Fr_push 4 = .ok (.istore_n 2, 1) := by decide +kernel
theorem dFr_push_5 : decode b_Fr_push 5 = .ok (.aload_n 0, 1) := by decide +kernel
theorem dFr_push_6 : decode b_Fr_push 6 = .ok (.getfield 27, 3) := by decide +kernel
theorem dFr_push_9 : decode b_Fr_push 9 = .ok (.ifCond .le 40, 3) := by decide +kernel
theorem dFr_push_12 : decode b_Fr_push 12 = .ok (.iload_n 2, 1) := by decide +kernel
theorem dFr_push_13 : decode b_Fr_push 13 = .ok (.bipush 15, 2) := by decide +kernel
theorem dFr_push_15 : decode b_Fr_push 15 = .ok (.if_icmp .ge 34, 3) := by decide +kernel
theorem dFr_push_18 : decode b_Fr_push 18 = .ok (.aload_n 0, 1) := by decide +kernel
theorem dFr_push_19 : decode b_Fr_push 19 = .ok (.getfield 24, 3) := by decide +kernel
theorem dFr_push_22 : decode b_Fr_push 22 = .ok (.aload_n 0, 1) := by decide +kernel
theorem dFr_push_23 : decode b_Fr_push 23 = .ok (.getfield 27, 3) := by decide +kernel
theorem dFr_push_26 : decode b_Fr_push 26 = .ok (.iconst 1, 1) := by decide +kernel
theorem dFr_push_27 : decode b_Fr_push 27 = .ok (.isub, 1) := by decide +kernel
theorem dFr_push_28 : decode b_Fr_push 28 = .ok (.bipush 15, 2) := by decide +kernel
theorem dFr_push_30 : decode b_Fr_push 30 = .ok (.imul, 1) := by decide +kernel
theorem dFr_push_31 : decode b_Fr_push 31 = .ok (.iload_n 2, 1) := by decide +kernel
theorem dFr_push_32 : decode b_Fr_push 32 = .ok (.iadd, 1) := by decide +kernel
theorem dFr_push_33 : decode b_Fr_push 33 = .ok (.iload_n 1, 1) := by decide +kernel
theorem dFr_push_34 : decode b_Fr_push 34 = .ok (.iastore, 1) := by decide +kernel
theorem dFr_push_35 : decode b_Fr_push 35 = .ok (.aload_n 0, 1) := by decide +kernel
theorem dFr_push_36 : decode b_Fr_push 36 = .ok (.getfield 18, 3) := by decide +kernel
theorem dFr_push_39 : decode b_Fr_push 39 = .ok (.aload_n 0, 1) := by decide +kernel
theorem dFr_push_40 : decode b_Fr_push 40 = .ok (.getfield 27, 3) := by decide +kernel
theorem dFr_push_43 : decode b_Fr_push 43 = .ok (.iconst 1, 1) := by decide +kernel
theorem dFr_push_44 : decode b_Fr_push 44 = .ok (.isub, 1) := by decide +kernel
theorem dFr_push_45 : decode b_Fr_push 45 = .ok (.iload_n 2, 1) := by decide +kernel
theorem dFr_push_46 : decode b_Fr_push 46 = .ok (.iconst 1, 1) := by decide +kernel
theorem dFr_push_47 : decode b_Fr_push 47 = .ok (.iadd, 1) := by decide +kernel
theorem dFr_push_48 : decode b_Fr_push 48 = .ok (.iastore, 1) := by decide +kernel
theorem dFr_push_49 : decode b_Fr_push 49 = .ok (.return_, 1) := by decide +kernel
theorem dFr_setLocal_0 : decode b_Fr_setLocal 0 = .ok (.aload_n 0, 1) := by decide +kernel
theorem dFr_setLocal_1 : decode b_Fr_setLocal 1 = .ok (.getfield 27, 3) := by decide +kernel
theorem dFr_setLocal_4 : decode b_Fr_setLocal 4 = .ok (.ifCond .le 29, 3) := by decide +kernel
theorem dFr_setLocal_7 : decode b_Fr_setLocal 7 = .ok (.iload_n 1, 1) := by decide +kernel
theorem dFr_setLocal_8 : decode b_Fr_setLocal 8 = .ok (.bipush 10, 2) := by decide +kernel
theorem dFr_setLocal_10 : decode b_Fr_setLocal 10 = .ok (.invokestatic 39, 3) := by decide +kernel
theorem dFr_setLocal_13 : decode b_Fr_setLocal 13 = .ok (.ifCond .eq 20, 3) := by decide +kernel
theorem dFr_setLocal_16 : decode b_Fr_setLocal 16 = .ok (.aload_n 0, 1) := by decide +kernel
theorem dFr_setLocal_17 : decode b_Fr_setLocal 17 = .ok (.getfield 21, 3) := by decide +kernel
theorem dFr_setLocal_20 : decode b_Fr_setLocal 20 = .ok (.aload_n 0, 1) := by decide +kernel
theorem dFr_setLocal_21 : decode b_Fr_setLocal 21 = .ok (.getfield 27, 3) := by decide +kernel
theorem dFr_setLocal_24 : decode b_Fr_setLocal 24 = .ok (.iconst 1, 1) := by decide +kernel
theorem dFr_setLocal_25 : decode b_Fr_setLocal 25 = .ok (.isub, 1) := by decide +kernel
theorem dFr_setLocal_26 : decode b_Fr_setLocal 26 = .ok (.bipush 10, 2) := by decide +kernel
theorem dFr_setLocal_28 : decode b_Fr_setLocal 28 = .ok (.imul, 1) := by decide +kernel
theorem dFr_setLocal_29 : decode b_Fr_setLocal 29 = .ok (.iload_n 1, 1) := by decide +kernel
theorem dFr_setLocal_30 : decode b_Fr_setLocal 30 = .ok (.iadd, 1) := by decide +kernel
theorem dFr_setLocal_31 : decode b_Fr_setLocal 31 = .ok (.iload_n 2, 1) := by decide +kernel
theorem dFr_setLocal_32 : decode b_Fr_setLocal 32 = .ok (.iastore, 1) := by decide +kernel
theorem dFr_setLocal_33 : decode b_Fr_setLocal 33 = .ok (.return_, 1) := by decide +kernel
theorem dFr_upperHeight_0 : decode b_Fr_upperHeight 0 = .ok (.aload_n 0, 1) := by decide +kernel
theorem dFr_upperHeight_1 : decode b_Fr_upperHeight 1 = .ok (.getfield 27, 3) := by decide +kernel
theorem dFr_upperHeight_4 : decode b_Fr_upperHeight 4 = .ok (.ifCond .le 17, 3) := by decide +kernel
theorem dFr_upperHeight_7 : decode b_Fr_upperHeight 7 = .ok (.aload_n 0, 1) := by decide +kernel
theorem dFr_upperHeight_8 : decode b_Fr_upperHeight 8 = .ok (.getfield 18, 3) := by decide +kernel
theorem dFr_upperHeight_11 : decode b_Fr_upperHeight 11 = .ok (.aload_n 0, 1) := by decide +kernel
theorem dFr_upperHeight_12 : decode b_Fr_upperHeight 12 = .ok (.getfield 27, 3) := by decide +kernel
theorem dFr_upperHeight_15 : decode b_Fr_upperHeight 15 = .ok (.iconst 1, 1) := by decide +kernel
theorem dFr_upperHeight_16 : decode b_Fr_upperHeight 16 = .ok (.isub, 1) := by decide +kernel
theorem dFr_upperHeight_17 : decode b_Fr_upperHeight 17 = .ok (.iaload, 1) := by decide +kernel
theorem dFr_upperHeight_18 : decode b_Fr_upperHeight 18 = .ok (.goto 4, 3) := by decide +kernel
theorem dFr_upperHeight_21 : decode b_Fr_upperHeight 21 = .ok (.iconst 0, 1) := by decide +kernel
theorem dFr_upperHeight_22 : decode b_Fr_upperHeight 22 = .ok (.ireturn, 1) := by decide +kernel
theorem dFr_upperMethod_0 : decode b_Fr_upperMethod 0 = .ok (.aload_n 0, 1) := by decide +kernel
theorem dFr_upperMethod_1 : decode b_Fr_upperMethod 1 = .ok (.getfield 27, 3) := by decide +kernel
theorem dFr_upperMethod_4 : decode b_Fr_upperMethod 4 = .ok (.ifCond .le 17, 3) := by decide +kernel
theorem dFr_upperMethod_7 : decode b_Fr_upperMethod 7 = .ok (.aload_n 0, 1) := by decide +kernel
theorem dFr_upperMethod_8 : decode b_Fr_upperMethod 8 = .ok (.getfield 11, 3) := by decide +kernel
theorem dFr_upperMethod_11 : decode b_Fr_upperMethod 11 = .ok (.aload_n 0, 1) := by decide +kernel
theorem dFr_upperMethod_12 : decode b_Fr_upperMethod 12 = .ok (.getfield 27, 3) := by decide +kernel
theorem dFr_upperMethod_15 : decode b_Fr_upperMethod 15 = .ok (.iconst 1, 1) := by decide +kernel
theorem dFr_upperMethod_16 : decode b_Fr_upperMethod 16 = .ok (.isub, 1) := by decide +kernel
theorem dFr_upperMethod_17 : decode b_Fr_upperMethod 17 = .ok (.iaload, 1) := by decide +kernel
theorem dFr_upperMethod_18 : decode b_Fr_upperMethod 18 = .ok (.goto 4, 3) := by decide +kernel
theorem dFr_upperMethod_21 : decode b_Fr_upperMethod 21 = .ok (.iconst (-1), 1) := by decide +kernel
theorem dFr_upperMethod_22 : decode b_Fr_upperMethod 22 = .ok (.ireturn, 1) := by decide +kernel
theorem dFr_upperPlace_0 : decode b_Fr_upperPlace 0 = .ok (.aload_n 0, 1) := by decide +kernel
theorem dFr_upperPlace_1 : decode b_Fr_upperPlace 1 = .ok (.getfield 27, 3) := by decide +kernel
theorem dFr_upperPlace_4 : decode b_Fr_upperPlace 4 = .ok (.ifCond .le 17, 3) := by decide +kernel
theorem dFr_upperPlace_7 : decode b_Fr_upperPlace 7 = .ok (.aload_n 0, 1) := by decide +kernel
theorem dFr_upperPlace_8 : decode b_Fr_upperPlace 8 = .ok (.getfield 15, 3) := by decide +kernel
theorem dFr_upperPlace_11 : decode b_Fr_upperPlace 11 = .ok (.aload_n 0, 1) := by decide +kernel
theorem dFr_upperPlace_12 : decode b_Fr_upperPlace 12 = .ok (.getfield 27, 3) := by decide +kernel
theorem dFr_upperPlace_15 : decode b_Fr_upperPlace 15 = .ok (.iconst 1, 1) := by decide +kernel
theorem dFr_upperPlace_16 : decode b_Fr_upperPlace 16 = .ok (.isub, 1) := by decide +kernel
theorem dFr_upperPlace_17 : decode b_Fr_upperPlace 17 = .ok (.iaload, 1) := by decide +kernel
theorem dFr_upperPlace_18 : decode b_Fr_upperPlace 18 = .ok (.goto 4, 3) := by decide +kernel
theorem dFr_upperPlace_21 : decode b_Fr_upperPlace 21 = .ok (.iconst (-1), 1) := by decide +kernel
theorem dFr_upperPlace_22 : decode b_Fr_upperPlace 22 = .ok (.ireturn, 1) := by decide +kernel
theorem dHe_clear_0 : decode b_He_clear 0 = .ok (.aload_n 0, 1) := by decide +kernel
theorem dHe_clear_1 : decode b_He_clear 1 = .ok (.iconst 0, 1) := by decide +kernel
theorem dHe_clear_2 : decode b_He_clear 2 = .ok (.putfield 21, 3) := by decide +kernel
theorem dHe_clear_5 : decode b_He_clear 5 = .ok (.aload_n 0, 1) := by decide +kernel
theorem dHe_clear_6 : decode b_He_clear 6 = .ok (.iconst 0, 1) := by decide +kernel
theorem dHe_clear_7 : decode b_He_clear 7 = .ok (.putfield 25, 3) := by decide +kernel
theorem dHe_clear_10 : decode b_He_clear 10 = .ok (.return_, 1) := by decide +kernel
theorem dHe_has_0 : decode b_He_has 0 = .ok (.iload_n 1, 1) := by decide +kernel
theorem dHe_has_1 : decode b_He_has 1 = .ok (.aload_n 0, 1) := by decide +kernel
theorem dHe_has_2 : decode b_He_has 2 = .ok (.getfield 21, 3) := by decide +kernel
theorem dHe_has_5 : decode b_He_has 5 = .ok (.invokestatic 32, 3) := by decide +kernel
theorem dHe_has_8 : decode b_He_has 8 = .ok (.ireturn, 1) := by decide +kernel
theorem dHe_hasCell_0 : decode b_He_hasCell 0 = .ok (.aload_n 0, 1) := by decide +kernel
theorem dHe_hasCell_1 : decode b_He_hasCell 1 = .ok (.iload_n 1, 1) := by decide +kernel
theorem dHe_hasCell_2 : decode b_He_hasCell 2 = .ok (.invokevirtual 36, 3) := by decide +kernel
theorem dHe_hasCell_5 : decode b_He_hasCell 5 = .ok (.ifCond .eq 20, 3) := by decide +kernel
theorem dHe_hasCell_8 : decode b_He_hasCell 8 = .ok (.iload_n 2, 1) := by decide +kernel
theorem dHe_hasCell_9 : decode b_He_hasCell 9 = .ok (.aload_n 0, 1) := by decide +kernel
theorem dHe_hasCell_10 : decode b_He_hasCell 10 = .ok (.getfield 15, 3) := by decide +kernel
theorem dHe_hasCell_13 : decode b_He_hasCell 13 = .ok (.iload_n 1, 1) := by decide +kernel
theorem dHe_hasCell_14 : decode b_He_hasCell 14 = .ok (.iaload, 1) := by decide +kernel
theorem dHe_hasCell_15 : decode b_He_hasCell 15 = .ok (.invokestatic 32, 3) := by decide +kernel
theorem dHe_hasCell_18 : decode b_He_hasCell 18 = .ok (.ifCond .eq 7, 3) := by decide +kernel
theorem dHe_hasCell_21 : decode b_He_hasCell 21 = .ok (.iconst 1, 1) := by decide +kernel
theorem dHe_hasCell_22 : decode b_He_hasCell 22 = .ok (.goto 4, 3) := by decide +kernel
theorem dHe_hasCell_25 : decode b_He_hasCell 25 = .ok (.iconst 0, 1) := by decide +kernel
theorem dHe_hasCell_26 : decode b_He_hasCell 26 = .ok (.ireturn, 1) := by decide +kernel
theorem dHe_hasRoom_0 : decode b_He_hasRoom 0 = .ok (.aload_n 0, 1) := by decide +kernel
theorem dHe_hasRoom_1 : decode b_He_hasRoom 1 = .ok (.getfield 21, 3) := by decide +kernel
theorem dHe_hasRoom_4 : decode b_He_hasRoom 4 = .ok (.sipush 200, 3) := by decide +kernel
theorem dHe_hasRoom_7 : decode b_He_hasRoom 7 = .ok (.if_icmp .ge 19, 3) := by decide +kernel
theorem dHe_hasRoom_10 : decode b_He_hasRoom 10 = .ok (.iload_n 1, 1) := by decide +kernel
theorem dHe_hasRoom_11 : decode b_He_hasRoom 11 = .ok (.sipush 2000, 3) := by decide +kernel
theorem dHe_hasRoom_14 : decode b_He_hasRoom 14 = .ok (.aload_n 0, 1) := by decide +kernel
theorem dHe_hasRoom_15 : decode b_He_hasRoom 15 = .ok (.getfield 25, 3) := by decide +kernel
theorem dHe_hasRoom_18 : decode b_He_hasRoom 18 = .ok (.isub, 1) := by decide +kernel
theorem dHe_hasRoom_19 : decode b_He_hasRoom 19 = .ok (.if_icmp .gt 7, 3) := by decide +kernel
theorem dHe_hasRoom_22 : decode b_He_hasRoom 22 = .ok (.iconst 1, 1) := by decide +kernel
theorem dHe_hasRoom_23 : decode b_He_hasRoom 23 = .ok (.goto 4, 3) := by decide +kernel
theorem dHe_hasRoom_26 : decode b_He_hasRoom 26 = .ok (.iconst 0, 1) := by decide +kernel
theorem dHe_hasRoom_27 : decode b_He_hasRoom 27 = .ok (.ireturn, 1) := by decide +kernel
theorem dHe_init_0 : decode b_He_init 0 = .ok (.aload_n 0, 1) := by decide +kernel
theorem dHe_init_1 : decode b_He_init 1 = .ok (.invokespecial 3, 3) := by decide +kernel
theorem dHe_init_4 : decode b_He_init 4 = .ok (.aload_n 0, 1) := by decide +kernel
theorem dHe_init_5 : decode b_He_init 5 = .ok (.sipush 200, 3) := by decide +kernel
theorem dHe_init_8 : decode b_He_init 8 = .ok (.newarray .int, 2) := by decide +kernel
theorem dHe_init_10 : decode b_He_init 10 = .ok (.putfield 11, 3) := by decide +kernel
theorem dHe_init_13 : decode b_He_init 13 = .ok (.aload_n 0, 1) := by decide +kernel
theorem dHe_init_14 : decode b_He_init 14 = .ok (.sipush 200, 3) := by decide +kernel
theorem dHe_init_17 : decode b_He_init 17 = .ok (.newarray .int, 2) := by decide +kernel
theorem dHe_init_19 : decode b_He_init 19 = .ok (.putfield 15, 3) := by decide +kernel
theorem dHe_init_22 : decode b_He_init 22 = .ok (.aload_n 0, 1) := by decide +kernel
theorem dHe_init_23 : decode b_He_init 23 = .ok (.sipush 2000, 3) := by decide +kernel
theorem dHe_init_26 : decode b_He_init 26 = .ok (.newarray .int, 2) := by decide +kernel
theorem dHe_init_28 : decode b_He_init 28 = .ok (.putfield 18, 3) := by decide +kernel
theorem dHe_init_31 : decode b_He_init 31 = .ok (.return_, 1) := by decide +kernel
theorem dHe_lengthOf_0 : decode b_He_lengthOf 0 = .ok (.aload_n 0, 1) := by decide +kernel
theorem dHe_lengthOf_1 : decode b_He_lengthOf 1 = .ok (.iload_n 1, 1) := by decide +kernel
theorem dHe_lengthOf_2 : decode b_He_lengthOf 2 = .ok (.invokevirtual 36, 3) := by decide +kernel
theorem dHe_lengthOf_5 : decode b_He_lengthOf 5 = .ok (.ifCond .eq 12, 3) := by decide +kernel
theorem dHe_lengthOf_8 : decode b_He_lengthOf 8 = .ok (.aload_n 0, 1) := by decide +kernel
theorem dHe_lengthOf_9 : decode b_He_lengthOf 9 = .ok (.getfield 15, 3) := by decide +kernel
theorem dHe_lengthOf_12 : decode b_He_lengthOf 12 = .ok (.iload_n 1, 1) := by decide +kernel
theorem dHe_lengthOf_13 : decode b_He_lengthOf 13 = .ok (.iaload, 1) := by decide +kernel
theorem dHe_lengthOf_14 : decode b_He_lengthOf 14 = .ok (.goto 4, 3) := by decide +kernel
theorem dHe_lengthOf_17 : decode b_He_lengthOf 17 = .ok (.iconst 0, 1) := by decide +kernel
theorem dHe_lengthOf_18 : decode b_He_lengthOf 18 = .ok (.ireturn, 1) := by decide +kernel
theorem dHe_make_0 : decode b_He_make 0 = .ok (.iload_n 1, 1) := by decide +kernel
theorem dHe_make_1 : decode b_He_make 1 = .ok (.ifCond .lt 11, 3) := by decide +kernel
theorem dHe_make_4 : decode b_He_make 4 = .ok (.aload_n 0, 1) := by decide +kernel
theorem dHe_make_5 : decode b_He_make 5 = .ok (.iload_n 1, 1) := by decide +kernel
theorem dHe_make_6 : decode b_He_make 6 = .ok (.invokevirtual 28, 3) := by decide +kernel
theorem dHe_make_9 : decode b_He_make 9 = .ok (.ifCond .ne 5, 3) := by decide +kernel
theorem dHe_make_12 : decode b_He_make 12 = .ok (.iconst (-1), 1) := by decide +kernel
theorem dHe_make_13 : decode b_He_make 13 = .ok (.ireturn, 1) := by decide +kernel
theorem dHe_make_14 : decode b_He_make 14 = .ok (.aload_n 0, 1) := by decide +kernel
theorem dHe_make_15 : decode b_He_make 15 = .ok (.getfield 11, 3) := by decide +kernel
theorem dHe_make_18 : decode b_He_make 18 = .ok (.aload_n 0, 1) := by decide +kernel
theorem dHe_make_19 : decode b_He_make 19 = .ok (.getfield 21, 3) := by decide +kernel
theorem dHe_make_22 : decode b_He_make 22 = .ok (.aload_n 0, 1) := by decide +kernel
theorem dHe_make_23 : decode b_He_make 23 = .ok (.getfield 25, 3) := by decide +kernel
theorem dHe_make_26 : decode b_He_make 26 = .ok (.iastore, 1) := by decide +kernel
theorem dHe_make_27 : decode b_He_make 27 = .ok (.aload_n 0, 1) := by decide +kernel
theorem dHe_make_28 : decode b_He_make 28 = .ok (.getfield 15, 3) := by decide +kernel
theorem dHe_make_31 : decode b_He_make 31 = .ok (.aload_n 0, 1) := by decide +kernel
theorem dHe_make_32 : decode b_He_make 32 = .ok (.getfield 21, 3) := by decide +kernel
theorem dHe_make_35 : decode b_He_make 35 = .ok (.iload_n 1, 1) := by decide +kernel
theorem dHe_make_36 : decode b_He_make 36 = .ok (.iastore, 1) := by decide +kernel
theorem dHe_make_37 : decode b_He_make 37 = .ok (.iconst 0, 1) := by decide +kernel
theorem dHe_make_38 : decode b_He_make 38 = .ok (.istore_n 2, 1) := by decide +kernel
theorem dHe_make_39 : decode b_He_make 39 = .ok (.iload_n 2, 1) := by decide +kernel
theorem dHe_make_40 : decode b_He_make 40 = .ok (.iload_n 1, 1) := by decide +kernel
theorem dHe_make_41 : decode b_He_make 41 = .ok (.if_icmp .ge 21, 3) := by decide +kernel
theorem dHe_make_44 : decode b_He_make 44 = .ok (.aload_n 0, 1) := by decide +kernel
theorem dHe_make_45 : decode b_He_make 45 = .ok (.getfield 18, 3) := by decide +kernel
theorem dHe_make_48 : decode b_He_make 48 = .ok (.aload_n 0, 1) := by decide +kernel
theorem dHe_make_49 : decode b_He_make 49 = .ok (.getfield 25, 3) := by decide +kernel
theorem dHe_make_52 : decode b_He_make 52 = .ok (.iload_n 2, 1) := by decide +kernel
theorem dHe_make_53 : decode b_He_make 53 = .ok (.iadd, 1) := by decide +kernel
theorem dHe_make_54 : decode b_He_make 54 = .ok (.iconst 0, 1) := by decide +kernel
theorem dHe_make_55 : decode b_He_make 55 = .ok (.iastore, 1) := by decide +kernel
theorem dHe_make_56 : decode b_He_make 56 = .ok (.iinc 2 1, 3) := by decide +kernel
theorem dHe_make_59 : decode b_He_make 59 = .ok (.goto (-20), 3) := by decide +kernel
theorem dHe_make_62 : decode b_He_make 62 = .ok (.aload_n 0, 1) := by decide +kernel
theorem dHe_make_63 : decode b_He_make 63 = .ok (.dup, 1) := by decide +kernel
theorem dHe_make_64 : decode b_He_make 64 = .ok (.getfield 25, 3) := by decide +kernel
theorem dHe_make_67 : decode b_He_make 67 = .ok (.iload_n 1, 1) := by decide +kernel
theorem dHe_make_68 : decode b_He_make 68 = .ok (.iadd, 1) := by decide +kernel
theorem dHe_make_69 : decode b_He_make 69 = .ok (.putfield 25, 3) := by decide +kernel
theorem dHe_make_72 : decode b_He_make 72 = .ok (.aload_n 0, 1) := by decide +kernel
theorem dHe_make_73 : decode b_He_make 73 = .ok (.dup, 1) := by decide +kernel
theorem dHe_make_74 : decode b_He_make 74 = .ok (.getfield 21, 3) := by decide +kernel
theorem dHe_make_77 : decode b_He_make 77 = .ok (.iconst 1, 1) := by decide +kernel
theorem dHe_make_78 : decode b_He_make 78 = .ok (.iadd, 1) := by decide +kernel
theorem dHe_make_79 : decode b_He_make 79 = .ok (.putfield 21, 3) := by decide +kernel
theorem dHe_make_82 : decode b_He_make 82 = .ok (.aload_n 0, 1) := by decide +kernel
theorem dHe_make_83 : decode b_He_make 83 = .ok (.getfield 21, 3) := by decide +kernel
theorem dHe_make_86 : decode b_He_make 86 = .ok (.iconst 1, 1) := by decide +kernel
theorem dHe_make_87 : decode b_He_make 87 = .ok (.isub, 1) := by decide +kernel
theorem dHe_make_88 : decode b_He_make 88 = .ok (.ireturn, 1) := by decide +kernel
theorem dHe_read_0 : decode b_He_read 0 = .ok (.aload_n 0, 1) := by decide +kernel
theorem dHe_read_1 : decode b_He_read 1 = .ok (.iload_n 1, 1) := by decide +kernel
theorem dHe_read_2 : decode b_He_read 2 = .ok (.iload_n 2, 1) := by decide +kernel
theorem dHe_read_3 : decode b_He_read 3 = .ok (.invokevirtual 39, 3) := by decide +kernel
theorem dHe_read_6 : decode b_He_read 6 = .ok (.ifCond .eq 19, 3) := by decide +kernel
theorem dHe_read_9 : decode b_He_read 9 = .ok (.aload_n 0, 1) := by decide +kernel
theorem dHe_read_10 : decode b_He_read 10 = .ok (.getfield 18, 3) := by decide +kernel
theorem dHe_read_13 : decode b_He_read 13 = .ok (.aload_n 0, 1) := by decide +kernel
theorem dHe_read_14 : decode b_He_read 14 = .ok (.getfield 11, 3) := by decide +kernel
theorem dHe_read_17 : decode b_He_read 17 = .ok (.iload_n 1, 1) := by decide +kernel
theorem dHe_read_18 : decode b_He_read 18 = .ok (.iaload, 1) := by decide +kernel
theorem dHe_read_19 : decode b_He_read 19 = .ok (.iload_n 2, 1) := by decide +kernel
theorem dHe_read_20 : decode b_He_read 20 = .ok (.iadd, 1) := by decide +kernel
theorem dHe_read_21 : decode b_He_read 21 = .ok (.iaload, 1) := by decide +kernel
theorem dHe_read_22 : decode b_He_read 22 = .ok (.goto 4, 3) := by decide +kernel
theorem dHe_read_25 : decode b_He_read 25 = .ok (.iconst 0, 1) := by decide +kernel
theorem dHe_read_26 : decode b_He_read 26 = .ok (.ireturn, 1) := by decide +kernel
theorem dHe_write_0 : decode b_He_write 0 = .ok (.aload_n 0, 1) := by decide +kernel
theorem dHe_write_1 : decode b_He_write 1 = .ok (.iload_n 1, 1) := by decide +kernel
theorem dHe_write_2 : decode b_He_write 2 = .ok (.iload_n 2, 1) := by decide +kernel
theorem dHe_write_3 : decode b_He_write 3 = .ok (.invokevirtual 39, 3) := by decide +kernel
theorem dHe_write_6 : decode b_He_write 6 = .ok (.ifCond .eq 17, 3) := by decide +kernel
theorem dHe_write_9 : decode b_He_write 9 = .ok (.aload_n 0, 1) := by decide +kernel
theorem dHe_write_10 : decode b_He_write 10 = .ok (.getfield 18, 3) := by decide +kernel
theorem dHe_write_13 : decode b_He_write 13 = .ok (.aload_n 0, 1) := by decide +kernel
theorem dHe_write_14 : decode b_He_write 14 = .ok (.getfield 11, 3) := by decide +kernel
theorem dHe_write_17 : decode b_He_write 17 = .ok (.iload_n 1, 1) := by decide +kernel
theorem dHe_write_18 : decode b_He_write 18 = .ok (.iaload, 1) := by decide +kernel
theorem dHe_write_19 : decode b_He_write 19 = .ok (.iload_n 2, 1) := by decide +kernel
theorem dHe_write_20 : decode b_He_write 20 = .ok (.iadd, 1) := by decide +kernel
theorem dHe_write_21 : decode b_He_write 21 = .ok (.iload_n 3, 1) := by decide +kernel
theorem dHe_write_22 : decode b_He_write 22 = .ok (.iastore, 1) := by decide +kernel
theorem dHe_write_23 : decode b_He_write 23 = .ok (.return_, 1) := by decide +kernel
theorem dIN_numberOfTrailingZeros_0 : decode b_IN_numberOfTrailingZeros 0 = .ok (.iload_n 0, 1) := by decide +kernel
theorem dIN_numberOfTrailingZeros_1 : decode b_IN_numberOfTrailingZeros 1 = .ok (.iconst (-1), 1) := by decide +kernel
theorem dIN_numberOfTrailingZeros_2 : decode b_IN_numberOfTrailingZeros 2 = .ok (.ixor, 1) := by decide +kernel
theorem dIN_numberOfTrailingZeros_3 : decode b_IN_numberOfTrailingZeros 3 = .ok (.iload_n 0, 1) := by decide +kernel
theorem dIN_numberOfTrailingZeros_4 : decode b_IN_numberOfTrailingZeros 4 = .ok (.iconst 1, 1) := by decide +kernel
theorem dIN_numberOfTrailingZeros_5 : decode b_IN_numberOfTrailingZeros 5 = .ok (.isub, 1) := by decide +kernel
theorem dIN_numberOfTrailingZeros_6 : decode b_IN_numberOfTrailingZeros 6 = .ok (.iand, 1) := by decide +kernel
theorem dIN_numberOfTrailingZeros_7 : decode b_IN_numberOfTrailingZeros 7 = .ok (.istore_n 0, 1) := by decide +kernel
theorem dIN_numberOfTrailingZeros_8 : decode b_IN_numberOfTrailingZeros 8 = .ok (.iload_n 0, 1) := by decide +kernel
theorem dIN_numberOfTrailingZeros_9 : decode b_IN_numberOfTrailingZeros 9 = .ok (.ifCond .gt 8, 3) := by decide +kernel
theorem dIN_numberOfTrailingZeros_12 : decode b_IN_numberOfTrailingZeros 12 = .ok (.iload_n 0, 1) := by decide +kernel
theorem dIN_numberOfTrailingZeros_13 : decode b_IN_numberOfTrailingZeros 13 = .ok (.bipush 32, 2) := by decide +kernel
theorem dIN_numberOfTrailingZeros_15 : decode b_IN_numberOfTrailingZeros 15 = .ok (.iand, 1) := by decide +kernel
theorem dIN_numberOfTrailingZeros_16 : decode b_IN_numberOfTrailingZeros 16 = .ok (.ireturn, 1) := by decide +kernel
theorem dIN_numberOfTrailingZeros_17 : decode b_IN_numberOfTrailingZeros 17 = .ok (.iconst 1, 1) := by decide +kernel
theorem dIN_numberOfTrailingZeros_18 : decode b_IN_numberOfTrailingZeros 18 = .ok (.istore_n 1, 1) := by decide +kernel
theorem dIN_numberOfTrailingZeros_19 : decode b_IN_numberOfTrailingZeros 19 = .ok (.iload_n 0, 1) := by decide +kernel
theorem dIN_numberOfTrailingZeros_20 : decode b_IN_numberOfTrailingZeros 20 = .ok (.ldc_w 264, 3) := by decide +kernel
theorem dIN_numberOfTrailingZeros_23 : decode b_IN_numberOfTrailingZeros 23 = .ok (.if_icmp .le 11, 3) := by decide +kernel
theorem dIN_numberOfTrailingZeros_26 : decode b_IN_numberOfTrailingZeros 26 = .ok (.iinc 1 16, 3) := by decide +kernel
theorem dIN_numberOfTrailingZeros_29 : decode b_IN_numberOfTrailingZeros 29 = .ok (.iload_n 0, 1) := by decide +kernel
theorem dIN_numberOfTrailingZeros_30 : decode b_IN_numberOfTrailingZeros 30 = .ok (.bipush 16, 2) := by decide +kernel
theorem dIN_numberOfTrailingZeros_32 : decode b_IN_numberOfTrailingZeros 32 = .ok (.iushr, 1) := by decide +kernel
theorem dIN_numberOfTrailingZeros_33 : decode b_IN_numberOfTrailingZeros 33 = .ok (.istore_n 0, 1) := by decide +kernel
theorem dIN_numberOfTrailingZeros_34 : decode b_IN_numberOfTrailingZeros 34 = .ok (.iload_n 0, 1) := by decide +kernel
theorem dIN_numberOfTrailingZeros_35 : decode b_IN_numberOfTrailingZeros 35 = .ok (.sipush 256, 3) := by decide +kernel
theorem dIN_numberOfTrailingZeros_38 : decode b_IN_numberOfTrailingZeros 38 = .ok (.if_icmp .le 11, 3) := by decide +kernel
theorem dIN_numberOfTrailingZeros_41 : decode b_IN_numberOfTrailingZeros 41 = .ok (.iinc 1 8, 3) := by decide +kernel
theorem dIN_numberOfTrailingZeros_44 : decode b_IN_numberOfTrailingZeros 44 = .ok (.iload_n 0, 1) := by decide +kernel
theorem dIN_numberOfTrailingZeros_45 : decode b_IN_numberOfTrailingZeros 45 = .ok (.bipush 8, 2) := by decide +kernel
theorem dIN_numberOfTrailingZeros_47 : decode b_IN_numberOfTrailingZeros 47 = .ok (.iushr, 1) := by decide +kernel
theorem dIN_numberOfTrailingZeros_48 : decode b_IN_numberOfTrailingZeros 48 = .ok (.istore_n 0, 1) := by decide +kernel
theorem dIN_numberOfTrailingZeros_49 : decode b_IN_numberOfTrailingZeros 49 = .ok (.iload_n 0, 1) := by decide +kernel
theorem dIN_numberOfTrailingZeros_50 : decode b_IN_numberOfTrailingZeros 50 = .ok (.bipush 16, 2) := by decide +kernel
theorem dIN_numberOfTrailingZeros_52 : decode b_IN_numberOfTrailingZeros 52 = .ok (.if_icmp .le 10, 3) := by decide +kernel
theorem dIN_numberOfTrailingZeros_55 : decode b_IN_numberOfTrailingZeros 55 = .ok (.iinc 1 4, 3) := by decide +kernel
theorem dIN_numberOfTrailingZeros_58 : decode b_IN_numberOfTrailingZeros 58 = .ok (.iload_n 0, 1) := by decide +kernel
theorem dIN_numberOfTrailingZeros_59 : decode b_IN_numberOfTrailingZeros 59 = .ok (.iconst 4, 1) := by decide +kernel
theorem dIN_numberOfTrailingZeros_60 : decode b_IN_numberOfTrailingZeros 60 = .ok (.iushr, 1) := by decide +kernel
theorem dIN_numberOfTrailingZeros_61 : decode b_IN_numberOfTrailingZeros 61 = .ok (.istore_n 0, 1) := by decide +kernel
theorem dIN_numberOfTrailingZeros_62 : decode b_IN_numberOfTrailingZeros 62 = .ok (.iload_n 0, 1) := by decide +kernel
theorem dIN_numberOfTrailingZeros_63 : decode b_IN_numberOfTrailingZeros 63 = .ok (.iconst 4, 1) := by decide +kernel
theorem dIN_numberOfTrailingZeros_64 : decode b_IN_numberOfTrailingZeros 64 = .ok (.if_icmp .le 10, 3) := by decide +kernel
theorem dIN_numberOfTrailingZeros_67 : decode b_IN_numberOfTrailingZeros 67 = .ok (.iinc 1 2, 3) := by decide +kernel
theorem dIN_numberOfTrailingZeros_70 : decode b_IN_numberOfTrailingZeros 70 = .ok (.iload_n 0, 1) := by decide +kernel
theorem dIN_numberOfTrailingZeros_71 : decode b_IN_numberOfTrailingZeros 71 = .ok (.iconst 2, 1) := by decide +kernel
theorem dIN_numberOfTrailingZeros_72 : decode b_IN_numberOfTrailingZeros 72 = .ok (.iushr, 1) := by decide +kernel
theorem dIN_numberOfTrailingZeros_73 : decode b_IN_numberOfTrailingZeros 73 = .ok (.istore_n 0, 1) := by decide +kernel
theorem dIN_numberOfTrailingZeros_74 : decode b_IN_numberOfTrailingZeros 74 = .ok (.iload_n 1, 1) := by decide +kernel
theorem dIN_numberOfTrailingZeros_75 : decode b_IN_numberOfTrailingZeros 75 = .ok (.iload_n 0, 1) := by decide +kernel
theorem dIN_numberOfTrailingZeros_76 : decode b_IN_numberOfTrailingZeros 76 = .ok (.iconst 1, 1) := by decide +kernel
theorem dIN_numberOfTrailingZeros_77 : decode b_IN_numberOfTrailingZeros 77 = .ok (.iushr, 1) := by decide +kernel
theorem dIN_numberOfTrailingZeros_78 : decode b_IN_numberOfTrailingZeros 78 = .ok (.iadd, 1) := by decide +kernel
theorem dIN_numberOfTrailingZeros_79 : decode b_IN_numberOfTrailingZeros 79 = .ok (.ireturn, 1) := by decide +kernel
theorem dJu_approves_0 : decode b_Ju_approves 0 = .ok (.aload_n 0, 1) := by decide +kernel
theorem dJu_approves_1 : decode b_Ju_approves 1 = .ok (.aload_n 2, 1) := by decide +kernel
theorem dJu_approves_2 : decode b_Ju_approves 2 = .ok (.invokevirtual 38, 3) := by decide +kernel
theorem dJu_approves_5 : decode b_Ju_approves 5 = .ok (.aload_n 0, 1) := by decide +kernel
theorem dJu_approves_6 : decode b_Ju_approves 6 = .ok (.aload_n 2, 1) := by decide +kernel
theorem dJu_approves_7 : decode b_Ju_approves 7 = .ok (.iconst 0, 1) := by decide +kernel
theorem dJu_approves_8 : decode b_Ju_approves 8 = .ok (.invokevirtual 42, 3) := by decide +kernel
theorem dJu_approves_11 : decode b_Ju_approves 11 = .ok (.ifCond .ne 5, 3) := by decide +kernel
theorem dJu_approves_14 : decode b_Ju_approves 14 = .ok (.iconst 0, 1) := by decide +kernel
theorem dJu_approves_15 : decode b_Ju_approves 15 = .ok (.ireturn, 1) := by decide +kernel
theorem dJu_approves_16 : decode b_Ju_approves 16 = .ok (.iconst 0, 1) := by decide +kernel
theorem dJu_approves_17 : decode b_Ju_approves 17 = .ok (.istore_n 3, 1) := by decide +kernel
theorem dJu_approves_18 : decode b_Ju_approves 18 = .ok (.iload_n 3, 1) := by decide +kernel
theorem dJu_approves_19 : decode b_Ju_approves 19 = .ok (.sipush 1320, 3) := by decide +kernel
theorem dJu_approves_22 : decode b_Ju_approves 22 = .ok (.if_icmp .ge 58, 3) := by decide +kernel
theorem dJu_approves_25 : decode b_Ju_approves 25 = .ok (.aload_n 0, 1) := by decide +kernel
theorem dJu_approves_26 : decode b_Ju_approves 26 = .ok (.getfield 46, 3) := by decide +kernel
theorem dJu_approves_29 : decode b_Ju_approves 29 = .ok (.ifCond .le 51, 3) := by decide +kernel
theorem dJu_approves_32 : decode b_Ju_approves 32 = .ok (.aload_n 0, 1) := by decide +kernel
theorem dJu_approves_33 : decode b_Ju_approves 33 = .ok (.dup, 1) := by decide +kernel
theorem dJu_approves_34 : decode b_Ju_approves 34 = .ok (.getfield 46, 3) := by decide +kernel
theorem dJu_approves_37 : decode b_Ju_approves 37 = .ok (.iconst 1, 1) := by decide +kernel
theorem dJu_approves_38 : decode b_Ju_approves 38 = .ok (.isub, 1) := by decide +kernel
theorem dJu_approves_39 : decode b_Ju_approves 39 = .ok (.putfield 46, 3) := by decide +kernel
theorem dJu_approves_42 : decode b_Ju_approves 42 = .ok (.aload_n 0, 1) := by decide +kernel
theorem dJu_approves_43 : decode b_Ju_approves 43 = .ok (.getfield 24, 3) := by decide +kernel
theorem dJu_approves_46 : decode b_Ju_approves 46 = .ok (.aload_n 0, 1) := by decide +kernel
theorem dJu_approves_47 : decode b_Ju_approves 47 = .ok (.getfield 46, 3) := by decide +kernel
theorem dJu_approves_50 : decode b_Ju_approves 50 = .ok (.iaload, 1) := by decide +kernel
theorem dJu_approves_51 : decode b_Ju_approves 51 = .ok (.istore 4, 2) := by decide +kernel
theorem dJu_approves_53 : decode b_Ju_approves 53 = .ok (.aload_n 0, 1) := by decide +kernel
theorem dJu_approves_54 : decode b_Ju_approves 54 = .ok (.getfield 27, 3) := by decide +kernel
theorem dJu_approves_57 : decode b_Ju_approves 57 = .ok (.iload 4, 2) := by decide +kernel
theorem dJu_approves_59 : decode b_Ju_approves 59 = .ok (.iconst 0, 1) := by decide +kernel
theorem dJu_approves_60 : decode b_Ju_approves 60 = .ok (.bastore, 1) := by decide +kernel
theorem dJu_approves_61 : decode b_Ju_approves 61 = .ok (.aload_n 0, 1) := by decide +kernel
theorem dJu_approves_62 : decode b_Ju_approves 62 = .ok (.aload_n 1, 1) := by decide +kernel
theorem dJu_approves_63 : decode b_Ju_approves 63 = .ok (.aload_n 2, 1) := by decide +kernel
theorem dJu_approves_64 : decode b_Ju_approves 64 = .ok (.iload 4, 2) := by decide +kernel
theorem dJu_approves_66 : decode b_Ju_approves 66 = .ok (.invokevirtual 50, 3) := by decide +kernel
theorem dJu_approves_69 : decode b_Ju_approves 69 = .ok (.ifCond .ne 5, 3) := by decide +kernel
theorem dJu_approves_72 : decode b_Ju_approves 72 = .ok (.iconst 0, 1) := by decide +kernel
theorem dJu_approves_73 : decode b_Ju_approves 73 = .ok (.ireturn, 1) := by decide +kernel
theorem dJu_approves_74 : decode b_Ju_approves 74 = .ok (.iinc 3 1, 3) := by decide +kernel
theorem dJu_approves_77 : decode b_Ju_approves 77 = .ok (.goto (-59), 3) := by decide +kernel
theorem dJu_approves_80 : decode b_Ju_approves 80 = .ok (.aload_n 0, 1) := by decide +kernel
theorem dJu_approves_81 : decode b_Ju_approves 81 = .ok (.getfield 46, 3) := by decide +kernel
theorem dJu_approves_84 : decode b_Ju_approves 84 = .ok (.ifCond .ne 7, 3) := by decide +kernel
theorem dJu_approves_87 : decode b_Ju_approves 87 = .ok (.iconst 1, 1) := by decide +kernel
theorem dJu_approves_88 : decode b_Ju_approves 88 = .ok (.goto 4, 3) := by decide +kernel
theorem dJu_approves_91 : decode b_Ju_approves 91 = .ok (.iconst 0, 1) := by decide +kernel
theorem dJu_approves_92 : decode b_Ju_approves 92 = .ok (.ireturn, 1) := by decide +kernel
theorem dJu_arrive_0 : decode b_Ju_arrive 0 = .ok (.aload_n 1, 1) := by decide +kernel
theorem dJu_arrive_1 : decode b_Ju_arrive 1 = .ok (.iload_n 2, 1) := by decide +kernel
theorem dJu_arrive_2 : decode b_Ju_arrive 2 = .ok (.invokevirtual 105, 3) := by decide +kernel
theorem dJu_arrive_5 : decode b_Ju_arrive 5 = .ok (.ifCond .ne 5, 3) := by decide +kernel
theorem dJu_arrive_8 : decode b_Ju_arrive 8 = .ok (.iconst 0, 1) := by decide +kernel
theorem dJu_arrive_9 : decode b_Ju_arrive 9 = .ok (.ireturn, 1) := by decide +kernel
theorem dJu_arrive_10 : decode b_Ju_arrive 10 = .ok (.aload_n 0, 1) := by decide +kernel
theorem dJu_arrive_11 : decode b_Ju_arrive 11 = .ok (.getfield 9, 3) := by decide +kernel
theorem dJu_arrive_14 : decode b_Ju_arrive 14 = .ok (.iload_n 2, 1) := by decide +kernel
theorem dJu_arrive_15 : decode b_Ju_arrive 15 = .ok (.iaload, 1) := by decide +kernel
theorem dJu_arrive_16 : decode b_Ju_arrive 16 = .ok (.iconst (-1), 1) := by decide +kernel
theorem dJu_arrive_17 : decode b_Ju_arrive 17 = .ok (.if_icmp .ne 62, 3) := by decide +kernel
theorem dJu_arrive_20 : decode b_Ju_arrive 20 = .ok (.aload_n 0, 1) := by decide +kernel
theorem dJu_arrive_21 : decode b_Ju_arrive 21 = .ok (.getfield 9, 3) := by decide +kernel
theorem dJu_arrive_24 : decode b_Ju_arrive 24 = .ok (.iload_n 2, 1) := by decide +kernel
theorem dJu_arrive_25 : decode b_Ju_arrive 25 = .ok (.aload_n 0, 1) := by decide +kernel
theorem dJu_arrive_26 : decode b_Ju_arrive 26 = .ok (.getfield 34, 3) := by decide +kernel
theorem dJu_arrive_29 : decode b_Ju_arrive 29 = .ok (.getfield 54, 3) := by decide +kernel
theorem dJu_arrive_32 : decode b_Ju_arrive 32 = .ok (.iastore, 1) := by decide +kernel
theorem dJu_arrive_33 : decode b_Ju_arrive 33 = .ok (.aload_n 0, 1) := by decide +kernel
theorem dJu_arrive_34 : decode b_Ju_arrive 34 = .ok (.getfield 15, 3) := by decide +kernel
theorem dJu_arrive_37 : decode b_Ju_arrive 37 = .ok (.iload_n 2, 1) := by decide +kernel
theorem dJu_arrive_38 : decode b_Ju_arrive 38 = .ok (.aload_n 0, 1) := by decide +kernel
theorem dJu_arrive_39 : decode b_Ju_arrive 39 = .ok (.getfield 34, 3) := by decide +kernel
theorem dJu_arrive_42 : decode b_Ju_arrive 42 = .ok (.getfield 57, 3) := by decide +kernel
theorem dJu_arrive_45 : decode b_Ju_arrive 45 = .ok (.iastore, 1) := by decide +kernel
theorem dJu_arrive_46 : decode b_Ju_arrive 46 = .ok (.aload_n 0, 1) := by decide +kernel
theorem dJu_arrive_47 : decode b_Ju_arrive 47 = .ok (.getfield 18, 3) := by decide +kernel
theorem dJu_arrive_50 : decode b_Ju_arrive 50 = .ok (.iload_n 2, 1) := by decide +kernel
theorem dJu_arrive_51 : decode b_Ju_arrive 51 = .ok (.aload_n 0, 1) := by decide +kernel
theorem dJu_arrive_52 : decode b_Ju_arrive 52 = .ok (.getfield 34, 3) := by decide +kernel
theorem dJu_arrive_55 : decode b_Ju_arrive 55 = .ok (.getfield 68, 3) := by decide +kernel
theorem dJu_arrive_58 : decode b_Ju_arrive 58 = .ok (.iastore, 1) := by decide +kernel
theorem dJu_arrive_59 : decode b_Ju_arrive 59 = .ok (.aload_n 0, 1) := by decide +kernel
theorem dJu_arrive_60 : decode b_Ju_arrive 60 = .ok (.getfield 21, 3) := by decide +kernel
theorem dJu_arrive_63 : decode b_Ju_arrive 63 = .ok (.iload_n 2, 1) := by decide +kernel
theorem dJu_arrive_64 : decode b_Ju_arrive 64 = .ok (.aload_n 0, 1) := by decide +kernel
theorem dJu_arrive_65 : decode b_Ju_arrive 65 = .ok (.getfield 34, 3) := by decide +kernel
theorem dJu_arrive_68 : decode b_Ju_arrive 68 = .ok (.getfield 70, 3) := by decide +kernel
theorem dJu_arrive_71 : decode b_Ju_arrive 71 = .ok (.iastore, 1) := by decide +kernel
theorem dJu_arrive_72 : decode b_Ju_arrive 72 = .ok (.aload_n 0, 1) := by decide +kernel
theorem dJu_arrive_73 : decode b_Ju_arrive 73 = .ok (.iload_n 2, 1) := by decide +kernel
theorem dJu_arrive_74 : decode b_Ju_arrive 74 = .ok (.invokevirtual 147, 3) := by decide +kernel
theorem dJu_arrive_77 : decode b_Ju_arrive 77 = .ok (.iconst 1, 1) := by decide +kernel
theorem dJu_arrive_78 : decode b_Ju_arrive 78 = .ok (.ireturn, 1) := by decide +kernel
theorem dJu_arrive_79 : decode b_Ju_arrive 79 = .ok (.aload_n 0, 1) := by decide +kernel
theorem dJu_arrive_80 : decode b_Ju_arrive 80 = .ok (.getfield 9, 3) := by decide +kernel
theorem dJu_arrive_83 : decode b_Ju_arrive 83 = .ok (.iload_n 2, 1) := by decide +kernel
theorem dJu_arrive_84 : decode b_Ju_arrive 84 = .ok (.iaload, 1) := by decide +kernel
theorem dJu_arrive_85 : decode b_Ju_arrive 85 = .ok (.aload_n 0, 1) := by decide +kernel
theorem dJu_arrive_86 : decode b_Ju_arrive 86 = .ok (.getfield 34, 3) := by decide +kernel
theorem dJu_arrive_89 : decode b_Ju_arrive 89 = .ok (.getfield 54, 3) := by decide +kernel
theorem dJu_arrive_92 : decode b_Ju_arrive 92 = .ok (.if_icmp .ne 19, 3) := by decide +kernel
theorem dJu_arrive_95 : decode b_Ju_arrive 95 = .ok (.aload_n 0, 1) := by decide +kernel
theorem dJu_arrive_96 : decode b_Ju_arrive 96 = .ok (.getfield 15, 3) := by decide +kernel
theorem dJu_arrive_99 : decode b_Ju_arrive 99 = .ok (.iload_n 2, 1) := by decide +kernel
theorem dJu_arrive_100 : decode b_Ju_arrive 100 = .ok (.iaload, 1) := by decide +kernel
theorem dJu_arrive_101 : decode b_Ju_arrive 101 = .ok (.aload_n 0, 1) := by decide +kernel
theorem dJu_arrive_102 : decode b_Ju_arrive 102 = .ok (.getfield 34, 3) := by decide +kernel
theorem dJu_arrive_105 : decode b_Ju_arrive 105 = .ok (.getfield 57, 3) := by decide +kernel
theorem dJu_arrive_108 : decode b_Ju_arrive 108 = .ok (.if_icmp .eq 5, 3) := by decide +kernel
theorem dJu_arrive_111 : decode b_Ju_arrive 111 = .ok (.iconst 0, 1) := by decide +kernel
theorem dJu_arrive_112 : decode b_Ju_arrive 112 = .ok (.ireturn, 1) := by decide +kernel
theorem dJu_arrive_113 : decode b_Ju_arrive 113 = .ok (.aload_n 0, 1) := by decide +kernel
theorem dJu_arrive_114 : decode b_Ju_arrive 114 = .ok (.getfield 18, 3) := by decide +kernel
theorem dJu_arrive_117 : decode b_Ju_arrive 117 = .ok (.iload_n 2, 1) := by decide +kernel
theorem dJu_arrive_118 : decode b_Ju_arrive 118 = .ok (.iaload, 1) := by decide +kernel
theorem dJu_arrive_119 : decode b_Ju_arrive 119 = .ok (.aload_n 0, 1) := by decide +kernel
theorem dJu_arrive_120 : decode b_Ju_arrive 120 = .ok (.getfield 34, 3) := by decide +kernel
theorem dJu_arrive_123 : decode b_Ju_arrive 123 = .ok (.getfield 68, 3) := by decide +kernel
theorem dJu_arrive_126 : decode b_Ju_arrive 126 = .ok (.iand, 1) := by decide +kernel
theorem dJu_arrive_127 : decode b_Ju_arrive 127 = .ok (.istore_n 3, 1) := by decide +kernel
theorem dJu_arrive_128 : decode b_Ju_arrive 128 = .ok (.aload_n 0, 1) := by decide +kernel
theorem dJu_arrive_129 : decode b_Ju_arrive 129 = .ok (.getfield 21, 3) := by decide +kernel
theorem dJu_arrive_132 : decode b_Ju_arrive 132 = .ok (.iload_n 2, 1) := by decide +kernel
theorem dJu_arrive_133 : decode b_Ju_arrive 133 = .ok (.iaload, 1) := by decide +kernel
theorem dJu_arrive_134 : decode b_Ju_arrive 134 = .ok (.aload_n 0, 1) := by decide +kernel
theorem dJu_arrive_135 : decode b_Ju_arrive 135 = .ok (.getfield 34, 3) := by decide +kernel
theorem dJu_arrive_138 : decode b_Ju_arrive 138 = .ok (.getfield 70, 3) := by decide +kernel
theorem dJu_arrive_141 : decode b_Ju_arrive 141 = .ok (.iand, 1) := by decide +kernel
theorem dJu_arrive_142 : decode b_Ju_arrive 142 = .ok (.istore 4, 2) := by decide +kernel
theorem dJu_arrive_144 : decode b_Ju_arrive 144 = .ok (.iload_n 3, 1) := by decide +kernel
theorem dJu_arrive_145 : decode b_Ju_arrive 145 = .ok (.aload_n 0, 1) := by decide +kernel
theorem dJu_arrive_146 : decode b_Ju_arrive 146 = .ok (.getfield 18, 3) := by decide +kernel
theorem dJu_arrive_149 : decode b_Ju_arrive 149 = .ok (.iload_n 2, 1) := by decide +kernel
theorem dJu_arrive_150 : decode b_Ju_arrive 150 = .ok (.iaload, 1) := by decide +kernel
theorem dJu_arrive_151 : decode b_Ju_arrive 151 = .ok (.if_icmp .ne 14, 3) := by decide +kernel
theorem dJu_arrive_154 : decode b_Ju_arrive 154 = .ok (.iload 4, 2) := by decide +kernel
theorem dJu_arrive_156 : decode b_Ju_arrive 156 = .ok (.aload_n 0, 1) := by decide +kernel
theorem dJu_arrive_157 : decode b_Ju_arrive 157 = .ok (.getfield 21, 3) := by decide +kernel
theorem dJu_arrive_160 : decode b_Ju_arrive 160 = .ok (.iload_n 2, 1) := by decide +kernel
theorem dJu_arrive_161 : decode b_Ju_arrive 161 = .ok (.iaload, 1) := by decide +kernel
theorem dJu_arrive_162 : decode b_Ju_arrive 162 = .ok (.if_icmp .eq 23, 3) := by decide +kernel
theorem dJu_arrive_165 : decode b_Ju_arrive 165 = .ok (.aload_n 0, 1) := by decide +kernel
theorem dJu_arrive_166 : decode b_Ju_arrive 166 = .ok (.getfield 18, 3) := by decide +kernel
theorem dJu_arrive_169 : decode b_Ju_arrive 169 = .ok (.iload_n 2, 1) := by decide +kernel
theorem dJu_arrive_170 : decode b_Ju_arrive 170 = .ok (.iload_n 3, 1) := by decide +kernel
theorem dJu_arrive_171 : decode b_Ju_arrive 171 = .ok (.iastore, 1) := by decide +kernel
theorem dJu_arrive_172 : decode b_Ju_arrive 172 = .ok (.aload_n 0, 1) := by decide +kernel
theorem dJu_arrive_173 : decode b_Ju_arrive 173 = .ok (.getfield 21, 3) := by decide +kernel
theorem dJu_arrive_176 : decode b_Ju_arrive 176 = .ok (.iload_n 2, 1) := by decide +kernel
theorem dJu_arrive_177 : decode b_Ju_arrive 177 = .ok (.iload 4, 2) := by decide +kernel
theorem dJu_arrive_179 : decode b_Ju_arrive 179 = .ok (.iastore, 1) := by decide +kernel
theorem dJu_arrive_180 : decode b_Ju_arrive 180 = .ok (.aload_n 0, 1) := by decide +kernel
theorem dJu_arrive_181 : decode b_Ju_arrive 181 = .ok (.iload_n 2, 1) := by decide +kernel
theorem dJu_arrive_182 : decode b_Ju_arrive 182 = .ok (.invokevirtual 147, 3) := by decide +kernel
theorem dJu_arrive_185 : decode b_Ju_arrive 185 = .ok (.iconst 1, 1) := by decide +kernel
theorem dJu_arrive_186 : decode b_Ju_arrive 186 = .ok (.ireturn, 1) := by decide +kernel
theorem dJu_await_0 : decode b_Ju_await 0 = .ok (.aload_n 0, 1) := by decide +kernel
theorem dJu_await_1 : decode b_Ju_await 1 = .ok (.getfield 27, 3) := by decide +kernel
theorem dJu_await_4 : decode b_Ju_await 4 = .ok (.iload_n 1, 1) := by decide +kernel
theorem dJu_await_5 : decode b_Ju_await 5 = .ok (.baload, 1) := by decide +kernel
theorem dJu_await_6 : decode b_Ju_await 6 = .ok (.ifCond .ne 39, 3) := by decide +kernel
theorem dJu_await_9 : decode b_Ju_await 9 = .ok (.aload_n 0, 1) := by decide +kernel
theorem dJu_await_10 : decode b_Ju_await 10 = .ok (.getfield 46, 3) := by decide +kernel
theorem dJu_await_13 : decode b_Ju_await 13 = .ok (.bipush 120, 2) := by decide +kernel
theorem dJu_await_15 : decode b_Ju_await 15 = .ok (.if_icmp .ge 30, 3) := by decide +kernel
theorem dJu_await_18 : decode b_Ju_await 18 = .ok (.aload_n 0, 1) := by decide +kernel
theorem dJu_await_19 : decode b_Ju_await 19 = .ok (.getfield 27, 3) := by decide +kernel
theorem dJu_await_22 : decode b_Ju_await 22 = .ok (.iload_n 1, 1) := by decide +kernel
theorem dJu_await_23 : decode b_Ju_await 23 = .ok (.iconst 1, 1) := by decide +kernel
theorem dJu_await_24 : decode b_Ju_await 24 = .ok (.bastore, 1) := by decide +kernel
theorem dJu_await_25 : decode b_Ju_await 25 = .ok (.aload_n 0, 1) := by decide +kernel
theorem dJu_await_26 : decode b_Ju_await 26 = .ok (.getfield 24, 3) := by decide +kernel
theorem dJu_await_29 : decode b_Ju_await 29 = .ok (.aload_n 0, 1) := by decide +kernel
theorem dJu_await_30 : decode b_Ju_await 30 = .ok (.getfield 46, 3) := by decide +kernel
theorem dJu_await_33 : decode b_Ju_await 33 = .ok (.iload_n 1, 1) := by decide +kernel
theorem dJu_await_34 : decode b_Ju_await 34 = .ok (.iastore, 1) := by decide +kernel
theorem dJu_await_35 : decode b_Ju_await 35 = .ok (.aload_n 0, 1) := by decide +kernel
theorem dJu_await_36 : decode b_Ju_await 36 = .ok (.dup, 1) := by decide +kernel
theorem dJu_await_37 : decode b_Ju_await 37 = .ok (.getfield 46, 3) := by decide +kernel
theorem dJu_await_40 : decode b_Ju_await 40 = .ok (.iconst 1, 1) := by decide +kernel
theorem dJu_await_41 : decode b_Ju_await 41 = .ok (.iadd, 1) := by decide +kernel
theorem dJu_await_42 : decode b_Ju_await 42 = .ok (.putfield 46, 3) := by decide +kernel
theorem dJu_await_45 : decode b_Ju_await 45 = .ok (.return_, 1) := by decide +kernel
theorem dJu_calledBy_0 : decode b_Ju_calledBy 0 = .ok (.iconst 0, 1) := by decide +kernel
theorem dJu_calledBy_1 : decode b_Ju_calledBy 1 = .ok (.istore_n 2, 1) := by decide +kernel
theorem dJu_calledBy_2 : decode b_Ju_calledBy 2 = .ok (.iconst 0, 1) := by decide +kernel
theorem dJu_calledBy_3 : decode b_Ju_calledBy 3 = .ok (.istore_n 3, 1) := by decide +kernel
theorem dJu_calledBy_4 : decode b_Ju_calledBy 4 = .ok (.iload_n 3, 1) := by decide +kernel
theorem dJu_calledBy_5 : decode b_Ju_calledBy 5 = .ok (.aload_n 1, 1) := by decide +kernel
theorem dJu_calledBy_6 : decode b_Ju_calledBy 6 = .ok (.getfield 154, 3) := by decide +kernel
theorem dJu_calledBy_9 : decode b_Ju_calledBy 9 = .ok (.if_icmp .ge 38, 3) := by decide +kernel
theorem dJu_calledBy_12 : decode b_Ju_calledBy 12 = .ok (.aload_n 0, 1) := by decide +kernel
theorem dJu_calledBy_13 : decode b_Ju_calledBy 13 = .ok (.iload_n 3, 1) := by decide +kernel
theorem dJu_calledBy_14 : decode b_Ju_calledBy 14 = .ok (.invokevirtual 151, 3) := by decide +kernel
theorem dJu_calledBy_17 : decode b_Ju_calledBy 17 = .ok (.iconst (-1), 1) := by decide +kernel
theorem dJu_calledBy_18 : decode b_Ju_calledBy 18 = .ok (.if_icmp .eq 23, 3) := by decide +kernel
theorem dJu_calledBy_21 : decode b_Ju_calledBy 21 = .ok (.aload_n 1, 1) := by decide +kernel
theorem dJu_calledBy_22 : decode b_Ju_calledBy 22 = .ok (.iload_n 3, 1) := by decide +kernel
theorem dJu_calledBy_23 : decode b_Ju_calledBy 23 = .ok (.invokevirtual 72, 3) := by decide +kernel
theorem dJu_calledBy_26 : decode b_Ju_calledBy 26 = .ok (.bipush 23, 2) := by decide +kernel
theorem dJu_calledBy_28 : decode b_Ju_calledBy 28 = .ok (.if_icmp .ne 13, 3) := by decide +kernel
theorem dJu_calledBy_31 : decode b_Ju_calledBy 31 = .ok (.iload_n 2, 1) := by decide +kernel
theorem dJu_calledBy_32 : decode b_Ju_calledBy 32 = .ok (.iconst 1, 1) := by decide +kernel
theorem dJu_calledBy_33 : decode b_Ju_calledBy 33 = .ok (.aload_n 1, 1) := by decide +kernel
theorem dJu_calledBy_34 : decode b_Ju_calledBy 34 = .ok (.iload_n 3, 1) := by decide +kernel
theorem dJu_calledBy_35 : decode b_Ju_calledBy 35 = .ok (.invokevirtual 76, 3) := by decide +kernel
theorem dJu_calledBy_38 : decode b_Ju_calledBy 38 = .ok (.ishl, 1) := by decide +kernel
theorem dJu_calledBy_39 : decode b_Ju_calledBy 39 = .ok (.ior, 1) := by decide +kernel
theorem dJu_calledBy_40 : decode b_Ju_calledBy 40 = .ok (.istore_n 2, 1) := by decide +kernel
theorem dJu_calledBy_41 : decode b_Ju_calledBy 41 = .ok (.iinc 3 1, 3) := by decide +kernel
theorem dJu_calledBy_44 : decode b_Ju_calledBy 44 = .ok (.goto (-40), 3) := by decide +kernel
theorem dJu_calledBy_47 : decode b_Ju_calledBy 47 = .ok (.iload_n 2, 1) := by decide +kernel
theorem dJu_calledBy_48 : decode b_Ju_calledBy 48 = .ok (.ireturn, 1) := by decide +kernel
theorem dJu_change_0 : decode b_Ju_change 0 = .ok (.iload_n 3, 1) := by decide +kernel
theorem dJu_change_1 : decode b_Ju_change 1 = .ok (.tableswitch 366 1 24 #[111, 141, 172, 202, 366, 366, 366, 366, 366, 366, 366, 366, 366, 366, 366, 366, 366, 366, 366, 233, 266, 274, 282, 329], 111) := by decide +kernel
theorem dJu_change_112 : decode b_Ju_change 112 = .ok (.aload_n 0, 1) := by decide +kernel
theorem dJu_change_113 : decode b_Ju_change 113 = .ok (.getfield 34, 3) := by decide +kernel
theorem dJu_change_116 : decode b_Ju_change 116 = .ok (.iload 4, 2) := by decide +kernel
theorem dJu_change_118 : decode b_Ju_change 118 = .ok (.iconst 1, 1) := by decide +kernel
theorem dJu_change_119 : decode b_Ju_change 119 = .ok (.invokevirtual 112, 3) := by decide +kernel
theorem dJu_change_122 : decode b_Ju_change 122 = .ok (.ifCond .eq 18, 3) := by decide +kernel
theorem dJu_change_125 : decode b_Ju_change 125 = .ok (.aload_n 0, 1) := by decide +kernel
theorem dJu_change_126 : decode b_Ju_change 126 = .ok (.getfield 34, 3) := by decide +kernel
theorem dJu_change_129 : decode b_Ju_change 129 = .ok (.iconst 1, 1) := by decide +kernel
theorem dJu_change_130 : decode b_Ju_change 130 = .ok (.invokevirtual 115, 3) := by decide +kernel
theorem dJu_change_133 : decode b_Ju_change 133 = .ok (.ifCond .eq 7, 3) := by decide +kernel
theorem dJu_change_136 : decode b_Ju_change 136 = .ok (.iconst 1, 1) := by decide +kernel
theorem dJu_change_137 : decode b_Ju_change 137 = .ok (.goto 4, 3) := by decide +kernel
theorem dJu_change_140 : decode b_Ju_change 140 = .ok (.iconst 0, 1) := by decide +kernel
theorem dJu_change_141 : decode b_Ju_change 141 = .ok (.ireturn, 1) := by decide +kernel
theorem dJu_change_142 : decode b_Ju_change 142 = .ok (.aload_n 0, 1) := by decide +kernel
theorem dJu_change_143 : decode b_Ju_change 143 = .ok (.getfield 34, 3) := by decide +kernel
theorem dJu_change_146 : decode b_Ju_change 146 = .ok (.iconst 1, 1) := by decide +kernel
theorem dJu_change_147 : decode b_Ju_change 147 = .ok (.iconst 0, 1) := by decide +kernel
theorem dJu_change_148 : decode b_Ju_change 148 = .ok (.invokevirtual 118, 3) := by decide +kernel
theorem dJu_change_151 : decode b_Ju_change 151 = .ok (.ifCond .eq 20, 3) := by decide +kernel
theorem dJu_change_154 : decode b_Ju_change 154 = .ok (.aload_n 0, 1) := by decide +kernel
theorem dJu_change_155 : decode b_Ju_change 155 = .ok (.getfield 34, 3) := by decide +kernel
theorem dJu_change_158 : decode b_Ju_change 158 = .ok (.iload 4, 2) := by decide +kernel
theorem dJu_change_160 : decode b_Ju_change 160 = .ok (.iconst 1, 1) := by decide +kernel
theorem dJu_change_161 : decode b_Ju_change 161 = .ok (.invokevirtual 121, 3) := by decide +kernel
theorem dJu_change_164 : decode b_Ju_change 164 = .ok (.ifCond .eq 7, 3) := by decide +kernel
theorem dJu_change_167 : decode b_Ju_change 167 = .ok (.iconst 1, 1) := by decide +kernel
theorem dJu_change_168 : decode b_Ju_change 168 = .ok (.goto 4, 3) := by decide +kernel
theorem dJu_change_171 : decode b_Ju_change 171 = .ok (.iconst 0, 1) := by decide +kernel
theorem dJu_change_172 : decode b_Ju_change 172 = .ok (.ireturn, 1) := by decide +kernel
theorem dJu_change_173 : decode b_Ju_change 173 = .ok (.aload_n 0, 1) := by decide +kernel
theorem dJu_change_174 : decode b_Ju_change 174 = .ok (.getfield 34, 3) := by decide +kernel
theorem dJu_change_177 : decode b_Ju_change 177 = .ok (.iload 4, 2) := by decide +kernel
theorem dJu_change_179 : decode b_Ju_change 179 = .ok (.iconst 2, 1) := by decide +kernel
theorem dJu_change_180 : decode b_Ju_change 180 = .ok (.invokevirtual 112, 3) := by decide +kernel
theorem dJu_change_183 : decode b_Ju_change 183 = .ok (.ifCond .eq 18, 3) := by decide +kernel
theorem dJu_change_186 : decode b_Ju_change 186 = .ok (.aload_n 0, 1) := by decide +kernel
theorem dJu_change_187 : decode b_Ju_change 187 = .ok (.getfield 34, 3) := by decide +kernel
theorem dJu_change_190 : decode b_Ju_change 190 = .ok (.iconst 2, 1) := by decide +kernel
theorem dJu_change_191 : decode b_Ju_change 191 = .ok (.invokevirtual 115, 3) := by decide +kernel
theorem dJu_change_194 : decode b_Ju_change 194 = .ok (.ifCond .eq 7, 3) := by decide +kernel
theorem dJu_change_197 : decode b_Ju_change 197 = .ok (.iconst 1, 1) := by decide +kernel
theorem dJu_change_198 : decode b_Ju_change 198 = .ok (.goto 4, 3) := by decide +kernel
theorem dJu_change_201 : decode b_Ju_change 201 = .ok (.iconst 0, 1) := by decide +kernel
theorem dJu_change_202 : decode b_Ju_change 202 = .ok (.ireturn, 1) := by decide +kernel
theorem dJu_change_203 : decode b_Ju_change 203 = .ok (.aload_n 0, 1) := by decide +kernel
theorem dJu_change_204 : decode b_Ju_change 204 = .ok (.getfield 34, 3) := by decide +kernel
theorem dJu_change_207 : decode b_Ju_change 207 = .ok (.iconst 1, 1) := by decide +kernel
theorem dJu_change_208 : decode b_Ju_change 208 = .ok (.iconst 1, 1) := by decide +kernel
theorem dJu_change_209 : decode b_Ju_change 209 = .ok (.invokevirtual 118, 3) := by decide +kernel
theorem dJu_change_212 : decode b_Ju_change 212 = .ok (.ifCond .eq 20, 3) := by decide +kernel
theorem dJu_change_215 : decode b_Ju_change 215 = .ok (.aload_n 0, 1) := by decide +kernel
theorem dJu_change_216 : decode b_Ju_change 216 = .ok (.getfield 34, 3) := by decide +kernel
theorem dJu_change_219 : decode b_Ju_change 219 = .ok (.iload 4, 2) := by decide +kernel
theorem dJu_change_221 : decode b_Ju_change 221 = .ok (.iconst 2, 1) := by decide +kernel
theorem dJu_change_222 : decode b_Ju_change 222 = .ok (.invokevirtual 121, 3) := by decide +kernel
theorem dJu_change_225 : decode b_Ju_change 225 = .ok (.ifCond .eq 7, 3) := by decide +kernel
theorem dJu_change_228 : decode b_Ju_change 228 = .ok (.iconst 1, 1) := by decide +kernel
theorem dJu_change_229 : decode b_Ju_change 229 = .ok (.goto 4, 3) := by decide +kernel
theorem dJu_change_232 : decode b_Ju_change 232 = .ok (.iconst 0, 1) := by decide +kernel
theorem dJu_change_233 : decode b_Ju_change 233 = .ok (.ireturn, 1) := by decide +kernel
theorem dJu_change_234 : decode b_Ju_change 234 = .ok (.aload_n 0, 1) := by decide +kernel
theorem dJu_change_235 : decode b_Ju_change 235 = .ok (.getfield 34, 3) := by decide +kernel
theorem dJu_change_238 : decode b_Ju_change 238 = .ok (.getfield 54, 3) := by decide +kernel
theorem dJu_change_241 : decode b_Ju_change 241 = .ok (.ifCond .le 24, 3) := by decide +kernel
theorem dJu_change_244 : decode b_Ju_change 244 = .ok (.aload_n 0, 1) := by decide +kernel
theorem dJu_change_245 : decode b_Ju_change 245 = .ok (.getfield 34, 3) := by decide +kernel
theorem dJu_change_248 : decode b_Ju_change 248 = .ok (.aload_n 0, 1) := by decide +kernel
theorem dJu_change_249 : decode b_Ju_change 249 = .ok (.getfield 34, 3) := by decide +kernel
theorem dJu_change_252 : decode b_Ju_change 252 = .ok (.invokevirtual 124, 3) := by decide +kernel
theorem dJu_change_255 : decode b_Ju_change 255 = .ok (.invokevirtual 115, 3) := by decide +kernel
theorem dJu_change_258 : decode b_Ju_change 258 = .ok (.ifCond .eq 7, 3) := by decide +kernel
theorem dJu_change_261 : decode b_Ju_change 261 = .ok (.iconst 1, 1) := by decide +kernel
theorem dJu_change_262 : decode b_Ju_change 262 = .ok (.goto 4, 3) := by decide +kernel
theorem dJu_change_265 : decode b_Ju_change 265 = .ok (.iconst 0, 1) := by decide +kernel
theorem dJu_change_266 : decode b_Ju_change 266 = .ok (.ireturn, 1) := by decide +kernel
theorem dJu_change_267 : decode b_Ju_change 267 = .ok (.aload_n 0, 1) := by decide +kernel
theorem dJu_change_268 : decode b_Ju_change 268 = .ok (.getfield 34, 3) := by decide +kernel
theorem dJu_change_271 : decode b_Ju_change 271 = .ok (.invokevirtual 128, 3) := by decide +kernel
theorem dJu_change_274 : decode b_Ju_change 274 = .ok (.ireturn, 1) := by decide +kernel
theorem dJu_change_275 : decode b_Ju_change 275 = .ok (.aload_n 0, 1) := by decide +kernel
theorem dJu_change_276 : decode b_Ju_change 276 = .ok (.getfield 34, 3) := by decide +kernel
theorem dJu_change_279 : decode b_Ju_change 279 = .ok (.invokevirtual 132, 3) := by decide +kernel
theorem dJu_change_282 : decode b_Ju_change 282 = .ok (.ireturn, 1) := by decide +kernel
theorem dJu_change_283 : decode b_Ju_change 283 = .ok (.aload_n 0, 1) := by decide +kernel
theorem dJu_change_284 : decode b_Ju_change 284 = .ok (.getfield 34, 3) := by decide +kernel
theorem dJu_change_287 : decode b_Ju_change 287 = .ok (.aload_n 1, 1) := by decide +kernel
theorem dJu_change_288 : decode b_Ju_change 288 = .ok (.iload 4, 2) := by decide +kernel
theorem dJu_change_290 : decode b_Ju_change 290 = .ok (.aaload, 1) := by decide +kernel
theorem dJu_change_291 : decode b_Ju_change 291 = .ok (.getfield 60, 3) := by decide +kernel
theorem dJu_change_294 : decode b_Ju_change 294 = .ok (.aload_n 1, 1) := by decide +kernel
theorem dJu_change_295 : decode b_Ju_change 295 = .ok (.iload 4, 2) := by decide +kernel
theorem dJu_change_297 : decode b_Ju_change 297 = .ok (.aaload, 1) := by decide +kernel
theorem dJu_change_298 : decode b_Ju_change 298 = .ok (.getfield 65, 3) := by decide +kernel
theorem dJu_change_301 : decode b_Ju_change 301 = .ok (.invokevirtual 118, 3) := by decide +kernel
theorem dJu_change_304 : decode b_Ju_change 304 = .ok (.ifCond .eq 24, 3) := by decide +kernel
theorem dJu_change_307 : decode b_Ju_change 307 = .ok (.aload_n 0, 1) := by decide +kernel
theorem dJu_change_308 : decode b_Ju_change 308 = .ok (.getfield 34, 3) := by decide +kernel
theorem dJu_change_311 : decode b_Ju_change 311 = .ok (.aload_n 1, 1) := by decide +kernel
theorem dJu_change_312 : decode b_Ju_change 312 = .ok (.iload 4, 2) := by decide +kernel
theorem dJu_change_314 : decode b_Ju_change 314 = .ok (.aaload, 1) := by decide +kernel
theorem dJu_change_315 : decode b_Ju_change 315 = .ok (.getfield 135, 3) := by decide +kernel
theorem dJu_change_318 : decode b_Ju_change 318 = .ok (.invokevirtual 115, 3) := by decide +kernel
theorem dJu_change_321 : decode b_Ju_change 321 = .ok (.ifCond .eq 7, 3) := by decide +kernel
theorem dJu_change_324 : decode b_Ju_change 324 = .ok (.iconst 1, 1) := by decide +kernel
theorem dJu_change_325 : decode b_Ju_change 325 = .ok (.goto 4, 3) := by decide +kernel
theorem dJu_change_328 : decode b_Ju_change 328 = .ok (.iconst 0, 1) := by decide +kernel
theorem dJu_change_329 : decode b_Ju_change 329 = .ok (.ireturn, 1) := by decide +kernel
theorem dJu_change_330 : decode b_Ju_change 330 = .ok (.aload_n 2, 1) := by decide +kernel
theorem dJu_change_331 : decode b_Ju_change 331 = .ok (.getfield 135, 3) := by decide +kernel
theorem dJu_change_334 : decode b_Ju_change 334 = .ok (.ifCond .eq 27, 3) := by decide +kernel
theorem dJu_change_337 : decode b_Ju_change 337 = .ok (.aload_n 0, 1) := by decide +kernel
theorem dJu_change_338 : decode b_Ju_change 338 = .ok (.getfield 34, 3) := by decide +kernel
theorem dJu_change_341 : decode b_Ju_change 341 = .ok (.iconst 1, 1) := by decide +kernel
theorem dJu_change_342 : decode b_Ju_change 342 = .ok (.aload_n 2, 1) := by decide +kernel
theorem dJu_change_343 : decode b_Ju_change 343 = .ok (.getfield 135, 3) := by decide +kernel
theorem dJu_change_346 : decode b_Ju_change 346 = .ok (.iconst 2, 1) := by decide +kernel
theorem dJu_change_347 : decode b_Ju_change 347 = .ok (.if_icmp .ne 7, 3) := by decide +kernel
theorem dJu_change_350 : decode b_Ju_change 350 = .ok (.iconst 1, 1) := by decide +kernel
theorem dJu_change_351 : decode b_Ju_change 351 = .ok (.goto 4, 3) := by decide +kernel
theorem dJu_change_354 : decode b_Ju_change 354 = .ok (.iconst 0, 1) := by decide +kernel
theorem dJu_change_355 : decode b_Ju_change 355 = .ok (.invokevirtual 118, 3) := by decide +kernel
theorem dJu_change_358 : decode b_Ju_change 358 = .ok (.ifCond .eq 7, 3) := by decide +kernel
theorem dJu_change_361 : decode b_Ju_change 361 = .ok (.iconst 1, 1) := by decide +kernel
theorem dJu_change_362 : decode b_Ju_change 362 = .ok (.goto 4, 3) := by decide +kernel
theorem dJu_change_365 : decode b_Ju_change 365 = .ok (.iconst 0, 1) := by decide +kernel
theorem dJu_change_366 : decode b_Ju_change 366 = .ok (.ireturn, 1) := by decide +kernel
theorem dJu_change_367 : decode b_Ju_change 367 = .ok (.aload_n 0, 1) := by decide +kernel
theorem dJu_change_368 : decode b_Ju_change 368 = .ok (.getfield 34, 3) := by decide +kernel
theorem dJu_change_371 : decode b_Ju_change 371 = .ok (.iload_n 3, 1) := by decide +kernel
theorem dJu_change_372 : decode b_Ju_change 372 = .ok (.invokestatic 138, 3) := by decide +kernel
theorem dJu_change_375 : decode b_Ju_change 375 = .ok (.iload_n 3, 1) := by decide +kernel
theorem dJu_change_376 : decode b_Ju_change 376 = .ok (.invokestatic 141, 3) := by decide +kernel
theorem dJu_change_379 : decode b_Ju_change 379 = .ok (.invokevirtual 118, 3) := by decide +kernel
theorem dJu_change_382 : decode b_Ju_change 382 = .ok (.ifCond .eq 21, 3) := by decide +kernel
theorem dJu_change_385 : decode b_Ju_change 385 = .ok (.aload_n 0, 1) := by decide +kernel
theorem dJu_change_386 : decode b_Ju_change 386 = .ok (.getfield 34, 3) := by decide +kernel
theorem dJu_change_389 : decode b_Ju_change 389 = .ok (.iload_n 3, 1) := by decide +kernel
theorem dJu_change_390 : decode b_Ju_change 390 = .ok (.invokestatic 144, 3) := by decide +kernel
theorem dJu_change_393 : decode b_Ju_change 393 = .ok (.invokevirtual 115, 3) := by decide +kernel
theorem dJu_change_396 : decode b_Ju_change 396 = .ok (.ifCond .eq 7, 3) := by decide +kernel
theorem dJu_change_399 : decode b_Ju_change 399 = .ok (.iconst 1, 1) := by decide +kernel
theorem dJu_change_400 : decode b_Ju_change 400 = .ok (.goto 4, 3) := by decide +kernel
theorem dJu_change_403 : decode b_Ju_change 403 = .ok (.iconst 0, 1) := by decide +kernel
theorem dJu_change_404 : decode b_Ju_change 404 = .ok (.ireturn, 1) := by decide +kernel
theorem dJu_enter_0 : decode b_Ju_enter 0 = .ok (.iconst 0, 1) := by decide +kernel
theorem dJu_enter_1 : decode b_Ju_enter 1 = .ok (.istore_n 2, 1) := by decide +kernel
theorem dJu_enter_2 : decode b_Ju_enter 2 = .ok (.iload_n 2, 1) := by decide +kernel
theorem dJu_enter_3 : decode b_Ju_enter 3 = .ok (.bipush 120, 2) := by decide +kernel
theorem dJu_enter_5 : decode b_Ju_enter 5 = .ok (.if_icmp .ge 23, 3) := by decide +kernel
theorem dJu_enter_8 : decode b_Ju_enter 8 = .ok (.aload_n 0, 1) := by decide +kernel
theorem dJu_enter_9 : decode b_Ju_enter 9 = .ok (.getfield 9, 3) := by decide +kernel
theorem dJu_enter_12 : decode b_Ju_enter 12 = .ok (.iload_n 2, 1) := by decide +kernel
theorem dJu_enter_13 : decode b_Ju_enter 13 = .ok (.iconst (-1), 1) := by decide +kernel
theorem dJu_enter_14 : decode b_Ju_enter 14 = .ok (.iastore, 1) := by decide +kernel
theorem dJu_enter_15 : decode b_Ju_enter 15 = .ok (.aload_n 0, 1) := by decide +kernel
theorem dJu_enter_16 : decode b_Ju_enter 16 = .ok (.getfield 27, 3) := by decide +kernel
theorem dJu_enter_19 : decode b_Ju_enter 19 = .ok (.iload_n 2, 1) := by decide +kernel
theorem dJu_enter_20 : decode b_Ju_enter 20 = .ok (.iconst 0, 1) := by decide +kernel
theorem dJu_enter_21 : decode b_Ju_enter 21 = .ok (.bastore, 1) := by decide +kernel
theorem dJu_enter_22 : decode b_Ju_enter 22 = .ok (.iinc 2 1, 3) := by decide +kernel
theorem dJu_enter_25 : decode b_Ju_enter 25 = .ok (.goto (-23), 3) := by decide +kernel
theorem dJu_enter_28 : decode b_Ju_enter 28 = .ok (.aload_n 0, 1) := by decide +kernel
theorem dJu_enter_29 : decode b_Ju_enter 29 = .ok (.iconst 0, 1) := by decide +kernel
theorem dJu_enter_30 : decode b_Ju_enter 30 = .ok (.putfield 46, 3) := by decide +kernel
theorem dJu_enter_33 : decode b_Ju_enter 33 = .ok (.aload_n 0, 1) := by decide +kernel
theorem dJu_enter_34 : decode b_Ju_enter 34 = .ok (.getfield 34, 3) := by decide +kernel
theorem dJu_enter_37 : decode b_Ju_enter 37 = .ok (.iconst 0, 1) := by decide +kernel
theorem dJu_enter_38 : decode b_Ju_enter 38 = .ok (.putfield 54, 3) := by decide +kernel
theorem dJu_enter_41 : decode b_Ju_enter 41 = .ok (.aload_n 0, 1) := by decide +kernel
theorem dJu_enter_42 : decode b_Ju_enter 42 = .ok (.getfield 34, 3) := by decide +kernel
theorem dJu_enter_45 : decode b_Ju_enter 45 = .ok (.iconst 0, 1) := by decide +kernel
theorem dJu_enter_46 : decode b_Ju_enter 46 = .ok (.putfield 57, 3) := by decide +kernel
theorem dJu_enter_49 : decode b_Ju_enter 49 = .ok (.aload_n 0, 1) := by decide +kernel
theorem dJu_enter_50 : decode b_Ju_enter 50 = .ok (.getfield 34, 3) := by decide +kernel
theorem dJu_enter_53 : decode b_Ju_enter 53 = .ok (.iconst 1, 1) := by decide +kernel
theorem dJu_enter_54 : decode b_Ju_enter 54 = .ok (.aload_n 1, 1) := by decide +kernel
theorem dJu_enter_55 : decode b_Ju_enter 55 = .ok (.getfield 60, 3) := by decide +kernel
theorem dJu_enter_58 : decode b_Ju_enter 58 = .ok (.ishl, 1) := by decide +kernel
theorem dJu_enter_59 : decode b_Ju_enter 59 = .ok (.iconst 1, 1) := by decide +kernel
theorem dJu_enter_60 : decode b_Ju_enter 60 = .ok (.isub, 1) := by decide +kernel
theorem dJu_enter_61 : decode b_Ju_enter 61 = .ok (.aload_n 1, 1) := by decide +kernel
theorem dJu_enter_62 : decode b_Ju_enter 62 = .ok (.getfield 65, 3) := by decide +kernel
theorem dJu_enter_65 : decode b_Ju_enter 65 = .ok (.iconst (-1), 1) := by decide +kernel
theorem dJu_enter_66 : decode b_Ju_enter 66 = .ok (.ixor, 1) := by decide +kernel
theorem dJu_enter_67 : decode b_Ju_enter 67 = .ok (.iand, 1) := by decide +kernel
theorem dJu_enter_68 : decode b_Ju_enter 68 = .ok (.putfield 68, 3) := by decide +kernel
theorem dJu_enter_71 : decode b_Ju_enter 71 = .ok (.aload_n 0, 1) := by decide +kernel
theorem dJu_enter_72 : decode b_Ju_enter 72 = .ok (.getfield 34, 3) := by decide +kernel
theorem dJu_enter_75 : decode b_Ju_enter 75 = .ok (.aload_n 1, 1) := by decide +kernel
theorem dJu_enter_76 : decode b_Ju_enter 76 = .ok (.getfield 65, 3) := by decide +kernel
theorem dJu_enter_79 : decode b_Ju_enter 79 = .ok (.putfield 70, 3) := by decide +kernel
theorem dJu_enter_82 : decode b_Ju_enter 82 = .ok (.return_, 1) := by decide +kernel
theorem dJu_follow_0 : decode b_Ju_follow 0 = .ok (.aload_n 2, 1) := by decide +kernel
theorem dJu_follow_1 : decode b_Ju_follow 1 = .ok (.iload_n 3, 1) := by decide +kernel
theorem dJu_follow_2 : decode b_Ju_follow 2 = .ok (.invokevirtual 72, 3) := by decide +kernel
theorem dJu_follow_5 : decode b_Ju_follow 5 = .ok (.istore 4, 2) := by decide +kernel
theorem dJu_follow_7 : decode b_Ju_follow 7 = .ok (.aload_n 2, 1) := by decide +kernel
theorem dJu_follow_8 : decode b_Ju_follow 8 = .ok (.iload_n 3, 1) := by decide +kernel
theorem dJu_follow_9 : decode b_Ju_follow 9 = .ok (.invokevirtual 76, 3) := by decide +kernel
theorem dJu_follow_12 : decode b_Ju_follow 12 = .ok (.istore 5, 2) := by decide +kernel
theorem dJu_follow_14 : decode b_Ju_follow 14 = .ok (.aload_n 0, 1) := by decide +kernel
theorem dJu_follow_15 : decode b_Ju_follow 15 = .ok (.getfield 34, 3) := by decide +kernel
theorem dJu_follow_18 : decode b_Ju_follow 18 = .ok (.aload_n 0, 1) := by decide +kernel
theorem dJu_follow_19 : decode b_Ju_follow 19 = .ok (.getfield 9, 3) := by decide +kernel
theorem dJu_follow_22 : decode b_Ju_follow 22 = .ok (.iload_n 3, 1) := by decide +kernel
theorem dJu_follow_23 : decode b_Ju_follow 23 = .ok (.iaload, 1) := by decide +kernel
theorem dJu_follow_24 : decode b_Ju_follow 24 = .ok (.putfield 54, 3) := by decide +kernel
theorem dJu_follow_27 : decode b_Ju_follow 27 = .ok (.aload_n 0, 1) := by decide +kernel
theorem dJu_follow_28 : decode b_Ju_follow 28 = .ok (.getfield 34, 3) := by decide +kernel
theorem dJu_follow_31 : decode b_Ju_follow 31 = .ok (.aload_n 0, 1) := by decide +kernel
theorem dJu_follow_32 : decode b_Ju_follow 32 = .ok (.getfield 15, 3) := by decide +kernel
theorem dJu_follow_35 : decode b_Ju_follow 35 = .ok (.iload_n 3, 1) := by decide +kernel
theorem dJu_follow_36 : decode b_Ju_follow 36 = .ok (.iaload, 1) := by decide +kernel
theorem dJu_follow_37 : decode b_Ju_follow 37 = .ok (.putfield 57, 3) := by decide +kernel
theorem dJu_follow_40 : decode b_Ju_follow 40 = .ok (.aload_n 0, 1) := by decide +kernel
theorem dJu_follow_41 : decode b_Ju_follow 41 = .ok (.getfield 34, 3) := by decide +kernel
theorem dJu_follow_44 : decode b_Ju_follow 44 = .ok (.aload_n 0, 1) := by decide +kernel
theorem dJu_follow_45 : decode b_Ju_follow 45 = .ok (.getfield 18, 3) := by decide +kernel
theorem dJu_follow_48 : decode b_Ju_follow 48 = .ok (.iload_n 3, 1) := by decide +kernel
theorem dJu_follow_49 : decode b_Ju_follow 49 = .ok (.iaload, 1) := by decide +kernel
theorem dJu_follow_50 : decode b_Ju_follow 50 = .ok (.putfield 68, 3) := by decide +kernel
theorem dJu_follow_53 : decode b_Ju_follow 53 = .ok (.aload_n 0, 1) := by decide +kernel
theorem dJu_follow_54 : decode b_Ju_follow 54 = .ok (.getfield 34, 3) := by decide +kernel
theorem dJu_follow_57 : decode b_Ju_follow 57 = .ok (.aload_n 0, 1) := by decide +kernel
theorem dJu_follow_58 : decode b_Ju_follow 58 = .ok (.getfield 21, 3) := by decide +kernel
theorem dJu_follow_61 : decode b_Ju_follow 61 = .ok (.iload_n 3, 1) := by decide +kernel
theorem dJu_follow_62 : decode b_Ju_follow 62 = .ok (.iaload, 1) := by decide +kernel
theorem dJu_follow_63 : decode b_Ju_follow 63 = .ok (.putfield 70, 3) := by decide +kernel
theorem dJu_follow_66 : decode b_Ju_follow 66 = .ok (.aload_n 1, 1) := by decide +kernel
theorem dJu_follow_67 : decode b_Ju_follow 67 = .ok (.aload_n 2, 1) := by decide +kernel
theorem dJu_follow_68 : decode b_Ju_follow 68 = .ok (.iload 4, 2) := by decide +kernel
theorem dJu_follow_70 : decode b_Ju_follow 70 = .ok (.iload 5, 2) := by decide +kernel
theorem dJu_follow_72 : decode b_Ju_follow 72 = .ok (.invokestatic 79, 3) := by decide +kernel
theorem dJu_follow_75 : decode b_Ju_follow 75 = .ok (.ifCond .eq 30, 3) := by decide +kernel
theorem dJu_follow_78 : decode b_Ju_follow 78 = .ok (.aload_n 0, 1) := by decide +kernel
theorem dJu_follow_79 : decode b_Ju_follow 79 = .ok (.aload_n 1, 1) := by decide +kernel
theorem dJu_follow_80 : decode b_Ju_follow 80 = .ok (.aload_n 2, 1) := by decide +kernel
theorem dJu_follow_81 : decode b_Ju_follow 81 = .ok (.iload 4, 2) := by decide +kernel
theorem dJu_follow_83 : decode b_Ju_follow 83 = .ok (.iload 5, 2) := by decide +kernel
theorem dJu_follow_85 : decode b_Ju_follow 85 = .ok (.invokevirtual 83, 3) := by decide +kernel
theorem dJu_follow_88 : decode b_Ju_follow 88 = .ok (.ifCond .eq 17, 3) := by decide +kernel
theorem dJu_follow_91 : decode b_Ju_follow 91 = .ok (.aload_n 0, 1) := by decide +kernel
theorem dJu_follow_92 : decode b_Ju_follow 92 = .ok (.getfield 34, 3) := by decide +kernel
theorem dJu_follow_95 : decode b_Ju_follow 95 = .ok (.getfield 54, 3) := by decide +kernel
theorem dJu_follow_98 : decode b_Ju_follow 98 = .ok (.aload_n 2, 1) := by decide +kernel
theorem dJu_follow_99 : decode b_Ju_follow 99 = .ok (.getfield 86, 3) := by decide +kernel
theorem dJu_follow_102 : decode b_Ju_follow 102 = .ok (.if_icmp .le 5, 3) := by decide +kernel
theorem dJu_follow_105 : decode b_Ju_follow 105 = .ok (.iconst 0, 1) := by decide +kernel
theorem dJu_follow_106 : decode b_Ju_follow 106 = .ok (.ireturn, 1) := by decide +kernel
theorem dJu_follow_107 : decode b_Ju_follow 107 = .ok (.iload 4, 2) := by decide +kernel
theorem dJu_follow_109 : decode b_Ju_follow 109 = .ok (.bipush 24, 2) := by decide +kernel
theorem dJu_follow_111 : decode b_Ju_follow 111 = .ok (.if_icmp .ne 19, 3) := by decide +kernel
theorem dJu_follow_114 : decode b_Ju_follow 114 = .ok (.aload_n 0, 1) := by decide +kernel
theorem dJu_follow_115 : decode b_Ju_follow 115 = .ok (.getfield 34, 3) := by decide +kernel
theorem dJu_follow_118 : decode b_Ju_follow 118 = .ok (.getfield 54, 3) := by decide +kernel
theorem dJu_follow_121 : decode b_Ju_follow 121 = .ok (.ifCond .ne 7, 3) := by decide +kernel
theorem dJu_follow_124 : decode b_Ju_follow 124 = .ok (.iconst 1, 1) := by decide +kernel
theorem dJu_follow_125 : decode b_Ju_follow 125 = .ok (.goto 4, 3) := by decide +kernel
theorem dJu_follow_128 : decode b_Ju_follow 128 = .ok (.iconst 0, 1) := by decide +kernel
theorem dJu_follow_129 : decode b_Ju_follow 129 = .ok (.ireturn, 1) := by decide +kernel
theorem dJu_follow_130 : decode b_Ju_follow 130 = .ok (.iload 4, 2) := by decide +kernel
theorem dJu_follow_132 : decode b_Ju_follow 132 = .ok (.invokestatic 91, 3) := by decide +kernel
theorem dJu_follow_135 : decode b_Ju_follow 135 = .ok (.ifCond .eq 15, 3) := by decide +kernel
theorem dJu_follow_138 : decode b_Ju_follow 138 = .ok (.aload_n 0, 1) := by decide +kernel
theorem dJu_follow_139 : decode b_Ju_follow 139 = .ok (.aload_n 2, 1) := by decide +kernel
theorem dJu_follow_140 : decode b_Ju_follow 140 = .ok (.iload 5, 2) := by decide +kernel
theorem dJu_follow_142 : decode b_Ju_follow 142 = .ok (.invokevirtual 42, 3) := by decide +kernel
theorem dJu_follow_145 : decode b_Ju_follow 145 = .ok (.ifCond .ne 5, 3) := by decide +kernel
theorem dJu_follow_148 : decode b_Ju_follow 148 = .ok (.iconst 0, 1) := by decide +kernel
theorem dJu_follow_149 : decode b_Ju_follow 149 = .ok (.ireturn, 1) := by decide +kernel
theorem dJu_follow_150 : decode b_Ju_follow 150 = .ok (.iload 4, 2) := by decide +kernel
theorem dJu_follow_152 : decode b_Ju_follow 152 = .ok (.bipush 14, 2) := by decide +kernel
theorem dJu_follow_154 : decode b_Ju_follow 154 = .ok (.if_icmp .eq 14, 3) := by decide +kernel
theorem dJu_follow_157 : decode b_Ju_follow 157 = .ok (.aload_n 0, 1) := by decide +kernel
theorem dJu_follow_158 : decode b_Ju_follow 158 = .ok (.aload_n 2, 1) := by decide +kernel
theorem dJu_follow_159 : decode b_Ju_follow 159 = .ok (.iload_n 3, 1) := by decide +kernel
theorem dJu_follow_160 : decode b_Ju_follow 160 = .ok (.iconst 1, 1) := by decide +kernel
theorem dJu_follow_161 : decode b_Ju_follow 161 = .ok (.iadd, 1) := by decide +kernel
theorem dJu_follow_162 : decode b_Ju_follow 162 = .ok (.invokevirtual 42, 3) := by decide +kernel
theorem dJu_follow_165 : decode b_Ju_follow 165 = .ok (.ifCond .eq 7, 3) := by decide +kernel
theorem dJu_follow_168 : decode b_Ju_follow 168 = .ok (.iconst 1, 1) := by decide +kernel
theorem dJu_follow_169 : decode b_Ju_follow 169 = .ok (.goto 4, 3) := by decide +kernel
theorem dJu_follow_172 : decode b_Ju_follow 172 = .ok (.iconst 0, 1) := by decide +kernel
theorem dJu_follow_173 : decode b_Ju_follow 173 = .ok (.ireturn, 1) := by decide +kernel
theorem dJu_heightAt_0 : decode b_Ju_heightAt 0 = .ok (.iload_n 1, 1) := by decide +kernel
theorem dJu_heightAt_1 : decode b_Ju_heightAt 1 = .ok (.bipush 120, 2) := by decide +kernel
theorem dJu_heightAt_3 : decode b_Ju_heightAt 3 = .ok (.invokestatic 101, 3) := by decide +kernel
theorem dJu_heightAt_6 : decode b_Ju_heightAt 6 = .ok (.ifCond .eq 12, 3) := by decide +kernel
theorem dJu_heightAt_9 : decode b_Ju_heightAt 9 = .ok (.aload_n 0, 1) := by decide +kernel
theorem dJu_heightAt_10 : decode b_Ju_heightAt 10 = .ok (.getfield 9, 3) := by decide +kernel
theorem dJu_heightAt_13 : decode b_Ju_heightAt 13 = .ok (.iload_n 1, 1) := by decide +kernel
theorem dJu_heightAt_14 : decode b_Ju_heightAt 14 = .ok (.iaload, 1) := by decide +kernel
theorem dJu_heightAt_15 : decode b_Ju_heightAt 15 = .ok (.goto 4, 3) := by decide +kernel
theorem dJu_heightAt_18 : decode b_Ju_heightAt 18 = .ok (.iconst (-1), 1) := by decide +kernel
theorem dJu_heightAt_19 : decode b_Ju_heightAt 19 = .ok (.ireturn, 1) := by decide +kernel
theorem dJu_init_0 : decode b_Ju_init 0 = .ok (.aload_n 0, 1) := by decide +kernel
theorem dJu_init_1 : decode b_Ju_init 1 = .ok (.invokespecial 3, 3) := by decide +kernel
theorem dJu_init_4 : decode b_Ju_init 4 = .ok (.aload_n 0, 1) := by decide +kernel
theorem dJu_init_5 : decode b_Ju_init 5 = .ok (.bipush 120, 2) := by decide +kernel
theorem dJu_init_7 : decode b_Ju_init 7 = .ok (.newarray .int, 2) := by decide +kernel
theorem dJu_init_9 : decode b_Ju_init 9 = .ok (.putfield 9, 3) := by decide +kernel
theorem dJu_init_12 : decode b_Ju_init 12 = .ok (.aload_n 0, 1) := by decide +kernel
theorem dJu_init_13 : decode b_Ju_init 13 = .ok (.bipush 120, 2) := by decide +kernel
theorem dJu_init_15 : decode b_Ju_init 15 = .ok (.newarray .int, 2) := by decide +kernel
theorem dJu_init_17 : decode b_Ju_init 17 = .ok (.putfield 15, 3) := by decide +kernel
theorem dJu_init_20 : decode b_Ju_init 20 = .ok (.aload_n 0, 1) := by decide +kernel
theorem dJu_init_21 : decode b_Ju_init 21 = .ok (.bipush 120, 2) := by decide +kernel
theorem dJu_init_23 : decode b_Ju_init 23 = .ok (.newarray .int, 2) := by decide +kernel
theorem dJu_init_25 : decode b_Ju_init 25 = .ok (.putfield 18, 3) := by decide +kernel
theorem dJu_init_28 : decode b_Ju_init 28 = .ok (.aload_n 0, 1) := by decide +kernel
theorem dJu_init_29 : decode b_Ju_init 29 = .ok (.bipush 120, 2) := by decide +kernel
theorem dJu_init_31 : decode b_Ju_init 31 = .ok (.newarray .int, 2) := by decide +kernel
theorem dJu_init_33 : decode b_Ju_init 33 = .ok (.putfield 21, 3) := by decide +kernel
theorem dJu_init_36 : decode b_Ju_init 36 = .ok (.aload_n 0, 1) := by decide +kernel
theorem dJu_init_37 : decode b_Ju_init 37 = .ok (.bipush 120, 2) := by decide +kernel
theorem dJu_init_39 : decode b_Ju_init 39 = .ok (.newarray .int, 2) := by decide +kernel
theorem dJu_init_41 : decode b_Ju_init 41 = .ok (.putfield 24, 3) := by decide +kernel
theorem dJu_init_44 : decode b_Ju_init 44 = .ok (.aload_n 0, 1) := by decide +kernel
theorem dJu_init_45 : decode b_Ju_init 45 = .ok (.bipush 120, 2) := by decide +kernel
theorem dJu_init_47 : decode b_Ju_init 47 = .ok (.newarray .boolean, 2) := by decide +kernel
theorem dJu_init_49 : decode b_Ju_init 49 = .ok (.putfield 27, 3) := by decide +kernel
theorem dJu_init_52 : decode b_Ju_init 52 = .ok (.aload_n 0, 1) := by decide +kernel
theorem dJu_init_53 : decode b_Ju_init 53 = .ok (.new 31, 3) := by decide +kernel
theorem dJu_init_56 : decode b_Ju_init 56 = .ok (.dup, 1) := by decide +kernel
theorem dJu_init_57 : decode b_Ju_init 57 = .ok (.invokespecial 33, 3) := by decide +kernel
theorem dJu_init_60 : decode b_Ju_init 60 = .ok (.putfield 34, 3) := by decide +kernel
theorem dJu_init_63 : decode b_Ju_init 63 = .ok (.return_, 1) := by decide +kernel
theorem dJu_isThere_0 : decode b_Ju_isThere 0 = .ok (.iload_n 2, 1) := by decide +kernel
theorem dJu_isThere_1 : decode b_Ju_isThere 1 = .ok (.invokestatic 95, 3) := by decide +kernel
theorem dJu_isThere_4 : decode b_Ju_isThere 4 = .ok (.ifCond .eq 12, 3) := by decide +kernel
theorem dJu_isThere_7 : decode b_Ju_isThere 7 = .ok (.iload_n 3, 1) := by decide +kernel
theorem dJu_isThere_8 : decode b_Ju_isThere 8 = .ok (.aload_n 1, 1) := by decide +kernel
theorem dJu_isThere_9 : decode b_Ju_isThere 9 = .ok (.getfield 98, 3) := by decide +kernel
theorem dJu_isThere_12 : decode b_Ju_isThere 12 = .ok (.invokestatic 101, 3) := by decide +kernel
theorem dJu_isThere_15 : decode b_Ju_isThere 15 = .ok (.ireturn, 1) := by decide +kernel
theorem dJu_isThere_16 : decode b_Ju_isThere 16 = .ok (.iload_n 2, 1) := by decide +kernel
theorem dJu_isThere_17 : decode b_Ju_isThere 17 = .ok (.invokestatic 91, 3) := by decide +kernel
theorem dJu_isThere_20 : decode b_Ju_isThere 20 = .ok (.ifCond .eq 9, 3) := by decide +kernel
theorem dJu_isThere_23 : decode b_Ju_isThere 23 = .ok (.aload_n 1, 1) := by decide +kernel
theorem dJu_isThere_24 : decode b_Ju_isThere 24 = .ok (.iload_n 3, 1) := by decide +kernel
theorem dJu_isThere_25 : decode b_Ju_isThere 25 = .ok (.invokevirtual 105, 3) := by decide +kernel
theorem dJu_isThere_28 : decode b_Ju_isThere 28 = .ok (.ireturn, 1) := by decide +kernel
theorem dJu_isThere_29 : decode b_Ju_isThere 29 = .ok (.iload_n 2, 1) := by decide +kernel
theorem dJu_isThere_30 : decode b_Ju_isThere 30 = .ok (.bipush 23, 2) := by decide +kernel
theorem dJu_isThere_32 : decode b_Ju_isThere 32 = .ok (.if_icmp .ne 21, 3) := by decide +kernel
theorem dJu_isThere_35 : decode b_Ju_isThere 35 = .ok (.iload_n 3, 1) := by decide +kernel
theorem dJu_isThere_36 : decode b_Ju_isThere 36 = .ok (.bipush 8, 2) := by decide +kernel
theorem dJu_isThere_38 : decode b_Ju_isThere 38 = .ok (.invokestatic 101, 3) := by decide +kernel
theorem dJu_isThere_41 : decode b_Ju_isThere 41 = .ok (.ifCond .eq 16, 3) := by decide +kernel
theorem dJu_isThere_44 : decode b_Ju_isThere 44 = .ok (.aload_n 0, 1) := by decide +kernel
theorem dJu_isThere_45 : decode b_Ju_isThere 45 = .ok (.iload_n 3, 1) := by decide +kernel
theorem dJu_isThere_46 : decode b_Ju_isThere 46 = .ok (.aaload, 1) := by decide +kernel
theorem dJu_isThere_47 : decode b_Ju_isThere 47 = .ok (.getfield 108, 3) := by decide +kernel
theorem dJu_isThere_50 : decode b_Ju_isThere 50 = .ok (.ifCond .eq 7, 3) := by decide +kernel
theorem dJu_isThere_53 : decode b_Ju_isThere 53 = .ok (.iconst 1, 1) := by decide +kernel
theorem dJu_isThere_54 : decode b_Ju_isThere 54 = .ok (.goto 4, 3) := by decide +kernel
theorem dJu_isThere_57 : decode b_Ju_isThere 57 = .ok (.iconst 0, 1) := by decide +kernel
theorem dJu_isThere_58 : decode b_Ju_isThere 58 = .ok (.ireturn, 1) := by decide +kernel
theorem dJu_localTypeAt_0 : decode b_Ju_localTypeAt 0 = .ok (.aload_n 0, 1) := by decide +kernel
theorem dJu_localTypeAt_1 : decode b_Ju_localTypeAt 1 = .ok (.iload_n 1, 1) := by decide +kernel
theorem dJu_localTypeAt_2 : decode b_Ju_localTypeAt 2 = .ok (.invokevirtual 151, 3) := by decide +kernel
theorem dJu_localTypeAt_5 : decode b_Ju_localTypeAt 5 = .ok (.iconst (-1), 1) := by decide +kernel
theorem dJu_localTypeAt_6 : decode b_Ju_localTypeAt 6 = .ok (.if_icmp .ne 5, 3) := by decide +kernel
theorem dJu_localTypeAt_9 : decode b_Ju_localTypeAt 9 = .ok (.iconst (-1), 1) := by decide +kernel
theorem dJu_localTypeAt_10 : decode b_Ju_localTypeAt 10 = .ok (.ireturn, 1) := by decide +kernel
theorem dJu_localTypeAt_11 : decode b_Ju_localTypeAt 11 = .ok (.aload_n 0, 1) := by decide +kernel
theorem dJu_localTypeAt_12 : decode b_Ju_localTypeAt 12 = .ok (.getfield 18, 3) := by decide +kernel
theorem dJu_localTypeAt_15 : decode b_Ju_localTypeAt 15 = .ok (.iload_n 1, 1) := by decide +kernel
theorem dJu_localTypeAt_16 : decode b_Ju_localTypeAt 16 = .ok (.iaload, 1) := by decide +kernel
theorem dJu_localTypeAt_17 : decode b_Ju_localTypeAt 17 = .ok (.iload_n 2, 1) := by decide +kernel
theorem dJu_localTypeAt_18 : decode b_Ju_localTypeAt 18 = .ok (.ishr, 1) := by decide +kernel
theorem dJu_localTypeAt_19 : decode b_Ju_localTypeAt 19 = .ok (.iconst 1, 1) := by decide +kernel
theorem dJu_localTypeAt_20 : decode b_Ju_localTypeAt 20 = .ok (.iand, 1) := by decide +kernel
theorem dJu_localTypeAt_21 : decode b_Ju_localTypeAt 21 = .ok (.ifCond .eq 5, 3) := by decide +kernel
theorem dJu_localTypeAt_24 : decode b_Ju_localTypeAt 24 = .ok (.iconst 1, 1) := by decide +kernel
theorem dJu_localTypeAt_25 : decode b_Ju_localTypeAt 25 = .ok (.ireturn, 1) := by decide +kernel
theorem dJu_localTypeAt_26 : decode b_Ju_localTypeAt 26 = .ok (.aload_n 0, 1) := by decide +kernel
theorem dJu_localTypeAt_27 : decode b_Ju_localTypeAt 27 = .ok (.getfield 21, 3) := by decide +kernel
theorem dJu_localTypeAt_30 : decode b_Ju_localTypeAt 30 = .ok (.iload_n 1, 1) := by decide +kernel
theorem dJu_localTypeAt_31 : decode b_Ju_localTypeAt 31 = .ok (.iaload, 1) := by decide +kernel
theorem dJu_localTypeAt_32 : decode b_Ju_localTypeAt 32 = .ok (.iload_n 2, 1) := by decide +kernel
theorem dJu_localTypeAt_33 : decode b_Ju_localTypeAt 33 = .ok (.ishr, 1) := by decide +kernel
theorem dJu_localTypeAt_34 : decode b_Ju_localTypeAt 34 = .ok (.iconst 1, 1) := by decide +kernel
theorem dJu_localTypeAt_35 : decode b_Ju_localTypeAt 35 = .ok (.iand, 1) := by decide +kernel
theorem dJu_localTypeAt_36 : decode b_Ju_localTypeAt 36 = .ok (.ifCond .eq 7, 3) := by decide +kernel
theorem dJu_localTypeAt_39 : decode b_Ju_localTypeAt 39 = .ok (.iconst 2, 1) := by decide +kernel
theorem dJu_localTypeAt_40 : decode b_Ju_localTypeAt 40 = .ok (.goto 4, 3) := by decide +kernel
theorem dJu_localTypeAt_43 : decode b_Ju_localTypeAt 43 = .ok (.iconst 0, 1) := by decide +kernel
theorem dJu_localTypeAt_44 : decode b_Ju_localTypeAt 44 = .ok (.ireturn, 1) := by decide +kernel
theorem dJu_stackTypeAt_0 : decode b_Ju_stackTypeAt 0 = .ok (.iload_n 2, 1) := by decide +kernel
theorem dJu_stackTypeAt_1 : decode b_Ju_stackTypeAt 1 = .ok (.aload_n 0, 1) := by decide +kernel
theorem dJu_stackTypeAt_2 : decode b_Ju_stackTypeAt 2 = .ok (.iload_n 1, 1) := by decide +kernel
theorem dJu_stackTypeAt_3 : decode b_Ju_stackTypeAt 3 = .ok (.invokevirtual 151, 3) := by decide +kernel
theorem dJu_stackTypeAt_6 : decode b_Ju_stackTypeAt 6 = .ok (.invokestatic 101, 3) := by decide +kernel
theorem dJu_stackTypeAt_9 : decode b_Ju_stackTypeAt 9 = .ok (.ifCond .ne 5, 3) := by decide +kernel
theorem dJu_stackTypeAt_12 : decode b_Ju_stackTypeAt 12 = .ok (.iconst (-1), 1) := by decide +kernel
theorem dJu_stackTypeAt_13 : decode b_Ju_stackTypeAt 13 = .ok (.ireturn, 1) := by decide +kernel
theorem dJu_stackTypeAt_14 : decode b_Ju_stackTypeAt 14 = .ok (.aload_n 0, 1) := by decide +kernel
theorem dJu_stackTypeAt_15 : decode b_Ju_stackTypeAt 15 = .ok (.getfield 15, 3) := by decide +kernel
theorem dJu_stackTypeAt_18 : decode b_Ju_stackTypeAt 18 = .ok (.iload_n 1, 1) := by decide +kernel
theorem dJu_stackTypeAt_19 : decode b_Ju_stackTypeAt 19 = .ok (.iaload, 1) := by decide +kernel
theorem dJu_stackTypeAt_20 : decode b_Ju_stackTypeAt 20 = .ok (.iload_n 2, 1) := by decide +kernel
theorem dJu_stackTypeAt_21 : decode b_Ju_stackTypeAt 21 = .ok (.ishr, 1) := by decide +kernel
theorem dJu_stackTypeAt_22 : decode b_Ju_stackTypeAt 22 = .ok (.iconst 1, 1) := by decide +kernel
theorem dJu_stackTypeAt_23 : decode b_Ju_stackTypeAt 23 = .ok (.iand, 1) := by decide +kernel
theorem dJu_stackTypeAt_24 : decode b_Ju_stackTypeAt 24 = .ok (.ifCond .eq 7, 3) := by decide +kernel
theorem dJu_stackTypeAt_27 : decode b_Ju_stackTypeAt 27 = .ok (.iconst 2, 1) := by decide +kernel
theorem dJu_stackTypeAt_28 : decode b_Ju_stackTypeAt 28 = .ok (.goto 4, 3) := by decide +kernel
theorem dJu_stackTypeAt_31 : decode b_Ju_stackTypeAt 31 = .ok (.iconst 1, 1) := by decide +kernel
theorem dJu_stackTypeAt_32 : decode b_Ju_stackTypeAt 32 = .ok (.ireturn, 1) := by decide +kernel
theorem dMT_floorMod_0 : decode b_MT_floorMod 0 = .ok (.iload_n 0, 1) := by decide +kernel
theorem dMT_floorMod_1 : decode b_MT_floorMod 1 = .ok (.iload_n 1, 1) := by decide +kernel
theorem dMT_floorMod_2 : decode b_MT_floorMod 2 = .ok (.irem, 1) := by decide +kernel
theorem dMT_floorMod_3 : decode b_MT_floorMod 3 = .ok (.istore_n 2, 1) := by decide +kernel
theorem dMT_floorMod_4 : decode b_MT_floorMod 4 = .ok (.iload_n 0, 1) := by decide +kernel
theorem dMT_floorMod_5 : decode b_MT_floorMod 5 = .ok (.iload_n 1, 1) := by decide +kernel
theorem dMT_floorMod_6 : decode b_MT_floorMod 6 = .ok (.ixor, 1) := by decide +kernel
theorem dMT_floorMod_7 : decode b_MT_floorMod 7 = .ok (.ifCond .ge 11, 3) := by decide +kernel
theorem dMT_floorMod_10 : decode b_MT_floorMod 10 = .ok (.iload_n 2, 1) := by decide +kernel
theorem dMT_floorMod_11 : decode b_MT_floorMod 11 = .ok (.ifCond .eq 7, 3) := by decide +kernel
theorem dMT_floorMod_14 : decode b_MT_floorMod 14 = .ok (.iload_n 2, 1) := by decide +kernel
theorem dMT_floorMod_15 : decode b_MT_floorMod 15 = .ok (.iload_n 1, 1) := by decide +kernel
theorem dMT_floorMod_16 : decode b_MT_floorMod 16 = .ok (.iadd, 1) := by decide +kernel
theorem dMT_floorMod_17 : decode b_MT_floorMod 17 = .ok (.ireturn, 1) := by decide +kernel
theorem dMT_floorMod_18 : decode b_MT_floorMod 18 = .ok (.iload_n 2, 1) := by decide +kernel
theorem dMT_floorMod_19 : decode b_MT_floorMod 19 = .ok (.ireturn, 1) := by decide +kernel
theorem dMa_advance_0 : decode b_Ma_advance 0 = .ok (.iconst 0, 1) := by decide +kernel
theorem dMa_advance_1 : decode b_Ma_advance 1 = .ok (.istore_n 3, 1) := by decide +kernel
theorem dMa_advance_2 : decode b_Ma_advance 2 = .ok (.iload_n 3, 1) := by decide +kernel
theorem dMa_advance_3 : decode b_Ma_advance 3 = .ok (.iload_n 2, 1) := by decide +kernel
theorem dMa_advance_4 : decode b_Ma_advance 4 = .ok (.if_icmp .ge 24, 3) := by decide +kernel
theorem dMa_advance_7 : decode b_Ma_advance 7 = .ok (.aload_n 0, 1) := by decide +kernel
theorem dMa_advance_8 : decode b_Ma_advance 8 = .ok (.getfield 36, 3) := by decide +kernel
theorem dMa_advance_11 : decode b_Ma_advance 11 = .ok (.ifCond .ne 17, 3) := by decide +kernel
theorem dMa_advance_14 : decode b_Ma_advance 14 = .ok (.aload_n 0, 1) := by decide +kernel
theorem dMa_advance_15 : decode b_Ma_advance 15 = .ok (.aload_n 1, 1) := by decide +kernel
theorem dMa_advance_16 : decode b_Ma_advance 16 = .ok (.invokevirtual 74, 3) := by decide +kernel
theorem dMa_advance_19 : decode b_Ma_advance 19 = .ok (.ifCond .eq 9, 3) := by decide +kernel
theorem dMa_advance_22 : decode b_Ma_advance 22 = .ok (.iinc 3 1, 3) := by decide +kernel
theorem dMa_advance_25 : decode b_Ma_advance 25 = .ok (.goto (-23), 3) := by decide +kernel
theorem dMa_advance_28 : decode b_Ma_advance 28 = .ok (.iload_n 3, 1) := by decide +kernel
theorem dMa_advance_29 : decode b_Ma_advance 29 = .ok (.ireturn, 1) := by decide +kernel
theorem dMa_begin_0 : decode b_Ma_begin 0 = .ok (.aload_n 0, 1) := by decide +kernel
theorem dMa_begin_1 : decode b_Ma_begin 1 = .ok (.iconst 1, 1) := by decide +kernel
theorem dMa_begin_2 : decode b_Ma_begin 2 = .ok (.putfield 32, 3) := by decide +kernel
theorem dMa_begin_5 : decode b_Ma_begin 5 = .ok (.aload_n 0, 1) := by decide +kernel
theorem dMa_begin_6 : decode b_Ma_begin 6 = .ok (.iconst 0, 1) := by decide +kernel
theorem dMa_begin_7 : decode b_Ma_begin 7 = .ok (.putfield 36, 3) := by decide +kernel
theorem dMa_begin_10 : decode b_Ma_begin 10 = .ok (.aload_n 0, 1) := by decide +kernel
theorem dMa_begin_11 : decode b_Ma_begin 11 = .ok (.iconst 0, 1) := by decide +kernel
theorem dMa_begin_12 : decode b_Ma_begin 12 = .ok (.putfield 40, 3) := by decide +kernel
theorem dMa_begin_15 : decode b_Ma_begin 15 = .ok (.aload_n 0, 1) := by decide +kernel
theorem dMa_begin_16 : decode b_Ma_begin 16 = .ok (.iconst 0, 1) := by decide +kernel
theorem dMa_begin_17 : decode b_Ma_begin 17 = .ok (.putfield 43, 3) := by decide +kernel
theorem dMa_begin_20 : decode b_Ma_begin 20 = .ok (.aload_n 0, 1) := by decide +kernel
theorem dMa_begin_21 : decode b_Ma_begin 21 = .ok (.getfield 21, 3) := by decide +kernel
theorem dMa_begin_24 : decode b_Ma_begin 24 = .ok (.invokevirtual 46, 3) := by decide +kernel
theorem dMa_begin_27 : decode b_Ma_begin 27 = .ok (.aload_n 0, 1) := by decide +kernel
theorem dMa_begin_28 : decode b_Ma_begin 28 = .ok (.getfield 28, 3) := by decide +kernel
theorem dMa_begin_31 : decode b_Ma_begin 31 = .ok (.invokevirtual 49, 3) := by decide +kernel
theorem dMa_begin_34 : decode b_Ma_begin 34 = .ok (.aload_n 0, 1) := by decide +kernel
theorem dMa_begin_35 : decode b_Ma_begin 35 = .ok (.getfield 12, 3) := by decide +kernel
theorem dMa_begin_38 : decode b_Ma_begin 38 = .ok (.iconst 0, 1) := by decide +kernel
theorem dMa_begin_39 : decode b_Ma_begin 39 = .ok (.putfield 50, 3) := by decide +kernel
theorem dMa_begin_42 : decode b_Ma_begin 42 = .ok (.aload_n 0, 1) := by decide +kernel
theorem dMa_begin_43 : decode b_Ma_begin 43 = .ok (.getfield 12, 3) := by decide +kernel
theorem dMa_begin_46 : decode b_Ma_begin 46 = .ok (.iload_n 1, 1) := by decide +kernel
theorem dMa_begin_47 : decode b_Ma_begin 47 = .ok (.invokevirtual 53, 3) := by decide +kernel
theorem dMa_begin_50 : decode b_Ma_begin 50 = .ok (.return_, 1) := by decide +kernel
theorem dMa_combine_0 : decode b_Ma_combine 0 = .ok (.iload_n 1, 1) := by decide +kernel
theorem dMa_combine_1 : decode b_Ma_combine 1 = .ok (.lookupswitch 92 #[(12, 54), (13, 73), (22, 35)], 35) := by decide +kernel
theorem dMa_combine_36 : decode b_Ma_combine 36 = .ok (.aload_n 0, 1) := by decide +kernel
theorem dMa_combine_37 : decode b_Ma_combine 37 = .ok (.getfield 12, 3) := by decide +kernel
theorem dMa_combine_40 : decode b_Ma_combine 40 = .ok (.iload_n 3, 1) := by decide +kernel
theorem dMa_combine_41 : decode b_Ma_combine 41 = .ok (.invokevirtual 162, 3) := by decide +kernel
theorem dMa_combine_44 : decode b_Ma_combine 44 = .ok (.aload_n 0, 1) := by decide +kernel
theorem dMa_combine_45 : decode b_Ma_combine 45 = .ok (.getfield 12, 3) := by decide +kernel
theorem dMa_combine_48 : decode b_Ma_combine 48 = .ok (.iload_n 2, 1) := by decide +kernel
theorem dMa_combine_49 : decode b_Ma_combine 49 = .ok (.invokevirtual 162, 3) := by decide +kernel
theorem dMa_combine_52 : decode b_Ma_combine 52 = .ok (.goto 54, 3) := by decide +kernel
theorem dMa_combine_55 : decode b_Ma_combine 55 = .ok (.aload_n 0, 1) := by decide +kernel
theorem dMa_combine_56 : decode b_Ma_combine 56 = .ok (.getfield 12, 3) := by decide +kernel
theorem dMa_combine_59 : decode b_Ma_combine 59 = .ok (.aload_n 0, 1) := by decide +kernel
theorem dMa_combine_60 : decode b_Ma_combine 60 = .ok (.getfield 21, 3) := by decide +kernel
theorem dMa_combine_63 : decode b_Ma_combine 63 = .ok (.iload_n 2, 1) := by decide +kernel
theorem dMa_combine_64 : decode b_Ma_combine 64 = .ok (.iload_n 3, 1) := by decide +kernel
theorem dMa_combine_65 : decode b_Ma_combine 65 = .ok (.invokevirtual 177, 3) := by decide +kernel
theorem dMa_combine_68 : decode b_Ma_combine 68 = .ok (.invokevirtual 162, 3) := by decide +kernel
theorem dMa_combine_71 : decode b_Ma_combine 71 = .ok (.goto 35, 3) := by decide +kernel
theorem dMa_combine_74 : decode b_Ma_combine 74 = .ok (.aload_n 0, 1) := by decide +kernel
theorem dMa_combine_75 : decode b_Ma_combine 75 = .ok (.getfield 21, 3) := by decide +kernel
theorem dMa_combine_78 : decode b_Ma_combine 78 = .ok (.aload_n 0, 1) := by decide +kernel
theorem dMa_combine_79 : decode b_Ma_combine 79 = .ok (.getfield 12, 3) := by decide +kernel
theorem dMa_combine_82 : decode b_Ma_combine 82 = .ok (.invokevirtual 130, 3) := by decide +kernel
theorem dMa_combine_85 : decode b_Ma_combine 85 = .ok (.iload_n 2, 1) := by decide +kernel
theorem dMa_combine_86 : decode b_Ma_combine 86 = .ok (.iload_n 3, 1) := by decide +kernel
theorem dMa_combine_87 : decode b_Ma_combine 87 = .ok (.invokevirtual 180, 3) := by decide +kernel
theorem dMa_combine_90 : decode b_Ma_combine 90 = .ok (.goto 16, 3) := by decide +kernel
theorem dMa_combine_93 : decode b_Ma_combine 93 = .ok (.aload_n 0, 1) := by decide +kernel
theorem dMa_combine_94 : decode b_Ma_combine 94 = .ok (.getfield 12, 3) := by decide +kernel
theorem dMa_combine_97 : decode b_Ma_combine 97 = .ok (.iload_n 1, 1) := by decide +kernel
theorem dMa_combine_98 : decode b_Ma_combine 98 = .ok (.iload_n 2, 1) := by decide +kernel
theorem dMa_combine_99 : decode b_Ma_combine 99 = .ok (.iload_n 3, 1) := by decide +kernel
theorem dMa_combine_100 : decode b_Ma_combine 100 = .ok (.invokestatic 183, 3) := by decide +kernel
theorem dMa_combine_103 : decode b_Ma_combine 103 = .ok (.invokevirtual 162, 3) := by decide +kernel
theorem dMa_combine_106 : decode b_Ma_combine 106 = .ok (.return_, 1) := by decide +kernel
theorem dMa_forget_0 : decode b_Ma_forget 0 = .ok (.aload_n 0, 1) := by decide +kernel
theorem dMa_forget_1 : decode b_Ma_forget 1 = .ok (.iconst 0, 1) := by decide +kernel
theorem dMa_forget_2 : decode b_Ma_forget 2 = .ok (.putfield 32, 3) := by decide +kernel
theorem dMa_forget_5 : decode b_Ma_forget 5 = .ok (.return_, 1) := by decide +kernel
theorem dMa_give_0 : decode b_Ma_give 0 = .ok (.iload_n 2, 1) := by decide +kernel
theorem dMa_give_1 : decode b_Ma_give 1 = .ok (.aload_n 1, 1) := by decide +kernel
theorem dMa_give_2 : decode b_Ma_give 2 = .ok (.getfield 57, 3) := by decide +kernel
theorem dMa_give_5 : decode b_Ma_give 5 = .ok (.if_icmp .ge 31, 3) := by decide +kernel
theorem dMa_give_8 : decode b_Ma_give 8 = .ok (.aload_n 0, 1) := by decide +kernel
theorem dMa_give_9 : decode b_Ma_give 9 = .ok (.getfield 12, 3) := by decide +kernel
theorem dMa_give_12 : decode b_Ma_give 12 = .ok (.iload_n 2, 1) := by decide +kernel
theorem dMa_give_13 : decode b_Ma_give 13 = .ok (.aload_n 1, 1) := by decide +kernel
theorem dMa_give_14 : decode b_Ma_give 14 = .ok (.iload_n 2, 1) := by decide +kernel
theorem dMa_give_15 : decode b_Ma_give 15 = .ok (.invokevirtual 62, 3) := by decide +kernel
theorem dMa_give_18 : decode b_Ma_give 18 = .ok (.ifCond .eq 14, 3) := by decide +kernel
theorem dMa_give_21 : decode b_Ma_give 21 = .ok (.aload_n 0, 1) := by decide +kernel
theorem dMa_give_22 : decode b_Ma_give 22 = .ok (.getfield 21, 3) := by decide +kernel
theorem dMa_give_25 : decode b_Ma_give 25 = .ok (.iload_n 3, 1) := by decide +kernel
theorem dMa_give_26 : decode b_Ma_give 26 = .ok (.invokevirtual 66, 3) := by decide +kernel
theorem dMa_give_29 : decode b_Ma_give 29 = .ok (.goto 4, 3) := by decide +kernel
theorem dMa_give_32 : decode b_Ma_give 32 = .ok (.iload_n 3, 1) := by decide +kernel
theorem dMa_give_33 : decode b_Ma_give 33 = .ok (.invokevirtual 70, 3) := by decide +kernel
theorem dMa_give_36 : decode b_Ma_give 36 = .ok (.return_, 1) := by decide +kernel
theorem dMa_giveBack_0 : decode b_Ma_giveBack 0 = .ok (.iload_n 1, 1) := by decide +kernel
theorem dMa_giveBack_1 : decode b_Ma_giveBack 1 = .ok (.ifCond .ne 7, 3) := by decide +kernel
theorem dMa_giveBack_4 : decode b_Ma_giveBack 4 = .ok (.iconst 0, 1) := by decide +kernel
theorem dMa_giveBack_5 : decode b_Ma_giveBack 5 = .ok (.goto 10, 3) := by decide +kernel
theorem dMa_giveBack_8 : decode b_Ma_giveBack 8 = .ok (.aload_n 0, 1) := by decide +kernel
theorem dMa_giveBack_9 : decode b_Ma_giveBack 9 = .ok (.getfield 12, 3) := by decide +kernel
theorem dMa_giveBack_12 : decode b_Ma_giveBack 12 = .ok (.invokevirtual 130, 3) := by decide +kernel
theorem dMa_giveBack_15 : decode b_Ma_giveBack 15 = .ok (.istore_n 2, 1) := by decide +kernel
theorem dMa_giveBack_16 : decode b_Ma_giveBack 16 = .ok (.aload_n 0, 1) := by decide +kernel
theorem dMa_giveBack_17 : decode b_Ma_giveBack 17 = .ok (.getfield 12, 3) := by decide +kernel
theorem dMa_giveBack_20 : decode b_Ma_giveBack 20 = .ok (.invokevirtual 159, 3) := by decide +kernel
theorem dMa_giveBack_23 : decode b_Ma_giveBack 23 = .ok (.aload_n 0, 1) := by decide +kernel
theorem dMa_giveBack_24 : decode b_Ma_giveBack 24 = .ok (.getfield 12, 3) := by decide +kernel
theorem dMa_giveBack_27 : decode b_Ma_giveBack 27 = .ok (.getfield 50, 3) := by decide +kernel
theorem dMa_giveBack_30 : decode b_Ma_giveBack 30 = .ok (.ifCond .ne 16, 3) := by decide +kernel
theorem dMa_giveBack_33 : decode b_Ma_giveBack 33 = .ok (.aload_n 0, 1) := by decide +kernel
theorem dMa_giveBack_34 : decode b_Ma_giveBack 34 = .ok (.iconst 1, 1) := by decide +kernel
theorem dMa_giveBack_35 : decode b_Ma_giveBack 35 = .ok (.putfield 36, 3) := by decide +kernel
theorem dMa_giveBack_38 : decode b_Ma_giveBack 38 = .ok (.aload_n 0, 1) := by decide +kernel
theorem dMa_giveBack_39 : decode b_Ma_giveBack 39 = .ok (.iload_n 2, 1) := by decide +kernel
theorem dMa_giveBack_40 : decode b_Ma_giveBack 40 = .ok (.putfield 43, 3) := by decide +kernel
theorem dMa_giveBack_43 : decode b_Ma_giveBack 43 = .ok (.goto 15, 3) := by decide +kernel
theorem dMa_giveBack_46 : decode b_Ma_giveBack 46 = .ok (.iload_n 1, 1) := by decide +kernel
theorem dMa_giveBack_47 : decode b_Ma_giveBack 47 = .ok (.ifCond .eq 11, 3) := by decide +kernel
theorem dMa_giveBack_50 : decode b_Ma_giveBack 50 = .ok (.aload_n 0, 1) := by decide +kernel
theorem dMa_giveBack_51 : decode b_Ma_giveBack 51 = .ok (.getfield 12, 3) := by decide +kernel
theorem dMa_giveBack_54 : decode b_Ma_giveBack 54 = .ok (.iload_n 2, 1) := by decide +kernel
theorem dMa_giveBack_55 : decode b_Ma_giveBack 55 = .ok (.invokevirtual 162, 3) := by decide +kernel
theorem dMa_giveBack_58 : decode b_Ma_giveBack 58 = .ok (.return_, 1) := by decide +kernel
theorem dMa_init_0 : decode b_Ma_init 0 = .ok (.aload_n 0, 1) := by decide +kernel
theorem dMa_init_1 : decode b_Ma_init 1 = .ok (.invokespecial 3, 3) := by decide +kernel
theorem dMa_init_4 : decode b_Ma_init 4 = .ok (.aload_n 0, 1) := by decide +kernel
theorem dMa_init_5 : decode b_Ma_init 5 = .ok (.new 9, 3) := by decide +kernel
theorem dMa_init_8 : decode b_Ma_init 8 = .ok (.dup, 1) := by decide +kernel
theorem dMa_init_9 : decode b_Ma_init 9 = .ok (.invokespecial 11, 3) := by decide +kernel
theorem dMa_init_12 : decode b_Ma_init 12 = .ok (.putfield 12, 3) := by decide +kernel
theorem dMa_init_15 : decode b_Ma_init 15 = .ok (.aload_n 0, 1) := by decide +kernel
theorem dMa_init_16 : decode b_Ma_init 16 = .ok (.new 18, 3) := by decide +kernel
theorem dMa_init_19 : decode b_Ma_init 19 = .ok (.dup, 1) := by decide +kernel
theorem dMa_init_20 : decode b_Ma_init 20 = .ok (.invokespecial 20, 3) := by decide +kernel
theorem dMa_init_23 : decode b_Ma_init 23 = .ok (.putfield 21, 3) := by decide +kernel
theorem dMa_init_26 : decode b_Ma_init 26 = .ok (.aload_n 0, 1) := by decide +kernel
theorem dMa_init_27 : decode b_Ma_init 27 = .ok (.new 25, 3) := by decide +kernel
theorem dMa_init_30 : decode b_Ma_init 30 = .ok (.dup, 1) := by decide +kernel
theorem dMa_init_31 : decode b_Ma_init 31 = .ok (.invokespecial 27, 3) := by decide +kernel
theorem dMa_init_34 : decode b_Ma_init 34 = .ok (.putfield 28, 3) := by decide +kernel
theorem dMa_init_37 : decode b_Ma_init 37 = .ok (.return_, 1) := by decide +kernel
theorem dMa_isMet_0 : decode b_Ma_isMet 0 = .ok (.iload_n 1, 1) := by decide +kernel
theorem dMa_isMet_1 : decode b_Ma_isMet 1 = .ok (.tableswitch 73 15 19 #[35, 56, 73, 73, 45], 35) := by decide +kernel
theorem dMa_isMet_36 : decode b_Ma_isMet 36 = .ok (.iload_n 2, 1) := by decide +kernel
theorem dMa_isMet_37 : decode b_Ma_isMet 37 = .ok (.ifCond .ne 7, 3) := by decide +kernel
theorem dMa_isMet_40 : decode b_Ma_isMet 40 = .ok (.iconst 1, 1) := by decide +kernel
theorem dMa_isMet_41 : decode b_Ma_isMet 41 = .ok (.goto 4, 3) := by decide +kernel
theorem dMa_isMet_44 : decode b_Ma_isMet 44 = .ok (.iconst 0, 1) := by decide +kernel
theorem dMa_isMet_45 : decode b_Ma_isMet 45 = .ok (.ireturn, 1) := by decide +kernel
theorem dMa_isMet_46 : decode b_Ma_isMet 46 = .ok (.iload_n 2, 1) := by decide +kernel
theorem dMa_isMet_47 : decode b_Ma_isMet 47 = .ok (.iconst (-1), 1) := by decide +kernel
theorem dMa_isMet_48 : decode b_Ma_isMet 48 = .ok (.if_icmp .ne 7, 3) := by decide +kernel
theorem dMa_isMet_51 : decode b_Ma_isMet 51 = .ok (.iconst 1, 1) := by decide +kernel
theorem dMa_isMet_52 : decode b_Ma_isMet 52 = .ok (.goto 4, 3) := by decide +kernel
theorem dMa_isMet_55 : decode b_Ma_isMet 55 = .ok (.iconst 0, 1) := by decide +kernel
theorem dMa_isMet_56 : decode b_Ma_isMet 56 = .ok (.ireturn, 1) := by decide +kernel
theorem dMa_isMet_57 : decode b_Ma_isMet 57 = .ok (.aload_n 0, 1) := by decide +kernel
theorem dMa_isMet_58 : decode b_Ma_isMet 58 = .ok (.getfield 12, 3) := by decide +kernel
theorem dMa_isMet_61 : decode b_Ma_isMet 61 = .ok (.invokevirtual 130, 3) := by decide +kernel
theorem dMa_isMet_64 : decode b_Ma_isMet 64 = .ok (.iload_n 2, 1) := by decide +kernel
theorem dMa_isMet_65 : decode b_Ma_isMet 65 = .ok (.if_icmp .ge 7, 3) := by decide +kernel
theorem dMa_isMet_68 : decode b_Ma_isMet 68 = .ok (.iconst 1, 1) := by decide +kernel
theorem dMa_isMet_69 : decode b_Ma_isMet 69 = .ok (.goto 4, 3) := by decide +kernel
theorem dMa_isMet_72 : decode b_Ma_isMet 72 = .ok (.iconst 0, 1) := by decide +kernel
theorem dMa_isMet_73 : decode b_Ma_isMet 73 = .ok (.ireturn, 1) := by decide +kernel
theorem dMa_isMet_74 : decode b_Ma_isMet 74 = .ok (.aload_n 0, 1) := by decide +kernel
theorem dMa_isMet_75 : decode b_Ma_isMet 75 = .ok (.getfield 12, 3) := by decide +kernel
theorem dMa_isMet_78 : decode b_Ma_isMet 78 = .ok (.invokevirtual 130, 3) := by decide +kernel
theorem dMa_isMet_81 : decode b_Ma_isMet 81 = .ok (.iload_n 2, 1) := by decide +kernel
theorem dMa_isMet_82 : decode b_Ma_isMet 82 = .ok (.if_icmp .ne 7, 3) := by decide +kernel
theorem dMa_isMet_85 : decode b_Ma_isMet 85 = .ok (.iconst 1, 1) := by decide +kernel
theorem dMa_isMet_86 : decode b_Ma_isMet 86 = .ok (.goto 4, 3) := by decide +kernel
theorem dMa_isMet_89 : decode b_Ma_isMet 89 = .ok (.iconst 0, 1) := by decide +kernel
theorem dMa_isMet_90 : decode b_Ma_isMet 90 = .ok (.ireturn, 1) := by decide +kernel
theorem dMa_leap_0 : decode b_Ma_leap 0 = .ok (.iload_n 1, 1) := by decide +kernel
theorem dMa_leap_1 : decode b_Ma_leap 1 = .ok (.bipush 14, 2) := by decide +kernel
theorem dMa_leap_3 : decode b_Ma_leap 3 = .ok (.if_icmp .eq 18, 3) := by decide +kernel
theorem dMa_leap_6 : decode b_Ma_leap 6 = .ok (.aload_n 0, 1) := by decide +kernel
theorem dMa_leap_7 : decode b_Ma_leap 7 = .ok (.iload_n 1, 1) := by decide +kernel
theorem dMa_leap_8 : decode b_Ma_leap 8 = .ok (.aload_n 0, 1) := by decide +kernel
theorem dMa_leap_9 : decode b_Ma_leap 9 = .ok (.getfield 12, 3) := by decide +kernel
theorem dMa_leap_12 : decode b_Ma_leap 12 = .ok (.invokevirtual 130, 3) := by decide +kernel
theorem dMa_leap_15 : decode b_Ma_leap 15 = .ok (.invokevirtual 165, 3) := by decide +kernel
theorem dMa_leap_18 : decode b_Ma_leap 18 = .ok (.ifCond .eq 11, 3) := by decide +kernel
theorem dMa_leap_21 : decode b_Ma_leap 21 = .ok (.aload_n 0, 1) := by decide +kernel
theorem dMa_leap_22 : decode b_Ma_leap 22 = .ok (.getfield 12, 3) := by decide +kernel
theorem dMa_leap_25 : decode b_Ma_leap 25 = .ok (.iload_n 2, 1) := by decide +kernel
theorem dMa_leap_26 : decode b_Ma_leap 26 = .ok (.invokevirtual 107, 3) := by decide +kernel
theorem dMa_leap_29 : decode b_Ma_leap 29 = .ok (.return_, 1) := by decide +kernel
theorem dMa_reckon_0 : decode b_Ma_reckon 0 = .ok (.iload_n 0, 1) := by decide +kernel
theorem dMa_reckon_1 : decode b_Ma_reckon 1 = .ok (.tableswitch 55 5 8 #[31, 35, 39, 43], 31) := by decide +kernel
theorem dMa_reckon_32 : decode b_Ma_reckon 32 = .ok (.iload_n 1, 1) := by decide +kernel
theorem dMa_reckon_33 : decode b_Ma_reckon 33 = .ok (.iload_n 2, 1) := by decide +kernel
theorem dMa_reckon_34 : decode b_Ma_reckon 34 = .ok (.iadd, 1) := by decide +kernel
theorem dMa_reckon_35 : decode b_Ma_reckon 35 = .ok (.ireturn, 1) := by decide +kernel
theorem dMa_reckon_36 : decode b_Ma_reckon 36 = .ok (.iload_n 1, 1) := by decide +kernel
theorem dMa_reckon_37 : decode b_Ma_reckon 37 = .ok (.iload_n 2, 1) := by decide +kernel
theorem dMa_reckon_38 : decode b_Ma_reckon 38 = .ok (.isub, 1) := by decide +kernel
theorem dMa_reckon_39 : decode b_Ma_reckon 39 = .ok (.ireturn, 1) := by decide +kernel
theorem dMa_reckon_40 : decode b_Ma_reckon 40 = .ok (.iload_n 1, 1) := by decide +kernel
theorem dMa_reckon_41 : decode b_Ma_reckon 41 = .ok (.iload_n 2, 1) := by decide +kernel
theorem dMa_reckon_42 : decode b_Ma_reckon 42 = .ok (.imul, 1) := by decide +kernel
theorem dMa_reckon_43 : decode b_Ma_reckon 43 = .ok (.ireturn, 1) := by decide +kernel
theorem dMa_reckon_44 : decode b_Ma_reckon 44 = .ok (.iload_n 2, 1) := by decide +kernel
theorem dMa_reckon_45 : decode b_Ma_reckon 45 = .ok (.ifCond .ne 7, 3) := by decide +kernel
theorem dMa_reckon_48 : decode b_Ma_reckon 48 = .ok (.iconst 0, 1) := by decide +kernel
theorem dMa_reckon_49 : decode b_Ma_reckon 49 = .ok (.goto 6, 3) := by decide +kernel
theorem dMa_reckon_52 : decode b_Ma_reckon 52 = .ok (.iload_n 1, 1) := by decide +kernel
theorem dMa_reckon_53 : decode b_Ma_reckon 53 = .ok (.iload_n 2, 1) := by decide +kernel
theorem dMa_reckon_54 : decode b_Ma_reckon 54 = .ok (.idiv, 1) := by decide +kernel
theorem dMa_reckon_55 : decode b_Ma_reckon 55 = .ok (.ireturn, 1) := by decide +kernel
theorem dMa_reckon_56 : decode b_Ma_reckon 56 = .ok (.iload_n 2, 1) := by decide +kernel
theorem dMa_reckon_57 : decode b_Ma_reckon 57 = .ok (.ifCond .ne 7, 3) := by decide +kernel
theorem dMa_reckon_60 : decode b_Ma_reckon 60 = .ok (.iconst 0, 1) := by decide +kernel
theorem dMa_reckon_61 : decode b_Ma_reckon 61 = .ok (.goto 6, 3) := by decide +kernel
theorem dMa_reckon_64 : decode b_Ma_reckon 64 = .ok (.iload_n 1, 1) := by decide +kernel
theorem dMa_reckon_65 : decode b_Ma_reckon 65 = .ok (.iload_n 2, 1) := by decide +kernel
theorem dMa_reckon_66 : decode b_Ma_reckon 66 = .ok (.irem, 1) := by decide +kernel
theorem dMa_reckon_67 : decode b_Ma_reckon 67 = .ok (.ireturn, 1) := by decide +kernel
theorem dMa_step_0 : decode b_Ma_step 0 = .ok (.aload_n 0, 1) := by decide +kernel
theorem dMa_step_1 : decode b_Ma_step 1 = .ok (.getfield 12, 3) := by decide +kernel
theorem dMa_step_4 : decode b_Ma_step 4 = .ok (.invokevirtual 78, 3) := by decide +kernel
theorem dMa_step_7 : decode b_Ma_step 7 = .ok (.istore_n 2, 1) := by decide +kernel
theorem dMa_step_8 : decode b_Ma_step 8 = .ok (.iload_n 2, 1) := by decide +kernel
theorem dMa_step_9 : decode b_Ma_step 9 = .ok (.bipush 8, 2) := by decide +kernel
theorem dMa_step_11 : decode b_Ma_step 11 = .ok (.invokestatic 94, 3) := by decide +kernel
theorem dMa_step_14 : decode b_Ma_step 14 = .ok (.ifCond .ne 5, 3) := by decide +kernel
theorem dMa_step_17 : decode b_Ma_step 17 = .ok (.iconst 0, 1) := by decide +kernel
theorem dMa_step_18 : decode b_Ma_step 18 = .ok (.ireturn, 1) := by decide +kernel
theorem dMa_step_19 : decode b_Ma_step 19 = .ok (.aload_n 1, 1) := by decide +kernel
theorem dMa_step_20 : decode b_Ma_step 20 = .ok (.iload_n 2, 1) := by decide +kernel
theorem dMa_step_21 : decode b_Ma_step 21 = .ok (.aaload, 1) := by decide +kernel
theorem dMa_step_22 : decode b_Ma_step 22 = .ok (.astore_n 3, 1) := by decide +kernel
theorem dMa_step_23 : decode b_Ma_step 23 = .ok (.aload_n 0, 1) := by decide +kernel
theorem dMa_step_24 : decode b_Ma_step 24 = .ok (.getfield 12, 3) := by decide +kernel
theorem dMa_step_27 : decode b_Ma_step 27 = .ok (.invokevirtual 82, 3) := by decide +kernel
theorem dMa_step_30 : decode b_Ma_step 30 = .ok (.istore 4, 2) := by decide +kernel
theorem dMa_step_32 : decode b_Ma_step 32 = .ok (.aload_n 3, 1) := by decide +kernel
theorem dMa_step_33 : decode b_Ma_step 33 = .ok (.iload 4, 2) := by decide +kernel
theorem dMa_step_35 : decode b_Ma_step 35 = .ok (.invokevirtual 98, 3) := by decide +kernel
theorem dMa_step_38 : decode b_Ma_step 38 = .ok (.istore 5, 2) := by decide +kernel
theorem dMa_step_40 : decode b_Ma_step 40 = .ok (.aload_n 3, 1) := by decide +kernel
theorem dMa_step_41 : decode b_Ma_step 41 = .ok (.iload 4, 2) := by decide +kernel
theorem dMa_step_43 : decode b_Ma_step 43 = .ok (.invokevirtual 101, 3) := by decide +kernel
theorem dMa_step_46 : decode b_Ma_step 46 = .ok (.istore 6, 2) := by decide +kernel
theorem dMa_step_48 : decode b_Ma_step 48 = .ok (.aload_n 0, 1) := by decide +kernel
theorem dMa_step_49 : decode b_Ma_step 49 = .ok (.aload_n 0, 1) := by decide +kernel
theorem dMa_step_50 : decode b_Ma_step 50 = .ok (.iload 5, 2) := by decide +kernel
theorem dMa_step_52 : decode b_Ma_step 52 = .ok (.invokevirtual 104, 3) := by decide +kernel
theorem dMa_step_55 : decode b_Ma_step 55 = .ok (.putfield 36, 3) := by decide +kernel
theorem dMa_step_58 : decode b_Ma_step 58 = .ok (.aload_n 0, 1) := by decide +kernel
theorem dMa_step_59 : decode b_Ma_step 59 = .ok (.getfield 36, 3) := by decide +kernel
theorem dMa_step_62 : decode b_Ma_step 62 = .ok (.ifCond .eq 5, 3) := by decide +kernel
theorem dMa_step_65 : decode b_Ma_step 65 = .ok (.iconst 0, 1) := by decide +kernel
theorem dMa_step_66 : decode b_Ma_step 66 = .ok (.ireturn, 1) := by decide +kernel
theorem dMa_step_67 : decode b_Ma_step 67 = .ok (.aload_n 0, 1) := by decide +kernel
theorem dMa_step_68 : decode b_Ma_step 68 = .ok (.dup, 1) := by decide +kernel
theorem dMa_step_69 : decode b_Ma_step 69 = .ok (.getfield 40, 3) := by decide +kernel
theorem dMa_step_72 : decode b_Ma_step 72 = .ok (.iconst 1, 1) := by decide +kernel
theorem dMa_step_73 : decode b_Ma_step 73 = .ok (.iadd, 1) := by decide +kernel
theorem dMa_step_74 : decode b_Ma_step 74 = .ok (.putfield 40, 3) := by decide +kernel
theorem dMa_step_77 : decode b_Ma_step 77 = .ok (.aload_n 0, 1) := by decide +kernel
theorem dMa_step_78 : decode b_Ma_step 78 = .ok (.getfield 12, 3) := by decide +kernel
theorem dMa_step_81 : decode b_Ma_step 81 = .ok (.iload 4, 2) := by decide +kernel
theorem dMa_step_83 : decode b_Ma_step 83 = .ok (.iconst 1, 1) := by decide +kernel
theorem dMa_step_84 : decode b_Ma_step 84 = .ok (.iadd, 1) := by decide +kernel
theorem dMa_step_85 : decode b_Ma_step 85 = .ok (.invokevirtual 107, 3) := by decide +kernel
theorem dMa_step_88 : decode b_Ma_step 88 = .ok (.iload 5, 2) := by decide +kernel
theorem dMa_step_90 : decode b_Ma_step 90 = .ok (.bipush 24, 2) := by decide +kernel
theorem dMa_step_92 : decode b_Ma_step 92 = .ok (.if_icmp .ne 14, 3) := by decide +kernel
theorem dMa_step_95 : decode b_Ma_step 95 = .ok (.aload_n 0, 1) := by decide +kernel
theorem dMa_step_96 : decode b_Ma_step 96 = .ok (.aload_n 3, 1) := by decide +kernel
theorem dMa_step_97 : decode b_Ma_step 97 = .ok (.getfield 112, 3) := by decide +kernel
theorem dMa_step_100 : decode b_Ma_step 100 = .ok (.invokevirtual 115, 3) := by decide +kernel
theorem dMa_step_103 : decode b_Ma_step 103 = .ok (.goto 101, 3) := by decide +kernel
theorem dMa_step_106 : decode b_Ma_step 106 = .ok (.iload 5, 2) := by decide +kernel
theorem dMa_step_108 : decode b_Ma_step 108 = .ok (.bipush 23, 2) := by decide +kernel
theorem dMa_step_110 : decode b_Ma_step 110 = .ok (.if_icmp .ne 32, 3) := by decide +kernel
theorem dMa_step_113 : decode b_Ma_step 113 = .ok (.iload 6, 2) := by decide +kernel
theorem dMa_step_115 : decode b_Ma_step 115 = .ok (.bipush 8, 2) := by decide +kernel
theorem dMa_step_117 : decode b_Ma_step 117 = .ok (.invokestatic 94, 3) := by decide +kernel
theorem dMa_step_120 : decode b_Ma_step 120 = .ok (.ifCond .eq 22, 3) := by decide +kernel
theorem dMa_step_123 : decode b_Ma_step 123 = .ok (.aload_n 0, 1) := by decide +kernel
theorem dMa_step_124 : decode b_Ma_step 124 = .ok (.getfield 12, 3) := by decide +kernel
theorem dMa_step_127 : decode b_Ma_step 127 = .ok (.iload 6, 2) := by decide +kernel
theorem dMa_step_129 : decode b_Ma_step 129 = .ok (.aload_n 1, 1) := by decide +kernel
theorem dMa_step_130 : decode b_Ma_step 130 = .ok (.iload 6, 2) := by decide +kernel
theorem dMa_step_132 : decode b_Ma_step 132 = .ok (.aaload, 1) := by decide +kernel
theorem dMa_step_133 : decode b_Ma_step 133 = .ok (.getfield 57, 3) := by decide +kernel
theorem dMa_step_136 : decode b_Ma_step 136 = .ok (.invokevirtual 118, 3) := by decide +kernel
theorem dMa_step_139 : decode b_Ma_step 139 = .ok (.goto 65, 3) := by decide +kernel
theorem dMa_step_142 : decode b_Ma_step 142 = .ok (.iload 5, 2) := by decide +kernel
theorem dMa_step_144 : decode b_Ma_step 144 = .ok (.invokestatic 121, 3) := by decide +kernel
theorem dMa_step_147 : decode b_Ma_step 147 = .ok (.ifCond .eq 14, 3) := by decide +kernel
theorem dMa_step_150 : decode b_Ma_step 150 = .ok (.aload_n 0, 1) := by decide +kernel
theorem dMa_step_151 : decode b_Ma_step 151 = .ok (.iload 5, 2) := by decide +kernel
theorem dMa_step_153 : decode b_Ma_step 153 = .ok (.iload 6, 2) := by decide +kernel
theorem dMa_step_155 : decode b_Ma_step 155 = .ok (.invokevirtual 124, 3) := by decide +kernel
theorem dMa_step_158 : decode b_Ma_step 158 = .ok (.goto 46, 3) := by decide +kernel
theorem dMa_step_161 : decode b_Ma_step 161 = .ok (.iload 5, 2) := by decide +kernel
theorem dMa_step_163 : decode b_Ma_step 163 = .ok (.invokestatic 127, 3) := by decide +kernel
theorem dMa_step_166 : decode b_Ma_step 166 = .ok (.ifCond .eq 30, 3) := by decide +kernel
theorem dMa_step_169 : decode b_Ma_step 169 = .ok (.aload_n 0, 1) := by decide +kernel
theorem dMa_step_170 : decode b_Ma_step 170 = .ok (.getfield 12, 3) := by decide +kernel
theorem dMa_step_173 : decode b_Ma_step 173 = .ok (.invokevirtual 130, 3) := by decide +kernel
theorem dMa_step_176 : decode b_Ma_step 176 = .ok (.istore 7, 2) := by decide +kernel
theorem dMa_step_178 : decode b_Ma_step 178 = .ok (.aload_n 0, 1) := by decide +kernel
theorem dMa_step_179 : decode b_Ma_step 179 = .ok (.iload 5, 2) := by decide +kernel
theorem dMa_step_181 : decode b_Ma_step 181 = .ok (.aload_n 0, 1) := by decide +kernel
theorem dMa_step_182 : decode b_Ma_step 182 = .ok (.getfield 12, 3) := by decide +kernel
theorem dMa_step_185 : decode b_Ma_step 185 = .ok (.invokevirtual 130, 3) := by decide +kernel
theorem dMa_step_188 : decode b_Ma_step 188 = .ok (.iload 7, 2) := by decide +kernel
theorem dMa_step_190 : decode b_Ma_step 190 = .ok (.invokevirtual 133, 3) := by decide +kernel
theorem dMa_step_193 : decode b_Ma_step 193 = .ok (.goto 11, 3) := by decide +kernel
theorem dMa_step_196 : decode b_Ma_step 196 = .ok (.aload_n 0, 1) := by decide +kernel
theorem dMa_step_197 : decode b_Ma_step 197 = .ok (.iload 5, 2) := by decide +kernel
theorem dMa_step_199 : decode b_Ma_step 199 = .ok (.iload 6, 2) := by decide +kernel
theorem dMa_step_201 : decode b_Ma_step 201 = .ok (.invokevirtual 137, 3) := by decide +kernel
theorem dMa_step_204 : decode b_Ma_step 204 = .ok (.iconst 1, 1) := by decide +kernel
theorem dMa_step_205 : decode b_Ma_step 205 = .ok (.ireturn, 1) := by decide +kernel
theorem dMa_tell_0 : decode b_Ma_tell 0 = .ok (.iload_n 1, 1) := by decide +kernel
theorem dMa_tell_1 : decode b_Ma_tell 1 = .ok (.tableswitch 102 0 7 #[47, 52, 57, 65, 73, 81, 86, 94], 47) := by decide +kernel
theorem dMa_tell_48 : decode b_Ma_tell 48 = .ok (.aload_n 0, 1) := by decide +kernel
theorem dMa_tell_49 : decode b_Ma_tell 49 = .ok (.getfield 36, 3) := by decide +kernel
theorem dMa_tell_52 : decode b_Ma_tell 52 = .ok (.ireturn, 1) := by decide +kernel
theorem dMa_tell_53 : decode b_Ma_tell 53 = .ok (.aload_n 0, 1) := by decide +kernel
theorem dMa_tell_54 : decode b_Ma_tell 54 = .ok (.getfield 40, 3) := by decide +kernel
theorem dMa_tell_57 : decode b_Ma_tell 57 = .ok (.ireturn, 1) := by decide +kernel
theorem dMa_tell_58 : decode b_Ma_tell 58 = .ok (.aload_n 0, 1) := by decide +kernel
theorem dMa_tell_59 : decode b_Ma_tell 59 = .ok (.getfield 12, 3) := by decide +kernel
theorem dMa_tell_62 : decode b_Ma_tell 62 = .ok (.getfield 50, 3) := by decide +kernel
theorem dMa_tell_65 : decode b_Ma_tell 65 = .ok (.ireturn, 1) := by decide +kernel
theorem dMa_tell_66 : decode b_Ma_tell 66 = .ok (.aload_n 0, 1) := by decide +kernel
theorem dMa_tell_67 : decode b_Ma_tell 67 = .ok (.getfield 12, 3) := by decide +kernel
theorem dMa_tell_70 : decode b_Ma_tell 70 = .ok (.invokevirtual 78, 3) := by decide +kernel
theorem dMa_tell_73 : decode b_Ma_tell 73 = .ok (.ireturn, 1) := by decide +kernel
theorem dMa_tell_74 : decode b_Ma_tell 74 = .ok (.aload_n 0, 1) := by decide +kernel
theorem dMa_tell_75 : decode b_Ma_tell 75 = .ok (.getfield 12, 3) := by decide +kernel
theorem dMa_tell_78 : decode b_Ma_tell 78 = .ok (.invokevirtual 82, 3) := by decide +kernel
theorem dMa_tell_81 : decode b_Ma_tell 81 = .ok (.ireturn, 1) := by decide +kernel
theorem dMa_tell_82 : decode b_Ma_tell 82 = .ok (.aload_n 0, 1) := by decide +kernel
theorem dMa_tell_83 : decode b_Ma_tell 83 = .ok (.getfield 43, 3) := by decide +kernel
theorem dMa_tell_86 : decode b_Ma_tell 86 = .ok (.ireturn, 1) := by decide +kernel
theorem dMa_tell_87 : decode b_Ma_tell 87 = .ok (.aload_n 0, 1) := by decide +kernel
theorem dMa_tell_88 : decode b_Ma_tell 88 = .ok (.getfield 21, 3) := by decide +kernel
theorem dMa_tell_91 : decode b_Ma_tell 91 = .ok (.getfield 85, 3) := by decide +kernel
theorem dMa_tell_94 : decode b_Ma_tell 94 = .ok (.ireturn, 1) := by decide +kernel
theorem dMa_tell_95 : decode b_Ma_tell 95 = .ok (.aload_n 0, 1) := by decide +kernel
theorem dMa_tell_96 : decode b_Ma_tell 96 = .ok (.getfield 21, 3) := by decide +kernel
theorem dMa_tell_99 : decode b_Ma_tell 99 = .ok (.getfield 88, 3) := by decide +kernel
theorem dMa_tell_102 : decode b_Ma_tell 102 = .ok (.ireturn, 1) := by decide +kernel
theorem dMa_tell_103 : decode b_Ma_tell 103 = .ok (.aload_n 0, 1) := by decide +kernel
theorem dMa_tell_104 : decode b_Ma_tell 104 = .ok (.getfield 28, 3) := by decide +kernel
theorem dMa_tell_107 : decode b_Ma_tell 107 = .ok (.getfield 91, 3) := by decide +kernel
theorem dMa_tell_110 : decode b_Ma_tell 110 = .ok (.ireturn, 1) := by decide +kernel
theorem dMa_troubleWith_0 : decode b_Ma_troubleWith 0 = .ok (.iload_n 1, 1) := by decide +kernel
theorem dMa_troubleWith_1 : decode b_Ma_troubleWith 1 = .ok (.tableswitch 194 8 23 #[79, 79, 96, 109, 133, 154, 194, 194, 194, 194, 194, 194, 194, 194, 194, 175], 79) := by decide +kernel
theorem dMa_troubleWith_80 : decode b_Ma_troubleWith 80 = .ok (.aload_n 0, 1) := by decide +kernel
theorem dMa_troubleWith_81 : decode b_Ma_troubleWith 81 = .ok (.getfield 12, 3) := by decide +kernel
theorem dMa_troubleWith_84 : decode b_Ma_troubleWith 84 = .ok (.iconst 0, 1) := by decide +kernel
theorem dMa_troubleWith_85 : decode b_Ma_troubleWith 85 = .ok (.invokevirtual 140, 3) := by decide +kernel
theorem dMa_troubleWith_88 : decode b_Ma_troubleWith 88 = .ok (.ifCond .ne 7, 3) := by decide +kernel
theorem dMa_troubleWith_91 : decode b_Ma_troubleWith 91 = .ok (.iconst 2, 1) := by decide +kernel
theorem dMa_troubleWith_92 : decode b_Ma_troubleWith 92 = .ok (.goto 4, 3) := by decide +kernel
theorem dMa_troubleWith_95 : decode b_Ma_troubleWith 95 = .ok (.iconst 0, 1) := by decide +kernel
theorem dMa_troubleWith_96 : decode b_Ma_troubleWith 96 = .ok (.ireturn, 1) := by decide +kernel
theorem dMa_troubleWith_97 : decode b_Ma_troubleWith 97 = .ok (.aload_n 0, 1) := by decide +kernel
theorem dMa_troubleWith_98 : decode b_Ma_troubleWith 98 = .ok (.aload_n 0, 1) := by decide +kernel
theorem dMa_troubleWith_99 : decode b_Ma_troubleWith 99 = .ok (.getfield 12, 3) := by decide +kernel
theorem dMa_troubleWith_102 : decode b_Ma_troubleWith 102 = .ok (.iconst 0, 1) := by decide +kernel
theorem dMa_troubleWith_103 : decode b_Ma_troubleWith 103 = .ok (.invokevirtual 140, 3) := by decide +kernel
theorem dMa_troubleWith_106 : decode b_Ma_troubleWith 106 = .ok (.invokevirtual 143, 3) := by decide +kernel
theorem dMa_troubleWith_109 : decode b_Ma_troubleWith 109 = .ok (.ireturn, 1) := by decide +kernel
theorem dMa_troubleWith_110 : decode b_Ma_troubleWith 110 = .ok (.aload_n 0, 1) := by decide +kernel
theorem dMa_troubleWith_111 : decode b_Ma_troubleWith 111 = .ok (.getfield 21, 3) := by decide +kernel
theorem dMa_troubleWith_114 : decode b_Ma_troubleWith 114 = .ok (.aload_n 0, 1) := by decide +kernel
theorem dMa_troubleWith_115 : decode b_Ma_troubleWith 115 = .ok (.getfield 12, 3) := by decide +kernel
theorem dMa_troubleWith_118 : decode b_Ma_troubleWith 118 = .ok (.iconst 0, 1) := by decide +kernel
theorem dMa_troubleWith_119 : decode b_Ma_troubleWith 119 = .ok (.invokevirtual 140, 3) := by decide +kernel
theorem dMa_troubleWith_122 : decode b_Ma_troubleWith 122 = .ok (.invokevirtual 146, 3) := by decide +kernel
theorem dMa_troubleWith_125 : decode b_Ma_troubleWith 125 = .ok (.ifCond .eq 7, 3) := by decide +kernel
theorem dMa_troubleWith_128 : decode b_Ma_troubleWith 128 = .ok (.iconst 0, 1) := by decide +kernel
theorem dMa_troubleWith_129 : decode b_Ma_troubleWith 129 = .ok (.goto 4, 3) := by decide +kernel
theorem dMa_troubleWith_132 : decode b_Ma_troubleWith 132 = .ok (.iconst 3, 1) := by decide +kernel
theorem dMa_troubleWith_133 : decode b_Ma_troubleWith 133 = .ok (.ireturn, 1) := by decide +kernel
theorem dMa_troubleWith_134 : decode b_Ma_troubleWith 134 = .ok (.aload_n 0, 1) := by decide +kernel
theorem dMa_troubleWith_135 : decode b_Ma_troubleWith 135 = .ok (.aload_n 0, 1) := by decide +kernel
theorem dMa_troubleWith_136 : decode b_Ma_troubleWith 136 = .ok (.getfield 12, 3) := by decide +kernel
theorem dMa_troubleWith_139 : decode b_Ma_troubleWith 139 = .ok (.iconst 1, 1) := by decide +kernel
theorem dMa_troubleWith_140 : decode b_Ma_troubleWith 140 = .ok (.invokevirtual 140, 3) := by decide +kernel
theorem dMa_troubleWith_143 : decode b_Ma_troubleWith 143 = .ok (.aload_n 0, 1) := by decide +kernel
theorem dMa_troubleWith_144 : decode b_Ma_troubleWith 144 = .ok (.getfield 12, 3) := by decide +kernel
theorem dMa_troubleWith_147 : decode b_Ma_troubleWith 147 = .ok (.iconst 0, 1) := by decide +kernel
theorem dMa_troubleWith_148 : decode b_Ma_troubleWith 148 = .ok (.invokevirtual 140, 3) := by decide +kernel
theorem dMa_troubleWith_151 : decode b_Ma_troubleWith 151 = .ok (.invokevirtual 149, 3) := by decide +kernel
theorem dMa_troubleWith_154 : decode b_Ma_troubleWith 154 = .ok (.ireturn, 1) := by decide +kernel
theorem dMa_troubleWith_155 : decode b_Ma_troubleWith 155 = .ok (.aload_n 0, 1) := by decide +kernel
theorem dMa_troubleWith_156 : decode b_Ma_troubleWith 156 = .ok (.aload_n 0, 1) := by decide +kernel
theorem dMa_troubleWith_157 : decode b_Ma_troubleWith 157 = .ok (.getfield 12, 3) := by decide +kernel
theorem dMa_troubleWith_160 : decode b_Ma_troubleWith 160 = .ok (.iconst 2, 1) := by decide +kernel
theorem dMa_troubleWith_161 : decode b_Ma_troubleWith 161 = .ok (.invokevirtual 140, 3) := by decide +kernel
theorem dMa_troubleWith_164 : decode b_Ma_troubleWith 164 = .ok (.aload_n 0, 1) := by decide +kernel
theorem dMa_troubleWith_165 : decode b_Ma_troubleWith 165 = .ok (.getfield 12, 3) := by decide +kernel
theorem dMa_troubleWith_168 : decode b_Ma_troubleWith 168 = .ok (.iconst 1, 1) := by decide +kernel
theorem dMa_troubleWith_169 : decode b_Ma_troubleWith 169 = .ok (.invokevirtual 140, 3) := by decide +kernel
theorem dMa_troubleWith_172 : decode b_Ma_troubleWith 172 = .ok (.invokevirtual 149, 3) := by decide +kernel
theorem dMa_troubleWith_175 : decode b_Ma_troubleWith 175 = .ok (.ireturn, 1) := by decide +kernel
theorem dMa_troubleWith_176 : decode b_Ma_troubleWith 176 = .ok (.aload_n 0, 1) := by decide +kernel
theorem dMa_troubleWith_177 : decode b_Ma_troubleWith 177 = .ok (.getfield 12, 3) := by decide +kernel
theorem dMa_troubleWith_180 : decode b_Ma_troubleWith 180 = .ok (.getfield 50, 3) := by decide +kernel
theorem dMa_troubleWith_183 : decode b_Ma_troubleWith 183 = .ok (.bipush 50, 2) := by decide +kernel
theorem dMa_troubleWith_185 : decode b_Ma_troubleWith 185 = .ok (.if_icmp .lt 8, 3) := by decide +kernel
theorem dMa_troubleWith_188 : decode b_Ma_troubleWith 188 = .ok (.bipush 7, 2) := by decide +kernel
theorem dMa_troubleWith_190 : decode b_Ma_troubleWith 190 = .ok (.goto 4, 3) := by decide +kernel
theorem dMa_troubleWith_193 : decode b_Ma_troubleWith 193 = .ok (.iconst 0, 1) := by decide +kernel
theorem dMa_troubleWith_194 : decode b_Ma_troubleWith 194 = .ok (.ireturn, 1) := by decide +kernel
theorem dMa_troubleWith_195 : decode b_Ma_troubleWith 195 = .ok (.iconst 0, 1) := by decide +kernel
theorem dMa_troubleWith_196 : decode b_Ma_troubleWith 196 = .ok (.ireturn, 1) := by decide +kernel
theorem dMa_troubleWithCell_0 : decode b_Ma_troubleWithCell 0 = .ok (.aload_n 0, 1) := by decide +kernel
theorem dMa_troubleWithCell_1 : decode b_Ma_troubleWithCell 1 = .ok (.getfield 21, 3) := by decide +kernel
theorem dMa_troubleWithCell_4 : decode b_Ma_troubleWithCell 4 = .ok (.iload_n 1, 1) := by decide +kernel
theorem dMa_troubleWithCell_5 : decode b_Ma_troubleWithCell 5 = .ok (.invokevirtual 146, 3) := by decide +kernel
theorem dMa_troubleWithCell_8 : decode b_Ma_troubleWithCell 8 = .ok (.ifCond .ne 5, 3) := by decide +kernel
theorem dMa_troubleWithCell_11 : decode b_Ma_troubleWithCell 11 = .ok (.iconst 3, 1) := by decide +kernel
theorem dMa_troubleWithCell_12 : decode b_Ma_troubleWithCell 12 = .ok (.ireturn, 1) := by decide +kernel
theorem dMa_troubleWithCell_13 : decode b_Ma_troubleWithCell 13 = .ok (.aload_n 0, 1) := by decide +kernel
theorem dMa_troubleWithCell_14 : decode b_Ma_troubleWithCell 14 = .ok (.getfield 21, 3) := by decide +kernel
theorem dMa_troubleWithCell_17 : decode b_Ma_troubleWithCell 17 = .ok (.iload_n 1, 1) := by decide +kernel
theorem dMa_troubleWithCell_18 : decode b_Ma_troubleWithCell 18 = .ok (.iload_n 2, 1) := by decide +kernel
theorem dMa_troubleWithCell_19 : decode b_Ma_troubleWithCell 19 = .ok (.invokevirtual 156, 3) := by decide +kernel
theorem dMa_troubleWithCell_22 : decode b_Ma_troubleWithCell 22 = .ok (.ifCond .eq 7, 3) := by decide +kernel
theorem dMa_troubleWithCell_25 : decode b_Ma_troubleWithCell 25 = .ok (.iconst 0, 1) := by decide +kernel
theorem dMa_troubleWithCell_26 : decode b_Ma_troubleWithCell 26 = .ok (.goto 4, 3) := by decide +kernel
theorem dMa_troubleWithCell_29 : decode b_Ma_troubleWithCell 29 = .ok (.iconst 4, 1) := by decide +kernel
theorem dMa_troubleWithCell_30 : decode b_Ma_troubleWithCell 30 = .ok (.ireturn, 1) := by decide +kernel
theorem dMa_troubleWithLength_0 : decode b_Ma_troubleWithLength 0 = .ok (.iload_n 1, 1) := by decide +kernel
theorem dMa_troubleWithLength_1 : decode b_Ma_troubleWithLength 1 = .ok (.ifCond .ge 5, 3) := by decide +kernel
theorem dMa_troubleWithLength_4 : decode b_Ma_troubleWithLength 4 = .ok (.iconst 5, 1) := by decide +kernel
theorem dMa_troubleWithLength_5 : decode b_Ma_troubleWithLength 5 = .ok (.ireturn, 1) := by decide +kernel
theorem dMa_troubleWithLength_6 : decode b_Ma_troubleWithLength 6 = .ok (.aload_n 0, 1) := by decide +kernel
theorem dMa_troubleWithLength_7 : decode b_Ma_troubleWithLength 7 = .ok (.getfield 21, 3) := by decide +kernel
theorem dMa_troubleWithLength_10 : decode b_Ma_troubleWithLength 10 = .ok (.iload_n 1, 1) := by decide +kernel
theorem dMa_troubleWithLength_11 : decode b_Ma_troubleWithLength 11 = .ok (.invokevirtual 153, 3) := by decide +kernel
theorem dMa_troubleWithLength_14 : decode b_Ma_troubleWithLength 14 = .ok (.ifCond .eq 7, 3) := by decide +kernel
theorem dMa_troubleWithLength_17 : decode b_Ma_troubleWithLength 17 = .ok (.iconst 0, 1) := by decide +kernel
theorem dMa_troubleWithLength_18 : decode b_Ma_troubleWithLength 18 = .ok (.goto 5, 3) := by decide +kernel
theorem dMa_troubleWithLength_21 : decode b_Ma_troubleWithLength 21 = .ok (.bipush 6, 2) := by decide +kernel
theorem dMa_troubleWithLength_23 : decode b_Ma_troubleWithLength 23 = .ok (.ireturn, 1) := by decide +kernel
theorem dMa_work_0 : decode b_Ma_work 0 = .ok (.iload_n 1, 1) := by decide +kernel
theorem dMa_work_1 : decode b_Ma_work 1 = .ok (.tableswitch 247 0 25 #[119, 130, 148, 130, 148, 247, 247, 247, 247, 247, 223, 247, 247, 247, 247, 247, 247, 247, 166, 247, 177, 195, 247, 247, 247, 206], 119) := by decide +kernel
theorem dMa_work_120 : decode b_Ma_work 120 = .ok (.aload_n 0, 1) := by decide +kernel
theorem dMa_work_121 : decode b_Ma_work 121 = .ok (.getfield 12, 3) := by decide +kernel
theorem dMa_work_124 : decode b_Ma_work 124 = .ok (.iload_n 2, 1) := by decide +kernel
theorem dMa_work_125 : decode b_Ma_work 125 = .ok (.invokevirtual 162, 3) := by decide +kernel
theorem dMa_work_128 : decode b_Ma_work 128 = .ok (.goto 141, 3) := by decide +kernel
theorem dMa_work_131 : decode b_Ma_work 131 = .ok (.aload_n 0, 1) := by decide +kernel
theorem dMa_work_132 : decode b_Ma_work 132 = .ok (.getfield 12, 3) := by decide +kernel
theorem dMa_work_135 : decode b_Ma_work 135 = .ok (.aload_n 0, 1) := by decide +kernel
theorem dMa_work_136 : decode b_Ma_work 136 = .ok (.getfield 12, 3) := by decide +kernel
theorem dMa_work_139 : decode b_Ma_work 139 = .ok (.iload_n 2, 1) := by decide +kernel
theorem dMa_work_140 : decode b_Ma_work 140 = .ok (.invokevirtual 168, 3) := by decide +kernel
theorem dMa_work_143 : decode b_Ma_work 143 = .ok (.invokevirtual 162, 3) := by decide +kernel
theorem dMa_work_146 : decode b_Ma_work 146 = .ok (.goto 123, 3) := by decide +kernel
theorem dMa_work_149 : decode b_Ma_work 149 = .ok (.aload_n 0, 1) := by decide +kernel
theorem dMa_work_150 : decode b_Ma_work 150 = .ok (.getfield 12, 3) := by decide +kernel
theorem dMa_work_153 : decode b_Ma_work 153 = .ok (.iload_n 2, 1) := by decide +kernel
theorem dMa_work_154 : decode b_Ma_work 154 = .ok (.aload_n 0, 1) := by decide +kernel
theorem dMa_work_155 : decode b_Ma_work 155 = .ok (.getfield 12, 3) := by decide +kernel
theorem dMa_work_158 : decode b_Ma_work 158 = .ok (.invokevirtual 130, 3) := by decide +kernel
theorem dMa_work_161 : decode b_Ma_work 161 = .ok (.invokevirtual 70, 3) := by decide +kernel
theorem dMa_work_164 : decode b_Ma_work 164 = .ok (.goto 105, 3) := by decide +kernel
theorem dMa_work_167 : decode b_Ma_work 167 = .ok (.aload_n 0, 1) := by decide +kernel
theorem dMa_work_168 : decode b_Ma_work 168 = .ok (.getfield 12, 3) := by decide +kernel
theorem dMa_work_171 : decode b_Ma_work 171 = .ok (.iconst (-1), 1) := by decide +kernel
theorem dMa_work_172 : decode b_Ma_work 172 = .ok (.invokevirtual 162, 3) := by decide +kernel
theorem dMa_work_175 : decode b_Ma_work 175 = .ok (.goto 94, 3) := by decide +kernel
theorem dMa_work_178 : decode b_Ma_work 178 = .ok (.aload_n 0, 1) := by decide +kernel
theorem dMa_work_179 : decode b_Ma_work 179 = .ok (.getfield 12, 3) := by decide +kernel
theorem dMa_work_182 : decode b_Ma_work 182 = .ok (.aload_n 0, 1) := by decide +kernel
theorem dMa_work_183 : decode b_Ma_work 183 = .ok (.getfield 12, 3) := by decide +kernel
theorem dMa_work_186 : decode b_Ma_work 186 = .ok (.iconst 0, 1) := by decide +kernel
theorem dMa_work_187 : decode b_Ma_work 187 = .ok (.invokevirtual 140, 3) := by decide +kernel
theorem dMa_work_190 : decode b_Ma_work 190 = .ok (.invokevirtual 162, 3) := by decide +kernel
theorem dMa_work_193 : decode b_Ma_work 193 = .ok (.goto 76, 3) := by decide +kernel
theorem dMa_work_196 : decode b_Ma_work 196 = .ok (.aload_n 0, 1) := by decide +kernel
theorem dMa_work_197 : decode b_Ma_work 197 = .ok (.getfield 12, 3) := by decide +kernel
theorem dMa_work_200 : decode b_Ma_work 200 = .ok (.invokevirtual 130, 3) := by decide +kernel
theorem dMa_work_203 : decode b_Ma_work 203 = .ok (.pop, 1) := by decide +kernel
theorem dMa_work_204 : decode b_Ma_work 204 = .ok (.goto 65, 3) := by decide +kernel
theorem dMa_work_207 : decode b_Ma_work 207 = .ok (.aload_n 0, 1) := by decide +kernel
theorem dMa_work_208 : decode b_Ma_work 208 = .ok (.getfield 28, 3) := by decide +kernel
theorem dMa_work_211 : decode b_Ma_work 211 = .ok (.aload_n 0, 1) := by decide +kernel
theorem dMa_work_212 : decode b_Ma_work 212 = .ok (.getfield 12, 3) := by decide +kernel
theorem dMa_work_215 : decode b_Ma_work 215 = .ok (.invokevirtual 130, 3) := by decide +kernel
theorem dMa_work_218 : decode b_Ma_work 218 = .ok (.invokevirtual 171, 3) := by decide +kernel
theorem dMa_work_221 : decode b_Ma_work 221 = .ok (.goto 48, 3) := by decide +kernel
theorem dMa_work_224 : decode b_Ma_work 224 = .ok (.aload_n 0, 1) := by decide +kernel
theorem dMa_work_225 : decode b_Ma_work 225 = .ok (.getfield 12, 3) := by decide +kernel
theorem dMa_work_228 : decode b_Ma_work 228 = .ok (.aload_n 0, 1) := by decide +kernel
theorem dMa_work_229 : decode b_Ma_work 229 = .ok (.getfield 21, 3) := by decide +kernel
theorem dMa_work_232 : decode b_Ma_work 232 = .ok (.aload_n 0, 1) := by decide +kernel
theorem dMa_work_233 : decode b_Ma_work 233 = .ok (.getfield 12, 3) := by decide +kernel
theorem dMa_work_236 : decode b_Ma_work 236 = .ok (.invokevirtual 130, 3) := by decide +kernel
theorem dMa_work_239 : decode b_Ma_work 239 = .ok (.invokevirtual 66, 3) := by decide +kernel
theorem dMa_work_242 : decode b_Ma_work 242 = .ok (.invokevirtual 162, 3) := by decide +kernel
theorem dMa_work_245 : decode b_Ma_work 245 = .ok (.goto 24, 3) := by decide +kernel
theorem dMa_work_248 : decode b_Ma_work 248 = .ok (.aload_n 0, 1) := by decide +kernel
theorem dMa_work_249 : decode b_Ma_work 249 = .ok (.getfield 12, 3) := by decide +kernel
theorem dMa_work_252 : decode b_Ma_work 252 = .ok (.aload_n 0, 1) := by decide +kernel
theorem dMa_work_253 : decode b_Ma_work 253 = .ok (.getfield 21, 3) := by decide +kernel
theorem dMa_work_256 : decode b_Ma_work 256 = .ok (.aload_n 0, 1) := by decide +kernel
theorem dMa_work_257 : decode b_Ma_work 257 = .ok (.getfield 12, 3) := by decide +kernel
theorem dMa_work_260 : decode b_Ma_work 260 = .ok (.invokevirtual 130, 3) := by decide +kernel
theorem dMa_work_263 : decode b_Ma_work 263 = .ok (.invokevirtual 174, 3) := by decide +kernel
theorem dMa_work_266 : decode b_Ma_work 266 = .ok (.invokevirtual 162, 3) := by decide +kernel
theorem dMa_work_269 : decode b_Ma_work 269 = .ok (.return_, 1) := by decide +kernel
theorem dMe_append_0 : decode b_Me_append 0 = .ok (.aload_n 0, 1) := by decide +kernel
theorem dMe_append_1 : decode b_Me_append 1 = .ok (.getfield 38, 3) := by decide +kernel
theorem dMe_append_4 : decode b_Me_append 4 = .ok (.bipush 120, 2) := by decide +kernel
theorem dMe_append_6 : decode b_Me_append 6 = .ok (.if_icmp .ge 33, 3) := by decide +kernel
theorem dMe_append_9 : decode b_Me_append 9 = .ok (.aload_n 0, 1) := by decide +kernel
theorem dMe_append_10 : decode b_Me_append 10 = .ok (.getfield 9, 3) := by decide +kernel
theorem dMe_append_13 : decode b_Me_append 13 = .ok (.aload_n 0, 1) := by decide +kernel
theorem dMe_append_14 : decode b_Me_append 14 = .ok (.getfield 38, 3) := by decide +kernel
theorem dMe_append_17 : decode b_Me_append 17 = .ok (.iload_n 1, 1) := by decide +kernel
theorem dMe_append_18 : decode b_Me_append 18 = .ok (.iastore, 1) := by decide +kernel
theorem dMe_append_19 : decode b_Me_append 19 = .ok (.aload_n 0, 1) := by decide +kernel
theorem dMe_append_20 : decode b_Me_append 20 = .ok (.getfield 15, 3) := by decide +kernel
theorem dMe_append_23 : decode b_Me_append 23 = .ok (.aload_n 0, 1) := by decide +kernel
theorem dMe_append_24 : decode b_Me_append 24 = .ok (.getfield 38, 3) := by decide +kernel
theorem dMe_append_27 : decode b_Me_append 27 = .ok (.iload_n 2, 1) := by decide +kernel
theorem dMe_append_28 : decode b_Me_append 28 = .ok (.iastore, 1) := by decide +kernel
theorem dMe_append_29 : decode b_Me_append 29 = .ok (.aload_n 0, 1) := by decide +kernel
theorem dMe_append_30 : decode b_Me_append 30 = .ok (.dup, 1) := by decide +kernel
theorem dMe_append_31 : decode b_Me_append 31 = .ok (.getfield 38, 3) := by decide +kernel
theorem dMe_append_34 : decode b_Me_append 34 = .ok (.iconst 1, 1) := by decide +kernel
theorem dMe_append_35 : decode b_Me_append 35 = .ok (.iadd, 1) := by decide +kernel
theorem dMe_append_36 : decode b_Me_append 36 = .ok (.putfield 38, 3) := by decide +kernel
theorem dMe_append_39 : decode b_Me_append 39 = .ok (.return_, 1) := by decide +kernel
theorem dMe_begin_0 : decode b_Me_begin 0 = .ok (.aload_n 0, 1) := by decide +kernel
theorem dMe_begin_1 : decode b_Me_begin 1 = .ok (.iconst 1, 1) := by decide +kernel
theorem dMe_begin_2 : decode b_Me_begin 2 = .ok (.putfield 18, 3) := by decide +kernel
theorem dMe_begin_5 : decode b_Me_begin 5 = .ok (.aload_n 0, 1) := by decide +kernel
theorem dMe_begin_6 : decode b_Me_begin 6 = .ok (.iload_n 1, 1) := by decide +kernel
theorem dMe_begin_7 : decode b_Me_begin 7 = .ok (.putfield 22, 3) := by decide +kernel
theorem dMe_begin_10 : decode b_Me_begin 10 = .ok (.aload_n 0, 1) := by decide +kernel
theorem dMe_begin_11 : decode b_Me_begin 11 = .ok (.iload_n 2, 1) := by decide +kernel
theorem dMe_begin_12 : decode b_Me_begin 12 = .ok (.putfield 26, 3) := by decide +kernel
theorem dMe_begin_15 : decode b_Me_begin 15 = .ok (.aload_n 0, 1) := by decide +kernel
theorem dMe_begin_16 : decode b_Me_begin 16 = .ok (.iload_n 3, 1) := by decide +kernel
theorem dMe_begin_17 : decode b_Me_begin 17 = .ok (.putfield 29, 3) := by decide +kernel
theorem dMe_begin_20 : decode b_Me_begin 20 = .ok (.aload_n 0, 1) := by decide +kernel
theorem dMe_begin_21 : decode b_Me_begin 21 = .ok (.iload 4, 2) := by decide +kernel
theorem dMe_begin_23 : decode b_Me_begin 23 = .ok (.putfield 32, 3) := by decide +kernel
theorem dMe_begin_26 : decode b_Me_begin 26 = .ok (.aload_n 0, 1) := by decide +kernel
theorem dMe_begin_27 : decode b_Me_begin 27 = .ok (.iload 5, 2) := by decide +kernel
theorem dMe_begin_29 : decode b_Me_begin 29 = .ok (.putfield 35, 3) := by decide +kernel
theorem dMe_begin_32 : decode b_Me_begin 32 = .ok (.aload_n 0, 1) := by decide +kernel
theorem dMe_begin_33 : decode b_Me_begin 33 = .ok (.iconst 0, 1) := by decide +kernel
theorem dMe_begin_34 : decode b_Me_begin 34 = .ok (.putfield 38, 3) := by decide +kernel
theorem dMe_begin_37 : decode b_Me_begin 37 = .ok (.return_, 1) := by decide +kernel
theorem dMe_has_0 : decode b_Me_has 0 = .ok (.iload_n 1, 1) := by decide +kernel
theorem dMe_has_1 : decode b_Me_has 1 = .ok (.aload_n 0, 1) := by decide +kernel
theorem dMe_has_2 : decode b_Me_has 2 = .ok (.getfield 38, 3) := by decide +kernel
theorem dMe_has_5 : decode b_Me_has 5 = .ok (.invokestatic 45, 3) := by decide +kernel
theorem dMe_has_8 : decode b_Me_has 8 = .ok (.ireturn, 1) := by decide +kernel
theorem dMe_init_0 : decode b_Me_init 0 = .ok (.aload_n 0, 1) := by decide +kernel
theorem dMe_init_1 : decode b_Me_init 1 = .ok (.invokespecial 3, 3) := by decide +kernel
theorem dMe_init_4 : decode b_Me_init 4 = .ok (.aload_n 0, 1) := by decide +kernel
theorem dMe_init_5 : decode b_Me_init 5 = .ok (.bipush 120, 2) := by decide +kernel
theorem dMe_init_7 : decode b_Me_init 7 = .ok (.newarray .int, 2) := by decide +kernel
theorem dMe_init_9 : decode b_Me_init 9 = .ok (.putfield 9, 3) := by decide +kernel
theorem dMe_init_12 : decode b_Me_init 12 = .ok (.aload_n 0, 1) := by decide +kernel
theorem dMe_init_13 : decode b_Me_init 13 = .ok (.bipush 120, 2) := by decide +kernel
theorem dMe_init_15 : decode b_Me_init 15 = .ok (.newarray .int, 2) := by decide +kernel
theorem dMe_init_17 : decode b_Me_init 17 = .ok (.putfield 15, 3) := by decide +kernel
theorem dMe_init_20 : decode b_Me_init 20 = .ok (.return_, 1) := by decide +kernel
theorem dMe_numberAt_0 : decode b_Me_numberAt 0 = .ok (.aload_n 0, 1) := by decide +kernel
theorem dMe_numberAt_1 : decode b_Me_numberAt 1 = .ok (.iload_n 1, 1) := by decide +kernel
theorem dMe_numberAt_2 : decode b_Me_numberAt 2 = .ok (.invokevirtual 41, 3) := by decide +kernel
theorem dMe_numberAt_5 : decode b_Me_numberAt 5 = .ok (.ifCond .eq 12, 3) := by decide +kernel
theorem dMe_numberAt_8 : decode b_Me_numberAt 8 = .ok (.aload_n 0, 1) := by decide +kernel
theorem dMe_numberAt_9 : decode b_Me_numberAt 9 = .ok (.getfield 15, 3) := by decide +kernel
theorem dMe_numberAt_12 : decode b_Me_numberAt 12 = .ok (.iload_n 1, 1) := by decide +kernel
theorem dMe_numberAt_13 : decode b_Me_numberAt 13 = .ok (.iaload, 1) := by decide +kernel
theorem dMe_numberAt_14 : decode b_Me_numberAt 14 = .ok (.goto 4, 3) := by decide +kernel
theorem dMe_numberAt_17 : decode b_Me_numberAt 17 = .ok (.iconst 0, 1) := by decide +kernel
theorem dMe_numberAt_18 : decode b_Me_numberAt 18 = .ok (.ireturn, 1) := by decide +kernel
theorem dMe_orderAt_0 : decode b_Me_orderAt 0 = .ok (.aload_n 0, 1) := by decide +kernel
theorem dMe_orderAt_1 : decode b_Me_orderAt 1 = .ok (.iload_n 1, 1) := by decide +kernel
theorem dMe_orderAt_2 : decode b_Me_orderAt 2 = .ok (.invokevirtual 41, 3) := by decide +kernel
theorem dMe_orderAt_5 : decode b_Me_orderAt 5 = .ok (.ifCond .eq 12, 3) := by decide +kernel
theorem dMe_orderAt_8 : decode b_Me_orderAt 8 = .ok (.aload_n 0, 1) := by decide +kernel
theorem dMe_orderAt_9 : decode b_Me_orderAt 9 = .ok (.getfield 9, 3) := by decide +kernel
theorem dMe_orderAt_12 : decode b_Me_orderAt 12 = .ok (.iload_n 1, 1) := by decide +kernel
theorem dMe_orderAt_13 : decode b_Me_orderAt 13 = .ok (.iaload, 1) := by decide +kernel
theorem dMe_orderAt_14 : decode b_Me_orderAt 14 = .ok (.goto 5, 3) := by decide +kernel
theorem dMe_orderAt_17 : decode b_Me_orderAt 17 = .ok (.bipush 24, 2) := by decide +kernel
theorem dMe_orderAt_19 : decode b_Me_orderAt 19 = .ok (.ireturn, 1) := by decide +kernel
theorem dMe_renumber_0 : decode b_Me_renumber 0 = .ok (.aload_n 0, 1) := by decide +kernel
theorem dMe_renumber_1 : decode b_Me_renumber 1 = .ok (.iload_n 1, 1) := by decide +kernel
theorem dMe_renumber_2 : decode b_Me_renumber 2 = .ok (.invokevirtual 41, 3) := by decide +kernel
theorem dMe_renumber_5 : decode b_Me_renumber 5 = .ok (.ifCond .eq 10, 3) := by decide +kernel
theorem dMe_renumber_8 : decode b_Me_renumber 8 = .ok (.aload_n 0, 1) := by decide +kernel
theorem dMe_renumber_9 : decode b_Me_renumber 9 = .ok (.getfield 15, 3) := by decide +kernel
theorem dMe_renumber_12 : decode b_Me_renumber 12 = .ok (.iload_n 1, 1) := by decide +kernel
theorem dMe_renumber_13 : decode b_Me_renumber 13 = .ok (.iload_n 2, 1) := by decide +kernel
theorem dMe_renumber_14 : decode b_Me_renumber 14 = .ok (.iastore, 1) := by decide +kernel
theorem dMe_renumber_15 : decode b_Me_renumber 15 = .ok (.return_, 1) := by decide +kernel
theorem dMe_takesArray_0 : decode b_Me_takesArray 0 = .ok (.aload_n 0, 1) := by decide +kernel
theorem dMe_takesArray_1 : decode b_Me_takesArray 1 = .ok (.getfield 26, 3) := by decide +kernel
theorem dMe_takesArray_4 : decode b_Me_takesArray 4 = .ok (.iload_n 1, 1) := by decide +kernel
theorem dMe_takesArray_5 : decode b_Me_takesArray 5 = .ok (.ishr, 1) := by decide +kernel
theorem dMe_takesArray_6 : decode b_Me_takesArray 6 = .ok (.iconst 1, 1) := by decide +kernel
theorem dMe_takesArray_7 : decode b_Me_takesArray 7 = .ok (.iand, 1) := by decide +kernel
theorem dMe_takesArray_8 : decode b_Me_takesArray 8 = .ok (.ifCond .eq 7, 3) := by decide +kernel
theorem dMe_takesArray_11 : decode b_Me_takesArray 11 = .ok (.iconst 1, 1) := by decide +kernel
theorem dMe_takesArray_12 : decode b_Me_takesArray 12 = .ok (.goto 4, 3) := by decide +kernel
theorem dMe_takesArray_15 : decode b_Me_takesArray 15 = .ok (.iconst 0, 1) := by decide +kernel
theorem dMe_takesArray_16 : decode b_Me_takesArray 16 = .ok (.ireturn, 1) := by decide +kernel
theorem dMe_vanish_0 : decode b_Me_vanish 0 = .ok (.aload_n 0, 1) := by decide +kernel
theorem dMe_vanish_1 : decode b_Me_vanish 1 = .ok (.iconst 0, 1) := by decide +kernel
theorem dMe_vanish_2 : decode b_Me_vanish 2 = .ok (.putfield 18, 3) := by decide +kernel
theorem dMe_vanish_5 : decode b_Me_vanish 5 = .ok (.aload_n 0, 1) := by decide +kernel
theorem dMe_vanish_6 : decode b_Me_vanish 6 = .ok (.iconst 0, 1) := by decide +kernel
theorem dMe_vanish_7 : decode b_Me_vanish 7 = .ok (.putfield 38, 3) := by decide +kernel
theorem dMe_vanish_10 : decode b_Me_vanish 10 = .ok (.return_, 1) := by decide +kernel
theorem dOr_arraysTaken_0 : decode b_Or_arraysTaken 0 = .ok (.iload_n 0, 1) := by decide +kernel
theorem dOr_arraysTaken_1 : decode b_Or_arraysTaken 1 = .ok (.tableswitch 53 11 19 #[51, 51, 51, 53, 53, 53, 53, 53, 51], 51) := by decide +kernel
theorem dOr_arraysTaken_52 : decode b_Or_arraysTaken 52 = .ok (.iconst 1, 1) := by decide +kernel
theorem dOr_arraysTaken_53 : decode b_Or_arraysTaken 53 = .ok (.ireturn, 1) := by decide +kernel
theorem dOr_arraysTaken_54 : decode b_Or_arraysTaken 54 = .ok (.iconst 0, 1) := by decide +kernel
theorem dOr_arraysTaken_55 : decode b_Or_arraysTaken 55 = .ok (.ireturn, 1) := by decide +kernel
theorem dOr_combines_0 : decode b_Or_combines 0 = .ok (.iload_n 0, 1) := by decide +kernel
theorem dOr_combines_1 : decode b_Or_combines 1 = .ok (.invokestatic 9, 3) := by decide +kernel
theorem dOr_combines_4 : decode b_Or_combines 4 = .ok (.ifCond .ne 21, 3) := by decide +kernel
theorem dOr_combines_7 : decode b_Or_combines 7 = .ok (.iload_n 0, 1) := by decide +kernel
theorem dOr_combines_8 : decode b_Or_combines 8 = .ok (.bipush 12, 2) := by decide +kernel
theorem dOr_combines_10 : decode b_Or_combines 10 = .ok (.if_icmp .eq 15, 3) := by decide +kernel
theorem dOr_combines_13 : decode b_Or_combines 13 = .ok (.iload_n 0, 1) := by decide +kernel
theorem dOr_combines_14 : decode b_Or_combines 14 = .ok (.bipush 13, 2) := by decide +kernel
theorem dOr_combines_16 : decode b_Or_combines 16 = .ok (.if_icmp .eq 9, 3) := by decide +kernel
theorem dOr_combines_19 : decode b_Or_combines 19 = .ok (.iload_n 0, 1) := by decide +kernel
theorem dOr_combines_20 : decode b_Or_combines 20 = .ok (.bipush 22, 2) := by decide +kernel
theorem dOr_combines_22 : decode b_Or_combines 22 = .ok (.if_icmp .ne 7, 3) := by decide +kernel
theorem dOr_combines_25 : decode b_Or_combines 25 = .ok (.iconst 1, 1) := by decide +kernel
theorem dOr_combines_26 : decode b_Or_combines 26 = .ok (.goto 4, 3) := by decide +kernel
theorem dOr_combines_29 : decode b_Or_combines 29 = .ok (.iconst 0, 1) := by decide +kernel
theorem dOr_combines_30 : decode b_Or_combines 30 = .ok (.ireturn, 1) := by decide +kernel
theorem dOr_isArithmetic_0 : decode b_Or_isArithmetic 0 = .ok (.iload_n 0, 1) := by decide +kernel
theorem dOr_isArithmetic_1 : decode b_Or_isArithmetic 1 = .ok (.iconst 5, 1) := by decide +kernel
theorem dOr_isArithmetic_2 : decode b_Or_isArithmetic 2 = .ok (.if_icmp .lt 13, 3) := by decide +kernel
theorem dOr_isArithmetic_5 : decode b_Or_isArithmetic 5 = .ok (.iload_n 0, 1) := by decide +kernel
theorem dOr_isArithmetic_6 : decode b_Or_isArithmetic 6 = .ok (.bipush 9, 2) := by decide +kernel
theorem dOr_isArithmetic_8 : decode b_Or_isArithmetic 8 = .ok (.if_icmp .gt 7, 3) := by decide +kernel
theorem dOr_isArithmetic_11 : decode b_Or_isArithmetic 11 = .ok (.iconst 1, 1) := by decide +kernel
theorem dOr_isArithmetic_12 : decode b_Or_isArithmetic 12 = .ok (.goto 4, 3) := by decide +kernel
theorem dOr_isArithmetic_15 : decode b_Or_isArithmetic 15 = .ok (.iconst 0, 1) := by decide +kernel
theorem dOr_isArithmetic_16 : decode b_Or_isArithmetic 16 = .ok (.ireturn, 1) := by decide +kernel
theorem dOr_namesLocal_0 : decode b_Or_namesLocal 0 = .ok (.iload_n 0, 1) := by decide +kernel
theorem dOr_namesLocal_1 : decode b_Or_namesLocal 1 = .ok (.iconst 1, 1) := by decide +kernel
theorem dOr_namesLocal_2 : decode b_Or_namesLocal 2 = .ok (.if_icmp .lt 12, 3) := by decide +kernel
theorem dOr_namesLocal_5 : decode b_Or_namesLocal 5 = .ok (.iload_n 0, 1) := by decide +kernel
theorem dOr_namesLocal_6 : decode b_Or_namesLocal 6 = .ok (.iconst 4, 1) := by decide +kernel
theorem dOr_namesLocal_7 : decode b_Or_namesLocal 7 = .ok (.if_icmp .gt 7, 3) := by decide +kernel
theorem dOr_namesLocal_10 : decode b_Or_namesLocal 10 = .ok (.iconst 1, 1) := by decide +kernel
theorem dOr_namesLocal_11 : decode b_Or_namesLocal 11 = .ok (.goto 4, 3) := by decide +kernel
theorem dOr_namesLocal_14 : decode b_Or_namesLocal 14 = .ok (.iconst 0, 1) := by decide +kernel
theorem dOr_namesLocal_15 : decode b_Or_namesLocal 15 = .ok (.ireturn, 1) := by decide +kernel
theorem dOr_namesPlace_0 : decode b_Or_namesPlace 0 = .ok (.iload_n 0, 1) := by decide +kernel
theorem dOr_namesPlace_1 : decode b_Or_namesPlace 1 = .ok (.bipush 14, 2) := by decide +kernel
theorem dOr_namesPlace_3 : decode b_Or_namesPlace 3 = .ok (.if_icmp .lt 9, 3) := by decide +kernel
theorem dOr_namesPlace_6 : decode b_Or_namesPlace 6 = .ok (.iload_n 0, 1) := by decide +kernel
theorem dOr_namesPlace_7 : decode b_Or_namesPlace 7 = .ok (.bipush 17, 2) := by decide +kernel
theorem dOr_namesPlace_9 : decode b_Or_namesPlace 9 = .ok (.if_icmp .le 9, 3) := by decide +kernel
theorem dOr_namesPlace_12 : decode b_Or_namesPlace 12 = .ok (.iload_n 0, 1) := by decide +kernel
theorem dOr_namesPlace_13 : decode b_Or_namesPlace 13 = .ok (.bipush 19, 2) := by decide +kernel
theorem dOr_namesPlace_15 : decode b_Or_namesPlace 15 = .ok (.if_icmp .ne 7, 3) := by decide +kernel
theorem dOr_namesPlace_18 : decode b_Or_namesPlace 18 = .ok (.iconst 1, 1) := by decide +kernel
theorem dOr_namesPlace_19 : decode b_Or_namesPlace 19 = .ok (.goto 4, 3) := by decide +kernel
theorem dOr_namesPlace_22 : decode b_Or_namesPlace 22 = .ok (.iconst 0, 1) := by decide +kernel
theorem dOr_namesPlace_23 : decode b_Or_namesPlace 23 = .ok (.ireturn, 1) := by decide +kernel
theorem dOr_puts_0 : decode b_Or_puts 0 = .ok (.iload_n 0, 1) := by decide +kernel
theorem dOr_puts_1 : decode b_Or_puts 1 = .ok (.lookupswitch 55 #[(0, 51), (10, 53), (11, 51), (12, 51), (18, 53)], 51) := by decide +kernel
theorem dOr_puts_52 : decode b_Or_puts 52 = .ok (.iconst 1, 1) := by decide +kernel
theorem dOr_puts_53 : decode b_Or_puts 53 = .ok (.ireturn, 1) := by decide +kernel
theorem dOr_puts_54 : decode b_Or_puts 54 = .ok (.iconst 2, 1) := by decide +kernel
theorem dOr_puts_55 : decode b_Or_puts 55 = .ok (.ireturn, 1) := by decide +kernel
theorem dOr_puts_56 : decode b_Or_puts 56 = .ok (.iload_n 0, 1) := by decide +kernel
theorem dOr_puts_57 : decode b_Or_puts 57 = .ok (.invokestatic 9, 3) := by decide +kernel
theorem dOr_puts_60 : decode b_Or_puts 60 = .ok (.ifCond .eq 7, 3) := by decide +kernel
theorem dOr_puts_63 : decode b_Or_puts 63 = .ok (.iconst 1, 1) := by decide +kernel
theorem dOr_puts_64 : decode b_Or_puts 64 = .ok (.goto 4, 3) := by decide +kernel
theorem dOr_puts_67 : decode b_Or_puts 67 = .ok (.iconst 0, 1) := by decide +kernel
theorem dOr_puts_68 : decode b_Or_puts 68 = .ok (.ireturn, 1) := by decide +kernel
theorem dOr_taken_0 : decode b_Or_taken 0 = .ok (.iload_n 0, 1) := by decide +kernel
theorem dOr_taken_1 : decode b_Or_taken 1 = .ok (.tableswitch 97 0 18 #[91, 97, 97, 97, 97, 97, 97, 97, 97, 97, 97, 97, 95, 93, 91, 97, 95, 95, 91], 91) := by decide +kernel
theorem dOr_taken_92 : decode b_Or_taken 92 = .ok (.iconst 0, 1) := by decide +kernel
theorem dOr_taken_93 : decode b_Or_taken 93 = .ok (.ireturn, 1) := by decide +kernel
theorem dOr_taken_94 : decode b_Or_taken 94 = .ok (.iconst 3, 1) := by decide +kernel
theorem dOr_taken_95 : decode b_Or_taken 95 = .ok (.ireturn, 1) := by decide +kernel
theorem dOr_taken_96 : decode b_Or_taken 96 = .ok (.iconst 2, 1) := by decide +kernel
theorem dOr_taken_97 : decode b_Or_taken 97 = .ok (.ireturn, 1) := by decide +kernel
theorem dOr_taken_98 : decode b_Or_taken 98 = .ok (.iload_n 0, 1) := by decide +kernel
theorem dOr_taken_99 : decode b_Or_taken 99 = .ok (.invokestatic 9, 3) := by decide +kernel
theorem dOr_taken_102 : decode b_Or_taken 102 = .ok (.ifCond .eq 7, 3) := by decide +kernel
theorem dOr_taken_105 : decode b_Or_taken 105 = .ok (.iconst 2, 1) := by decide +kernel
theorem dOr_taken_106 : decode b_Or_taken 106 = .ok (.goto 4, 3) := by decide +kernel
theorem dOr_taken_109 : decode b_Or_taken 109 = .ok (.iconst 1, 1) := by decide +kernel
theorem dOr_taken_110 : decode b_Or_taken 110 = .ok (.ireturn, 1) := by decide +kernel
theorem dOu_append_0 : decode b_Ou_append 0 = .ok (.aload_n 0, 1) := by decide +kernel
theorem dOu_append_1 : decode b_Ou_append 1 = .ok (.getfield 9, 3) := by decide +kernel
theorem dOu_append_4 : decode b_Ou_append 4 = .ok (.aload_n 0, 1) := by decide +kernel
theorem dOu_append_5 : decode b_Ou_append 5 = .ok (.getfield 13, 3) := by decide +kernel
theorem dOu_append_8 : decode b_Ou_append 8 = .ok (.bipush 100, 2) := by decide +kernel
theorem dOu_append_10 : decode b_Ou_append 10 = .ok (.invokestatic 17, 3) := by decide +kernel
theorem dOu_append_13 : decode b_Ou_append 13 = .ok (.iload_n 1, 1) := by decide +kernel
theorem dOu_append_14 : decode b_Ou_append 14 = .ok (.iastore, 1) := by decide +kernel
theorem dOu_append_15 : decode b_Ou_append 15 = .ok (.aload_n 0, 1) := by decide +kernel
theorem dOu_append_16 : decode b_Ou_append 16 = .ok (.dup, 1) := by decide +kernel
theorem dOu_append_17 : decode b_Ou_append 17 = .ok (.getfield 13, 3) := by decide +kernel
theorem dOu_append_20 : decode b_Ou_append 20 = .ok (.iconst 1, 1) := by decide +kernel
theorem dOu_append_21 : decode b_Ou_append 21 = .ok (.iadd, 1) := by decide +kernel
theorem dOu_append_22 : decode b_Ou_append 22 = .ok (.putfield 13, 3) := by decide +kernel
theorem dOu_append_25 : decode b_Ou_append 25 = .ok (.return_, 1) := by decide +kernel
theorem dOu_clear_0 : decode b_Ou_clear 0 = .ok (.aload_n 0, 1) := by decide +kernel
theorem dOu_clear_1 : decode b_Ou_clear 1 = .ok (.iconst 0, 1) := by decide +kernel
theorem dOu_clear_2 : decode b_Ou_clear 2 = .ok (.putfield 13, 3) := by decide +kernel
theorem dOu_clear_5 : decode b_Ou_clear 5 = .ok (.return_, 1) := by decide +kernel
theorem dOu_init_0 : decode b_Ou_init 0 = .ok (.aload_n 0, 1) := by decide +kernel
theorem dOu_init_1 : decode b_Ou_init 1 = .ok (.invokespecial 1, 3) := by decide +kernel
theorem dOu_init_4 : decode b_Ou_init 4 = .ok (.aload_n 0, 1) := by decide +kernel
theorem dOu_init_5 : decode b_Ou_init 5 = .ok (.bipush 100, 2) := by decide +kernel
theorem dOu_init_7 : decode b_Ou_init 7 = .ok (.newarray .int, 2) := by decide +kernel
theorem dOu_init_9 : decode b_Ou_init 9 = .ok (.putfield 9, 3) := by decide +kernel
theorem dOu_init_12 : decode b_Ou_init 12 = .ok (.return_, 1) := by decide +kernel
theorem dOu_keeps_0 : decode b_Ou_keeps 0 = .ok (.iload_n 1, 1) := by decide +kernel
theorem dOu_keeps_1 : decode b_Ou_keeps 1 = .ok (.aload_n 0, 1) := by decide +kernel
theorem dOu_keeps_2 : decode b_Ou_keeps 2 = .ok (.getfield 13, 3) := by decide +kernel
theorem dOu_keeps_5 : decode b_Ou_keeps 5 = .ok (.invokestatic 23, 3) := by decide +kernel
theorem dOu_keeps_8 : decode b_Ou_keeps 8 = .ok (.ifCond .eq 18, 3) := by decide +kernel
theorem dOu_keeps_11 : decode b_Ou_keeps 11 = .ok (.iload_n 1, 1) := by decide +kernel
theorem dOu_keeps_12 : decode b_Ou_keeps 12 = .ok (.aload_n 0, 1) := by decide +kernel
theorem dOu_keeps_13 : decode b_Ou_keeps 13 = .ok (.getfield 13, 3) := by decide +kernel
theorem dOu_keeps_16 : decode b_Ou_keeps 16 = .ok (.bipush 100, 2) := by decide +kernel
theorem dOu_keeps_18 : decode b_Ou_keeps 18 = .ok (.isub, 1) := by decide +kernel
theorem dOu_keeps_19 : decode b_Ou_keeps 19 = .ok (.if_icmp .lt 7, 3) := by decide +kernel
theorem dOu_keeps_22 : decode b_Ou_keeps 22 = .ok (.iconst 1, 1) := by decide +kernel
theorem dOu_keeps_23 : decode b_Ou_keeps 23 = .ok (.goto 4, 3) := by decide +kernel
theorem dOu_keeps_26 : decode b_Ou_keeps 26 = .ok (.iconst 0, 1) := by decide +kernel
theorem dOu_keeps_27 : decode b_Ou_keeps 27 = .ok (.ireturn, 1) := by decide +kernel
theorem dOu_read_0 : decode b_Ou_read 0 = .ok (.aload_n 0, 1) := by decide +kernel
theorem dOu_read_1 : decode b_Ou_read 1 = .ok (.iload_n 1, 1) := by decide +kernel
theorem dOu_read_2 : decode b_Ou_read 2 = .ok (.invokevirtual 29, 3) := by decide +kernel
theorem dOu_read_5 : decode b_Ou_read 5 = .ok (.ifCond .eq 17, 3) := by decide +kernel
theorem dOu_read_8 : decode b_Ou_read 8 = .ok (.aload_n 0, 1) := by decide +kernel
theorem dOu_read_9 : decode b_Ou_read 9 = .ok (.getfield 9, 3) := by decide +kernel
theorem dOu_read_12 : decode b_Ou_read 12 = .ok (.iload_n 1, 1) := by decide +kernel
theorem dOu_read_13 : decode b_Ou_read 13 = .ok (.bipush 100, 2) := by decide +kernel
theorem dOu_read_15 : decode b_Ou_read 15 = .ok (.invokestatic 17, 3) := by decide +kernel
theorem dOu_read_18 : decode b_Ou_read 18 = .ok (.iaload, 1) := by decide +kernel
theorem dOu_read_19 : decode b_Ou_read 19 = .ok (.goto 4, 3) := by decide +kernel
theorem dOu_read_22 : decode b_Ou_read 22 = .ok (.iconst 0, 1) := by decide +kernel
theorem dOu_read_23 : decode b_Ou_read 23 = .ok (.ireturn, 1) := by decide +kernel
theorem dSh_hasInLocal_0 : decode b_Sh_hasInLocal 0 = .ok (.iload_n 2, 1) := by decide +kernel
theorem dSh_hasInLocal_1 : decode b_Sh_hasInLocal 1 = .ok (.iconst 1, 1) := by decide +kernel
theorem dSh_hasInLocal_2 : decode b_Sh_hasInLocal 2 = .ok (.if_icmp .ne 10, 3) := by decide +kernel
theorem dSh_hasInLocal_5 : decode b_Sh_hasInLocal 5 = .ok (.aload_n 0, 1) := by decide +kernel
theorem dSh_hasInLocal_6 : decode b_Sh_hasInLocal 6 = .ok (.getfield 22, 3) := by decide +kernel
theorem dSh_hasInLocal_9 : decode b_Sh_hasInLocal 9 = .ok (.goto 7, 3) := by decide +kernel
theorem dSh_hasInLocal_12 : decode b_Sh_hasInLocal 12 = .ok (.aload_n 0, 1) := by decide +kernel
theorem dSh_hasInLocal_13 : decode b_Sh_hasInLocal 13 = .ok (.getfield 25, 3) := by decide +kernel
theorem dSh_hasInLocal_16 : decode b_Sh_hasInLocal 16 = .ok (.iload_n 1, 1) := by decide +kernel
theorem dSh_hasInLocal_17 : decode b_Sh_hasInLocal 17 = .ok (.ishr, 1) := by decide +kernel
theorem dSh_hasInLocal_18 : decode b_Sh_hasInLocal 18 = .ok (.iconst 1, 1) := by decide +kernel
theorem dSh_hasInLocal_19 : decode b_Sh_hasInLocal 19 = .ok (.iand, 1) := by decide +kernel
theorem dSh_hasInLocal_20 : decode b_Sh_hasInLocal 20 = .ok (.ifCond .eq 7, 3) := by decide +kernel
theorem dSh_hasInLocal_23 : decode b_Sh_hasInLocal 23 = .ok (.iconst 1, 1) := by decide +kernel
theorem dSh_hasInLocal_24 : decode b_Sh_hasInLocal 24 = .ok (.goto 4, 3) := by decide +kernel
theorem dSh_hasInLocal_27 : decode b_Sh_hasInLocal 27 = .ok (.iconst 0, 1) := by decide +kernel
theorem dSh_hasInLocal_28 : decode b_Sh_hasInLocal 28 = .ok (.ireturn, 1) := by decide +kernel
theorem dSh_init_0 : decode b_Sh_init 0 = .ok (.aload_n 0, 1) := by decide +kernel
theorem dSh_init_1 : decode b_Sh_init 1 = .ok (.invokespecial 3, 3) := by decide +kernel
theorem dSh_init_4 : decode b_Sh_init 4 = .ok (.return_, 1) := by decide +kernel
theorem dSh_put_0 : decode b_Sh_put 0 = .ok (.iload_n 1, 1) := by decide +kernel
theorem dSh_put_1 : decode b_Sh_put 1 = .ok (.iconst 2, 1) := by decide +kernel
theorem dSh_put_2 : decode b_Sh_put 2 = .ok (.if_icmp .ne 18, 3) := by decide +kernel
theorem dSh_put_5 : decode b_Sh_put 5 = .ok (.aload_n 0, 1) := by decide +kernel
theorem dSh_put_6 : decode b_Sh_put 6 = .ok (.dup, 1) := by decide +kernel
theorem dSh_put_7 : decode b_Sh_put 7 = .ok (.getfield 15, 3) := by decide +kernel
theorem dSh_put_10 : decode b_Sh_put 10 = .ok (.iconst 1, 1) := by decide +kernel
theorem dSh_put_11 : decode b_Sh_put 11 = .ok (.aload_n 0, 1) := by decide +kernel
theorem dSh_put_12 : decode b_Sh_put 12 = .ok (.getfield 9, 3) := by decide +kernel
theorem dSh_put_15 : decode b_Sh_put 15 = .ok (.ishl, 1) := by decide +kernel
theorem dSh_put_16 : decode b_Sh_put 16 = .ok (.ior, 1) := by decide +kernel
theorem dSh_put_17 : decode b_Sh_put 17 = .ok (.putfield 15, 3) := by decide +kernel
theorem dSh_put_20 : decode b_Sh_put 20 = .ok (.iload_n 1, 1) := by decide +kernel
theorem dSh_put_21 : decode b_Sh_put 21 = .ok (.ifCond .eq 13, 3) := by decide +kernel
theorem dSh_put_24 : decode b_Sh_put 24 = .ok (.aload_n 0, 1) := by decide +kernel
theorem dSh_put_25 : decode b_Sh_put 25 = .ok (.dup, 1) := by decide +kernel
theorem dSh_put_26 : decode b_Sh_put 26 = .ok (.getfield 9, 3) := by decide +kernel
theorem dSh_put_29 : decode b_Sh_put 29 = .ok (.iconst 1, 1) := by decide +kernel
theorem dSh_put_30 : decode b_Sh_put 30 = .ok (.iadd, 1) := by decide +kernel
theorem dSh_put_31 : decode b_Sh_put 31 = .ok (.putfield 9, 3) := by decide +kernel
theorem dSh_put_34 : decode b_Sh_put 34 = .ok (.iconst 1, 1) := by decide +kernel
theorem dSh_put_35 : decode b_Sh_put 35 = .ok (.ireturn, 1) := by decide +kernel
theorem dSh_setLocal_0 : decode b_Sh_setLocal 0 = .ok (.aload_n 0, 1) := by decide +kernel
theorem dSh_setLocal_1 : decode b_Sh_setLocal 1 = .ok (.dup, 1) := by decide +kernel
theorem dSh_setLocal_2 : decode b_Sh_setLocal 2 = .ok (.getfield 22, 3) := by decide +kernel
theorem dSh_setLocal_5 : decode b_Sh_setLocal 5 = .ok (.iconst 1, 1) := by decide +kernel
theorem dSh_setLocal_6 : decode b_Sh_setLocal 6 = .ok (.iload_n 1, 1) := by decide +kernel
theorem dSh_setLocal_7 : decode b_Sh_setLocal 7 = .ok (.ishl, 1) := by decide +kernel
theorem dSh_setLocal_8 : decode b_Sh_setLocal 8 = .ok (.iconst (-1), 1) := by decide +kernel
theorem dSh_setLocal_9 : decode b_Sh_setLocal 9 = .ok (.ixor, 1) := by decide +kernel
theorem dSh_setLocal_10 : decode b_Sh_setLocal 10 = .ok (.iand, 1) := by decide +kernel
theorem dSh_setLocal_11 : decode b_Sh_setLocal 11 = .ok (.putfield 22, 3) := by decide +kernel
theorem dSh_setLocal_14 : decode b_Sh_setLocal 14 = .ok (.aload_n 0, 1) := by decide +kernel
theorem dSh_setLocal_15 : decode b_Sh_setLocal 15 = .ok (.dup, 1) := by decide +kernel
theorem dSh_setLocal_16 : decode b_Sh_setLocal 16 = .ok (.getfield 25, 3) := by decide +kernel
theorem dSh_setLocal_19 : decode b_Sh_setLocal 19 = .ok (.iconst 1, 1) := by decide +kernel
theorem dSh_setLocal_20 : decode b_Sh_setLocal 20 = .ok (.iload_n 1, 1) := by decide +kernel
theorem dSh_setLocal_21 : decode b_Sh_setLocal 21 = .ok (.ishl, 1) := by decide +kernel
theorem dSh_setLocal_22 : decode b_Sh_setLocal 22 = .ok (.iconst (-1), 1) := by decide +kernel
theorem dSh_setLocal_23 : decode b_Sh_setLocal 23 = .ok (.ixor, 1) := by decide +kernel
theorem dSh_setLocal_24 : decode b_Sh_setLocal 24 = .ok (.iand, 1) := by decide +kernel
theorem dSh_setLocal_25 : decode b_Sh_setLocal 25 = .ok (.putfield 25, 3) := by decide +kernel
theorem dSh_setLocal_28 : decode b_Sh_setLocal 28 = .ok (.iload_n 2, 1) := by decide +kernel
theorem dSh_setLocal_29 : decode b_Sh_setLocal 29 = .ok (.iconst 1, 1) := by decide +kernel
theorem dSh_setLocal_30 : decode b_Sh_setLocal 30 = .ok (.if_icmp .ne 18, 3) := by decide +kernel
theorem dSh_setLocal_33 : decode b_Sh_setLocal 33 = .ok (.aload_n 0, 1) := by decide +kernel
theorem dSh_setLocal_34 : decode b_Sh_setLocal 34 = .ok (.dup, 1) := by decide +kernel
theorem dSh_setLocal_35 : decode b_Sh_setLocal 35 = .ok (.getfield 22, 3) := by decide +kernel
theorem dSh_setLocal_38 : decode b_Sh_setLocal 38 = .ok (.iconst 1, 1) := by decide +kernel
theorem dSh_setLocal_39 : decode b_Sh_setLocal 39 = .ok (.iload_n 1, 1) := by decide +kernel
theorem dSh_setLocal_40 : decode b_Sh_setLocal 40 = .ok (.ishl, 1) := by decide +kernel
theorem dSh_setLocal_41 : decode b_Sh_setLocal 41 = .ok (.ior, 1) := by decide +kernel
theorem dSh_setLocal_42 : decode b_Sh_setLocal 42 = .ok (.putfield 22, 3) := by decide +kernel
theorem dSh_setLocal_45 : decode b_Sh_setLocal 45 = .ok (.goto 15, 3) := by decide +kernel
theorem dSh_setLocal_48 : decode b_Sh_setLocal 48 = .ok (.aload_n 0, 1) := by decide +kernel
theorem dSh_setLocal_49 : decode b_Sh_setLocal 49 = .ok (.dup, 1) := by decide +kernel
theorem dSh_setLocal_50 : decode b_Sh_setLocal 50 = .ok (.getfield 25, 3) := by decide +kernel
theorem dSh_setLocal_53 : decode b_Sh_setLocal 53 = .ok (.iconst 1, 1) := by decide +kernel
theorem dSh_setLocal_54 : decode b_Sh_setLocal 54 = .ok (.iload_n 1, 1) := by decide +kernel
theorem dSh_setLocal_55 : decode b_Sh_setLocal 55 = .ok (.ishl, 1) := by decide +kernel
theorem dSh_setLocal_56 : decode b_Sh_setLocal 56 = .ok (.ior, 1) := by decide +kernel
theorem dSh_setLocal_57 : decode b_Sh_setLocal 57 = .ok (.putfield 25, 3) := by decide +kernel
theorem dSh_setLocal_60 : decode b_Sh_setLocal 60 = .ok (.iconst 1, 1) := by decide +kernel
theorem dSh_setLocal_61 : decode b_Sh_setLocal 61 = .ok (.ireturn, 1) := by decide +kernel
theorem dSh_take_0 : decode b_Sh_take 0 = .ok (.aload_n 0, 1) := by decide +kernel
theorem dSh_take_1 : decode b_Sh_take 1 = .ok (.getfield 9, 3) := by decide +kernel
theorem dSh_take_4 : decode b_Sh_take 4 = .ok (.iload_n 1, 1) := by decide +kernel
theorem dSh_take_5 : decode b_Sh_take 5 = .ok (.if_icmp .lt 18, 3) := by decide +kernel
theorem dSh_take_8 : decode b_Sh_take 8 = .ok (.aload_n 0, 1) := by decide +kernel
theorem dSh_take_9 : decode b_Sh_take 9 = .ok (.getfield 15, 3) := by decide +kernel
theorem dSh_take_12 : decode b_Sh_take 12 = .ok (.aload_n 0, 1) := by decide +kernel
theorem dSh_take_13 : decode b_Sh_take 13 = .ok (.getfield 9, 3) := by decide +kernel
theorem dSh_take_16 : decode b_Sh_take 16 = .ok (.iload_n 1, 1) := by decide +kernel
theorem dSh_take_17 : decode b_Sh_take 17 = .ok (.isub, 1) := by decide +kernel
theorem dSh_take_18 : decode b_Sh_take 18 = .ok (.ishr, 1) := by decide +kernel
theorem dSh_take_19 : decode b_Sh_take 19 = .ok (.iload_n 2, 1) := by decide +kernel
theorem dSh_take_20 : decode b_Sh_take 20 = .ok (.if_icmp .eq 5, 3) := by decide +kernel
theorem dSh_take_23 : decode b_Sh_take 23 = .ok (.iconst 0, 1) := by decide +kernel
theorem dSh_take_24 : decode b_Sh_take 24 = .ok (.ireturn, 1) := by decide +kernel
theorem dSh_take_25 : decode b_Sh_take 25 = .ok (.aload_n 0, 1) := by decide +kernel
theorem dSh_take_26 : decode b_Sh_take 26 = .ok (.dup, 1) := by decide +kernel
theorem dSh_take_27 : decode b_Sh_take 27 = .ok (.getfield 9, 3) := by decide +kernel
theorem dSh_take_30 : decode b_Sh_take 30 = .ok (.iload_n 1, 1) := by decide +kernel
theorem dSh_take_31 : decode b_Sh_take 31 = .ok (.isub, 1) := by decide +kernel
theorem dSh_take_32 : decode b_Sh_take 32 = .ok (.putfield 9, 3) := by decide +kernel
theorem dSh_take_35 : decode b_Sh_take 35 = .ok (.aload_n 0, 1) := by decide +kernel
theorem dSh_take_36 : decode b_Sh_take 36 = .ok (.dup, 1) := by decide +kernel
theorem dSh_take_37 : decode b_Sh_take 37 = .ok (.getfield 15, 3) := by decide +kernel
theorem dSh_take_40 : decode b_Sh_take 40 = .ok (.iconst 1, 1) := by decide +kernel
theorem dSh_take_41 : decode b_Sh_take 41 = .ok (.aload_n 0, 1) := by decide +kernel
theorem dSh_take_42 : decode b_Sh_take 42 = .ok (.getfield 9, 3) := by decide +kernel
theorem dSh_take_45 : decode b_Sh_take 45 = .ok (.ishl, 1) := by decide +kernel
theorem dSh_take_46 : decode b_Sh_take 46 = .ok (.iconst 1, 1) := by decide +kernel
theorem dSh_take_47 : decode b_Sh_take 47 = .ok (.isub, 1) := by decide +kernel
theorem dSh_take_48 : decode b_Sh_take 48 = .ok (.iand, 1) := by decide +kernel
theorem dSh_take_49 : decode b_Sh_take 49 = .ok (.putfield 15, 3) := by decide +kernel
theorem dSh_take_52 : decode b_Sh_take 52 = .ok (.iconst 1, 1) := by decide +kernel
theorem dSh_take_53 : decode b_Sh_take 53 = .ok (.ireturn, 1) := by decide +kernel
theorem dSh_takeAny_0 : decode b_Sh_takeAny 0 = .ok (.aload_n 0, 1) := by decide +kernel
theorem dSh_takeAny_1 : decode b_Sh_takeAny 1 = .ok (.getfield 9, 3) := by decide +kernel
theorem dSh_takeAny_4 : decode b_Sh_takeAny 4 = .ok (.ifCond .le 26, 3) := by decide +kernel
theorem dSh_takeAny_7 : decode b_Sh_takeAny 7 = .ok (.aload_n 0, 1) := by decide +kernel
theorem dSh_takeAny_8 : decode b_Sh_takeAny 8 = .ok (.iconst 1, 1) := by decide +kernel
theorem dSh_takeAny_9 : decode b_Sh_takeAny 9 = .ok (.aload_n 0, 1) := by decide +kernel
theorem dSh_takeAny_10 : decode b_Sh_takeAny 10 = .ok (.getfield 15, 3) := by decide +kernel
theorem dSh_takeAny_13 : decode b_Sh_takeAny 13 = .ok (.aload_n 0, 1) := by decide +kernel
theorem dSh_takeAny_14 : decode b_Sh_takeAny 14 = .ok (.getfield 9, 3) := by decide +kernel
theorem dSh_takeAny_17 : decode b_Sh_takeAny 17 = .ok (.iconst 1, 1) := by decide +kernel
theorem dSh_takeAny_18 : decode b_Sh_takeAny 18 = .ok (.isub, 1) := by decide +kernel
theorem dSh_takeAny_19 : decode b_Sh_takeAny 19 = .ok (.ishr, 1) := by decide +kernel
theorem dSh_takeAny_20 : decode b_Sh_takeAny 20 = .ok (.invokevirtual 18, 3) := by decide +kernel
theorem dSh_takeAny_23 : decode b_Sh_takeAny 23 = .ok (.ifCond .eq 7, 3) := by decide +kernel
theorem dSh_takeAny_26 : decode b_Sh_takeAny 26 = .ok (.iconst 1, 1) := by decide +kernel
theorem dSh_takeAny_27 : decode b_Sh_takeAny 27 = .ok (.goto 4, 3) := by decide +kernel
theorem dSh_takeAny_30 : decode b_Sh_takeAny 30 = .ok (.iconst 0, 1) := by decide +kernel
theorem dSh_takeAny_31 : decode b_Sh_takeAny 31 = .ok (.ireturn, 1) := by decide +kernel
theorem dSh_turn_0 : decode b_Sh_turn 0 = .ok (.aload_n 0, 1) := by decide +kernel
theorem dSh_turn_1 : decode b_Sh_turn 1 = .ok (.getfield 9, 3) := by decide +kernel
theorem dSh_turn_4 : decode b_Sh_turn 4 = .ok (.iconst 2, 1) := by decide +kernel
theorem dSh_turn_5 : decode b_Sh_turn 5 = .ok (.if_icmp .ge 5, 3) := by decide +kernel
theorem dSh_turn_8 : decode b_Sh_turn 8 = .ok (.iconst 0, 1) := by decide +kernel
theorem dSh_turn_9 : decode b_Sh_turn 9 = .ok (.ireturn, 1) := by decide +kernel
theorem dSh_turn_10 : decode b_Sh_turn 10 = .ok (.aload_n 0, 1) := by decide +kernel
theorem dSh_turn_11 : decode b_Sh_turn 11 = .ok (.getfield 15, 3) := by decide +kernel
theorem dSh_turn_14 : decode b_Sh_turn 14 = .ok (.aload_n 0, 1) := by decide +kernel
theorem dSh_turn_15 : decode b_Sh_turn 15 = .ok (.getfield 9, 3) := by decide +kernel
theorem dSh_turn_18 : decode b_Sh_turn 18 = .ok (.iconst 1, 1) := by decide +kernel
theorem dSh_turn_19 : decode b_Sh_turn 19 = .ok (.isub, 1) := by decide +kernel
theorem dSh_turn_20 : decode b_Sh_turn 20 = .ok (.ishr, 1) := by decide +kernel
theorem dSh_turn_21 : decode b_Sh_turn 21 = .ok (.istore_n 1, 1) := by decide +kernel
theorem dSh_turn_22 : decode b_Sh_turn 22 = .ok (.aload_n 0, 1) := by decide +kernel
theorem dSh_turn_23 : decode b_Sh_turn 23 = .ok (.getfield 15, 3) := by decide +kernel
theorem dSh_turn_26 : decode b_Sh_turn 26 = .ok (.aload_n 0, 1) := by decide +kernel
theorem dSh_turn_27 : decode b_Sh_turn 27 = .ok (.getfield 9, 3) := by decide +kernel
theorem dSh_turn_30 : decode b_Sh_turn 30 = .ok (.iconst 2, 1) := by decide +kernel
theorem dSh_turn_31 : decode b_Sh_turn 31 = .ok (.isub, 1) := by decide +kernel
theorem dSh_turn_32 : decode b_Sh_turn 32 = .ok (.ishr, 1) := by decide +kernel
theorem dSh_turn_33 : decode b_Sh_turn 33 = .ok (.iconst 1, 1) := by decide +kernel
theorem dSh_turn_34 : decode b_Sh_turn 34 = .ok (.iand, 1) := by decide +kernel
theorem dSh_turn_35 : decode b_Sh_turn 35 = .ok (.istore_n 2, 1) := by decide +kernel
theorem dSh_turn_36 : decode b_Sh_turn 36 = .ok (.aload_n 0, 1) := by decide +kernel
theorem dSh_turn_37 : decode b_Sh_turn 37 = .ok (.getfield 15, 3) := by decide +kernel
theorem dSh_turn_40 : decode b_Sh_turn 40 = .ok (.iconst 1, 1) := by decide +kernel
theorem dSh_turn_41 : decode b_Sh_turn 41 = .ok (.aload_n 0, 1) := by decide +kernel
theorem dSh_turn_42 : decode b_Sh_turn 42 = .ok (.getfield 9, 3) := by decide +kernel
theorem dSh_turn_45 : decode b_Sh_turn 45 = .ok (.iconst 2, 1) := by decide +kernel
theorem dSh_turn_46 : decode b_Sh_turn 46 = .ok (.isub, 1) := by decide +kernel
theorem dSh_turn_47 : decode b_Sh_turn 47 = .ok (.ishl, 1) := by decide +kernel
theorem dSh_turn_48 : decode b_Sh_turn 48 = .ok (.iconst 1, 1) := by decide +kernel
theorem dSh_turn_49 : decode b_Sh_turn 49 = .ok (.isub, 1) := by decide +kernel
theorem dSh_turn_50 : decode b_Sh_turn 50 = .ok (.iand, 1) := by decide +kernel
theorem dSh_turn_51 : decode b_Sh_turn 51 = .ok (.istore_n 3, 1) := by decide +kernel
theorem dSh_turn_52 : decode b_Sh_turn 52 = .ok (.aload_n 0, 1) := by decide +kernel
theorem dSh_turn_53 : decode b_Sh_turn 53 = .ok (.iload_n 3, 1) := by decide +kernel
theorem dSh_turn_54 : decode b_Sh_turn 54 = .ok (.iload_n 1, 1) := by decide +kernel
theorem dSh_turn_55 : decode b_Sh_turn 55 = .ok (.aload_n 0, 1) := by decide +kernel
theorem dSh_turn_56 : decode b_Sh_turn 56 = .ok (.getfield 9, 3) := by decide +kernel
theorem dSh_turn_59 : decode b_Sh_turn 59 = .ok (.iconst 2, 1) := by decide +kernel
theorem dSh_turn_60 : decode b_Sh_turn 60 = .ok (.isub, 1) := by decide +kernel
theorem dSh_turn_61 : decode b_Sh_turn 61 = .ok (.ishl, 1) := by decide +kernel
theorem dSh_turn_62 : decode b_Sh_turn 62 = .ok (.ior, 1) := by decide +kernel
theorem dSh_turn_63 : decode b_Sh_turn 63 = .ok (.iload_n 2, 1) := by decide +kernel
theorem dSh_turn_64 : decode b_Sh_turn 64 = .ok (.aload_n 0, 1) := by decide +kernel
theorem dSh_turn_65 : decode b_Sh_turn 65 = .ok (.getfield 9, 3) := by decide +kernel
theorem dSh_turn_68 : decode b_Sh_turn 68 = .ok (.iconst 1, 1) := by decide +kernel
theorem dSh_turn_69 : decode b_Sh_turn 69 = .ok (.isub, 1) := by decide +kernel
theorem dSh_turn_70 : decode b_Sh_turn 70 = .ok (.ishl, 1) := by decide +kernel
theorem dSh_turn_71 : decode b_Sh_turn 71 = .ok (.ior, 1) := by decide +kernel
theorem dSh_turn_72 : decode b_Sh_turn 72 = .ok (.putfield 15, 3) := by decide +kernel
theorem dSh_turn_75 : decode b_Sh_turn 75 = .ok (.iconst 1, 1) := by decide +kernel
theorem dSh_turn_76 : decode b_Sh_turn 76 = .ok (.ireturn, 1) := by decide +kernel
theorem dSh_upperType_0 : decode b_Sh_upperType 0 = .ok (.aload_n 0, 1) := by decide +kernel
theorem dSh_upperType_1 : decode b_Sh_upperType 1 = .ok (.getfield 9, 3) := by decide +kernel
theorem dSh_upperType_4 : decode b_Sh_upperType 4 = .ok (.ifCond .le 21, 3) := by decide +kernel
theorem dSh_upperType_7 : decode b_Sh_upperType 7 = .ok (.aload_n 0, 1) := by decide +kernel
theorem dSh_upperType_8 : decode b_Sh_upperType 8 = .ok (.getfield 15, 3) := by decide +kernel
theorem dSh_upperType_11 : decode b_Sh_upperType 11 = .ok (.aload_n 0, 1) := by decide +kernel
theorem dSh_upperType_12 : decode b_Sh_upperType 12 = .ok (.getfield 9, 3) := by decide +kernel
theorem dSh_upperType_15 : decode b_Sh_upperType 15 = .ok (.iconst 1, 1) := by decide +kernel
theorem dSh_upperType_16 : decode b_Sh_upperType 16 = .ok (.isub, 1) := by decide +kernel
theorem dSh_upperType_17 : decode b_Sh_upperType 17 = .ok (.ishr, 1) := by decide +kernel
theorem dSh_upperType_18 : decode b_Sh_upperType 18 = .ok (.ifCond .eq 7, 3) := by decide +kernel
theorem dSh_upperType_21 : decode b_Sh_upperType 21 = .ok (.iconst 2, 1) := by decide +kernel
theorem dSh_upperType_22 : decode b_Sh_upperType 22 = .ok (.goto 4, 3) := by decide +kernel
theorem dSh_upperType_25 : decode b_Sh_upperType 25 = .ok (.iconst 1, 1) := by decide +kernel
theorem dSh_upperType_26 : decode b_Sh_upperType 26 = .ok (.ireturn, 1) := by decide +kernel
