theorem dX7_lookAt_120 : decode cX7_lookAt 120 = .ok (.iaload, 1) := by decide +kernel
theorem dX7_lookAt_121 : decode cX7_lookAt 121 = .ok (.i2l, 1) := by decide +kernel
theorem dX7_lookAt_122 : decode cX7_lookAt 122 = .ok (.lmul, 1) := by decide +kernel
theorem dX7_lookAt_123 : decode cX7_lookAt 123 = .ok (.lastore, 1) := by decide +kernel
theorem dX7_lookAt_124 : decode cX7_lookAt 124 = .ok (.iinc 4 1, 3) := by decide +kernel
theorem dX7_lookAt_127 : decode cX7_lookAt 127 = .ok (.goto (-35), 3) := by decide +kernel
theorem dX7_lookAt_130 : decode cX7_lookAt 130 = .ok (.return_, 1) := by decide +kernel
theorem dX7_measure_0 : decode cX7_measure 0 = .ok (.aload_n 0, 1) := by decide +kernel
theorem dX7_measure_1 : decode cX7_measure 1 = .ok (.invokevirtual 173, 3) := by decide +kernel
theorem dX7_measure_4 : decode cX7_measure 4 = .ok (.iconst 0, 1) := by decide +kernel
theorem dX7_measure_5 : decode cX7_measure 5 = .ok (.istore_n 2, 1) := by decide +kernel
theorem dX7_measure_6 : decode cX7_measure 6 = .ok (.iload_n 2, 1) := by decide +kernel
theorem dX7_measure_7 : decode cX7_measure 7 = .ok (.aload_n 0, 1) := by decide +kernel
theorem dX7_measure_8 : decode cX7_measure 8 = .ok (.getfield 13, 3) := by decide +kernel
theorem dX7_measure_11 : decode cX7_measure 11 = .ok (.iconst 0, 1) := by decide +kernel
theorem dX7_measure_12 : decode cX7_measure 12 = .ok (.iaload, 1) := by decide +kernel
theorem dX7_measure_13 : decode cX7_measure 13 = .ok (.if_icmp .ge 38, 3) := by decide +kernel
theorem dX7_measure_16 : decode cX7_measure 16 = .ok (.aload_n 0, 1) := by decide +kernel
theorem dX7_measure_17 : decode cX7_measure 17 = .ok (.iload_n 2, 1) := by decide +kernel
theorem dX7_measure_18 : decode cX7_measure 18 = .ok (.invokevirtual 176, 3) := by decide +kernel
theorem dX7_measure_21 : decode cX7_measure 21 = .ok (.aload_n 0, 1) := by decide +kernel
theorem dX7_measure_22 : decode cX7_measure 22 = .ok (.iload_n 2, 1) := by decide +kernel
theorem dX7_measure_23 : decode cX7_measure 23 = .ok (.iload_n 1, 1) := by decide +kernel
theorem dX7_measure_24 : decode cX7_measure 24 = .ok (.aload_n 0, 1) := by decide +kernel
theorem dX7_measure_25 : decode cX7_measure 25 = .ok (.getfield 42, 3) := by decide +kernel
theorem dX7_measure_28 : decode cX7_measure 28 = .ok (.iload_n 2, 1) := by decide +kernel
theorem dX7_measure_29 : decode cX7_measure 29 = .ok (.iaload, 1) := by decide +kernel
theorem dX7_measure_30 : decode cX7_measure 30 = .ok (.ishr, 1) := by decide +kernel
theorem dX7_measure_31 : decode cX7_measure 31 = .ok (.iconst 1, 1) := by decide +kernel
theorem dX7_measure_32 : decode cX7_measure 32 = .ok (.iand, 1) := by decide +kernel
theorem dX7_measure_33 : decode cX7_measure 33 = .ok (.iconst 1, 1) := by decide +kernel
theorem dX7_measure_34 : decode cX7_measure 34 = .ok (.if_icmp .ne 7, 3) := by decide +kernel
theorem dX7_measure_37 : decode cX7_measure 37 = .ok (.iconst 1, 1) := by decide +kernel
theorem dX7_measure_38 : decode cX7_measure 38 = .ok (.goto 4, 3) := by decide +kernel
theorem dX7_measure_41 : decode cX7_measure 41 = .ok (.iconst 0, 1) := by decide +kernel
theorem dX7_measure_42 : decode cX7_measure 42 = .ok (.invokevirtual 179, 3) := by decide +kernel
theorem dX7_measure_45 : decode cX7_measure 45 = .ok (.iinc 2 1, 3) := by decide +kernel
theorem dX7_measure_48 : decode cX7_measure 48 = .ok (.goto (-42), 3) := by decide +kernel
theorem dX7_measure_51 : decode cX7_measure 51 = .ok (.aload_n 0, 1) := by decide +kernel
theorem dX7_measure_52 : decode cX7_measure 52 = .ok (.dup, 1) := by decide +kernel
theorem dX7_measure_53 : decode cX7_measure 53 = .ok (.getfield 161, 3) := by decide +kernel
theorem dX7_measure_56 : decode cX7_measure 56 = .ok (.aload_n 0, 1) := by decide +kernel
theorem dX7_measure_57 : decode cX7_measure 57 = .ok (.getfield 167, 3) := by decide +kernel
theorem dX7_measure_60 : decode cX7_measure 60 = .ok (.aload_n 0, 1) := by decide +kernel
theorem dX7_measure_61 : decode cX7_measure 61 = .ok (.getfield 32, 3) := by decide +kernel
theorem dX7_measure_64 : decode cX7_measure 64 = .ok (.iconst 0, 1) := by decide +kernel
theorem dX7_measure_65 : decode cX7_measure 65 = .ok (.iaload, 1) := by decide +kernel
theorem dX7_measure_66 : decode cX7_measure 66 = .ok (.i2l, 1) := by decide +kernel
theorem dX7_measure_67 : decode cX7_measure 67 = .ok (.lmul, 1) := by decide +kernel
theorem dX7_measure_68 : decode cX7_measure 68 = .ok (.ladd, 1) := by decide +kernel
theorem dX7_measure_69 : decode cX7_measure 69 = .ok (.putfield 161, 3) := by decide +kernel
theorem dX7_measure_72 : decode cX7_measure 72 = .ok (.return_, 1) := by decide +kernel
theorem dX7_part_0 : decode cX7_part 0 = .ok (.lload_n 0, 1) := by decide +kernel
theorem dX7_part_1 : decode cX7_part 1 = .ok (.lstore 5, 2) := by decide +kernel
theorem dX7_part_3 : decode cX7_part 3 = .ok (.lload_n 2, 1) := by decide +kernel
theorem dX7_part_4 : decode cX7_part 4 = .ok (.lstore 7, 2) := by decide +kernel
theorem dX7_part_6 : decode cX7_part 6 = .ok (.lload 7, 2) := by decide +kernel
theorem dX7_part_8 : decode cX7_part 8 = .ok (.lconst 0, 1) := by decide +kernel
theorem dX7_part_9 : decode cX7_part 9 = .ok (.lcmp, 1) := by decide +kernel
theorem dX7_part_10 : decode cX7_part 10 = .ok (.ifCond .eq 21, 3) := by decide +kernel
theorem dX7_part_13 : decode cX7_part 13 = .ok (.lload 5, 2) := by decide +kernel
theorem dX7_part_15 : decode cX7_part 15 = .ok (.lload 7, 2) := by decide +kernel
theorem dX7_part_17 : decode cX7_part 17 = .ok (.lrem, 1) := by decide +kernel
theorem dX7_part_18 : decode cX7_part 18 = .ok (.lstore 9, 2) := by decide +kernel
theorem dX7_part_20 : decode cX7_part 20 = .ok (.lload 7, 2) := by decide +kernel
theorem dX7_part_22 : decode cX7_part 22 = .ok (.lstore 5, 2) := by decide +kernel
theorem dX7_part_24 : decode cX7_part 24 = .ok (.lload 9, 2) := by decide +kernel
theorem dX7_part_26 : decode cX7_part 26 = .ok (.lstore 7, 2) := by decide +kernel
theorem dX7_part_28 : decode cX7_part 28 = .ok (.goto (-22), 3) := by decide +kernel
theorem dX7_part_31 : decode cX7_part 31 = .ok (.iload 4, 2) := by decide +kernel
theorem dX7_part_33 : decode cX7_part 33 = .ok (.ifCond .ne 10, 3) := by decide +kernel
theorem dX7_part_36 : decode cX7_part 36 = .ok (.lload_n 0, 1) := by decide +kernel
theorem dX7_part_37 : decode cX7_part 37 = .ok (.lload 5, 2) := by decide +kernel
theorem dX7_part_39 : decode cX7_part 39 = .ok (.ldiv, 1) := by decide +kernel
theorem dX7_part_40 : decode cX7_part 40 = .ok (.goto 7, 3) := by decide +kernel
theorem dX7_part_43 : decode cX7_part 43 = .ok (.lload_n 2, 1) := by decide +kernel
theorem dX7_part_44 : decode cX7_part 44 = .ok (.lload 5, 2) := by decide +kernel
theorem dX7_part_46 : decode cX7_part 46 = .ok (.ldiv, 1) := by decide +kernel
theorem dX7_part_47 : decode cX7_part 47 = .ok (.lreturn, 1) := by decide +kernel
theorem dX7_mean_0 : decode cX7_mean 0 = .ok (.iload_n 1, 1) := by decide +kernel
theorem dX7_mean_1 : decode cX7_mean 1 = .ok (.iconst 0, 1) := by decide +kernel
theorem dX7_mean_2 : decode cX7_mean 2 = .ok (.iconst 3, 1) := by decide +kernel
theorem dX7_mean_3 : decode cX7_mean 3 = .ok (.invokestatic 67, 3) := by decide +kernel
theorem dX7_mean_6 : decode cX7_mean 6 = .ok (.ifCond .eq 12, 3) := by decide +kernel
theorem dX7_mean_9 : decode cX7_mean 9 = .ok (.iload_n 2, 1) := by decide +kernel
theorem dX7_mean_10 : decode cX7_mean 10 = .ok (.iconst 0, 1) := by decide +kernel
theorem dX7_mean_11 : decode cX7_mean 11 = .ok (.iconst 1, 1) := by decide +kernel
theorem dX7_mean_12 : decode cX7_mean 12 = .ok (.invokestatic 67, 3) := by decide +kernel
theorem dX7_mean_15 : decode cX7_mean 15 = .ok (.ifCond .ne 7, 3) := by decide +kernel
theorem dX7_mean_18 : decode cX7_mean 18 = .ok (.ldc2_w 183, 3) := by decide +kernel
theorem dX7_mean_21 : decode cX7_mean 21 = .ok (.lreturn, 1) := by decide +kernel
theorem dX7_mean_22 : decode cX7_mean 22 = .ok (.aload_n 0, 1) := by decide +kernel
theorem dX7_mean_23 : decode cX7_mean 23 = .ok (.invokevirtual 185, 3) := by decide +kernel
theorem dX7_mean_26 : decode cX7_mean 26 = .ok (.aload_n 0, 1) := by decide +kernel
theorem dX7_mean_27 : decode cX7_mean 27 = .ok (.aload_n 0, 1) := by decide +kernel
theorem dX7_mean_28 : decode cX7_mean 28 = .ok (.getfield 35, 3) := by decide +kernel
theorem dX7_mean_31 : decode cX7_mean 31 = .ok (.bipush 10, 2) := by decide +kernel
theorem dX7_mean_33 : decode cX7_mean 33 = .ok (.iaload, 1) := by decide +kernel
theorem dX7_mean_34 : decode cX7_mean 34 = .ok (.invokevirtual 188, 3) := by decide +kernel
theorem dX7_mean_37 : decode cX7_mean 37 = .ok (.iload_n 1, 1) := by decide +kernel
theorem dX7_mean_38 : decode cX7_mean 38 = .ok (.tableswitch 65 0 2 #[26, 39, 52], 26) := by decide +kernel
theorem dX7_mean_64 : decode cX7_mean 64 = .ok (.aload_n 0, 1) := by decide +kernel
theorem dX7_mean_65 : decode cX7_mean 65 = .ok (.getfield 161, 3) := by decide +kernel
theorem dX7_mean_68 : decode cX7_mean 68 = .ok (.aload_n 0, 1) := by decide +kernel
theorem dX7_mean_69 : decode cX7_mean 69 = .ok (.getfield 155, 3) := by decide +kernel
theorem dX7_mean_72 : decode cX7_mean 72 = .ok (.iload_n 2, 1) := by decide +kernel
theorem dX7_mean_73 : decode cX7_mean 73 = .ok (.invokestatic 191, 3) := by decide +kernel
theorem dX7_mean_76 : decode cX7_mean 76 = .ok (.lreturn, 1) := by decide +kernel
theorem dX7_mean_77 : decode cX7_mean 77 = .ok (.aload_n 0, 1) := by decide +kernel
theorem dX7_mean_78 : decode cX7_mean 78 = .ok (.getfield 164, 3) := by decide +kernel
theorem dX7_mean_81 : decode cX7_mean 81 = .ok (.aload_n 0, 1) := by decide +kernel
theorem dX7_mean_82 : decode cX7_mean 82 = .ok (.getfield 155, 3) := by decide +kernel
theorem dX7_mean_85 : decode cX7_mean 85 = .ok (.iload_n 2, 1) := by decide +kernel
theorem dX7_mean_86 : decode cX7_mean 86 = .ok (.invokestatic 191, 3) := by decide +kernel
theorem dX7_mean_89 : decode cX7_mean 89 = .ok (.lreturn, 1) := by decide +kernel
theorem dX7_mean_90 : decode cX7_mean 90 = .ok (.aload_n 0, 1) := by decide +kernel
theorem dX7_mean_91 : decode cX7_mean 91 = .ok (.getfield 167, 3) := by decide +kernel
theorem dX7_mean_94 : decode cX7_mean 94 = .ok (.aload_n 0, 1) := by decide +kernel
theorem dX7_mean_95 : decode cX7_mean 95 = .ok (.getfield 155, 3) := by decide +kernel
theorem dX7_mean_98 : decode cX7_mean 98 = .ok (.iload_n 2, 1) := by decide +kernel
theorem dX7_mean_99 : decode cX7_mean 99 = .ok (.invokestatic 191, 3) := by decide +kernel
theorem dX7_mean_102 : decode cX7_mean 102 = .ok (.lreturn, 1) := by decide +kernel
theorem dX7_mean_103 : decode cX7_mean 103 = .ok (.aload_n 0, 1) := by decide +kernel
theorem dX7_mean_104 : decode cX7_mean 104 = .ok (.getfield 164, 3) := by decide +kernel
theorem dX7_mean_107 : decode cX7_mean 107 = .ok (.lconst 0, 1) := by decide +kernel
theorem dX7_mean_108 : decode cX7_mean 108 = .ok (.lcmp, 1) := by decide +kernel
theorem dX7_mean_109 : decode cX7_mean 109 = .ok (.ifCond .ne 9, 3) := by decide +kernel
theorem dX7_mean_112 : decode cX7_mean 112 = .ok (.ldc2_w 195, 3) := by decide +kernel
theorem dX7_mean_115 : decode cX7_mean 115 = .ok (.goto 15, 3) := by decide +kernel
theorem dX7_mean_118 : decode cX7_mean 118 = .ok (.aload_n 0, 1) := by decide +kernel
theorem dX7_mean_119 : decode cX7_mean 119 = .ok (.getfield 161, 3) := by decide +kernel
theorem dX7_mean_122 : decode cX7_mean 122 = .ok (.aload_n 0, 1) := by decide +kernel
theorem dX7_mean_123 : decode cX7_mean 123 = .ok (.getfield 164, 3) := by decide +kernel
theorem dX7_mean_126 : decode cX7_mean 126 = .ok (.iload_n 2, 1) := by decide +kernel
theorem dX7_mean_127 : decode cX7_mean 127 = .ok (.invokestatic 191, 3) := by decide +kernel
theorem dX7_mean_130 : decode cX7_mean 130 = .ok (.lreturn, 1) := by decide +kernel
theorem dX7_lost_0 : decode cX7_lost 0 = .ok (.aload_n 0, 1) := by decide +kernel
theorem dX7_lost_1 : decode cX7_lost 1 = .ok (.iload_n 1, 1) := by decide +kernel
theorem dX7_lost_2 : decode cX7_lost 2 = .ok (.invokevirtual 120, 3) := by decide +kernel
theorem dX7_lost_5 : decode cX7_lost 5 = .ok (.ifCond .eq 12, 3) := by decide +kernel
theorem dX7_lost_8 : decode cX7_lost 8 = .ok (.iload_n 2, 1) := by decide +kernel
theorem dX7_lost_9 : decode cX7_lost 9 = .ok (.iconst 0, 1) := by decide +kernel
theorem dX7_lost_10 : decode cX7_lost 10 = .ok (.iconst 1, 1) := by decide +kernel
theorem dX7_lost_11 : decode cX7_lost 11 = .ok (.invokestatic 67, 3) := by decide +kernel
theorem dX7_lost_14 : decode cX7_lost 14 = .ok (.ifCond .ne 7, 3) := by decide +kernel
theorem dX7_lost_17 : decode cX7_lost 17 = .ok (.ldc2_w 183, 3) := by decide +kernel
theorem dX7_lost_20 : decode cX7_lost 20 = .ok (.lreturn, 1) := by decide +kernel
theorem dX7_lost_21 : decode cX7_lost 21 = .ok (.aload_n 0, 1) := by decide +kernel
theorem dX7_lost_22 : decode cX7_lost 22 = .ok (.invokevirtual 185, 3) := by decide +kernel
theorem dX7_lost_25 : decode cX7_lost 25 = .ok (.aload_n 0, 1) := by decide +kernel
theorem dX7_lost_26 : decode cX7_lost 26 = .ok (.aload_n 0, 1) := by decide +kernel
theorem dX7_lost_27 : decode cX7_lost 27 = .ok (.getfield 35, 3) := by decide +kernel
theorem dX7_lost_30 : decode cX7_lost 30 = .ok (.bipush 10, 2) := by decide +kernel
theorem dX7_lost_32 : decode cX7_lost 32 = .ok (.iaload, 1) := by decide +kernel
theorem dX7_lost_33 : decode cX7_lost 33 = .ok (.invokevirtual 188, 3) := by decide +kernel
theorem dX7_lost_36 : decode cX7_lost 36 = .ok (.aload_n 0, 1) := by decide +kernel
theorem dX7_lost_37 : decode cX7_lost 37 = .ok (.getfield 45, 3) := by decide +kernel
theorem dX7_lost_40 : decode cX7_lost 40 = .ok (.iload_n 1, 1) := by decide +kernel
theorem dX7_lost_41 : decode cX7_lost 41 = .ok (.laload, 1) := by decide +kernel
theorem dX7_lost_42 : decode cX7_lost 42 = .ok (.aload_n 0, 1) := by decide +kernel
theorem dX7_lost_43 : decode cX7_lost 43 = .ok (.getfield 155, 3) := by decide +kernel
theorem dX7_lost_46 : decode cX7_lost 46 = .ok (.iload_n 2, 1) := by decide +kernel
theorem dX7_lost_47 : decode cX7_lost 47 = .ok (.invokestatic 191, 3) := by decide +kernel
theorem dX7_lost_50 : decode cX7_lost 50 = .ok (.lreturn, 1) := by decide +kernel
theorem dX7_paper_0 : decode cX7_paper 0 = .ok (.iload_n 1, 1) := by decide +kernel
theorem dX7_paper_1 : decode cX7_paper 1 = .ok (.iconst 1, 1) := by decide +kernel
theorem dX7_paper_2 : decode cX7_paper 2 = .ok (.bipush 99, 2) := by decide +kernel
theorem dX7_paper_4 : decode cX7_paper 4 = .ok (.invokestatic 67, 3) := by decide +kernel
theorem dX7_paper_7 : decode cX7_paper 7 = .ok (.ifCond .eq 12, 3) := by decide +kernel
theorem dX7_paper_10 : decode cX7_paper 10 = .ok (.iload_n 2, 1) := by decide +kernel
theorem dX7_paper_11 : decode cX7_paper 11 = .ok (.iconst 0, 1) := by decide +kernel
theorem dX7_paper_12 : decode cX7_paper 12 = .ok (.iconst 1, 1) := by decide +kernel
theorem dX7_paper_13 : decode cX7_paper 13 = .ok (.invokestatic 67, 3) := by decide +kernel
theorem dX7_paper_16 : decode cX7_paper 16 = .ok (.ifCond .ne 7, 3) := by decide +kernel
theorem dX7_paper_19 : decode cX7_paper 19 = .ok (.ldc2_w 183, 3) := by decide +kernel
theorem dX7_paper_22 : decode cX7_paper 22 = .ok (.lreturn, 1) := by decide +kernel
theorem dX7_paper_23 : decode cX7_paper 23 = .ok (.aload_n 0, 1) := by decide +kernel
theorem dX7_paper_24 : decode cX7_paper 24 = .ok (.invokevirtual 185, 3) := by decide +kernel
theorem dX7_paper_27 : decode cX7_paper 27 = .ok (.aload_n 0, 1) := by decide +kernel
theorem dX7_paper_28 : decode cX7_paper 28 = .ok (.aload_n 0, 1) := by decide +kernel
theorem dX7_paper_29 : decode cX7_paper 29 = .ok (.getfield 35, 3) := by decide +kernel
theorem dX7_paper_32 : decode cX7_paper 32 = .ok (.bipush 10, 2) := by decide +kernel
theorem dX7_paper_34 : decode cX7_paper 34 = .ok (.iaload, 1) := by decide +kernel
theorem dX7_paper_35 : decode cX7_paper 35 = .ok (.invokevirtual 188, 3) := by decide +kernel
theorem dX7_paper_38 : decode cX7_paper 38 = .ok (.aload_n 0, 1) := by decide +kernel
theorem dX7_paper_39 : decode cX7_paper 39 = .ok (.getfield 164, 3) := by decide +kernel
theorem dX7_paper_42 : decode cX7_paper 42 = .ok (.aload_n 0, 1) := by decide +kernel
theorem dX7_paper_43 : decode cX7_paper 43 = .ok (.getfield 167, 3) := by decide +kernel
theorem dX7_paper_46 : decode cX7_paper 46 = .ok (.ladd, 1) := by decide +kernel
theorem dX7_paper_47 : decode cX7_paper 47 = .ok (.lconst 0, 1) := by decide +kernel
theorem dX7_paper_48 : decode cX7_paper 48 = .ok (.lcmp, 1) := by decide +kernel
theorem dX7_paper_49 : decode cX7_paper 49 = .ok (.ifCond .ne 9, 3) := by decide +kernel
theorem dX7_paper_52 : decode cX7_paper 52 = .ok (.ldc2_w 195, 3) := by decide +kernel
theorem dX7_paper_55 : decode cX7_paper 55 = .ok (.goto 23, 3) := by decide +kernel
theorem dX7_paper_58 : decode cX7_paper 58 = .ok (.iload_n 1, 1) := by decide +kernel
theorem dX7_paper_59 : decode cX7_paper 59 = .ok (.i2l, 1) := by decide +kernel
theorem dX7_paper_60 : decode cX7_paper 60 = .ok (.aload_n 0, 1) := by decide +kernel
theorem dX7_paper_61 : decode cX7_paper 61 = .ok (.getfield 167, 3) := by decide +kernel
theorem dX7_paper_64 : decode cX7_paper 64 = .ok (.lmul, 1) := by decide +kernel
theorem dX7_paper_65 : decode cX7_paper 65 = .ok (.aload_n 0, 1) := by decide +kernel
theorem dX7_paper_66 : decode cX7_paper 66 = .ok (.getfield 164, 3) := by decide +kernel
theorem dX7_paper_69 : decode cX7_paper 69 = .ok (.aload_n 0, 1) := by decide +kernel
theorem dX7_paper_70 : decode cX7_paper 70 = .ok (.getfield 167, 3) := by decide +kernel
theorem dX7_paper_73 : decode cX7_paper 73 = .ok (.ladd, 1) := by decide +kernel
theorem dX7_paper_74 : decode cX7_paper 74 = .ok (.iload_n 2, 1) := by decide +kernel
theorem dX7_paper_75 : decode cX7_paper 75 = .ok (.invokestatic 191, 3) := by decide +kernel
theorem dX7_paper_78 : decode cX7_paper 78 = .ok (.lreturn, 1) := by decide +kernel
theorem dX7_bestLooks_0 : decode cX7_bestLooks 0 = .ok (.aload_n 0, 1) := by decide +kernel
theorem dX7_bestLooks_1 : decode cX7_bestLooks 1 = .ok (.invokevirtual 185, 3) := by decide +kernel
theorem dX7_bestLooks_4 : decode cX7_bestLooks 4 = .ok (.iconst 0, 1) := by decide +kernel
theorem dX7_bestLooks_5 : decode cX7_bestLooks 5 = .ok (.istore_n 1, 1) := by decide +kernel
theorem dX7_bestLooks_6 : decode cX7_bestLooks 6 = .ok (.ldc2_w 183, 3) := by decide +kernel
theorem dX7_bestLooks_9 : decode cX7_bestLooks 9 = .ok (.lstore_n 2, 1) := by decide +kernel
theorem dX7_bestLooks_10 : decode cX7_bestLooks 10 = .ok (.iconst 0, 1) := by decide +kernel
theorem dX7_bestLooks_11 : decode cX7_bestLooks 11 = .ok (.istore 4, 2) := by decide +kernel
theorem dX7_bestLooks_13 : decode cX7_bestLooks 13 = .ok (.iload 4, 2) := by decide +kernel
theorem dX7_bestLooks_15 : decode cX7_bestLooks 15 = .ok (.iconst 1, 1) := by decide +kernel
theorem dX7_bestLooks_16 : decode cX7_bestLooks 16 = .ok (.aload_n 0, 1) := by decide +kernel
theorem dX7_bestLooks_17 : decode cX7_bestLooks 17 = .ok (.getfield 13, 3) := by decide +kernel
theorem dX7_bestLooks_20 : decode cX7_bestLooks 20 = .ok (.iconst 0, 1) := by decide +kernel
theorem dX7_bestLooks_21 : decode cX7_bestLooks 21 = .ok (.iaload, 1) := by decide +kernel
theorem dX7_bestLooks_22 : decode cX7_bestLooks 22 = .ok (.ishl, 1) := by decide +kernel
theorem dX7_bestLooks_23 : decode cX7_bestLooks 23 = .ok (.if_icmp .ge 38, 3) := by decide +kernel
theorem dX7_bestLooks_26 : decode cX7_bestLooks 26 = .ok (.aload_n 0, 1) := by decide +kernel
theorem dX7_bestLooks_27 : decode cX7_bestLooks 27 = .ok (.iload 4, 2) := by decide +kernel
theorem dX7_bestLooks_29 : decode cX7_bestLooks 29 = .ok (.invokevirtual 188, 3) := by decide +kernel
theorem dX7_bestLooks_32 : decode cX7_bestLooks 32 = .ok (.lload_n 2, 1) := by decide +kernel
theorem dX7_bestLooks_33 : decode cX7_bestLooks 33 = .ok (.lconst 0, 1) := by decide +kernel
theorem dX7_bestLooks_34 : decode cX7_bestLooks 34 = .ok (.lcmp, 1) := by decide +kernel
theorem dX7_bestLooks_35 : decode cX7_bestLooks 35 = .ok (.ifCond .lt 12, 3) := by decide +kernel
theorem dX7_bestLooks_38 : decode cX7_bestLooks 38 = .ok (.aload_n 0, 1) := by decide +kernel
theorem dX7_bestLooks_39 : decode cX7_bestLooks 39 = .ok (.getfield 161, 3) := by decide +kernel
theorem dX7_bestLooks_42 : decode cX7_bestLooks 42 = .ok (.lload_n 2, 1) := by decide +kernel
theorem dX7_bestLooks_43 : decode cX7_bestLooks 43 = .ok (.lcmp, 1) := by decide +kernel
theorem dX7_bestLooks_44 : decode cX7_bestLooks 44 = .ok (.ifCond .ge 11, 3) := by decide +kernel
theorem dX7_bestLooks_47 : decode cX7_bestLooks 47 = .ok (.iload 4, 2) := by decide +kernel
theorem dX7_bestLooks_49 : decode cX7_bestLooks 49 = .ok (.istore_n 1, 1) := by decide +kernel
theorem dX7_bestLooks_50 : decode cX7_bestLooks 50 = .ok (.aload_n 0, 1) := by decide +kernel
theorem dX7_bestLooks_51 : decode cX7_bestLooks 51 = .ok (.getfield 161, 3) := by decide +kernel
theorem dX7_bestLooks_54 : decode cX7_bestLooks 54 = .ok (.lstore_n 2, 1) := by decide +kernel
theorem dX7_bestLooks_55 : decode cX7_bestLooks 55 = .ok (.iinc 4 1, 3) := by decide +kernel
theorem dX7_bestLooks_58 : decode cX7_bestLooks 58 = .ok (.goto (-45), 3) := by decide +kernel
theorem dX7_bestLooks_61 : decode cX7_bestLooks 61 = .ok (.iload_n 1, 1) := by decide +kernel
theorem dX7_bestLooks_62 : decode cX7_bestLooks 62 = .ok (.ireturn, 1) := by decide +kernel
theorem dX7_nextRow_0 : decode cX7_nextRow 0 = .ok (.aload_n 0, 1) := by decide +kernel
theorem dX7_nextRow_1 : decode cX7_nextRow 1 = .ok (.getfield 13, 3) := by decide +kernel
theorem dX7_nextRow_4 : decode cX7_nextRow 4 = .ok (.iconst 0, 1) := by decide +kernel
theorem dX7_nextRow_5 : decode cX7_nextRow 5 = .ok (.iaload, 1) := by decide +kernel
theorem dX7_nextRow_6 : decode cX7_nextRow 6 = .ok (.iconst 2, 1) := by decide +kernel
theorem dX7_nextRow_7 : decode cX7_nextRow 7 = .ok (.isub, 1) := by decide +kernel
theorem dX7_nextRow_8 : decode cX7_nextRow 8 = .ok (.istore_n 1, 1) := by decide +kernel
theorem dX7_nextRow_9 : decode cX7_nextRow 9 = .ok (.iload_n 1, 1) := by decide +kernel
theorem dX7_nextRow_10 : decode cX7_nextRow 10 = .ok (.ifCond .lt 26, 3) := by decide +kernel
theorem dX7_nextRow_13 : decode cX7_nextRow 13 = .ok (.aload_n 0, 1) := by decide +kernel
theorem dX7_nextRow_14 : decode cX7_nextRow 14 = .ok (.getfield 42, 3) := by decide +kernel
theorem dX7_nextRow_17 : decode cX7_nextRow 17 = .ok (.iload_n 1, 1) := by decide +kernel
theorem dX7_nextRow_18 : decode cX7_nextRow 18 = .ok (.iaload, 1) := by decide +kernel
theorem dX7_nextRow_19 : decode cX7_nextRow 19 = .ok (.aload_n 0, 1) := by decide +kernel
theorem dX7_nextRow_20 : decode cX7_nextRow 20 = .ok (.getfield 42, 3) := by decide +kernel
theorem dX7_nextRow_23 : decode cX7_nextRow 23 = .ok (.iload_n 1, 1) := by decide +kernel
theorem dX7_nextRow_24 : decode cX7_nextRow 24 = .ok (.iconst 1, 1) := by decide +kernel
theorem dX7_nextRow_25 : decode cX7_nextRow 25 = .ok (.iadd, 1) := by decide +kernel
theorem dX7_nextRow_26 : decode cX7_nextRow 26 = .ok (.iaload, 1) := by decide +kernel
theorem dX7_nextRow_27 : decode cX7_nextRow 27 = .ok (.if_icmp .le 9, 3) := by decide +kernel
theorem dX7_nextRow_30 : decode cX7_nextRow 30 = .ok (.iinc 1 (-1), 3) := by decide +kernel
theorem dX7_nextRow_33 : decode cX7_nextRow 33 = .ok (.goto (-24), 3) := by decide +kernel
theorem dX7_nextRow_36 : decode cX7_nextRow 36 = .ok (.iload_n 1, 1) := by decide +kernel
theorem dX7_nextRow_37 : decode cX7_nextRow 37 = .ok (.ifCond .ge 5, 3) := by decide +kernel
theorem dX7_nextRow_40 : decode cX7_nextRow 40 = .ok (.iconst 0, 1) := by decide +kernel
theorem dX7_nextRow_41 : decode cX7_nextRow 41 = .ok (.ireturn, 1) := by decide +kernel
theorem dX7_nextRow_42 : decode cX7_nextRow 42 = .ok (.aload_n 0, 1) := by decide +kernel
theorem dX7_nextRow_43 : decode cX7_nextRow 43 = .ok (.getfield 13, 3) := by decide +kernel
theorem dX7_nextRow_46 : decode cX7_nextRow 46 = .ok (.iconst 0, 1) := by decide +kernel
theorem dX7_nextRow_47 : decode cX7_nextRow 47 = .ok (.iaload, 1) := by decide +kernel
theorem dX7_nextRow_48 : decode cX7_nextRow 48 = .ok (.iconst 1, 1) := by decide +kernel
theorem dX7_nextRow_49 : decode cX7_nextRow 49 = .ok (.isub, 1) := by decide +kernel
theorem dX7_nextRow_50 : decode cX7_nextRow 50 = .ok (.istore_n 2, 1) := by decide +kernel
theorem dX7_nextRow_51 : decode cX7_nextRow 51 = .ok (.aload_n 0, 1) := by decide +kernel
theorem dX7_nextRow_52 : decode cX7_nextRow 52 = .ok (.getfield 42, 3) := by decide +kernel
theorem dX7_nextRow_55 : decode cX7_nextRow 55 = .ok (.iload_n 2, 1) := by decide +kernel
theorem dX7_nextRow_56 : decode cX7_nextRow 56 = .ok (.iaload, 1) := by decide +kernel
theorem dX7_nextRow_57 : decode cX7_nextRow 57 = .ok (.aload_n 0, 1) := by decide +kernel
theorem dX7_nextRow_58 : decode cX7_nextRow 58 = .ok (.getfield 42, 3) := by decide +kernel
theorem dX7_nextRow_61 : decode cX7_nextRow 61 = .ok (.iload_n 1, 1) := by decide +kernel
theorem dX7_nextRow_62 : decode cX7_nextRow 62 = .ok (.iaload, 1) := by decide +kernel
theorem dX7_nextRow_63 : decode cX7_nextRow 63 = .ok (.if_icmp .ge 9, 3) := by decide +kernel
theorem dX7_nextRow_66 : decode cX7_nextRow 66 = .ok (.iinc 2 (-1), 3) := by decide +kernel
theorem dX7_nextRow_69 : decode cX7_nextRow 69 = .ok (.goto (-18), 3) := by decide +kernel
theorem dX7_nextRow_72 : decode cX7_nextRow 72 = .ok (.aload_n 0, 1) := by decide +kernel
theorem dX7_nextRow_73 : decode cX7_nextRow 73 = .ok (.getfield 42, 3) := by decide +kernel
theorem dX7_nextRow_76 : decode cX7_nextRow 76 = .ok (.iload_n 1, 1) := by decide +kernel
theorem dX7_nextRow_77 : decode cX7_nextRow 77 = .ok (.iaload, 1) := by decide +kernel
theorem dX7_nextRow_78 : decode cX7_nextRow 78 = .ok (.istore_n 3, 1) := by decide +kernel
theorem dX7_nextRow_79 : decode cX7_nextRow 79 = .ok (.aload_n 0, 1) := by decide +kernel
theorem dX7_nextRow_80 : decode cX7_nextRow 80 = .ok (.getfield 42, 3) := by decide +kernel
theorem dX7_nextRow_83 : decode cX7_nextRow 83 = .ok (.iload_n 1, 1) := by decide +kernel
theorem dX7_nextRow_84 : decode cX7_nextRow 84 = .ok (.aload_n 0, 1) := by decide +kernel
theorem dX7_nextRow_85 : decode cX7_nextRow 85 = .ok (.getfield 42, 3) := by decide +kernel
theorem dX7_nextRow_88 : decode cX7_nextRow 88 = .ok (.iload_n 2, 1) := by decide +kernel
theorem dX7_nextRow_89 : decode cX7_nextRow 89 = .ok (.iaload, 1) := by decide +kernel
theorem dX7_nextRow_90 : decode cX7_nextRow 90 = .ok (.iastore, 1) := by decide +kernel
theorem dX7_nextRow_91 : decode cX7_nextRow 91 = .ok (.aload_n 0, 1) := by decide +kernel
theorem dX7_nextRow_92 : decode cX7_nextRow 92 = .ok (.getfield 42, 3) := by decide +kernel
theorem dX7_nextRow_95 : decode cX7_nextRow 95 = .ok (.iload_n 2, 1) := by decide +kernel
theorem dX7_nextRow_96 : decode cX7_nextRow 96 = .ok (.iload_n 3, 1) := by decide +kernel
theorem dX7_nextRow_97 : decode cX7_nextRow 97 = .ok (.iastore, 1) := by decide +kernel
theorem dX7_nextRow_98 : decode cX7_nextRow 98 = .ok (.iload_n 1, 1) := by decide +kernel
theorem dX7_nextRow_99 : decode cX7_nextRow 99 = .ok (.iconst 1, 1) := by decide +kernel
theorem dX7_nextRow_100 : decode cX7_nextRow 100 = .ok (.iadd, 1) := by decide +kernel
theorem dX7_nextRow_101 : decode cX7_nextRow 101 = .ok (.istore 4, 2) := by decide +kernel
theorem dX7_nextRow_103 : decode cX7_nextRow 103 = .ok (.aload_n 0, 1) := by decide +kernel
theorem dX7_nextRow_104 : decode cX7_nextRow 104 = .ok (.getfield 13, 3) := by decide +kernel
theorem dX7_nextRow_107 : decode cX7_nextRow 107 = .ok (.iconst 0, 1) := by decide +kernel
theorem dX7_nextRow_108 : decode cX7_nextRow 108 = .ok (.iaload, 1) := by decide +kernel
theorem dX7_nextRow_109 : decode cX7_nextRow 109 = .ok (.iconst 1, 1) := by decide +kernel
theorem dX7_nextRow_110 : decode cX7_nextRow 110 = .ok (.isub, 1) := by decide +kernel
theorem dX7_nextRow_111 : decode cX7_nextRow 111 = .ok (.istore 5, 2) := by decide +kernel
theorem dX7_nextRow_113 : decode cX7_nextRow 113 = .ok (.iload 4, 2) := by decide +kernel
theorem dX7_nextRow_115 : decode cX7_nextRow 115 = .ok (.iload 5, 2) := by decide +kernel
theorem dX7_nextRow_117 : decode cX7_nextRow 117 = .ok (.if_icmp .ge 42, 3) := by decide +kernel
theorem dX7_nextRow_120 : decode cX7_nextRow 120 = .ok (.aload_n 0, 1) := by decide +kernel
theorem dX7_nextRow_121 : decode cX7_nextRow 121 = .ok (.getfield 42, 3) := by decide +kernel
theorem dX7_nextRow_124 : decode cX7_nextRow 124 = .ok (.iload 4, 2) := by decide +kernel
theorem dX7_nextRow_126 : decode cX7_nextRow 126 = .ok (.iaload, 1) := by decide +kernel
theorem dX7_nextRow_127 : decode cX7_nextRow 127 = .ok (.istore_n 3, 1) := by decide +kernel
theorem dX7_nextRow_128 : decode cX7_nextRow 128 = .ok (.aload_n 0, 1) := by decide +kernel
theorem dX7_nextRow_129 : decode cX7_nextRow 129 = .ok (.getfield 42, 3) := by decide +kernel
theorem dX7_nextRow_132 : decode cX7_nextRow 132 = .ok (.iload 4, 2) := by decide +kernel
theorem dX7_nextRow_134 : decode cX7_nextRow 134 = .ok (.aload_n 0, 1) := by decide +kernel
theorem dX7_nextRow_135 : decode cX7_nextRow 135 = .ok (.getfield 42, 3) := by decide +kernel
theorem dX7_nextRow_138 : decode cX7_nextRow 138 = .ok (.iload 5, 2) := by decide +kernel
theorem dX7_nextRow_140 : decode cX7_nextRow 140 = .ok (.iaload, 1) := by decide +kernel
theorem dX7_nextRow_141 : decode cX7_nextRow 141 = .ok (.iastore, 1) := by decide +kernel
theorem dX7_nextRow_142 : decode cX7_nextRow 142 = .ok (.aload_n 0, 1) := by decide +kernel
theorem dX7_nextRow_143 : decode cX7_nextRow 143 = .ok (.getfield 42, 3) := by decide +kernel
theorem dX7_nextRow_146 : decode cX7_nextRow 146 = .ok (.iload 5, 2) := by decide +kernel
theorem dX7_nextRow_148 : decode cX7_nextRow 148 = .ok (.iload_n 3, 1) := by decide +kernel
theorem dX7_nextRow_149 : decode cX7_nextRow 149 = .ok (.iastore, 1) := by decide +kernel
theorem dX7_nextRow_150 : decode cX7_nextRow 150 = .ok (.iinc 4 1, 3) := by decide +kernel
theorem dX7_nextRow_153 : decode cX7_nextRow 153 = .ok (.iinc 5 (-1), 3) := by decide +kernel
theorem dX7_nextRow_156 : decode cX7_nextRow 156 = .ok (.goto (-43), 3) := by decide +kernel
theorem dX7_nextRow_159 : decode cX7_nextRow 159 = .ok (.iconst 1, 1) := by decide +kernel
theorem dX7_nextRow_160 : decode cX7_nextRow 160 = .ok (.ireturn, 1) := by decide +kernel
theorem dX7_isLawful_0 : decode cX7_isLawful 0 = .ok (.iconst 1, 1) := by decide +kernel
theorem dX7_isLawful_1 : decode cX7_isLawful 1 = .ok (.istore_n 1, 1) := by decide +kernel
theorem dX7_isLawful_2 : decode cX7_isLawful 2 = .ok (.iconst 0, 1) := by decide +kernel
theorem dX7_isLawful_3 : decode cX7_isLawful 3 = .ok (.istore_n 2, 1) := by decide +kernel
theorem dX7_isLawful_4 : decode cX7_isLawful 4 = .ok (.iload_n 2, 1) := by decide +kernel
theorem dX7_isLawful_5 : decode cX7_isLawful 5 = .ok (.aload_n 0, 1) := by decide +kernel
theorem dX7_isLawful_6 : decode cX7_isLawful 6 = .ok (.getfield 13, 3) := by decide +kernel
theorem dX7_isLawful_9 : decode cX7_isLawful 9 = .ok (.iconst 0, 1) := by decide +kernel
theorem dX7_isLawful_10 : decode cX7_isLawful 10 = .ok (.iaload, 1) := by decide +kernel
theorem dX7_isLawful_11 : decode cX7_isLawful 11 = .ok (.if_icmp .ge 55, 3) := by decide +kernel
theorem dX7_isLawful_14 : decode cX7_isLawful 14 = .ok (.iconst 0, 1) := by decide +kernel
theorem dX7_isLawful_15 : decode cX7_isLawful 15 = .ok (.istore_n 3, 1) := by decide +kernel
theorem dX7_isLawful_16 : decode cX7_isLawful 16 = .ok (.iload_n 3, 1) := by decide +kernel
theorem dX7_isLawful_17 : decode cX7_isLawful 17 = .ok (.iload_n 2, 1) := by decide +kernel
theorem dX7_isLawful_18 : decode cX7_isLawful 18 = .ok (.if_icmp .ge 42, 3) := by decide +kernel
theorem dX7_isLawful_21 : decode cX7_isLawful 21 = .ok (.iload_n 1, 1) := by decide +kernel
theorem dX7_isLawful_22 : decode cX7_isLawful 22 = .ok (.ifCond .eq 30, 3) := by decide +kernel
theorem dX7_isLawful_25 : decode cX7_isLawful 25 = .ok (.aload_n 0, 1) := by decide +kernel
theorem dX7_isLawful_26 : decode cX7_isLawful 26 = .ok (.getfield 29, 3) := by decide +kernel
theorem dX7_isLawful_29 : decode cX7_isLawful 29 = .ok (.aload_n 0, 1) := by decide +kernel
theorem dX7_isLawful_30 : decode cX7_isLawful 30 = .ok (.getfield 42, 3) := by decide +kernel
theorem dX7_isLawful_33 : decode cX7_isLawful 33 = .ok (.iload_n 2, 1) := by decide +kernel
theorem dX7_isLawful_34 : decode cX7_isLawful 34 = .ok (.iaload, 1) := by decide +kernel
theorem dX7_isLawful_35 : decode cX7_isLawful 35 = .ok (.iaload, 1) := by decide +kernel
theorem dX7_isLawful_36 : decode cX7_isLawful 36 = .ok (.aload_n 0, 1) := by decide +kernel
theorem dX7_isLawful_37 : decode cX7_isLawful 37 = .ok (.getfield 42, 3) := by decide +kernel
theorem dX7_isLawful_40 : decode cX7_isLawful 40 = .ok (.iload_n 3, 1) := by decide +kernel
theorem dX7_isLawful_41 : decode cX7_isLawful 41 = .ok (.iaload, 1) := by decide +kernel
theorem dX7_isLawful_42 : decode cX7_isLawful 42 = .ok (.ishr, 1) := by decide +kernel
theorem dX7_isLawful_43 : decode cX7_isLawful 43 = .ok (.iconst 1, 1) := by decide +kernel
theorem dX7_isLawful_44 : decode cX7_isLawful 44 = .ok (.iand, 1) := by decide +kernel
theorem dX7_isLawful_45 : decode cX7_isLawful 45 = .ok (.ifCond .ne 7, 3) := by decide +kernel
theorem dX7_isLawful_48 : decode cX7_isLawful 48 = .ok (.iconst 1, 1) := by decide +kernel
theorem dX7_isLawful_49 : decode cX7_isLawful 49 = .ok (.goto 4, 3) := by decide +kernel
theorem dX7_isLawful_52 : decode cX7_isLawful 52 = .ok (.iconst 0, 1) := by decide +kernel
theorem dX7_isLawful_53 : decode cX7_isLawful 53 = .ok (.istore_n 1, 1) := by decide +kernel
theorem dX7_isLawful_54 : decode cX7_isLawful 54 = .ok (.iinc 3 1, 3) := by decide +kernel
theorem dX7_isLawful_57 : decode cX7_isLawful 57 = .ok (.goto (-41), 3) := by decide +kernel
theorem dX7_isLawful_60 : decode cX7_isLawful 60 = .ok (.iinc 2 1, 3) := by decide +kernel
theorem dX7_isLawful_63 : decode cX7_isLawful 63 = .ok (.goto (-59), 3) := by decide +kernel
theorem dX7_isLawful_66 : decode cX7_isLawful 66 = .ok (.iload_n 1, 1) := by decide +kernel
theorem dX7_isLawful_67 : decode cX7_isLawful 67 = .ok (.ireturn, 1) := by decide +kernel
theorem dX7_bestOrder_0 : decode cX7_bestOrder 0 = .ok (.aload_n 0, 1) := by decide +kernel
theorem dX7_bestOrder_1 : decode cX7_bestOrder 1 = .ok (.iload_n 1, 1) := by decide +kernel
theorem dX7_bestOrder_2 : decode cX7_bestOrder 2 = .ok (.invokevirtual 120, 3) := by decide +kernel
theorem dX7_bestOrder_5 : decode cX7_bestOrder 5 = .ok (.ifCond .ne 5, 3) := by decide +kernel
theorem dX7_bestOrder_8 : decode cX7_bestOrder 8 = .ok (.iconst (-1), 1) := by decide +kernel
theorem dX7_bestOrder_9 : decode cX7_bestOrder 9 = .ok (.ireturn, 1) := by decide +kernel
theorem dX7_bestOrder_10 : decode cX7_bestOrder 10 = .ok (.iconst 0, 1) := by decide +kernel
theorem dX7_bestOrder_11 : decode cX7_bestOrder 11 = .ok (.istore_n 2, 1) := by decide +kernel
theorem dX7_bestOrder_12 : decode cX7_bestOrder 12 = .ok (.iload_n 2, 1) := by decide +kernel
theorem dX7_bestOrder_13 : decode cX7_bestOrder 13 = .ok (.iconst 5, 1) := by decide +kernel
theorem dX7_bestOrder_14 : decode cX7_bestOrder 14 = .ok (.if_icmp .ge 16, 3) := by decide +kernel
theorem dX7_bestOrder_17 : decode cX7_bestOrder 17 = .ok (.aload_n 0, 1) := by decide +kernel
theorem dX7_bestOrder_18 : decode cX7_bestOrder 18 = .ok (.getfield 42, 3) := by decide +kernel
theorem dX7_bestOrder_21 : decode cX7_bestOrder 21 = .ok (.iload_n 2, 1) := by decide +kernel
theorem dX7_bestOrder_22 : decode cX7_bestOrder 22 = .ok (.iload_n 2, 1) := by decide +kernel
theorem dX7_bestOrder_23 : decode cX7_bestOrder 23 = .ok (.iastore, 1) := by decide +kernel
theorem dX7_bestOrder_24 : decode cX7_bestOrder 24 = .ok (.iinc 2 1, 3) := by decide +kernel
theorem dX7_bestOrder_27 : decode cX7_bestOrder 27 = .ok (.goto (-15), 3) := by decide +kernel
theorem dX7_bestOrder_30 : decode cX7_bestOrder 30 = .ok (.ldc2_w 183, 3) := by decide +kernel
theorem dX7_bestOrder_33 : decode cX7_bestOrder 33 = .ok (.lstore_n 2, 1) := by decide +kernel
theorem dX7_bestOrder_34 : decode cX7_bestOrder 34 = .ok (.iconst 1, 1) := by decide +kernel
theorem dX7_bestOrder_35 : decode cX7_bestOrder 35 = .ok (.istore 4, 2) := by decide +kernel
theorem dX7_bestOrder_37 : decode cX7_bestOrder 37 = .ok (.iload 4, 2) := by decide +kernel
theorem dX7_bestOrder_39 : decode cX7_bestOrder 39 = .ok (.ifCond .eq 79, 3) := by decide +kernel
theorem dX7_bestOrder_42 : decode cX7_bestOrder 42 = .ok (.aload_n 0, 1) := by decide +kernel
theorem dX7_bestOrder_43 : decode cX7_bestOrder 43 = .ok (.invokevirtual 197, 3) := by decide +kernel
theorem dX7_bestOrder_46 : decode cX7_bestOrder 46 = .ok (.ifCond .eq 63, 3) := by decide +kernel
theorem dX7_bestOrder_49 : decode cX7_bestOrder 49 = .ok (.aload_n 0, 1) := by decide +kernel
theorem dX7_bestOrder_50 : decode cX7_bestOrder 50 = .ok (.aload_n 0, 1) := by decide +kernel
theorem dX7_bestOrder_51 : decode cX7_bestOrder 51 = .ok (.getfield 35, 3) := by decide +kernel
theorem dX7_bestOrder_54 : decode cX7_bestOrder 54 = .ok (.bipush 10, 2) := by decide +kernel
theorem dX7_bestOrder_56 : decode cX7_bestOrder 56 = .ok (.iaload, 1) := by decide +kernel
theorem dX7_bestOrder_57 : decode cX7_bestOrder 57 = .ok (.invokevirtual 188, 3) := by decide +kernel
theorem dX7_bestOrder_60 : decode cX7_bestOrder 60 = .ok (.lload_n 2, 1) := by decide +kernel
theorem dX7_bestOrder_61 : decode cX7_bestOrder 61 = .ok (.lconst 0, 1) := by decide +kernel
theorem dX7_bestOrder_62 : decode cX7_bestOrder 62 = .ok (.lcmp, 1) := by decide +kernel
theorem dX7_bestOrder_63 : decode cX7_bestOrder 63 = .ok (.ifCond .lt 12, 3) := by decide +kernel
theorem dX7_bestOrder_66 : decode cX7_bestOrder 66 = .ok (.aload_n 0, 1) := by decide +kernel
theorem dX7_bestOrder_67 : decode cX7_bestOrder 67 = .ok (.getfield 161, 3) := by decide +kernel
theorem dX7_bestOrder_70 : decode cX7_bestOrder 70 = .ok (.lload_n 2, 1) := by decide +kernel
theorem dX7_bestOrder_71 : decode cX7_bestOrder 71 = .ok (.lcmp, 1) := by decide +kernel
theorem dX7_bestOrder_72 : decode cX7_bestOrder 72 = .ok (.ifCond .ge 37, 3) := by decide +kernel
theorem dX7_bestOrder_75 : decode cX7_bestOrder 75 = .ok (.aload_n 0, 1) := by decide +kernel
theorem dX7_bestOrder_76 : decode cX7_bestOrder 76 = .ok (.getfield 161, 3) := by decide +kernel
theorem dX7_bestOrder_79 : decode cX7_bestOrder 79 = .ok (.lstore_n 2, 1) := by decide +kernel
theorem dX7_bestOrder_80 : decode cX7_bestOrder 80 = .ok (.iconst 0, 1) := by decide +kernel
theorem dX7_bestOrder_81 : decode cX7_bestOrder 81 = .ok (.istore 5, 2) := by decide +kernel
theorem dX7_bestOrder_83 : decode cX7_bestOrder 83 = .ok (.iload 5, 2) := by decide +kernel
theorem dX7_bestOrder_85 : decode cX7_bestOrder 85 = .ok (.iconst 5, 1) := by decide +kernel
theorem dX7_bestOrder_86 : decode cX7_bestOrder 86 = .ok (.if_icmp .ge 23, 3) := by decide +kernel
theorem dX7_bestOrder_89 : decode cX7_bestOrder 89 = .ok (.aload_n 0, 1) := by decide +kernel
theorem dX7_bestOrder_90 : decode cX7_bestOrder 90 = .ok (.getfield 52, 3) := by decide +kernel
theorem dX7_bestOrder_93 : decode cX7_bestOrder 93 = .ok (.iload 5, 2) := by decide +kernel
theorem dX7_bestOrder_95 : decode cX7_bestOrder 95 = .ok (.aload_n 0, 1) := by decide +kernel
theorem dX7_bestOrder_96 : decode cX7_bestOrder 96 = .ok (.getfield 42, 3) := by decide +kernel
theorem dX7_bestOrder_99 : decode cX7_bestOrder 99 = .ok (.iload 5, 2) := by decide +kernel
theorem dX7_bestOrder_101 : decode cX7_bestOrder 101 = .ok (.iaload, 1) := by decide +kernel
theorem dX7_bestOrder_102 : decode cX7_bestOrder 102 = .ok (.iastore, 1) := by decide +kernel
theorem dX7_bestOrder_103 : decode cX7_bestOrder 103 = .ok (.iinc 5 1, 3) := by decide +kernel
theorem dX7_bestOrder_106 : decode cX7_bestOrder 106 = .ok (.goto (-23), 3) := by decide +kernel
theorem dX7_bestOrder_109 : decode cX7_bestOrder 109 = .ok (.aload_n 0, 1) := by decide +kernel
theorem dX7_bestOrder_110 : decode cX7_bestOrder 110 = .ok (.invokevirtual 201, 3) := by decide +kernel
theorem dX7_bestOrder_113 : decode cX7_bestOrder 113 = .ok (.istore 4, 2) := by decide +kernel
theorem dX7_bestOrder_115 : decode cX7_bestOrder 115 = .ok (.goto (-78), 3) := by decide +kernel
theorem dX7_bestOrder_118 : decode cX7_bestOrder 118 = .ok (.aload_n 0, 1) := by decide +kernel
theorem dX7_bestOrder_119 : decode cX7_bestOrder 119 = .ok (.getfield 52, 3) := by decide +kernel
theorem dX7_bestOrder_122 : decode cX7_bestOrder 122 = .ok (.iload_n 1, 1) := by decide +kernel
theorem dX7_bestOrder_123 : decode cX7_bestOrder 123 = .ok (.iaload, 1) := by decide +kernel
theorem dX7_bestOrder_124 : decode cX7_bestOrder 124 = .ok (.ireturn, 1) := by decide +kernel
theorem dX7_few_0 : decode cX7_few 0 = .ok (.iload_n 1, 1) := by decide +kernel
theorem dX7_few_1 : decode cX7_few 1 = .ok (.iconst 0, 1) := by decide +kernel
theorem dX7_few_2 : decode cX7_few 2 = .ok (.sipush 250, 3) := by decide +kernel
theorem dX7_few_5 : decode cX7_few 5 = .ok (.invokestatic 67, 3) := by decide +kernel
theorem dX7_few_8 : decode cX7_few 8 = .ok (.ifCond .ne 5, 3) := by decide +kernel
theorem dX7_few_11 : decode cX7_few 11 = .ok (.iconst (-1), 1) := by decide +kernel
theorem dX7_few_12 : decode cX7_few 12 = .ok (.ireturn, 1) := by decide +kernel
theorem dX7_few_13 : decode cX7_few 13 = .ok (.aload_n 0, 1) := by decide +kernel
theorem dX7_few_14 : decode cX7_few 14 = .ok (.invokevirtual 185, 3) := by decide +kernel
theorem dX7_few_17 : decode cX7_few 17 = .ok (.bipush (-9), 2) := by decide +kernel
theorem dX7_few_19 : decode cX7_few 19 = .ok (.istore_n 2, 1) := by decide +kernel
theorem dX7_few_20 : decode cX7_few 20 = .ok (.iconst 0, 1) := by decide +kernel
theorem dX7_few_21 : decode cX7_few 21 = .ok (.istore_n 3, 1) := by decide +kernel
theorem dX7_few_22 : decode cX7_few 22 = .ok (.iload_n 3, 1) := by decide +kernel
theorem dX7_few_23 : decode cX7_few 23 = .ok (.iconst 1, 1) := by decide +kernel
theorem dX7_few_24 : decode cX7_few 24 = .ok (.aload_n 0, 1) := by decide +kernel
theorem dX7_few_25 : decode cX7_few 25 = .ok (.getfield 13, 3) := by decide +kernel
theorem dX7_few_28 : decode cX7_few 28 = .ok (.iconst 0, 1) := by decide +kernel
theorem dX7_few_29 : decode cX7_few 29 = .ok (.iaload, 1) := by decide +kernel
theorem dX7_few_30 : decode cX7_few 30 = .ok (.ishl, 1) := by decide +kernel
theorem dX7_few_31 : decode cX7_few 31 = .ok (.if_icmp .ge 75, 3) := by decide +kernel
theorem dX7_few_34 : decode cX7_few 34 = .ok (.iload_n 2, 1) := by decide +kernel
theorem dX7_few_35 : decode cX7_few 35 = .ok (.bipush (-9), 2) := by decide +kernel
theorem dX7_few_37 : decode cX7_few 37 = .ok (.if_icmp .eq 14, 3) := by decide +kernel
theorem dX7_few_40 : decode cX7_few 40 = .ok (.iload_n 3, 1) := by decide +kernel
theorem dX7_few_41 : decode cX7_few 41 = .ok (.invokestatic 152, 3) := by decide +kernel
theorem dX7_few_44 : decode cX7_few 44 = .ok (.iload_n 2, 1) := by decide +kernel
theorem dX7_few_45 : decode cX7_few 45 = .ok (.invokestatic 152, 3) := by decide +kernel
theorem dX7_few_48 : decode cX7_few 48 = .ok (.if_icmp .ge 52, 3) := by decide +kernel
theorem dX7_few_51 : decode cX7_few 51 = .ok (.aload_n 0, 1) := by decide +kernel
theorem dX7_few_52 : decode cX7_few 52 = .ok (.iload_n 3, 1) := by decide +kernel
theorem dX7_few_53 : decode cX7_few 53 = .ok (.invokevirtual 188, 3) := by decide +kernel
theorem dX7_few_56 : decode cX7_few 56 = .ok (.aload_n 0, 1) := by decide +kernel
theorem dX7_few_57 : decode cX7_few 57 = .ok (.getfield 164, 3) := by decide +kernel
theorem dX7_few_60 : decode cX7_few 60 = .ok (.aload_n 0, 1) := by decide +kernel
theorem dX7_few_61 : decode cX7_few 61 = .ok (.getfield 167, 3) := by decide +kernel
theorem dX7_few_64 : decode cX7_few 64 = .ok (.ladd, 1) := by decide +kernel
theorem dX7_few_65 : decode cX7_few 65 = .ok (.lconst 0, 1) := by decide +kernel
theorem dX7_few_66 : decode cX7_few 66 = .ok (.lcmp, 1) := by decide +kernel
theorem dX7_few_67 : decode cX7_few 67 = .ok (.ifCond .le 31, 3) := by decide +kernel
theorem dX7_few_70 : decode cX7_few 70 = .ok (.ldc2_w 204, 3) := by decide +kernel
theorem dX7_few_73 : decode cX7_few 73 = .ok (.aload_n 0, 1) := by decide +kernel
theorem dX7_few_74 : decode cX7_few 74 = .ok (.getfield 167, 3) := by decide +kernel
theorem dX7_few_77 : decode cX7_few 77 = .ok (.lmul, 1) := by decide +kernel
theorem dX7_few_78 : decode cX7_few 78 = .ok (.iload_n 1, 1) := by decide +kernel
theorem dX7_few_79 : decode cX7_few 79 = .ok (.i2l, 1) := by decide +kernel
theorem dX7_few_80 : decode cX7_few 80 = .ok (.aload_n 0, 1) := by decide +kernel
theorem dX7_few_81 : decode cX7_few 81 = .ok (.getfield 164, 3) := by decide +kernel
theorem dX7_few_84 : decode cX7_few 84 = .ok (.aload_n 0, 1) := by decide +kernel
theorem dX7_few_85 : decode cX7_few 85 = .ok (.getfield 167, 3) := by decide +kernel
theorem dX7_few_88 : decode cX7_few 88 = .ok (.ladd, 1) := by decide +kernel
theorem dX7_few_89 : decode cX7_few 89 = .ok (.lmul, 1) := by decide +kernel
theorem dX7_few_90 : decode cX7_few 90 = .ok (.lcmp, 1) := by decide +kernel
theorem dX7_few_91 : decode cX7_few 91 = .ok (.ifCond .gt 7, 3) := by decide +kernel
theorem dX7_few_94 : decode cX7_few 94 = .ok (.iload_n 3, 1) := by decide +kernel
theorem dX7_few_95 : decode cX7_few 95 = .ok (.goto 4, 3) := by decide +kernel
theorem dX7_few_98 : decode cX7_few 98 = .ok (.iload_n 2, 1) := by decide +kernel
theorem dX7_few_99 : decode cX7_few 99 = .ok (.istore_n 2, 1) := by decide +kernel
theorem dX7_few_100 : decode cX7_few 100 = .ok (.iinc 3 1, 3) := by decide +kernel
theorem dX7_few_103 : decode cX7_few 103 = .ok (.goto (-81), 3) := by decide +kernel
theorem dX7_few_106 : decode cX7_few 106 = .ok (.iload_n 2, 1) := by decide +kernel
theorem dX7_few_107 : decode cX7_few 107 = .ok (.ireturn, 1) := by decide +kernel
theorem dX7_blameFor_0 : decode cX7_blameFor 0 = .ok (.aload_n 0, 1) := by decide +kernel
theorem dX7_blameFor_1 : decode cX7_blameFor 1 = .ok (.invokevirtual 185, 3) := by decide +kernel
theorem dX7_blameFor_4 : decode cX7_blameFor 4 = .ok (.aload_n 0, 1) := by decide +kernel
theorem dX7_blameFor_5 : decode cX7_blameFor 5 = .ok (.invokevirtual 173, 3) := by decide +kernel
theorem dX7_blameFor_8 : decode cX7_blameFor 8 = .ok (.iconst 0, 1) := by decide +kernel
theorem dX7_blameFor_9 : decode cX7_blameFor 9 = .ok (.istore_n 2, 1) := by decide +kernel
theorem dX7_blameFor_10 : decode cX7_blameFor 10 = .ok (.iload_n 2, 1) := by decide +kernel
theorem dX7_blameFor_11 : decode cX7_blameFor 11 = .ok (.iload_n 1, 1) := by decide +kernel
theorem dX7_blameFor_12 : decode cX7_blameFor 12 = .ok (.if_icmp .gt 49, 3) := by decide +kernel
theorem dX7_blameFor_15 : decode cX7_blameFor 15 = .ok (.aload_n 0, 1) := by decide +kernel
theorem dX7_blameFor_16 : decode cX7_blameFor 16 = .ok (.iload_n 2, 1) := by decide +kernel
theorem dX7_blameFor_17 : decode cX7_blameFor 17 = .ok (.invokevirtual 176, 3) := by decide +kernel
theorem dX7_blameFor_20 : decode cX7_blameFor 20 = .ok (.aload_n 0, 1) := by decide +kernel
theorem dX7_blameFor_21 : decode cX7_blameFor 21 = .ok (.iload_n 2, 1) := by decide +kernel
theorem dX7_blameFor_22 : decode cX7_blameFor 22 = .ok (.iload_n 2, 1) := by decide +kernel
theorem dX7_blameFor_23 : decode cX7_blameFor 23 = .ok (.iload_n 1, 1) := by decide +kernel
theorem dX7_blameFor_24 : decode cX7_blameFor 24 = .ok (.if_icmp .ge 27, 3) := by decide +kernel
theorem dX7_blameFor_27 : decode cX7_blameFor 27 = .ok (.aload_n 0, 1) := by decide +kernel
theorem dX7_blameFor_28 : decode cX7_blameFor 28 = .ok (.getfield 35, 3) := by decide +kernel
theorem dX7_blameFor_31 : decode cX7_blameFor 31 = .ok (.bipush 10, 2) := by decide +kernel
theorem dX7_blameFor_33 : decode cX7_blameFor 33 = .ok (.iaload, 1) := by decide +kernel
theorem dX7_blameFor_34 : decode cX7_blameFor 34 = .ok (.aload_n 0, 1) := by decide +kernel
theorem dX7_blameFor_35 : decode cX7_blameFor 35 = .ok (.getfield 42, 3) := by decide +kernel
theorem dX7_blameFor_38 : decode cX7_blameFor 38 = .ok (.iload_n 2, 1) := by decide +kernel
theorem dX7_blameFor_39 : decode cX7_blameFor 39 = .ok (.iaload, 1) := by decide +kernel
theorem dX7_blameFor_40 : decode cX7_blameFor 40 = .ok (.ishr, 1) := by decide +kernel
theorem dX7_blameFor_41 : decode cX7_blameFor 41 = .ok (.iconst 1, 1) := by decide +kernel
theorem dX7_blameFor_42 : decode cX7_blameFor 42 = .ok (.iand, 1) := by decide +kernel
theorem dX7_blameFor_43 : decode cX7_blameFor 43 = .ok (.iconst 1, 1) := by decide +kernel
theorem dX7_blameFor_44 : decode cX7_blameFor 44 = .ok (.if_icmp .ne 7, 3) := by decide +kernel
theorem dX7_blameFor_47 : decode cX7_blameFor 47 = .ok (.iconst 1, 1) := by decide +kernel
theorem dX7_blameFor_48 : decode cX7_blameFor 48 = .ok (.goto 4, 3) := by decide +kernel
theorem dX7_blameFor_51 : decode cX7_blameFor 51 = .ok (.iconst 0, 1) := by decide +kernel
theorem dX7_blameFor_52 : decode cX7_blameFor 52 = .ok (.invokevirtual 179, 3) := by decide +kernel
theorem dX7_blameFor_55 : decode cX7_blameFor 55 = .ok (.iinc 2 1, 3) := by decide +kernel
theorem dX7_blameFor_58 : decode cX7_blameFor 58 = .ok (.goto (-48), 3) := by decide +kernel
theorem dX7_blameFor_61 : decode cX7_blameFor 61 = .ok (.return_, 1) := by decide +kernel
theorem dX7_isTold_0 : decode cX7_isTold 0 = .ok (.aload_n 0, 1) := by decide +kernel
theorem dX7_isTold_1 : decode cX7_isTold 1 = .ok (.getfield 35, 3) := by decide +kernel
theorem dX7_isTold_4 : decode cX7_isTold 4 = .ok (.bipush 10, 2) := by decide +kernel
theorem dX7_isTold_6 : decode cX7_isTold 6 = .ok (.iaload, 1) := by decide +kernel
theorem dX7_isTold_7 : decode cX7_isTold 7 = .ok (.aload_n 0, 1) := by decide +kernel
theorem dX7_isTold_8 : decode cX7_isTold 8 = .ok (.getfield 42, 3) := by decide +kernel
theorem dX7_isTold_11 : decode cX7_isTold 11 = .ok (.iload_n 1, 1) := by decide +kernel
theorem dX7_isTold_12 : decode cX7_isTold 12 = .ok (.iaload, 1) := by decide +kernel
theorem dX7_isTold_13 : decode cX7_isTold 13 = .ok (.ishr, 1) := by decide +kernel
theorem dX7_isTold_14 : decode cX7_isTold 14 = .ok (.iconst 1, 1) := by decide +kernel
theorem dX7_isTold_15 : decode cX7_isTold 15 = .ok (.iand, 1) := by decide +kernel
theorem dX7_isTold_16 : decode cX7_isTold 16 = .ok (.iconst 1, 1) := by decide +kernel
theorem dX7_isTold_17 : decode cX7_isTold 17 = .ok (.if_icmp .ne 16, 3) := by decide +kernel
theorem dX7_isTold_20 : decode cX7_isTold 20 = .ok (.aload_n 0, 1) := by decide +kernel
theorem dX7_isTold_21 : decode cX7_isTold 21 = .ok (.getfield 167, 3) := by decide +kernel
theorem dX7_isTold_24 : decode cX7_isTold 24 = .ok (.lconst 0, 1) := by decide +kernel
theorem dX7_isTold_25 : decode cX7_isTold 25 = .ok (.lcmp, 1) := by decide +kernel
theorem dX7_isTold_26 : decode cX7_isTold 26 = .ok (.ifCond .le 7, 3) := by decide +kernel
theorem dX7_isTold_29 : decode cX7_isTold 29 = .ok (.iconst 1, 1) := by decide +kernel
theorem dX7_isTold_30 : decode cX7_isTold 30 = .ok (.goto 4, 3) := by decide +kernel
theorem dX7_isTold_33 : decode cX7_isTold 33 = .ok (.iconst 0, 1) := by decide +kernel
theorem dX7_isTold_34 : decode cX7_isTold 34 = .ok (.ireturn, 1) := by decide +kernel
theorem dX7_blame_0 : decode cX7_blame 0 = .ok (.aload_n 0, 1) := by decide +kernel
theorem dX7_blame_1 : decode cX7_blame 1 = .ok (.iload_n 1, 1) := by decide +kernel
theorem dX7_blame_2 : decode cX7_blame 2 = .ok (.invokevirtual 120, 3) := by decide +kernel
theorem dX7_blame_5 : decode cX7_blame 5 = .ok (.ifCond .eq 20, 3) := by decide +kernel
theorem dX7_blame_8 : decode cX7_blame 8 = .ok (.aload_n 0, 1) := by decide +kernel
theorem dX7_blame_9 : decode cX7_blame 9 = .ok (.iload_n 2, 1) := by decide +kernel
theorem dX7_blame_10 : decode cX7_blame 10 = .ok (.invokevirtual 120, 3) := by decide +kernel
theorem dX7_blame_13 : decode cX7_blame 13 = .ok (.ifCond .eq 12, 3) := by decide +kernel
theorem dX7_blame_16 : decode cX7_blame 16 = .ok (.iload_n 3, 1) := by decide +kernel
theorem dX7_blame_17 : decode cX7_blame 17 = .ok (.iconst 0, 1) := by decide +kernel
theorem dX7_blame_18 : decode cX7_blame 18 = .ok (.iconst 1, 1) := by decide +kernel
theorem dX7_blame_19 : decode cX7_blame 19 = .ok (.invokestatic 67, 3) := by decide +kernel
theorem dX7_blame_22 : decode cX7_blame 22 = .ok (.ifCond .ne 7, 3) := by decide +kernel
theorem dX7_blame_25 : decode cX7_blame 25 = .ok (.ldc2_w 183, 3) := by decide +kernel
theorem dX7_blame_28 : decode cX7_blame 28 = .ok (.lreturn, 1) := by decide +kernel
theorem dX7_blame_29 : decode cX7_blame 29 = .ok (.aload_n 0, 1) := by decide +kernel
theorem dX7_blame_30 : decode cX7_blame 30 = .ok (.iload_n 1, 1) := by decide +kernel
theorem dX7_blame_31 : decode cX7_blame 31 = .ok (.invokevirtual 206, 3) := by decide +kernel
theorem dX7_blame_34 : decode cX7_blame 34 = .ok (.aload_n 0, 1) := by decide +kernel
theorem dX7_blame_35 : decode cX7_blame 35 = .ok (.iload_n 1, 1) := by decide +kernel
theorem dX7_blame_36 : decode cX7_blame 36 = .ok (.invokevirtual 209, 3) := by decide +kernel
theorem dX7_blame_39 : decode cX7_blame 39 = .ok (.ifCond .eq 20, 3) := by decide +kernel
theorem dX7_blame_42 : decode cX7_blame 42 = .ok (.aload_n 0, 1) := by decide +kernel
theorem dX7_blame_43 : decode cX7_blame 43 = .ok (.getfield 49, 3) := by decide +kernel
theorem dX7_blame_46 : decode cX7_blame 46 = .ok (.iload_n 2, 1) := by decide +kernel
theorem dX7_blame_47 : decode cX7_blame 47 = .ok (.laload, 1) := by decide +kernel
theorem dX7_blame_48 : decode cX7_blame 48 = .ok (.aload_n 0, 1) := by decide +kernel
theorem dX7_blame_49 : decode cX7_blame 49 = .ok (.getfield 167, 3) := by decide +kernel
theorem dX7_blame_52 : decode cX7_blame 52 = .ok (.iload_n 3, 1) := by decide +kernel
theorem dX7_blame_53 : decode cX7_blame 53 = .ok (.invokestatic 191, 3) := by decide +kernel
theorem dX7_blame_56 : decode cX7_blame 56 = .ok (.goto 6, 3) := by decide +kernel
theorem dX7_blame_59 : decode cX7_blame 59 = .ok (.ldc2_w 195, 3) := by decide +kernel
theorem dX7_blame_62 : decode cX7_blame 62 = .ok (.lreturn, 1) := by decide +kernel
theorem dX7_first_0 : decode cX7_first 0 = .ok (.aload_n 0, 1) := by decide +kernel
theorem dX7_first_1 : decode cX7_first 1 = .ok (.iload_n 1, 1) := by decide +kernel
theorem dX7_first_2 : decode cX7_first 2 = .ok (.invokevirtual 120, 3) := by decide +kernel
theorem dX7_first_5 : decode cX7_first 5 = .ok (.ifCond .ne 5, 3) := by decide +kernel
theorem dX7_first_8 : decode cX7_first 8 = .ok (.iconst (-1), 1) := by decide +kernel
theorem dX7_first_9 : decode cX7_first 9 = .ok (.ireturn, 1) := by decide +kernel
theorem dX7_first_10 : decode cX7_first 10 = .ok (.aload_n 0, 1) := by decide +kernel
theorem dX7_first_11 : decode cX7_first 11 = .ok (.iload_n 1, 1) := by decide +kernel
theorem dX7_first_12 : decode cX7_first 12 = .ok (.invokevirtual 206, 3) := by decide +kernel
theorem dX7_first_15 : decode cX7_first 15 = .ok (.iconst 0, 1) := by decide +kernel
theorem dX7_first_16 : decode cX7_first 16 = .ok (.istore_n 2, 1) := by decide +kernel
theorem dX7_first_17 : decode cX7_first 17 = .ok (.iconst 1, 1) := by decide +kernel
theorem dX7_first_18 : decode cX7_first 18 = .ok (.istore_n 3, 1) := by decide +kernel
theorem dX7_first_19 : decode cX7_first 19 = .ok (.iload_n 3, 1) := by decide +kernel
theorem dX7_first_20 : decode cX7_first 20 = .ok (.iload_n 1, 1) := by decide +kernel
theorem dX7_first_21 : decode cX7_first 21 = .ok (.if_icmp .gt 31, 3) := by decide +kernel
theorem dX7_first_24 : decode cX7_first 24 = .ok (.aload_n 0, 1) := by decide +kernel
theorem dX7_first_25 : decode cX7_first 25 = .ok (.getfield 49, 3) := by decide +kernel
theorem dX7_first_28 : decode cX7_first 28 = .ok (.iload_n 3, 1) := by decide +kernel
theorem dX7_first_29 : decode cX7_first 29 = .ok (.laload, 1) := by decide +kernel
theorem dX7_first_30 : decode cX7_first 30 = .ok (.aload_n 0, 1) := by decide +kernel
theorem dX7_first_31 : decode cX7_first 31 = .ok (.getfield 49, 3) := by decide +kernel
theorem dX7_first_34 : decode cX7_first 34 = .ok (.iload_n 2, 1) := by decide +kernel
theorem dX7_first_35 : decode cX7_first 35 = .ok (.laload, 1) := by decide +kernel
theorem dX7_first_36 : decode cX7_first 36 = .ok (.lcmp, 1) := by decide +kernel
theorem dX7_first_37 : decode cX7_first 37 = .ok (.ifCond .le 7, 3) := by decide +kernel
theorem dX7_first_40 : decode cX7_first 40 = .ok (.iload_n 3, 1) := by decide +kernel
theorem dX7_first_41 : decode cX7_first 41 = .ok (.goto 4, 3) := by decide +kernel
theorem dX7_first_44 : decode cX7_first 44 = .ok (.iload_n 2, 1) := by decide +kernel
theorem dX7_first_45 : decode cX7_first 45 = .ok (.istore_n 2, 1) := by decide +kernel
theorem dX7_first_46 : decode cX7_first 46 = .ok (.iinc 3 1, 3) := by decide +kernel
theorem dX7_first_49 : decode cX7_first 49 = .ok (.goto (-30), 3) := by decide +kernel
theorem dX7_first_52 : decode cX7_first 52 = .ok (.aload_n 0, 1) := by decide +kernel
theorem dX7_first_53 : decode cX7_first 53 = .ok (.iload_n 1, 1) := by decide +kernel
theorem dX7_first_54 : decode cX7_first 54 = .ok (.invokevirtual 209, 3) := by decide +kernel
theorem dX7_first_57 : decode cX7_first 57 = .ok (.ifCond .eq 7, 3) := by decide +kernel
theorem dX7_first_60 : decode cX7_first 60 = .ok (.iload_n 2, 1) := by decide +kernel
theorem dX7_first_61 : decode cX7_first 61 = .ok (.goto 5, 3) := by decide +kernel
theorem dX7_first_64 : decode cX7_first 64 = .ok (.bipush (-9), 2) := by decide +kernel
theorem dX7_first_66 : decode cX7_first 66 = .ok (.ireturn, 1) := by decide +kernel
theorem dX7_tells_0 : decode cX7_tells 0 = .ok (.iload_n 1, 1) := by decide +kernel
theorem dX7_tells_1 : decode cX7_tells 1 = .ok (.invokestatic 142, 3) := by decide +kernel
theorem dX7_tells_4 : decode cX7_tells 4 = .ok (.ifCond .eq 12, 3) := by decide +kernel
theorem dX7_tells_7 : decode cX7_tells 7 = .ok (.iload_n 2, 1) := by decide +kernel
theorem dX7_tells_8 : decode cX7_tells 8 = .ok (.iconst 0, 1) := by decide +kernel
theorem dX7_tells_9 : decode cX7_tells 9 = .ok (.iconst 2, 1) := by decide +kernel
theorem dX7_tells_10 : decode cX7_tells 10 = .ok (.invokestatic 67, 3) := by decide +kernel
theorem dX7_tells_13 : decode cX7_tells 13 = .ok (.ifCond .ne 5, 3) := by decide +kernel
theorem dX7_tells_16 : decode cX7_tells 16 = .ok (.iconst (-1), 1) := by decide +kernel
theorem dX7_tells_17 : decode cX7_tells 17 = .ok (.ireturn, 1) := by decide +kernel
theorem dX7_tells_18 : decode cX7_tells 18 = .ok (.aload_n 0, 1) := by decide +kernel
theorem dX7_tells_19 : decode cX7_tells 19 = .ok (.getfield 109, 3) := by decide +kernel
theorem dX7_tells_22 : decode cX7_tells 22 = .ok (.bipush 6, 2) := by decide +kernel
theorem dX7_tells_24 : decode cX7_tells 24 = .ok (.if_icmp .ne 6, 3) := by decide +kernel
theorem dX7_tells_27 : decode cX7_tells 27 = .ok (.bipush (-3), 2) := by decide +kernel
theorem dX7_tells_29 : decode cX7_tells 29 = .ok (.ireturn, 1) := by decide +kernel
theorem dX7_tells_30 : decode cX7_tells 30 = .ok (.aload_n 0, 1) := by decide +kernel
theorem dX7_tells_31 : decode cX7_tells 31 = .ok (.getfield 55, 3) := by decide +kernel
theorem dX7_tells_34 : decode cX7_tells 34 = .ok (.aload_n 0, 1) := by decide +kernel
theorem dX7_tells_35 : decode cX7_tells 35 = .ok (.getfield 109, 3) := by decide +kernel
theorem dX7_tells_38 : decode cX7_tells 38 = .ok (.iload_n 1, 1) := by decide +kernel
theorem dX7_tells_39 : decode cX7_tells 39 = .ok (.iastore, 1) := by decide +kernel
theorem dX7_tells_40 : decode cX7_tells 40 = .ok (.aload_n 0, 1) := by decide +kernel
theorem dX7_tells_41 : decode cX7_tells 41 = .ok (.getfield 58, 3) := by decide +kernel
theorem dX7_tells_44 : decode cX7_tells 44 = .ok (.aload_n 0, 1) := by decide +kernel
theorem dX7_tells_45 : decode cX7_tells 45 = .ok (.getfield 109, 3) := by decide +kernel
theorem dX7_tells_48 : decode cX7_tells 48 = .ok (.iload_n 2, 1) := by decide +kernel
theorem dX7_tells_49 : decode cX7_tells 49 = .ok (.iastore, 1) := by decide +kernel
theorem dX7_tells_50 : decode cX7_tells 50 = .ok (.aload_n 0, 1) := by decide +kernel
theorem dX7_tells_51 : decode cX7_tells 51 = .ok (.dup, 1) := by decide +kernel
theorem dX7_tells_52 : decode cX7_tells 52 = .ok (.getfield 109, 3) := by decide +kernel
theorem dX7_tells_55 : decode cX7_tells 55 = .ok (.iconst 1, 1) := by decide +kernel
theorem dX7_tells_56 : decode cX7_tells 56 = .ok (.iadd, 1) := by decide +kernel
theorem dX7_tells_57 : decode cX7_tells 57 = .ok (.putfield 109, 3) := by decide +kernel
theorem dX7_tells_60 : decode cX7_tells 60 = .ok (.aload_n 0, 1) := by decide +kernel
theorem dX7_tells_61 : decode cX7_tells 61 = .ok (.getfield 109, 3) := by decide +kernel
theorem dX7_tells_64 : decode cX7_tells 64 = .ok (.ireturn, 1) := by decide +kernel
theorem dX7_forget_0 : decode cX7_forget 0 = .ok (.aload_n 0, 1) := by decide +kernel
theorem dX7_forget_1 : decode cX7_forget 1 = .ok (.getfield 109, 3) := by decide +kernel
theorem dX7_forget_4 : decode cX7_forget 4 = .ok (.istore_n 1, 1) := by decide +kernel
theorem dX7_forget_5 : decode cX7_forget 5 = .ok (.aload_n 0, 1) := by decide +kernel
theorem dX7_forget_6 : decode cX7_forget 6 = .ok (.iconst 0, 1) := by decide +kernel
theorem dX7_forget_7 : decode cX7_forget 7 = .ok (.putfield 109, 3) := by decide +kernel
theorem dX7_forget_10 : decode cX7_forget 10 = .ok (.iload_n 1, 1) := by decide +kernel
theorem dX7_forget_11 : decode cX7_forget 11 = .ok (.ireturn, 1) := by decide +kernel
theorem dX7_who_0 : decode cX7_who 0 = .ok (.iload_n 1, 1) := by decide +kernel
theorem dX7_who_1 : decode cX7_who 1 = .ok (.iconst 0, 1) := by decide +kernel
theorem dX7_who_2 : decode cX7_who 2 = .ok (.iconst 2, 1) := by decide +kernel
theorem dX7_who_3 : decode cX7_who 3 = .ok (.invokestatic 67, 3) := by decide +kernel
theorem dX7_who_6 : decode cX7_who 6 = .ok (.ifCond .ne 5, 3) := by decide +kernel
theorem dX7_who_9 : decode cX7_who 9 = .ok (.iconst (-1), 1) := by decide +kernel
theorem dX7_who_10 : decode cX7_who 10 = .ok (.ireturn, 1) := by decide +kernel
theorem dX7_who_11 : decode cX7_who 11 = .ok (.iconst 0, 1) := by decide +kernel
theorem dX7_who_12 : decode cX7_who 12 = .ok (.istore_n 2, 1) := by decide +kernel
theorem dX7_who_13 : decode cX7_who 13 = .ok (.bipush (-9), 2) := by decide +kernel
theorem dX7_who_15 : decode cX7_who 15 = .ok (.istore_n 3, 1) := by decide +kernel
theorem dX7_who_16 : decode cX7_who 16 = .ok (.iconst 1, 1) := by decide +kernel
theorem dX7_who_17 : decode cX7_who 17 = .ok (.aload_n 0, 1) := by decide +kernel
theorem dX7_who_18 : decode cX7_who 18 = .ok (.getfield 13, 3) := by decide +kernel
theorem dX7_who_21 : decode cX7_who 21 = .ok (.iconst 0, 1) := by decide +kernel
theorem dX7_who_22 : decode cX7_who 22 = .ok (.iaload, 1) := by decide +kernel
theorem dX7_who_23 : decode cX7_who 23 = .ok (.ishl, 1) := by decide +kernel
theorem dX7_who_24 : decode cX7_who 24 = .ok (.iconst 1, 1) := by decide +kernel
theorem dX7_who_25 : decode cX7_who 25 = .ok (.isub, 1) := by decide +kernel
theorem dX7_who_26 : decode cX7_who 26 = .ok (.istore 4, 2) := by decide +kernel
theorem dX7_who_28 : decode cX7_who 28 = .ok (.iconst 0, 1) := by decide +kernel
theorem dX7_who_29 : decode cX7_who 29 = .ok (.istore 5, 2) := by decide +kernel
theorem dX7_who_31 : decode cX7_who 31 = .ok (.iload 5, 2) := by decide +kernel
theorem dX7_who_33 : decode cX7_who 33 = .ok (.iconst 1, 1) := by decide +kernel
theorem dX7_who_34 : decode cX7_who 34 = .ok (.aload_n 0, 1) := by decide +kernel
theorem dX7_who_35 : decode cX7_who 35 = .ok (.getfield 13, 3) := by decide +kernel
theorem dX7_who_38 : decode cX7_who 38 = .ok (.iconst 0, 1) := by decide +kernel
theorem dX7_who_39 : decode cX7_who 39 = .ok (.iaload, 1) := by decide +kernel
theorem dX7_who_40 : decode cX7_who 40 = .ok (.ishl, 1) := by decide +kernel
theorem dX7_who_41 : decode cX7_who 41 = .ok (.if_icmp .ge 91, 3) := by decide +kernel
theorem dX7_who_44 : decode cX7_who 44 = .ok (.iconst 1, 1) := by decide +kernel
theorem dX7_who_45 : decode cX7_who 45 = .ok (.istore 6, 2) := by decide +kernel
theorem dX7_who_47 : decode cX7_who 47 = .ok (.iconst 0, 1) := by decide +kernel
theorem dX7_who_48 : decode cX7_who 48 = .ok (.istore 7, 2) := by decide +kernel
theorem dX7_who_50 : decode cX7_who 50 = .ok (.iload 7, 2) := by decide +kernel
theorem dX7_who_52 : decode cX7_who 52 = .ok (.aload_n 0, 1) := by decide +kernel
theorem dX7_who_53 : decode cX7_who 53 = .ok (.getfield 109, 3) := by decide +kernel
theorem dX7_who_56 : decode cX7_who 56 = .ok (.if_icmp .ge 44, 3) := by decide +kernel
theorem dX7_who_59 : decode cX7_who 59 = .ok (.iload 6, 2) := by decide +kernel
theorem dX7_who_61 : decode cX7_who 61 = .ok (.ifCond .eq 30, 3) := by decide +kernel
theorem dX7_who_64 : decode cX7_who 64 = .ok (.aload_n 0, 1) := by decide +kernel
theorem dX7_who_65 : decode cX7_who 65 = .ok (.aload_n 0, 1) := by decide +kernel
theorem dX7_who_66 : decode cX7_who 66 = .ok (.getfield 55, 3) := by decide +kernel
theorem dX7_who_69 : decode cX7_who 69 = .ok (.iload 7, 2) := by decide +kernel
theorem dX7_who_71 : decode cX7_who 71 = .ok (.iaload, 1) := by decide +kernel
theorem dX7_who_72 : decode cX7_who 72 = .ok (.iload 5, 2) := by decide +kernel
theorem dX7_who_74 : decode cX7_who 74 = .ok (.invokevirtual 148, 3) := by decide +kernel
theorem dX7_who_77 : decode cX7_who 77 = .ok (.aload_n 0, 1) := by decide +kernel
theorem dX7_who_78 : decode cX7_who 78 = .ok (.getfield 58, 3) := by decide +kernel
theorem dX7_who_81 : decode cX7_who 81 = .ok (.iload 7, 2) := by decide +kernel
theorem dX7_who_83 : decode cX7_who 83 = .ok (.iaload, 1) := by decide +kernel
theorem dX7_who_84 : decode cX7_who 84 = .ok (.if_icmp .ne 7, 3) := by decide +kernel
theorem dX7_who_87 : decode cX7_who 87 = .ok (.iconst 1, 1) := by decide +kernel
theorem dX7_who_88 : decode cX7_who 88 = .ok (.goto 4, 3) := by decide +kernel
theorem dX7_who_91 : decode cX7_who 91 = .ok (.iconst 0, 1) := by decide +kernel
theorem dX7_who_92 : decode cX7_who 92 = .ok (.istore 6, 2) := by decide +kernel
theorem dX7_who_94 : decode cX7_who 94 = .ok (.iinc 7 1, 3) := by decide +kernel
theorem dX7_who_97 : decode cX7_who 97 = .ok (.goto (-47), 3) := by decide +kernel
theorem dX7_who_100 : decode cX7_who 100 = .ok (.iload 6, 2) := by decide +kernel
theorem dX7_who_102 : decode cX7_who 102 = .ok (.ifCond .eq 24, 3) := by decide +kernel
theorem dX7_who_105 : decode cX7_who 105 = .ok (.iload_n 2, 1) := by decide +kernel
theorem dX7_who_106 : decode cX7_who 106 = .ok (.ifCond .ne 8, 3) := by decide +kernel
theorem dX7_who_109 : decode cX7_who 109 = .ok (.iload 5, 2) := by decide +kernel
theorem dX7_who_111 : decode cX7_who 111 = .ok (.goto 4, 3) := by decide +kernel
theorem dX7_who_114 : decode cX7_who 114 = .ok (.iload_n 3, 1) := by decide +kernel
theorem dX7_who_115 : decode cX7_who 115 = .ok (.istore_n 3, 1) := by decide +kernel
theorem dX7_who_116 : decode cX7_who 116 = .ok (.iload 4, 2) := by decide +kernel
theorem dX7_who_118 : decode cX7_who 118 = .ok (.iload 5, 2) := by decide +kernel
theorem dX7_who_120 : decode cX7_who 120 = .ok (.iand, 1) := by decide +kernel
theorem dX7_who_121 : decode cX7_who 121 = .ok (.istore 4, 2) := by decide +kernel
theorem dX7_who_123 : decode cX7_who 123 = .ok (.iinc 2 1, 3) := by decide +kernel
theorem dX7_who_126 : decode cX7_who 126 = .ok (.iinc 5 1, 3) := by decide +kernel
theorem dX7_who_129 : decode cX7_who 129 = .ok (.goto (-98), 3) := by decide +kernel
theorem dX7_who_132 : decode cX7_who 132 = .ok (.iload_n 1, 1) := by decide +kernel
theorem dX7_who_133 : decode cX7_who 133 = .ok (.ifCond .ne 7, 3) := by decide +kernel
theorem dX7_who_136 : decode cX7_who 136 = .ok (.iload_n 2, 1) := by decide +kernel
theorem dX7_who_137 : decode cX7_who 137 = .ok (.goto 23, 3) := by decide +kernel
theorem dX7_who_140 : decode cX7_who 140 = .ok (.iload_n 1, 1) := by decide +kernel
theorem dX7_who_141 : decode cX7_who 141 = .ok (.iconst 1, 1) := by decide +kernel
theorem dX7_who_142 : decode cX7_who 142 = .ok (.if_icmp .ne 7, 3) := by decide +kernel
theorem dX7_who_145 : decode cX7_who 145 = .ok (.iload_n 3, 1) := by decide +kernel
theorem dX7_who_146 : decode cX7_who 146 = .ok (.goto 14, 3) := by decide +kernel
theorem dX7_who_149 : decode cX7_who 149 = .ok (.iload_n 2, 1) := by decide +kernel
theorem dX7_who_150 : decode cX7_who 150 = .ok (.ifCond .ne 8, 3) := by decide +kernel
theorem dX7_who_153 : decode cX7_who 153 = .ok (.bipush (-9), 2) := by decide +kernel
theorem dX7_who_155 : decode cX7_who 155 = .ok (.goto 5, 3) := by decide +kernel
theorem dX7_who_158 : decode cX7_who 158 = .ok (.iload 4, 2) := by decide +kernel
theorem dX7_who_160 : decode cX7_who 160 = .ok (.ireturn, 1) := by decide +kernel
theorem dX7_mark_0 : decode cX7_mark 0 = .ok (.iload_n 1, 1) := by decide +kernel
theorem dX7_mark_1 : decode cX7_mark 1 = .ok (.iconst 0, 1) := by decide +kernel
theorem dX7_mark_2 : decode cX7_mark 2 = .ok (.iconst 5, 1) := by decide +kernel
theorem dX7_mark_3 : decode cX7_mark 3 = .ok (.invokestatic 67, 3) := by decide +kernel
theorem dX7_mark_6 : decode cX7_mark 6 = .ok (.ifCond .eq 11, 3) := by decide +kernel
theorem dX7_mark_9 : decode cX7_mark 9 = .ok (.aload_n 0, 1) := by decide +kernel
theorem dX7_mark_10 : decode cX7_mark 10 = .ok (.iload_n 2, 1) := by decide +kernel
theorem dX7_mark_11 : decode cX7_mark 11 = .ok (.invokevirtual 120, 3) := by decide +kernel
theorem dX7_mark_14 : decode cX7_mark 14 = .ok (.ifCond .ne 6, 3) := by decide +kernel
theorem dX7_mark_17 : decode cX7_mark 17 = .ok (.ldc 212, 2) := by decide +kernel
theorem dX7_mark_19 : decode cX7_mark 19 = .ok (.ireturn, 1) := by decide +kernel
theorem dX7_mark_20 : decode cX7_mark 20 = .ok (.aload_n 0, 1) := by decide +kernel
theorem dX7_mark_21 : decode cX7_mark 21 = .ok (.getfield 17, 3) := by decide +kernel
theorem dX7_mark_24 : decode cX7_mark 24 = .ok (.iload_n 2, 1) := by decide +kernel
theorem dX7_mark_25 : decode cX7_mark 25 = .ok (.iaload, 1) := by decide +kernel
theorem dX7_mark_26 : decode cX7_mark 26 = .ok (.aload_n 0, 1) := by decide +kernel
theorem dX7_mark_27 : decode cX7_mark 27 = .ok (.getfield 35, 3) := by decide +kernel
theorem dX7_mark_30 : decode cX7_mark 30 = .ok (.iconst 5, 1) := by decide +kernel
theorem dX7_mark_31 : decode cX7_mark 31 = .ok (.iload_n 2, 1) := by decide +kernel
theorem dX7_mark_32 : decode cX7_mark 32 = .ok (.iadd, 1) := by decide +kernel
theorem dX7_mark_33 : decode cX7_mark 33 = .ok (.iaload, 1) := by decide +kernel
theorem dX7_mark_34 : decode cX7_mark 34 = .ok (.iadd, 1) := by decide +kernel
theorem dX7_mark_35 : decode cX7_mark 35 = .ok (.istore_n 3, 1) := by decide +kernel
theorem dX7_mark_36 : decode cX7_mark 36 = .ok (.aload_n 0, 1) := by decide +kernel
theorem dX7_mark_37 : decode cX7_mark 37 = .ok (.getfield 17, 3) := by decide +kernel
theorem dX7_mark_40 : decode cX7_mark 40 = .ok (.iload_n 2, 1) := by decide +kernel
theorem dX7_mark_41 : decode cX7_mark 41 = .ok (.iaload, 1) := by decide +kernel
theorem dX7_mark_42 : decode cX7_mark 42 = .ok (.aload_n 0, 1) := by decide +kernel
theorem dX7_mark_43 : decode cX7_mark 43 = .ok (.getfield 23, 3) := by decide +kernel
theorem dX7_mark_46 : decode cX7_mark 46 = .ok (.iload_n 2, 1) := by decide +kernel
theorem dX7_mark_47 : decode cX7_mark 47 = .ok (.iaload, 1) := by decide +kernel
theorem dX7_mark_48 : decode cX7_mark 48 = .ok (.isub, 1) := by decide +kernel
theorem dX7_mark_49 : decode cX7_mark 49 = .ok (.istore 4, 2) := by decide +kernel
theorem dX7_mark_51 : decode cX7_mark 51 = .ok (.iload_n 1, 1) := by decide +kernel
theorem dX7_mark_52 : decode cX7_mark 52 = .ok (.tableswitch 123 0 4 #[36, 53, 67, 82, 98], 36) := by decide +kernel
theorem dX7_mark_88 : decode cX7_mark 88 = .ok (.aload_n 0, 1) := by decide +kernel
theorem dX7_mark_89 : decode cX7_mark 89 = .ok (.dup, 1) := by decide +kernel
theorem dX7_mark_90 : decode cX7_mark 90 = .ok (.getfield 213, 3) := by decide +kernel
theorem dX7_mark_93 : decode cX7_mark 93 = .ok (.lconst 1, 1) := by decide +kernel
theorem dX7_mark_94 : decode cX7_mark 94 = .ok (.ladd, 1) := by decide +kernel
theorem dX7_mark_95 : decode cX7_mark 95 = .ok (.putfield 213, 3) := by decide +kernel
theorem dX7_mark_98 : decode cX7_mark 98 = .ok (.aload_n 0, 1) := by decide +kernel
theorem dX7_mark_99 : decode cX7_mark 99 = .ok (.getfield 17, 3) := by decide +kernel
theorem dX7_mark_102 : decode cX7_mark 102 = .ok (.iload_n 2, 1) := by decide +kernel
theorem dX7_mark_103 : decode cX7_mark 103 = .ok (.iaload, 1) := by decide +kernel
theorem dX7_mark_104 : decode cX7_mark 104 = .ok (.ireturn, 1) := by decide +kernel
theorem dX7_mark_105 : decode cX7_mark 105 = .ok (.aload_n 0, 1) := by decide +kernel
theorem dX7_mark_106 : decode cX7_mark 106 = .ok (.dup, 1) := by decide +kernel
theorem dX7_mark_107 : decode cX7_mark 107 = .ok (.getfield 213, 3) := by decide +kernel
theorem dX7_mark_110 : decode cX7_mark 110 = .ok (.ldc2_w 216, 3) := by decide +kernel
theorem dX7_mark_113 : decode cX7_mark 113 = .ok (.ladd, 1) := by decide +kernel
theorem dX7_mark_114 : decode cX7_mark 114 = .ok (.putfield 213, 3) := by decide +kernel
theorem dX7_mark_117 : decode cX7_mark 117 = .ok (.iload_n 3, 1) := by decide +kernel
theorem dX7_mark_118 : decode cX7_mark 118 = .ok (.ireturn, 1) := by decide +kernel
theorem dX7_mark_119 : decode cX7_mark 119 = .ok (.aload_n 0, 1) := by decide +kernel
theorem dX7_mark_120 : decode cX7_mark 120 = .ok (.dup, 1) := by decide +kernel
theorem dX7_mark_121 : decode cX7_mark 121 = .ok (.getfield 213, 3) := by decide +kernel
theorem dX7_mark_124 : decode cX7_mark 124 = .ok (.ldc2_w 218, 3) := by decide +kernel
theorem dX7_mark_127 : decode cX7_mark 127 = .ok (.ladd, 1) := by decide +kernel
theorem dX7_mark_128 : decode cX7_mark 128 = .ok (.putfield 213, 3) := by decide +kernel
theorem dX7_mark_131 : decode cX7_mark 131 = .ok (.iload 4, 2) := by decide +kernel
theorem dX7_mark_133 : decode cX7_mark 133 = .ok (.ireturn, 1) := by decide +kernel
theorem dX7_mark_134 : decode cX7_mark 134 = .ok (.aload_n 0, 1) := by decide +kernel
theorem dX7_mark_135 : decode cX7_mark 135 = .ok (.dup, 1) := by decide +kernel
theorem dX7_mark_136 : decode cX7_mark 136 = .ok (.getfield 213, 3) := by decide +kernel
theorem dX7_mark_139 : decode cX7_mark 139 = .ok (.ldc2_w 220, 3) := by decide +kernel
theorem dX7_mark_142 : decode cX7_mark 142 = .ok (.ladd, 1) := by decide +kernel
theorem dX7_mark_143 : decode cX7_mark 143 = .ok (.putfield 213, 3) := by decide +kernel
theorem dX7_mark_146 : decode cX7_mark 146 = .ok (.iconst 2, 1) := by decide +kernel
theorem dX7_mark_147 : decode cX7_mark 147 = .ok (.iload_n 3, 1) := by decide +kernel
theorem dX7_mark_148 : decode cX7_mark 148 = .ok (.imul, 1) := by decide +kernel
theorem dX7_mark_149 : decode cX7_mark 149 = .ok (.ireturn, 1) := by decide +kernel
theorem dX7_mark_150 : decode cX7_mark 150 = .ok (.aload_n 0, 1) := by decide +kernel
theorem dX7_mark_151 : decode cX7_mark 151 = .ok (.dup, 1) := by decide +kernel
theorem dX7_mark_152 : decode cX7_mark 152 = .ok (.getfield 213, 3) := by decide +kernel
theorem dX7_mark_155 : decode cX7_mark 155 = .ok (.ldc2_w 222, 3) := by decide +kernel
theorem dX7_mark_158 : decode cX7_mark 158 = .ok (.ladd, 1) := by decide +kernel
theorem dX7_mark_159 : decode cX7_mark 159 = .ok (.putfield 213, 3) := by decide +kernel
theorem dX7_mark_162 : decode cX7_mark 162 = .ok (.iload 4, 2) := by decide +kernel
theorem dX7_mark_164 : decode cX7_mark 164 = .ok (.aload_n 0, 1) := by decide +kernel
theorem dX7_mark_165 : decode cX7_mark 165 = .ok (.getfield 35, 3) := by decide +kernel
theorem dX7_mark_168 : decode cX7_mark 168 = .ok (.bipush 14, 2) := by decide +kernel
theorem dX7_mark_170 : decode cX7_mark 170 = .ok (.iload_n 2, 1) := by decide +kernel
theorem dX7_mark_171 : decode cX7_mark 171 = .ok (.iadd, 1) := by decide +kernel
theorem dX7_mark_172 : decode cX7_mark 172 = .ok (.iaload, 1) := by decide +kernel
theorem dX7_mark_173 : decode cX7_mark 173 = .ok (.iadd, 1) := by decide +kernel
theorem dX7_mark_174 : decode cX7_mark 174 = .ok (.ireturn, 1) := by decide +kernel
theorem dX7_mark_175 : decode cX7_mark 175 = .ok (.aload_n 0, 1) := by decide +kernel
theorem dX7_mark_176 : decode cX7_mark 176 = .ok (.dup, 1) := by decide +kernel
theorem dX7_mark_177 : decode cX7_mark 177 = .ok (.getfield 213, 3) := by decide +kernel
theorem dX7_mark_180 : decode cX7_mark 180 = .ok (.ldc2_w 224, 3) := by decide +kernel
theorem dX7_mark_183 : decode cX7_mark 183 = .ok (.ladd, 1) := by decide +kernel
theorem dX7_mark_184 : decode cX7_mark 184 = .ok (.putfield 213, 3) := by decide +kernel
theorem dX7_mark_187 : decode cX7_mark 187 = .ok (.aload_n 0, 1) := by decide +kernel
theorem dX7_mark_188 : decode cX7_mark 188 = .ok (.getfield 17, 3) := by decide +kernel
theorem dX7_mark_191 : decode cX7_mark 191 = .ok (.iload_n 2, 1) := by decide +kernel
theorem dX7_mark_192 : decode cX7_mark 192 = .ok (.iaload, 1) := by decide +kernel
theorem dX7_mark_193 : decode cX7_mark 193 = .ok (.aload_n 0, 1) := by decide +kernel
theorem dX7_mark_194 : decode cX7_mark 194 = .ok (.getfield 35, 3) := by decide +kernel
theorem dX7_mark_197 : decode cX7_mark 197 = .ok (.bipush 11, 2) := by decide +kernel
theorem dX7_mark_199 : decode cX7_mark 199 = .ok (.iaload, 1) := by decide +kernel
theorem dX7_mark_200 : decode cX7_mark 200 = .ok (.iadd, 1) := by decide +kernel
theorem dX7_mark_201 : decode cX7_mark 201 = .ok (.ireturn, 1) := by decide +kernel
theorem dX7_keep_0 : decode cX7_keep 0 = .ok (.iload_n 1, 1) := by decide +kernel
theorem dX7_keep_1 : decode cX7_keep 1 = .ok (.iconst 0, 1) := by decide +kernel
theorem dX7_keep_2 : decode cX7_keep 2 = .ok (.iconst 1, 1) := by decide +kernel
theorem dX7_keep_3 : decode cX7_keep 3 = .ok (.invokestatic 67, 3) := by decide +kernel
theorem dX7_keep_6 : decode cX7_keep 6 = .ok (.ifCond .ne 5, 3) := by decide +kernel
theorem dX7_keep_9 : decode cX7_keep 9 = .ok (.iconst (-1), 1) := by decide +kernel
theorem dX7_keep_10 : decode cX7_keep 10 = .ok (.ireturn, 1) := by decide +kernel
theorem dX7_keep_11 : decode cX7_keep 11 = .ok (.iconst 0, 1) := by decide +kernel
theorem dX7_keep_12 : decode cX7_keep 12 = .ok (.istore_n 2, 1) := by decide +kernel
theorem dX7_keep_13 : decode cX7_keep 13 = .ok (.iload_n 2, 1) := by decide +kernel
theorem dX7_keep_14 : decode cX7_keep 14 = .ok (.sipush 221, 3) := by decide +kernel
theorem dX7_keep_17 : decode cX7_keep 17 = .ok (.if_icmp .ge 29, 3) := by decide +kernel
theorem dX7_keep_20 : decode cX7_keep 20 = .ok (.aload_n 0, 1) := by decide +kernel
theorem dX7_keep_21 : decode cX7_keep 21 = .ok (.getfield 35, 3) := by decide +kernel
theorem dX7_keep_24 : decode cX7_keep 24 = .ok (.sipush 221, 3) := by decide +kernel
theorem dX7_keep_27 : decode cX7_keep 27 = .ok (.iconst 1, 1) := by decide +kernel
theorem dX7_keep_28 : decode cX7_keep 28 = .ok (.iload_n 1, 1) := by decide +kernel
theorem dX7_keep_29 : decode cX7_keep 29 = .ok (.iadd, 1) := by decide +kernel
theorem dX7_keep_30 : decode cX7_keep 30 = .ok (.imul, 1) := by decide +kernel
theorem dX7_keep_31 : decode cX7_keep 31 = .ok (.iload_n 2, 1) := by decide +kernel
theorem dX7_keep_32 : decode cX7_keep 32 = .ok (.iadd, 1) := by decide +kernel
theorem dX7_keep_33 : decode cX7_keep 33 = .ok (.aload_n 0, 1) := by decide +kernel
theorem dX7_keep_34 : decode cX7_keep 34 = .ok (.getfield 35, 3) := by decide +kernel
theorem dX7_keep_37 : decode cX7_keep 37 = .ok (.iload_n 2, 1) := by decide +kernel
theorem dX7_keep_38 : decode cX7_keep 38 = .ok (.iaload, 1) := by decide +kernel
theorem dX7_keep_39 : decode cX7_keep 39 = .ok (.iastore, 1) := by decide +kernel
theorem dX7_keep_40 : decode cX7_keep 40 = .ok (.iinc 2 1, 3) := by decide +kernel
theorem dX7_keep_43 : decode cX7_keep 43 = .ok (.goto (-30), 3) := by decide +kernel
theorem dX7_keep_46 : decode cX7_keep 46 = .ok (.aload_n 0, 1) := by decide +kernel
theorem dX7_keep_47 : decode cX7_keep 47 = .ok (.getfield 38, 3) := by decide +kernel
theorem dX7_keep_50 : decode cX7_keep 50 = .ok (.iload_n 1, 1) := by decide +kernel
theorem dX7_keep_51 : decode cX7_keep 51 = .ok (.iconst 1, 1) := by decide +kernel
theorem dX7_keep_52 : decode cX7_keep 52 = .ok (.bastore, 1) := by decide +kernel
theorem dX7_keep_53 : decode cX7_keep 53 = .ok (.aload_n 0, 1) := by decide +kernel
theorem dX7_keep_54 : decode cX7_keep 54 = .ok (.getfield 35, 3) := by decide +kernel
theorem dX7_keep_57 : decode cX7_keep 57 = .ok (.bipush 11, 2) := by decide +kernel
theorem dX7_keep_59 : decode cX7_keep 59 = .ok (.iaload, 1) := by decide +kernel
theorem dX7_keep_60 : decode cX7_keep 60 = .ok (.ireturn, 1) := by decide +kernel
theorem dX7_back_0 : decode cX7_back 0 = .ok (.iload_n 1, 1) := by decide +kernel
theorem dX7_back_1 : decode cX7_back 1 = .ok (.iconst 0, 1) := by decide +kernel
theorem dX7_back_2 : decode cX7_back 2 = .ok (.iconst 1, 1) := by decide +kernel
theorem dX7_back_3 : decode cX7_back 3 = .ok (.invokestatic 67, 3) := by decide +kernel
theorem dX7_back_6 : decode cX7_back 6 = .ok (.ifCond .ne 5, 3) := by decide +kernel
theorem dX7_back_9 : decode cX7_back 9 = .ok (.iconst (-1), 1) := by decide +kernel
theorem dX7_back_10 : decode cX7_back 10 = .ok (.ireturn, 1) := by decide +kernel
theorem dX7_back_11 : decode cX7_back 11 = .ok (.aload_n 0, 1) := by decide +kernel
theorem dX7_back_12 : decode cX7_back 12 = .ok (.getfield 38, 3) := by decide +kernel
theorem dX7_back_15 : decode cX7_back 15 = .ok (.iload_n 1, 1) := by decide +kernel
theorem dX7_back_16 : decode cX7_back 16 = .ok (.baload, 1) := by decide +kernel
theorem dX7_back_17 : decode cX7_back 17 = .ok (.ifCond .ne 6, 3) := by decide +kernel
theorem dX7_back_20 : decode cX7_back 20 = .ok (.bipush (-2), 2) := by decide +kernel
theorem dX7_back_22 : decode cX7_back 22 = .ok (.ireturn, 1) := by decide +kernel
theorem dX7_back_23 : decode cX7_back 23 = .ok (.iconst 0, 1) := by decide +kernel
theorem dX7_back_24 : decode cX7_back 24 = .ok (.istore_n 2, 1) := by decide +kernel
theorem dX7_back_25 : decode cX7_back 25 = .ok (.iload_n 2, 1) := by decide +kernel
theorem dX7_back_26 : decode cX7_back 26 = .ok (.sipush 221, 3) := by decide +kernel
theorem dX7_back_29 : decode cX7_back 29 = .ok (.if_icmp .ge 29, 3) := by decide +kernel
theorem dX7_back_32 : decode cX7_back 32 = .ok (.aload_n 0, 1) := by decide +kernel
theorem dX7_back_33 : decode cX7_back 33 = .ok (.getfield 35, 3) := by decide +kernel
theorem dX7_back_36 : decode cX7_back 36 = .ok (.iload_n 2, 1) := by decide +kernel
theorem dX7_back_37 : decode cX7_back 37 = .ok (.aload_n 0, 1) := by decide +kernel
theorem dX7_back_38 : decode cX7_back 38 = .ok (.getfield 35, 3) := by decide +kernel
theorem dX7_back_41 : decode cX7_back 41 = .ok (.sipush 221, 3) := by decide +kernel
theorem dX7_back_44 : decode cX7_back 44 = .ok (.iconst 1, 1) := by decide +kernel
theorem dX7_back_45 : decode cX7_back 45 = .ok (.iload_n 1, 1) := by decide +kernel
theorem dX7_back_46 : decode cX7_back 46 = .ok (.iadd, 1) := by decide +kernel
theorem dX7_back_47 : decode cX7_back 47 = .ok (.imul, 1) := by decide +kernel
theorem dX7_back_48 : decode cX7_back 48 = .ok (.iload_n 2, 1) := by decide +kernel
theorem dX7_back_49 : decode cX7_back 49 = .ok (.iadd, 1) := by decide +kernel
theorem dX7_back_50 : decode cX7_back 50 = .ok (.iaload, 1) := by decide +kernel
theorem dX7_back_51 : decode cX7_back 51 = .ok (.iastore, 1) := by decide +kernel
theorem dX7_back_52 : decode cX7_back 52 = .ok (.iinc 2 1, 3) := by decide +kernel
theorem dX7_back_55 : decode cX7_back 55 = .ok (.goto (-30), 3) := by decide +kernel
theorem dX7_back_58 : decode cX7_back 58 = .ok (.aload_n 0, 1) := by decide +kernel
theorem dX7_back_59 : decode cX7_back 59 = .ok (.getfield 35, 3) := by decide +kernel
theorem dX7_back_62 : decode cX7_back 62 = .ok (.bipush 11, 2) := by decide +kernel
theorem dX7_back_64 : decode cX7_back 64 = .ok (.iaload, 1) := by decide +kernel
theorem dX7_back_65 : decode cX7_back 65 = .ok (.ireturn, 1) := by decide +kernel
theorem dX7_count_0 : decode cX7_count 0 = .ok (.iload_n 1, 1) := by decide +kernel
theorem dX7_count_1 : decode cX7_count 1 = .ok (.tableswitch 67 0 4 #[35, 42, 49, 54, 62], 35) := by decide +kernel
theorem dX7_count_36 : decode cX7_count 36 = .ok (.aload_n 0, 1) := by decide +kernel
theorem dX7_count_37 : decode cX7_count 37 = .ok (.getfield 13, 3) := by decide +kernel
theorem dX7_count_40 : decode cX7_count 40 = .ok (.iconst 0, 1) := by decide +kernel
theorem dX7_count_41 : decode cX7_count 41 = .ok (.iaload, 1) := by decide +kernel
theorem dX7_count_42 : decode cX7_count 42 = .ok (.ireturn, 1) := by decide +kernel
theorem dX7_count_43 : decode cX7_count 43 = .ok (.aload_n 0, 1) := by decide +kernel
theorem dX7_count_44 : decode cX7_count 44 = .ok (.getfield 32, 3) := by decide +kernel
theorem dX7_count_47 : decode cX7_count 47 = .ok (.iconst 0, 1) := by decide +kernel
theorem dX7_count_48 : decode cX7_count 48 = .ok (.iaload, 1) := by decide +kernel
theorem dX7_count_49 : decode cX7_count 49 = .ok (.ireturn, 1) := by decide +kernel
theorem dX7_count_50 : decode cX7_count 50 = .ok (.aload_n 0, 1) := by decide +kernel
theorem dX7_count_51 : decode cX7_count 51 = .ok (.getfield 109, 3) := by decide +kernel
theorem dX7_count_54 : decode cX7_count 54 = .ok (.ireturn, 1) := by decide +kernel
theorem dX7_count_55 : decode cX7_count 55 = .ok (.aload_n 0, 1) := by decide +kernel
theorem dX7_count_56 : decode cX7_count 56 = .ok (.getfield 35, 3) := by decide +kernel
theorem dX7_count_59 : decode cX7_count 59 = .ok (.bipush 20, 2) := by decide +kernel
theorem dX7_count_61 : decode cX7_count 61 = .ok (.iaload, 1) := by decide +kernel
theorem dX7_count_62 : decode cX7_count 62 = .ok (.ireturn, 1) := by decide +kernel
theorem dX7_count_63 : decode cX7_count 63 = .ok (.aload_n 0, 1) := by decide +kernel
theorem dX7_count_64 : decode cX7_count 64 = .ok (.getfield 71, 3) := by decide +kernel
theorem dX7_count_67 : decode cX7_count 67 = .ok (.ireturn, 1) := by decide +kernel
theorem dX7_count_68 : decode cX7_count 68 = .ok (.iconst (-1), 1) := by decide +kernel
theorem dX7_count_69 : decode cX7_count 69 = .ok (.ireturn, 1) := by decide +kernel
theorem dX7_trace_0 : decode cX7_trace 0 = .ok (.aload_n 0, 1) := by decide +kernel
theorem dX7_trace_1 : decode cX7_trace 1 = .ok (.getfield 213, 3) := by decide +kernel
theorem dX7_trace_4 : decode cX7_trace 4 = .ok (.lreturn, 1) := by decide +kernel
theorem dJ6_bitCount_0f7a4_0 : decode cJ6_bitCount_0f7a4 0 = .ok (.iload_n 0, 1) := by decide +kernel
theorem dJ6_bitCount_0f7a4_1 : decode cJ6_bitCount_0f7a4 1 = .ok (.iload_n 0, 1) := by decide +kernel
theorem dJ6_bitCount_0f7a4_2 : decode cJ6_bitCount_0f7a4 2 = .ok (.iconst 1, 1) := by decide +kernel
theorem dJ6_bitCount_0f7a4_3 : decode cJ6_bitCount_0f7a4 3 = .ok (.iushr, 1) := by decide +kernel
theorem dJ6_bitCount_0f7a4_4 : decode cJ6_bitCount_0f7a4 4 = .ok (.ldc_w 265, 3) := by decide +kernel
theorem dJ6_bitCount_0f7a4_7 : decode cJ6_bitCount_0f7a4 7 = .ok (.iand, 1) := by decide +kernel
theorem dJ6_bitCount_0f7a4_8 : decode cJ6_bitCount_0f7a4 8 = .ok (.isub, 1) := by decide +kernel
theorem dJ6_bitCount_0f7a4_9 : decode cJ6_bitCount_0f7a4 9 = .ok (.istore_n 0, 1) := by decide +kernel
theorem dJ6_bitCount_0f7a4_10 : decode cJ6_bitCount_0f7a4 10 = .ok (.iload_n 0, 1) := by decide +kernel
theorem dJ6_bitCount_0f7a4_11 : decode cJ6_bitCount_0f7a4 11 = .ok (.ldc_w 266, 3) := by decide +kernel
theorem dJ6_bitCount_0f7a4_14 : decode cJ6_bitCount_0f7a4 14 = .ok (.iand, 1) := by decide +kernel
theorem dJ6_bitCount_0f7a4_15 : decode cJ6_bitCount_0f7a4 15 = .ok (.iload_n 0, 1) := by decide +kernel
theorem dJ6_bitCount_0f7a4_16 : decode cJ6_bitCount_0f7a4 16 = .ok (.iconst 2, 1) := by decide +kernel
theorem dJ6_bitCount_0f7a4_17 : decode cJ6_bitCount_0f7a4 17 = .ok (.iushr, 1) := by decide +kernel
theorem dJ6_bitCount_0f7a4_18 : decode cJ6_bitCount_0f7a4 18 = .ok (.ldc_w 266, 3) := by decide +kernel
theorem dJ6_bitCount_0f7a4_21 : decode cJ6_bitCount_0f7a4 21 = .ok (.iand, 1) := by decide +kernel
theorem dJ6_bitCount_0f7a4_22 : decode cJ6_bitCount_0f7a4 22 = .ok (.iadd, 1) := by decide +kernel
theorem dJ6_bitCount_0f7a4_23 : decode cJ6_bitCount_0f7a4 23 = .ok (.istore_n 0, 1) := by decide +kernel
theorem dJ6_bitCount_0f7a4_24 : decode cJ6_bitCount_0f7a4 24 = .ok (.iload_n 0, 1) := by decide +kernel
theorem dJ6_bitCount_0f7a4_25 : decode cJ6_bitCount_0f7a4 25 = .ok (.iload_n 0, 1) := by decide +kernel
theorem dJ6_bitCount_0f7a4_26 : decode cJ6_bitCount_0f7a4 26 = .ok (.iconst 4, 1) := by decide +kernel
theorem dJ6_bitCount_0f7a4_27 : decode cJ6_bitCount_0f7a4 27 = .ok (.iushr, 1) := by decide +kernel
theorem dJ6_bitCount_0f7a4_28 : decode cJ6_bitCount_0f7a4 28 = .ok (.iadd, 1) := by decide +kernel
theorem dJ6_bitCount_0f7a4_29 : decode cJ6_bitCount_0f7a4 29 = .ok (.ldc_w 267, 3) := by decide +kernel
theorem dJ6_bitCount_0f7a4_32 : decode cJ6_bitCount_0f7a4 32 = .ok (.iand, 1) := by decide +kernel
theorem dJ6_bitCount_0f7a4_33 : decode cJ6_bitCount_0f7a4 33 = .ok (.istore_n 0, 1) := by decide +kernel
theorem dJ6_bitCount_0f7a4_34 : decode cJ6_bitCount_0f7a4 34 = .ok (.iload_n 0, 1) := by decide +kernel
theorem dJ6_bitCount_0f7a4_35 : decode cJ6_bitCount_0f7a4 35 = .ok (.iload_n 0, 1) := by decide +kernel
theorem dJ6_bitCount_0f7a4_36 : decode cJ6_bitCount_0f7a4 36 = .ok (.bipush 8, 2) := by decide +kernel
theorem dJ6_bitCount_0f7a4_38 : decode cJ6_bitCount_0f7a4 38 = .ok (.iushr, 1) := by decide +kernel
theorem dJ6_bitCount_0f7a4_39 : decode cJ6_bitCount_0f7a4 39 = .ok (.iadd, 1) := by decide +kernel
theorem dJ6_bitCount_0f7a4_40 : decode cJ6_bitCount_0f7a4 40 = .ok (.istore_n 0, 1) := by decide +kernel
theorem dJ6_bitCount_0f7a4_41 : decode cJ6_bitCount_0f7a4 41 = .ok (.iload_n 0, 1) := by decide +kernel
theorem dJ6_bitCount_0f7a4_42 : decode cJ6_bitCount_0f7a4 42 = .ok (.iload_n 0, 1) := by decide +kernel
theorem dJ6_bitCount_0f7a4_43 : decode cJ6_bitCount_0f7a4 43 = .ok (.bipush 16, 2) := by decide +kernel
theorem dJ6_bitCount_0f7a4_45 : decode cJ6_bitCount_0f7a4 45 = .ok (.iushr, 1) := by decide +kernel
theorem dJ6_bitCount_0f7a4_46 : decode cJ6_bitCount_0f7a4 46 = .ok (.iadd, 1) := by decide +kernel
theorem dJ6_bitCount_0f7a4_47 : decode cJ6_bitCount_0f7a4 47 = .ok (.istore_n 0, 1) := by decide +kernel
theorem dJ6_bitCount_0f7a4_48 : decode cJ6_bitCount_0f7a4 48 = .ok (.iload_n 0, 1) := by decide +kernel
theorem dJ6_bitCount_0f7a4_49 : decode cJ6_bitCount_0f7a4 49 = .ok (.bipush 63, 2) := by decide +kernel
theorem dJ6_bitCount_0f7a4_51 : decode cJ6_bitCount_0f7a4 51 = .ok (.iand, 1) := by decide +kernel
theorem dJ6_bitCount_0f7a4_52 : decode cJ6_bitCount_0f7a4 52 = .ok (.ireturn, 1) := by decide +kernel
theorem dJ9_min_7cf53_0 : decode cJ9_min_7cf53 0 = .ok (.iload_n 0, 1) := by decide +kernel
theorem dJ9_min_7cf53_1 : decode cJ9_min_7cf53 1 = .ok (.iload_n 1, 1) := by decide +kernel
theorem dJ9_min_7cf53_2 : decode cJ9_min_7cf53 2 = .ok (.if_icmp .gt 7, 3) := by decide +kernel
theorem dJ9_min_7cf53_5 : decode cJ9_min_7cf53 5 = .ok (.iload_n 0, 1) := by decide +kernel
theorem dJ9_min_7cf53_6 : decode cJ9_min_7cf53 6 = .ok (.goto 4, 3) := by decide +kernel
theorem dJ9_min_7cf53_9 : decode cJ9_min_7cf53 9 = .ok (.iload_n 1, 1) := by decide +kernel
theorem dJ9_min_7cf53_10 : decode cJ9_min_7cf53 10 = .ok (.ireturn, 1) := by decide +kernel
theorem dL_law_0 : decode cL_law 0 = .ok (.new 7, 3) := by decide +kernel
theorem dL_law_3 : decode cL_law 3 = .ok (.dup, 1) := by decide +kernel
theorem dL_law_4 : decode cL_law 4 = .ok (.invokespecial 9, 3) := by decide +kernel
theorem dL_law_7 : decode cL_law 7 = .ok (.astore_n 1, 1) := by decide +kernel
theorem dL_law_8 : decode cL_law 8 = .ok (.new 10, 3) := by decide +kernel
theorem dL_law_11 : decode cL_law 11 = .ok (.dup, 1) := by decide +kernel
theorem dL_law_12 : decode cL_law 12 = .ok (.invokespecial 12, 3) := by decide +kernel
theorem dL_law_15 : decode cL_law 15 = .ok (.astore_n 2, 1) := by decide +kernel
theorem dL_law_16 : decode cL_law 16 = .ok (.iconst 0, 1) := by decide +kernel
theorem dL_law_17 : decode cL_law 17 = .ok (.istore_n 3, 1) := by decide +kernel
theorem dL_law_18 : decode cL_law 18 = .ok (.iload_n 3, 1) := by decide +kernel
theorem dL_law_19 : decode cL_law 19 = .ok (.aload_n 0, 1) := by decide +kernel
theorem dL_law_20 : decode cL_law 20 = .ok (.arraylength, 1) := by decide +kernel
theorem dL_law_21 : decode cL_law 21 = .ok (.iconst 4, 1) := by decide +kernel
theorem dL_law_22 : decode cL_law 22 = .ok (.isub, 1) := by decide +kernel
theorem dL_law_23 : decode cL_law 23 = .ok (.if_icmp .gt 805, 3) := by decide +kernel
theorem dL_law_26 : decode cL_law 26 = .ok (.aload_n 0, 1) := by decide +kernel
theorem dL_law_27 : decode cL_law 27 = .ok (.iload_n 3, 1) := by decide +kernel
theorem dL_law_28 : decode cL_law 28 = .ok (.iaload, 1) := by decide +kernel
theorem dL_law_29 : decode cL_law 29 = .ok (.bipush 31, 2) := by decide +kernel
theorem dL_law_31 : decode cL_law 31 = .ok (.iand, 1) := by decide +kernel
theorem dL_law_32 : decode cL_law 32 = .ok (.tableswitch 790 0 26 #[124, 147, 160, 173, 206, 229, 252, 285, 318, 341, 354, 377, 411, 445, 479, 492, 515, 538, 582, 605, 638, 651, 674, 707, 730, 753, 776], 124) := by decide +kernel
theorem dL_law_156 : decode cL_law 156 = .ok (.aload_n 1, 1) := by decide +kernel
theorem dL_law_157 : decode cL_law 157 = .ok (.aload_n 0, 1) := by decide +kernel
theorem dL_law_158 : decode cL_law 158 = .ok (.iload_n 3, 1) := by decide +kernel
theorem dL_law_159 : decode cL_law 159 = .ok (.iconst 1, 1) := by decide +kernel
theorem dL_law_160 : decode cL_law 160 = .ok (.iadd, 1) := by decide +kernel
theorem dL_law_161 : decode cL_law 161 = .ok (.iaload, 1) := by decide +kernel
theorem dL_law_162 : decode cL_law 162 = .ok (.invokevirtual 13, 3) := by decide +kernel
theorem dL_law_165 : decode cL_law 165 = .ok (.aload_n 2, 1) := by decide +kernel
theorem dL_law_166 : decode cL_law 166 = .ok (.aload_n 0, 1) := by decide +kernel
theorem dL_law_167 : decode cL_law 167 = .ok (.iload_n 3, 1) := by decide +kernel
theorem dL_law_168 : decode cL_law 168 = .ok (.iconst 1, 1) := by decide +kernel
theorem dL_law_169 : decode cL_law 169 = .ok (.iadd, 1) := by decide +kernel
theorem dL_law_170 : decode cL_law 170 = .ok (.iaload, 1) := by decide +kernel
theorem dL_law_171 : decode cL_law 171 = .ok (.invokevirtual 17, 3) := by decide +kernel
theorem dL_law_174 : decode cL_law 174 = .ok (.if_icmp .eq 648, 3) := by decide +kernel
theorem dL_law_177 : decode cL_law 177 = .ok (.iconst 0, 1) := by decide +kernel
theorem dL_law_178 : decode cL_law 178 = .ok (.ireturn, 1) := by decide +kernel
theorem dL_law_179 : decode cL_law 179 = .ok (.aload_n 1, 1) := by decide +kernel
theorem dL_law_180 : decode cL_law 180 = .ok (.invokevirtual 18, 3) := by decide +kernel
theorem dL_law_183 : decode cL_law 183 = .ok (.aload_n 2, 1) := by decide +kernel
theorem dL_law_184 : decode cL_law 184 = .ok (.invokevirtual 22, 3) := by decide +kernel
theorem dL_law_187 : decode cL_law 187 = .ok (.if_icmp .eq 635, 3) := by decide +kernel
theorem dL_law_190 : decode cL_law 190 = .ok (.iconst 0, 1) := by decide +kernel
theorem dL_law_191 : decode cL_law 191 = .ok (.ireturn, 1) := by decide +kernel
theorem dL_law_192 : decode cL_law 192 = .ok (.aload_n 1, 1) := by decide +kernel
theorem dL_law_193 : decode cL_law 193 = .ok (.invokevirtual 23, 3) := by decide +kernel
theorem dL_law_196 : decode cL_law 196 = .ok (.aload_n 2, 1) := by decide +kernel
theorem dL_law_197 : decode cL_law 197 = .ok (.invokevirtual 26, 3) := by decide +kernel
theorem dL_law_200 : decode cL_law 200 = .ok (.if_icmp .eq 622, 3) := by decide +kernel
theorem dL_law_203 : decode cL_law 203 = .ok (.iconst 0, 1) := by decide +kernel
theorem dL_law_204 : decode cL_law 204 = .ok (.ireturn, 1) := by decide +kernel
theorem dL_law_205 : decode cL_law 205 = .ok (.aload_n 1, 1) := by decide +kernel
theorem dL_law_206 : decode cL_law 206 = .ok (.aload_n 0, 1) := by decide +kernel
theorem dL_law_207 : decode cL_law 207 = .ok (.iload_n 3, 1) := by decide +kernel
theorem dL_law_208 : decode cL_law 208 = .ok (.iconst 1, 1) := by decide +kernel
theorem dL_law_209 : decode cL_law 209 = .ok (.iadd, 1) := by decide +kernel
theorem dL_law_210 : decode cL_law 210 = .ok (.iaload, 1) := by decide +kernel
theorem dL_law_211 : decode cL_law 211 = .ok (.aload_n 0, 1) := by decide +kernel
theorem dL_law_212 : decode cL_law 212 = .ok (.iload_n 3, 1) := by decide +kernel
theorem dL_law_213 : decode cL_law 213 = .ok (.iconst 2, 1) := by decide +kernel
theorem dL_law_214 : decode cL_law 214 = .ok (.iadd, 1) := by decide +kernel
theorem dL_law_215 : decode cL_law 215 = .ok (.iaload, 1) := by decide +kernel
theorem dL_law_216 : decode cL_law 216 = .ok (.invokevirtual 27, 3) := by decide +kernel
theorem dL_law_219 : decode cL_law 219 = .ok (.aload_n 2, 1) := by decide +kernel
theorem dL_law_220 : decode cL_law 220 = .ok (.aload_n 0, 1) := by decide +kernel
theorem dL_law_221 : decode cL_law 221 = .ok (.iload_n 3, 1) := by decide +kernel
theorem dL_law_222 : decode cL_law 222 = .ok (.iconst 1, 1) := by decide +kernel
theorem dL_law_223 : decode cL_law 223 = .ok (.iadd, 1) := by decide +kernel
theorem dL_law_224 : decode cL_law 224 = .ok (.iaload, 1) := by decide +kernel
theorem dL_law_225 : decode cL_law 225 = .ok (.aload_n 0, 1) := by decide +kernel
theorem dL_law_226 : decode cL_law 226 = .ok (.iload_n 3, 1) := by decide +kernel
theorem dL_law_227 : decode cL_law 227 = .ok (.iconst 2, 1) := by decide +kernel
theorem dL_law_228 : decode cL_law 228 = .ok (.iadd, 1) := by decide +kernel
theorem dL_law_229 : decode cL_law 229 = .ok (.iaload, 1) := by decide +kernel
theorem dL_law_230 : decode cL_law 230 = .ok (.invokevirtual 31, 3) := by decide +kernel
theorem dL_law_233 : decode cL_law 233 = .ok (.if_icmp .eq 589, 3) := by decide +kernel
theorem dL_law_236 : decode cL_law 236 = .ok (.iconst 0, 1) := by decide +kernel
theorem dL_law_237 : decode cL_law 237 = .ok (.ireturn, 1) := by decide +kernel
theorem dL_law_238 : decode cL_law 238 = .ok (.aload_n 1, 1) := by decide +kernel
theorem dL_law_239 : decode cL_law 239 = .ok (.aload_n 0, 1) := by decide +kernel
theorem dL_law_240 : decode cL_law 240 = .ok (.iload_n 3, 1) := by decide +kernel
theorem dL_law_241 : decode cL_law 241 = .ok (.iconst 1, 1) := by decide +kernel
theorem dL_law_242 : decode cL_law 242 = .ok (.iadd, 1) := by decide +kernel
theorem dL_law_243 : decode cL_law 243 = .ok (.iaload, 1) := by decide +kernel
theorem dL_law_244 : decode cL_law 244 = .ok (.invokevirtual 32, 3) := by decide +kernel
theorem dL_law_247 : decode cL_law 247 = .ok (.aload_n 2, 1) := by decide +kernel
theorem dL_law_248 : decode cL_law 248 = .ok (.aload_n 0, 1) := by decide +kernel
theorem dL_law_249 : decode cL_law 249 = .ok (.iload_n 3, 1) := by decide +kernel
theorem dL_law_250 : decode cL_law 250 = .ok (.iconst 1, 1) := by decide +kernel
theorem dL_law_251 : decode cL_law 251 = .ok (.iadd, 1) := by decide +kernel
theorem dL_law_252 : decode cL_law 252 = .ok (.iaload, 1) := by decide +kernel
theorem dL_law_253 : decode cL_law 253 = .ok (.invokevirtual 35, 3) := by decide +kernel
theorem dL_law_256 : decode cL_law 256 = .ok (.if_icmp .eq 566, 3) := by decide +kernel
theorem dL_law_259 : decode cL_law 259 = .ok (.iconst 0, 1) := by decide +kernel
theorem dL_law_260 : decode cL_law 260 = .ok (.ireturn, 1) := by decide +kernel
theorem dL_law_261 : decode cL_law 261 = .ok (.aload_n 1, 1) := by decide +kernel
theorem dL_law_262 : decode cL_law 262 = .ok (.aload_n 0, 1) := by decide +kernel
theorem dL_law_263 : decode cL_law 263 = .ok (.iload_n 3, 1) := by decide +kernel
theorem dL_law_264 : decode cL_law 264 = .ok (.iconst 1, 1) := by decide +kernel
theorem dL_law_265 : decode cL_law 265 = .ok (.iadd, 1) := by decide +kernel
theorem dL_law_266 : decode cL_law 266 = .ok (.iaload, 1) := by decide +kernel
theorem dL_law_267 : decode cL_law 267 = .ok (.invokevirtual 36, 3) := by decide +kernel
theorem dL_law_270 : decode cL_law 270 = .ok (.aload_n 2, 1) := by decide +kernel
theorem dL_law_271 : decode cL_law 271 = .ok (.aload_n 0, 1) := by decide +kernel
theorem dL_law_272 : decode cL_law 272 = .ok (.iload_n 3, 1) := by decide +kernel
theorem dL_law_273 : decode cL_law 273 = .ok (.iconst 1, 1) := by decide +kernel
theorem dL_law_274 : decode cL_law 274 = .ok (.iadd, 1) := by decide +kernel
theorem dL_law_275 : decode cL_law 275 = .ok (.iaload, 1) := by decide +kernel
theorem dL_law_276 : decode cL_law 276 = .ok (.invokevirtual 39, 3) := by decide +kernel
theorem dL_law_279 : decode cL_law 279 = .ok (.if_icmp .eq 543, 3) := by decide +kernel
theorem dL_law_282 : decode cL_law 282 = .ok (.iconst 0, 1) := by decide +kernel
theorem dL_law_283 : decode cL_law 283 = .ok (.ireturn, 1) := by decide +kernel
theorem dL_law_284 : decode cL_law 284 = .ok (.aload_n 1, 1) := by decide +kernel
theorem dL_law_285 : decode cL_law 285 = .ok (.aload_n 0, 1) := by decide +kernel
theorem dL_law_286 : decode cL_law 286 = .ok (.iload_n 3, 1) := by decide +kernel
theorem dL_law_287 : decode cL_law 287 = .ok (.iconst 1, 1) := by decide +kernel
theorem dL_law_288 : decode cL_law 288 = .ok (.iadd, 1) := by decide +kernel
theorem dL_law_289 : decode cL_law 289 = .ok (.iaload, 1) := by decide +kernel
theorem dL_law_290 : decode cL_law 290 = .ok (.aload_n 0, 1) := by decide +kernel
theorem dL_law_291 : decode cL_law 291 = .ok (.iload_n 3, 1) := by decide +kernel
theorem dL_law_292 : decode cL_law 292 = .ok (.iconst 2, 1) := by decide +kernel
theorem dL_law_293 : decode cL_law 293 = .ok (.iadd, 1) := by decide +kernel
theorem dL_law_294 : decode cL_law 294 = .ok (.iaload, 1) := by decide +kernel
theorem dL_law_295 : decode cL_law 295 = .ok (.invokevirtual 40, 3) := by decide +kernel
theorem dL_law_298 : decode cL_law 298 = .ok (.aload_n 2, 1) := by decide +kernel
theorem dL_law_299 : decode cL_law 299 = .ok (.aload_n 0, 1) := by decide +kernel
theorem dL_law_300 : decode cL_law 300 = .ok (.iload_n 3, 1) := by decide +kernel
theorem dL_law_301 : decode cL_law 301 = .ok (.iconst 1, 1) := by decide +kernel
theorem dL_law_302 : decode cL_law 302 = .ok (.iadd, 1) := by decide +kernel
theorem dL_law_303 : decode cL_law 303 = .ok (.iaload, 1) := by decide +kernel
theorem dL_law_304 : decode cL_law 304 = .ok (.aload_n 0, 1) := by decide +kernel
theorem dL_law_305 : decode cL_law 305 = .ok (.iload_n 3, 1) := by decide +kernel
theorem dL_law_306 : decode cL_law 306 = .ok (.iconst 2, 1) := by decide +kernel
theorem dL_law_307 : decode cL_law 307 = .ok (.iadd, 1) := by decide +kernel
theorem dL_law_308 : decode cL_law 308 = .ok (.iaload, 1) := by decide +kernel
theorem dL_law_309 : decode cL_law 309 = .ok (.invokevirtual 43, 3) := by decide +kernel
theorem dL_law_312 : decode cL_law 312 = .ok (.if_icmp .eq 510, 3) := by decide +kernel
theorem dL_law_315 : decode cL_law 315 = .ok (.iconst 0, 1) := by decide +kernel
theorem dL_law_316 : decode cL_law 316 = .ok (.ireturn, 1) := by decide +kernel
theorem dL_law_317 : decode cL_law 317 = .ok (.aload_n 1, 1) := by decide +kernel
theorem dL_law_318 : decode cL_law 318 = .ok (.aload_n 0, 1) := by decide +kernel
theorem dL_law_319 : decode cL_law 319 = .ok (.iload_n 3, 1) := by decide +kernel
theorem dL_law_320 : decode cL_law 320 = .ok (.iconst 1, 1) := by decide +kernel
theorem dL_law_321 : decode cL_law 321 = .ok (.iadd, 1) := by decide +kernel
theorem dL_law_322 : decode cL_law 322 = .ok (.iaload, 1) := by decide +kernel
theorem dL_law_323 : decode cL_law 323 = .ok (.aload_n 0, 1) := by decide +kernel
theorem dL_law_324 : decode cL_law 324 = .ok (.iload_n 3, 1) := by decide +kernel
theorem dL_law_325 : decode cL_law 325 = .ok (.iconst 2, 1) := by decide +kernel
theorem dL_law_326 : decode cL_law 326 = .ok (.iadd, 1) := by decide +kernel
theorem dL_law_327 : decode cL_law 327 = .ok (.iaload, 1) := by decide +kernel
theorem dL_law_328 : decode cL_law 328 = .ok (.invokevirtual 44, 3) := by decide +kernel
theorem dL_law_331 : decode cL_law 331 = .ok (.aload_n 2, 1) := by decide +kernel
theorem dL_law_332 : decode cL_law 332 = .ok (.aload_n 0, 1) := by decide +kernel
theorem dL_law_333 : decode cL_law 333 = .ok (.iload_n 3, 1) := by decide +kernel
theorem dL_law_334 : decode cL_law 334 = .ok (.iconst 1, 1) := by decide +kernel
theorem dL_law_335 : decode cL_law 335 = .ok (.iadd, 1) := by decide +kernel
theorem dL_law_336 : decode cL_law 336 = .ok (.iaload, 1) := by decide +kernel
theorem dL_law_337 : decode cL_law 337 = .ok (.aload_n 0, 1) := by decide +kernel
theorem dL_law_338 : decode cL_law 338 = .ok (.iload_n 3, 1) := by decide +kernel
theorem dL_law_339 : decode cL_law 339 = .ok (.iconst 2, 1) := by decide +kernel
theorem dL_law_340 : decode cL_law 340 = .ok (.iadd, 1) := by decide +kernel
theorem dL_law_341 : decode cL_law 341 = .ok (.iaload, 1) := by decide +kernel
theorem dL_law_342 : decode cL_law 342 = .ok (.invokevirtual 47, 3) := by decide +kernel
theorem dL_law_345 : decode cL_law 345 = .ok (.if_icmp .eq 477, 3) := by decide +kernel
theorem dL_law_348 : decode cL_law 348 = .ok (.iconst 0, 1) := by decide +kernel
theorem dL_law_349 : decode cL_law 349 = .ok (.ireturn, 1) := by decide +kernel
theorem dL_law_350 : decode cL_law 350 = .ok (.aload_n 1, 1) := by decide +kernel
theorem dL_law_351 : decode cL_law 351 = .ok (.aload_n 0, 1) := by decide +kernel
theorem dL_law_352 : decode cL_law 352 = .ok (.iload_n 3, 1) := by decide +kernel
theorem dL_law_353 : decode cL_law 353 = .ok (.iconst 1, 1) := by decide +kernel
theorem dL_law_354 : decode cL_law 354 = .ok (.iadd, 1) := by decide +kernel
theorem dL_law_355 : decode cL_law 355 = .ok (.iaload, 1) := by decide +kernel
theorem dL_law_356 : decode cL_law 356 = .ok (.invokevirtual 48, 3) := by decide +kernel
theorem dL_law_359 : decode cL_law 359 = .ok (.aload_n 2, 1) := by decide +kernel
theorem dL_law_360 : decode cL_law 360 = .ok (.aload_n 0, 1) := by decide +kernel
theorem dL_law_361 : decode cL_law 361 = .ok (.iload_n 3, 1) := by decide +kernel
theorem dL_law_362 : decode cL_law 362 = .ok (.iconst 1, 1) := by decide +kernel
theorem dL_law_363 : decode cL_law 363 = .ok (.iadd, 1) := by decide +kernel
theorem dL_law_364 : decode cL_law 364 = .ok (.iaload, 1) := by decide +kernel
theorem dL_law_365 : decode cL_law 365 = .ok (.invokevirtual 51, 3) := by decide +kernel
theorem dL_law_368 : decode cL_law 368 = .ok (.if_icmp .eq 454, 3) := by decide +kernel
theorem dL_law_371 : decode cL_law 371 = .ok (.iconst 0, 1) := by decide +kernel
theorem dL_law_372 : decode cL_law 372 = .ok (.ireturn, 1) := by decide +kernel
theorem dL_law_373 : decode cL_law 373 = .ok (.aload_n 1, 1) := by decide +kernel
theorem dL_law_374 : decode cL_law 374 = .ok (.invokevirtual 52, 3) := by decide +kernel
theorem dL_law_377 : decode cL_law 377 = .ok (.aload_n 2, 1) := by decide +kernel
theorem dL_law_378 : decode cL_law 378 = .ok (.invokevirtual 55, 3) := by decide +kernel
theorem dL_law_381 : decode cL_law 381 = .ok (.if_icmp .eq 441, 3) := by decide +kernel
theorem dL_law_384 : decode cL_law 384 = .ok (.iconst 0, 1) := by decide +kernel
theorem dL_law_385 : decode cL_law 385 = .ok (.ireturn, 1) := by decide +kernel
theorem dL_law_386 : decode cL_law 386 = .ok (.aload_n 1, 1) := by decide +kernel
theorem dL_law_387 : decode cL_law 387 = .ok (.aload_n 0, 1) := by decide +kernel
theorem dL_law_388 : decode cL_law 388 = .ok (.iload_n 3, 1) := by decide +kernel
theorem dL_law_389 : decode cL_law 389 = .ok (.iconst 1, 1) := by decide +kernel
theorem dL_law_390 : decode cL_law 390 = .ok (.iadd, 1) := by decide +kernel
theorem dL_law_391 : decode cL_law 391 = .ok (.iaload, 1) := by decide +kernel
theorem dL_law_392 : decode cL_law 392 = .ok (.invokevirtual 56, 3) := by decide +kernel
theorem dL_law_395 : decode cL_law 395 = .ok (.aload_n 2, 1) := by decide +kernel
theorem dL_law_396 : decode cL_law 396 = .ok (.aload_n 0, 1) := by decide +kernel
theorem dL_law_397 : decode cL_law 397 = .ok (.iload_n 3, 1) := by decide +kernel
theorem dL_law_398 : decode cL_law 398 = .ok (.iconst 1, 1) := by decide +kernel
theorem dL_law_399 : decode cL_law 399 = .ok (.iadd, 1) := by decide +kernel
theorem dL_law_400 : decode cL_law 400 = .ok (.iaload, 1) := by decide +kernel
theorem dL_law_401 : decode cL_law 401 = .ok (.invokevirtual 59, 3) := by decide +kernel
theorem dL_law_404 : decode cL_law 404 = .ok (.if_icmp .eq 418, 3) := by decide +kernel
theorem dL_law_407 : decode cL_law 407 = .ok (.iconst 0, 1) := by decide +kernel
theorem dL_law_408 : decode cL_law 408 = .ok (.ireturn, 1) := by decide +kernel
theorem dL_law_409 : decode cL_law 409 = .ok (.aload_n 1, 1) := by decide +kernel
theorem dL_law_410 : decode cL_law 410 = .ok (.aload_n 0, 1) := by decide +kernel
theorem dL_law_411 : decode cL_law 411 = .ok (.iload_n 3, 1) := by decide +kernel
theorem dL_law_412 : decode cL_law 412 = .ok (.iconst 1, 1) := by decide +kernel
theorem dL_law_413 : decode cL_law 413 = .ok (.iadd, 1) := by decide +kernel
theorem dL_law_414 : decode cL_law 414 = .ok (.iaload, 1) := by decide +kernel
theorem dL_law_415 : decode cL_law 415 = .ok (.aload_n 0, 1) := by decide +kernel
theorem dL_law_416 : decode cL_law 416 = .ok (.iload_n 3, 1) := by decide +kernel
theorem dL_law_417 : decode cL_law 417 = .ok (.iconst 2, 1) := by decide +kernel
theorem dL_law_418 : decode cL_law 418 = .ok (.iadd, 1) := by decide +kernel
theorem dL_law_419 : decode cL_law 419 = .ok (.iaload, 1) := by decide +kernel
theorem dL_law_420 : decode cL_law 420 = .ok (.invokevirtual 60, 3) := by decide +kernel
theorem dL_law_423 : decode cL_law 423 = .ok (.aload_n 2, 1) := by decide +kernel
theorem dL_law_424 : decode cL_law 424 = .ok (.aload_n 0, 1) := by decide +kernel
theorem dL_law_425 : decode cL_law 425 = .ok (.iload_n 3, 1) := by decide +kernel
theorem dL_law_426 : decode cL_law 426 = .ok (.iconst 1, 1) := by decide +kernel
theorem dL_law_427 : decode cL_law 427 = .ok (.iadd, 1) := by decide +kernel
theorem dL_law_428 : decode cL_law 428 = .ok (.iaload, 1) := by decide +kernel
theorem dL_law_429 : decode cL_law 429 = .ok (.aload_n 0, 1) := by decide +kernel
theorem dL_law_430 : decode cL_law 430 = .ok (.iload_n 3, 1) := by decide +kernel
theorem dL_law_431 : decode cL_law 431 = .ok (.iconst 2, 1) := by decide +kernel
theorem dL_law_432 : decode cL_law 432 = .ok (.iadd, 1) := by decide +kernel
theorem dL_law_433 : decode cL_law 433 = .ok (.iaload, 1) := by decide +kernel
theorem dL_law_434 : decode cL_law 434 = .ok (.invokevirtual 64, 3) := by decide +kernel
theorem dL_law_437 : decode cL_law 437 = .ok (.lcmp, 1) := by decide +kernel
theorem dL_law_438 : decode cL_law 438 = .ok (.ifCond .eq 384, 3) := by decide +kernel
theorem dL_law_441 : decode cL_law 441 = .ok (.iconst 0, 1) := by decide +kernel
theorem dL_law_442 : decode cL_law 442 = .ok (.ireturn, 1) := by decide +kernel
theorem dL_law_443 : decode cL_law 443 = .ok (.aload_n 1, 1) := by decide +kernel
theorem dL_law_444 : decode cL_law 444 = .ok (.aload_n 0, 1) := by decide +kernel
theorem dL_law_445 : decode cL_law 445 = .ok (.iload_n 3, 1) := by decide +kernel
theorem dL_law_446 : decode cL_law 446 = .ok (.iconst 1, 1) := by decide +kernel
theorem dL_law_447 : decode cL_law 447 = .ok (.iadd, 1) := by decide +kernel
theorem dL_law_448 : decode cL_law 448 = .ok (.iaload, 1) := by decide +kernel
theorem dL_law_449 : decode cL_law 449 = .ok (.aload_n 0, 1) := by decide +kernel
theorem dL_law_450 : decode cL_law 450 = .ok (.iload_n 3, 1) := by decide +kernel
theorem dL_law_451 : decode cL_law 451 = .ok (.iconst 2, 1) := by decide +kernel
theorem dL_law_452 : decode cL_law 452 = .ok (.iadd, 1) := by decide +kernel
theorem dL_law_453 : decode cL_law 453 = .ok (.iaload, 1) := by decide +kernel
theorem dL_law_454 : decode cL_law 454 = .ok (.invokevirtual 65, 3) := by decide +kernel
theorem dL_law_457 : decode cL_law 457 = .ok (.aload_n 2, 1) := by decide +kernel
theorem dL_law_458 : decode cL_law 458 = .ok (.aload_n 0, 1) := by decide +kernel
theorem dL_law_459 : decode cL_law 459 = .ok (.iload_n 3, 1) := by decide +kernel
theorem dL_law_460 : decode cL_law 460 = .ok (.iconst 1, 1) := by decide +kernel
theorem dL_law_461 : decode cL_law 461 = .ok (.iadd, 1) := by decide +kernel
theorem dL_law_462 : decode cL_law 462 = .ok (.iaload, 1) := by decide +kernel
theorem dL_law_463 : decode cL_law 463 = .ok (.aload_n 0, 1) := by decide +kernel
theorem dL_law_464 : decode cL_law 464 = .ok (.iload_n 3, 1) := by decide +kernel
theorem dL_law_465 : decode cL_law 465 = .ok (.iconst 2, 1) := by decide +kernel
theorem dL_law_466 : decode cL_law 466 = .ok (.iadd, 1) := by decide +kernel
theorem dL_law_467 : decode cL_law 467 = .ok (.iaload, 1) := by decide +kernel
theorem dL_law_468 : decode cL_law 468 = .ok (.invokevirtual 68, 3) := by decide +kernel
theorem dL_law_471 : decode cL_law 471 = .ok (.lcmp, 1) := by decide +kernel
theorem dL_law_472 : decode cL_law 472 = .ok (.ifCond .eq 350, 3) := by decide +kernel
theorem dL_law_475 : decode cL_law 475 = .ok (.iconst 0, 1) := by decide +kernel
theorem dL_law_476 : decode cL_law 476 = .ok (.ireturn, 1) := by decide +kernel
theorem dL_law_477 : decode cL_law 477 = .ok (.aload_n 1, 1) := by decide +kernel
theorem dL_law_478 : decode cL_law 478 = .ok (.aload_n 0, 1) := by decide +kernel
theorem dL_law_479 : decode cL_law 479 = .ok (.iload_n 3, 1) := by decide +kernel
theorem dL_law_480 : decode cL_law 480 = .ok (.iconst 1, 1) := by decide +kernel
theorem dL_law_481 : decode cL_law 481 = .ok (.iadd, 1) := by decide +kernel
theorem dL_law_482 : decode cL_law 482 = .ok (.iaload, 1) := by decide +kernel
theorem dL_law_483 : decode cL_law 483 = .ok (.aload_n 0, 1) := by decide +kernel
theorem dL_law_484 : decode cL_law 484 = .ok (.iload_n 3, 1) := by decide +kernel
theorem dL_law_485 : decode cL_law 485 = .ok (.iconst 2, 1) := by decide +kernel
theorem dL_law_486 : decode cL_law 486 = .ok (.iadd, 1) := by decide +kernel
theorem dL_law_487 : decode cL_law 487 = .ok (.iaload, 1) := by decide +kernel
theorem dL_law_488 : decode cL_law 488 = .ok (.invokevirtual 69, 3) := by decide +kernel
theorem dL_law_491 : decode cL_law 491 = .ok (.aload_n 2, 1) := by decide +kernel
theorem dL_law_492 : decode cL_law 492 = .ok (.aload_n 0, 1) := by decide +kernel
theorem dL_law_493 : decode cL_law 493 = .ok (.iload_n 3, 1) := by decide +kernel
theorem dL_law_494 : decode cL_law 494 = .ok (.iconst 1, 1) := by decide +kernel
theorem dL_law_495 : decode cL_law 495 = .ok (.iadd, 1) := by decide +kernel
theorem dL_law_496 : decode cL_law 496 = .ok (.iaload, 1) := by decide +kernel
theorem dL_law_497 : decode cL_law 497 = .ok (.aload_n 0, 1) := by decide +kernel
theorem dL_law_498 : decode cL_law 498 = .ok (.iload_n 3, 1) := by decide +kernel
theorem dL_law_499 : decode cL_law 499 = .ok (.iconst 2, 1) := by decide +kernel
theorem dL_law_500 : decode cL_law 500 = .ok (.iadd, 1) := by decide +kernel
theorem dL_law_501 : decode cL_law 501 = .ok (.iaload, 1) := by decide +kernel
theorem dL_law_502 : decode cL_law 502 = .ok (.invokevirtual 72, 3) := by decide +kernel
theorem dL_law_505 : decode cL_law 505 = .ok (.lcmp, 1) := by decide +kernel
theorem dL_law_506 : decode cL_law 506 = .ok (.ifCond .eq 316, 3) := by decide +kernel
theorem dL_law_509 : decode cL_law 509 = .ok (.iconst 0, 1) := by decide +kernel
theorem dL_law_510 : decode cL_law 510 = .ok (.ireturn, 1) := by decide +kernel
theorem dL_law_511 : decode cL_law 511 = .ok (.aload_n 1, 1) := by decide +kernel
theorem dL_law_512 : decode cL_law 512 = .ok (.invokevirtual 73, 3) := by decide +kernel
theorem dL_law_515 : decode cL_law 515 = .ok (.aload_n 2, 1) := by decide +kernel
theorem dL_law_516 : decode cL_law 516 = .ok (.invokevirtual 76, 3) := by decide +kernel
theorem dL_law_519 : decode cL_law 519 = .ok (.if_icmp .eq 303, 3) := by decide +kernel
theorem dL_law_522 : decode cL_law 522 = .ok (.iconst 0, 1) := by decide +kernel
theorem dL_law_523 : decode cL_law 523 = .ok (.ireturn, 1) := by decide +kernel
theorem dL_law_524 : decode cL_law 524 = .ok (.aload_n 1, 1) := by decide +kernel
theorem dL_law_525 : decode cL_law 525 = .ok (.aload_n 0, 1) := by decide +kernel
theorem dL_law_526 : decode cL_law 526 = .ok (.iload_n 3, 1) := by decide +kernel
theorem dL_law_527 : decode cL_law 527 = .ok (.iconst 1, 1) := by decide +kernel
theorem dL_law_528 : decode cL_law 528 = .ok (.iadd, 1) := by decide +kernel
theorem dL_law_529 : decode cL_law 529 = .ok (.iaload, 1) := by decide +kernel
theorem dL_law_530 : decode cL_law 530 = .ok (.invokevirtual 77, 3) := by decide +kernel
theorem dL_law_533 : decode cL_law 533 = .ok (.aload_n 2, 1) := by decide +kernel
theorem dL_law_534 : decode cL_law 534 = .ok (.aload_n 0, 1) := by decide +kernel
theorem dL_law_535 : decode cL_law 535 = .ok (.iload_n 3, 1) := by decide +kernel
theorem dL_law_536 : decode cL_law 536 = .ok (.iconst 1, 1) := by decide +kernel
theorem dL_law_537 : decode cL_law 537 = .ok (.iadd, 1) := by decide +kernel
theorem dL_law_538 : decode cL_law 538 = .ok (.iaload, 1) := by decide +kernel
theorem dL_law_539 : decode cL_law 539 = .ok (.invokevirtual 80, 3) := by decide +kernel
theorem dL_law_542 : decode cL_law 542 = .ok (.if_icmp .eq 280, 3) := by decide +kernel
theorem dL_law_545 : decode cL_law 545 = .ok (.iconst 0, 1) := by decide +kernel
theorem dL_law_546 : decode cL_law 546 = .ok (.ireturn, 1) := by decide +kernel
theorem dL_law_547 : decode cL_law 547 = .ok (.aload_n 1, 1) := by decide +kernel
theorem dL_law_548 : decode cL_law 548 = .ok (.aload_n 0, 1) := by decide +kernel
theorem dL_law_549 : decode cL_law 549 = .ok (.iload_n 3, 1) := by decide +kernel
theorem dL_law_550 : decode cL_law 550 = .ok (.iconst 1, 1) := by decide +kernel
theorem dL_law_551 : decode cL_law 551 = .ok (.iadd, 1) := by decide +kernel
theorem dL_law_552 : decode cL_law 552 = .ok (.iaload, 1) := by decide +kernel
theorem dL_law_553 : decode cL_law 553 = .ok (.invokevirtual 81, 3) := by decide +kernel
theorem dL_law_556 : decode cL_law 556 = .ok (.aload_n 2, 1) := by decide +kernel
theorem dL_law_557 : decode cL_law 557 = .ok (.aload_n 0, 1) := by decide +kernel
theorem dL_law_558 : decode cL_law 558 = .ok (.iload_n 3, 1) := by decide +kernel
theorem dL_law_559 : decode cL_law 559 = .ok (.iconst 1, 1) := by decide +kernel
theorem dL_law_560 : decode cL_law 560 = .ok (.iadd, 1) := by decide +kernel
theorem dL_law_561 : decode cL_law 561 = .ok (.iaload, 1) := by decide +kernel
theorem dL_law_562 : decode cL_law 562 = .ok (.invokevirtual 84, 3) := by decide +kernel
theorem dL_law_565 : decode cL_law 565 = .ok (.if_icmp .eq 257, 3) := by decide +kernel
theorem dL_law_568 : decode cL_law 568 = .ok (.iconst 0, 1) := by decide +kernel
theorem dL_law_569 : decode cL_law 569 = .ok (.ireturn, 1) := by decide +kernel
theorem dL_law_570 : decode cL_law 570 = .ok (.aload_n 1, 1) := by decide +kernel
theorem dL_law_571 : decode cL_law 571 = .ok (.aload_n 0, 1) := by decide +kernel
theorem dL_law_572 : decode cL_law 572 = .ok (.iload_n 3, 1) := by decide +kernel
theorem dL_law_573 : decode cL_law 573 = .ok (.iconst 1, 1) := by decide +kernel
theorem dL_law_574 : decode cL_law 574 = .ok (.iadd, 1) := by decide +kernel
theorem dL_law_575 : decode cL_law 575 = .ok (.iaload, 1) := by decide +kernel
theorem dL_law_576 : decode cL_law 576 = .ok (.aload_n 0, 1) := by decide +kernel
theorem dL_law_577 : decode cL_law 577 = .ok (.iload_n 3, 1) := by decide +kernel
theorem dL_law_578 : decode cL_law 578 = .ok (.iconst 2, 1) := by decide +kernel
theorem dL_law_579 : decode cL_law 579 = .ok (.iadd, 1) := by decide +kernel
theorem dL_law_580 : decode cL_law 580 = .ok (.iaload, 1) := by decide +kernel
theorem dL_law_581 : decode cL_law 581 = .ok (.aload_n 0, 1) := by decide +kernel
theorem dL_law_582 : decode cL_law 582 = .ok (.iload_n 3, 1) := by decide +kernel
theorem dL_law_583 : decode cL_law 583 = .ok (.iconst 3, 1) := by decide +kernel
theorem dL_law_584 : decode cL_law 584 = .ok (.iadd, 1) := by decide +kernel
theorem dL_law_585 : decode cL_law 585 = .ok (.iaload, 1) := by decide +kernel
theorem dL_law_586 : decode cL_law 586 = .ok (.invokevirtual 85, 3) := by decide +kernel
theorem dL_law_589 : decode cL_law 589 = .ok (.aload_n 2, 1) := by decide +kernel
theorem dL_law_590 : decode cL_law 590 = .ok (.aload_n 0, 1) := by decide +kernel
theorem dL_law_591 : decode cL_law 591 = .ok (.iload_n 3, 1) := by decide +kernel
theorem dL_law_592 : decode cL_law 592 = .ok (.iconst 1, 1) := by decide +kernel
theorem dL_law_593 : decode cL_law 593 = .ok (.iadd, 1) := by decide +kernel
theorem dL_law_594 : decode cL_law 594 = .ok (.iaload, 1) := by decide +kernel
theorem dL_law_595 : decode cL_law 595 = .ok (.aload_n 0, 1) := by decide +kernel
theorem dL_law_596 : decode cL_law 596 = .ok (.iload_n 3, 1) := by decide +kernel
theorem dL_law_597 : decode cL_law 597 = .ok (.iconst 2, 1) := by decide +kernel
theorem dL_law_598 : decode cL_law 598 = .ok (.iadd, 1) := by decide +kernel
theorem dL_law_599 : decode cL_law 599 = .ok (.iaload, 1) := by decide +kernel
theorem dL_law_600 : decode cL_law 600 = .ok (.aload_n 0, 1) := by decide +kernel
theorem dL_law_601 : decode cL_law 601 = .ok (.iload_n 3, 1) := by decide +kernel
theorem dL_law_602 : decode cL_law 602 = .ok (.iconst 3, 1) := by decide +kernel
theorem dL_law_603 : decode cL_law 603 = .ok (.iadd, 1) := by decide +kernel
theorem dL_law_604 : decode cL_law 604 = .ok (.iaload, 1) := by decide +kernel
theorem dL_law_605 : decode cL_law 605 = .ok (.invokevirtual 89, 3) := by decide +kernel
theorem dL_law_608 : decode cL_law 608 = .ok (.lcmp, 1) := by decide +kernel
theorem dL_law_609 : decode cL_law 609 = .ok (.ifCond .eq 213, 3) := by decide +kernel
theorem dL_law_612 : decode cL_law 612 = .ok (.iconst 0, 1) := by decide +kernel
theorem dL_law_613 : decode cL_law 613 = .ok (.ireturn, 1) := by decide +kernel
theorem dL_law_614 : decode cL_law 614 = .ok (.aload_n 1, 1) := by decide +kernel
theorem dL_law_615 : decode cL_law 615 = .ok (.aload_n 0, 1) := by decide +kernel
theorem dL_law_616 : decode cL_law 616 = .ok (.iload_n 3, 1) := by decide +kernel
theorem dL_law_617 : decode cL_law 617 = .ok (.iconst 1, 1) := by decide +kernel
theorem dL_law_618 : decode cL_law 618 = .ok (.iadd, 1) := by decide +kernel
theorem dL_law_619 : decode cL_law 619 = .ok (.iaload, 1) := by decide +kernel
theorem dL_law_620 : decode cL_law 620 = .ok (.invokevirtual 90, 3) := by decide +kernel
theorem dL_law_623 : decode cL_law 623 = .ok (.aload_n 2, 1) := by decide +kernel
theorem dL_law_624 : decode cL_law 624 = .ok (.aload_n 0, 1) := by decide +kernel
theorem dL_law_625 : decode cL_law 625 = .ok (.iload_n 3, 1) := by decide +kernel
theorem dL_law_626 : decode cL_law 626 = .ok (.iconst 1, 1) := by decide +kernel
theorem dL_law_627 : decode cL_law 627 = .ok (.iadd, 1) := by decide +kernel
theorem dL_law_628 : decode cL_law 628 = .ok (.iaload, 1) := by decide +kernel
theorem dL_law_629 : decode cL_law 629 = .ok (.invokevirtual 93, 3) := by decide +kernel
theorem dL_law_632 : decode cL_law 632 = .ok (.if_icmp .eq 190, 3) := by decide +kernel
theorem dL_law_635 : decode cL_law 635 = .ok (.iconst 0, 1) := by decide +kernel
theorem dL_law_636 : decode cL_law 636 = .ok (.ireturn, 1) := by decide +kernel
theorem dL_law_637 : decode cL_law 637 = .ok (.aload_n 1, 1) := by decide +kernel
theorem dL_law_638 : decode cL_law 638 = .ok (.aload_n 0, 1) := by decide +kernel
theorem dL_law_639 : decode cL_law 639 = .ok (.iload_n 3, 1) := by decide +kernel
theorem dL_law_640 : decode cL_law 640 = .ok (.iconst 1, 1) := by decide +kernel
theorem dL_law_641 : decode cL_law 641 = .ok (.iadd, 1) := by decide +kernel
theorem dL_law_642 : decode cL_law 642 = .ok (.iaload, 1) := by decide +kernel
theorem dL_law_643 : decode cL_law 643 = .ok (.aload_n 0, 1) := by decide +kernel
theorem dL_law_644 : decode cL_law 644 = .ok (.iload_n 3, 1) := by decide +kernel
theorem dL_law_645 : decode cL_law 645 = .ok (.iconst 2, 1) := by decide +kernel
theorem dL_law_646 : decode cL_law 646 = .ok (.iadd, 1) := by decide +kernel
theorem dL_law_647 : decode cL_law 647 = .ok (.iaload, 1) := by decide +kernel
theorem dL_law_648 : decode cL_law 648 = .ok (.invokevirtual 94, 3) := by decide +kernel
theorem dL_law_651 : decode cL_law 651 = .ok (.aload_n 2, 1) := by decide +kernel
theorem dL_law_652 : decode cL_law 652 = .ok (.aload_n 0, 1) := by decide +kernel
theorem dL_law_653 : decode cL_law 653 = .ok (.iload_n 3, 1) := by decide +kernel
theorem dL_law_654 : decode cL_law 654 = .ok (.iconst 1, 1) := by decide +kernel
theorem dL_law_655 : decode cL_law 655 = .ok (.iadd, 1) := by decide +kernel
theorem dL_law_656 : decode cL_law 656 = .ok (.iaload, 1) := by decide +kernel
theorem dL_law_657 : decode cL_law 657 = .ok (.aload_n 0, 1) := by decide +kernel
theorem dL_law_658 : decode cL_law 658 = .ok (.iload_n 3, 1) := by decide +kernel
theorem dL_law_659 : decode cL_law 659 = .ok (.iconst 2, 1) := by decide +kernel
theorem dL_law_660 : decode cL_law 660 = .ok (.iadd, 1) := by decide +kernel
theorem dL_law_661 : decode cL_law 661 = .ok (.iaload, 1) := by decide +kernel
theorem dL_law_662 : decode cL_law 662 = .ok (.invokevirtual 97, 3) := by decide +kernel
theorem dL_law_665 : decode cL_law 665 = .ok (.if_icmp .eq 157, 3) := by decide +kernel
theorem dL_law_668 : decode cL_law 668 = .ok (.iconst 0, 1) := by decide +kernel
theorem dL_law_669 : decode cL_law 669 = .ok (.ireturn, 1) := by decide +kernel
theorem dL_law_670 : decode cL_law 670 = .ok (.aload_n 1, 1) := by decide +kernel
theorem dL_law_671 : decode cL_law 671 = .ok (.invokevirtual 98, 3) := by decide +kernel
theorem dL_law_674 : decode cL_law 674 = .ok (.aload_n 2, 1) := by decide +kernel
theorem dL_law_675 : decode cL_law 675 = .ok (.invokevirtual 101, 3) := by decide +kernel
theorem dL_law_678 : decode cL_law 678 = .ok (.if_icmp .eq 144, 3) := by decide +kernel
theorem dL_law_681 : decode cL_law 681 = .ok (.iconst 0, 1) := by decide +kernel
theorem dL_law_682 : decode cL_law 682 = .ok (.ireturn, 1) := by decide +kernel
theorem dL_law_683 : decode cL_law 683 = .ok (.aload_n 1, 1) := by decide +kernel
theorem dL_law_684 : decode cL_law 684 = .ok (.aload_n 0, 1) := by decide +kernel
theorem dL_law_685 : decode cL_law 685 = .ok (.iload_n 3, 1) := by decide +kernel
theorem dL_law_686 : decode cL_law 686 = .ok (.iconst 1, 1) := by decide +kernel
theorem dL_law_687 : decode cL_law 687 = .ok (.iadd, 1) := by decide +kernel
theorem dL_law_688 : decode cL_law 688 = .ok (.iaload, 1) := by decide +kernel
theorem dL_law_689 : decode cL_law 689 = .ok (.invokevirtual 102, 3) := by decide +kernel
theorem dL_law_692 : decode cL_law 692 = .ok (.aload_n 2, 1) := by decide +kernel
theorem dL_law_693 : decode cL_law 693 = .ok (.aload_n 0, 1) := by decide +kernel
theorem dL_law_694 : decode cL_law 694 = .ok (.iload_n 3, 1) := by decide +kernel
theorem dL_law_695 : decode cL_law 695 = .ok (.iconst 1, 1) := by decide +kernel
theorem dL_law_696 : decode cL_law 696 = .ok (.iadd, 1) := by decide +kernel
theorem dL_law_697 : decode cL_law 697 = .ok (.iaload, 1) := by decide +kernel
theorem dL_law_698 : decode cL_law 698 = .ok (.invokevirtual 105, 3) := by decide +kernel
theorem dL_law_701 : decode cL_law 701 = .ok (.if_icmp .eq 121, 3) := by decide +kernel
theorem dL_law_704 : decode cL_law 704 = .ok (.iconst 0, 1) := by decide +kernel
theorem dL_law_705 : decode cL_law 705 = .ok (.ireturn, 1) := by decide +kernel
theorem dL_law_706 : decode cL_law 706 = .ok (.aload_n 1, 1) := by decide +kernel
theorem dL_law_707 : decode cL_law 707 = .ok (.aload_n 0, 1) := by decide +kernel
theorem dL_law_708 : decode cL_law 708 = .ok (.iload_n 3, 1) := by decide +kernel
theorem dL_law_709 : decode cL_law 709 = .ok (.iconst 1, 1) := by decide +kernel
theorem dL_law_710 : decode cL_law 710 = .ok (.iadd, 1) := by decide +kernel
theorem dL_law_711 : decode cL_law 711 = .ok (.iaload, 1) := by decide +kernel
theorem dL_law_712 : decode cL_law 712 = .ok (.aload_n 0, 1) := by decide +kernel
theorem dL_law_713 : decode cL_law 713 = .ok (.iload_n 3, 1) := by decide +kernel
theorem dL_law_714 : decode cL_law 714 = .ok (.iconst 2, 1) := by decide +kernel
theorem dL_law_715 : decode cL_law 715 = .ok (.iadd, 1) := by decide +kernel
theorem dL_law_716 : decode cL_law 716 = .ok (.iaload, 1) := by decide +kernel
theorem dL_law_717 : decode cL_law 717 = .ok (.invokevirtual 106, 3) := by decide +kernel
theorem dL_law_720 : decode cL_law 720 = .ok (.aload_n 2, 1) := by decide +kernel
theorem dL_law_721 : decode cL_law 721 = .ok (.aload_n 0, 1) := by decide +kernel
theorem dL_law_722 : decode cL_law 722 = .ok (.iload_n 3, 1) := by decide +kernel
theorem dL_law_723 : decode cL_law 723 = .ok (.iconst 1, 1) := by decide +kernel
theorem dL_law_724 : decode cL_law 724 = .ok (.iadd, 1) := by decide +kernel
theorem dL_law_725 : decode cL_law 725 = .ok (.iaload, 1) := by decide +kernel
theorem dL_law_726 : decode cL_law 726 = .ok (.aload_n 0, 1) := by decide +kernel
theorem dL_law_727 : decode cL_law 727 = .ok (.iload_n 3, 1) := by decide +kernel
theorem dL_law_728 : decode cL_law 728 = .ok (.iconst 2, 1) := by decide +kernel
theorem dL_law_729 : decode cL_law 729 = .ok (.iadd, 1) := by decide +kernel
theorem dL_law_730 : decode cL_law 730 = .ok (.iaload, 1) := by decide +kernel
theorem dL_law_731 : decode cL_law 731 = .ok (.invokevirtual 109, 3) := by decide +kernel
theorem dL_law_734 : decode cL_law 734 = .ok (.if_icmp .eq 88, 3) := by decide +kernel
theorem dL_law_737 : decode cL_law 737 = .ok (.iconst 0, 1) := by decide +kernel
theorem dL_law_738 : decode cL_law 738 = .ok (.ireturn, 1) := by decide +kernel
theorem dL_law_739 : decode cL_law 739 = .ok (.aload_n 1, 1) := by decide +kernel
theorem dL_law_740 : decode cL_law 740 = .ok (.aload_n 0, 1) := by decide +kernel
theorem dL_law_741 : decode cL_law 741 = .ok (.iload_n 3, 1) := by decide +kernel
theorem dL_law_742 : decode cL_law 742 = .ok (.iconst 1, 1) := by decide +kernel
theorem dL_law_743 : decode cL_law 743 = .ok (.iadd, 1) := by decide +kernel
theorem dL_law_744 : decode cL_law 744 = .ok (.iaload, 1) := by decide +kernel
theorem dL_law_745 : decode cL_law 745 = .ok (.invokevirtual 110, 3) := by decide +kernel
theorem dL_law_748 : decode cL_law 748 = .ok (.aload_n 2, 1) := by decide +kernel
theorem dL_law_749 : decode cL_law 749 = .ok (.aload_n 0, 1) := by decide +kernel
theorem dL_law_750 : decode cL_law 750 = .ok (.iload_n 3, 1) := by decide +kernel
theorem dL_law_751 : decode cL_law 751 = .ok (.iconst 1, 1) := by decide +kernel
theorem dL_law_752 : decode cL_law 752 = .ok (.iadd, 1) := by decide +kernel
theorem dL_law_753 : decode cL_law 753 = .ok (.iaload, 1) := by decide +kernel
theorem dL_law_754 : decode cL_law 754 = .ok (.invokevirtual 113, 3) := by decide +kernel
theorem dL_law_757 : decode cL_law 757 = .ok (.if_icmp .eq 65, 3) := by decide +kernel
theorem dL_law_760 : decode cL_law 760 = .ok (.iconst 0, 1) := by decide +kernel
theorem dL_law_761 : decode cL_law 761 = .ok (.ireturn, 1) := by decide +kernel
theorem dL_law_762 : decode cL_law 762 = .ok (.aload_n 1, 1) := by decide +kernel
theorem dL_law_763 : decode cL_law 763 = .ok (.aload_n 0, 1) := by decide +kernel
theorem dL_law_764 : decode cL_law 764 = .ok (.iload_n 3, 1) := by decide +kernel
theorem dL_law_765 : decode cL_law 765 = .ok (.iconst 1, 1) := by decide +kernel
theorem dL_law_766 : decode cL_law 766 = .ok (.iadd, 1) := by decide +kernel
theorem dL_law_767 : decode cL_law 767 = .ok (.iaload, 1) := by decide +kernel
theorem dL_law_768 : decode cL_law 768 = .ok (.invokevirtual 114, 3) := by decide +kernel
theorem dL_law_771 : decode cL_law 771 = .ok (.aload_n 2, 1) := by decide +kernel
theorem dL_law_772 : decode cL_law 772 = .ok (.aload_n 0, 1) := by decide +kernel
theorem dL_law_773 : decode cL_law 773 = .ok (.iload_n 3, 1) := by decide +kernel
theorem dL_law_774 : decode cL_law 774 = .ok (.iconst 1, 1) := by decide +kernel
theorem dL_law_775 : decode cL_law 775 = .ok (.iadd, 1) := by decide +kernel
theorem dL_law_776 : decode cL_law 776 = .ok (.iaload, 1) := by decide +kernel
theorem dL_law_777 : decode cL_law 777 = .ok (.invokevirtual 117, 3) := by decide +kernel
theorem dL_law_780 : decode cL_law 780 = .ok (.if_icmp .eq 42, 3) := by decide +kernel
theorem dL_law_783 : decode cL_law 783 = .ok (.iconst 0, 1) := by decide +kernel
theorem dL_law_784 : decode cL_law 784 = .ok (.ireturn, 1) := by decide +kernel
theorem dL_law_785 : decode cL_law 785 = .ok (.aload_n 1, 1) := by decide +kernel
theorem dL_law_786 : decode cL_law 786 = .ok (.aload_n 0, 1) := by decide +kernel
theorem dL_law_787 : decode cL_law 787 = .ok (.iload_n 3, 1) := by decide +kernel
theorem dL_law_788 : decode cL_law 788 = .ok (.iconst 1, 1) := by decide +kernel
theorem dL_law_789 : decode cL_law 789 = .ok (.iadd, 1) := by decide +kernel
theorem dL_law_790 : decode cL_law 790 = .ok (.iaload, 1) := by decide +kernel
theorem dL_law_791 : decode cL_law 791 = .ok (.invokevirtual 118, 3) := by decide +kernel
theorem dL_law_794 : decode cL_law 794 = .ok (.aload_n 2, 1) := by decide +kernel
theorem dL_law_795 : decode cL_law 795 = .ok (.aload_n 0, 1) := by decide +kernel
theorem dL_law_796 : decode cL_law 796 = .ok (.iload_n 3, 1) := by decide +kernel
theorem dL_law_797 : decode cL_law 797 = .ok (.iconst 1, 1) := by decide +kernel
theorem dL_law_798 : decode cL_law 798 = .ok (.iadd, 1) := by decide +kernel
theorem dL_law_799 : decode cL_law 799 = .ok (.iaload, 1) := by decide +kernel
theorem dL_law_800 : decode cL_law 800 = .ok (.invokevirtual 121, 3) := by decide +kernel
theorem dL_law_803 : decode cL_law 803 = .ok (.if_icmp .eq 19, 3) := by decide +kernel
theorem dL_law_806 : decode cL_law 806 = .ok (.iconst 0, 1) := by decide +kernel
theorem dL_law_807 : decode cL_law 807 = .ok (.ireturn, 1) := by decide +kernel
theorem dL_law_808 : decode cL_law 808 = .ok (.aload_n 1, 1) := by decide +kernel
theorem dL_law_809 : decode cL_law 809 = .ok (.invokevirtual 122, 3) := by decide +kernel
theorem dL_law_812 : decode cL_law 812 = .ok (.aload_n 2, 1) := by decide +kernel
theorem dL_law_813 : decode cL_law 813 = .ok (.invokevirtual 126, 3) := by decide +kernel
theorem dL_law_816 : decode cL_law 816 = .ok (.lcmp, 1) := by decide +kernel
theorem dL_law_817 : decode cL_law 817 = .ok (.ifCond .eq 5, 3) := by decide +kernel
theorem dL_law_820 : decode cL_law 820 = .ok (.iconst 0, 1) := by decide +kernel
theorem dL_law_821 : decode cL_law 821 = .ok (.ireturn, 1) := by decide +kernel
theorem dL_law_822 : decode cL_law 822 = .ok (.iinc 3 4, 3) := by decide +kernel
theorem dL_law_825 : decode cL_law 825 = .ok (.goto (-807), 3) := by decide +kernel
theorem dL_law_828 : decode cL_law 828 = .ok (.iconst 1, 1) := by decide +kernel
theorem dL_law_829 : decode cL_law 829 = .ok (.ireturn, 1) := by decide +kernel
