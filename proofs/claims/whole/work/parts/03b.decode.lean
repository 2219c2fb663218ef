theorem dX6_keep_10 : decode cX6_keep 10 = .ok (.getfield 33, 3) := by decide +kernel
theorem dX6_keep_13 : decode cX6_keep 13 = .ok (.iload_n 1, 1) := by decide +kernel
theorem dX6_keep_14 : decode cX6_keep 14 = .ok (.aaload, 1) := by decide +kernel
theorem dX6_keep_15 : decode cX6_keep 15 = .ok (.aload_n 0, 1) := by decide +kernel
theorem dX6_keep_16 : decode cX6_keep 16 = .ok (.getfield 29, 3) := by decide +kernel
theorem dX6_keep_19 : decode cX6_keep 19 = .ok (.invokevirtual 255, 3) := by decide +kernel
theorem dX6_keep_22 : decode cX6_keep 22 = .ok (.aload_n 0, 1) := by decide +kernel
theorem dX6_keep_23 : decode cX6_keep 23 = .ok (.getfield 37, 3) := by decide +kernel
theorem dX6_keep_26 : decode cX6_keep 26 = .ok (.iload_n 1, 1) := by decide +kernel
theorem dX6_keep_27 : decode cX6_keep 27 = .ok (.iconst 1, 1) := by decide +kernel
theorem dX6_keep_28 : decode cX6_keep 28 = .ok (.bastore, 1) := by decide +kernel
theorem dX6_keep_29 : decode cX6_keep 29 = .ok (.aload_n 0, 1) := by decide +kernel
theorem dX6_keep_30 : decode cX6_keep 30 = .ok (.getfield 29, 3) := by decide +kernel
theorem dX6_keep_33 : decode cX6_keep 33 = .ok (.getfield 96, 3) := by decide +kernel
theorem dX6_keep_36 : decode cX6_keep 36 = .ok (.getfield 136, 3) := by decide +kernel
theorem dX6_keep_39 : decode cX6_keep 39 = .ok (.ireturn, 1) := by decide +kernel
theorem dX6_back_0 : decode cX6_back 0 = .ok (.iload_n 1, 1) := by decide +kernel
theorem dX6_back_1 : decode cX6_back 1 = .ok (.invokestatic 252, 3) := by decide +kernel
theorem dX6_back_4 : decode cX6_back 4 = .ok (.ifCond .ne 5, 3) := by decide +kernel
theorem dX6_back_7 : decode cX6_back 7 = .ok (.iconst (-1), 1) := by decide +kernel
theorem dX6_back_8 : decode cX6_back 8 = .ok (.ireturn, 1) := by decide +kernel
theorem dX6_back_9 : decode cX6_back 9 = .ok (.aload_n 0, 1) := by decide +kernel
theorem dX6_back_10 : decode cX6_back 10 = .ok (.getfield 37, 3) := by decide +kernel
theorem dX6_back_13 : decode cX6_back 13 = .ok (.iload_n 1, 1) := by decide +kernel
theorem dX6_back_14 : decode cX6_back 14 = .ok (.baload, 1) := by decide +kernel
theorem dX6_back_15 : decode cX6_back 15 = .ok (.ifCond .ne 6, 3) := by decide +kernel
theorem dX6_back_18 : decode cX6_back 18 = .ok (.bipush (-2), 2) := by decide +kernel
theorem dX6_back_20 : decode cX6_back 20 = .ok (.ireturn, 1) := by decide +kernel
theorem dX6_back_21 : decode cX6_back 21 = .ok (.aload_n 0, 1) := by decide +kernel
theorem dX6_back_22 : decode cX6_back 22 = .ok (.getfield 29, 3) := by decide +kernel
theorem dX6_back_25 : decode cX6_back 25 = .ok (.aload_n 0, 1) := by decide +kernel
theorem dX6_back_26 : decode cX6_back 26 = .ok (.getfield 33, 3) := by decide +kernel
theorem dX6_back_29 : decode cX6_back 29 = .ok (.iload_n 1, 1) := by decide +kernel
theorem dX6_back_30 : decode cX6_back 30 = .ok (.aaload, 1) := by decide +kernel
theorem dX6_back_31 : decode cX6_back 31 = .ok (.invokevirtual 255, 3) := by decide +kernel
theorem dX6_back_34 : decode cX6_back 34 = .ok (.aload_n 0, 1) := by decide +kernel
theorem dX6_back_35 : decode cX6_back 35 = .ok (.getfield 29, 3) := by decide +kernel
theorem dX6_back_38 : decode cX6_back 38 = .ok (.getfield 96, 3) := by decide +kernel
theorem dX6_back_41 : decode cX6_back 41 = .ok (.getfield 136, 3) := by decide +kernel
theorem dX6_back_44 : decode cX6_back 44 = .ok (.ireturn, 1) := by decide +kernel
theorem dX6_count_0 : decode cX6_count 0 = .ok (.iload_n 1, 1) := by decide +kernel
theorem dX6_count_1 : decode cX6_count 1 = .ok (.tableswitch 72 0 4 #[35, 43, 51, 56, 64], 35) := by decide +kernel
theorem dX6_count_36 : decode cX6_count 36 = .ok (.aload_n 0, 1) := by decide +kernel
theorem dX6_count_37 : decode cX6_count 37 = .ok (.getfield 19, 3) := by decide +kernel
theorem dX6_count_40 : decode cX6_count 40 = .ok (.getfield 120, 3) := by decide +kernel
theorem dX6_count_43 : decode cX6_count 43 = .ok (.ireturn, 1) := by decide +kernel
theorem dX6_count_44 : decode cX6_count 44 = .ok (.aload_n 0, 1) := by decide +kernel
theorem dX6_count_45 : decode cX6_count 45 = .ok (.getfield 19, 3) := by decide +kernel
theorem dX6_count_48 : decode cX6_count 48 = .ok (.getfield 146, 3) := by decide +kernel
theorem dX6_count_51 : decode cX6_count 51 = .ok (.ireturn, 1) := by decide +kernel
theorem dX6_count_52 : decode cX6_count 52 = .ok (.aload_n 0, 1) := by decide +kernel
theorem dX6_count_53 : decode cX6_count 53 = .ok (.getfield 90, 3) := by decide +kernel
theorem dX6_count_56 : decode cX6_count 56 = .ok (.ireturn, 1) := by decide +kernel
theorem dX6_count_57 : decode cX6_count 57 = .ok (.aload_n 0, 1) := by decide +kernel
theorem dX6_count_58 : decode cX6_count 58 = .ok (.getfield 29, 3) := by decide +kernel
theorem dX6_count_61 : decode cX6_count 61 = .ok (.getfield 174, 3) := by decide +kernel
theorem dX6_count_64 : decode cX6_count 64 = .ok (.ireturn, 1) := by decide +kernel
theorem dX6_count_65 : decode cX6_count 65 = .ok (.aload_n 0, 1) := by decide +kernel
theorem dX6_count_66 : decode cX6_count 66 = .ok (.getfield 12, 3) := by decide +kernel
theorem dX6_count_69 : decode cX6_count 69 = .ok (.getfield 72, 3) := by decide +kernel
theorem dX6_count_72 : decode cX6_count 72 = .ok (.ireturn, 1) := by decide +kernel
theorem dX6_count_73 : decode cX6_count 73 = .ok (.iconst (-1), 1) := by decide +kernel
theorem dX6_count_74 : decode cX6_count 74 = .ok (.ireturn, 1) := by decide +kernel
theorem dX6_trace_0 : decode cX6_trace 0 = .ok (.aload_n 0, 1) := by decide +kernel
theorem dX6_trace_1 : decode cX6_trace 1 = .ok (.getfield 259, 3) := by decide +kernel
theorem dX6_trace_4 : decode cX6_trace 4 = .ok (.lreturn, 1) := by decide +kernel
theorem dX6_isStep_0 : decode cX6_isStep 0 = .ok (.iload_n 1, 1) := by decide +kernel
theorem dX6_isStep_1 : decode cX6_isStep 1 = .ok (.ifCond .lt 18, 3) := by decide +kernel
theorem dX6_isStep_4 : decode cX6_isStep 4 = .ok (.iload_n 1, 1) := by decide +kernel
theorem dX6_isStep_5 : decode cX6_isStep 5 = .ok (.aload_n 0, 1) := by decide +kernel
theorem dX6_isStep_6 : decode cX6_isStep 6 = .ok (.getfield 19, 3) := by decide +kernel
theorem dX6_isStep_9 : decode cX6_isStep 9 = .ok (.getfield 120, 3) := by decide +kernel
theorem dX6_isStep_12 : decode cX6_isStep 12 = .ok (.if_icmp .ge 7, 3) := by decide +kernel
theorem dX6_isStep_15 : decode cX6_isStep 15 = .ok (.iconst 1, 1) := by decide +kernel
theorem dX6_isStep_16 : decode cX6_isStep 16 = .ok (.goto 4, 3) := by decide +kernel
theorem dX6_isStep_19 : decode cX6_isStep 19 = .ok (.iconst 0, 1) := by decide +kernel
theorem dX6_isStep_20 : decode cX6_isStep 20 = .ok (.ireturn, 1) := by decide +kernel
theorem dX6_isBit_0 : decode cX6_isBit 0 = .ok (.iload_n 0, 1) := by decide +kernel
theorem dX6_isBit_1 : decode cX6_isBit 1 = .ok (.ifCond .eq 8, 3) := by decide +kernel
theorem dX6_isBit_4 : decode cX6_isBit 4 = .ok (.iload_n 0, 1) := by decide +kernel
theorem dX6_isBit_5 : decode cX6_isBit 5 = .ok (.iconst 1, 1) := by decide +kernel
theorem dX6_isBit_6 : decode cX6_isBit 6 = .ok (.if_icmp .ne 7, 3) := by decide +kernel
theorem dX6_isBit_9 : decode cX6_isBit 9 = .ok (.iconst 1, 1) := by decide +kernel
theorem dX6_isBit_10 : decode cX6_isBit 10 = .ok (.goto 4, 3) := by decide +kernel
theorem dX6_isBit_13 : decode cX6_isBit 13 = .ok (.iconst 0, 1) := by decide +kernel
theorem dX6_isBit_14 : decode cX6_isBit 14 = .ok (.ireturn, 1) := by decide +kernel
theorem dX6_isDraw_0 : decode cX6_isDraw 0 = .ok (.iload_n 0, 1) := by decide +kernel
theorem dX6_isDraw_1 : decode cX6_isDraw 1 = .ok (.ifCond .lt 14, 3) := by decide +kernel
theorem dX6_isDraw_4 : decode cX6_isDraw 4 = .ok (.iload_n 0, 1) := by decide +kernel
theorem dX6_isDraw_5 : decode cX6_isDraw 5 = .ok (.sipush 9999, 3) := by decide +kernel
theorem dX6_isDraw_8 : decode cX6_isDraw 8 = .ok (.if_icmp .gt 7, 3) := by decide +kernel
theorem dX6_isDraw_11 : decode cX6_isDraw 11 = .ok (.iconst 1, 1) := by decide +kernel
theorem dX6_isDraw_12 : decode cX6_isDraw 12 = .ok (.goto 4, 3) := by decide +kernel
theorem dX6_isDraw_15 : decode cX6_isDraw 15 = .ok (.iconst 0, 1) := by decide +kernel
theorem dX6_isDraw_16 : decode cX6_isDraw 16 = .ok (.ireturn, 1) := by decide +kernel
theorem dX6_isImage_0 : decode cX6_isImage 0 = .ok (.iload_n 0, 1) := by decide +kernel
theorem dX6_isImage_1 : decode cX6_isImage 1 = .ok (.ifCond .lt 12, 3) := by decide +kernel
theorem dX6_isImage_4 : decode cX6_isImage 4 = .ok (.iload_n 0, 1) := by decide +kernel
theorem dX6_isImage_5 : decode cX6_isImage 5 = .ok (.iconst 2, 1) := by decide +kernel
theorem dX6_isImage_6 : decode cX6_isImage 6 = .ok (.if_icmp .ge 7, 3) := by decide +kernel
theorem dX6_isImage_9 : decode cX6_isImage 9 = .ok (.iconst 1, 1) := by decide +kernel
theorem dX6_isImage_10 : decode cX6_isImage 10 = .ok (.goto 4, 3) := by decide +kernel
theorem dX6_isImage_13 : decode cX6_isImage 13 = .ok (.iconst 0, 1) := by decide +kernel
theorem dX6_isImage_14 : decode cX6_isImage 14 = .ok (.ireturn, 1) := by decide +kernel
theorem dX6_part_0 : decode cX6_part 0 = .ok (.lload_n 0, 1) := by decide +kernel
theorem dX6_part_1 : decode cX6_part 1 = .ok (.lload_n 2, 1) := by decide +kernel
theorem dX6_part_2 : decode cX6_part 2 = .ok (.invokestatic 262, 3) := by decide +kernel
theorem dX6_part_5 : decode cX6_part 5 = .ok (.lstore 5, 2) := by decide +kernel
theorem dX6_part_7 : decode cX6_part 7 = .ok (.lload_n 2, 1) := by decide +kernel
theorem dX6_part_8 : decode cX6_part 8 = .ok (.lconst 0, 1) := by decide +kernel
theorem dX6_part_9 : decode cX6_part 9 = .ok (.lcmp, 1) := by decide +kernel
theorem dX6_part_10 : decode cX6_part 10 = .ok (.ifCond .eq 10, 3) := by decide +kernel
theorem dX6_part_13 : decode cX6_part 13 = .ok (.lload 5, 2) := by decide +kernel
theorem dX6_part_15 : decode cX6_part 15 = .ok (.lconst 0, 1) := by decide +kernel
theorem dX6_part_16 : decode cX6_part 16 = .ok (.lcmp, 1) := by decide +kernel
theorem dX6_part_17 : decode cX6_part 17 = .ok (.ifCond .ne 7, 3) := by decide +kernel
theorem dX6_part_20 : decode cX6_part 20 = .ok (.ldc2_w 225, 3) := by decide +kernel
theorem dX6_part_23 : decode cX6_part 23 = .ok (.lreturn, 1) := by decide +kernel
theorem dX6_part_24 : decode cX6_part 24 = .ok (.iload 4, 2) := by decide +kernel
theorem dX6_part_26 : decode cX6_part 26 = .ok (.ifCond .ne 7, 3) := by decide +kernel
theorem dX6_part_29 : decode cX6_part 29 = .ok (.lload_n 0, 1) := by decide +kernel
theorem dX6_part_30 : decode cX6_part 30 = .ok (.goto 4, 3) := by decide +kernel
theorem dX6_part_33 : decode cX6_part 33 = .ok (.lload_n 2, 1) := by decide +kernel
theorem dX6_part_34 : decode cX6_part 34 = .ok (.lload 5, 2) := by decide +kernel
theorem dX6_part_36 : decode cX6_part 36 = .ok (.ldiv, 1) := by decide +kernel
theorem dX6_part_37 : decode cX6_part 37 = .ok (.lreturn, 1) := by decide +kernel
theorem dX6_commonDivisor_0 : decode cX6_commonDivisor 0 = .ok (.lload_n 0, 1) := by decide +kernel
theorem dX6_commonDivisor_1 : decode cX6_commonDivisor 1 = .ok (.lstore 4, 2) := by decide +kernel
theorem dX6_commonDivisor_3 : decode cX6_commonDivisor 3 = .ok (.lload_n 2, 1) := by decide +kernel
theorem dX6_commonDivisor_4 : decode cX6_commonDivisor 4 = .ok (.lstore 6, 2) := by decide +kernel
theorem dX6_commonDivisor_6 : decode cX6_commonDivisor 6 = .ok (.iconst 0, 1) := by decide +kernel
theorem dX6_commonDivisor_7 : decode cX6_commonDivisor 7 = .ok (.istore 8, 2) := by decide +kernel
theorem dX6_commonDivisor_9 : decode cX6_commonDivisor 9 = .ok (.iload 8, 2) := by decide +kernel
theorem dX6_commonDivisor_11 : decode cX6_commonDivisor 11 = .ok (.bipush 100, 2) := by decide +kernel
theorem dX6_commonDivisor_13 : decode cX6_commonDivisor 13 = .ok (.if_icmp .ge 31, 3) := by decide +kernel
theorem dX6_commonDivisor_16 : decode cX6_commonDivisor 16 = .ok (.lload 6, 2) := by decide +kernel
theorem dX6_commonDivisor_18 : decode cX6_commonDivisor 18 = .ok (.lconst 0, 1) := by decide +kernel
theorem dX6_commonDivisor_19 : decode cX6_commonDivisor 19 = .ok (.lcmp, 1) := by decide +kernel
theorem dX6_commonDivisor_20 : decode cX6_commonDivisor 20 = .ok (.ifCond .eq 24, 3) := by decide +kernel
theorem dX6_commonDivisor_23 : decode cX6_commonDivisor 23 = .ok (.lload 4, 2) := by decide +kernel
theorem dX6_commonDivisor_25 : decode cX6_commonDivisor 25 = .ok (.lload 6, 2) := by decide +kernel
theorem dX6_commonDivisor_27 : decode cX6_commonDivisor 27 = .ok (.lrem, 1) := by decide +kernel
theorem dX6_commonDivisor_28 : decode cX6_commonDivisor 28 = .ok (.lstore 9, 2) := by decide +kernel
theorem dX6_commonDivisor_30 : decode cX6_commonDivisor 30 = .ok (.lload 6, 2) := by decide +kernel
theorem dX6_commonDivisor_32 : decode cX6_commonDivisor 32 = .ok (.lstore 4, 2) := by decide +kernel
theorem dX6_commonDivisor_34 : decode cX6_commonDivisor 34 = .ok (.lload 9, 2) := by decide +kernel
theorem dX6_commonDivisor_36 : decode cX6_commonDivisor 36 = .ok (.lstore 6, 2) := by decide +kernel
theorem dX6_commonDivisor_38 : decode cX6_commonDivisor 38 = .ok (.iinc 8 1, 3) := by decide +kernel
theorem dX6_commonDivisor_41 : decode cX6_commonDivisor 41 = .ok (.goto (-32), 3) := by decide +kernel
theorem dX6_commonDivisor_44 : decode cX6_commonDivisor 44 = .ok (.lload 4, 2) := by decide +kernel
theorem dX6_commonDivisor_46 : decode cX6_commonDivisor 46 = .ok (.lreturn, 1) := by decide +kernel
theorem dX6_flowNow_0 : decode cX6_flowNow 0 = .ok (.aload_n 0, 1) := by decide +kernel
theorem dX6_flowNow_1 : decode cX6_flowNow 1 = .ok (.getfield 58, 3) := by decide +kernel
theorem dX6_flowNow_4 : decode cX6_flowNow 4 = .ok (.aload_n 0, 1) := by decide +kernel
theorem dX6_flowNow_5 : decode cX6_flowNow 5 = .ok (.getfield 19, 3) := by decide +kernel
theorem dX6_flowNow_8 : decode cX6_flowNow 8 = .ok (.aload_n 0, 1) := by decide +kernel
theorem dX6_flowNow_9 : decode cX6_flowNow 9 = .ok (.getfield 29, 3) := by decide +kernel
theorem dX6_flowNow_12 : decode cX6_flowNow 12 = .ok (.getfield 96, 3) := by decide +kernel
theorem dX6_flowNow_15 : decode cX6_flowNow 15 = .ok (.aload_n 0, 1) := by decide +kernel
theorem dX6_flowNow_16 : decode cX6_flowNow 16 = .ok (.getfield 29, 3) := by decide +kernel
theorem dX6_flowNow_19 : decode cX6_flowNow 19 = .ok (.getfield 96, 3) := by decide +kernel
theorem dX6_flowNow_22 : decode cX6_flowNow 22 = .ok (.getfield 130, 3) := by decide +kernel
theorem dX6_flowNow_25 : decode cX6_flowNow 25 = .ok (.aload_n 0, 1) := by decide +kernel
theorem dX6_flowNow_26 : decode cX6_flowNow 26 = .ok (.getfield 29, 3) := by decide +kernel
theorem dX6_flowNow_29 : decode cX6_flowNow 29 = .ok (.getfield 96, 3) := by decide +kernel
theorem dX6_flowNow_32 : decode cX6_flowNow 32 = .ok (.getfield 114, 3) := by decide +kernel
theorem dX6_flowNow_35 : decode cX6_flowNow 35 = .ok (.invokevirtual 212, 3) := by decide +kernel
theorem dX6_flowNow_38 : decode cX6_flowNow 38 = .ok (.return_, 1) := by decide +kernel
theorem dX6_hasFewDuds_0 : decode cX6_hasFewDuds 0 = .ok (.aload_n 0, 1) := by decide +kernel
theorem dX6_hasFewDuds_1 : decode cX6_hasFewDuds 1 = .ok (.getfield 58, 3) := by decide +kernel
theorem dX6_hasFewDuds_4 : decode cX6_hasFewDuds 4 = .ok (.aload_n 0, 1) := by decide +kernel
theorem dX6_hasFewDuds_5 : decode cX6_hasFewDuds 5 = .ok (.getfield 19, 3) := by decide +kernel
theorem dX6_hasFewDuds_8 : decode cX6_hasFewDuds 8 = .ok (.aload_n 0, 1) := by decide +kernel
theorem dX6_hasFewDuds_9 : decode cX6_hasFewDuds 9 = .ok (.getfield 29, 3) := by decide +kernel
theorem dX6_hasFewDuds_12 : decode cX6_hasFewDuds 12 = .ok (.getfield 96, 3) := by decide +kernel
theorem dX6_hasFewDuds_15 : decode cX6_hasFewDuds 15 = .ok (.aload_n 0, 1) := by decide +kernel
theorem dX6_hasFewDuds_16 : decode cX6_hasFewDuds 16 = .ok (.getfield 29, 3) := by decide +kernel
theorem dX6_hasFewDuds_19 : decode cX6_hasFewDuds 19 = .ok (.getfield 96, 3) := by decide +kernel
theorem dX6_hasFewDuds_22 : decode cX6_hasFewDuds 22 = .ok (.getfield 130, 3) := by decide +kernel
theorem dX6_hasFewDuds_25 : decode cX6_hasFewDuds 25 = .ok (.iload_n 1, 1) := by decide +kernel
theorem dX6_hasFewDuds_26 : decode cX6_hasFewDuds 26 = .ok (.invokevirtual 212, 3) := by decide +kernel
theorem dX6_hasFewDuds_29 : decode cX6_hasFewDuds 29 = .ok (.aload_n 0, 1) := by decide +kernel
theorem dX6_hasFewDuds_30 : decode cX6_hasFewDuds 30 = .ok (.getfield 58, 3) := by decide +kernel
theorem dX6_hasFewDuds_33 : decode cX6_hasFewDuds 33 = .ok (.getfield 200, 3) := by decide +kernel
theorem dX6_hasFewDuds_36 : decode cX6_hasFewDuds 36 = .ok (.aload_n 0, 1) := by decide +kernel
theorem dX6_hasFewDuds_37 : decode cX6_hasFewDuds 37 = .ok (.getfield 58, 3) := by decide +kernel
theorem dX6_hasFewDuds_40 : decode cX6_hasFewDuds 40 = .ok (.getfield 203, 3) := by decide +kernel
theorem dX6_hasFewDuds_43 : decode cX6_hasFewDuds 43 = .ok (.ladd, 1) := by decide +kernel
theorem dX6_hasFewDuds_44 : decode cX6_hasFewDuds 44 = .ok (.lstore_n 3, 1) := by decide +kernel
theorem dX6_hasFewDuds_45 : decode cX6_hasFewDuds 45 = .ok (.lload_n 3, 1) := by decide +kernel
theorem dX6_hasFewDuds_46 : decode cX6_hasFewDuds 46 = .ok (.lconst 0, 1) := by decide +kernel
theorem dX6_hasFewDuds_47 : decode cX6_hasFewDuds 47 = .ok (.lcmp, 1) := by decide +kernel
theorem dX6_hasFewDuds_48 : decode cX6_hasFewDuds 48 = .ok (.ifCond .le 26, 3) := by decide +kernel
theorem dX6_hasFewDuds_51 : decode cX6_hasFewDuds 51 = .ok (.aload_n 0, 1) := by decide +kernel
theorem dX6_hasFewDuds_52 : decode cX6_hasFewDuds 52 = .ok (.getfield 58, 3) := by decide +kernel
theorem dX6_hasFewDuds_55 : decode cX6_hasFewDuds 55 = .ok (.getfield 203, 3) := by decide +kernel
theorem dX6_hasFewDuds_58 : decode cX6_hasFewDuds 58 = .ok (.ldc2_w 266, 3) := by decide +kernel
theorem dX6_hasFewDuds_61 : decode cX6_hasFewDuds 61 = .ok (.lmul, 1) := by decide +kernel
theorem dX6_hasFewDuds_62 : decode cX6_hasFewDuds 62 = .ok (.lload_n 3, 1) := by decide +kernel
theorem dX6_hasFewDuds_63 : decode cX6_hasFewDuds 63 = .ok (.iload_n 2, 1) := by decide +kernel
theorem dX6_hasFewDuds_64 : decode cX6_hasFewDuds 64 = .ok (.i2l, 1) := by decide +kernel
theorem dX6_hasFewDuds_65 : decode cX6_hasFewDuds 65 = .ok (.lmul, 1) := by decide +kernel
theorem dX6_hasFewDuds_66 : decode cX6_hasFewDuds 66 = .ok (.lcmp, 1) := by decide +kernel
theorem dX6_hasFewDuds_67 : decode cX6_hasFewDuds 67 = .ok (.ifCond .gt 7, 3) := by decide +kernel
theorem dX6_hasFewDuds_70 : decode cX6_hasFewDuds 70 = .ok (.iconst 1, 1) := by decide +kernel
theorem dX6_hasFewDuds_71 : decode cX6_hasFewDuds 71 = .ok (.goto 4, 3) := by decide +kernel
theorem dX6_hasFewDuds_74 : decode cX6_hasFewDuds 74 = .ok (.iconst 0, 1) := by decide +kernel
theorem dX6_hasFewDuds_75 : decode cX6_hasFewDuds 75 = .ok (.ireturn, 1) := by decide +kernel
theorem dX6_isFoundBehind_0 : decode cX6_isFoundBehind 0 = .ok (.aload_n 0, 1) := by decide +kernel
theorem dX6_isFoundBehind_1 : decode cX6_isFoundBehind 1 = .ok (.getfield 29, 3) := by decide +kernel
theorem dX6_isFoundBehind_4 : decode cX6_isFoundBehind 4 = .ok (.getfield 96, 3) := by decide +kernel
theorem dX6_isFoundBehind_7 : decode cX6_isFoundBehind 7 = .ok (.astore_n 2, 1) := by decide +kernel
theorem dX6_isFoundBehind_8 : decode cX6_isFoundBehind 8 = .ok (.aload_n 2, 1) := by decide +kernel
theorem dX6_isFoundBehind_9 : decode cX6_isFoundBehind 9 = .ok (.getfield 114, 3) := by decide +kernel
theorem dX6_isFoundBehind_12 : decode cX6_isFoundBehind 12 = .ok (.aload_n 2, 1) := by decide +kernel
theorem dX6_isFoundBehind_13 : decode cX6_isFoundBehind 13 = .ok (.getfield 130, 3) := by decide +kernel
theorem dX6_isFoundBehind_16 : decode cX6_isFoundBehind 16 = .ok (.iload_n 1, 1) := by decide +kernel
theorem dX6_isFoundBehind_17 : decode cX6_isFoundBehind 17 = .ok (.iaload, 1) := by decide +kernel
theorem dX6_isFoundBehind_18 : decode cX6_isFoundBehind 18 = .ok (.ishr, 1) := by decide +kernel
theorem dX6_isFoundBehind_19 : decode cX6_isFoundBehind 19 = .ok (.iconst 1, 1) := by decide +kernel
theorem dX6_isFoundBehind_20 : decode cX6_isFoundBehind 20 = .ok (.iand, 1) := by decide +kernel
theorem dX6_isFoundBehind_21 : decode cX6_isFoundBehind 21 = .ok (.ifCond .ne 5, 3) := by decide +kernel
theorem dX6_isFoundBehind_24 : decode cX6_isFoundBehind 24 = .ok (.iconst 0, 1) := by decide +kernel
theorem dX6_isFoundBehind_25 : decode cX6_isFoundBehind 25 = .ok (.ireturn, 1) := by decide +kernel
theorem dX6_isFoundBehind_26 : decode cX6_isFoundBehind 26 = .ok (.aload_n 0, 1) := by decide +kernel
theorem dX6_isFoundBehind_27 : decode cX6_isFoundBehind 27 = .ok (.getfield 58, 3) := by decide +kernel
theorem dX6_isFoundBehind_30 : decode cX6_isFoundBehind 30 = .ok (.iload_n 1, 1) := by decide +kernel
theorem dX6_isFoundBehind_31 : decode cX6_isFoundBehind 31 = .ok (.aload_n 0, 1) := by decide +kernel
theorem dX6_isFoundBehind_32 : decode cX6_isFoundBehind 32 = .ok (.getfield 19, 3) := by decide +kernel
theorem dX6_isFoundBehind_35 : decode cX6_isFoundBehind 35 = .ok (.aload_n 2, 1) := by decide +kernel
theorem dX6_isFoundBehind_36 : decode cX6_isFoundBehind 36 = .ok (.invokevirtual 268, 3) := by decide +kernel
theorem dX6_isFoundBehind_39 : decode cX6_isFoundBehind 39 = .ok (.aload_n 0, 1) := by decide +kernel
theorem dX6_isFoundBehind_40 : decode cX6_isFoundBehind 40 = .ok (.getfield 58, 3) := by decide +kernel
theorem dX6_isFoundBehind_43 : decode cX6_isFoundBehind 43 = .ok (.getfield 203, 3) := by decide +kernel
theorem dX6_isFoundBehind_46 : decode cX6_isFoundBehind 46 = .ok (.lconst 0, 1) := by decide +kernel
theorem dX6_isFoundBehind_47 : decode cX6_isFoundBehind 47 = .ok (.lcmp, 1) := by decide +kernel
theorem dX6_isFoundBehind_48 : decode cX6_isFoundBehind 48 = .ok (.ifCond .le 7, 3) := by decide +kernel
theorem dX6_isFoundBehind_51 : decode cX6_isFoundBehind 51 = .ok (.iconst 1, 1) := by decide +kernel
theorem dX6_isFoundBehind_52 : decode cX6_isFoundBehind 52 = .ok (.goto 4, 3) := by decide +kernel
theorem dX6_isFoundBehind_55 : decode cX6_isFoundBehind 55 = .ok (.iconst 0, 1) := by decide +kernel
theorem dX6_isFoundBehind_56 : decode cX6_isFoundBehind 56 = .ok (.ireturn, 1) := by decide +kernel
theorem dX6_explainsTold_0 : decode cX6_explainsTold 0 = .ok (.iconst 0, 1) := by decide +kernel
theorem dX6_explainsTold_1 : decode cX6_explainsTold 1 = .ok (.istore_n 2, 1) := by decide +kernel
theorem dX6_explainsTold_2 : decode cX6_explainsTold 2 = .ok (.iload_n 2, 1) := by decide +kernel
theorem dX6_explainsTold_3 : decode cX6_explainsTold 3 = .ok (.aload_n 0, 1) := by decide +kernel
theorem dX6_explainsTold_4 : decode cX6_explainsTold 4 = .ok (.getfield 90, 3) := by decide +kernel
theorem dX6_explainsTold_7 : decode cX6_explainsTold 7 = .ok (.if_icmp .ge 52, 3) := by decide +kernel
theorem dX6_explainsTold_10 : decode cX6_explainsTold 10 = .ok (.aload_n 0, 1) := by decide +kernel
theorem dX6_explainsTold_11 : decode cX6_explainsTold 11 = .ok (.getfield 51, 3) := by decide +kernel
theorem dX6_explainsTold_14 : decode cX6_explainsTold 14 = .ok (.aload_n 0, 1) := by decide +kernel
theorem dX6_explainsTold_15 : decode cX6_explainsTold 15 = .ok (.getfield 19, 3) := by decide +kernel
theorem dX6_explainsTold_18 : decode cX6_explainsTold 18 = .ok (.aload_n 0, 1) := by decide +kernel
theorem dX6_explainsTold_19 : decode cX6_explainsTold 19 = .ok (.getfield 29, 3) := by decide +kernel
theorem dX6_explainsTold_22 : decode cX6_explainsTold 22 = .ok (.getfield 96, 3) := by decide +kernel
theorem dX6_explainsTold_25 : decode cX6_explainsTold 25 = .ok (.iload_n 1, 1) := by decide +kernel
theorem dX6_explainsTold_26 : decode cX6_explainsTold 26 = .ok (.aload_n 0, 1) := by decide +kernel
theorem dX6_explainsTold_27 : decode cX6_explainsTold 27 = .ok (.getfield 41, 3) := by decide +kernel
theorem dX6_explainsTold_30 : decode cX6_explainsTold 30 = .ok (.iload_n 2, 1) := by decide +kernel
theorem dX6_explainsTold_31 : decode cX6_explainsTold 31 = .ok (.iaload, 1) := by decide +kernel
theorem dX6_explainsTold_32 : decode cX6_explainsTold 32 = .ok (.invokevirtual 142, 3) := by decide +kernel
theorem dX6_explainsTold_35 : decode cX6_explainsTold 35 = .ok (.aload_n 0, 1) := by decide +kernel
theorem dX6_explainsTold_36 : decode cX6_explainsTold 36 = .ok (.getfield 51, 3) := by decide +kernel
theorem dX6_explainsTold_39 : decode cX6_explainsTold 39 = .ok (.invokevirtual 153, 3) := by decide +kernel
theorem dX6_explainsTold_42 : decode cX6_explainsTold 42 = .ok (.aload_n 0, 1) := by decide +kernel
theorem dX6_explainsTold_43 : decode cX6_explainsTold 43 = .ok (.getfield 45, 3) := by decide +kernel
theorem dX6_explainsTold_46 : decode cX6_explainsTold 46 = .ok (.iload_n 2, 1) := by decide +kernel
theorem dX6_explainsTold_47 : decode cX6_explainsTold 47 = .ok (.iaload, 1) := by decide +kernel
theorem dX6_explainsTold_48 : decode cX6_explainsTold 48 = .ok (.if_icmp .eq 5, 3) := by decide +kernel
theorem dX6_explainsTold_51 : decode cX6_explainsTold 51 = .ok (.iconst 0, 1) := by decide +kernel
theorem dX6_explainsTold_52 : decode cX6_explainsTold 52 = .ok (.ireturn, 1) := by decide +kernel
theorem dX6_explainsTold_53 : decode cX6_explainsTold 53 = .ok (.iinc 2 1, 3) := by decide +kernel
theorem dX6_explainsTold_56 : decode cX6_explainsTold 56 = .ok (.goto (-54), 3) := by decide +kernel
theorem dX6_explainsTold_59 : decode cX6_explainsTold 59 = .ok (.iconst 1, 1) := by decide +kernel
theorem dX6_explainsTold_60 : decode cX6_explainsTold 60 = .ok (.ireturn, 1) := by decide +kernel
theorem dX6_findLeastOrder_0 : decode cX6_findLeastOrder 0 = .ok (.iconst 0, 1) := by decide +kernel
theorem dX6_findLeastOrder_1 : decode cX6_findLeastOrder 1 = .ok (.istore_n 1, 1) := by decide +kernel
theorem dX6_findLeastOrder_2 : decode cX6_findLeastOrder 2 = .ok (.iload_n 1, 1) := by decide +kernel
theorem dX6_findLeastOrder_3 : decode cX6_findLeastOrder 3 = .ok (.aload_n 0, 1) := by decide +kernel
theorem dX6_findLeastOrder_4 : decode cX6_findLeastOrder 4 = .ok (.getfield 19, 3) := by decide +kernel
theorem dX6_findLeastOrder_7 : decode cX6_findLeastOrder 7 = .ok (.getfield 120, 3) := by decide +kernel
theorem dX6_findLeastOrder_10 : decode cX6_findLeastOrder 10 = .ok (.if_icmp .ge 16, 3) := by decide +kernel
theorem dX6_findLeastOrder_13 : decode cX6_findLeastOrder 13 = .ok (.aload_n 0, 1) := by decide +kernel
theorem dX6_findLeastOrder_14 : decode cX6_findLeastOrder 14 = .ok (.getfield 62, 3) := by decide +kernel
theorem dX6_findLeastOrder_17 : decode cX6_findLeastOrder 17 = .ok (.iload_n 1, 1) := by decide +kernel
theorem dX6_findLeastOrder_18 : decode cX6_findLeastOrder 18 = .ok (.iload_n 1, 1) := by decide +kernel
theorem dX6_findLeastOrder_19 : decode cX6_findLeastOrder 19 = .ok (.iastore, 1) := by decide +kernel
theorem dX6_findLeastOrder_20 : decode cX6_findLeastOrder 20 = .ok (.iinc 1 1, 3) := by decide +kernel
theorem dX6_findLeastOrder_23 : decode cX6_findLeastOrder 23 = .ok (.goto (-21), 3) := by decide +kernel
theorem dX6_findLeastOrder_26 : decode cX6_findLeastOrder 26 = .ok (.ldc2_w 210, 3) := by decide +kernel
theorem dX6_findLeastOrder_29 : decode cX6_findLeastOrder 29 = .ok (.lstore_n 1, 1) := by decide +kernel
theorem dX6_findLeastOrder_30 : decode cX6_findLeastOrder 30 = .ok (.iconst 0, 1) := by decide +kernel
theorem dX6_findLeastOrder_31 : decode cX6_findLeastOrder 31 = .ok (.istore_n 3, 1) := by decide +kernel
theorem dX6_findLeastOrder_32 : decode cX6_findLeastOrder 32 = .ok (.iload_n 3, 1) := by decide +kernel
theorem dX6_findLeastOrder_33 : decode cX6_findLeastOrder 33 = .ok (.bipush 120, 2) := by decide +kernel
theorem dX6_findLeastOrder_35 : decode cX6_findLeastOrder 35 = .ok (.if_icmp .ge 115, 3) := by decide +kernel
theorem dX6_findLeastOrder_38 : decode cX6_findLeastOrder 38 = .ok (.aload_n 0, 1) := by decide +kernel
theorem dX6_findLeastOrder_39 : decode cX6_findLeastOrder 39 = .ok (.getfield 19, 3) := by decide +kernel
theorem dX6_findLeastOrder_42 : decode cX6_findLeastOrder 42 = .ok (.aload_n 0, 1) := by decide +kernel
theorem dX6_findLeastOrder_43 : decode cX6_findLeastOrder 43 = .ok (.getfield 62, 3) := by decide +kernel
theorem dX6_findLeastOrder_46 : decode cX6_findLeastOrder 46 = .ok (.invokevirtual 272, 3) := by decide +kernel
theorem dX6_findLeastOrder_49 : decode cX6_findLeastOrder 49 = .ok (.ifCond .eq 75, 3) := by decide +kernel
theorem dX6_findLeastOrder_52 : decode cX6_findLeastOrder 52 = .ok (.aload_n 0, 1) := by decide +kernel
theorem dX6_findLeastOrder_53 : decode cX6_findLeastOrder 53 = .ok (.getfield 58, 3) := by decide +kernel
theorem dX6_findLeastOrder_56 : decode cX6_findLeastOrder 56 = .ok (.aload_n 0, 1) := by decide +kernel
theorem dX6_findLeastOrder_57 : decode cX6_findLeastOrder 57 = .ok (.getfield 19, 3) := by decide +kernel
theorem dX6_findLeastOrder_60 : decode cX6_findLeastOrder 60 = .ok (.aload_n 0, 1) := by decide +kernel
theorem dX6_findLeastOrder_61 : decode cX6_findLeastOrder 61 = .ok (.getfield 29, 3) := by decide +kernel
theorem dX6_findLeastOrder_64 : decode cX6_findLeastOrder 64 = .ok (.getfield 96, 3) := by decide +kernel
theorem dX6_findLeastOrder_67 : decode cX6_findLeastOrder 67 = .ok (.aload_n 0, 1) := by decide +kernel
theorem dX6_findLeastOrder_68 : decode cX6_findLeastOrder 68 = .ok (.getfield 62, 3) := by decide +kernel
theorem dX6_findLeastOrder_71 : decode cX6_findLeastOrder 71 = .ok (.aload_n 0, 1) := by decide +kernel
theorem dX6_findLeastOrder_72 : decode cX6_findLeastOrder 72 = .ok (.getfield 29, 3) := by decide +kernel
theorem dX6_findLeastOrder_75 : decode cX6_findLeastOrder 75 = .ok (.getfield 96, 3) := by decide +kernel
theorem dX6_findLeastOrder_78 : decode cX6_findLeastOrder 78 = .ok (.getfield 114, 3) := by decide +kernel
theorem dX6_findLeastOrder_81 : decode cX6_findLeastOrder 81 = .ok (.invokevirtual 212, 3) := by decide +kernel
theorem dX6_findLeastOrder_84 : decode cX6_findLeastOrder 84 = .ok (.aload_n 0, 1) := by decide +kernel
theorem dX6_findLeastOrder_85 : decode cX6_findLeastOrder 85 = .ok (.getfield 58, 3) := by decide +kernel
theorem dX6_findLeastOrder_88 : decode cX6_findLeastOrder 88 = .ok (.getfield 191, 3) := by decide +kernel
theorem dX6_findLeastOrder_91 : decode cX6_findLeastOrder 91 = .ok (.lload_n 1, 1) := by decide +kernel
theorem dX6_findLeastOrder_92 : decode cX6_findLeastOrder 92 = .ok (.lcmp, 1) := by decide +kernel
theorem dX6_findLeastOrder_93 : decode cX6_findLeastOrder 93 = .ok (.ifCond .ge 31, 3) := by decide +kernel
theorem dX6_findLeastOrder_96 : decode cX6_findLeastOrder 96 = .ok (.aload_n 0, 1) := by decide +kernel
theorem dX6_findLeastOrder_97 : decode cX6_findLeastOrder 97 = .ok (.getfield 58, 3) := by decide +kernel
theorem dX6_findLeastOrder_100 : decode cX6_findLeastOrder 100 = .ok (.getfield 191, 3) := by decide +kernel
theorem dX6_findLeastOrder_103 : decode cX6_findLeastOrder 103 = .ok (.lstore_n 1, 1) := by decide +kernel
theorem dX6_findLeastOrder_104 : decode cX6_findLeastOrder 104 = .ok (.aload_n 0, 1) := by decide +kernel
theorem dX6_findLeastOrder_105 : decode cX6_findLeastOrder 105 = .ok (.getfield 62, 3) := by decide +kernel
theorem dX6_findLeastOrder_108 : decode cX6_findLeastOrder 108 = .ok (.iconst 0, 1) := by decide +kernel
theorem dX6_findLeastOrder_109 : decode cX6_findLeastOrder 109 = .ok (.aload_n 0, 1) := by decide +kernel
theorem dX6_findLeastOrder_110 : decode cX6_findLeastOrder 110 = .ok (.getfield 65, 3) := by decide +kernel
theorem dX6_findLeastOrder_113 : decode cX6_findLeastOrder 113 = .ok (.iconst 0, 1) := by decide +kernel
theorem dX6_findLeastOrder_114 : decode cX6_findLeastOrder 114 = .ok (.aload_n 0, 1) := by decide +kernel
theorem dX6_findLeastOrder_115 : decode cX6_findLeastOrder 115 = .ok (.getfield 19, 3) := by decide +kernel
theorem dX6_findLeastOrder_118 : decode cX6_findLeastOrder 118 = .ok (.getfield 120, 3) := by decide +kernel
theorem dX6_findLeastOrder_121 : decode cX6_findLeastOrder 121 = .ok (.invokestatic 276, 3) := by decide +kernel
theorem dX6_findLeastOrder_124 : decode cX6_findLeastOrder 124 = .ok (.aload_n 0, 1) := by decide +kernel
theorem dX6_findLeastOrder_125 : decode cX6_findLeastOrder 125 = .ok (.getfield 62, 3) := by decide +kernel
theorem dX6_findLeastOrder_128 : decode cX6_findLeastOrder 128 = .ok (.aload_n 0, 1) := by decide +kernel
theorem dX6_findLeastOrder_129 : decode cX6_findLeastOrder 129 = .ok (.getfield 19, 3) := by decide +kernel
theorem dX6_findLeastOrder_132 : decode cX6_findLeastOrder 132 = .ok (.getfield 120, 3) := by decide +kernel
theorem dX6_findLeastOrder_135 : decode cX6_findLeastOrder 135 = .ok (.invokestatic 282, 3) := by decide +kernel
theorem dX6_findLeastOrder_138 : decode cX6_findLeastOrder 138 = .ok (.ifCond .ne 6, 3) := by decide +kernel
theorem dX6_findLeastOrder_141 : decode cX6_findLeastOrder 141 = .ok (.goto 9, 3) := by decide +kernel
theorem dX6_findLeastOrder_144 : decode cX6_findLeastOrder 144 = .ok (.iinc 3 1, 3) := by decide +kernel
theorem dX6_findLeastOrder_147 : decode cX6_findLeastOrder 147 = .ok (.goto (-115), 3) := by decide +kernel
theorem dX6_findLeastOrder_150 : decode cX6_findLeastOrder 150 = .ok (.return_, 1) := by decide +kernel
theorem dX6_advance_0 : decode cX6_advance 0 = .ok (.iload_n 1, 1) := by decide +kernel
theorem dX6_advance_1 : decode cX6_advance 1 = .ok (.iconst 2, 1) := by decide +kernel
theorem dX6_advance_2 : decode cX6_advance 2 = .ok (.isub, 1) := by decide +kernel
theorem dX6_advance_3 : decode cX6_advance 3 = .ok (.istore_n 2, 1) := by decide +kernel
theorem dX6_advance_4 : decode cX6_advance 4 = .ok (.iload_n 2, 1) := by decide +kernel
theorem dX6_advance_5 : decode cX6_advance 5 = .ok (.ifCond .lt 20, 3) := by decide +kernel
theorem dX6_advance_8 : decode cX6_advance 8 = .ok (.aload_n 0, 1) := by decide +kernel
theorem dX6_advance_9 : decode cX6_advance 9 = .ok (.iload_n 2, 1) := by decide +kernel
theorem dX6_advance_10 : decode cX6_advance 10 = .ok (.iaload, 1) := by decide +kernel
theorem dX6_advance_11 : decode cX6_advance 11 = .ok (.aload_n 0, 1) := by decide +kernel
theorem dX6_advance_12 : decode cX6_advance 12 = .ok (.iload_n 2, 1) := by decide +kernel
theorem dX6_advance_13 : decode cX6_advance 13 = .ok (.iconst 1, 1) := by decide +kernel
theorem dX6_advance_14 : decode cX6_advance 14 = .ok (.iadd, 1) := by decide +kernel
theorem dX6_advance_15 : decode cX6_advance 15 = .ok (.iaload, 1) := by decide +kernel
theorem dX6_advance_16 : decode cX6_advance 16 = .ok (.if_icmp .le 9, 3) := by decide +kernel
theorem dX6_advance_19 : decode cX6_advance 19 = .ok (.iinc 2 (-1), 3) := by decide +kernel
theorem dX6_advance_22 : decode cX6_advance 22 = .ok (.goto (-18), 3) := by decide +kernel
theorem dX6_advance_25 : decode cX6_advance 25 = .ok (.iload_n 2, 1) := by decide +kernel
theorem dX6_advance_26 : decode cX6_advance 26 = .ok (.ifCond .ge 5, 3) := by decide +kernel
theorem dX6_advance_29 : decode cX6_advance 29 = .ok (.iconst 0, 1) := by decide +kernel
theorem dX6_advance_30 : decode cX6_advance 30 = .ok (.ireturn, 1) := by decide +kernel
theorem dX6_advance_31 : decode cX6_advance 31 = .ok (.iload_n 1, 1) := by decide +kernel
theorem dX6_advance_32 : decode cX6_advance 32 = .ok (.iconst 1, 1) := by decide +kernel
theorem dX6_advance_33 : decode cX6_advance 33 = .ok (.isub, 1) := by decide +kernel
theorem dX6_advance_34 : decode cX6_advance 34 = .ok (.istore_n 3, 1) := by decide +kernel
theorem dX6_advance_35 : decode cX6_advance 35 = .ok (.iload_n 3, 1) := by decide +kernel
theorem dX6_advance_36 : decode cX6_advance 36 = .ok (.iload_n 2, 1) := by decide +kernel
theorem dX6_advance_37 : decode cX6_advance 37 = .ok (.if_icmp .le 18, 3) := by decide +kernel
theorem dX6_advance_40 : decode cX6_advance 40 = .ok (.aload_n 0, 1) := by decide +kernel
theorem dX6_advance_41 : decode cX6_advance 41 = .ok (.iload_n 3, 1) := by decide +kernel
theorem dX6_advance_42 : decode cX6_advance 42 = .ok (.iaload, 1) := by decide +kernel
theorem dX6_advance_43 : decode cX6_advance 43 = .ok (.aload_n 0, 1) := by decide +kernel
theorem dX6_advance_44 : decode cX6_advance 44 = .ok (.iload_n 2, 1) := by decide +kernel
theorem dX6_advance_45 : decode cX6_advance 45 = .ok (.iaload, 1) := by decide +kernel
theorem dX6_advance_46 : decode cX6_advance 46 = .ok (.if_icmp .ge 9, 3) := by decide +kernel
theorem dX6_advance_49 : decode cX6_advance 49 = .ok (.iinc 3 (-1), 3) := by decide +kernel
theorem dX6_advance_52 : decode cX6_advance 52 = .ok (.goto (-17), 3) := by decide +kernel
theorem dX6_advance_55 : decode cX6_advance 55 = .ok (.aload_n 0, 1) := by decide +kernel
theorem dX6_advance_56 : decode cX6_advance 56 = .ok (.iload_n 2, 1) := by decide +kernel
theorem dX6_advance_57 : decode cX6_advance 57 = .ok (.iload_n 3, 1) := by decide +kernel
theorem dX6_advance_58 : decode cX6_advance 58 = .ok (.invokestatic 286, 3) := by decide +kernel
theorem dX6_advance_61 : decode cX6_advance 61 = .ok (.iload_n 2, 1) := by decide +kernel
theorem dX6_advance_62 : decode cX6_advance 62 = .ok (.iconst 1, 1) := by decide +kernel
theorem dX6_advance_63 : decode cX6_advance 63 = .ok (.iadd, 1) := by decide +kernel
theorem dX6_advance_64 : decode cX6_advance 64 = .ok (.istore 4, 2) := by decide +kernel
theorem dX6_advance_66 : decode cX6_advance 66 = .ok (.iload_n 1, 1) := by decide +kernel
theorem dX6_advance_67 : decode cX6_advance 67 = .ok (.iconst 1, 1) := by decide +kernel
theorem dX6_advance_68 : decode cX6_advance 68 = .ok (.isub, 1) := by decide +kernel
theorem dX6_advance_69 : decode cX6_advance 69 = .ok (.istore 5, 2) := by decide +kernel
theorem dX6_advance_71 : decode cX6_advance 71 = .ok (.iload 4, 2) := by decide +kernel
theorem dX6_advance_73 : decode cX6_advance 73 = .ok (.iload 5, 2) := by decide +kernel
theorem dX6_advance_75 : decode cX6_advance 75 = .ok (.if_icmp .ge 20, 3) := by decide +kernel
theorem dX6_advance_78 : decode cX6_advance 78 = .ok (.aload_n 0, 1) := by decide +kernel
theorem dX6_advance_79 : decode cX6_advance 79 = .ok (.iload 4, 2) := by decide +kernel
theorem dX6_advance_81 : decode cX6_advance 81 = .ok (.iload 5, 2) := by decide +kernel
theorem dX6_advance_83 : decode cX6_advance 83 = .ok (.invokestatic 286, 3) := by decide +kernel
theorem dX6_advance_86 : decode cX6_advance 86 = .ok (.iinc 4 1, 3) := by decide +kernel
theorem dX6_advance_89 : decode cX6_advance 89 = .ok (.iinc 5 (-1), 3) := by decide +kernel
theorem dX6_advance_92 : decode cX6_advance 92 = .ok (.goto (-21), 3) := by decide +kernel
theorem dX6_advance_95 : decode cX6_advance 95 = .ok (.iconst 1, 1) := by decide +kernel
theorem dX6_advance_96 : decode cX6_advance 96 = .ok (.ireturn, 1) := by decide +kernel
theorem dX6_swap_0 : decode cX6_swap 0 = .ok (.aload_n 0, 1) := by decide +kernel
theorem dX6_swap_1 : decode cX6_swap 1 = .ok (.iload_n 1, 1) := by decide +kernel
theorem dX6_swap_2 : decode cX6_swap 2 = .ok (.iaload, 1) := by decide +kernel
theorem dX6_swap_3 : decode cX6_swap 3 = .ok (.istore_n 3, 1) := by decide +kernel
theorem dX6_swap_4 : decode cX6_swap 4 = .ok (.aload_n 0, 1) := by decide +kernel
theorem dX6_swap_5 : decode cX6_swap 5 = .ok (.iload_n 1, 1) := by decide +kernel
theorem dX6_swap_6 : decode cX6_swap 6 = .ok (.aload_n 0, 1) := by decide +kernel
theorem dX6_swap_7 : decode cX6_swap 7 = .ok (.iload_n 2, 1) := by decide +kernel
theorem dX6_swap_8 : decode cX6_swap 8 = .ok (.iaload, 1) := by decide +kernel
theorem dX6_swap_9 : decode cX6_swap 9 = .ok (.iastore, 1) := by decide +kernel
theorem dX6_swap_10 : decode cX6_swap 10 = .ok (.aload_n 0, 1) := by decide +kernel
theorem dX6_swap_11 : decode cX6_swap 11 = .ok (.iload_n 2, 1) := by decide +kernel
theorem dX6_swap_12 : decode cX6_swap 12 = .ok (.iload_n 3, 1) := by decide +kernel
theorem dX6_swap_13 : decode cX6_swap 13 = .ok (.iastore, 1) := by decide +kernel
theorem dX6_swap_14 : decode cX6_swap 14 = .ok (.return_, 1) := by decide +kernel
theorem dX6_markStep_0 : decode cX6_markStep 0 = .ok (.aload_n 0, 1) := by decide +kernel
theorem dX6_markStep_1 : decode cX6_markStep 1 = .ok (.dup, 1) := by decide +kernel
theorem dX6_markStep_2 : decode cX6_markStep 2 = .ok (.getfield 259, 3) := by decide +kernel
theorem dX6_markStep_5 : decode cX6_markStep 5 = .ok (.lconst 1, 1) := by decide +kernel
theorem dX6_markStep_6 : decode cX6_markStep 6 = .ok (.ladd, 1) := by decide +kernel
theorem dX6_markStep_7 : decode cX6_markStep 7 = .ok (.putfield 259, 3) := by decide +kernel
theorem dX6_markStep_10 : decode cX6_markStep 10 = .ok (.aload_n 0, 1) := by decide +kernel
theorem dX6_markStep_11 : decode cX6_markStep 11 = .ok (.getfield 19, 3) := by decide +kernel
theorem dX6_markStep_14 : decode cX6_markStep 14 = .ok (.getfield 100, 3) := by decide +kernel
theorem dX6_markStep_17 : decode cX6_markStep 17 = .ok (.iload_n 1, 1) := by decide +kernel
theorem dX6_markStep_18 : decode cX6_markStep 18 = .ok (.iaload, 1) := by decide +kernel
theorem dX6_markStep_19 : decode cX6_markStep 19 = .ok (.ireturn, 1) := by decide +kernel
theorem dX6_markPoint_0 : decode cX6_markPoint 0 = .ok (.aload_n 0, 1) := by decide +kernel
theorem dX6_markPoint_1 : decode cX6_markPoint 1 = .ok (.dup, 1) := by decide +kernel
theorem dX6_markPoint_2 : decode cX6_markPoint 2 = .ok (.getfield 259, 3) := by decide +kernel
theorem dX6_markPoint_5 : decode cX6_markPoint 5 = .ok (.ldc2_w 290, 3) := by decide +kernel
theorem dX6_markPoint_8 : decode cX6_markPoint 8 = .ok (.ladd, 1) := by decide +kernel
theorem dX6_markPoint_9 : decode cX6_markPoint 9 = .ok (.putfield 259, 3) := by decide +kernel
theorem dX6_markPoint_12 : decode cX6_markPoint 12 = .ok (.aload_n 0, 1) := by decide +kernel
theorem dX6_markPoint_13 : decode cX6_markPoint 13 = .ok (.iload_n 1, 1) := by decide +kernel
theorem dX6_markPoint_14 : decode cX6_markPoint 14 = .ok (.invokevirtual 234, 3) := by decide +kernel
theorem dX6_markPoint_17 : decode cX6_markPoint 17 = .ok (.aload_n 0, 1) := by decide +kernel
theorem dX6_markPoint_18 : decode cX6_markPoint 18 = .ok (.getfield 29, 3) := by decide +kernel
theorem dX6_markPoint_21 : decode cX6_markPoint 21 = .ok (.getfield 96, 3) := by decide +kernel
theorem dX6_markPoint_24 : decode cX6_markPoint 24 = .ok (.getfield 103, 3) := by decide +kernel
theorem dX6_markPoint_27 : decode cX6_markPoint 27 = .ok (.iload_n 1, 1) := by decide +kernel
theorem dX6_markPoint_28 : decode cX6_markPoint 28 = .ok (.iaload, 1) := by decide +kernel
theorem dX6_markPoint_29 : decode cX6_markPoint 29 = .ok (.iadd, 1) := by decide +kernel
theorem dX6_markPoint_30 : decode cX6_markPoint 30 = .ok (.ireturn, 1) := by decide +kernel
theorem dX6_markEye_0 : decode cX6_markEye 0 = .ok (.aload_n 0, 1) := by decide +kernel
theorem dX6_markEye_1 : decode cX6_markEye 1 = .ok (.dup, 1) := by decide +kernel
theorem dX6_markEye_2 : decode cX6_markEye 2 = .ok (.getfield 259, 3) := by decide +kernel
theorem dX6_markEye_5 : decode cX6_markEye 5 = .ok (.ldc2_w 292, 3) := by decide +kernel
theorem dX6_markEye_8 : decode cX6_markEye 8 = .ok (.ladd, 1) := by decide +kernel
theorem dX6_markEye_9 : decode cX6_markEye 9 = .ok (.putfield 259, 3) := by decide +kernel
theorem dX6_markEye_12 : decode cX6_markEye 12 = .ok (.aload_n 0, 1) := by decide +kernel
theorem dX6_markEye_13 : decode cX6_markEye 13 = .ok (.iload_n 1, 1) := by decide +kernel
theorem dX6_markEye_14 : decode cX6_markEye 14 = .ok (.invokevirtual 234, 3) := by decide +kernel
theorem dX6_markEye_17 : decode cX6_markEye 17 = .ok (.aload_n 0, 1) := by decide +kernel
theorem dX6_markEye_18 : decode cX6_markEye 18 = .ok (.getfield 19, 3) := by decide +kernel
theorem dX6_markEye_21 : decode cX6_markEye 21 = .ok (.getfield 108, 3) := by decide +kernel
theorem dX6_markEye_24 : decode cX6_markEye 24 = .ok (.iload_n 1, 1) := by decide +kernel
theorem dX6_markEye_25 : decode cX6_markEye 25 = .ok (.iaload, 1) := by decide +kernel
theorem dX6_markEye_26 : decode cX6_markEye 26 = .ok (.isub, 1) := by decide +kernel
theorem dX6_markEye_27 : decode cX6_markEye 27 = .ok (.ireturn, 1) := by decide +kernel
theorem dX6_markTrue_0 : decode cX6_markTrue 0 = .ok (.aload_n 0, 1) := by decide +kernel
theorem dX6_markTrue_1 : decode cX6_markTrue 1 = .ok (.dup, 1) := by decide +kernel
theorem dX6_markTrue_2 : decode cX6_markTrue 2 = .ok (.getfield 259, 3) := by decide +kernel
theorem dX6_markTrue_5 : decode cX6_markTrue 5 = .ok (.ldc2_w 294, 3) := by decide +kernel
theorem dX6_markTrue_8 : decode cX6_markTrue 8 = .ok (.ladd, 1) := by decide +kernel
theorem dX6_markTrue_9 : decode cX6_markTrue 9 = .ok (.putfield 259, 3) := by decide +kernel
theorem dX6_markTrue_12 : decode cX6_markTrue 12 = .ok (.aload_n 0, 1) := by decide +kernel
theorem dX6_markTrue_13 : decode cX6_markTrue 13 = .ok (.iload_n 1, 1) := by decide +kernel
theorem dX6_markTrue_14 : decode cX6_markTrue 14 = .ok (.invokevirtual 237, 3) := by decide +kernel
theorem dX6_markTrue_17 : decode cX6_markTrue 17 = .ok (.iconst 2, 1) := by decide +kernel
theorem dX6_markTrue_18 : decode cX6_markTrue 18 = .ok (.imul, 1) := by decide +kernel
theorem dX6_markTrue_19 : decode cX6_markTrue 19 = .ok (.ireturn, 1) := by decide +kernel
theorem dX6_markBlue_0 : decode cX6_markBlue 0 = .ok (.aload_n 0, 1) := by decide +kernel
theorem dX6_markBlue_1 : decode cX6_markBlue 1 = .ok (.dup, 1) := by decide +kernel
theorem dX6_markBlue_2 : decode cX6_markBlue 2 = .ok (.getfield 259, 3) := by decide +kernel
theorem dX6_markBlue_5 : decode cX6_markBlue 5 = .ok (.ldc2_w 296, 3) := by decide +kernel
theorem dX6_markBlue_8 : decode cX6_markBlue 8 = .ok (.ladd, 1) := by decide +kernel
theorem dX6_markBlue_9 : decode cX6_markBlue 9 = .ok (.putfield 259, 3) := by decide +kernel
theorem dX6_markBlue_12 : decode cX6_markBlue 12 = .ok (.aload_n 0, 1) := by decide +kernel
theorem dX6_markBlue_13 : decode cX6_markBlue 13 = .ok (.iload_n 1, 1) := by decide +kernel
theorem dX6_markBlue_14 : decode cX6_markBlue 14 = .ok (.invokevirtual 240, 3) := by decide +kernel
theorem dX6_markBlue_17 : decode cX6_markBlue 17 = .ok (.aload_n 0, 1) := by decide +kernel
theorem dX6_markBlue_18 : decode cX6_markBlue 18 = .ok (.getfield 29, 3) := by decide +kernel
theorem dX6_markBlue_21 : decode cX6_markBlue 21 = .ok (.getfield 96, 3) := by decide +kernel
theorem dX6_markBlue_24 : decode cX6_markBlue 24 = .ok (.getfield 117, 3) := by decide +kernel
theorem dX6_markBlue_27 : decode cX6_markBlue 27 = .ok (.iload_n 1, 1) := by decide +kernel
theorem dX6_markBlue_28 : decode cX6_markBlue 28 = .ok (.iaload, 1) := by decide +kernel
theorem dX6_markBlue_29 : decode cX6_markBlue 29 = .ok (.iadd, 1) := by decide +kernel
theorem dX6_markBlue_30 : decode cX6_markBlue 30 = .ok (.ireturn, 1) := by decide +kernel
theorem dX6_markSack_0 : decode cX6_markSack 0 = .ok (.aload_n 0, 1) := by decide +kernel
theorem dX6_markSack_1 : decode cX6_markSack 1 = .ok (.dup, 1) := by decide +kernel
theorem dX6_markSack_2 : decode cX6_markSack 2 = .ok (.getfield 259, 3) := by decide +kernel
theorem dX6_markSack_5 : decode cX6_markSack 5 = .ok (.ldc2_w 298, 3) := by decide +kernel
theorem dX6_markSack_8 : decode cX6_markSack 8 = .ok (.ladd, 1) := by decide +kernel
theorem dX6_markSack_9 : decode cX6_markSack 9 = .ok (.putfield 259, 3) := by decide +kernel
theorem dX6_markSack_12 : decode cX6_markSack 12 = .ok (.aload_n 0, 1) := by decide +kernel
theorem dX6_markSack_13 : decode cX6_markSack 13 = .ok (.iload_n 1, 1) := by decide +kernel
theorem dX6_markSack_14 : decode cX6_markSack 14 = .ok (.invokevirtual 234, 3) := by decide +kernel
theorem dX6_markSack_17 : decode cX6_markSack 17 = .ok (.aload_n 0, 1) := by decide +kernel
theorem dX6_markSack_18 : decode cX6_markSack 18 = .ok (.getfield 29, 3) := by decide +kernel
theorem dX6_markSack_21 : decode cX6_markSack 21 = .ok (.getfield 96, 3) := by decide +kernel
theorem dX6_markSack_24 : decode cX6_markSack 24 = .ok (.getfield 136, 3) := by decide +kernel
theorem dX6_markSack_27 : decode cX6_markSack 27 = .ok (.iadd, 1) := by decide +kernel
theorem dX6_markSack_28 : decode cX6_markSack 28 = .ok (.ireturn, 1) := by decide +kernel
theorem dX7_init_0 : decode cX7_init 0 = .ok (.aload_n 0, 1) := by decide +kernel
theorem dX7_init_1 : decode cX7_init 1 = .ok (.invokespecial 1, 3) := by decide +kernel
theorem dX7_init_4 : decode cX7_init 4 = .ok (.aload_n 0, 1) := by decide +kernel
theorem dX7_init_5 : decode cX7_init 5 = .ok (.sipush 150, 3) := by decide +kernel
theorem dX7_init_8 : decode cX7_init 8 = .ok (.newarray .byte, 2) := by decide +kernel
theorem dX7_init_10 : decode cX7_init 10 = .ok (.putfield 7, 3) := by decide +kernel
theorem dX7_init_13 : decode cX7_init 13 = .ok (.aload_n 0, 1) := by decide +kernel
theorem dX7_init_14 : decode cX7_init 14 = .ok (.iconst 2, 1) := by decide +kernel
theorem dX7_init_15 : decode cX7_init 15 = .ok (.newarray .int, 2) := by decide +kernel
theorem dX7_init_17 : decode cX7_init 17 = .ok (.putfield 13, 3) := by decide +kernel
theorem dX7_init_20 : decode cX7_init 20 = .ok (.aload_n 0, 1) := by decide +kernel
theorem dX7_init_21 : decode cX7_init 21 = .ok (.bipush 10, 2) := by decide +kernel
theorem dX7_init_23 : decode cX7_init 23 = .ok (.newarray .int, 2) := by decide +kernel
theorem dX7_init_25 : decode cX7_init 25 = .ok (.putfield 17, 3) := by decide +kernel
theorem dX7_init_28 : decode cX7_init 28 = .ok (.aload_n 0, 1) := by decide +kernel
theorem dX7_init_29 : decode cX7_init 29 = .ok (.iconst 5, 1) := by decide +kernel
theorem dX7_init_30 : decode cX7_init 30 = .ok (.newarray .int, 2) := by decide +kernel
theorem dX7_init_32 : decode cX7_init 32 = .ok (.putfield 20, 3) := by decide +kernel
theorem dX7_init_35 : decode cX7_init 35 = .ok (.aload_n 0, 1) := by decide +kernel
theorem dX7_init_36 : decode cX7_init 36 = .ok (.bipush 10, 2) := by decide +kernel
theorem dX7_init_38 : decode cX7_init 38 = .ok (.newarray .int, 2) := by decide +kernel
theorem dX7_init_40 : decode cX7_init 40 = .ok (.putfield 23, 3) := by decide +kernel
theorem dX7_init_43 : decode cX7_init 43 = .ok (.aload_n 0, 1) := by decide +kernel
theorem dX7_init_44 : decode cX7_init 44 = .ok (.bipush 10, 2) := by decide +kernel
theorem dX7_init_46 : decode cX7_init 46 = .ok (.newarray .int, 2) := by decide +kernel
theorem dX7_init_48 : decode cX7_init 48 = .ok (.putfield 26, 3) := by decide +kernel
theorem dX7_init_51 : decode cX7_init 51 = .ok (.aload_n 0, 1) := by decide +kernel
theorem dX7_init_52 : decode cX7_init 52 = .ok (.bipush 10, 2) := by decide +kernel
theorem dX7_init_54 : decode cX7_init 54 = .ok (.newarray .int, 2) := by decide +kernel
theorem dX7_init_56 : decode cX7_init 56 = .ok (.putfield 29, 3) := by decide +kernel
theorem dX7_init_59 : decode cX7_init 59 = .ok (.aload_n 0, 1) := by decide +kernel
theorem dX7_init_60 : decode cX7_init 60 = .ok (.iconst 2, 1) := by decide +kernel
theorem dX7_init_61 : decode cX7_init 61 = .ok (.newarray .int, 2) := by decide +kernel
theorem dX7_init_63 : decode cX7_init 63 = .ok (.putfield 32, 3) := by decide +kernel
theorem dX7_init_66 : decode cX7_init 66 = .ok (.aload_n 0, 1) := by decide +kernel
theorem dX7_init_67 : decode cX7_init 67 = .ok (.sipush 663, 3) := by decide +kernel
theorem dX7_init_70 : decode cX7_init 70 = .ok (.newarray .int, 2) := by decide +kernel
theorem dX7_init_72 : decode cX7_init 72 = .ok (.putfield 35, 3) := by decide +kernel
theorem dX7_init_75 : decode cX7_init 75 = .ok (.aload_n 0, 1) := by decide +kernel
theorem dX7_init_76 : decode cX7_init 76 = .ok (.iconst 2, 1) := by decide +kernel
theorem dX7_init_77 : decode cX7_init 77 = .ok (.newarray .boolean, 2) := by decide +kernel
theorem dX7_init_79 : decode cX7_init 79 = .ok (.putfield 38, 3) := by decide +kernel
theorem dX7_init_82 : decode cX7_init 82 = .ok (.aload_n 0, 1) := by decide +kernel
theorem dX7_init_83 : decode cX7_init 83 = .ok (.iconst 5, 1) := by decide +kernel
theorem dX7_init_84 : decode cX7_init 84 = .ok (.newarray .int, 2) := by decide +kernel
theorem dX7_init_86 : decode cX7_init 86 = .ok (.putfield 42, 3) := by decide +kernel
theorem dX7_init_89 : decode cX7_init 89 = .ok (.aload_n 0, 1) := by decide +kernel
theorem dX7_init_90 : decode cX7_init 90 = .ok (.iconst 5, 1) := by decide +kernel
theorem dX7_init_91 : decode cX7_init 91 = .ok (.newarray .long, 2) := by decide +kernel
theorem dX7_init_93 : decode cX7_init 93 = .ok (.putfield 45, 3) := by decide +kernel
theorem dX7_init_96 : decode cX7_init 96 = .ok (.aload_n 0, 1) := by decide +kernel
theorem dX7_init_97 : decode cX7_init 97 = .ok (.iconst 5, 1) := by decide +kernel
theorem dX7_init_98 : decode cX7_init 98 = .ok (.newarray .long, 2) := by decide +kernel
theorem dX7_init_100 : decode cX7_init 100 = .ok (.putfield 49, 3) := by decide +kernel
theorem dX7_init_103 : decode cX7_init 103 = .ok (.aload_n 0, 1) := by decide +kernel
theorem dX7_init_104 : decode cX7_init 104 = .ok (.iconst 5, 1) := by decide +kernel
theorem dX7_init_105 : decode cX7_init 105 = .ok (.newarray .int, 2) := by decide +kernel
theorem dX7_init_107 : decode cX7_init 107 = .ok (.putfield 52, 3) := by decide +kernel
theorem dX7_init_110 : decode cX7_init 110 = .ok (.aload_n 0, 1) := by decide +kernel
theorem dX7_init_111 : decode cX7_init 111 = .ok (.bipush 6, 2) := by decide +kernel
theorem dX7_init_113 : decode cX7_init 113 = .ok (.newarray .int, 2) := by decide +kernel
theorem dX7_init_115 : decode cX7_init 115 = .ok (.putfield 55, 3) := by decide +kernel
theorem dX7_init_118 : decode cX7_init 118 = .ok (.aload_n 0, 1) := by decide +kernel
theorem dX7_init_119 : decode cX7_init 119 = .ok (.bipush 6, 2) := by decide +kernel
theorem dX7_init_121 : decode cX7_init 121 = .ok (.newarray .int, 2) := by decide +kernel
theorem dX7_init_123 : decode cX7_init 123 = .ok (.putfield 58, 3) := by decide +kernel
theorem dX7_init_126 : decode cX7_init 126 = .ok (.aload_n 0, 1) := by decide +kernel
theorem dX7_init_127 : decode cX7_init 127 = .ok (.invokevirtual 61, 3) := by decide +kernel
theorem dX7_init_130 : decode cX7_init 130 = .ok (.aload_n 0, 1) := by decide +kernel
theorem dX7_init_131 : decode cX7_init 131 = .ok (.invokevirtual 64, 3) := by decide +kernel
theorem dX7_init_134 : decode cX7_init 134 = .ok (.return_, 1) := by decide +kernel
theorem dX7_in_0 : decode cX7_in 0 = .ok (.iload_n 0, 1) := by decide +kernel
theorem dX7_in_1 : decode cX7_in 1 = .ok (.iload_n 1, 1) := by decide +kernel
theorem dX7_in_2 : decode cX7_in 2 = .ok (.if_icmp .lt 12, 3) := by decide +kernel
theorem dX7_in_5 : decode cX7_in 5 = .ok (.iload_n 0, 1) := by decide +kernel
theorem dX7_in_6 : decode cX7_in 6 = .ok (.iload_n 2, 1) := by decide +kernel
theorem dX7_in_7 : decode cX7_in 7 = .ok (.if_icmp .gt 7, 3) := by decide +kernel
theorem dX7_in_10 : decode cX7_in 10 = .ok (.iconst 1, 1) := by decide +kernel
theorem dX7_in_11 : decode cX7_in 11 = .ok (.goto 4, 3) := by decide +kernel
theorem dX7_in_14 : decode cX7_in 14 = .ok (.iconst 0, 1) := by decide +kernel
theorem dX7_in_15 : decode cX7_in 15 = .ok (.ireturn, 1) := by decide +kernel
theorem dX7_type_0 : decode cX7_type 0 = .ok (.iload_n 1, 1) := by decide +kernel
theorem dX7_type_1 : decode cX7_type 1 = .ok (.iconst 0, 1) := by decide +kernel
theorem dX7_type_2 : decode cX7_type 2 = .ok (.sipush 255, 3) := by decide +kernel
theorem dX7_type_5 : decode cX7_type 5 = .ok (.invokestatic 67, 3) := by decide +kernel
theorem dX7_type_8 : decode cX7_type 8 = .ok (.ifCond .ne 5, 3) := by decide +kernel
theorem dX7_type_11 : decode cX7_type 11 = .ok (.iconst (-1), 1) := by decide +kernel
theorem dX7_type_12 : decode cX7_type 12 = .ok (.ireturn, 1) := by decide +kernel
theorem dX7_type_13 : decode cX7_type 13 = .ok (.aload_n 0, 1) := by decide +kernel
theorem dX7_type_14 : decode cX7_type 14 = .ok (.getfield 71, 3) := by decide +kernel
theorem dX7_type_17 : decode cX7_type 17 = .ok (.sipush 150, 3) := by decide +kernel
theorem dX7_type_20 : decode cX7_type 20 = .ok (.if_icmp .ne 6, 3) := by decide +kernel
theorem dX7_type_23 : decode cX7_type 23 = .ok (.bipush (-3), 2) := by decide +kernel
theorem dX7_type_25 : decode cX7_type 25 = .ok (.ireturn, 1) := by decide +kernel
theorem dX7_type_26 : decode cX7_type 26 = .ok (.aload_n 0, 1) := by decide +kernel
theorem dX7_type_27 : decode cX7_type 27 = .ok (.getfield 7, 3) := by decide +kernel
theorem dX7_type_30 : decode cX7_type 30 = .ok (.aload_n 0, 1) := by decide +kernel
theorem dX7_type_31 : decode cX7_type 31 = .ok (.getfield 71, 3) := by decide +kernel
theorem dX7_type_34 : decode cX7_type 34 = .ok (.iload_n 1, 1) := by decide +kernel
theorem dX7_type_35 : decode cX7_type 35 = .ok (.i2b, 1) := by decide +kernel
theorem dX7_type_36 : decode cX7_type 36 = .ok (.bastore, 1) := by decide +kernel
theorem dX7_type_37 : decode cX7_type 37 = .ok (.aload_n 0, 1) := by decide +kernel
theorem dX7_type_38 : decode cX7_type 38 = .ok (.dup, 1) := by decide +kernel
theorem dX7_type_39 : decode cX7_type 39 = .ok (.getfield 71, 3) := by decide +kernel
theorem dX7_type_42 : decode cX7_type 42 = .ok (.iconst 1, 1) := by decide +kernel
theorem dX7_type_43 : decode cX7_type 43 = .ok (.iadd, 1) := by decide +kernel
theorem dX7_type_44 : decode cX7_type 44 = .ok (.putfield 71, 3) := by decide +kernel
theorem dX7_type_47 : decode cX7_type 47 = .ok (.aload_n 0, 1) := by decide +kernel
theorem dX7_type_48 : decode cX7_type 48 = .ok (.getfield 71, 3) := by decide +kernel
theorem dX7_type_51 : decode cX7_type 51 = .ok (.ireturn, 1) := by decide +kernel
theorem dX7_clear_0 : decode cX7_clear 0 = .ok (.aload_n 0, 1) := by decide +kernel
theorem dX7_clear_1 : decode cX7_clear 1 = .ok (.getfield 71, 3) := by decide +kernel
theorem dX7_clear_4 : decode cX7_clear 4 = .ok (.istore_n 1, 1) := by decide +kernel
theorem dX7_clear_5 : decode cX7_clear 5 = .ok (.aload_n 0, 1) := by decide +kernel
theorem dX7_clear_6 : decode cX7_clear 6 = .ok (.iconst 0, 1) := by decide +kernel
theorem dX7_clear_7 : decode cX7_clear 7 = .ok (.putfield 71, 3) := by decide +kernel
theorem dX7_clear_10 : decode cX7_clear 10 = .ok (.iload_n 1, 1) := by decide +kernel
theorem dX7_clear_11 : decode cX7_clear 11 = .ok (.ireturn, 1) := by decide +kernel
theorem dX7_here_0 : decode cX7_here 0 = .ok (.aload_n 0, 1) := by decide +kernel
theorem dX7_here_1 : decode cX7_here 1 = .ok (.getfield 75, 3) := by decide +kernel
theorem dX7_here_4 : decode cX7_here 4 = .ok (.aload_n 0, 1) := by decide +kernel
theorem dX7_here_5 : decode cX7_here 5 = .ok (.getfield 71, 3) := by decide +kernel
theorem dX7_here_8 : decode cX7_here 8 = .ok (.if_icmp .ge 19, 3) := by decide +kernel
theorem dX7_here_11 : decode cX7_here 11 = .ok (.aload_n 0, 1) := by decide +kernel
theorem dX7_here_12 : decode cX7_here 12 = .ok (.getfield 7, 3) := by decide +kernel
theorem dX7_here_15 : decode cX7_here 15 = .ok (.aload_n 0, 1) := by decide +kernel
theorem dX7_here_16 : decode cX7_here 16 = .ok (.getfield 75, 3) := by decide +kernel
theorem dX7_here_19 : decode cX7_here 19 = .ok (.baload, 1) := by decide +kernel
theorem dX7_here_20 : decode cX7_here 20 = .ok (.sipush 255, 3) := by decide +kernel
theorem dX7_here_23 : decode cX7_here 23 = .ok (.iand, 1) := by decide +kernel
theorem dX7_here_24 : decode cX7_here 24 = .ok (.goto 4, 3) := by decide +kernel
theorem dX7_here_27 : decode cX7_here 27 = .ok (.iconst (-1), 1) := by decide +kernel
theorem dX7_here_28 : decode cX7_here 28 = .ok (.ireturn, 1) := by decide +kernel
theorem dX7_read_0 : decode cX7_read 0 = .ok (.aload_n 0, 1) := by decide +kernel
theorem dX7_read_1 : decode cX7_read 1 = .ok (.invokevirtual 78, 3) := by decide +kernel
theorem dX7_read_4 : decode cX7_read 4 = .ok (.bipush 32, 2) := by decide +kernel
theorem dX7_read_6 : decode cX7_read 6 = .ok (.if_icmp .ne 16, 3) := by decide +kernel
theorem dX7_read_9 : decode cX7_read 9 = .ok (.aload_n 0, 1) := by decide +kernel
theorem dX7_read_10 : decode cX7_read 10 = .ok (.dup, 1) := by decide +kernel
theorem dX7_read_11 : decode cX7_read 11 = .ok (.getfield 75, 3) := by decide +kernel
theorem dX7_read_14 : decode cX7_read 14 = .ok (.iconst 1, 1) := by decide +kernel
theorem dX7_read_15 : decode cX7_read 15 = .ok (.iadd, 1) := by decide +kernel
theorem dX7_read_16 : decode cX7_read 16 = .ok (.putfield 75, 3) := by decide +kernel
theorem dX7_read_19 : decode cX7_read 19 = .ok (.goto (-19), 3) := by decide +kernel
theorem dX7_read_22 : decode cX7_read 22 = .ok (.aload_n 0, 1) := by decide +kernel
theorem dX7_read_23 : decode cX7_read 23 = .ok (.aload_n 0, 1) := by decide +kernel
theorem dX7_read_24 : decode cX7_read 24 = .ok (.getfield 75, 3) := by decide +kernel
theorem dX7_read_27 : decode cX7_read 27 = .ok (.putfield 82, 3) := by decide +kernel
theorem dX7_read_30 : decode cX7_read 30 = .ok (.aload_n 0, 1) := by decide +kernel
theorem dX7_read_31 : decode cX7_read 31 = .ok (.iconst 0, 1) := by decide +kernel
theorem dX7_read_32 : decode cX7_read 32 = .ok (.putfield 85, 3) := by decide +kernel
theorem dX7_read_35 : decode cX7_read 35 = .ok (.aload_n 0, 1) := by decide +kernel
theorem dX7_read_36 : decode cX7_read 36 = .ok (.invokevirtual 78, 3) := by decide +kernel
theorem dX7_read_39 : decode cX7_read 39 = .ok (.istore_n 1, 1) := by decide +kernel
theorem dX7_read_40 : decode cX7_read 40 = .ok (.iload_n 1, 1) := by decide +kernel
theorem dX7_read_41 : decode cX7_read 41 = .ok (.ifCond .ge 11, 3) := by decide +kernel
theorem dX7_read_44 : decode cX7_read 44 = .ok (.aload_n 0, 1) := by decide +kernel
theorem dX7_read_45 : decode cX7_read 45 = .ok (.iconst 3, 1) := by decide +kernel
theorem dX7_read_46 : decode cX7_read 46 = .ok (.putfield 88, 3) := by decide +kernel
theorem dX7_read_49 : decode cX7_read 49 = .ok (.goto 204, 3) := by decide +kernel
theorem dX7_read_52 : decode cX7_read 52 = .ok (.iload_n 1, 1) := by decide +kernel
theorem dX7_read_53 : decode cX7_read 53 = .ok (.bipush 97, 2) := by decide +kernel
theorem dX7_read_55 : decode cX7_read 55 = .ok (.bipush 122, 2) := by decide +kernel
theorem dX7_read_57 : decode cX7_read 57 = .ok (.invokestatic 67, 3) := by decide +kernel
theorem dX7_read_60 : decode cX7_read 60 = .ok (.ifCond .eq 55, 3) := by decide +kernel
theorem dX7_read_63 : decode cX7_read 63 = .ok (.aload_n 0, 1) := by decide +kernel
theorem dX7_read_64 : decode cX7_read 64 = .ok (.invokevirtual 78, 3) := by decide +kernel
theorem dX7_read_67 : decode cX7_read 67 = .ok (.bipush 97, 2) := by decide +kernel
theorem dX7_read_69 : decode cX7_read 69 = .ok (.bipush 122, 2) := by decide +kernel
theorem dX7_read_71 : decode cX7_read 71 = .ok (.invokestatic 67, 3) := by decide +kernel
theorem dX7_read_74 : decode cX7_read 74 = .ok (.ifCond .eq 16, 3) := by decide +kernel
theorem dX7_read_77 : decode cX7_read 77 = .ok (.aload_n 0, 1) := by decide +kernel
theorem dX7_read_78 : decode cX7_read 78 = .ok (.dup, 1) := by decide +kernel
theorem dX7_read_79 : decode cX7_read 79 = .ok (.getfield 75, 3) := by decide +kernel
theorem dX7_read_82 : decode cX7_read 82 = .ok (.iconst 1, 1) := by decide +kernel
theorem dX7_read_83 : decode cX7_read 83 = .ok (.iadd, 1) := by decide +kernel
theorem dX7_read_84 : decode cX7_read 84 = .ok (.putfield 75, 3) := by decide +kernel
theorem dX7_read_87 : decode cX7_read 87 = .ok (.goto (-24), 3) := by decide +kernel
theorem dX7_read_90 : decode cX7_read 90 = .ok (.aload_n 0, 1) := by decide +kernel
theorem dX7_read_91 : decode cX7_read 91 = .ok (.aload_n 0, 1) := by decide +kernel
theorem dX7_read_92 : decode cX7_read 92 = .ok (.getfield 75, 3) := by decide +kernel
theorem dX7_read_95 : decode cX7_read 95 = .ok (.aload_n 0, 1) := by decide +kernel
theorem dX7_read_96 : decode cX7_read 96 = .ok (.getfield 82, 3) := by decide +kernel
theorem dX7_read_99 : decode cX7_read 99 = .ok (.isub, 1) := by decide +kernel
theorem dX7_read_100 : decode cX7_read 100 = .ok (.iconst 1, 1) := by decide +kernel
theorem dX7_read_101 : decode cX7_read 101 = .ok (.if_icmp .ne 7, 3) := by decide +kernel
theorem dX7_read_104 : decode cX7_read 104 = .ok (.iload_n 1, 1) := by decide +kernel
theorem dX7_read_105 : decode cX7_read 105 = .ok (.goto 4, 3) := by decide +kernel
theorem dX7_read_108 : decode cX7_read 108 = .ok (.iconst 4, 1) := by decide +kernel
theorem dX7_read_109 : decode cX7_read 109 = .ok (.putfield 88, 3) := by decide +kernel
theorem dX7_read_112 : decode cX7_read 112 = .ok (.goto 141, 3) := by decide +kernel
theorem dX7_read_115 : decode cX7_read 115 = .ok (.iload_n 1, 1) := by decide +kernel
theorem dX7_read_116 : decode cX7_read 116 = .ok (.bipush 48, 2) := by decide +kernel
theorem dX7_read_118 : decode cX7_read 118 = .ok (.bipush 57, 2) := by decide +kernel
theorem dX7_read_120 : decode cX7_read 120 = .ok (.invokestatic 67, 3) := by decide +kernel
theorem dX7_read_123 : decode cX7_read 123 = .ok (.ifCond .eq 105, 3) := by decide +kernel
theorem dX7_read_126 : decode cX7_read 126 = .ok (.aload_n 0, 1) := by decide +kernel
theorem dX7_read_127 : decode cX7_read 127 = .ok (.invokevirtual 78, 3) := by decide +kernel
theorem dX7_read_130 : decode cX7_read 130 = .ok (.bipush 48, 2) := by decide +kernel
theorem dX7_read_132 : decode cX7_read 132 = .ok (.bipush 57, 2) := by decide +kernel
theorem dX7_read_134 : decode cX7_read 134 = .ok (.invokestatic 67, 3) := by decide +kernel
theorem dX7_read_137 : decode cX7_read 137 = .ok (.ifCond .eq 51, 3) := by decide +kernel
theorem dX7_read_140 : decode cX7_read 140 = .ok (.aload_n 0, 1) := by decide +kernel
theorem dX7_read_141 : decode cX7_read 141 = .ok (.aload_n 0, 1) := by decide +kernel
theorem dX7_read_142 : decode cX7_read 142 = .ok (.getfield 85, 3) := by decide +kernel
theorem dX7_read_145 : decode cX7_read 145 = .ok (.bipush 99, 2) := by decide +kernel
theorem dX7_read_147 : decode cX7_read 147 = .ok (.if_icmp .le 10, 3) := by decide +kernel
theorem dX7_read_150 : decode cX7_read 150 = .ok (.aload_n 0, 1) := by decide +kernel
theorem dX7_read_151 : decode cX7_read 151 = .ok (.getfield 85, 3) := by decide +kernel
theorem dX7_read_154 : decode cX7_read 154 = .ok (.goto 18, 3) := by decide +kernel
theorem dX7_read_157 : decode cX7_read 157 = .ok (.bipush 10, 2) := by decide +kernel
theorem dX7_read_159 : decode cX7_read 159 = .ok (.aload_n 0, 1) := by decide +kernel
theorem dX7_read_160 : decode cX7_read 160 = .ok (.getfield 85, 3) := by decide +kernel
theorem dX7_read_163 : decode cX7_read 163 = .ok (.imul, 1) := by decide +kernel
theorem dX7_read_164 : decode cX7_read 164 = .ok (.aload_n 0, 1) := by decide +kernel
theorem dX7_read_165 : decode cX7_read 165 = .ok (.invokevirtual 78, 3) := by decide +kernel
theorem dX7_read_168 : decode cX7_read 168 = .ok (.iadd, 1) := by decide +kernel
theorem dX7_read_169 : decode cX7_read 169 = .ok (.bipush 48, 2) := by decide +kernel
theorem dX7_read_171 : decode cX7_read 171 = .ok (.isub, 1) := by decide +kernel
theorem dX7_read_172 : decode cX7_read 172 = .ok (.putfield 85, 3) := by decide +kernel
theorem dX7_read_175 : decode cX7_read 175 = .ok (.aload_n 0, 1) := by decide +kernel
theorem dX7_read_176 : decode cX7_read 176 = .ok (.dup, 1) := by decide +kernel
theorem dX7_read_177 : decode cX7_read 177 = .ok (.getfield 75, 3) := by decide +kernel
theorem dX7_read_180 : decode cX7_read 180 = .ok (.iconst 1, 1) := by decide +kernel
theorem dX7_read_181 : decode cX7_read 181 = .ok (.iadd, 1) := by decide +kernel
theorem dX7_read_182 : decode cX7_read 182 = .ok (.putfield 75, 3) := by decide +kernel
theorem dX7_read_185 : decode cX7_read 185 = .ok (.goto (-59), 3) := by decide +kernel
theorem dX7_read_188 : decode cX7_read 188 = .ok (.aload_n 0, 1) := by decide +kernel
theorem dX7_read_189 : decode cX7_read 189 = .ok (.aload_n 0, 1) := by decide +kernel
theorem dX7_read_190 : decode cX7_read 190 = .ok (.getfield 85, 3) := by decide +kernel
theorem dX7_read_193 : decode cX7_read 193 = .ok (.bipush 99, 2) := by decide +kernel
theorem dX7_read_195 : decode cX7_read 195 = .ok (.if_icmp .gt 22, 3) := by decide +kernel
theorem dX7_read_198 : decode cX7_read 198 = .ok (.iload_n 1, 1) := by decide +kernel
theorem dX7_read_199 : decode cX7_read 199 = .ok (.bipush 48, 2) := by decide +kernel
theorem dX7_read_201 : decode cX7_read 201 = .ok (.if_icmp .ne 20, 3) := by decide +kernel
theorem dX7_read_204 : decode cX7_read 204 = .ok (.aload_n 0, 1) := by decide +kernel
theorem dX7_read_205 : decode cX7_read 205 = .ok (.getfield 75, 3) := by decide +kernel
theorem dX7_read_208 : decode cX7_read 208 = .ok (.aload_n 0, 1) := by decide +kernel
theorem dX7_read_209 : decode cX7_read 209 = .ok (.getfield 82, 3) := by decide +kernel
theorem dX7_read_212 : decode cX7_read 212 = .ok (.isub, 1) := by decide +kernel
theorem dX7_read_213 : decode cX7_read 213 = .ok (.iconst 1, 1) := by decide +kernel
theorem dX7_read_214 : decode cX7_read 214 = .ok (.if_icmp .le 7, 3) := by decide +kernel
theorem dX7_read_217 : decode cX7_read 217 = .ok (.iconst 4, 1) := by decide +kernel
theorem dX7_read_218 : decode cX7_read 218 = .ok (.goto 4, 3) := by decide +kernel
theorem dX7_read_221 : decode cX7_read 221 = .ok (.iconst 1, 1) := by decide +kernel
theorem dX7_read_222 : decode cX7_read 222 = .ok (.putfield 88, 3) := by decide +kernel
theorem dX7_read_225 : decode cX7_read 225 = .ok (.goto 28, 3) := by decide +kernel
theorem dX7_read_228 : decode cX7_read 228 = .ok (.aload_n 0, 1) := by decide +kernel
theorem dX7_read_229 : decode cX7_read 229 = .ok (.dup, 1) := by decide +kernel
theorem dX7_read_230 : decode cX7_read 230 = .ok (.getfield 75, 3) := by decide +kernel
theorem dX7_read_233 : decode cX7_read 233 = .ok (.iconst 1, 1) := by decide +kernel
theorem dX7_read_234 : decode cX7_read 234 = .ok (.iadd, 1) := by decide +kernel
theorem dX7_read_235 : decode cX7_read 235 = .ok (.putfield 75, 3) := by decide +kernel
theorem dX7_read_238 : decode cX7_read 238 = .ok (.aload_n 0, 1) := by decide +kernel
theorem dX7_read_239 : decode cX7_read 239 = .ok (.iload_n 1, 1) := by decide +kernel
theorem dX7_read_240 : decode cX7_read 240 = .ok (.bipush 59, 2) := by decide +kernel
theorem dX7_read_242 : decode cX7_read 242 = .ok (.if_icmp .ne 7, 3) := by decide +kernel
theorem dX7_read_245 : decode cX7_read 245 = .ok (.iconst 2, 1) := by decide +kernel
theorem dX7_read_246 : decode cX7_read 246 = .ok (.goto 4, 3) := by decide +kernel
theorem dX7_read_249 : decode cX7_read 249 = .ok (.iconst 4, 1) := by decide +kernel
theorem dX7_read_250 : decode cX7_read 250 = .ok (.putfield 88, 3) := by decide +kernel
theorem dX7_read_253 : decode cX7_read 253 = .ok (.return_, 1) := by decide +kernel
theorem dX7_due_0 : decode cX7_due 0 = .ok (.aload_n 0, 1) := by decide +kernel
theorem dX7_due_1 : decode cX7_due 1 = .ok (.getfield 85, 3) := by decide +kernel
theorem dX7_due_4 : decode cX7_due 4 = .ok (.istore_n 2, 1) := by decide +kernel
theorem dX7_due_5 : decode cX7_due 5 = .ok (.aload_n 0, 1) := by decide +kernel
theorem dX7_due_6 : decode cX7_due 6 = .ok (.getfield 91, 3) := by decide +kernel
theorem dX7_due_9 : decode cX7_due 9 = .ok (.bipush (-9), 2) := by decide +kernel
theorem dX7_due_11 : decode cX7_due 11 = .ok (.if_icmp .ne 22, 3) := by decide +kernel
theorem dX7_due_14 : decode cX7_due 14 = .ok (.iload_n 1, 1) := by decide +kernel
theorem dX7_due_15 : decode cX7_due 15 = .ok (.ifCond .eq 10, 3) := by decide +kernel
theorem dX7_due_18 : decode cX7_due 18 = .ok (.aload_n 0, 1) := by decide +kernel
theorem dX7_due_19 : decode cX7_due 19 = .ok (.invokevirtual 94, 3) := by decide +kernel
theorem dX7_due_22 : decode cX7_due 22 = .ok (.goto 11, 3) := by decide +kernel
theorem dX7_due_25 : decode cX7_due 25 = .ok (.aload_n 0, 1) := by decide +kernel
theorem dX7_due_26 : decode cX7_due 26 = .ok (.aload_n 0, 1) := by decide +kernel
theorem dX7_due_27 : decode cX7_due 27 = .ok (.getfield 82, 3) := by decide +kernel
theorem dX7_due_30 : decode cX7_due 30 = .ok (.putfield 91, 3) := by decide +kernel
theorem dX7_due_33 : decode cX7_due 33 = .ok (.iload_n 2, 1) := by decide +kernel
theorem dX7_due_34 : decode cX7_due 34 = .ok (.ireturn, 1) := by decide +kernel
theorem dX7_number_0 : decode cX7_number 0 = .ok (.aload_n 0, 1) := by decide +kernel
theorem dX7_number_1 : decode cX7_number 1 = .ok (.aload_n 0, 1) := by decide +kernel
theorem dX7_number_2 : decode cX7_number 2 = .ok (.getfield 88, 3) := by decide +kernel
theorem dX7_number_5 : decode cX7_number 5 = .ok (.iconst 1, 1) := by decide +kernel
theorem dX7_number_6 : decode cX7_number 6 = .ok (.if_icmp .ne 19, 3) := by decide +kernel
theorem dX7_number_9 : decode cX7_number 9 = .ok (.aload_n 0, 1) := by decide +kernel
theorem dX7_number_10 : decode cX7_number 10 = .ok (.getfield 85, 3) := by decide +kernel
theorem dX7_number_13 : decode cX7_number 13 = .ok (.iload_n 1, 1) := by decide +kernel
theorem dX7_number_14 : decode cX7_number 14 = .ok (.iload_n 2, 1) := by decide +kernel
theorem dX7_number_15 : decode cX7_number 15 = .ok (.invokestatic 67, 3) := by decide +kernel
theorem dX7_number_18 : decode cX7_number 18 = .ok (.ifCond .eq 7, 3) := by decide +kernel
theorem dX7_number_21 : decode cX7_number 21 = .ok (.iconst 1, 1) := by decide +kernel
theorem dX7_number_22 : decode cX7_number 22 = .ok (.goto 4, 3) := by decide +kernel
theorem dX7_number_25 : decode cX7_number 25 = .ok (.iconst 0, 1) := by decide +kernel
theorem dX7_number_26 : decode cX7_number 26 = .ok (.invokevirtual 97, 3) := by decide +kernel
theorem dX7_number_29 : decode cX7_number 29 = .ok (.ireturn, 1) := by decide +kernel
theorem dX7_mayBe_0 : decode cX7_mayBe 0 = .ok (.iload_n 1, 1) := by decide +kernel
theorem dX7_mayBe_1 : decode cX7_mayBe 1 = .ok (.lookupswitch 66 #[(104, 51), (112, 53), (115, 35)], 35) := by decide +kernel
theorem dX7_mayBe_36 : decode cX7_mayBe 36 = .ok (.aload_n 0, 1) := by decide +kernel
theorem dX7_mayBe_37 : decode cX7_mayBe 37 = .ok (.getfield 13, 3) := by decide +kernel
theorem dX7_mayBe_40 : decode cX7_mayBe 40 = .ok (.iconst 1, 1) := by decide +kernel
theorem dX7_mayBe_41 : decode cX7_mayBe 41 = .ok (.iaload, 1) := by decide +kernel
theorem dX7_mayBe_42 : decode cX7_mayBe 42 = .ok (.iconst 5, 1) := by decide +kernel
theorem dX7_mayBe_43 : decode cX7_mayBe 43 = .ok (.if_icmp .ge 7, 3) := by decide +kernel
theorem dX7_mayBe_46 : decode cX7_mayBe 46 = .ok (.iconst 1, 1) := by decide +kernel
theorem dX7_mayBe_47 : decode cX7_mayBe 47 = .ok (.goto 4, 3) := by decide +kernel
theorem dX7_mayBe_50 : decode cX7_mayBe 50 = .ok (.iconst 0, 1) := by decide +kernel
theorem dX7_mayBe_51 : decode cX7_mayBe 51 = .ok (.ireturn, 1) := by decide +kernel
theorem dX7_mayBe_52 : decode cX7_mayBe 52 = .ok (.iconst 1, 1) := by decide +kernel
theorem dX7_mayBe_53 : decode cX7_mayBe 53 = .ok (.ireturn, 1) := by decide +kernel
theorem dX7_mayBe_54 : decode cX7_mayBe 54 = .ok (.aload_n 0, 1) := by decide +kernel
theorem dX7_mayBe_55 : decode cX7_mayBe 55 = .ok (.getfield 101, 3) := by decide +kernel
theorem dX7_mayBe_58 : decode cX7_mayBe 58 = .ok (.ifCond .ne 7, 3) := by decide +kernel
theorem dX7_mayBe_61 : decode cX7_mayBe 61 = .ok (.iconst 1, 1) := by decide +kernel
theorem dX7_mayBe_62 : decode cX7_mayBe 62 = .ok (.goto 4, 3) := by decide +kernel
theorem dX7_mayBe_65 : decode cX7_mayBe 65 = .ok (.iconst 0, 1) := by decide +kernel
theorem dX7_mayBe_66 : decode cX7_mayBe 66 = .ok (.ireturn, 1) := by decide +kernel
theorem dX7_mayBe_67 : decode cX7_mayBe 67 = .ok (.iconst 0, 1) := by decide +kernel
theorem dX7_mayBe_68 : decode cX7_mayBe 68 = .ok (.ireturn, 1) := by decide +kernel
theorem dX7_readRow_0 : decode cX7_readRow 0 = .ok (.iload_n 1, 1) := by decide +kernel
theorem dX7_readRow_1 : decode cX7_readRow 1 = .ok (.lookupswitch 163 #[(104, 105), (115, 27)], 27) := by decide +kernel
theorem dX7_readRow_28 : decode cX7_readRow 28 = .ok (.aload_n 0, 1) := by decide +kernel
theorem dX7_readRow_29 : decode cX7_readRow 29 = .ok (.getfield 13, 3) := by decide +kernel
theorem dX7_readRow_32 : decode cX7_readRow 32 = .ok (.iconst 1, 1) := by decide +kernel
theorem dX7_readRow_33 : decode cX7_readRow 33 = .ok (.iaload, 1) := by decide +kernel
theorem dX7_readRow_34 : decode cX7_readRow 34 = .ok (.istore_n 2, 1) := by decide +kernel
theorem dX7_readRow_35 : decode cX7_readRow 35 = .ok (.aload_n 0, 1) := by decide +kernel
theorem dX7_readRow_36 : decode cX7_readRow 36 = .ok (.getfield 17, 3) := by decide +kernel
theorem dX7_readRow_39 : decode cX7_readRow 39 = .ok (.iconst 5, 1) := by decide +kernel
theorem dX7_readRow_40 : decode cX7_readRow 40 = .ok (.iload_n 2, 1) := by decide +kernel
theorem dX7_readRow_41 : decode cX7_readRow 41 = .ok (.iadd, 1) := by decide +kernel
theorem dX7_readRow_42 : decode cX7_readRow 42 = .ok (.aload_n 0, 1) := by decide +kernel
theorem dX7_readRow_43 : decode cX7_readRow 43 = .ok (.iconst 1, 1) := by decide +kernel
theorem dX7_readRow_44 : decode cX7_readRow 44 = .ok (.bipush 99, 2) := by decide +kernel
theorem dX7_readRow_46 : decode cX7_readRow 46 = .ok (.invokevirtual 105, 3) := by decide +kernel
theorem dX7_readRow_49 : decode cX7_readRow 49 = .ok (.iastore, 1) := by decide +kernel
theorem dX7_readRow_50 : decode cX7_readRow 50 = .ok (.aload_n 0, 1) := by decide +kernel
theorem dX7_readRow_51 : decode cX7_readRow 51 = .ok (.getfield 20, 3) := by decide +kernel
theorem dX7_readRow_54 : decode cX7_readRow 54 = .ok (.iload_n 2, 1) := by decide +kernel
theorem dX7_readRow_55 : decode cX7_readRow 55 = .ok (.aload_n 0, 1) := by decide +kernel
theorem dX7_readRow_56 : decode cX7_readRow 56 = .ok (.iconst 0, 1) := by decide +kernel
theorem dX7_readRow_57 : decode cX7_readRow 57 = .ok (.bipush 9, 2) := by decide +kernel
theorem dX7_readRow_59 : decode cX7_readRow 59 = .ok (.invokevirtual 105, 3) := by decide +kernel
theorem dX7_readRow_62 : decode cX7_readRow 62 = .ok (.iastore, 1) := by decide +kernel
theorem dX7_readRow_63 : decode cX7_readRow 63 = .ok (.aload_n 0, 1) := by decide +kernel
theorem dX7_readRow_64 : decode cX7_readRow 64 = .ok (.getfield 23, 3) := by decide +kernel
theorem dX7_readRow_67 : decode cX7_readRow 67 = .ok (.iconst 5, 1) := by decide +kernel
theorem dX7_readRow_68 : decode cX7_readRow 68 = .ok (.iload_n 2, 1) := by decide +kernel
theorem dX7_readRow_69 : decode cX7_readRow 69 = .ok (.iadd, 1) := by decide +kernel
theorem dX7_readRow_70 : decode cX7_readRow 70 = .ok (.aload_n 0, 1) := by decide +kernel
theorem dX7_readRow_71 : decode cX7_readRow 71 = .ok (.iconst 1, 1) := by decide +kernel
theorem dX7_readRow_72 : decode cX7_readRow 72 = .ok (.bipush 30, 2) := by decide +kernel
theorem dX7_readRow_74 : decode cX7_readRow 74 = .ok (.invokevirtual 105, 3) := by decide +kernel
theorem dX7_readRow_77 : decode cX7_readRow 77 = .ok (.iastore, 1) := by decide +kernel
theorem dX7_readRow_78 : decode cX7_readRow 78 = .ok (.aload_n 0, 1) := by decide +kernel
theorem dX7_readRow_79 : decode cX7_readRow 79 = .ok (.getfield 26, 3) := by decide +kernel
theorem dX7_readRow_82 : decode cX7_readRow 82 = .ok (.iconst 5, 1) := by decide +kernel
theorem dX7_readRow_83 : decode cX7_readRow 83 = .ok (.iload_n 2, 1) := by decide +kernel
theorem dX7_readRow_84 : decode cX7_readRow 84 = .ok (.iadd, 1) := by decide +kernel
theorem dX7_readRow_85 : decode cX7_readRow 85 = .ok (.aload_n 0, 1) := by decide +kernel
theorem dX7_readRow_86 : decode cX7_readRow 86 = .ok (.iconst 0, 1) := by decide +kernel
theorem dX7_readRow_87 : decode cX7_readRow 87 = .ok (.bipush 9, 2) := by decide +kernel
theorem dX7_readRow_89 : decode cX7_readRow 89 = .ok (.invokevirtual 105, 3) := by decide +kernel
theorem dX7_readRow_92 : decode cX7_readRow 92 = .ok (.iastore, 1) := by decide +kernel
theorem dX7_readRow_93 : decode cX7_readRow 93 = .ok (.aload_n 0, 1) := by decide +kernel
theorem dX7_readRow_94 : decode cX7_readRow 94 = .ok (.getfield 13, 3) := by decide +kernel
theorem dX7_readRow_97 : decode cX7_readRow 97 = .ok (.iconst 1, 1) := by decide +kernel
theorem dX7_readRow_98 : decode cX7_readRow 98 = .ok (.dup2, 1) := by decide +kernel
theorem dX7_readRow_99 : decode cX7_readRow 99 = .ok (.iaload, 1) := by decide +kernel
theorem dX7_readRow_100 : decode cX7_readRow 100 = .ok (.iconst 1, 1) := by decide +kernel
theorem dX7_readRow_101 : decode cX7_readRow 101 = .ok (.iadd, 1) := by decide +kernel
theorem dX7_readRow_102 : decode cX7_readRow 102 = .ok (.iastore, 1) := by decide +kernel
theorem dX7_readRow_103 : decode cX7_readRow 103 = .ok (.goto 79, 3) := by decide +kernel
theorem dX7_readRow_106 : decode cX7_readRow 106 = .ok (.aload_n 0, 1) := by decide +kernel
theorem dX7_readRow_107 : decode cX7_readRow 107 = .ok (.iconst 0, 1) := by decide +kernel
theorem dX7_readRow_108 : decode cX7_readRow 108 = .ok (.aload_n 0, 1) := by decide +kernel
theorem dX7_readRow_109 : decode cX7_readRow 109 = .ok (.getfield 13, 3) := by decide +kernel
theorem dX7_readRow_112 : decode cX7_readRow 112 = .ok (.iconst 1, 1) := by decide +kernel
theorem dX7_readRow_113 : decode cX7_readRow 113 = .ok (.iaload, 1) := by decide +kernel
theorem dX7_readRow_114 : decode cX7_readRow 114 = .ok (.iconst 1, 1) := by decide +kernel
theorem dX7_readRow_115 : decode cX7_readRow 115 = .ok (.isub, 1) := by decide +kernel
theorem dX7_readRow_116 : decode cX7_readRow 116 = .ok (.invokevirtual 105, 3) := by decide +kernel
theorem dX7_readRow_119 : decode cX7_readRow 119 = .ok (.istore_n 3, 1) := by decide +kernel
theorem dX7_readRow_120 : decode cX7_readRow 120 = .ok (.aload_n 0, 1) := by decide +kernel
theorem dX7_readRow_121 : decode cX7_readRow 121 = .ok (.iload_n 3, 1) := by decide +kernel
theorem dX7_readRow_122 : decode cX7_readRow 122 = .ok (.iconst 1, 1) := by decide +kernel
theorem dX7_readRow_123 : decode cX7_readRow 123 = .ok (.iadd, 1) := by decide +kernel
theorem dX7_readRow_124 : decode cX7_readRow 124 = .ok (.aload_n 0, 1) := by decide +kernel
theorem dX7_readRow_125 : decode cX7_readRow 125 = .ok (.getfield 13, 3) := by decide +kernel
theorem dX7_readRow_128 : decode cX7_readRow 128 = .ok (.iconst 1, 1) := by decide +kernel
theorem dX7_readRow_129 : decode cX7_readRow 129 = .ok (.iaload, 1) := by decide +kernel
theorem dX7_readRow_130 : decode cX7_readRow 130 = .ok (.iconst 1, 1) := by decide +kernel
theorem dX7_readRow_131 : decode cX7_readRow 131 = .ok (.isub, 1) := by decide +kernel
theorem dX7_readRow_132 : decode cX7_readRow 132 = .ok (.invokevirtual 105, 3) := by decide +kernel
theorem dX7_readRow_135 : decode cX7_readRow 135 = .ok (.istore 4, 2) := by decide +kernel
theorem dX7_readRow_137 : decode cX7_readRow 137 = .ok (.aload_n 0, 1) := by decide +kernel
theorem dX7_readRow_138 : decode cX7_readRow 138 = .ok (.getfield 91, 3) := by decide +kernel
theorem dX7_readRow_141 : decode cX7_readRow 141 = .ok (.bipush (-9), 2) := by decide +kernel
theorem dX7_readRow_143 : decode cX7_readRow 143 = .ok (.if_icmp .ne 39, 3) := by decide +kernel
theorem dX7_readRow_146 : decode cX7_readRow 146 = .ok (.aload_n 0, 1) := by decide +kernel
theorem dX7_readRow_147 : decode cX7_readRow 147 = .ok (.getfield 29, 3) := by decide +kernel
theorem dX7_readRow_150 : decode cX7_readRow 150 = .ok (.iconst 5, 1) := by decide +kernel
theorem dX7_readRow_151 : decode cX7_readRow 151 = .ok (.iload_n 3, 1) := by decide +kernel
theorem dX7_readRow_152 : decode cX7_readRow 152 = .ok (.iadd, 1) := by decide +kernel
theorem dX7_readRow_153 : decode cX7_readRow 153 = .ok (.dup2, 1) := by decide +kernel
theorem dX7_readRow_154 : decode cX7_readRow 154 = .ok (.iaload, 1) := by decide +kernel
theorem dX7_readRow_155 : decode cX7_readRow 155 = .ok (.iconst 1, 1) := by decide +kernel
theorem dX7_readRow_156 : decode cX7_readRow 156 = .ok (.iload 4, 2) := by decide +kernel
theorem dX7_readRow_158 : decode cX7_readRow 158 = .ok (.ishl, 1) := by decide +kernel
theorem dX7_readRow_159 : decode cX7_readRow 159 = .ok (.ior, 1) := by decide +kernel
theorem dX7_readRow_160 : decode cX7_readRow 160 = .ok (.iastore, 1) := by decide +kernel
theorem dX7_readRow_161 : decode cX7_readRow 161 = .ok (.goto 21, 3) := by decide +kernel
theorem dX7_readRow_164 : decode cX7_readRow 164 = .ok (.aload_n 0, 1) := by decide +kernel
theorem dX7_readRow_165 : decode cX7_readRow 165 = .ok (.getfield 32, 3) := by decide +kernel
theorem dX7_readRow_168 : decode cX7_readRow 168 = .ok (.iconst 1, 1) := by decide +kernel
theorem dX7_readRow_169 : decode cX7_readRow 169 = .ok (.aload_n 0, 1) := by decide +kernel
theorem dX7_readRow_170 : decode cX7_readRow 170 = .ok (.iconst 0, 1) := by decide +kernel
theorem dX7_readRow_171 : decode cX7_readRow 171 = .ok (.bipush 99, 2) := by decide +kernel
theorem dX7_readRow_173 : decode cX7_readRow 173 = .ok (.invokevirtual 105, 3) := by decide +kernel
theorem dX7_readRow_176 : decode cX7_readRow 176 = .ok (.iastore, 1) := by decide +kernel
theorem dX7_readRow_177 : decode cX7_readRow 177 = .ok (.aload_n 0, 1) := by decide +kernel
theorem dX7_readRow_178 : decode cX7_readRow 178 = .ok (.iconst 1, 1) := by decide +kernel
theorem dX7_readRow_179 : decode cX7_readRow 179 = .ok (.putfield 101, 3) := by decide +kernel
theorem dX7_readRow_182 : decode cX7_readRow 182 = .ok (.return_, 1) := by decide +kernel
theorem dX7_plain_0 : decode cX7_plain 0 = .ok (.aload_n 0, 1) := by decide +kernel
theorem dX7_plain_1 : decode cX7_plain 1 = .ok (.getfield 13, 3) := by decide +kernel
theorem dX7_plain_4 : decode cX7_plain 4 = .ok (.iconst 1, 1) := by decide +kernel
theorem dX7_plain_5 : decode cX7_plain 5 = .ok (.iconst 0, 1) := by decide +kernel
theorem dX7_plain_6 : decode cX7_plain 6 = .ok (.iastore, 1) := by decide +kernel
theorem dX7_plain_7 : decode cX7_plain 7 = .ok (.aload_n 0, 1) := by decide +kernel
theorem dX7_plain_8 : decode cX7_plain 8 = .ok (.getfield 32, 3) := by decide +kernel
theorem dX7_plain_11 : decode cX7_plain 11 = .ok (.iconst 1, 1) := by decide +kernel
theorem dX7_plain_12 : decode cX7_plain 12 = .ok (.bipush 50, 2) := by decide +kernel
theorem dX7_plain_14 : decode cX7_plain 14 = .ok (.iastore, 1) := by decide +kernel
theorem dX7_plain_15 : decode cX7_plain 15 = .ok (.aload_n 0, 1) := by decide +kernel
theorem dX7_plain_16 : decode cX7_plain 16 = .ok (.iconst 0, 1) := by decide +kernel
theorem dX7_plain_17 : decode cX7_plain 17 = .ok (.putfield 101, 3) := by decide +kernel
theorem dX7_plain_20 : decode cX7_plain 20 = .ok (.iconst 0, 1) := by decide +kernel
theorem dX7_plain_21 : decode cX7_plain 21 = .ok (.istore_n 1, 1) := by decide +kernel
theorem dX7_plain_22 : decode cX7_plain 22 = .ok (.iload_n 1, 1) := by decide +kernel
theorem dX7_plain_23 : decode cX7_plain 23 = .ok (.iconst 5, 1) := by decide +kernel
theorem dX7_plain_24 : decode cX7_plain 24 = .ok (.if_icmp .ge 18, 3) := by decide +kernel
theorem dX7_plain_27 : decode cX7_plain 27 = .ok (.aload_n 0, 1) := by decide +kernel
theorem dX7_plain_28 : decode cX7_plain 28 = .ok (.getfield 29, 3) := by decide +kernel
theorem dX7_plain_31 : decode cX7_plain 31 = .ok (.iconst 5, 1) := by decide +kernel
theorem dX7_plain_32 : decode cX7_plain 32 = .ok (.iload_n 1, 1) := by decide +kernel
theorem dX7_plain_33 : decode cX7_plain 33 = .ok (.iadd, 1) := by decide +kernel
theorem dX7_plain_34 : decode cX7_plain 34 = .ok (.iconst 0, 1) := by decide +kernel
theorem dX7_plain_35 : decode cX7_plain 35 = .ok (.iastore, 1) := by decide +kernel
theorem dX7_plain_36 : decode cX7_plain 36 = .ok (.iinc 1 1, 3) := by decide +kernel
theorem dX7_plain_39 : decode cX7_plain 39 = .ok (.goto (-17), 3) := by decide +kernel
theorem dX7_plain_42 : decode cX7_plain 42 = .ok (.return_, 1) := by decide +kernel
theorem dX7_takeDraft_0 : decode cX7_takeDraft 0 = .ok (.aload_n 0, 1) := by decide +kernel
theorem dX7_takeDraft_1 : decode cX7_takeDraft 1 = .ok (.getfield 13, 3) := by decide +kernel
theorem dX7_takeDraft_4 : decode cX7_takeDraft 4 = .ok (.iconst 0, 1) := by decide +kernel
theorem dX7_takeDraft_5 : decode cX7_takeDraft 5 = .ok (.aload_n 0, 1) := by decide +kernel
theorem dX7_takeDraft_6 : decode cX7_takeDraft 6 = .ok (.getfield 13, 3) := by decide +kernel
theorem dX7_takeDraft_9 : decode cX7_takeDraft 9 = .ok (.iconst 1, 1) := by decide +kernel
theorem dX7_takeDraft_10 : decode cX7_takeDraft 10 = .ok (.iaload, 1) := by decide +kernel
theorem dX7_takeDraft_11 : decode cX7_takeDraft 11 = .ok (.iastore, 1) := by decide +kernel
theorem dX7_takeDraft_12 : decode cX7_takeDraft 12 = .ok (.aload_n 0, 1) := by decide +kernel
theorem dX7_takeDraft_13 : decode cX7_takeDraft 13 = .ok (.getfield 32, 3) := by decide +kernel
theorem dX7_takeDraft_16 : decode cX7_takeDraft 16 = .ok (.iconst 0, 1) := by decide +kernel
theorem dX7_takeDraft_17 : decode cX7_takeDraft 17 = .ok (.aload_n 0, 1) := by decide +kernel
theorem dX7_takeDraft_18 : decode cX7_takeDraft 18 = .ok (.getfield 32, 3) := by decide +kernel
theorem dX7_takeDraft_21 : decode cX7_takeDraft 21 = .ok (.iconst 1, 1) := by decide +kernel
theorem dX7_takeDraft_22 : decode cX7_takeDraft 22 = .ok (.iaload, 1) := by decide +kernel
theorem dX7_takeDraft_23 : decode cX7_takeDraft 23 = .ok (.iastore, 1) := by decide +kernel
theorem dX7_takeDraft_24 : decode cX7_takeDraft 24 = .ok (.iconst 0, 1) := by decide +kernel
theorem dX7_takeDraft_25 : decode cX7_takeDraft 25 = .ok (.istore_n 1, 1) := by decide +kernel
theorem dX7_takeDraft_26 : decode cX7_takeDraft 26 = .ok (.iload_n 1, 1) := by decide +kernel
theorem dX7_takeDraft_27 : decode cX7_takeDraft 27 = .ok (.bipush 20, 2) := by decide +kernel
theorem dX7_takeDraft_29 : decode cX7_takeDraft 29 = .ok (.if_icmp .ge 16, 3) := by decide +kernel
theorem dX7_takeDraft_32 : decode cX7_takeDraft 32 = .ok (.aload_n 0, 1) := by decide +kernel
theorem dX7_takeDraft_33 : decode cX7_takeDraft 33 = .ok (.getfield 35, 3) := by decide +kernel
theorem dX7_takeDraft_36 : decode cX7_takeDraft 36 = .ok (.iload_n 1, 1) := by decide +kernel
theorem dX7_takeDraft_37 : decode cX7_takeDraft 37 = .ok (.iconst 0, 1) := by decide +kernel
theorem dX7_takeDraft_38 : decode cX7_takeDraft 38 = .ok (.iastore, 1) := by decide +kernel
theorem dX7_takeDraft_39 : decode cX7_takeDraft 39 = .ok (.iinc 1 1, 3) := by decide +kernel
theorem dX7_takeDraft_42 : decode cX7_takeDraft 42 = .ok (.goto (-16), 3) := by decide +kernel
theorem dX7_takeDraft_45 : decode cX7_takeDraft 45 = .ok (.iconst 0, 1) := by decide +kernel
theorem dX7_takeDraft_46 : decode cX7_takeDraft 46 = .ok (.istore_n 1, 1) := by decide +kernel
theorem dX7_takeDraft_47 : decode cX7_takeDraft 47 = .ok (.iload_n 1, 1) := by decide +kernel
theorem dX7_takeDraft_48 : decode cX7_takeDraft 48 = .ok (.iconst 5, 1) := by decide +kernel
theorem dX7_takeDraft_49 : decode cX7_takeDraft 49 = .ok (.if_icmp .ge 88, 3) := by decide +kernel
theorem dX7_takeDraft_52 : decode cX7_takeDraft 52 = .ok (.aload_n 0, 1) := by decide +kernel
theorem dX7_takeDraft_53 : decode cX7_takeDraft 53 = .ok (.getfield 17, 3) := by decide +kernel
theorem dX7_takeDraft_56 : decode cX7_takeDraft 56 = .ok (.iload_n 1, 1) := by decide +kernel
theorem dX7_takeDraft_57 : decode cX7_takeDraft 57 = .ok (.aload_n 0, 1) := by decide +kernel
theorem dX7_takeDraft_58 : decode cX7_takeDraft 58 = .ok (.getfield 17, 3) := by decide +kernel
theorem dX7_takeDraft_61 : decode cX7_takeDraft 61 = .ok (.iconst 5, 1) := by decide +kernel
theorem dX7_takeDraft_62 : decode cX7_takeDraft 62 = .ok (.iload_n 1, 1) := by decide +kernel
theorem dX7_takeDraft_63 : decode cX7_takeDraft 63 = .ok (.iadd, 1) := by decide +kernel
theorem dX7_takeDraft_64 : decode cX7_takeDraft 64 = .ok (.iaload, 1) := by decide +kernel
theorem dX7_takeDraft_65 : decode cX7_takeDraft 65 = .ok (.iastore, 1) := by decide +kernel
theorem dX7_takeDraft_66 : decode cX7_takeDraft 66 = .ok (.aload_n 0, 1) := by decide +kernel
theorem dX7_takeDraft_67 : decode cX7_takeDraft 67 = .ok (.getfield 23, 3) := by decide +kernel
theorem dX7_takeDraft_70 : decode cX7_takeDraft 70 = .ok (.iload_n 1, 1) := by decide +kernel
theorem dX7_takeDraft_71 : decode cX7_takeDraft 71 = .ok (.aload_n 0, 1) := by decide +kernel
theorem dX7_takeDraft_72 : decode cX7_takeDraft 72 = .ok (.getfield 23, 3) := by decide +kernel
theorem dX7_takeDraft_75 : decode cX7_takeDraft 75 = .ok (.iconst 5, 1) := by decide +kernel
theorem dX7_takeDraft_76 : decode cX7_takeDraft 76 = .ok (.iload_n 1, 1) := by decide +kernel
theorem dX7_takeDraft_77 : decode cX7_takeDraft 77 = .ok (.iadd, 1) := by decide +kernel
theorem dX7_takeDraft_78 : decode cX7_takeDraft 78 = .ok (.iaload, 1) := by decide +kernel
theorem dX7_takeDraft_79 : decode cX7_takeDraft 79 = .ok (.iastore, 1) := by decide +kernel
theorem dX7_takeDraft_80 : decode cX7_takeDraft 80 = .ok (.aload_n 0, 1) := by decide +kernel
theorem dX7_takeDraft_81 : decode cX7_takeDraft 81 = .ok (.getfield 26, 3) := by decide +kernel
theorem dX7_takeDraft_84 : decode cX7_takeDraft 84 = .ok (.iload_n 1, 1) := by decide +kernel
theorem dX7_takeDraft_85 : decode cX7_takeDraft 85 = .ok (.aload_n 0, 1) := by decide +kernel
theorem dX7_takeDraft_86 : decode cX7_takeDraft 86 = .ok (.getfield 26, 3) := by decide +kernel
theorem dX7_takeDraft_89 : decode cX7_takeDraft 89 = .ok (.iconst 5, 1) := by decide +kernel
theorem dX7_takeDraft_90 : decode cX7_takeDraft 90 = .ok (.iload_n 1, 1) := by decide +kernel
theorem dX7_takeDraft_91 : decode cX7_takeDraft 91 = .ok (.iadd, 1) := by decide +kernel
theorem dX7_takeDraft_92 : decode cX7_takeDraft 92 = .ok (.iaload, 1) := by decide +kernel
theorem dX7_takeDraft_93 : decode cX7_takeDraft 93 = .ok (.iastore, 1) := by decide +kernel
theorem dX7_takeDraft_94 : decode cX7_takeDraft 94 = .ok (.aload_n 0, 1) := by decide +kernel
theorem dX7_takeDraft_95 : decode cX7_takeDraft 95 = .ok (.getfield 29, 3) := by decide +kernel
theorem dX7_takeDraft_98 : decode cX7_takeDraft 98 = .ok (.iload_n 1, 1) := by decide +kernel
theorem dX7_takeDraft_99 : decode cX7_takeDraft 99 = .ok (.aload_n 0, 1) := by decide +kernel
theorem dX7_takeDraft_100 : decode cX7_takeDraft 100 = .ok (.getfield 29, 3) := by decide +kernel
theorem dX7_takeDraft_103 : decode cX7_takeDraft 103 = .ok (.iconst 5, 1) := by decide +kernel
theorem dX7_takeDraft_104 : decode cX7_takeDraft 104 = .ok (.iload_n 1, 1) := by decide +kernel
theorem dX7_takeDraft_105 : decode cX7_takeDraft 105 = .ok (.iadd, 1) := by decide +kernel
theorem dX7_takeDraft_106 : decode cX7_takeDraft 106 = .ok (.iaload, 1) := by decide +kernel
theorem dX7_takeDraft_107 : decode cX7_takeDraft 107 = .ok (.iastore, 1) := by decide +kernel
theorem dX7_takeDraft_108 : decode cX7_takeDraft 108 = .ok (.aload_n 0, 1) := by decide +kernel
theorem dX7_takeDraft_109 : decode cX7_takeDraft 109 = .ok (.getfield 35, 3) := by decide +kernel
theorem dX7_takeDraft_112 : decode cX7_takeDraft 112 = .ok (.iconst 0, 1) := by decide +kernel
theorem dX7_takeDraft_113 : decode cX7_takeDraft 113 = .ok (.iload_n 1, 1) := by decide +kernel
theorem dX7_takeDraft_114 : decode cX7_takeDraft 114 = .ok (.iadd, 1) := by decide +kernel
theorem dX7_takeDraft_115 : decode cX7_takeDraft 115 = .ok (.iload_n 1, 1) := by decide +kernel
theorem dX7_takeDraft_116 : decode cX7_takeDraft 116 = .ok (.iastore, 1) := by decide +kernel
theorem dX7_takeDraft_117 : decode cX7_takeDraft 117 = .ok (.aload_n 0, 1) := by decide +kernel
theorem dX7_takeDraft_118 : decode cX7_takeDraft 118 = .ok (.getfield 35, 3) := by decide +kernel
theorem dX7_takeDraft_121 : decode cX7_takeDraft 121 = .ok (.iconst 5, 1) := by decide +kernel
theorem dX7_takeDraft_122 : decode cX7_takeDraft 122 = .ok (.iload_n 1, 1) := by decide +kernel
theorem dX7_takeDraft_123 : decode cX7_takeDraft 123 = .ok (.iadd, 1) := by decide +kernel
theorem dX7_takeDraft_124 : decode cX7_takeDraft 124 = .ok (.aload_n 0, 1) := by decide +kernel
theorem dX7_takeDraft_125 : decode cX7_takeDraft 125 = .ok (.getfield 20, 3) := by decide +kernel
theorem dX7_takeDraft_128 : decode cX7_takeDraft 128 = .ok (.iload_n 1, 1) := by decide +kernel
theorem dX7_takeDraft_129 : decode cX7_takeDraft 129 = .ok (.iaload, 1) := by decide +kernel
theorem dX7_takeDraft_130 : decode cX7_takeDraft 130 = .ok (.iastore, 1) := by decide +kernel
theorem dX7_takeDraft_131 : decode cX7_takeDraft 131 = .ok (.iinc 1 1, 3) := by decide +kernel
theorem dX7_takeDraft_134 : decode cX7_takeDraft 134 = .ok (.goto (-87), 3) := by decide +kernel
theorem dX7_takeDraft_137 : decode cX7_takeDraft 137 = .ok (.aload_n 0, 1) := by decide +kernel
theorem dX7_takeDraft_138 : decode cX7_takeDraft 138 = .ok (.getfield 35, 3) := by decide +kernel
theorem dX7_takeDraft_141 : decode cX7_takeDraft 141 = .ok (.bipush 20, 2) := by decide +kernel
theorem dX7_takeDraft_143 : decode cX7_takeDraft 143 = .ok (.iconst 0, 1) := by decide +kernel
theorem dX7_takeDraft_144 : decode cX7_takeDraft 144 = .ok (.iastore, 1) := by decide +kernel
theorem dX7_takeDraft_145 : decode cX7_takeDraft 145 = .ok (.aload_n 0, 1) := by decide +kernel
theorem dX7_takeDraft_146 : decode cX7_takeDraft 146 = .ok (.iconst 0, 1) := by decide +kernel
theorem dX7_takeDraft_147 : decode cX7_takeDraft 147 = .ok (.putfield 109, 3) := by decide +kernel
theorem dX7_takeDraft_150 : decode cX7_takeDraft 150 = .ok (.aload_n 0, 1) := by decide +kernel
theorem dX7_takeDraft_151 : decode cX7_takeDraft 151 = .ok (.getfield 38, 3) := by decide +kernel
theorem dX7_takeDraft_154 : decode cX7_takeDraft 154 = .ok (.iconst 0, 1) := by decide +kernel
theorem dX7_takeDraft_155 : decode cX7_takeDraft 155 = .ok (.iconst 0, 1) := by decide +kernel
theorem dX7_takeDraft_156 : decode cX7_takeDraft 156 = .ok (.bastore, 1) := by decide +kernel
theorem dX7_takeDraft_157 : decode cX7_takeDraft 157 = .ok (.aload_n 0, 1) := by decide +kernel
theorem dX7_takeDraft_158 : decode cX7_takeDraft 158 = .ok (.getfield 38, 3) := by decide +kernel
theorem dX7_takeDraft_161 : decode cX7_takeDraft 161 = .ok (.iconst 1, 1) := by decide +kernel
theorem dX7_takeDraft_162 : decode cX7_takeDraft 162 = .ok (.iconst 0, 1) := by decide +kernel
theorem dX7_takeDraft_163 : decode cX7_takeDraft 163 = .ok (.bastore, 1) := by decide +kernel
theorem dX7_takeDraft_164 : decode cX7_takeDraft 164 = .ok (.return_, 1) := by decide +kernel
theorem dX7_shop_0 : decode cX7_shop 0 = .ok (.aload_n 0, 1) := by decide +kernel
theorem dX7_shop_1 : decode cX7_shop 1 = .ok (.iconst 0, 1) := by decide +kernel
theorem dX7_shop_2 : decode cX7_shop 2 = .ok (.putfield 75, 3) := by decide +kernel
theorem dX7_shop_5 : decode cX7_shop 5 = .ok (.aload_n 0, 1) := by decide +kernel
theorem dX7_shop_6 : decode cX7_shop 6 = .ok (.bipush (-9), 2) := by decide +kernel
theorem dX7_shop_8 : decode cX7_shop 8 = .ok (.putfield 91, 3) := by decide +kernel
theorem dX7_shop_11 : decode cX7_shop 11 = .ok (.aload_n 0, 1) := by decide +kernel
theorem dX7_shop_12 : decode cX7_shop 12 = .ok (.invokevirtual 61, 3) := by decide +kernel
theorem dX7_shop_15 : decode cX7_shop 15 = .ok (.iconst 0, 1) := by decide +kernel
theorem dX7_shop_16 : decode cX7_shop 16 = .ok (.istore_n 1, 1) := by decide +kernel
theorem dX7_shop_17 : decode cX7_shop 17 = .ok (.aload_n 0, 1) := by decide +kernel
theorem dX7_shop_18 : decode cX7_shop 18 = .ok (.invokevirtual 94, 3) := by decide +kernel
theorem dX7_shop_21 : decode cX7_shop 21 = .ok (.aload_n 0, 1) := by decide +kernel
theorem dX7_shop_22 : decode cX7_shop 22 = .ok (.getfield 91, 3) := by decide +kernel
theorem dX7_shop_25 : decode cX7_shop 25 = .ok (.bipush (-9), 2) := by decide +kernel
theorem dX7_shop_27 : decode cX7_shop 27 = .ok (.if_icmp .ne 64, 3) := by decide +kernel
theorem dX7_shop_30 : decode cX7_shop 30 = .ok (.aload_n 0, 1) := by decide +kernel
theorem dX7_shop_31 : decode cX7_shop 31 = .ok (.getfield 88, 3) := by decide +kernel
theorem dX7_shop_34 : decode cX7_shop 34 = .ok (.iconst 3, 1) := by decide +kernel
theorem dX7_shop_35 : decode cX7_shop 35 = .ok (.if_icmp .eq 56, 3) := by decide +kernel
theorem dX7_shop_38 : decode cX7_shop 38 = .ok (.aload_n 0, 1) := by decide +kernel
theorem dX7_shop_39 : decode cX7_shop 39 = .ok (.getfield 88, 3) := by decide +kernel
theorem dX7_shop_42 : decode cX7_shop 42 = .ok (.istore_n 2, 1) := by decide +kernel
theorem dX7_shop_43 : decode cX7_shop 43 = .ok (.aload_n 0, 1) := by decide +kernel
theorem dX7_shop_44 : decode cX7_shop 44 = .ok (.aload_n 0, 1) := by decide +kernel
theorem dX7_shop_45 : decode cX7_shop 45 = .ok (.iload_n 2, 1) := by decide +kernel
theorem dX7_shop_46 : decode cX7_shop 46 = .ok (.invokevirtual 112, 3) := by decide +kernel
theorem dX7_shop_49 : decode cX7_shop 49 = .ok (.invokevirtual 97, 3) := by decide +kernel
theorem dX7_shop_52 : decode cX7_shop 52 = .ok (.pop, 1) := by decide +kernel
theorem dX7_shop_53 : decode cX7_shop 53 = .ok (.aload_n 0, 1) := by decide +kernel
theorem dX7_shop_54 : decode cX7_shop 54 = .ok (.getfield 91, 3) := by decide +kernel
theorem dX7_shop_57 : decode cX7_shop 57 = .ok (.bipush (-9), 2) := by decide +kernel
theorem dX7_shop_59 : decode cX7_shop 59 = .ok (.if_icmp .ne 29, 3) := by decide +kernel
theorem dX7_shop_62 : decode cX7_shop 62 = .ok (.aload_n 0, 1) := by decide +kernel
theorem dX7_shop_63 : decode cX7_shop 63 = .ok (.iload_n 2, 1) := by decide +kernel
theorem dX7_shop_64 : decode cX7_shop 64 = .ok (.invokevirtual 116, 3) := by decide +kernel
theorem dX7_shop_67 : decode cX7_shop 67 = .ok (.aload_n 0, 1) := by decide +kernel
theorem dX7_shop_68 : decode cX7_shop 68 = .ok (.aload_n 0, 1) := by decide +kernel
theorem dX7_shop_69 : decode cX7_shop 69 = .ok (.getfield 88, 3) := by decide +kernel
theorem dX7_shop_72 : decode cX7_shop 72 = .ok (.iconst 2, 1) := by decide +kernel
theorem dX7_shop_73 : decode cX7_shop 73 = .ok (.if_icmp .ne 7, 3) := by decide +kernel
theorem dX7_shop_76 : decode cX7_shop 76 = .ok (.iconst 1, 1) := by decide +kernel
theorem dX7_shop_77 : decode cX7_shop 77 = .ok (.goto 4, 3) := by decide +kernel
theorem dX7_shop_80 : decode cX7_shop 80 = .ok (.iconst 0, 1) := by decide +kernel
theorem dX7_shop_81 : decode cX7_shop 81 = .ok (.invokevirtual 97, 3) := by decide +kernel
theorem dX7_shop_84 : decode cX7_shop 84 = .ok (.pop, 1) := by decide +kernel
theorem dX7_shop_85 : decode cX7_shop 85 = .ok (.iinc 1 1, 3) := by decide +kernel
theorem dX7_shop_88 : decode cX7_shop 88 = .ok (.goto (-67), 3) := by decide +kernel
theorem dX7_shop_91 : decode cX7_shop 91 = .ok (.aload_n 0, 1) := by decide +kernel
theorem dX7_shop_92 : decode cX7_shop 92 = .ok (.getfield 91, 3) := by decide +kernel
theorem dX7_shop_95 : decode cX7_shop 95 = .ok (.bipush (-9), 2) := by decide +kernel
theorem dX7_shop_97 : decode cX7_shop 97 = .ok (.if_icmp .eq 11, 3) := by decide +kernel
theorem dX7_shop_100 : decode cX7_shop 100 = .ok (.bipush (-10), 2) := by decide +kernel
theorem dX7_shop_102 : decode cX7_shop 102 = .ok (.aload_n 0, 1) := by decide +kernel
theorem dX7_shop_103 : decode cX7_shop 103 = .ok (.getfield 91, 3) := by decide +kernel
theorem dX7_shop_106 : decode cX7_shop 106 = .ok (.isub, 1) := by decide +kernel
theorem dX7_shop_107 : decode cX7_shop 107 = .ok (.ireturn, 1) := by decide +kernel
theorem dX7_shop_108 : decode cX7_shop 108 = .ok (.aload_n 0, 1) := by decide +kernel
theorem dX7_shop_109 : decode cX7_shop 109 = .ok (.invokevirtual 64, 3) := by decide +kernel
theorem dX7_shop_112 : decode cX7_shop 112 = .ok (.aload_n 0, 1) := by decide +kernel
theorem dX7_shop_113 : decode cX7_shop 113 = .ok (.iconst 0, 1) := by decide +kernel
theorem dX7_shop_114 : decode cX7_shop 114 = .ok (.putfield 71, 3) := by decide +kernel
theorem dX7_shop_117 : decode cX7_shop 117 = .ok (.iload_n 1, 1) := by decide +kernel
theorem dX7_shop_118 : decode cX7_shop 118 = .ok (.ireturn, 1) := by decide +kernel
theorem dX7_isStep_0 : decode cX7_isStep 0 = .ok (.iload_n 1, 1) := by decide +kernel
theorem dX7_isStep_1 : decode cX7_isStep 1 = .ok (.iconst 0, 1) := by decide +kernel
theorem dX7_isStep_2 : decode cX7_isStep 2 = .ok (.aload_n 0, 1) := by decide +kernel
theorem dX7_isStep_3 : decode cX7_isStep 3 = .ok (.getfield 13, 3) := by decide +kernel
theorem dX7_isStep_6 : decode cX7_isStep 6 = .ok (.iconst 0, 1) := by decide +kernel
theorem dX7_isStep_7 : decode cX7_isStep 7 = .ok (.iaload, 1) := by decide +kernel
theorem dX7_isStep_8 : decode cX7_isStep 8 = .ok (.iconst 1, 1) := by decide +kernel
theorem dX7_isStep_9 : decode cX7_isStep 9 = .ok (.isub, 1) := by decide +kernel
theorem dX7_isStep_10 : decode cX7_isStep 10 = .ok (.invokestatic 67, 3) := by decide +kernel
theorem dX7_isStep_13 : decode cX7_isStep 13 = .ok (.ireturn, 1) := by decide +kernel
theorem dX7_manyOf_0 : decode cX7_manyOf 0 = .ok (.iconst 0, 1) := by decide +kernel
theorem dX7_manyOf_1 : decode cX7_manyOf 1 = .ok (.istore_n 1, 1) := by decide +kernel
theorem dX7_manyOf_2 : decode cX7_manyOf 2 = .ok (.iconst 0, 1) := by decide +kernel
theorem dX7_manyOf_3 : decode cX7_manyOf 3 = .ok (.istore_n 2, 1) := by decide +kernel
theorem dX7_manyOf_4 : decode cX7_manyOf 4 = .ok (.iload_n 2, 1) := by decide +kernel
theorem dX7_manyOf_5 : decode cX7_manyOf 5 = .ok (.iconst 5, 1) := by decide +kernel
theorem dX7_manyOf_6 : decode cX7_manyOf 6 = .ok (.if_icmp .ge 17, 3) := by decide +kernel
theorem dX7_manyOf_9 : decode cX7_manyOf 9 = .ok (.iload_n 1, 1) := by decide +kernel
theorem dX7_manyOf_10 : decode cX7_manyOf 10 = .ok (.iload_n 0, 1) := by decide +kernel
theorem dX7_manyOf_11 : decode cX7_manyOf 11 = .ok (.iload_n 2, 1) := by decide +kernel
theorem dX7_manyOf_12 : decode cX7_manyOf 12 = .ok (.ishr, 1) := by decide +kernel
theorem dX7_manyOf_13 : decode cX7_manyOf 13 = .ok (.iconst 1, 1) := by decide +kernel
theorem dX7_manyOf_14 : decode cX7_manyOf 14 = .ok (.iand, 1) := by decide +kernel
theorem dX7_manyOf_15 : decode cX7_manyOf 15 = .ok (.iadd, 1) := by decide +kernel
theorem dX7_manyOf_16 : decode cX7_manyOf 16 = .ok (.istore_n 1, 1) := by decide +kernel
theorem dX7_manyOf_17 : decode cX7_manyOf 17 = .ok (.iinc 2 1, 3) := by decide +kernel
theorem dX7_manyOf_20 : decode cX7_manyOf 20 = .ok (.goto (-16), 3) := by decide +kernel
theorem dX7_manyOf_23 : decode cX7_manyOf 23 = .ok (.iload_n 1, 1) := by decide +kernel
theorem dX7_manyOf_24 : decode cX7_manyOf 24 = .ok (.ireturn, 1) := by decide +kernel
theorem dX7_placeOf_0 : decode cX7_placeOf 0 = .ok (.iconst 0, 1) := by decide +kernel
theorem dX7_placeOf_1 : decode cX7_placeOf 1 = .ok (.istore_n 2, 1) := by decide +kernel
theorem dX7_placeOf_2 : decode cX7_placeOf 2 = .ok (.iload_n 2, 1) := by decide +kernel
theorem dX7_placeOf_3 : decode cX7_placeOf 3 = .ok (.aload_n 0, 1) := by decide +kernel
theorem dX7_placeOf_4 : decode cX7_placeOf 4 = .ok (.getfield 13, 3) := by decide +kernel
theorem dX7_placeOf_7 : decode cX7_placeOf 7 = .ok (.iconst 0, 1) := by decide +kernel
theorem dX7_placeOf_8 : decode cX7_placeOf 8 = .ok (.iaload, 1) := by decide +kernel
theorem dX7_placeOf_9 : decode cX7_placeOf 9 = .ok (.if_icmp .ge 23, 3) := by decide +kernel
theorem dX7_placeOf_12 : decode cX7_placeOf 12 = .ok (.aload_n 0, 1) := by decide +kernel
theorem dX7_placeOf_13 : decode cX7_placeOf 13 = .ok (.getfield 35, 3) := by decide +kernel
theorem dX7_placeOf_16 : decode cX7_placeOf 16 = .ok (.iconst 0, 1) := by decide +kernel
theorem dX7_placeOf_17 : decode cX7_placeOf 17 = .ok (.iload_n 2, 1) := by decide +kernel
theorem dX7_placeOf_18 : decode cX7_placeOf 18 = .ok (.iadd, 1) := by decide +kernel
theorem dX7_placeOf_19 : decode cX7_placeOf 19 = .ok (.iaload, 1) := by decide +kernel
theorem dX7_placeOf_20 : decode cX7_placeOf 20 = .ok (.iload_n 1, 1) := by decide +kernel
theorem dX7_placeOf_21 : decode cX7_placeOf 21 = .ok (.if_icmp .ne 5, 3) := by decide +kernel
theorem dX7_placeOf_24 : decode cX7_placeOf 24 = .ok (.iload_n 2, 1) := by decide +kernel
theorem dX7_placeOf_25 : decode cX7_placeOf 25 = .ok (.ireturn, 1) := by decide +kernel
theorem dX7_placeOf_26 : decode cX7_placeOf 26 = .ok (.iinc 2 1, 3) := by decide +kernel
theorem dX7_placeOf_29 : decode cX7_placeOf 29 = .ok (.goto (-27), 3) := by decide +kernel
theorem dX7_placeOf_32 : decode cX7_placeOf 32 = .ok (.bipush (-9), 2) := by decide +kernel
theorem dX7_placeOf_34 : decode cX7_placeOf 34 = .ok (.ireturn, 1) := by decide +kernel
theorem dX7_step_0 : decode cX7_step 0 = .ok (.aload_n 0, 1) := by decide +kernel
theorem dX7_step_1 : decode cX7_step 1 = .ok (.iload_n 1, 1) := by decide +kernel
theorem dX7_step_2 : decode cX7_step 2 = .ok (.invokevirtual 120, 3) := by decide +kernel
theorem dX7_step_5 : decode cX7_step 5 = .ok (.ifCond .ne 5, 3) := by decide +kernel
theorem dX7_step_8 : decode cX7_step 8 = .ok (.iconst (-1), 1) := by decide +kernel
theorem dX7_step_9 : decode cX7_step 9 = .ok (.ireturn, 1) := by decide +kernel
theorem dX7_step_10 : decode cX7_step 10 = .ok (.iload_n 2, 1) := by decide +kernel
theorem dX7_step_11 : decode cX7_step 11 = .ok (.tableswitch 110 0 7 #[45, 52, 61, 68, 75, 87, 97, 103], 45) := by decide +kernel
theorem dX7_step_56 : decode cX7_step 56 = .ok (.aload_n 0, 1) := by decide +kernel
theorem dX7_step_57 : decode cX7_step 57 = .ok (.getfield 17, 3) := by decide +kernel
theorem dX7_step_60 : decode cX7_step 60 = .ok (.iload_n 1, 1) := by decide +kernel
theorem dX7_step_61 : decode cX7_step 61 = .ok (.iaload, 1) := by decide +kernel
theorem dX7_step_62 : decode cX7_step 62 = .ok (.ireturn, 1) := by decide +kernel
theorem dX7_step_63 : decode cX7_step 63 = .ok (.aload_n 0, 1) := by decide +kernel
theorem dX7_step_64 : decode cX7_step 64 = .ok (.getfield 35, 3) := by decide +kernel
theorem dX7_step_67 : decode cX7_step 67 = .ok (.iconst 5, 1) := by decide +kernel
theorem dX7_step_68 : decode cX7_step 68 = .ok (.iload_n 1, 1) := by decide +kernel
theorem dX7_step_69 : decode cX7_step 69 = .ok (.iadd, 1) := by decide +kernel
theorem dX7_step_70 : decode cX7_step 70 = .ok (.iaload, 1) := by decide +kernel
theorem dX7_step_71 : decode cX7_step 71 = .ok (.ireturn, 1) := by decide +kernel
theorem dX7_step_72 : decode cX7_step 72 = .ok (.aload_n 0, 1) := by decide +kernel
theorem dX7_step_73 : decode cX7_step 73 = .ok (.getfield 23, 3) := by decide +kernel
theorem dX7_step_76 : decode cX7_step 76 = .ok (.iload_n 1, 1) := by decide +kernel
theorem dX7_step_77 : decode cX7_step 77 = .ok (.iaload, 1) := by decide +kernel
theorem dX7_step_78 : decode cX7_step 78 = .ok (.ireturn, 1) := by decide +kernel
theorem dX7_step_79 : decode cX7_step 79 = .ok (.aload_n 0, 1) := by decide +kernel
theorem dX7_step_80 : decode cX7_step 80 = .ok (.getfield 26, 3) := by decide +kernel
theorem dX7_step_83 : decode cX7_step 83 = .ok (.iload_n 1, 1) := by decide +kernel
theorem dX7_step_84 : decode cX7_step 84 = .ok (.iaload, 1) := by decide +kernel
theorem dX7_step_85 : decode cX7_step 85 = .ok (.ireturn, 1) := by decide +kernel
theorem dX7_step_86 : decode cX7_step 86 = .ok (.aload_n 0, 1) := by decide +kernel
theorem dX7_step_87 : decode cX7_step 87 = .ok (.getfield 35, 3) := by decide +kernel
theorem dX7_step_90 : decode cX7_step 90 = .ok (.bipush 10, 2) := by decide +kernel
theorem dX7_step_92 : decode cX7_step 92 = .ok (.iaload, 1) := by decide +kernel
theorem dX7_step_93 : decode cX7_step 93 = .ok (.iload_n 1, 1) := by decide +kernel
theorem dX7_step_94 : decode cX7_step 94 = .ok (.ishr, 1) := by decide +kernel
theorem dX7_step_95 : decode cX7_step 95 = .ok (.iconst 1, 1) := by decide +kernel
theorem dX7_step_96 : decode cX7_step 96 = .ok (.iand, 1) := by decide +kernel
theorem dX7_step_97 : decode cX7_step 97 = .ok (.ireturn, 1) := by decide +kernel
theorem dX7_step_98 : decode cX7_step 98 = .ok (.aload_n 0, 1) := by decide +kernel
theorem dX7_step_99 : decode cX7_step 99 = .ok (.getfield 35, 3) := by decide +kernel
theorem dX7_step_102 : decode cX7_step 102 = .ok (.bipush 14, 2) := by decide +kernel
theorem dX7_step_104 : decode cX7_step 104 = .ok (.iload_n 1, 1) := by decide +kernel
theorem dX7_step_105 : decode cX7_step 105 = .ok (.iadd, 1) := by decide +kernel
theorem dX7_step_106 : decode cX7_step 106 = .ok (.iaload, 1) := by decide +kernel
theorem dX7_step_107 : decode cX7_step 107 = .ok (.ireturn, 1) := by decide +kernel
theorem dX7_step_108 : decode cX7_step 108 = .ok (.aload_n 0, 1) := by decide +kernel
theorem dX7_step_109 : decode cX7_step 109 = .ok (.iload_n 1, 1) := by decide +kernel
theorem dX7_step_110 : decode cX7_step 110 = .ok (.invokevirtual 123, 3) := by decide +kernel
theorem dX7_step_113 : decode cX7_step 113 = .ok (.ireturn, 1) := by decide +kernel
theorem dX7_step_114 : decode cX7_step 114 = .ok (.aload_n 0, 1) := by decide +kernel
theorem dX7_step_115 : decode cX7_step 115 = .ok (.getfield 29, 3) := by decide +kernel
theorem dX7_step_118 : decode cX7_step 118 = .ok (.iload_n 1, 1) := by decide +kernel
theorem dX7_step_119 : decode cX7_step 119 = .ok (.iaload, 1) := by decide +kernel
theorem dX7_step_120 : decode cX7_step 120 = .ok (.ireturn, 1) := by decide +kernel
theorem dX7_step_121 : decode cX7_step 121 = .ok (.iconst (-1), 1) := by decide +kernel
theorem dX7_step_122 : decode cX7_step 122 = .ok (.ireturn, 1) := by decide +kernel
theorem dX7_line_0 : decode cX7_line 0 = .ok (.aload_n 0, 1) := by decide +kernel
theorem dX7_line_1 : decode cX7_line 1 = .ok (.iload_n 1, 1) := by decide +kernel
theorem dX7_line_2 : decode cX7_line 2 = .ok (.invokevirtual 120, 3) := by decide +kernel
theorem dX7_line_5 : decode cX7_line 5 = .ok (.ifCond .eq 14, 3) := by decide +kernel
theorem dX7_line_8 : decode cX7_line 8 = .ok (.aload_n 0, 1) := by decide +kernel
theorem dX7_line_9 : decode cX7_line 9 = .ok (.getfield 35, 3) := by decide +kernel
theorem dX7_line_12 : decode cX7_line 12 = .ok (.iconst 0, 1) := by decide +kernel
theorem dX7_line_13 : decode cX7_line 13 = .ok (.iload_n 1, 1) := by decide +kernel
theorem dX7_line_14 : decode cX7_line 14 = .ok (.iadd, 1) := by decide +kernel
theorem dX7_line_15 : decode cX7_line 15 = .ok (.iaload, 1) := by decide +kernel
theorem dX7_line_16 : decode cX7_line 16 = .ok (.goto 4, 3) := by decide +kernel
theorem dX7_line_19 : decode cX7_line 19 = .ok (.iconst (-1), 1) := by decide +kernel
theorem dX7_line_20 : decode cX7_line 20 = .ok (.ireturn, 1) := by decide +kernel
theorem dX7_know_0 : decode cX7_know 0 = .ok (.aload_n 0, 1) := by decide +kernel
theorem dX7_know_1 : decode cX7_know 1 = .ok (.getfield 35, 3) := by decide +kernel
theorem dX7_know_4 : decode cX7_know 4 = .ok (.bipush 20, 2) := by decide +kernel
theorem dX7_know_6 : decode cX7_know 6 = .ok (.iaload, 1) := by decide +kernel
theorem dX7_know_7 : decode cX7_know 7 = .ok (.bipush 10, 2) := by decide +kernel
theorem dX7_know_9 : decode cX7_know 9 = .ok (.if_icmp .ne 47, 3) := by decide +kernel
theorem dX7_know_12 : decode cX7_know 12 = .ok (.iconst 0, 1) := by decide +kernel
theorem dX7_know_13 : decode cX7_know 13 = .ok (.istore_n 1, 1) := by decide +kernel
theorem dX7_know_14 : decode cX7_know 14 = .ok (.iload_n 1, 1) := by decide +kernel
theorem dX7_know_15 : decode cX7_know 15 = .ok (.sipush 180, 3) := by decide +kernel
theorem dX7_know_18 : decode cX7_know 18 = .ok (.if_icmp .ge 27, 3) := by decide +kernel
theorem dX7_know_21 : decode cX7_know 21 = .ok (.aload_n 0, 1) := by decide +kernel
theorem dX7_know_22 : decode cX7_know 22 = .ok (.getfield 35, 3) := by decide +kernel
theorem dX7_know_25 : decode cX7_know 25 = .ok (.bipush 21, 2) := by decide +kernel
theorem dX7_know_27 : decode cX7_know 27 = .ok (.iload_n 1, 1) := by decide +kernel
theorem dX7_know_28 : decode cX7_know 28 = .ok (.iadd, 1) := by decide +kernel
theorem dX7_know_29 : decode cX7_know 29 = .ok (.aload_n 0, 1) := by decide +kernel
theorem dX7_know_30 : decode cX7_know 30 = .ok (.getfield 35, 3) := by decide +kernel
theorem dX7_know_33 : decode cX7_know 33 = .ok (.bipush 41, 2) := by decide +kernel
theorem dX7_know_35 : decode cX7_know 35 = .ok (.iload_n 1, 1) := by decide +kernel
theorem dX7_know_36 : decode cX7_know 36 = .ok (.iadd, 1) := by decide +kernel
theorem dX7_know_37 : decode cX7_know 37 = .ok (.iaload, 1) := by decide +kernel
theorem dX7_know_38 : decode cX7_know 38 = .ok (.iastore, 1) := by decide +kernel
theorem dX7_know_39 : decode cX7_know 39 = .ok (.iinc 1 1, 3) := by decide +kernel
theorem dX7_know_42 : decode cX7_know 42 = .ok (.goto (-28), 3) := by decide +kernel
theorem dX7_know_45 : decode cX7_know 45 = .ok (.aload_n 0, 1) := by decide +kernel
theorem dX7_know_46 : decode cX7_know 46 = .ok (.getfield 35, 3) := by decide +kernel
theorem dX7_know_49 : decode cX7_know 49 = .ok (.bipush 20, 2) := by decide +kernel
theorem dX7_know_51 : decode cX7_know 51 = .ok (.dup2, 1) := by decide +kernel
theorem dX7_know_52 : decode cX7_know 52 = .ok (.iaload, 1) := by decide +kernel
theorem dX7_know_53 : decode cX7_know 53 = .ok (.iconst 1, 1) := by decide +kernel
theorem dX7_know_54 : decode cX7_know 54 = .ok (.isub, 1) := by decide +kernel
theorem dX7_know_55 : decode cX7_know 55 = .ok (.iastore, 1) := by decide +kernel
theorem dX7_know_56 : decode cX7_know 56 = .ok (.iconst 0, 1) := by decide +kernel
theorem dX7_know_57 : decode cX7_know 57 = .ok (.istore_n 1, 1) := by decide +kernel
theorem dX7_know_58 : decode cX7_know 58 = .ok (.iload_n 1, 1) := by decide +kernel
theorem dX7_know_59 : decode cX7_know 59 = .ok (.bipush 20, 2) := by decide +kernel
theorem dX7_know_61 : decode cX7_know 61 = .ok (.if_icmp .ge 35, 3) := by decide +kernel
theorem dX7_know_64 : decode cX7_know 64 = .ok (.aload_n 0, 1) := by decide +kernel
theorem dX7_know_65 : decode cX7_know 65 = .ok (.getfield 35, 3) := by decide +kernel
theorem dX7_know_68 : decode cX7_know 68 = .ok (.bipush 21, 2) := by decide +kernel
theorem dX7_know_70 : decode cX7_know 70 = .ok (.bipush 20, 2) := by decide +kernel
theorem dX7_know_72 : decode cX7_know 72 = .ok (.aload_n 0, 1) := by decide +kernel
theorem dX7_know_73 : decode cX7_know 73 = .ok (.getfield 35, 3) := by decide +kernel
theorem dX7_know_76 : decode cX7_know 76 = .ok (.bipush 20, 2) := by decide +kernel
theorem dX7_know_78 : decode cX7_know 78 = .ok (.iaload, 1) := by decide +kernel
theorem dX7_know_79 : decode cX7_know 79 = .ok (.imul, 1) := by decide +kernel
theorem dX7_know_80 : decode cX7_know 80 = .ok (.iadd, 1) := by decide +kernel
theorem dX7_know_81 : decode cX7_know 81 = .ok (.iload_n 1, 1) := by decide +kernel
theorem dX7_know_82 : decode cX7_know 82 = .ok (.iadd, 1) := by decide +kernel
theorem dX7_know_83 : decode cX7_know 83 = .ok (.aload_n 0, 1) := by decide +kernel
theorem dX7_know_84 : decode cX7_know 84 = .ok (.getfield 35, 3) := by decide +kernel
theorem dX7_know_87 : decode cX7_know 87 = .ok (.iload_n 1, 1) := by decide +kernel
theorem dX7_know_88 : decode cX7_know 88 = .ok (.iaload, 1) := by decide +kernel
theorem dX7_know_89 : decode cX7_know 89 = .ok (.iastore, 1) := by decide +kernel
theorem dX7_know_90 : decode cX7_know 90 = .ok (.iinc 1 1, 3) := by decide +kernel
theorem dX7_know_93 : decode cX7_know 93 = .ok (.goto (-35), 3) := by decide +kernel
theorem dX7_know_96 : decode cX7_know 96 = .ok (.aload_n 0, 1) := by decide +kernel
theorem dX7_know_97 : decode cX7_know 97 = .ok (.getfield 35, 3) := by decide +kernel
theorem dX7_know_100 : decode cX7_know 100 = .ok (.bipush 20, 2) := by decide +kernel
theorem dX7_know_102 : decode cX7_know 102 = .ok (.dup2, 1) := by decide +kernel
theorem dX7_know_103 : decode cX7_know 103 = .ok (.iaload, 1) := by decide +kernel
theorem dX7_know_104 : decode cX7_know 104 = .ok (.iconst 1, 1) := by decide +kernel
theorem dX7_know_105 : decode cX7_know 105 = .ok (.iadd, 1) := by decide +kernel
theorem dX7_know_106 : decode cX7_know 106 = .ok (.iastore, 1) := by decide +kernel
theorem dX7_know_107 : decode cX7_know 107 = .ok (.return_, 1) := by decide +kernel
theorem dX7_drawOf_0 : decode cX7_drawOf 0 = .ok (.ldc2_w 127, 3) := by decide +kernel
theorem dX7_drawOf_3 : decode cX7_drawOf 3 = .ok (.iload_n 0, 1) := by decide +kernel
theorem dX7_drawOf_4 : decode cX7_drawOf 4 = .ok (.i2l, 1) := by decide +kernel
theorem dX7_drawOf_5 : decode cX7_drawOf 5 = .ok (.lmul, 1) := by decide +kernel
theorem dX7_drawOf_6 : decode cX7_drawOf 6 = .ok (.ldc2_w 129, 3) := by decide +kernel
theorem dX7_drawOf_9 : decode cX7_drawOf 9 = .ok (.iload_n 1, 1) := by decide +kernel
theorem dX7_drawOf_10 : decode cX7_drawOf 10 = .ok (.i2l, 1) := by decide +kernel
theorem dX7_drawOf_11 : decode cX7_drawOf 11 = .ok (.lmul, 1) := by decide +kernel
theorem dX7_drawOf_12 : decode cX7_drawOf 12 = .ok (.ladd, 1) := by decide +kernel
theorem dX7_drawOf_13 : decode cX7_drawOf 13 = .ok (.lconst 1, 1) := by decide +kernel
theorem dX7_drawOf_14 : decode cX7_drawOf 14 = .ok (.ladd, 1) := by decide +kernel
theorem dX7_drawOf_15 : decode cX7_drawOf 15 = .ok (.lstore_n 2, 1) := by decide +kernel
theorem dX7_drawOf_16 : decode cX7_drawOf 16 = .ok (.lload_n 2, 1) := by decide +kernel
theorem dX7_drawOf_17 : decode cX7_drawOf 17 = .ok (.lload_n 2, 1) := by decide +kernel
theorem dX7_drawOf_18 : decode cX7_drawOf 18 = .ok (.lmul, 1) := by decide +kernel
theorem dX7_drawOf_19 : decode cX7_drawOf 19 = .ok (.ldc2_w 131, 3) := by decide +kernel
theorem dX7_drawOf_22 : decode cX7_drawOf 22 = .ok (.lrem, 1) := by decide +kernel
theorem dX7_drawOf_23 : decode cX7_drawOf 23 = .ok (.l2i, 1) := by decide +kernel
theorem dX7_drawOf_24 : decode cX7_drawOf 24 = .ok (.bipush 8, 2) := by decide +kernel
theorem dX7_drawOf_26 : decode cX7_drawOf 26 = .ok (.idiv, 1) := by decide +kernel
theorem dX7_drawOf_27 : decode cX7_drawOf 27 = .ok (.bipush 10, 2) := by decide +kernel
theorem dX7_drawOf_29 : decode cX7_drawOf 29 = .ok (.irem, 1) := by decide +kernel
theorem dX7_drawOf_30 : decode cX7_drawOf 30 = .ok (.ireturn, 1) := by decide +kernel
theorem dX7_go_0 : decode cX7_go 0 = .ok (.iconst 0, 1) := by decide +kernel
theorem dX7_go_1 : decode cX7_go 1 = .ok (.istore_n 3, 1) := by decide +kernel
theorem dX7_go_2 : decode cX7_go 2 = .ok (.aload_n 0, 1) := by decide +kernel
theorem dX7_go_3 : decode cX7_go 3 = .ok (.iconst 0, 1) := by decide +kernel
theorem dX7_go_4 : decode cX7_go 4 = .ok (.putfield 133, 3) := by decide +kernel
theorem dX7_go_7 : decode cX7_go 7 = .ok (.aload_n 0, 1) := by decide +kernel
theorem dX7_go_8 : decode cX7_go 8 = .ok (.bipush (-9), 2) := by decide +kernel
theorem dX7_go_10 : decode cX7_go 10 = .ok (.putfield 136, 3) := by decide +kernel
theorem dX7_go_13 : decode cX7_go 13 = .ok (.iconst 0, 1) := by decide +kernel
theorem dX7_go_14 : decode cX7_go 14 = .ok (.istore 4, 2) := by decide +kernel
theorem dX7_go_16 : decode cX7_go 16 = .ok (.iload 4, 2) := by decide +kernel
theorem dX7_go_18 : decode cX7_go 18 = .ok (.aload_n 0, 1) := by decide +kernel
theorem dX7_go_19 : decode cX7_go 19 = .ok (.getfield 13, 3) := by decide +kernel
theorem dX7_go_22 : decode cX7_go 22 = .ok (.iconst 0, 1) := by decide +kernel
theorem dX7_go_23 : decode cX7_go 23 = .ok (.iaload, 1) := by decide +kernel
theorem dX7_go_24 : decode cX7_go 24 = .ok (.if_icmp .ge 120, 3) := by decide +kernel
theorem dX7_go_27 : decode cX7_go 27 = .ok (.aload_n 0, 1) := by decide +kernel
theorem dX7_go_28 : decode cX7_go 28 = .ok (.getfield 35, 3) := by decide +kernel
theorem dX7_go_31 : decode cX7_go 31 = .ok (.iconst 0, 1) := by decide +kernel
theorem dX7_go_32 : decode cX7_go 32 = .ok (.iload 4, 2) := by decide +kernel
theorem dX7_go_34 : decode cX7_go 34 = .ok (.iadd, 1) := by decide +kernel
theorem dX7_go_35 : decode cX7_go 35 = .ok (.iaload, 1) := by decide +kernel
theorem dX7_go_36 : decode cX7_go 36 = .ok (.istore 5, 2) := by decide +kernel
theorem dX7_go_38 : decode cX7_go 38 = .ok (.aload_n 0, 1) := by decide +kernel
theorem dX7_go_39 : decode cX7_go 39 = .ok (.dup, 1) := by decide +kernel
theorem dX7_go_40 : decode cX7_go 40 = .ok (.getfield 133, 3) := by decide +kernel
theorem dX7_go_43 : decode cX7_go 43 = .ok (.aload_n 0, 1) := by decide +kernel
theorem dX7_go_44 : decode cX7_go 44 = .ok (.getfield 17, 3) := by decide +kernel
theorem dX7_go_47 : decode cX7_go 47 = .ok (.iload 5, 2) := by decide +kernel
theorem dX7_go_49 : decode cX7_go 49 = .ok (.iaload, 1) := by decide +kernel
theorem dX7_go_50 : decode cX7_go 50 = .ok (.iadd, 1) := by decide +kernel
theorem dX7_go_51 : decode cX7_go 51 = .ok (.putfield 133, 3) := by decide +kernel
theorem dX7_go_54 : decode cX7_go 54 = .ok (.iload_n 3, 1) := by decide +kernel
theorem dX7_go_55 : decode cX7_go 55 = .ok (.ifCond .ne 21, 3) := by decide +kernel
theorem dX7_go_58 : decode cX7_go 58 = .ok (.iload_n 1, 1) := by decide +kernel
theorem dX7_go_59 : decode cX7_go 59 = .ok (.iload 5, 2) := by decide +kernel
theorem dX7_go_61 : decode cX7_go 61 = .ok (.invokestatic 139, 3) := by decide +kernel
theorem dX7_go_64 : decode cX7_go 64 = .ok (.aload_n 0, 1) := by decide +kernel
theorem dX7_go_65 : decode cX7_go 65 = .ok (.getfield 35, 3) := by decide +kernel
theorem dX7_go_68 : decode cX7_go 68 = .ok (.iconst 5, 1) := by decide +kernel
theorem dX7_go_69 : decode cX7_go 69 = .ok (.iload 5, 2) := by decide +kernel
theorem dX7_go_71 : decode cX7_go 71 = .ok (.iadd, 1) := by decide +kernel
theorem dX7_go_72 : decode cX7_go 72 = .ok (.iaload, 1) := by decide +kernel
theorem dX7_go_73 : decode cX7_go 73 = .ok (.if_icmp .ge 7, 3) := by decide +kernel
theorem dX7_go_76 : decode cX7_go 76 = .ok (.iconst 1, 1) := by decide +kernel
theorem dX7_go_77 : decode cX7_go 77 = .ok (.goto 4, 3) := by decide +kernel
theorem dX7_go_80 : decode cX7_go 80 = .ok (.iconst 0, 1) := by decide +kernel
theorem dX7_go_81 : decode cX7_go 81 = .ok (.istore_n 3, 1) := by decide +kernel
theorem dX7_go_82 : decode cX7_go 82 = .ok (.iload_n 2, 1) := by decide +kernel
theorem dX7_go_83 : decode cX7_go 83 = .ok (.iload 5, 2) := by decide +kernel
theorem dX7_go_85 : decode cX7_go 85 = .ok (.ishr, 1) := by decide +kernel
theorem dX7_go_86 : decode cX7_go 86 = .ok (.iconst 1, 1) := by decide +kernel
theorem dX7_go_87 : decode cX7_go 87 = .ok (.iand, 1) := by decide +kernel
theorem dX7_go_88 : decode cX7_go 88 = .ok (.iconst 1, 1) := by decide +kernel
theorem dX7_go_89 : decode cX7_go 89 = .ok (.if_icmp .ne 49, 3) := by decide +kernel
theorem dX7_go_92 : decode cX7_go 92 = .ok (.aload_n 0, 1) := by decide +kernel
theorem dX7_go_93 : decode cX7_go 93 = .ok (.dup, 1) := by decide +kernel
theorem dX7_go_94 : decode cX7_go 94 = .ok (.getfield 133, 3) := by decide +kernel
theorem dX7_go_97 : decode cX7_go 97 = .ok (.aload_n 0, 1) := by decide +kernel
theorem dX7_go_98 : decode cX7_go 98 = .ok (.getfield 23, 3) := by decide +kernel
theorem dX7_go_101 : decode cX7_go 101 = .ok (.iload 5, 2) := by decide +kernel
theorem dX7_go_103 : decode cX7_go 103 = .ok (.iaload, 1) := by decide +kernel
theorem dX7_go_104 : decode cX7_go 104 = .ok (.iadd, 1) := by decide +kernel
theorem dX7_go_105 : decode cX7_go 105 = .ok (.putfield 133, 3) := by decide +kernel
theorem dX7_go_108 : decode cX7_go 108 = .ok (.iload_n 3, 1) := by decide +kernel
theorem dX7_go_109 : decode cX7_go 109 = .ok (.ifCond .eq 29, 3) := by decide +kernel
theorem dX7_go_112 : decode cX7_go 112 = .ok (.iload_n 1, 1) := by decide +kernel
theorem dX7_go_113 : decode cX7_go 113 = .ok (.iload 5, 2) := by decide +kernel
theorem dX7_go_115 : decode cX7_go 115 = .ok (.iconst 5, 1) := by decide +kernel
theorem dX7_go_116 : decode cX7_go 116 = .ok (.iadd, 1) := by decide +kernel
theorem dX7_go_117 : decode cX7_go 117 = .ok (.invokestatic 139, 3) := by decide +kernel
theorem dX7_go_120 : decode cX7_go 120 = .ok (.aload_n 0, 1) := by decide +kernel
theorem dX7_go_121 : decode cX7_go 121 = .ok (.getfield 26, 3) := by decide +kernel
theorem dX7_go_124 : decode cX7_go 124 = .ok (.iload 5, 2) := by decide +kernel
theorem dX7_go_126 : decode cX7_go 126 = .ok (.iaload, 1) := by decide +kernel
theorem dX7_go_127 : decode cX7_go 127 = .ok (.if_icmp .lt 11, 3) := by decide +kernel
theorem dX7_go_130 : decode cX7_go 130 = .ok (.aload_n 0, 1) := by decide +kernel
theorem dX7_go_131 : decode cX7_go 131 = .ok (.iload 5, 2) := by decide +kernel
theorem dX7_go_133 : decode cX7_go 133 = .ok (.putfield 136, 3) := by decide +kernel
theorem dX7_go_136 : decode cX7_go 136 = .ok (.iconst 2, 1) := by decide +kernel
theorem dX7_go_137 : decode cX7_go 137 = .ok (.ireturn, 1) := by decide +kernel
theorem dX7_go_138 : decode cX7_go 138 = .ok (.iinc 4 1, 3) := by decide +kernel
theorem dX7_go_141 : decode cX7_go 141 = .ok (.goto (-125), 3) := by decide +kernel
theorem dX7_go_144 : decode cX7_go 144 = .ok (.aload_n 0, 1) := by decide +kernel
theorem dX7_go_145 : decode cX7_go 145 = .ok (.dup, 1) := by decide +kernel
theorem dX7_go_146 : decode cX7_go 146 = .ok (.getfield 133, 3) := by decide +kernel
theorem dX7_go_149 : decode cX7_go 149 = .ok (.iload_n 3, 1) := by decide +kernel
theorem dX7_go_150 : decode cX7_go 150 = .ok (.ifCond .eq 12, 3) := by decide +kernel
theorem dX7_go_153 : decode cX7_go 153 = .ok (.aload_n 0, 1) := by decide +kernel
theorem dX7_go_154 : decode cX7_go 154 = .ok (.getfield 32, 3) := by decide +kernel
theorem dX7_go_157 : decode cX7_go 157 = .ok (.iconst 0, 1) := by decide +kernel
theorem dX7_go_158 : decode cX7_go 158 = .ok (.iaload, 1) := by decide +kernel
theorem dX7_go_159 : decode cX7_go 159 = .ok (.goto 4, 3) := by decide +kernel
theorem dX7_go_162 : decode cX7_go 162 = .ok (.iconst 0, 1) := by decide +kernel
theorem dX7_go_163 : decode cX7_go 163 = .ok (.iadd, 1) := by decide +kernel
theorem dX7_go_164 : decode cX7_go 164 = .ok (.putfield 133, 3) := by decide +kernel
theorem dX7_go_167 : decode cX7_go 167 = .ok (.iload_n 3, 1) := by decide +kernel
theorem dX7_go_168 : decode cX7_go 168 = .ok (.ifCond .eq 7, 3) := by decide +kernel
theorem dX7_go_171 : decode cX7_go 171 = .ok (.iconst 1, 1) := by decide +kernel
theorem dX7_go_172 : decode cX7_go 172 = .ok (.goto 4, 3) := by decide +kernel
theorem dX7_go_175 : decode cX7_go 175 = .ok (.iconst 0, 1) := by decide +kernel
theorem dX7_go_176 : decode cX7_go 176 = .ok (.ireturn, 1) := by decide +kernel
theorem dX7_isSeed_0 : decode cX7_isSeed 0 = .ok (.iload_n 0, 1) := by decide +kernel
theorem dX7_isSeed_1 : decode cX7_isSeed 1 = .ok (.iconst 0, 1) := by decide +kernel
theorem dX7_isSeed_2 : decode cX7_isSeed 2 = .ok (.sipush 9999, 3) := by decide +kernel
theorem dX7_isSeed_5 : decode cX7_isSeed 5 = .ok (.invokestatic 67, 3) := by decide +kernel
theorem dX7_isSeed_8 : decode cX7_isSeed 8 = .ok (.ireturn, 1) := by decide +kernel
theorem dX7_makes_0 : decode cX7_makes 0 = .ok (.iload_n 1, 1) := by decide +kernel
theorem dX7_makes_1 : decode cX7_makes 1 = .ok (.invokestatic 142, 3) := by decide +kernel
theorem dX7_makes_4 : decode cX7_makes 4 = .ok (.ifCond .ne 5, 3) := by decide +kernel
theorem dX7_makes_7 : decode cX7_makes 7 = .ok (.iconst (-1), 1) := by decide +kernel
theorem dX7_makes_8 : decode cX7_makes 8 = .ok (.ireturn, 1) := by decide +kernel
theorem dX7_makes_9 : decode cX7_makes 9 = .ok (.aload_n 0, 1) := by decide +kernel
theorem dX7_makes_10 : decode cX7_makes 10 = .ok (.getfield 35, 3) := by decide +kernel
theorem dX7_makes_13 : decode cX7_makes 13 = .ok (.bipush 11, 2) := by decide +kernel
theorem dX7_makes_15 : decode cX7_makes 15 = .ok (.iaload, 1) := by decide +kernel
theorem dX7_makes_16 : decode cX7_makes 16 = .ok (.sipush 9999, 3) := by decide +kernel
theorem dX7_makes_19 : decode cX7_makes 19 = .ok (.if_icmp .ne 6, 3) := by decide +kernel
theorem dX7_makes_22 : decode cX7_makes 22 = .ok (.bipush (-2), 2) := by decide +kernel
theorem dX7_makes_24 : decode cX7_makes 24 = .ok (.ireturn, 1) := by decide +kernel
theorem dX7_makes_25 : decode cX7_makes 25 = .ok (.aload_n 0, 1) := by decide +kernel
theorem dX7_makes_26 : decode cX7_makes 26 = .ok (.invokevirtual 145, 3) := by decide +kernel
theorem dX7_makes_29 : decode cX7_makes 29 = .ok (.aload_n 0, 1) := by decide +kernel
theorem dX7_makes_30 : decode cX7_makes 30 = .ok (.iload_n 1, 1) := by decide +kernel
theorem dX7_makes_31 : decode cX7_makes 31 = .ok (.aload_n 0, 1) := by decide +kernel
theorem dX7_makes_32 : decode cX7_makes 32 = .ok (.getfield 35, 3) := by decide +kernel
theorem dX7_makes_35 : decode cX7_makes 35 = .ok (.bipush 10, 2) := by decide +kernel
theorem dX7_makes_37 : decode cX7_makes 37 = .ok (.iaload, 1) := by decide +kernel
theorem dX7_makes_38 : decode cX7_makes 38 = .ok (.invokevirtual 148, 3) := by decide +kernel
theorem dX7_makes_41 : decode cX7_makes 41 = .ok (.istore_n 2, 1) := by decide +kernel
theorem dX7_makes_42 : decode cX7_makes 42 = .ok (.aload_n 0, 1) := by decide +kernel
theorem dX7_makes_43 : decode cX7_makes 43 = .ok (.getfield 35, 3) := by decide +kernel
theorem dX7_makes_46 : decode cX7_makes 46 = .ok (.bipush 11, 2) := by decide +kernel
theorem dX7_makes_48 : decode cX7_makes 48 = .ok (.dup2, 1) := by decide +kernel
theorem dX7_makes_49 : decode cX7_makes 49 = .ok (.iaload, 1) := by decide +kernel
theorem dX7_makes_50 : decode cX7_makes 50 = .ok (.iconst 1, 1) := by decide +kernel
theorem dX7_makes_51 : decode cX7_makes 51 = .ok (.iadd, 1) := by decide +kernel
theorem dX7_makes_52 : decode cX7_makes 52 = .ok (.iastore, 1) := by decide +kernel
theorem dX7_makes_53 : decode cX7_makes 53 = .ok (.aload_n 0, 1) := by decide +kernel
theorem dX7_makes_54 : decode cX7_makes 54 = .ok (.getfield 35, 3) := by decide +kernel
theorem dX7_makes_57 : decode cX7_makes 57 = .ok (.bipush 12, 2) := by decide +kernel
theorem dX7_makes_59 : decode cX7_makes 59 = .ok (.dup2, 1) := by decide +kernel
theorem dX7_makes_60 : decode cX7_makes 60 = .ok (.iaload, 1) := by decide +kernel
theorem dX7_makes_61 : decode cX7_makes 61 = .ok (.iload_n 2, 1) := by decide +kernel
theorem dX7_makes_62 : decode cX7_makes 62 = .ok (.iconst 2, 1) := by decide +kernel
theorem dX7_makes_63 : decode cX7_makes 63 = .ok (.if_icmp .ge 7, 3) := by decide +kernel
theorem dX7_makes_66 : decode cX7_makes 66 = .ok (.iconst 1, 1) := by decide +kernel
theorem dX7_makes_67 : decode cX7_makes 67 = .ok (.goto 4, 3) := by decide +kernel
theorem dX7_makes_70 : decode cX7_makes 70 = .ok (.iconst 0, 1) := by decide +kernel
theorem dX7_makes_71 : decode cX7_makes 71 = .ok (.iadd, 1) := by decide +kernel
theorem dX7_makes_72 : decode cX7_makes 72 = .ok (.iastore, 1) := by decide +kernel
theorem dX7_makes_73 : decode cX7_makes 73 = .ok (.aload_n 0, 1) := by decide +kernel
theorem dX7_makes_74 : decode cX7_makes 74 = .ok (.getfield 35, 3) := by decide +kernel
theorem dX7_makes_77 : decode cX7_makes 77 = .ok (.bipush 13, 2) := by decide +kernel
theorem dX7_makes_79 : decode cX7_makes 79 = .ok (.dup2, 1) := by decide +kernel
theorem dX7_makes_80 : decode cX7_makes 80 = .ok (.iaload, 1) := by decide +kernel
theorem dX7_makes_81 : decode cX7_makes 81 = .ok (.iload_n 2, 1) := by decide +kernel
theorem dX7_makes_82 : decode cX7_makes 82 = .ok (.iconst 1, 1) := by decide +kernel
theorem dX7_makes_83 : decode cX7_makes 83 = .ok (.if_icmp .ne 7, 3) := by decide +kernel
theorem dX7_makes_86 : decode cX7_makes 86 = .ok (.iconst 1, 1) := by decide +kernel
theorem dX7_makes_87 : decode cX7_makes 87 = .ok (.goto 4, 3) := by decide +kernel
theorem dX7_makes_90 : decode cX7_makes 90 = .ok (.iconst 0, 1) := by decide +kernel
theorem dX7_makes_91 : decode cX7_makes 91 = .ok (.iadd, 1) := by decide +kernel
theorem dX7_makes_92 : decode cX7_makes 92 = .ok (.iastore, 1) := by decide +kernel
theorem dX7_makes_93 : decode cX7_makes 93 = .ok (.iload_n 2, 1) := by decide +kernel
theorem dX7_makes_94 : decode cX7_makes 94 = .ok (.iconst 2, 1) := by decide +kernel
theorem dX7_makes_95 : decode cX7_makes 95 = .ok (.if_icmp .ne 19, 3) := by decide +kernel
theorem dX7_makes_98 : decode cX7_makes 98 = .ok (.aload_n 0, 1) := by decide +kernel
theorem dX7_makes_99 : decode cX7_makes 99 = .ok (.getfield 35, 3) := by decide +kernel
theorem dX7_makes_102 : decode cX7_makes 102 = .ok (.bipush 14, 2) := by decide +kernel
theorem dX7_makes_104 : decode cX7_makes 104 = .ok (.aload_n 0, 1) := by decide +kernel
theorem dX7_makes_105 : decode cX7_makes 105 = .ok (.getfield 136, 3) := by decide +kernel
theorem dX7_makes_108 : decode cX7_makes 108 = .ok (.iadd, 1) := by decide +kernel
theorem dX7_makes_109 : decode cX7_makes 109 = .ok (.dup2, 1) := by decide +kernel
theorem dX7_makes_110 : decode cX7_makes 110 = .ok (.iaload, 1) := by decide +kernel
theorem dX7_makes_111 : decode cX7_makes 111 = .ok (.iconst 1, 1) := by decide +kernel
theorem dX7_makes_112 : decode cX7_makes 112 = .ok (.iadd, 1) := by decide +kernel
theorem dX7_makes_113 : decode cX7_makes 113 = .ok (.iastore, 1) := by decide +kernel
theorem dX7_makes_114 : decode cX7_makes 114 = .ok (.aload_n 0, 1) := by decide +kernel
theorem dX7_makes_115 : decode cX7_makes 115 = .ok (.getfield 35, 3) := by decide +kernel
theorem dX7_makes_118 : decode cX7_makes 118 = .ok (.bipush 19, 2) := by decide +kernel
theorem dX7_makes_120 : decode cX7_makes 120 = .ok (.dup2, 1) := by decide +kernel
theorem dX7_makes_121 : decode cX7_makes 121 = .ok (.iaload, 1) := by decide +kernel
theorem dX7_makes_122 : decode cX7_makes 122 = .ok (.aload_n 0, 1) := by decide +kernel
theorem dX7_makes_123 : decode cX7_makes 123 = .ok (.getfield 133, 3) := by decide +kernel
theorem dX7_makes_126 : decode cX7_makes 126 = .ok (.iadd, 1) := by decide +kernel
theorem dX7_makes_127 : decode cX7_makes 127 = .ok (.iastore, 1) := by decide +kernel
theorem dX7_makes_128 : decode cX7_makes 128 = .ok (.aload_n 0, 1) := by decide +kernel
theorem dX7_makes_129 : decode cX7_makes 129 = .ok (.getfield 35, 3) := by decide +kernel
theorem dX7_makes_132 : decode cX7_makes 132 = .ok (.bipush 19, 2) := by decide +kernel
theorem dX7_makes_134 : decode cX7_makes 134 = .ok (.aload_n 0, 1) := by decide +kernel
theorem dX7_makes_135 : decode cX7_makes 135 = .ok (.getfield 35, 3) := by decide +kernel
theorem dX7_makes_138 : decode cX7_makes 138 = .ok (.bipush 19, 2) := by decide +kernel
theorem dX7_makes_140 : decode cX7_makes 140 = .ok (.iaload, 1) := by decide +kernel
theorem dX7_makes_141 : decode cX7_makes 141 = .ok (.ldc 151, 2) := by decide +kernel
theorem dX7_makes_143 : decode cX7_makes 143 = .ok (.if_icmp .le 8, 3) := by decide +kernel
theorem dX7_makes_146 : decode cX7_makes 146 = .ok (.ldc 151, 2) := by decide +kernel
theorem dX7_makes_148 : decode cX7_makes 148 = .ok (.goto 10, 3) := by decide +kernel
theorem dX7_makes_151 : decode cX7_makes 151 = .ok (.aload_n 0, 1) := by decide +kernel
theorem dX7_makes_152 : decode cX7_makes 152 = .ok (.getfield 35, 3) := by decide +kernel
theorem dX7_makes_155 : decode cX7_makes 155 = .ok (.bipush 19, 2) := by decide +kernel
theorem dX7_makes_157 : decode cX7_makes 157 = .ok (.iaload, 1) := by decide +kernel
theorem dX7_makes_158 : decode cX7_makes 158 = .ok (.iastore, 1) := by decide +kernel
theorem dX7_makes_159 : decode cX7_makes 159 = .ok (.iload_n 2, 1) := by decide +kernel
theorem dX7_makes_160 : decode cX7_makes 160 = .ok (.ireturn, 1) := by decide +kernel
theorem dX7_looks_0 : decode cX7_looks 0 = .ok (.aload_n 0, 1) := by decide +kernel
theorem dX7_looks_1 : decode cX7_looks 1 = .ok (.iload_n 1, 1) := by decide +kernel
theorem dX7_looks_2 : decode cX7_looks 2 = .ok (.invokevirtual 120, 3) := by decide +kernel
theorem dX7_looks_5 : decode cX7_looks 5 = .ok (.ifCond .eq 12, 3) := by decide +kernel
theorem dX7_looks_8 : decode cX7_looks 8 = .ok (.iload_n 2, 1) := by decide +kernel
theorem dX7_looks_9 : decode cX7_looks 9 = .ok (.iconst 0, 1) := by decide +kernel
theorem dX7_looks_10 : decode cX7_looks 10 = .ok (.iconst 1, 1) := by decide +kernel
theorem dX7_looks_11 : decode cX7_looks 11 = .ok (.invokestatic 67, 3) := by decide +kernel
theorem dX7_looks_14 : decode cX7_looks 14 = .ok (.ifCond .ne 5, 3) := by decide +kernel
theorem dX7_looks_17 : decode cX7_looks 17 = .ok (.iconst (-1), 1) := by decide +kernel
theorem dX7_looks_18 : decode cX7_looks 18 = .ok (.ireturn, 1) := by decide +kernel
theorem dX7_looks_19 : decode cX7_looks 19 = .ok (.aload_n 0, 1) := by decide +kernel
theorem dX7_looks_20 : decode cX7_looks 20 = .ok (.getfield 35, 3) := by decide +kernel
theorem dX7_looks_23 : decode cX7_looks 23 = .ok (.bipush 10, 2) := by decide +kernel
theorem dX7_looks_25 : decode cX7_looks 25 = .ok (.iaload, 1) := by decide +kernel
theorem dX7_looks_26 : decode cX7_looks 26 = .ok (.iload_n 1, 1) := by decide +kernel
theorem dX7_looks_27 : decode cX7_looks 27 = .ok (.ishr, 1) := by decide +kernel
theorem dX7_looks_28 : decode cX7_looks 28 = .ok (.iconst 1, 1) := by decide +kernel
theorem dX7_looks_29 : decode cX7_looks 29 = .ok (.iand, 1) := by decide +kernel
theorem dX7_looks_30 : decode cX7_looks 30 = .ok (.iload_n 2, 1) := by decide +kernel
theorem dX7_looks_31 : decode cX7_looks 31 = .ok (.if_icmp .ne 6, 3) := by decide +kernel
theorem dX7_looks_34 : decode cX7_looks 34 = .ok (.bipush (-2), 2) := by decide +kernel
theorem dX7_looks_36 : decode cX7_looks 36 = .ok (.ireturn, 1) := by decide +kernel
theorem dX7_looks_37 : decode cX7_looks 37 = .ok (.aload_n 0, 1) := by decide +kernel
theorem dX7_looks_38 : decode cX7_looks 38 = .ok (.invokevirtual 145, 3) := by decide +kernel
theorem dX7_looks_41 : decode cX7_looks 41 = .ok (.aload_n 0, 1) := by decide +kernel
theorem dX7_looks_42 : decode cX7_looks 42 = .ok (.getfield 35, 3) := by decide +kernel
theorem dX7_looks_45 : decode cX7_looks 45 = .ok (.bipush 10, 2) := by decide +kernel
theorem dX7_looks_47 : decode cX7_looks 47 = .ok (.dup2, 1) := by decide +kernel
theorem dX7_looks_48 : decode cX7_looks 48 = .ok (.iaload, 1) := by decide +kernel
theorem dX7_looks_49 : decode cX7_looks 49 = .ok (.iconst 1, 1) := by decide +kernel
theorem dX7_looks_50 : decode cX7_looks 50 = .ok (.iload_n 1, 1) := by decide +kernel
theorem dX7_looks_51 : decode cX7_looks 51 = .ok (.ishl, 1) := by decide +kernel
theorem dX7_looks_52 : decode cX7_looks 52 = .ok (.ixor, 1) := by decide +kernel
theorem dX7_looks_53 : decode cX7_looks 53 = .ok (.iastore, 1) := by decide +kernel
theorem dX7_looks_54 : decode cX7_looks 54 = .ok (.aload_n 0, 1) := by decide +kernel
theorem dX7_looks_55 : decode cX7_looks 55 = .ok (.getfield 35, 3) := by decide +kernel
theorem dX7_looks_58 : decode cX7_looks 58 = .ok (.bipush 10, 2) := by decide +kernel
theorem dX7_looks_60 : decode cX7_looks 60 = .ok (.iaload, 1) := by decide +kernel
theorem dX7_looks_61 : decode cX7_looks 61 = .ok (.invokestatic 152, 3) := by decide +kernel
theorem dX7_looks_64 : decode cX7_looks 64 = .ok (.ireturn, 1) := by decide +kernel
theorem dX7_skill_0 : decode cX7_skill 0 = .ok (.aload_n 0, 1) := by decide +kernel
theorem dX7_skill_1 : decode cX7_skill 1 = .ok (.iload_n 1, 1) := by decide +kernel
theorem dX7_skill_2 : decode cX7_skill 2 = .ok (.invokevirtual 120, 3) := by decide +kernel
theorem dX7_skill_5 : decode cX7_skill 5 = .ok (.ifCond .eq 13, 3) := by decide +kernel
theorem dX7_skill_8 : decode cX7_skill 8 = .ok (.iload_n 2, 1) := by decide +kernel
theorem dX7_skill_9 : decode cX7_skill 9 = .ok (.iconst 0, 1) := by decide +kernel
theorem dX7_skill_10 : decode cX7_skill 10 = .ok (.bipush 9, 2) := by decide +kernel
theorem dX7_skill_12 : decode cX7_skill 12 = .ok (.invokestatic 67, 3) := by decide +kernel
theorem dX7_skill_15 : decode cX7_skill 15 = .ok (.ifCond .ne 5, 3) := by decide +kernel
theorem dX7_skill_18 : decode cX7_skill 18 = .ok (.iconst (-1), 1) := by decide +kernel
theorem dX7_skill_19 : decode cX7_skill 19 = .ok (.ireturn, 1) := by decide +kernel
theorem dX7_skill_20 : decode cX7_skill 20 = .ok (.aload_n 0, 1) := by decide +kernel
theorem dX7_skill_21 : decode cX7_skill 21 = .ok (.invokevirtual 145, 3) := by decide +kernel
theorem dX7_skill_24 : decode cX7_skill 24 = .ok (.aload_n 0, 1) := by decide +kernel
theorem dX7_skill_25 : decode cX7_skill 25 = .ok (.getfield 35, 3) := by decide +kernel
theorem dX7_skill_28 : decode cX7_skill 28 = .ok (.iconst 5, 1) := by decide +kernel
theorem dX7_skill_29 : decode cX7_skill 29 = .ok (.iload_n 1, 1) := by decide +kernel
theorem dX7_skill_30 : decode cX7_skill 30 = .ok (.iadd, 1) := by decide +kernel
theorem dX7_skill_31 : decode cX7_skill 31 = .ok (.iaload, 1) := by decide +kernel
theorem dX7_skill_32 : decode cX7_skill 32 = .ok (.istore_n 3, 1) := by decide +kernel
theorem dX7_skill_33 : decode cX7_skill 33 = .ok (.aload_n 0, 1) := by decide +kernel
theorem dX7_skill_34 : decode cX7_skill 34 = .ok (.getfield 35, 3) := by decide +kernel
theorem dX7_skill_37 : decode cX7_skill 37 = .ok (.iconst 5, 1) := by decide +kernel
theorem dX7_skill_38 : decode cX7_skill 38 = .ok (.iload_n 1, 1) := by decide +kernel
theorem dX7_skill_39 : decode cX7_skill 39 = .ok (.iadd, 1) := by decide +kernel
theorem dX7_skill_40 : decode cX7_skill 40 = .ok (.iload_n 2, 1) := by decide +kernel
theorem dX7_skill_41 : decode cX7_skill 41 = .ok (.iastore, 1) := by decide +kernel
theorem dX7_skill_42 : decode cX7_skill 42 = .ok (.iload_n 3, 1) := by decide +kernel
theorem dX7_skill_43 : decode cX7_skill 43 = .ok (.ireturn, 1) := by decide +kernel
theorem dX7_moves_0 : decode cX7_moves 0 = .ok (.iload_n 1, 1) := by decide +kernel
theorem dX7_moves_1 : decode cX7_moves 1 = .ok (.iconst 1, 1) := by decide +kernel
theorem dX7_moves_2 : decode cX7_moves 2 = .ok (.aload_n 0, 1) := by decide +kernel
theorem dX7_moves_3 : decode cX7_moves 3 = .ok (.getfield 13, 3) := by decide +kernel
theorem dX7_moves_6 : decode cX7_moves 6 = .ok (.iconst 0, 1) := by decide +kernel
theorem dX7_moves_7 : decode cX7_moves 7 = .ok (.iaload, 1) := by decide +kernel
theorem dX7_moves_8 : decode cX7_moves 8 = .ok (.iconst 1, 1) := by decide +kernel
theorem dX7_moves_9 : decode cX7_moves 9 = .ok (.isub, 1) := by decide +kernel
theorem dX7_moves_10 : decode cX7_moves 10 = .ok (.invokestatic 67, 3) := by decide +kernel
theorem dX7_moves_13 : decode cX7_moves 13 = .ok (.ifCond .ne 5, 3) := by decide +kernel
theorem dX7_moves_16 : decode cX7_moves 16 = .ok (.iconst (-1), 1) := by decide +kernel
theorem dX7_moves_17 : decode cX7_moves 17 = .ok (.ireturn, 1) := by decide +kernel
theorem dX7_moves_18 : decode cX7_moves 18 = .ok (.aload_n 0, 1) := by decide +kernel
theorem dX7_moves_19 : decode cX7_moves 19 = .ok (.getfield 35, 3) := by decide +kernel
theorem dX7_moves_22 : decode cX7_moves 22 = .ok (.iconst 0, 1) := by decide +kernel
theorem dX7_moves_23 : decode cX7_moves 23 = .ok (.iload_n 1, 1) := by decide +kernel
theorem dX7_moves_24 : decode cX7_moves 24 = .ok (.iadd, 1) := by decide +kernel
theorem dX7_moves_25 : decode cX7_moves 25 = .ok (.iaload, 1) := by decide +kernel
theorem dX7_moves_26 : decode cX7_moves 26 = .ok (.istore_n 2, 1) := by decide +kernel
theorem dX7_moves_27 : decode cX7_moves 27 = .ok (.aload_n 0, 1) := by decide +kernel
theorem dX7_moves_28 : decode cX7_moves 28 = .ok (.getfield 35, 3) := by decide +kernel
theorem dX7_moves_31 : decode cX7_moves 31 = .ok (.iconst 0, 1) := by decide +kernel
theorem dX7_moves_32 : decode cX7_moves 32 = .ok (.iload_n 1, 1) := by decide +kernel
theorem dX7_moves_33 : decode cX7_moves 33 = .ok (.iadd, 1) := by decide +kernel
theorem dX7_moves_34 : decode cX7_moves 34 = .ok (.iconst 1, 1) := by decide +kernel
theorem dX7_moves_35 : decode cX7_moves 35 = .ok (.isub, 1) := by decide +kernel
theorem dX7_moves_36 : decode cX7_moves 36 = .ok (.iaload, 1) := by decide +kernel
theorem dX7_moves_37 : decode cX7_moves 37 = .ok (.istore_n 3, 1) := by decide +kernel
theorem dX7_moves_38 : decode cX7_moves 38 = .ok (.aload_n 0, 1) := by decide +kernel
theorem dX7_moves_39 : decode cX7_moves 39 = .ok (.getfield 29, 3) := by decide +kernel
theorem dX7_moves_42 : decode cX7_moves 42 = .ok (.iload_n 3, 1) := by decide +kernel
theorem dX7_moves_43 : decode cX7_moves 43 = .ok (.iaload, 1) := by decide +kernel
theorem dX7_moves_44 : decode cX7_moves 44 = .ok (.iload_n 2, 1) := by decide +kernel
theorem dX7_moves_45 : decode cX7_moves 45 = .ok (.ishr, 1) := by decide +kernel
theorem dX7_moves_46 : decode cX7_moves 46 = .ok (.iconst 1, 1) := by decide +kernel
theorem dX7_moves_47 : decode cX7_moves 47 = .ok (.iand, 1) := by decide +kernel
theorem dX7_moves_48 : decode cX7_moves 48 = .ok (.iconst 1, 1) := by decide +kernel
theorem dX7_moves_49 : decode cX7_moves 49 = .ok (.if_icmp .ne 6, 3) := by decide +kernel
theorem dX7_moves_52 : decode cX7_moves 52 = .ok (.bipush (-2), 2) := by decide +kernel
theorem dX7_moves_54 : decode cX7_moves 54 = .ok (.ireturn, 1) := by decide +kernel
theorem dX7_moves_55 : decode cX7_moves 55 = .ok (.aload_n 0, 1) := by decide +kernel
theorem dX7_moves_56 : decode cX7_moves 56 = .ok (.invokevirtual 145, 3) := by decide +kernel
theorem dX7_moves_59 : decode cX7_moves 59 = .ok (.aload_n 0, 1) := by decide +kernel
theorem dX7_moves_60 : decode cX7_moves 60 = .ok (.getfield 35, 3) := by decide +kernel
theorem dX7_moves_63 : decode cX7_moves 63 = .ok (.iconst 0, 1) := by decide +kernel
theorem dX7_moves_64 : decode cX7_moves 64 = .ok (.iload_n 1, 1) := by decide +kernel
theorem dX7_moves_65 : decode cX7_moves 65 = .ok (.iadd, 1) := by decide +kernel
theorem dX7_moves_66 : decode cX7_moves 66 = .ok (.iload_n 3, 1) := by decide +kernel
theorem dX7_moves_67 : decode cX7_moves 67 = .ok (.iastore, 1) := by decide +kernel
theorem dX7_moves_68 : decode cX7_moves 68 = .ok (.aload_n 0, 1) := by decide +kernel
theorem dX7_moves_69 : decode cX7_moves 69 = .ok (.getfield 35, 3) := by decide +kernel
theorem dX7_moves_72 : decode cX7_moves 72 = .ok (.iconst 0, 1) := by decide +kernel
theorem dX7_moves_73 : decode cX7_moves 73 = .ok (.iload_n 1, 1) := by decide +kernel
theorem dX7_moves_74 : decode cX7_moves 74 = .ok (.iadd, 1) := by decide +kernel
theorem dX7_moves_75 : decode cX7_moves 75 = .ok (.iconst 1, 1) := by decide +kernel
theorem dX7_moves_76 : decode cX7_moves 76 = .ok (.isub, 1) := by decide +kernel
theorem dX7_moves_77 : decode cX7_moves 77 = .ok (.iload_n 2, 1) := by decide +kernel
theorem dX7_moves_78 : decode cX7_moves 78 = .ok (.iastore, 1) := by decide +kernel
theorem dX7_moves_79 : decode cX7_moves 79 = .ok (.iload_n 3, 1) := by decide +kernel
theorem dX7_moves_80 : decode cX7_moves 80 = .ok (.ireturn, 1) := by decide +kernel
theorem dX7_undo_0 : decode cX7_undo 0 = .ok (.aload_n 0, 1) := by decide +kernel
theorem dX7_undo_1 : decode cX7_undo 1 = .ok (.getfield 35, 3) := by decide +kernel
theorem dX7_undo_4 : decode cX7_undo 4 = .ok (.bipush 20, 2) := by decide +kernel
theorem dX7_undo_6 : decode cX7_undo 6 = .ok (.iaload, 1) := by decide +kernel
theorem dX7_undo_7 : decode cX7_undo 7 = .ok (.ifCond .ne 6, 3) := by decide +kernel
theorem dX7_undo_10 : decode cX7_undo 10 = .ok (.bipush (-2), 2) := by decide +kernel
theorem dX7_undo_12 : decode cX7_undo 12 = .ok (.ireturn, 1) := by decide +kernel
theorem dX7_undo_13 : decode cX7_undo 13 = .ok (.aload_n 0, 1) := by decide +kernel
theorem dX7_undo_14 : decode cX7_undo 14 = .ok (.getfield 35, 3) := by decide +kernel
theorem dX7_undo_17 : decode cX7_undo 17 = .ok (.bipush 20, 2) := by decide +kernel
theorem dX7_undo_19 : decode cX7_undo 19 = .ok (.dup2, 1) := by decide +kernel
theorem dX7_undo_20 : decode cX7_undo 20 = .ok (.iaload, 1) := by decide +kernel
theorem dX7_undo_21 : decode cX7_undo 21 = .ok (.iconst 1, 1) := by decide +kernel
theorem dX7_undo_22 : decode cX7_undo 22 = .ok (.isub, 1) := by decide +kernel
theorem dX7_undo_23 : decode cX7_undo 23 = .ok (.iastore, 1) := by decide +kernel
theorem dX7_undo_24 : decode cX7_undo 24 = .ok (.iconst 0, 1) := by decide +kernel
theorem dX7_undo_25 : decode cX7_undo 25 = .ok (.istore_n 1, 1) := by decide +kernel
theorem dX7_undo_26 : decode cX7_undo 26 = .ok (.iload_n 1, 1) := by decide +kernel
theorem dX7_undo_27 : decode cX7_undo 27 = .ok (.bipush 20, 2) := by decide +kernel
theorem dX7_undo_29 : decode cX7_undo 29 = .ok (.if_icmp .ge 35, 3) := by decide +kernel
theorem dX7_undo_32 : decode cX7_undo 32 = .ok (.aload_n 0, 1) := by decide +kernel
theorem dX7_undo_33 : decode cX7_undo 33 = .ok (.getfield 35, 3) := by decide +kernel
theorem dX7_undo_36 : decode cX7_undo 36 = .ok (.iload_n 1, 1) := by decide +kernel
theorem dX7_undo_37 : decode cX7_undo 37 = .ok (.aload_n 0, 1) := by decide +kernel
theorem dX7_undo_38 : decode cX7_undo 38 = .ok (.getfield 35, 3) := by decide +kernel
theorem dX7_undo_41 : decode cX7_undo 41 = .ok (.bipush 21, 2) := by decide +kernel
theorem dX7_undo_43 : decode cX7_undo 43 = .ok (.bipush 20, 2) := by decide +kernel
theorem dX7_undo_45 : decode cX7_undo 45 = .ok (.aload_n 0, 1) := by decide +kernel
theorem dX7_undo_46 : decode cX7_undo 46 = .ok (.getfield 35, 3) := by decide +kernel
theorem dX7_undo_49 : decode cX7_undo 49 = .ok (.bipush 20, 2) := by decide +kernel
theorem dX7_undo_51 : decode cX7_undo 51 = .ok (.iaload, 1) := by decide +kernel
theorem dX7_undo_52 : decode cX7_undo 52 = .ok (.imul, 1) := by decide +kernel
theorem dX7_undo_53 : decode cX7_undo 53 = .ok (.iadd, 1) := by decide +kernel
theorem dX7_undo_54 : decode cX7_undo 54 = .ok (.iload_n 1, 1) := by decide +kernel
theorem dX7_undo_55 : decode cX7_undo 55 = .ok (.iadd, 1) := by decide +kernel
theorem dX7_undo_56 : decode cX7_undo 56 = .ok (.iaload, 1) := by decide +kernel
theorem dX7_undo_57 : decode cX7_undo 57 = .ok (.iastore, 1) := by decide +kernel
theorem dX7_undo_58 : decode cX7_undo 58 = .ok (.iinc 1 1, 3) := by decide +kernel
theorem dX7_undo_61 : decode cX7_undo 61 = .ok (.goto (-35), 3) := by decide +kernel
theorem dX7_undo_64 : decode cX7_undo 64 = .ok (.aload_n 0, 1) := by decide +kernel
theorem dX7_undo_65 : decode cX7_undo 65 = .ok (.getfield 35, 3) := by decide +kernel
theorem dX7_undo_68 : decode cX7_undo 68 = .ok (.bipush 20, 2) := by decide +kernel
theorem dX7_undo_70 : decode cX7_undo 70 = .ok (.iaload, 1) := by decide +kernel
theorem dX7_undo_71 : decode cX7_undo 71 = .ok (.ireturn, 1) := by decide +kernel
theorem dX7_now_0 : decode cX7_now 0 = .ok (.iload_n 1, 1) := by decide +kernel
theorem dX7_now_1 : decode cX7_now 1 = .ok (.tableswitch 108 0 5 #[39, 47, 55, 63, 92, 100], 39) := by decide +kernel
theorem dX7_now_40 : decode cX7_now 40 = .ok (.aload_n 0, 1) := by decide +kernel
theorem dX7_now_41 : decode cX7_now 41 = .ok (.getfield 35, 3) := by decide +kernel
theorem dX7_now_44 : decode cX7_now 44 = .ok (.bipush 11, 2) := by decide +kernel
theorem dX7_now_46 : decode cX7_now 46 = .ok (.iaload, 1) := by decide +kernel
theorem dX7_now_47 : decode cX7_now 47 = .ok (.ireturn, 1) := by decide +kernel
theorem dX7_now_48 : decode cX7_now 48 = .ok (.aload_n 0, 1) := by decide +kernel
theorem dX7_now_49 : decode cX7_now 49 = .ok (.getfield 35, 3) := by decide +kernel
theorem dX7_now_52 : decode cX7_now 52 = .ok (.bipush 12, 2) := by decide +kernel
theorem dX7_now_54 : decode cX7_now 54 = .ok (.iaload, 1) := by decide +kernel
theorem dX7_now_55 : decode cX7_now 55 = .ok (.ireturn, 1) := by decide +kernel
theorem dX7_now_56 : decode cX7_now 56 = .ok (.aload_n 0, 1) := by decide +kernel
theorem dX7_now_57 : decode cX7_now 57 = .ok (.getfield 35, 3) := by decide +kernel
theorem dX7_now_60 : decode cX7_now 60 = .ok (.bipush 13, 2) := by decide +kernel
theorem dX7_now_62 : decode cX7_now 62 = .ok (.iaload, 1) := by decide +kernel
theorem dX7_now_63 : decode cX7_now 63 = .ok (.ireturn, 1) := by decide +kernel
theorem dX7_now_64 : decode cX7_now 64 = .ok (.iconst 0, 1) := by decide +kernel
theorem dX7_now_65 : decode cX7_now 65 = .ok (.istore_n 2, 1) := by decide +kernel
theorem dX7_now_66 : decode cX7_now 66 = .ok (.iconst 0, 1) := by decide +kernel
theorem dX7_now_67 : decode cX7_now 67 = .ok (.istore_n 3, 1) := by decide +kernel
theorem dX7_now_68 : decode cX7_now 68 = .ok (.iload_n 3, 1) := by decide +kernel
theorem dX7_now_69 : decode cX7_now 69 = .ok (.iconst 5, 1) := by decide +kernel
theorem dX7_now_70 : decode cX7_now 70 = .ok (.if_icmp .ge 21, 3) := by decide +kernel
theorem dX7_now_73 : decode cX7_now 73 = .ok (.iload_n 2, 1) := by decide +kernel
theorem dX7_now_74 : decode cX7_now 74 = .ok (.aload_n 0, 1) := by decide +kernel
theorem dX7_now_75 : decode cX7_now 75 = .ok (.getfield 35, 3) := by decide +kernel
theorem dX7_now_78 : decode cX7_now 78 = .ok (.bipush 14, 2) := by decide +kernel
theorem dX7_now_80 : decode cX7_now 80 = .ok (.iload_n 3, 1) := by decide +kernel
theorem dX7_now_81 : decode cX7_now 81 = .ok (.iadd, 1) := by decide +kernel
theorem dX7_now_82 : decode cX7_now 82 = .ok (.iaload, 1) := by decide +kernel
theorem dX7_now_83 : decode cX7_now 83 = .ok (.iadd, 1) := by decide +kernel
theorem dX7_now_84 : decode cX7_now 84 = .ok (.istore_n 2, 1) := by decide +kernel
theorem dX7_now_85 : decode cX7_now 85 = .ok (.iinc 3 1, 3) := by decide +kernel
theorem dX7_now_88 : decode cX7_now 88 = .ok (.goto (-20), 3) := by decide +kernel
theorem dX7_now_91 : decode cX7_now 91 = .ok (.iload_n 2, 1) := by decide +kernel
theorem dX7_now_92 : decode cX7_now 92 = .ok (.ireturn, 1) := by decide +kernel
theorem dX7_now_93 : decode cX7_now 93 = .ok (.aload_n 0, 1) := by decide +kernel
theorem dX7_now_94 : decode cX7_now 94 = .ok (.getfield 35, 3) := by decide +kernel
theorem dX7_now_97 : decode cX7_now 97 = .ok (.bipush 19, 2) := by decide +kernel
theorem dX7_now_99 : decode cX7_now 99 = .ok (.iaload, 1) := by decide +kernel
theorem dX7_now_100 : decode cX7_now 100 = .ok (.ireturn, 1) := by decide +kernel
theorem dX7_now_101 : decode cX7_now 101 = .ok (.aload_n 0, 1) := by decide +kernel
theorem dX7_now_102 : decode cX7_now 102 = .ok (.getfield 35, 3) := by decide +kernel
theorem dX7_now_105 : decode cX7_now 105 = .ok (.bipush 10, 2) := by decide +kernel
theorem dX7_now_107 : decode cX7_now 107 = .ok (.iaload, 1) := by decide +kernel
theorem dX7_now_108 : decode cX7_now 108 = .ok (.ireturn, 1) := by decide +kernel
theorem dX7_now_109 : decode cX7_now 109 = .ok (.iconst (-1), 1) := by decide +kernel
theorem dX7_now_110 : decode cX7_now 110 = .ok (.ireturn, 1) := by decide +kernel
theorem dX7_takeRow_0 : decode cX7_takeRow 0 = .ok (.iconst 0, 1) := by decide +kernel
theorem dX7_takeRow_1 : decode cX7_takeRow 1 = .ok (.istore_n 1, 1) := by decide +kernel
theorem dX7_takeRow_2 : decode cX7_takeRow 2 = .ok (.iload_n 1, 1) := by decide +kernel
theorem dX7_takeRow_3 : decode cX7_takeRow 3 = .ok (.iconst 5, 1) := by decide +kernel
theorem dX7_takeRow_4 : decode cX7_takeRow 4 = .ok (.if_icmp .ge 23, 3) := by decide +kernel
theorem dX7_takeRow_7 : decode cX7_takeRow 7 = .ok (.aload_n 0, 1) := by decide +kernel
theorem dX7_takeRow_8 : decode cX7_takeRow 8 = .ok (.getfield 42, 3) := by decide +kernel
theorem dX7_takeRow_11 : decode cX7_takeRow 11 = .ok (.iload_n 1, 1) := by decide +kernel
theorem dX7_takeRow_12 : decode cX7_takeRow 12 = .ok (.aload_n 0, 1) := by decide +kernel
theorem dX7_takeRow_13 : decode cX7_takeRow 13 = .ok (.getfield 35, 3) := by decide +kernel
theorem dX7_takeRow_16 : decode cX7_takeRow 16 = .ok (.iconst 0, 1) := by decide +kernel
theorem dX7_takeRow_17 : decode cX7_takeRow 17 = .ok (.iload_n 1, 1) := by decide +kernel
theorem dX7_takeRow_18 : decode cX7_takeRow 18 = .ok (.iadd, 1) := by decide +kernel
theorem dX7_takeRow_19 : decode cX7_takeRow 19 = .ok (.iaload, 1) := by decide +kernel
theorem dX7_takeRow_20 : decode cX7_takeRow 20 = .ok (.iastore, 1) := by decide +kernel
theorem dX7_takeRow_21 : decode cX7_takeRow 21 = .ok (.iinc 1 1, 3) := by decide +kernel
theorem dX7_takeRow_24 : decode cX7_takeRow 24 = .ok (.goto (-22), 3) := by decide +kernel
theorem dX7_takeRow_27 : decode cX7_takeRow 27 = .ok (.return_, 1) := by decide +kernel
theorem dX7_grow_0 : decode cX7_grow 0 = .ok (.aload_n 0, 1) := by decide +kernel
theorem dX7_grow_1 : decode cX7_grow 1 = .ok (.dup, 1) := by decide +kernel
theorem dX7_grow_2 : decode cX7_grow 2 = .ok (.getfield 155, 3) := by decide +kernel
theorem dX7_grow_5 : decode cX7_grow 5 = .ok (.ldc2_w 159, 3) := by decide +kernel
theorem dX7_grow_8 : decode cX7_grow 8 = .ok (.lmul, 1) := by decide +kernel
theorem dX7_grow_9 : decode cX7_grow 9 = .ok (.putfield 155, 3) := by decide +kernel
theorem dX7_grow_12 : decode cX7_grow 12 = .ok (.aload_n 0, 1) := by decide +kernel
theorem dX7_grow_13 : decode cX7_grow 13 = .ok (.dup, 1) := by decide +kernel
theorem dX7_grow_14 : decode cX7_grow 14 = .ok (.getfield 161, 3) := by decide +kernel
theorem dX7_grow_17 : decode cX7_grow 17 = .ok (.ldc2_w 159, 3) := by decide +kernel
theorem dX7_grow_20 : decode cX7_grow 20 = .ok (.lmul, 1) := by decide +kernel
theorem dX7_grow_21 : decode cX7_grow 21 = .ok (.putfield 161, 3) := by decide +kernel
theorem dX7_grow_24 : decode cX7_grow 24 = .ok (.aload_n 0, 1) := by decide +kernel
theorem dX7_grow_25 : decode cX7_grow 25 = .ok (.dup, 1) := by decide +kernel
theorem dX7_grow_26 : decode cX7_grow 26 = .ok (.getfield 164, 3) := by decide +kernel
theorem dX7_grow_29 : decode cX7_grow 29 = .ok (.ldc2_w 159, 3) := by decide +kernel
theorem dX7_grow_32 : decode cX7_grow 32 = .ok (.lmul, 1) := by decide +kernel
theorem dX7_grow_33 : decode cX7_grow 33 = .ok (.putfield 164, 3) := by decide +kernel
theorem dX7_grow_36 : decode cX7_grow 36 = .ok (.aload_n 0, 1) := by decide +kernel
theorem dX7_grow_37 : decode cX7_grow 37 = .ok (.dup, 1) := by decide +kernel
theorem dX7_grow_38 : decode cX7_grow 38 = .ok (.getfield 167, 3) := by decide +kernel
theorem dX7_grow_41 : decode cX7_grow 41 = .ok (.ldc2_w 159, 3) := by decide +kernel
theorem dX7_grow_44 : decode cX7_grow 44 = .ok (.lmul, 1) := by decide +kernel
theorem dX7_grow_45 : decode cX7_grow 45 = .ok (.putfield 167, 3) := by decide +kernel
theorem dX7_grow_48 : decode cX7_grow 48 = .ok (.iconst 0, 1) := by decide +kernel
theorem dX7_grow_49 : decode cX7_grow 49 = .ok (.istore_n 1, 1) := by decide +kernel
theorem dX7_grow_50 : decode cX7_grow 50 = .ok (.iload_n 1, 1) := by decide +kernel
theorem dX7_grow_51 : decode cX7_grow 51 = .ok (.iconst 5, 1) := by decide +kernel
theorem dX7_grow_52 : decode cX7_grow 52 = .ok (.if_icmp .ge 33, 3) := by decide +kernel
theorem dX7_grow_55 : decode cX7_grow 55 = .ok (.aload_n 0, 1) := by decide +kernel
theorem dX7_grow_56 : decode cX7_grow 56 = .ok (.getfield 45, 3) := by decide +kernel
theorem dX7_grow_59 : decode cX7_grow 59 = .ok (.iload_n 1, 1) := by decide +kernel
theorem dX7_grow_60 : decode cX7_grow 60 = .ok (.dup2, 1) := by decide +kernel
theorem dX7_grow_61 : decode cX7_grow 61 = .ok (.laload, 1) := by decide +kernel
theorem dX7_grow_62 : decode cX7_grow 62 = .ok (.ldc2_w 159, 3) := by decide +kernel
theorem dX7_grow_65 : decode cX7_grow 65 = .ok (.lmul, 1) := by decide +kernel
theorem dX7_grow_66 : decode cX7_grow 66 = .ok (.lastore, 1) := by decide +kernel
theorem dX7_grow_67 : decode cX7_grow 67 = .ok (.aload_n 0, 1) := by decide +kernel
theorem dX7_grow_68 : decode cX7_grow 68 = .ok (.getfield 49, 3) := by decide +kernel
theorem dX7_grow_71 : decode cX7_grow 71 = .ok (.iload_n 1, 1) := by decide +kernel
theorem dX7_grow_72 : decode cX7_grow 72 = .ok (.dup2, 1) := by decide +kernel
theorem dX7_grow_73 : decode cX7_grow 73 = .ok (.laload, 1) := by decide +kernel
theorem dX7_grow_74 : decode cX7_grow 74 = .ok (.ldc2_w 159, 3) := by decide +kernel
theorem dX7_grow_77 : decode cX7_grow 77 = .ok (.lmul, 1) := by decide +kernel
theorem dX7_grow_78 : decode cX7_grow 78 = .ok (.lastore, 1) := by decide +kernel
theorem dX7_grow_79 : decode cX7_grow 79 = .ok (.iinc 1 1, 3) := by decide +kernel
theorem dX7_grow_82 : decode cX7_grow 82 = .ok (.goto (-32), 3) := by decide +kernel
theorem dX7_grow_85 : decode cX7_grow 85 = .ok (.return_, 1) := by decide +kernel
theorem dX7_begin_0 : decode cX7_begin 0 = .ok (.aload_n 0, 1) := by decide +kernel
theorem dX7_begin_1 : decode cX7_begin 1 = .ok (.lconst 1, 1) := by decide +kernel
theorem dX7_begin_2 : decode cX7_begin 2 = .ok (.putfield 155, 3) := by decide +kernel
theorem dX7_begin_5 : decode cX7_begin 5 = .ok (.aload_n 0, 1) := by decide +kernel
theorem dX7_begin_6 : decode cX7_begin 6 = .ok (.lconst 0, 1) := by decide +kernel
theorem dX7_begin_7 : decode cX7_begin 7 = .ok (.putfield 161, 3) := by decide +kernel
theorem dX7_begin_10 : decode cX7_begin 10 = .ok (.aload_n 0, 1) := by decide +kernel
theorem dX7_begin_11 : decode cX7_begin 11 = .ok (.lconst 1, 1) := by decide +kernel
theorem dX7_begin_12 : decode cX7_begin 12 = .ok (.putfield 164, 3) := by decide +kernel
theorem dX7_begin_15 : decode cX7_begin 15 = .ok (.aload_n 0, 1) := by decide +kernel
theorem dX7_begin_16 : decode cX7_begin 16 = .ok (.lconst 0, 1) := by decide +kernel
theorem dX7_begin_17 : decode cX7_begin 17 = .ok (.putfield 167, 3) := by decide +kernel
theorem dX7_begin_20 : decode cX7_begin 20 = .ok (.iconst 0, 1) := by decide +kernel
theorem dX7_begin_21 : decode cX7_begin 21 = .ok (.istore_n 1, 1) := by decide +kernel
theorem dX7_begin_22 : decode cX7_begin 22 = .ok (.iload_n 1, 1) := by decide +kernel
theorem dX7_begin_23 : decode cX7_begin 23 = .ok (.iconst 5, 1) := by decide +kernel
theorem dX7_begin_24 : decode cX7_begin 24 = .ok (.if_icmp .ge 23, 3) := by decide +kernel
theorem dX7_begin_27 : decode cX7_begin 27 = .ok (.aload_n 0, 1) := by decide +kernel
theorem dX7_begin_28 : decode cX7_begin 28 = .ok (.getfield 45, 3) := by decide +kernel
theorem dX7_begin_31 : decode cX7_begin 31 = .ok (.iload_n 1, 1) := by decide +kernel
theorem dX7_begin_32 : decode cX7_begin 32 = .ok (.lconst 0, 1) := by decide +kernel
theorem dX7_begin_33 : decode cX7_begin 33 = .ok (.lastore, 1) := by decide +kernel
theorem dX7_begin_34 : decode cX7_begin 34 = .ok (.aload_n 0, 1) := by decide +kernel
theorem dX7_begin_35 : decode cX7_begin 35 = .ok (.getfield 49, 3) := by decide +kernel
theorem dX7_begin_38 : decode cX7_begin 38 = .ok (.iload_n 1, 1) := by decide +kernel
theorem dX7_begin_39 : decode cX7_begin 39 = .ok (.lconst 0, 1) := by decide +kernel
theorem dX7_begin_40 : decode cX7_begin 40 = .ok (.lastore, 1) := by decide +kernel
theorem dX7_begin_41 : decode cX7_begin 41 = .ok (.iinc 1 1, 3) := by decide +kernel
theorem dX7_begin_44 : decode cX7_begin 44 = .ok (.goto (-22), 3) := by decide +kernel
theorem dX7_begin_47 : decode cX7_begin 47 = .ok (.return_, 1) := by decide +kernel
theorem dX7_work_0 : decode cX7_work 0 = .ok (.aload_n 0, 1) := by decide +kernel
theorem dX7_work_1 : decode cX7_work 1 = .ok (.getfield 42, 3) := by decide +kernel
theorem dX7_work_4 : decode cX7_work 4 = .ok (.iload_n 1, 1) := by decide +kernel
theorem dX7_work_5 : decode cX7_work 5 = .ok (.iaload, 1) := by decide +kernel
theorem dX7_work_6 : decode cX7_work 6 = .ok (.istore_n 2, 1) := by decide +kernel
theorem dX7_work_7 : decode cX7_work 7 = .ok (.aload_n 0, 1) := by decide +kernel
theorem dX7_work_8 : decode cX7_work 8 = .ok (.dup, 1) := by decide +kernel
theorem dX7_work_9 : decode cX7_work 9 = .ok (.getfield 161, 3) := by decide +kernel
theorem dX7_work_12 : decode cX7_work 12 = .ok (.aload_n 0, 1) := by decide +kernel
theorem dX7_work_13 : decode cX7_work 13 = .ok (.getfield 164, 3) := by decide +kernel
theorem dX7_work_16 : decode cX7_work 16 = .ok (.aload_n 0, 1) := by decide +kernel
theorem dX7_work_17 : decode cX7_work 17 = .ok (.getfield 167, 3) := by decide +kernel
theorem dX7_work_20 : decode cX7_work 20 = .ok (.ladd, 1) := by decide +kernel
theorem dX7_work_21 : decode cX7_work 21 = .ok (.aload_n 0, 1) := by decide +kernel
theorem dX7_work_22 : decode cX7_work 22 = .ok (.getfield 17, 3) := by decide +kernel
theorem dX7_work_25 : decode cX7_work 25 = .ok (.iload_n 2, 1) := by decide +kernel
theorem dX7_work_26 : decode cX7_work 26 = .ok (.iaload, 1) := by decide +kernel
theorem dX7_work_27 : decode cX7_work 27 = .ok (.i2l, 1) := by decide +kernel
theorem dX7_work_28 : decode cX7_work 28 = .ok (.lmul, 1) := by decide +kernel
theorem dX7_work_29 : decode cX7_work 29 = .ok (.ladd, 1) := by decide +kernel
theorem dX7_work_30 : decode cX7_work 30 = .ok (.putfield 161, 3) := by decide +kernel
theorem dX7_work_33 : decode cX7_work 33 = .ok (.aload_n 0, 1) := by decide +kernel
theorem dX7_work_34 : decode cX7_work 34 = .ok (.invokevirtual 170, 3) := by decide +kernel
theorem dX7_work_37 : decode cX7_work 37 = .ok (.aload_n 0, 1) := by decide +kernel
theorem dX7_work_38 : decode cX7_work 38 = .ok (.getfield 164, 3) := by decide +kernel
theorem dX7_work_41 : decode cX7_work 41 = .ok (.ldc2_w 159, 3) := by decide +kernel
theorem dX7_work_44 : decode cX7_work 44 = .ok (.ldiv, 1) := by decide +kernel
theorem dX7_work_45 : decode cX7_work 45 = .ok (.aload_n 0, 1) := by decide +kernel
theorem dX7_work_46 : decode cX7_work 46 = .ok (.getfield 35, 3) := by decide +kernel
theorem dX7_work_49 : decode cX7_work 49 = .ok (.iconst 5, 1) := by decide +kernel
theorem dX7_work_50 : decode cX7_work 50 = .ok (.iload_n 2, 1) := by decide +kernel
theorem dX7_work_51 : decode cX7_work 51 = .ok (.iadd, 1) := by decide +kernel
theorem dX7_work_52 : decode cX7_work 52 = .ok (.iaload, 1) := by decide +kernel
theorem dX7_work_53 : decode cX7_work 53 = .ok (.i2l, 1) := by decide +kernel
theorem dX7_work_54 : decode cX7_work 54 = .ok (.lmul, 1) := by decide +kernel
theorem dX7_work_55 : decode cX7_work 55 = .ok (.lstore_n 3, 1) := by decide +kernel
theorem dX7_work_56 : decode cX7_work 56 = .ok (.aload_n 0, 1) := by decide +kernel
theorem dX7_work_57 : decode cX7_work 57 = .ok (.dup, 1) := by decide +kernel
theorem dX7_work_58 : decode cX7_work 58 = .ok (.getfield 164, 3) := by decide +kernel
theorem dX7_work_61 : decode cX7_work 61 = .ok (.lload_n 3, 1) := by decide +kernel
theorem dX7_work_62 : decode cX7_work 62 = .ok (.lsub, 1) := by decide +kernel
theorem dX7_work_63 : decode cX7_work 63 = .ok (.putfield 164, 3) := by decide +kernel
theorem dX7_work_66 : decode cX7_work 66 = .ok (.aload_n 0, 1) := by decide +kernel
theorem dX7_work_67 : decode cX7_work 67 = .ok (.dup, 1) := by decide +kernel
theorem dX7_work_68 : decode cX7_work 68 = .ok (.getfield 167, 3) := by decide +kernel
theorem dX7_work_71 : decode cX7_work 71 = .ok (.lload_n 3, 1) := by decide +kernel
theorem dX7_work_72 : decode cX7_work 72 = .ok (.ladd, 1) := by decide +kernel
theorem dX7_work_73 : decode cX7_work 73 = .ok (.putfield 167, 3) := by decide +kernel
theorem dX7_work_76 : decode cX7_work 76 = .ok (.aload_n 0, 1) := by decide +kernel
theorem dX7_work_77 : decode cX7_work 77 = .ok (.getfield 49, 3) := by decide +kernel
theorem dX7_work_80 : decode cX7_work 80 = .ok (.iload_n 1, 1) := by decide +kernel
theorem dX7_work_81 : decode cX7_work 81 = .ok (.dup2, 1) := by decide +kernel
theorem dX7_work_82 : decode cX7_work 82 = .ok (.laload, 1) := by decide +kernel
theorem dX7_work_83 : decode cX7_work 83 = .ok (.lload_n 3, 1) := by decide +kernel
theorem dX7_work_84 : decode cX7_work 84 = .ok (.ladd, 1) := by decide +kernel
theorem dX7_work_85 : decode cX7_work 85 = .ok (.lastore, 1) := by decide +kernel
theorem dX7_work_86 : decode cX7_work 86 = .ok (.return_, 1) := by decide +kernel
theorem dX7_lookAt_0 : decode cX7_lookAt 0 = .ok (.aload_n 0, 1) := by decide +kernel
theorem dX7_lookAt_1 : decode cX7_lookAt 1 = .ok (.getfield 42, 3) := by decide +kernel
theorem dX7_lookAt_4 : decode cX7_lookAt 4 = .ok (.iload_n 1, 1) := by decide +kernel
theorem dX7_lookAt_5 : decode cX7_lookAt 5 = .ok (.iaload, 1) := by decide +kernel
theorem dX7_lookAt_6 : decode cX7_lookAt 6 = .ok (.istore_n 3, 1) := by decide +kernel
theorem dX7_lookAt_7 : decode cX7_lookAt 7 = .ok (.aload_n 0, 1) := by decide +kernel
theorem dX7_lookAt_8 : decode cX7_lookAt 8 = .ok (.dup, 1) := by decide +kernel
theorem dX7_lookAt_9 : decode cX7_lookAt 9 = .ok (.getfield 161, 3) := by decide +kernel
theorem dX7_lookAt_12 : decode cX7_lookAt 12 = .ok (.iload_n 2, 1) := by decide +kernel
theorem dX7_lookAt_13 : decode cX7_lookAt 13 = .ok (.ifCond .eq 23, 3) := by decide +kernel
theorem dX7_lookAt_16 : decode cX7_lookAt 16 = .ok (.aload_n 0, 1) := by decide +kernel
theorem dX7_lookAt_17 : decode cX7_lookAt 17 = .ok (.getfield 164, 3) := by decide +kernel
theorem dX7_lookAt_20 : decode cX7_lookAt 20 = .ok (.aload_n 0, 1) := by decide +kernel
theorem dX7_lookAt_21 : decode cX7_lookAt 21 = .ok (.getfield 167, 3) := by decide +kernel
theorem dX7_lookAt_24 : decode cX7_lookAt 24 = .ok (.ladd, 1) := by decide +kernel
theorem dX7_lookAt_25 : decode cX7_lookAt 25 = .ok (.aload_n 0, 1) := by decide +kernel
theorem dX7_lookAt_26 : decode cX7_lookAt 26 = .ok (.getfield 23, 3) := by decide +kernel
theorem dX7_lookAt_29 : decode cX7_lookAt 29 = .ok (.iload_n 3, 1) := by decide +kernel
theorem dX7_lookAt_30 : decode cX7_lookAt 30 = .ok (.iaload, 1) := by decide +kernel
theorem dX7_lookAt_31 : decode cX7_lookAt 31 = .ok (.i2l, 1) := by decide +kernel
theorem dX7_lookAt_32 : decode cX7_lookAt 32 = .ok (.lmul, 1) := by decide +kernel
theorem dX7_lookAt_33 : decode cX7_lookAt 33 = .ok (.goto 4, 3) := by decide +kernel
theorem dX7_lookAt_36 : decode cX7_lookAt 36 = .ok (.lconst 0, 1) := by decide +kernel
theorem dX7_lookAt_37 : decode cX7_lookAt 37 = .ok (.ladd, 1) := by decide +kernel
theorem dX7_lookAt_38 : decode cX7_lookAt 38 = .ok (.putfield 161, 3) := by decide +kernel
theorem dX7_lookAt_41 : decode cX7_lookAt 41 = .ok (.aload_n 0, 1) := by decide +kernel
theorem dX7_lookAt_42 : decode cX7_lookAt 42 = .ok (.invokevirtual 170, 3) := by decide +kernel
theorem dX7_lookAt_45 : decode cX7_lookAt 45 = .ok (.iload_n 2, 1) := by decide +kernel
theorem dX7_lookAt_46 : decode cX7_lookAt 46 = .ok (.ifCond .eq 84, 3) := by decide +kernel
theorem dX7_lookAt_49 : decode cX7_lookAt 49 = .ok (.aload_n 0, 1) := by decide +kernel
theorem dX7_lookAt_50 : decode cX7_lookAt 50 = .ok (.getfield 45, 3) := by decide +kernel
theorem dX7_lookAt_53 : decode cX7_lookAt 53 = .ok (.iload_n 1, 1) := by decide +kernel
theorem dX7_lookAt_54 : decode cX7_lookAt 54 = .ok (.aload_n 0, 1) := by decide +kernel
theorem dX7_lookAt_55 : decode cX7_lookAt 55 = .ok (.getfield 167, 3) := by decide +kernel
theorem dX7_lookAt_58 : decode cX7_lookAt 58 = .ok (.ldc2_w 159, 3) := by decide +kernel
theorem dX7_lookAt_61 : decode cX7_lookAt 61 = .ok (.ldiv, 1) := by decide +kernel
theorem dX7_lookAt_62 : decode cX7_lookAt 62 = .ok (.bipush 10, 2) := by decide +kernel
theorem dX7_lookAt_64 : decode cX7_lookAt 64 = .ok (.aload_n 0, 1) := by decide +kernel
theorem dX7_lookAt_65 : decode cX7_lookAt 65 = .ok (.getfield 26, 3) := by decide +kernel
theorem dX7_lookAt_68 : decode cX7_lookAt 68 = .ok (.iload_n 3, 1) := by decide +kernel
theorem dX7_lookAt_69 : decode cX7_lookAt 69 = .ok (.iaload, 1) := by decide +kernel
theorem dX7_lookAt_70 : decode cX7_lookAt 70 = .ok (.isub, 1) := by decide +kernel
theorem dX7_lookAt_71 : decode cX7_lookAt 71 = .ok (.i2l, 1) := by decide +kernel
theorem dX7_lookAt_72 : decode cX7_lookAt 72 = .ok (.lmul, 1) := by decide +kernel
theorem dX7_lookAt_73 : decode cX7_lookAt 73 = .ok (.lastore, 1) := by decide +kernel
theorem dX7_lookAt_74 : decode cX7_lookAt 74 = .ok (.aload_n 0, 1) := by decide +kernel
theorem dX7_lookAt_75 : decode cX7_lookAt 75 = .ok (.dup, 1) := by decide +kernel
theorem dX7_lookAt_76 : decode cX7_lookAt 76 = .ok (.getfield 167, 3) := by decide +kernel
theorem dX7_lookAt_79 : decode cX7_lookAt 79 = .ok (.aload_n 0, 1) := by decide +kernel
theorem dX7_lookAt_80 : decode cX7_lookAt 80 = .ok (.getfield 45, 3) := by decide +kernel
theorem dX7_lookAt_83 : decode cX7_lookAt 83 = .ok (.iload_n 1, 1) := by decide +kernel
theorem dX7_lookAt_84 : decode cX7_lookAt 84 = .ok (.laload, 1) := by decide +kernel
theorem dX7_lookAt_85 : decode cX7_lookAt 85 = .ok (.lsub, 1) := by decide +kernel
theorem dX7_lookAt_86 : decode cX7_lookAt 86 = .ok (.putfield 167, 3) := by decide +kernel
theorem dX7_lookAt_89 : decode cX7_lookAt 89 = .ok (.iconst 0, 1) := by decide +kernel
theorem dX7_lookAt_90 : decode cX7_lookAt 90 = .ok (.istore 4, 2) := by decide +kernel
theorem dX7_lookAt_92 : decode cX7_lookAt 92 = .ok (.iload 4, 2) := by decide +kernel
theorem dX7_lookAt_94 : decode cX7_lookAt 94 = .ok (.iload_n 1, 1) := by decide +kernel
theorem dX7_lookAt_95 : decode cX7_lookAt 95 = .ok (.if_icmp .gt 35, 3) := by decide +kernel
theorem dX7_lookAt_98 : decode cX7_lookAt 98 = .ok (.aload_n 0, 1) := by decide +kernel
theorem dX7_lookAt_99 : decode cX7_lookAt 99 = .ok (.getfield 49, 3) := by decide +kernel
theorem dX7_lookAt_102 : decode cX7_lookAt 102 = .ok (.iload 4, 2) := by decide +kernel
theorem dX7_lookAt_104 : decode cX7_lookAt 104 = .ok (.aload_n 0, 1) := by decide +kernel
theorem dX7_lookAt_105 : decode cX7_lookAt 105 = .ok (.getfield 49, 3) := by decide +kernel
theorem dX7_lookAt_108 : decode cX7_lookAt 108 = .ok (.iload 4, 2) := by decide +kernel
theorem dX7_lookAt_110 : decode cX7_lookAt 110 = .ok (.laload, 1) := by decide +kernel
theorem dX7_lookAt_111 : decode cX7_lookAt 111 = .ok (.ldc2_w 159, 3) := by decide +kernel
theorem dX7_lookAt_114 : decode cX7_lookAt 114 = .ok (.ldiv, 1) := by decide +kernel
theorem dX7_lookAt_115 : decode cX7_lookAt 115 = .ok (.aload_n 0, 1) := by decide +kernel
theorem dX7_lookAt_116 : decode cX7_lookAt 116 = .ok (.getfield 26, 3) := by decide +kernel
theorem dX7_lookAt_119 : decode cX7_lookAt 119 = .ok (.iload_n 3, 1) := by decide +kernel
