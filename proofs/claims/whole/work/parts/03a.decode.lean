theorem dX0_init_0 : decode cX0_init 0 = .ok (.aload_n 0, 1) := by decide +kernel
theorem dX0_init_1 : decode cX0_init 1 = .ok (.invokespecial 3, 3) := by decide +kernel
theorem dX0_init_4 : decode cX0_init 4 = .ok (.aload_n 0, 1) := by decide +kernel
theorem dX0_init_5 : decode cX0_init 5 = .ok (.iconst 5, 1) := by decide +kernel
theorem dX0_init_6 : decode cX0_init 6 = .ok (.newarray .long, 2) := by decide +kernel
theorem dX0_init_8 : decode cX0_init 8 = .ok (.putfield 9, 3) := by decide +kernel
theorem dX0_init_11 : decode cX0_init 11 = .ok (.aload_n 0, 1) := by decide +kernel
theorem dX0_init_12 : decode cX0_init 12 = .ok (.iconst 5, 1) := by decide +kernel
theorem dX0_init_13 : decode cX0_init 13 = .ok (.newarray .long, 2) := by decide +kernel
theorem dX0_init_15 : decode cX0_init 15 = .ok (.putfield 15, 3) := by decide +kernel
theorem dX0_init_18 : decode cX0_init 18 = .ok (.return_, 1) := by decide +kernel
theorem dX0_through_0 : decode cX0_through 0 = .ok (.aload_n 0, 1) := by decide +kernel
theorem dX0_through_1 : decode cX0_through 1 = .ok (.invokevirtual 18, 3) := by decide +kernel
theorem dX0_through_4 : decode cX0_through 4 = .ok (.iconst 0, 1) := by decide +kernel
theorem dX0_through_5 : decode cX0_through 5 = .ok (.istore 5, 2) := by decide +kernel
theorem dX0_through_7 : decode cX0_through 7 = .ok (.iload 5, 2) := by decide +kernel
theorem dX0_through_9 : decode cX0_through 9 = .ok (.aload_n 1, 1) := by decide +kernel
theorem dX0_through_10 : decode cX0_through 10 = .ok (.getfield 21, 3) := by decide +kernel
theorem dX0_through_13 : decode cX0_through 13 = .ok (.if_icmp .ge 74, 3) := by decide +kernel
theorem dX0_through_16 : decode cX0_through 16 = .ok (.aload_n 3, 1) := by decide +kernel
theorem dX0_through_17 : decode cX0_through 17 = .ok (.iload 5, 2) := by decide +kernel
theorem dX0_through_19 : decode cX0_through 19 = .ok (.iaload, 1) := by decide +kernel
theorem dX0_through_20 : decode cX0_through 20 = .ok (.istore 6, 2) := by decide +kernel
theorem dX0_through_22 : decode cX0_through 22 = .ok (.aload_n 0, 1) := by decide +kernel
theorem dX0_through_23 : decode cX0_through 23 = .ok (.iload 5, 2) := by decide +kernel
theorem dX0_through_25 : decode cX0_through 25 = .ok (.aload_n 1, 1) := by decide +kernel
theorem dX0_through_26 : decode cX0_through 26 = .ok (.getfield 27, 3) := by decide +kernel
theorem dX0_through_29 : decode cX0_through 29 = .ok (.iload 6, 2) := by decide +kernel
theorem dX0_through_31 : decode cX0_through 31 = .ok (.iaload, 1) := by decide +kernel
theorem dX0_through_32 : decode cX0_through 32 = .ok (.aload_n 2, 1) := by decide +kernel
theorem dX0_through_33 : decode cX0_through 33 = .ok (.getfield 31, 3) := by decide +kernel
theorem dX0_through_36 : decode cX0_through 36 = .ok (.iload 6, 2) := by decide +kernel
theorem dX0_through_38 : decode cX0_through 38 = .ok (.iaload, 1) := by decide +kernel
theorem dX0_through_39 : decode cX0_through 39 = .ok (.invokevirtual 36, 3) := by decide +kernel
theorem dX0_through_42 : decode cX0_through 42 = .ok (.aload_n 0, 1) := by decide +kernel
theorem dX0_through_43 : decode cX0_through 43 = .ok (.getfield 9, 3) := by decide +kernel
theorem dX0_through_46 : decode cX0_through 46 = .ok (.iload 5, 2) := by decide +kernel
theorem dX0_through_48 : decode cX0_through 48 = .ok (.lconst 0, 1) := by decide +kernel
theorem dX0_through_49 : decode cX0_through 49 = .ok (.lastore, 1) := by decide +kernel
theorem dX0_through_50 : decode cX0_through 50 = .ok (.iload 4, 2) := by decide +kernel
theorem dX0_through_52 : decode cX0_through 52 = .ok (.iload 6, 2) := by decide +kernel
theorem dX0_through_54 : decode cX0_through 54 = .ok (.ishr, 1) := by decide +kernel
theorem dX0_through_55 : decode cX0_through 55 = .ok (.iconst 1, 1) := by decide +kernel
theorem dX0_through_56 : decode cX0_through 56 = .ok (.iand, 1) := by decide +kernel
theorem dX0_through_57 : decode cX0_through 57 = .ok (.iconst 1, 1) := by decide +kernel
theorem dX0_through_58 : decode cX0_through 58 = .ok (.if_icmp .ne 23, 3) := by decide +kernel
theorem dX0_through_61 : decode cX0_through 61 = .ok (.aload_n 0, 1) := by decide +kernel
theorem dX0_through_62 : decode cX0_through 62 = .ok (.iload 5, 2) := by decide +kernel
theorem dX0_through_64 : decode cX0_through 64 = .ok (.aload_n 1, 1) := by decide +kernel
theorem dX0_through_65 : decode cX0_through 65 = .ok (.getfield 40, 3) := by decide +kernel
theorem dX0_through_68 : decode cX0_through 68 = .ok (.iload 6, 2) := by decide +kernel
theorem dX0_through_70 : decode cX0_through 70 = .ok (.iaload, 1) := by decide +kernel
theorem dX0_through_71 : decode cX0_through 71 = .ok (.aload_n 1, 1) := by decide +kernel
theorem dX0_through_72 : decode cX0_through 72 = .ok (.getfield 43, 3) := by decide +kernel
theorem dX0_through_75 : decode cX0_through 75 = .ok (.iload 6, 2) := by decide +kernel
theorem dX0_through_77 : decode cX0_through 77 = .ok (.iaload, 1) := by decide +kernel
theorem dX0_through_78 : decode cX0_through 78 = .ok (.invokevirtual 46, 3) := by decide +kernel
theorem dX0_through_81 : decode cX0_through 81 = .ok (.iinc 5 1, 3) := by decide +kernel
theorem dX0_through_84 : decode cX0_through 84 = .ok (.goto (-77), 3) := by decide +kernel
theorem dX0_through_87 : decode cX0_through 87 = .ok (.aload_n 0, 1) := by decide +kernel
theorem dX0_through_88 : decode cX0_through 88 = .ok (.dup, 1) := by decide +kernel
theorem dX0_through_89 : decode cX0_through 89 = .ok (.getfield 49, 3) := by decide +kernel
theorem dX0_through_92 : decode cX0_through 92 = .ok (.aload_n 0, 1) := by decide +kernel
theorem dX0_through_93 : decode cX0_through 93 = .ok (.getfield 53, 3) := by decide +kernel
theorem dX0_through_96 : decode cX0_through 96 = .ok (.aload_n 1, 1) := by decide +kernel
theorem dX0_through_97 : decode cX0_through 97 = .ok (.getfield 56, 3) := by decide +kernel
theorem dX0_through_100 : decode cX0_through 100 = .ok (.i2l, 1) := by decide +kernel
theorem dX0_through_101 : decode cX0_through 101 = .ok (.lmul, 1) := by decide +kernel
theorem dX0_through_102 : decode cX0_through 102 = .ok (.ladd, 1) := by decide +kernel
theorem dX0_through_103 : decode cX0_through 103 = .ok (.putfield 49, 3) := by decide +kernel
theorem dX0_through_106 : decode cX0_through 106 = .ok (.return_, 1) := by decide +kernel
theorem dX0_upTo_0 : decode cX0_upTo 0 = .ok (.aload_n 0, 1) := by decide +kernel
theorem dX0_upTo_1 : decode cX0_upTo 1 = .ok (.invokevirtual 18, 3) := by decide +kernel
theorem dX0_upTo_4 : decode cX0_upTo 4 = .ok (.iconst 0, 1) := by decide +kernel
theorem dX0_upTo_5 : decode cX0_upTo 5 = .ok (.istore 4, 2) := by decide +kernel
theorem dX0_upTo_7 : decode cX0_upTo 7 = .ok (.iload 4, 2) := by decide +kernel
theorem dX0_upTo_9 : decode cX0_upTo 9 = .ok (.iload_n 1, 1) := by decide +kernel
theorem dX0_upTo_10 : decode cX0_upTo 10 = .ok (.if_icmp .gt 99, 3) := by decide +kernel
theorem dX0_upTo_13 : decode cX0_upTo 13 = .ok (.iload 4, 2) := by decide +kernel
theorem dX0_upTo_15 : decode cX0_upTo 15 = .ok (.aload_n 2, 1) := by decide +kernel
theorem dX0_upTo_16 : decode cX0_upTo 16 = .ok (.getfield 21, 3) := by decide +kernel
theorem dX0_upTo_19 : decode cX0_upTo 19 = .ok (.if_icmp .ge 90, 3) := by decide +kernel
theorem dX0_upTo_22 : decode cX0_upTo 22 = .ok (.aload_n 3, 1) := by decide +kernel
theorem dX0_upTo_23 : decode cX0_upTo 23 = .ok (.getfield 59, 3) := by decide +kernel
theorem dX0_upTo_26 : decode cX0_upTo 26 = .ok (.iload 4, 2) := by decide +kernel
theorem dX0_upTo_28 : decode cX0_upTo 28 = .ok (.iaload, 1) := by decide +kernel
theorem dX0_upTo_29 : decode cX0_upTo 29 = .ok (.istore 5, 2) := by decide +kernel
theorem dX0_upTo_31 : decode cX0_upTo 31 = .ok (.aload_n 0, 1) := by decide +kernel
theorem dX0_upTo_32 : decode cX0_upTo 32 = .ok (.iload 4, 2) := by decide +kernel
theorem dX0_upTo_34 : decode cX0_upTo 34 = .ok (.aload_n 2, 1) := by decide +kernel
theorem dX0_upTo_35 : decode cX0_upTo 35 = .ok (.getfield 27, 3) := by decide +kernel
theorem dX0_upTo_38 : decode cX0_upTo 38 = .ok (.iload 5, 2) := by decide +kernel
theorem dX0_upTo_40 : decode cX0_upTo 40 = .ok (.iaload, 1) := by decide +kernel
theorem dX0_upTo_41 : decode cX0_upTo 41 = .ok (.aload_n 3, 1) := by decide +kernel
theorem dX0_upTo_42 : decode cX0_upTo 42 = .ok (.getfield 31, 3) := by decide +kernel
theorem dX0_upTo_45 : decode cX0_upTo 45 = .ok (.iload 5, 2) := by decide +kernel
theorem dX0_upTo_47 : decode cX0_upTo 47 = .ok (.iaload, 1) := by decide +kernel
theorem dX0_upTo_48 : decode cX0_upTo 48 = .ok (.invokevirtual 36, 3) := by decide +kernel
theorem dX0_upTo_51 : decode cX0_upTo 51 = .ok (.iload 4, 2) := by decide +kernel
theorem dX0_upTo_53 : decode cX0_upTo 53 = .ok (.iload_n 1, 1) := by decide +kernel
theorem dX0_upTo_54 : decode cX0_upTo 54 = .ok (.if_icmp .ge 49, 3) := by decide +kernel
theorem dX0_upTo_57 : decode cX0_upTo 57 = .ok (.aload_n 3, 1) := by decide +kernel
theorem dX0_upTo_58 : decode cX0_upTo 58 = .ok (.getfield 62, 3) := by decide +kernel
theorem dX0_upTo_61 : decode cX0_upTo 61 = .ok (.iload 5, 2) := by decide +kernel
theorem dX0_upTo_63 : decode cX0_upTo 63 = .ok (.ishr, 1) := by decide +kernel
theorem dX0_upTo_64 : decode cX0_upTo 64 = .ok (.iconst 1, 1) := by decide +kernel
theorem dX0_upTo_65 : decode cX0_upTo 65 = .ok (.iand, 1) := by decide +kernel
theorem dX0_upTo_66 : decode cX0_upTo 66 = .ok (.iconst 1, 1) := by decide +kernel
theorem dX0_upTo_67 : decode cX0_upTo 67 = .ok (.if_icmp .ne 36, 3) := by decide +kernel
theorem dX0_upTo_70 : decode cX0_upTo 70 = .ok (.aload_n 0, 1) := by decide +kernel
theorem dX0_upTo_71 : decode cX0_upTo 71 = .ok (.iload 4, 2) := by decide +kernel
theorem dX0_upTo_73 : decode cX0_upTo 73 = .ok (.aload_n 2, 1) := by decide +kernel
theorem dX0_upTo_74 : decode cX0_upTo 74 = .ok (.getfield 40, 3) := by decide +kernel
theorem dX0_upTo_77 : decode cX0_upTo 77 = .ok (.iload 5, 2) := by decide +kernel
theorem dX0_upTo_79 : decode cX0_upTo 79 = .ok (.iaload, 1) := by decide +kernel
theorem dX0_upTo_80 : decode cX0_upTo 80 = .ok (.aload_n 2, 1) := by decide +kernel
theorem dX0_upTo_81 : decode cX0_upTo 81 = .ok (.getfield 43, 3) := by decide +kernel
theorem dX0_upTo_84 : decode cX0_upTo 84 = .ok (.iload 5, 2) := by decide +kernel
theorem dX0_upTo_86 : decode cX0_upTo 86 = .ok (.iaload, 1) := by decide +kernel
theorem dX0_upTo_87 : decode cX0_upTo 87 = .ok (.invokevirtual 46, 3) := by decide +kernel
theorem dX0_upTo_90 : decode cX0_upTo 90 = .ok (.aload_n 0, 1) := by decide +kernel
theorem dX0_upTo_91 : decode cX0_upTo 91 = .ok (.iload 4, 2) := by decide +kernel
theorem dX0_upTo_93 : decode cX0_upTo 93 = .ok (.aload_n 2, 1) := by decide +kernel
theorem dX0_upTo_94 : decode cX0_upTo 94 = .ok (.getfield 43, 3) := by decide +kernel
theorem dX0_upTo_97 : decode cX0_upTo 97 = .ok (.iload 5, 2) := by decide +kernel
theorem dX0_upTo_99 : decode cX0_upTo 99 = .ok (.iaload, 1) := by decide +kernel
theorem dX0_upTo_100 : decode cX0_upTo 100 = .ok (.invokevirtual 65, 3) := by decide +kernel
theorem dX0_upTo_103 : decode cX0_upTo 103 = .ok (.iinc 4 1, 3) := by decide +kernel
theorem dX0_upTo_106 : decode cX0_upTo 106 = .ok (.goto (-99), 3) := by decide +kernel
theorem dX0_upTo_109 : decode cX0_upTo 109 = .ok (.return_, 1) := by decide +kernel
theorem dX0_begin_0 : decode cX0_begin 0 = .ok (.aload_n 0, 1) := by decide +kernel
theorem dX0_begin_1 : decode cX0_begin 1 = .ok (.ldc2_w 69, 3) := by decide +kernel
theorem dX0_begin_4 : decode cX0_begin 4 = .ok (.putfield 71, 3) := by decide +kernel
theorem dX0_begin_7 : decode cX0_begin 7 = .ok (.aload_n 0, 1) := by decide +kernel
theorem dX0_begin_8 : decode cX0_begin 8 = .ok (.lconst 0, 1) := by decide +kernel
theorem dX0_begin_9 : decode cX0_begin 9 = .ok (.putfield 53, 3) := by decide +kernel
theorem dX0_begin_12 : decode cX0_begin 12 = .ok (.aload_n 0, 1) := by decide +kernel
theorem dX0_begin_13 : decode cX0_begin 13 = .ok (.lconst 0, 1) := by decide +kernel
theorem dX0_begin_14 : decode cX0_begin 14 = .ok (.putfield 49, 3) := by decide +kernel
theorem dX0_begin_17 : decode cX0_begin 17 = .ok (.return_, 1) := by decide +kernel
theorem dX0_work_0 : decode cX0_work 0 = .ok (.aload_n 0, 1) := by decide +kernel
theorem dX0_work_1 : decode cX0_work 1 = .ok (.dup, 1) := by decide +kernel
theorem dX0_work_2 : decode cX0_work 2 = .ok (.getfield 49, 3) := by decide +kernel
theorem dX0_work_5 : decode cX0_work 5 = .ok (.aload_n 0, 1) := by decide +kernel
theorem dX0_work_6 : decode cX0_work 6 = .ok (.getfield 71, 3) := by decide +kernel
theorem dX0_work_9 : decode cX0_work 9 = .ok (.aload_n 0, 1) := by decide +kernel
theorem dX0_work_10 : decode cX0_work 10 = .ok (.getfield 53, 3) := by decide +kernel
theorem dX0_work_13 : decode cX0_work 13 = .ok (.ladd, 1) := by decide +kernel
theorem dX0_work_14 : decode cX0_work 14 = .ok (.iload_n 2, 1) := by decide +kernel
theorem dX0_work_15 : decode cX0_work 15 = .ok (.i2l, 1) := by decide +kernel
theorem dX0_work_16 : decode cX0_work 16 = .ok (.lmul, 1) := by decide +kernel
theorem dX0_work_17 : decode cX0_work 17 = .ok (.ladd, 1) := by decide +kernel
theorem dX0_work_18 : decode cX0_work 18 = .ok (.putfield 49, 3) := by decide +kernel
theorem dX0_work_21 : decode cX0_work 21 = .ok (.aload_n 0, 1) := by decide +kernel
theorem dX0_work_22 : decode cX0_work 22 = .ok (.getfield 15, 3) := by decide +kernel
theorem dX0_work_25 : decode cX0_work 25 = .ok (.iload_n 1, 1) := by decide +kernel
theorem dX0_work_26 : decode cX0_work 26 = .ok (.aload_n 0, 1) := by decide +kernel
theorem dX0_work_27 : decode cX0_work 27 = .ok (.getfield 71, 3) := by decide +kernel
theorem dX0_work_30 : decode cX0_work 30 = .ok (.ldc2_w 74, 3) := by decide +kernel
theorem dX0_work_33 : decode cX0_work 33 = .ok (.ldiv, 1) := by decide +kernel
theorem dX0_work_34 : decode cX0_work 34 = .ok (.iload_n 3, 1) := by decide +kernel
theorem dX0_work_35 : decode cX0_work 35 = .ok (.i2l, 1) := by decide +kernel
theorem dX0_work_36 : decode cX0_work 36 = .ok (.lmul, 1) := by decide +kernel
theorem dX0_work_37 : decode cX0_work 37 = .ok (.lastore, 1) := by decide +kernel
theorem dX0_work_38 : decode cX0_work 38 = .ok (.aload_n 0, 1) := by decide +kernel
theorem dX0_work_39 : decode cX0_work 39 = .ok (.dup, 1) := by decide +kernel
theorem dX0_work_40 : decode cX0_work 40 = .ok (.getfield 71, 3) := by decide +kernel
theorem dX0_work_43 : decode cX0_work 43 = .ok (.aload_n 0, 1) := by decide +kernel
theorem dX0_work_44 : decode cX0_work 44 = .ok (.getfield 15, 3) := by decide +kernel
theorem dX0_work_47 : decode cX0_work 47 = .ok (.iload_n 1, 1) := by decide +kernel
theorem dX0_work_48 : decode cX0_work 48 = .ok (.laload, 1) := by decide +kernel
theorem dX0_work_49 : decode cX0_work 49 = .ok (.lsub, 1) := by decide +kernel
theorem dX0_work_50 : decode cX0_work 50 = .ok (.putfield 71, 3) := by decide +kernel
theorem dX0_work_53 : decode cX0_work 53 = .ok (.aload_n 0, 1) := by decide +kernel
theorem dX0_work_54 : decode cX0_work 54 = .ok (.dup, 1) := by decide +kernel
theorem dX0_work_55 : decode cX0_work 55 = .ok (.getfield 53, 3) := by decide +kernel
theorem dX0_work_58 : decode cX0_work 58 = .ok (.aload_n 0, 1) := by decide +kernel
theorem dX0_work_59 : decode cX0_work 59 = .ok (.getfield 15, 3) := by decide +kernel
theorem dX0_work_62 : decode cX0_work 62 = .ok (.iload_n 1, 1) := by decide +kernel
theorem dX0_work_63 : decode cX0_work 63 = .ok (.laload, 1) := by decide +kernel
theorem dX0_work_64 : decode cX0_work 64 = .ok (.ladd, 1) := by decide +kernel
theorem dX0_work_65 : decode cX0_work 65 = .ok (.putfield 53, 3) := by decide +kernel
theorem dX0_work_68 : decode cX0_work 68 = .ok (.return_, 1) := by decide +kernel
theorem dX0_lookBehind_0 : decode cX0_lookBehind 0 = .ok (.aload_n 0, 1) := by decide +kernel
theorem dX0_lookBehind_1 : decode cX0_lookBehind 1 = .ok (.dup, 1) := by decide +kernel
theorem dX0_lookBehind_2 : decode cX0_lookBehind 2 = .ok (.getfield 49, 3) := by decide +kernel
theorem dX0_lookBehind_5 : decode cX0_lookBehind 5 = .ok (.aload_n 0, 1) := by decide +kernel
theorem dX0_lookBehind_6 : decode cX0_lookBehind 6 = .ok (.getfield 71, 3) := by decide +kernel
theorem dX0_lookBehind_9 : decode cX0_lookBehind 9 = .ok (.aload_n 0, 1) := by decide +kernel
theorem dX0_lookBehind_10 : decode cX0_lookBehind 10 = .ok (.getfield 53, 3) := by decide +kernel
theorem dX0_lookBehind_13 : decode cX0_lookBehind 13 = .ok (.ladd, 1) := by decide +kernel
theorem dX0_lookBehind_14 : decode cX0_lookBehind 14 = .ok (.iload_n 2, 1) := by decide +kernel
theorem dX0_lookBehind_15 : decode cX0_lookBehind 15 = .ok (.i2l, 1) := by decide +kernel
theorem dX0_lookBehind_16 : decode cX0_lookBehind 16 = .ok (.lmul, 1) := by decide +kernel
theorem dX0_lookBehind_17 : decode cX0_lookBehind 17 = .ok (.ladd, 1) := by decide +kernel
theorem dX0_lookBehind_18 : decode cX0_lookBehind 18 = .ok (.putfield 49, 3) := by decide +kernel
theorem dX0_lookBehind_21 : decode cX0_lookBehind 21 = .ok (.aload_n 0, 1) := by decide +kernel
theorem dX0_lookBehind_22 : decode cX0_lookBehind 22 = .ok (.getfield 9, 3) := by decide +kernel
theorem dX0_lookBehind_25 : decode cX0_lookBehind 25 = .ok (.iload_n 1, 1) := by decide +kernel
theorem dX0_lookBehind_26 : decode cX0_lookBehind 26 = .ok (.aload_n 0, 1) := by decide +kernel
theorem dX0_lookBehind_27 : decode cX0_lookBehind 27 = .ok (.getfield 53, 3) := by decide +kernel
theorem dX0_lookBehind_30 : decode cX0_lookBehind 30 = .ok (.ldc2_w 74, 3) := by decide +kernel
theorem dX0_lookBehind_33 : decode cX0_lookBehind 33 = .ok (.ldiv, 1) := by decide +kernel
theorem dX0_lookBehind_34 : decode cX0_lookBehind 34 = .ok (.bipush 10, 2) := by decide +kernel
theorem dX0_lookBehind_36 : decode cX0_lookBehind 36 = .ok (.iload_n 3, 1) := by decide +kernel
theorem dX0_lookBehind_37 : decode cX0_lookBehind 37 = .ok (.isub, 1) := by decide +kernel
theorem dX0_lookBehind_38 : decode cX0_lookBehind 38 = .ok (.i2l, 1) := by decide +kernel
theorem dX0_lookBehind_39 : decode cX0_lookBehind 39 = .ok (.lmul, 1) := by decide +kernel
theorem dX0_lookBehind_40 : decode cX0_lookBehind 40 = .ok (.lastore, 1) := by decide +kernel
theorem dX0_lookBehind_41 : decode cX0_lookBehind 41 = .ok (.aload_n 0, 1) := by decide +kernel
theorem dX0_lookBehind_42 : decode cX0_lookBehind 42 = .ok (.dup, 1) := by decide +kernel
theorem dX0_lookBehind_43 : decode cX0_lookBehind 43 = .ok (.getfield 53, 3) := by decide +kernel
theorem dX0_lookBehind_46 : decode cX0_lookBehind 46 = .ok (.aload_n 0, 1) := by decide +kernel
theorem dX0_lookBehind_47 : decode cX0_lookBehind 47 = .ok (.getfield 9, 3) := by decide +kernel
theorem dX0_lookBehind_50 : decode cX0_lookBehind 50 = .ok (.iload_n 1, 1) := by decide +kernel
theorem dX0_lookBehind_51 : decode cX0_lookBehind 51 = .ok (.laload, 1) := by decide +kernel
theorem dX0_lookBehind_52 : decode cX0_lookBehind 52 = .ok (.lsub, 1) := by decide +kernel
theorem dX0_lookBehind_53 : decode cX0_lookBehind 53 = .ok (.putfield 53, 3) := by decide +kernel
theorem dX0_lookBehind_56 : decode cX0_lookBehind 56 = .ok (.return_, 1) := by decide +kernel
theorem dX0_thinShares_0 : decode cX0_thinShares 0 = .ok (.iconst 0, 1) := by decide +kernel
theorem dX0_thinShares_1 : decode cX0_thinShares 1 = .ok (.istore_n 3, 1) := by decide +kernel
theorem dX0_thinShares_2 : decode cX0_thinShares 2 = .ok (.iload_n 3, 1) := by decide +kernel
theorem dX0_thinShares_3 : decode cX0_thinShares 3 = .ok (.iload_n 1, 1) := by decide +kernel
theorem dX0_thinShares_4 : decode cX0_thinShares 4 = .ok (.if_icmp .gt 28, 3) := by decide +kernel
theorem dX0_thinShares_7 : decode cX0_thinShares 7 = .ok (.aload_n 0, 1) := by decide +kernel
theorem dX0_thinShares_8 : decode cX0_thinShares 8 = .ok (.getfield 15, 3) := by decide +kernel
theorem dX0_thinShares_11 : decode cX0_thinShares 11 = .ok (.iload_n 3, 1) := by decide +kernel
theorem dX0_thinShares_12 : decode cX0_thinShares 12 = .ok (.aload_n 0, 1) := by decide +kernel
theorem dX0_thinShares_13 : decode cX0_thinShares 13 = .ok (.getfield 15, 3) := by decide +kernel
theorem dX0_thinShares_16 : decode cX0_thinShares 16 = .ok (.iload_n 3, 1) := by decide +kernel
theorem dX0_thinShares_17 : decode cX0_thinShares 17 = .ok (.laload, 1) := by decide +kernel
theorem dX0_thinShares_18 : decode cX0_thinShares 18 = .ok (.ldc2_w 74, 3) := by decide +kernel
theorem dX0_thinShares_21 : decode cX0_thinShares 21 = .ok (.ldiv, 1) := by decide +kernel
theorem dX0_thinShares_22 : decode cX0_thinShares 22 = .ok (.iload_n 2, 1) := by decide +kernel
theorem dX0_thinShares_23 : decode cX0_thinShares 23 = .ok (.i2l, 1) := by decide +kernel
theorem dX0_thinShares_24 : decode cX0_thinShares 24 = .ok (.lmul, 1) := by decide +kernel
theorem dX0_thinShares_25 : decode cX0_thinShares 25 = .ok (.lastore, 1) := by decide +kernel
theorem dX0_thinShares_26 : decode cX0_thinShares 26 = .ok (.iinc 3 1, 3) := by decide +kernel
theorem dX0_thinShares_29 : decode cX0_thinShares 29 = .ok (.goto (-27), 3) := by decide +kernel
theorem dX0_thinShares_32 : decode cX0_thinShares 32 = .ok (.return_, 1) := by decide +kernel
theorem dX1_init_0 : decode cX1_init 0 = .ok (.aload_n 0, 1) := by decide +kernel
theorem dX1_init_1 : decode cX1_init 1 = .ok (.invokespecial 3, 3) := by decide +kernel
theorem dX1_init_4 : decode cX1_init 4 = .ok (.aload_n 0, 1) := by decide +kernel
theorem dX1_init_5 : decode cX1_init 5 = .ok (.iconst 5, 1) := by decide +kernel
theorem dX1_init_6 : decode cX1_init 6 = .ok (.newarray .int, 2) := by decide +kernel
theorem dX1_init_8 : decode cX1_init 8 = .ok (.putfield 9, 3) := by decide +kernel
theorem dX1_init_11 : decode cX1_init 11 = .ok (.aload_n 0, 1) := by decide +kernel
theorem dX1_init_12 : decode cX1_init 12 = .ok (.iconst 5, 1) := by decide +kernel
theorem dX1_init_13 : decode cX1_init 13 = .ok (.newarray .int, 2) := by decide +kernel
theorem dX1_init_15 : decode cX1_init 15 = .ok (.putfield 15, 3) := by decide +kernel
theorem dX1_init_18 : decode cX1_init 18 = .ok (.aload_n 0, 1) := by decide +kernel
theorem dX1_init_19 : decode cX1_init 19 = .ok (.iconst 5, 1) := by decide +kernel
theorem dX1_init_20 : decode cX1_init 20 = .ok (.newarray .int, 2) := by decide +kernel
theorem dX1_init_22 : decode cX1_init 22 = .ok (.putfield 18, 3) := by decide +kernel
theorem dX1_init_25 : decode cX1_init 25 = .ok (.return_, 1) := by decide +kernel
theorem dX1_open_0 : decode cX1_open 0 = .ok (.iconst 0, 1) := by decide +kernel
theorem dX1_open_1 : decode cX1_open 1 = .ok (.istore_n 2, 1) := by decide +kernel
theorem dX1_open_2 : decode cX1_open 2 = .ok (.iload_n 2, 1) := by decide +kernel
theorem dX1_open_3 : decode cX1_open 3 = .ok (.iconst 5, 1) := by decide +kernel
theorem dX1_open_4 : decode cX1_open 4 = .ok (.if_icmp .ge 35, 3) := by decide +kernel
theorem dX1_open_7 : decode cX1_open 7 = .ok (.aload_n 0, 1) := by decide +kernel
theorem dX1_open_8 : decode cX1_open 8 = .ok (.getfield 9, 3) := by decide +kernel
theorem dX1_open_11 : decode cX1_open 11 = .ok (.iload_n 2, 1) := by decide +kernel
theorem dX1_open_12 : decode cX1_open 12 = .ok (.iload_n 2, 1) := by decide +kernel
theorem dX1_open_13 : decode cX1_open 13 = .ok (.iastore, 1) := by decide +kernel
theorem dX1_open_14 : decode cX1_open 14 = .ok (.aload_n 0, 1) := by decide +kernel
theorem dX1_open_15 : decode cX1_open 15 = .ok (.getfield 15, 3) := by decide +kernel
theorem dX1_open_18 : decode cX1_open 18 = .ok (.iload_n 2, 1) := by decide +kernel
theorem dX1_open_19 : decode cX1_open 19 = .ok (.aload_n 1, 1) := by decide +kernel
theorem dX1_open_20 : decode cX1_open 20 = .ok (.getfield 21, 3) := by decide +kernel
theorem dX1_open_23 : decode cX1_open 23 = .ok (.iload_n 2, 1) := by decide +kernel
theorem dX1_open_24 : decode cX1_open 24 = .ok (.iaload, 1) := by decide +kernel
theorem dX1_open_25 : decode cX1_open 25 = .ok (.iastore, 1) := by decide +kernel
theorem dX1_open_26 : decode cX1_open 26 = .ok (.aload_n 0, 1) := by decide +kernel
theorem dX1_open_27 : decode cX1_open 27 = .ok (.getfield 18, 3) := by decide +kernel
theorem dX1_open_30 : decode cX1_open 30 = .ok (.iload_n 2, 1) := by decide +kernel
theorem dX1_open_31 : decode cX1_open 31 = .ok (.iconst 0, 1) := by decide +kernel
theorem dX1_open_32 : decode cX1_open 32 = .ok (.iastore, 1) := by decide +kernel
theorem dX1_open_33 : decode cX1_open 33 = .ok (.iinc 2 1, 3) := by decide +kernel
theorem dX1_open_36 : decode cX1_open 36 = .ok (.goto (-34), 3) := by decide +kernel
theorem dX1_open_39 : decode cX1_open 39 = .ok (.aload_n 0, 1) := by decide +kernel
theorem dX1_open_40 : decode cX1_open 40 = .ok (.iconst 0, 1) := by decide +kernel
theorem dX1_open_41 : decode cX1_open 41 = .ok (.putfield 24, 3) := by decide +kernel
theorem dX1_open_44 : decode cX1_open 44 = .ok (.aload_n 0, 1) := by decide +kernel
theorem dX1_open_45 : decode cX1_open 45 = .ok (.iconst 0, 1) := by decide +kernel
theorem dX1_open_46 : decode cX1_open 46 = .ok (.putfield 28, 3) := by decide +kernel
theorem dX1_open_49 : decode cX1_open 49 = .ok (.aload_n 0, 1) := by decide +kernel
theorem dX1_open_50 : decode cX1_open 50 = .ok (.iconst 0, 1) := by decide +kernel
theorem dX1_open_51 : decode cX1_open 51 = .ok (.putfield 31, 3) := by decide +kernel
theorem dX1_open_54 : decode cX1_open 54 = .ok (.aload_n 0, 1) := by decide +kernel
theorem dX1_open_55 : decode cX1_open 55 = .ok (.iconst 0, 1) := by decide +kernel
theorem dX1_open_56 : decode cX1_open 56 = .ok (.putfield 34, 3) := by decide +kernel
theorem dX1_open_59 : decode cX1_open 59 = .ok (.aload_n 0, 1) := by decide +kernel
theorem dX1_open_60 : decode cX1_open 60 = .ok (.iconst 0, 1) := by decide +kernel
theorem dX1_open_61 : decode cX1_open 61 = .ok (.putfield 37, 3) := by decide +kernel
theorem dX1_open_64 : decode cX1_open 64 = .ok (.return_, 1) := by decide +kernel
theorem dX1_become_0 : decode cX1_become 0 = .ok (.aload_n 1, 1) := by decide +kernel
theorem dX1_become_1 : decode cX1_become 1 = .ok (.getfield 9, 3) := by decide +kernel
theorem dX1_become_4 : decode cX1_become 4 = .ok (.iconst 0, 1) := by decide +kernel
theorem dX1_become_5 : decode cX1_become 5 = .ok (.aload_n 0, 1) := by decide +kernel
theorem dX1_become_6 : decode cX1_become 6 = .ok (.getfield 9, 3) := by decide +kernel
theorem dX1_become_9 : decode cX1_become 9 = .ok (.iconst 0, 1) := by decide +kernel
theorem dX1_become_10 : decode cX1_become 10 = .ok (.iconst 5, 1) := by decide +kernel
theorem dX1_become_11 : decode cX1_become 11 = .ok (.invokestatic 40, 3) := by decide +kernel
theorem dX1_become_14 : decode cX1_become 14 = .ok (.aload_n 1, 1) := by decide +kernel
theorem dX1_become_15 : decode cX1_become 15 = .ok (.getfield 15, 3) := by decide +kernel
theorem dX1_become_18 : decode cX1_become 18 = .ok (.iconst 0, 1) := by decide +kernel
theorem dX1_become_19 : decode cX1_become 19 = .ok (.aload_n 0, 1) := by decide +kernel
theorem dX1_become_20 : decode cX1_become 20 = .ok (.getfield 15, 3) := by decide +kernel
theorem dX1_become_23 : decode cX1_become 23 = .ok (.iconst 0, 1) := by decide +kernel
theorem dX1_become_24 : decode cX1_become 24 = .ok (.iconst 5, 1) := by decide +kernel
theorem dX1_become_25 : decode cX1_become 25 = .ok (.invokestatic 40, 3) := by decide +kernel
theorem dX1_become_28 : decode cX1_become 28 = .ok (.aload_n 1, 1) := by decide +kernel
theorem dX1_become_29 : decode cX1_become 29 = .ok (.getfield 18, 3) := by decide +kernel
theorem dX1_become_32 : decode cX1_become 32 = .ok (.iconst 0, 1) := by decide +kernel
theorem dX1_become_33 : decode cX1_become 33 = .ok (.aload_n 0, 1) := by decide +kernel
theorem dX1_become_34 : decode cX1_become 34 = .ok (.getfield 18, 3) := by decide +kernel
theorem dX1_become_37 : decode cX1_become 37 = .ok (.iconst 0, 1) := by decide +kernel
theorem dX1_become_38 : decode cX1_become 38 = .ok (.iconst 5, 1) := by decide +kernel
theorem dX1_become_39 : decode cX1_become 39 = .ok (.invokestatic 40, 3) := by decide +kernel
theorem dX1_become_42 : decode cX1_become 42 = .ok (.aload_n 0, 1) := by decide +kernel
theorem dX1_become_43 : decode cX1_become 43 = .ok (.aload_n 1, 1) := by decide +kernel
theorem dX1_become_44 : decode cX1_become 44 = .ok (.getfield 24, 3) := by decide +kernel
theorem dX1_become_47 : decode cX1_become 47 = .ok (.putfield 24, 3) := by decide +kernel
theorem dX1_become_50 : decode cX1_become 50 = .ok (.aload_n 0, 1) := by decide +kernel
theorem dX1_become_51 : decode cX1_become 51 = .ok (.aload_n 1, 1) := by decide +kernel
theorem dX1_become_52 : decode cX1_become 52 = .ok (.getfield 28, 3) := by decide +kernel
theorem dX1_become_55 : decode cX1_become 55 = .ok (.putfield 28, 3) := by decide +kernel
theorem dX1_become_58 : decode cX1_become 58 = .ok (.aload_n 0, 1) := by decide +kernel
theorem dX1_become_59 : decode cX1_become 59 = .ok (.aload_n 1, 1) := by decide +kernel
theorem dX1_become_60 : decode cX1_become 60 = .ok (.getfield 31, 3) := by decide +kernel
theorem dX1_become_63 : decode cX1_become 63 = .ok (.putfield 31, 3) := by decide +kernel
theorem dX1_become_66 : decode cX1_become 66 = .ok (.aload_n 0, 1) := by decide +kernel
theorem dX1_become_67 : decode cX1_become 67 = .ok (.aload_n 1, 1) := by decide +kernel
theorem dX1_become_68 : decode cX1_become 68 = .ok (.getfield 34, 3) := by decide +kernel
theorem dX1_become_71 : decode cX1_become 71 = .ok (.putfield 34, 3) := by decide +kernel
theorem dX1_become_74 : decode cX1_become 74 = .ok (.aload_n 0, 1) := by decide +kernel
theorem dX1_become_75 : decode cX1_become 75 = .ok (.aload_n 1, 1) := by decide +kernel
theorem dX1_become_76 : decode cX1_become 76 = .ok (.getfield 37, 3) := by decide +kernel
theorem dX1_become_79 : decode cX1_become 79 = .ok (.putfield 37, 3) := by decide +kernel
theorem dX1_become_82 : decode cX1_become 82 = .ok (.return_, 1) := by decide +kernel
theorem dX1_placeOf_0 : decode cX1_placeOf 0 = .ok (.iconst 0, 1) := by decide +kernel
theorem dX1_placeOf_1 : decode cX1_placeOf 1 = .ok (.istore_n 3, 1) := by decide +kernel
theorem dX1_placeOf_2 : decode cX1_placeOf 2 = .ok (.iload_n 3, 1) := by decide +kernel
theorem dX1_placeOf_3 : decode cX1_placeOf 3 = .ok (.iload_n 2, 1) := by decide +kernel
theorem dX1_placeOf_4 : decode cX1_placeOf 4 = .ok (.if_icmp .ge 21, 3) := by decide +kernel
theorem dX1_placeOf_7 : decode cX1_placeOf 7 = .ok (.aload_n 0, 1) := by decide +kernel
theorem dX1_placeOf_8 : decode cX1_placeOf 8 = .ok (.getfield 9, 3) := by decide +kernel
theorem dX1_placeOf_11 : decode cX1_placeOf 11 = .ok (.iload_n 3, 1) := by decide +kernel
theorem dX1_placeOf_12 : decode cX1_placeOf 12 = .ok (.iaload, 1) := by decide +kernel
theorem dX1_placeOf_13 : decode cX1_placeOf 13 = .ok (.iload_n 1, 1) := by decide +kernel
theorem dX1_placeOf_14 : decode cX1_placeOf 14 = .ok (.if_icmp .ne 5, 3) := by decide +kernel
theorem dX1_placeOf_17 : decode cX1_placeOf 17 = .ok (.iload_n 3, 1) := by decide +kernel
theorem dX1_placeOf_18 : decode cX1_placeOf 18 = .ok (.ireturn, 1) := by decide +kernel
theorem dX1_placeOf_19 : decode cX1_placeOf 19 = .ok (.iinc 3 1, 3) := by decide +kernel
theorem dX1_placeOf_22 : decode cX1_placeOf 22 = .ok (.goto (-20), 3) := by decide +kernel
theorem dX1_placeOf_25 : decode cX1_placeOf 25 = .ok (.iconst (-1), 1) := by decide +kernel
theorem dX1_placeOf_26 : decode cX1_placeOf 26 = .ok (.ireturn, 1) := by decide +kernel
theorem dX1_enter_0 : decode cX1_enter 0 = .ok (.aload_n 0, 1) := by decide +kernel
theorem dX1_enter_1 : decode cX1_enter 1 = .ok (.dup, 1) := by decide +kernel
theorem dX1_enter_2 : decode cX1_enter 2 = .ok (.getfield 28, 3) := by decide +kernel
theorem dX1_enter_5 : decode cX1_enter 5 = .ok (.iconst 1, 1) := by decide +kernel
theorem dX1_enter_6 : decode cX1_enter 6 = .ok (.iadd, 1) := by decide +kernel
theorem dX1_enter_7 : decode cX1_enter 7 = .ok (.putfield 28, 3) := by decide +kernel
theorem dX1_enter_10 : decode cX1_enter 10 = .ok (.aload_n 0, 1) := by decide +kernel
theorem dX1_enter_11 : decode cX1_enter 11 = .ok (.dup, 1) := by decide +kernel
theorem dX1_enter_12 : decode cX1_enter 12 = .ok (.getfield 37, 3) := by decide +kernel
theorem dX1_enter_15 : decode cX1_enter 15 = .ok (.aload_n 1, 1) := by decide +kernel
theorem dX1_enter_16 : decode cX1_enter 16 = .ok (.getfield 46, 3) := by decide +kernel
theorem dX1_enter_19 : decode cX1_enter 19 = .ok (.iadd, 1) := by decide +kernel
theorem dX1_enter_20 : decode cX1_enter 20 = .ok (.putfield 37, 3) := by decide +kernel
theorem dX1_enter_23 : decode cX1_enter 23 = .ok (.aload_n 1, 1) := by decide +kernel
theorem dX1_enter_24 : decode cX1_enter 24 = .ok (.invokevirtual 51, 3) := by decide +kernel
theorem dX1_enter_27 : decode cX1_enter 27 = .ok (.iconst 2, 1) := by decide +kernel
theorem dX1_enter_28 : decode cX1_enter 28 = .ok (.if_icmp .ne 17, 3) := by decide +kernel
theorem dX1_enter_31 : decode cX1_enter 31 = .ok (.aload_n 0, 1) := by decide +kernel
theorem dX1_enter_32 : decode cX1_enter 32 = .ok (.getfield 18, 3) := by decide +kernel
theorem dX1_enter_35 : decode cX1_enter 35 = .ok (.aload_n 1, 1) := by decide +kernel
theorem dX1_enter_36 : decode cX1_enter 36 = .ok (.getfield 55, 3) := by decide +kernel
theorem dX1_enter_39 : decode cX1_enter 39 = .ok (.dup2, 1) := by decide +kernel
theorem dX1_enter_40 : decode cX1_enter 40 = .ok (.iaload, 1) := by decide +kernel
theorem dX1_enter_41 : decode cX1_enter 41 = .ok (.iconst 1, 1) := by decide +kernel
theorem dX1_enter_42 : decode cX1_enter 42 = .ok (.iadd, 1) := by decide +kernel
theorem dX1_enter_43 : decode cX1_enter 43 = .ok (.iastore, 1) := by decide +kernel
theorem dX1_enter_44 : decode cX1_enter 44 = .ok (.return_, 1) := by decide +kernel
theorem dX1_enter_45 : decode cX1_enter 45 = .ok (.aload_n 0, 1) := by decide +kernel
theorem dX1_enter_46 : decode cX1_enter 46 = .ok (.dup, 1) := by decide +kernel
theorem dX1_enter_47 : decode cX1_enter 47 = .ok (.getfield 31, 3) := by decide +kernel
theorem dX1_enter_50 : decode cX1_enter 50 = .ok (.iconst 1, 1) := by decide +kernel
theorem dX1_enter_51 : decode cX1_enter 51 = .ok (.iadd, 1) := by decide +kernel
theorem dX1_enter_52 : decode cX1_enter 52 = .ok (.putfield 31, 3) := by decide +kernel
theorem dX1_enter_55 : decode cX1_enter 55 = .ok (.aload_n 1, 1) := by decide +kernel
theorem dX1_enter_56 : decode cX1_enter 56 = .ok (.getfield 58, 3) := by decide +kernel
theorem dX1_enter_59 : decode cX1_enter 59 = .ok (.ifCond .eq 23, 3) := by decide +kernel
theorem dX1_enter_62 : decode cX1_enter 62 = .ok (.aload_n 0, 1) := by decide +kernel
theorem dX1_enter_63 : decode cX1_enter 63 = .ok (.dup, 1) := by decide +kernel
theorem dX1_enter_64 : decode cX1_enter 64 = .ok (.getfield 34, 3) := by decide +kernel
theorem dX1_enter_67 : decode cX1_enter 67 = .ok (.iconst 1, 1) := by decide +kernel
theorem dX1_enter_68 : decode cX1_enter 68 = .ok (.iadd, 1) := by decide +kernel
theorem dX1_enter_69 : decode cX1_enter 69 = .ok (.putfield 34, 3) := by decide +kernel
theorem dX1_enter_72 : decode cX1_enter 72 = .ok (.aload_n 0, 1) := by decide +kernel
theorem dX1_enter_73 : decode cX1_enter 73 = .ok (.dup, 1) := by decide +kernel
theorem dX1_enter_74 : decode cX1_enter 74 = .ok (.getfield 37, 3) := by decide +kernel
theorem dX1_enter_77 : decode cX1_enter 77 = .ok (.iload_n 2, 1) := by decide +kernel
theorem dX1_enter_78 : decode cX1_enter 78 = .ok (.iadd, 1) := by decide +kernel
theorem dX1_enter_79 : decode cX1_enter 79 = .ok (.putfield 37, 3) := by decide +kernel
theorem dX1_enter_82 : decode cX1_enter 82 = .ok (.return_, 1) := by decide +kernel
theorem dX2_init_0 : decode cX2_init 0 = .ok (.aload_n 0, 1) := by decide +kernel
theorem dX2_init_1 : decode cX2_init 1 = .ok (.invokespecial 3, 3) := by decide +kernel
theorem dX2_init_4 : decode cX2_init 4 = .ok (.aload_n 0, 1) := by decide +kernel
theorem dX2_init_5 : decode cX2_init 5 = .ok (.iconst (-1), 1) := by decide +kernel
theorem dX2_init_6 : decode cX2_init 6 = .ok (.putfield 9, 3) := by decide +kernel
theorem dX2_init_9 : decode cX2_init 9 = .ok (.return_, 1) := by decide +kernel
theorem dX2_go_0 : decode cX2_go 0 = .ok (.aload_n 0, 1) := by decide +kernel
theorem dX2_go_1 : decode cX2_go 1 = .ok (.iconst 0, 1) := by decide +kernel
theorem dX2_go_2 : decode cX2_go 2 = .ok (.putfield 15, 3) := by decide +kernel
theorem dX2_go_5 : decode cX2_go 5 = .ok (.aload_n 0, 1) := by decide +kernel
theorem dX2_go_6 : decode cX2_go 6 = .ok (.iconst 0, 1) := by decide +kernel
theorem dX2_go_7 : decode cX2_go 7 = .ok (.putfield 18, 3) := by decide +kernel
theorem dX2_go_10 : decode cX2_go 10 = .ok (.aload_n 0, 1) := by decide +kernel
theorem dX2_go_11 : decode cX2_go 11 = .ok (.iconst (-1), 1) := by decide +kernel
theorem dX2_go_12 : decode cX2_go 12 = .ok (.putfield 9, 3) := by decide +kernel
theorem dX2_go_15 : decode cX2_go 15 = .ok (.iconst 0, 1) := by decide +kernel
theorem dX2_go_16 : decode cX2_go 16 = .ok (.istore 5, 2) := by decide +kernel
theorem dX2_go_18 : decode cX2_go 18 = .ok (.iload 5, 2) := by decide +kernel
theorem dX2_go_20 : decode cX2_go 20 = .ok (.aload_n 1, 1) := by decide +kernel
theorem dX2_go_21 : decode cX2_go 21 = .ok (.getfield 22, 3) := by decide +kernel
theorem dX2_go_24 : decode cX2_go 24 = .ok (.if_icmp .ge 133, 3) := by decide +kernel
theorem dX2_go_27 : decode cX2_go 27 = .ok (.aload_n 0, 1) := by decide +kernel
theorem dX2_go_28 : decode cX2_go 28 = .ok (.getfield 9, 3) := by decide +kernel
theorem dX2_go_31 : decode cX2_go 31 = .ok (.iconst (-1), 1) := by decide +kernel
theorem dX2_go_32 : decode cX2_go 32 = .ok (.if_icmp .ne 125, 3) := by decide +kernel
theorem dX2_go_35 : decode cX2_go 35 = .ok (.aload_n 2, 1) := by decide +kernel
theorem dX2_go_36 : decode cX2_go 36 = .ok (.getfield 27, 3) := by decide +kernel
theorem dX2_go_39 : decode cX2_go 39 = .ok (.iload 5, 2) := by decide +kernel
theorem dX2_go_41 : decode cX2_go 41 = .ok (.iaload, 1) := by decide +kernel
theorem dX2_go_42 : decode cX2_go 42 = .ok (.istore 6, 2) := by decide +kernel
theorem dX2_go_44 : decode cX2_go 44 = .ok (.aload_n 0, 1) := by decide +kernel
theorem dX2_go_45 : decode cX2_go 45 = .ok (.dup, 1) := by decide +kernel
theorem dX2_go_46 : decode cX2_go 46 = .ok (.getfield 15, 3) := by decide +kernel
theorem dX2_go_49 : decode cX2_go 49 = .ok (.aload_n 1, 1) := by decide +kernel
theorem dX2_go_50 : decode cX2_go 50 = .ok (.getfield 33, 3) := by decide +kernel
theorem dX2_go_53 : decode cX2_go 53 = .ok (.iload 6, 2) := by decide +kernel
theorem dX2_go_55 : decode cX2_go 55 = .ok (.iaload, 1) := by decide +kernel
theorem dX2_go_56 : decode cX2_go 56 = .ok (.iadd, 1) := by decide +kernel
theorem dX2_go_57 : decode cX2_go 57 = .ok (.putfield 15, 3) := by decide +kernel
theorem dX2_go_60 : decode cX2_go 60 = .ok (.aload_n 0, 1) := by decide +kernel
theorem dX2_go_61 : decode cX2_go 61 = .ok (.aload_n 0, 1) := by decide +kernel
theorem dX2_go_62 : decode cX2_go 62 = .ok (.getfield 18, 3) := by decide +kernel
theorem dX2_go_65 : decode cX2_go 65 = .ok (.ifCond .ne 20, 3) := by decide +kernel
theorem dX2_go_68 : decode cX2_go 68 = .ok (.iload 4, 2) := by decide +kernel
theorem dX2_go_70 : decode cX2_go 70 = .ok (.iload 6, 2) := by decide +kernel
theorem dX2_go_72 : decode cX2_go 72 = .ok (.invokestatic 35, 3) := by decide +kernel
theorem dX2_go_75 : decode cX2_go 75 = .ok (.aload_n 2, 1) := by decide +kernel
theorem dX2_go_76 : decode cX2_go 76 = .ok (.getfield 39, 3) := by decide +kernel
theorem dX2_go_79 : decode cX2_go 79 = .ok (.iload 6, 2) := by decide +kernel
theorem dX2_go_81 : decode cX2_go 81 = .ok (.iaload, 1) := by decide +kernel
theorem dX2_go_82 : decode cX2_go 82 = .ok (.if_icmp .ge 7, 3) := by decide +kernel
theorem dX2_go_85 : decode cX2_go 85 = .ok (.iconst 1, 1) := by decide +kernel
theorem dX2_go_86 : decode cX2_go 86 = .ok (.goto 4, 3) := by decide +kernel
theorem dX2_go_89 : decode cX2_go 89 = .ok (.iconst 0, 1) := by decide +kernel
theorem dX2_go_90 : decode cX2_go 90 = .ok (.putfield 18, 3) := by decide +kernel
theorem dX2_go_93 : decode cX2_go 93 = .ok (.iload_n 3, 1) := by decide +kernel
theorem dX2_go_94 : decode cX2_go 94 = .ok (.iload 6, 2) := by decide +kernel
theorem dX2_go_96 : decode cX2_go 96 = .ok (.ishr, 1) := by decide +kernel
theorem dX2_go_97 : decode cX2_go 97 = .ok (.iconst 1, 1) := by decide +kernel
theorem dX2_go_98 : decode cX2_go 98 = .ok (.iand, 1) := by decide +kernel
theorem dX2_go_99 : decode cX2_go 99 = .ok (.iconst 1, 1) := by decide +kernel
theorem dX2_go_100 : decode cX2_go 100 = .ok (.if_icmp .ne 51, 3) := by decide +kernel
theorem dX2_go_103 : decode cX2_go 103 = .ok (.aload_n 0, 1) := by decide +kernel
theorem dX2_go_104 : decode cX2_go 104 = .ok (.dup, 1) := by decide +kernel
theorem dX2_go_105 : decode cX2_go 105 = .ok (.getfield 15, 3) := by decide +kernel
theorem dX2_go_108 : decode cX2_go 108 = .ok (.aload_n 1, 1) := by decide +kernel
theorem dX2_go_109 : decode cX2_go 109 = .ok (.getfield 42, 3) := by decide +kernel
theorem dX2_go_112 : decode cX2_go 112 = .ok (.iload 6, 2) := by decide +kernel
theorem dX2_go_114 : decode cX2_go 114 = .ok (.iaload, 1) := by decide +kernel
theorem dX2_go_115 : decode cX2_go 115 = .ok (.iadd, 1) := by decide +kernel
theorem dX2_go_116 : decode cX2_go 116 = .ok (.putfield 15, 3) := by decide +kernel
theorem dX2_go_119 : decode cX2_go 119 = .ok (.aload_n 0, 1) := by decide +kernel
theorem dX2_go_120 : decode cX2_go 120 = .ok (.getfield 18, 3) := by decide +kernel
theorem dX2_go_123 : decode cX2_go 123 = .ok (.ifCond .eq 28, 3) := by decide +kernel
theorem dX2_go_126 : decode cX2_go 126 = .ok (.iload 4, 2) := by decide +kernel
theorem dX2_go_128 : decode cX2_go 128 = .ok (.iload 6, 2) := by decide +kernel
theorem dX2_go_130 : decode cX2_go 130 = .ok (.iconst 5, 1) := by decide +kernel
theorem dX2_go_131 : decode cX2_go 131 = .ok (.iadd, 1) := by decide +kernel
theorem dX2_go_132 : decode cX2_go 132 = .ok (.invokestatic 35, 3) := by decide +kernel
theorem dX2_go_135 : decode cX2_go 135 = .ok (.aload_n 1, 1) := by decide +kernel
theorem dX2_go_136 : decode cX2_go 136 = .ok (.getfield 45, 3) := by decide +kernel
theorem dX2_go_139 : decode cX2_go 139 = .ok (.iload 6, 2) := by decide +kernel
theorem dX2_go_141 : decode cX2_go 141 = .ok (.iaload, 1) := by decide +kernel
theorem dX2_go_142 : decode cX2_go 142 = .ok (.if_icmp .lt 9, 3) := by decide +kernel
theorem dX2_go_145 : decode cX2_go 145 = .ok (.aload_n 0, 1) := by decide +kernel
theorem dX2_go_146 : decode cX2_go 146 = .ok (.iload 6, 2) := by decide +kernel
theorem dX2_go_148 : decode cX2_go 148 = .ok (.putfield 9, 3) := by decide +kernel
theorem dX2_go_151 : decode cX2_go 151 = .ok (.iinc 5 1, 3) := by decide +kernel
theorem dX2_go_154 : decode cX2_go 154 = .ok (.goto (-136), 3) := by decide +kernel
theorem dX2_go_157 : decode cX2_go 157 = .ok (.return_, 1) := by decide +kernel
theorem dX2_fate_0 : decode cX2_fate 0 = .ok (.aload_n 0, 1) := by decide +kernel
theorem dX2_fate_1 : decode cX2_fate 1 = .ok (.getfield 9, 3) := by decide +kernel
theorem dX2_fate_4 : decode cX2_fate 4 = .ok (.iconst (-1), 1) := by decide +kernel
theorem dX2_fate_5 : decode cX2_fate 5 = .ok (.if_icmp .eq 5, 3) := by decide +kernel
theorem dX2_fate_8 : decode cX2_fate 8 = .ok (.iconst 2, 1) := by decide +kernel
theorem dX2_fate_9 : decode cX2_fate 9 = .ok (.ireturn, 1) := by decide +kernel
theorem dX2_fate_10 : decode cX2_fate 10 = .ok (.aload_n 0, 1) := by decide +kernel
theorem dX2_fate_11 : decode cX2_fate 11 = .ok (.getfield 18, 3) := by decide +kernel
theorem dX2_fate_14 : decode cX2_fate 14 = .ok (.ifCond .eq 7, 3) := by decide +kernel
theorem dX2_fate_17 : decode cX2_fate 17 = .ok (.iconst 1, 1) := by decide +kernel
theorem dX2_fate_18 : decode cX2_fate 18 = .ok (.goto 4, 3) := by decide +kernel
theorem dX2_fate_21 : decode cX2_fate 21 = .ok (.iconst 0, 1) := by decide +kernel
theorem dX2_fate_22 : decode cX2_fate 22 = .ok (.ireturn, 1) := by decide +kernel
theorem dX2_draw_0 : decode cX2_draw 0 = .ok (.ldc2_w 48, 3) := by decide +kernel
theorem dX2_draw_3 : decode cX2_draw 3 = .ok (.iload_n 0, 1) := by decide +kernel
theorem dX2_draw_4 : decode cX2_draw 4 = .ok (.i2l, 1) := by decide +kernel
theorem dX2_draw_5 : decode cX2_draw 5 = .ok (.lmul, 1) := by decide +kernel
theorem dX2_draw_6 : decode cX2_draw 6 = .ok (.ldc2_w 50, 3) := by decide +kernel
theorem dX2_draw_9 : decode cX2_draw 9 = .ok (.iload_n 1, 1) := by decide +kernel
theorem dX2_draw_10 : decode cX2_draw 10 = .ok (.i2l, 1) := by decide +kernel
theorem dX2_draw_11 : decode cX2_draw 11 = .ok (.lmul, 1) := by decide +kernel
theorem dX2_draw_12 : decode cX2_draw 12 = .ok (.ladd, 1) := by decide +kernel
theorem dX2_draw_13 : decode cX2_draw 13 = .ok (.lconst 1, 1) := by decide +kernel
theorem dX2_draw_14 : decode cX2_draw 14 = .ok (.ladd, 1) := by decide +kernel
theorem dX2_draw_15 : decode cX2_draw 15 = .ok (.lstore_n 2, 1) := by decide +kernel
theorem dX2_draw_16 : decode cX2_draw 16 = .ok (.lload_n 2, 1) := by decide +kernel
theorem dX2_draw_17 : decode cX2_draw 17 = .ok (.lload_n 2, 1) := by decide +kernel
theorem dX2_draw_18 : decode cX2_draw 18 = .ok (.lmul, 1) := by decide +kernel
theorem dX2_draw_19 : decode cX2_draw 19 = .ok (.ldc2_w 52, 3) := by decide +kernel
theorem dX2_draw_22 : decode cX2_draw 22 = .ok (.lrem, 1) := by decide +kernel
theorem dX2_draw_23 : decode cX2_draw 23 = .ok (.ldc2_w 54, 3) := by decide +kernel
theorem dX2_draw_26 : decode cX2_draw 26 = .ok (.ldiv, 1) := by decide +kernel
theorem dX2_draw_27 : decode cX2_draw 27 = .ok (.ldc2_w 56, 3) := by decide +kernel
theorem dX2_draw_30 : decode cX2_draw 30 = .ok (.lrem, 1) := by decide +kernel
theorem dX2_draw_31 : decode cX2_draw 31 = .ok (.l2i, 1) := by decide +kernel
theorem dX2_draw_32 : decode cX2_draw 32 = .ok (.ireturn, 1) := by decide +kernel
theorem dX3_init_0 : decode cX3_init 0 = .ok (.aload_n 0, 1) := by decide +kernel
theorem dX3_init_1 : decode cX3_init 1 = .ok (.invokespecial 3, 3) := by decide +kernel
theorem dX3_init_4 : decode cX3_init 4 = .ok (.aload_n 0, 1) := by decide +kernel
theorem dX3_init_5 : decode cX3_init 5 = .ok (.new 9, 3) := by decide +kernel
theorem dX3_init_8 : decode cX3_init 8 = .ok (.dup, 1) := by decide +kernel
theorem dX3_init_9 : decode cX3_init 9 = .ok (.invokespecial 11, 3) := by decide +kernel
theorem dX3_init_12 : decode cX3_init 12 = .ok (.putfield 12, 3) := by decide +kernel
theorem dX3_init_15 : decode cX3_init 15 = .ok (.aload_n 0, 1) := by decide +kernel
theorem dX3_init_16 : decode cX3_init 16 = .ok (.bipush 10, 2) := by decide +kernel
theorem dX3_init_18 : decode cX3_init 18 = .ok (.anewarray 9, 3) := by decide +kernel
theorem dX3_init_21 : decode cX3_init 21 = .ok (.putfield 18, 3) := by decide +kernel
theorem dX3_init_24 : decode cX3_init 24 = .ok (.iconst 0, 1) := by decide +kernel
theorem dX3_init_25 : decode cX3_init 25 = .ok (.istore_n 1, 1) := by decide +kernel
theorem dX3_init_26 : decode cX3_init 26 = .ok (.iload_n 1, 1) := by decide +kernel
theorem dX3_init_27 : decode cX3_init 27 = .ok (.bipush 10, 2) := by decide +kernel
theorem dX3_init_29 : decode cX3_init 29 = .ok (.if_icmp .ge 22, 3) := by decide +kernel
theorem dX3_init_32 : decode cX3_init 32 = .ok (.aload_n 0, 1) := by decide +kernel
theorem dX3_init_33 : decode cX3_init 33 = .ok (.getfield 18, 3) := by decide +kernel
theorem dX3_init_36 : decode cX3_init 36 = .ok (.iload_n 1, 1) := by decide +kernel
theorem dX3_init_37 : decode cX3_init 37 = .ok (.new 9, 3) := by decide +kernel
theorem dX3_init_40 : decode cX3_init 40 = .ok (.dup, 1) := by decide +kernel
theorem dX3_init_41 : decode cX3_init 41 = .ok (.invokespecial 11, 3) := by decide +kernel
theorem dX3_init_44 : decode cX3_init 44 = .ok (.aastore, 1) := by decide +kernel
theorem dX3_init_45 : decode cX3_init 45 = .ok (.iinc 1 1, 3) := by decide +kernel
theorem dX3_init_48 : decode cX3_init 48 = .ok (.goto (-22), 3) := by decide +kernel
theorem dX3_init_51 : decode cX3_init 51 = .ok (.return_, 1) := by decide +kernel
theorem dX3_open_0 : decode cX3_open 0 = .ok (.aload_n 0, 1) := by decide +kernel
theorem dX3_open_1 : decode cX3_open 1 = .ok (.getfield 12, 3) := by decide +kernel
theorem dX3_open_4 : decode cX3_open 4 = .ok (.aload_n 1, 1) := by decide +kernel
theorem dX3_open_5 : decode cX3_open 5 = .ok (.invokevirtual 22, 3) := by decide +kernel
theorem dX3_open_8 : decode cX3_open 8 = .ok (.aload_n 0, 1) := by decide +kernel
theorem dX3_open_9 : decode cX3_open 9 = .ok (.iconst 0, 1) := by decide +kernel
theorem dX3_open_10 : decode cX3_open 10 = .ok (.putfield 26, 3) := by decide +kernel
theorem dX3_open_13 : decode cX3_open 13 = .ok (.aload_n 0, 1) := by decide +kernel
theorem dX3_open_14 : decode cX3_open 14 = .ok (.iconst 0, 1) := by decide +kernel
theorem dX3_open_15 : decode cX3_open 15 = .ok (.putfield 30, 3) := by decide +kernel
theorem dX3_open_18 : decode cX3_open 18 = .ok (.return_, 1) := by decide +kernel
theorem dX3_remember_0 : decode cX3_remember 0 = .ok (.aload_n 0, 1) := by decide +kernel
theorem dX3_remember_1 : decode cX3_remember 1 = .ok (.getfield 18, 3) := by decide +kernel
theorem dX3_remember_4 : decode cX3_remember 4 = .ok (.aload_n 0, 1) := by decide +kernel
theorem dX3_remember_5 : decode cX3_remember 5 = .ok (.getfield 26, 3) := by decide +kernel
theorem dX3_remember_8 : decode cX3_remember 8 = .ok (.aaload, 1) := by decide +kernel
theorem dX3_remember_9 : decode cX3_remember 9 = .ok (.aload_n 0, 1) := by decide +kernel
theorem dX3_remember_10 : decode cX3_remember 10 = .ok (.getfield 12, 3) := by decide +kernel
theorem dX3_remember_13 : decode cX3_remember 13 = .ok (.invokevirtual 33, 3) := by decide +kernel
theorem dX3_remember_16 : decode cX3_remember 16 = .ok (.aload_n 0, 1) := by decide +kernel
theorem dX3_remember_17 : decode cX3_remember 17 = .ok (.aload_n 0, 1) := by decide +kernel
theorem dX3_remember_18 : decode cX3_remember 18 = .ok (.getfield 26, 3) := by decide +kernel
theorem dX3_remember_21 : decode cX3_remember 21 = .ok (.iconst 1, 1) := by decide +kernel
theorem dX3_remember_22 : decode cX3_remember 22 = .ok (.iadd, 1) := by decide +kernel
theorem dX3_remember_23 : decode cX3_remember 23 = .ok (.bipush 10, 2) := by decide +kernel
theorem dX3_remember_25 : decode cX3_remember 25 = .ok (.irem, 1) := by decide +kernel
theorem dX3_remember_26 : decode cX3_remember 26 = .ok (.putfield 26, 3) := by decide +kernel
theorem dX3_remember_29 : decode cX3_remember 29 = .ok (.aload_n 0, 1) := by decide +kernel
theorem dX3_remember_30 : decode cX3_remember 30 = .ok (.aload_n 0, 1) := by decide +kernel
theorem dX3_remember_31 : decode cX3_remember 31 = .ok (.getfield 30, 3) := by decide +kernel
theorem dX3_remember_34 : decode cX3_remember 34 = .ok (.iconst 1, 1) := by decide +kernel
theorem dX3_remember_35 : decode cX3_remember 35 = .ok (.iadd, 1) := by decide +kernel
theorem dX3_remember_36 : decode cX3_remember 36 = .ok (.bipush 10, 2) := by decide +kernel
theorem dX3_remember_38 : decode cX3_remember 38 = .ok (.invokestatic 37, 3) := by decide +kernel
theorem dX3_remember_41 : decode cX3_remember 41 = .ok (.putfield 30, 3) := by decide +kernel
theorem dX3_remember_44 : decode cX3_remember 44 = .ok (.return_, 1) := by decide +kernel
theorem dX3_restore_0 : decode cX3_restore 0 = .ok (.aload_n 0, 1) := by decide +kernel
theorem dX3_restore_1 : decode cX3_restore 1 = .ok (.getfield 30, 3) := by decide +kernel
theorem dX3_restore_4 : decode cX3_restore 4 = .ok (.ifCond .ne 5, 3) := by decide +kernel
theorem dX3_restore_7 : decode cX3_restore 7 = .ok (.iconst 0, 1) := by decide +kernel
theorem dX3_restore_8 : decode cX3_restore 8 = .ok (.ireturn, 1) := by decide +kernel
theorem dX3_restore_9 : decode cX3_restore 9 = .ok (.aload_n 0, 1) := by decide +kernel
theorem dX3_restore_10 : decode cX3_restore 10 = .ok (.aload_n 0, 1) := by decide +kernel
theorem dX3_restore_11 : decode cX3_restore 11 = .ok (.getfield 26, 3) := by decide +kernel
theorem dX3_restore_14 : decode cX3_restore 14 = .ok (.bipush 10, 2) := by decide +kernel
theorem dX3_restore_16 : decode cX3_restore 16 = .ok (.iadd, 1) := by decide +kernel
theorem dX3_restore_17 : decode cX3_restore 17 = .ok (.iconst 1, 1) := by decide +kernel
theorem dX3_restore_18 : decode cX3_restore 18 = .ok (.isub, 1) := by decide +kernel
theorem dX3_restore_19 : decode cX3_restore 19 = .ok (.bipush 10, 2) := by decide +kernel
theorem dX3_restore_21 : decode cX3_restore 21 = .ok (.irem, 1) := by decide +kernel
theorem dX3_restore_22 : decode cX3_restore 22 = .ok (.putfield 26, 3) := by decide +kernel
theorem dX3_restore_25 : decode cX3_restore 25 = .ok (.aload_n 0, 1) := by decide +kernel
theorem dX3_restore_26 : decode cX3_restore 26 = .ok (.getfield 12, 3) := by decide +kernel
theorem dX3_restore_29 : decode cX3_restore 29 = .ok (.aload_n 0, 1) := by decide +kernel
theorem dX3_restore_30 : decode cX3_restore 30 = .ok (.getfield 18, 3) := by decide +kernel
theorem dX3_restore_33 : decode cX3_restore 33 = .ok (.aload_n 0, 1) := by decide +kernel
theorem dX3_restore_34 : decode cX3_restore 34 = .ok (.getfield 26, 3) := by decide +kernel
theorem dX3_restore_37 : decode cX3_restore 37 = .ok (.aaload, 1) := by decide +kernel
theorem dX3_restore_38 : decode cX3_restore 38 = .ok (.invokevirtual 33, 3) := by decide +kernel
theorem dX3_restore_41 : decode cX3_restore 41 = .ok (.aload_n 0, 1) := by decide +kernel
theorem dX3_restore_42 : decode cX3_restore 42 = .ok (.dup, 1) := by decide +kernel
theorem dX3_restore_43 : decode cX3_restore 43 = .ok (.getfield 30, 3) := by decide +kernel
theorem dX3_restore_46 : decode cX3_restore 46 = .ok (.iconst 1, 1) := by decide +kernel
theorem dX3_restore_47 : decode cX3_restore 47 = .ok (.isub, 1) := by decide +kernel
theorem dX3_restore_48 : decode cX3_restore 48 = .ok (.putfield 30, 3) := by decide +kernel
theorem dX3_restore_51 : decode cX3_restore 51 = .ok (.iconst 1, 1) := by decide +kernel
theorem dX3_restore_52 : decode cX3_restore 52 = .ok (.ireturn, 1) := by decide +kernel
theorem dX3_become_0 : decode cX3_become 0 = .ok (.aload_n 0, 1) := by decide +kernel
theorem dX3_become_1 : decode cX3_become 1 = .ok (.getfield 12, 3) := by decide +kernel
theorem dX3_become_4 : decode cX3_become 4 = .ok (.aload_n 1, 1) := by decide +kernel
theorem dX3_become_5 : decode cX3_become 5 = .ok (.getfield 12, 3) := by decide +kernel
theorem dX3_become_8 : decode cX3_become 8 = .ok (.invokevirtual 33, 3) := by decide +kernel
theorem dX3_become_11 : decode cX3_become 11 = .ok (.iconst 0, 1) := by decide +kernel
theorem dX3_become_12 : decode cX3_become 12 = .ok (.istore_n 2, 1) := by decide +kernel
theorem dX3_become_13 : decode cX3_become 13 = .ok (.iload_n 2, 1) := by decide +kernel
theorem dX3_become_14 : decode cX3_become 14 = .ok (.bipush 10, 2) := by decide +kernel
theorem dX3_become_16 : decode cX3_become 16 = .ok (.if_icmp .ge 24, 3) := by decide +kernel
theorem dX3_become_19 : decode cX3_become 19 = .ok (.aload_n 0, 1) := by decide +kernel
theorem dX3_become_20 : decode cX3_become 20 = .ok (.getfield 18, 3) := by decide +kernel
theorem dX3_become_23 : decode cX3_become 23 = .ok (.iload_n 2, 1) := by decide +kernel
theorem dX3_become_24 : decode cX3_become 24 = .ok (.aaload, 1) := by decide +kernel
theorem dX3_become_25 : decode cX3_become 25 = .ok (.aload_n 1, 1) := by decide +kernel
theorem dX3_become_26 : decode cX3_become 26 = .ok (.getfield 18, 3) := by decide +kernel
theorem dX3_become_29 : decode cX3_become 29 = .ok (.iload_n 2, 1) := by decide +kernel
theorem dX3_become_30 : decode cX3_become 30 = .ok (.aaload, 1) := by decide +kernel
theorem dX3_become_31 : decode cX3_become 31 = .ok (.invokevirtual 33, 3) := by decide +kernel
theorem dX3_become_34 : decode cX3_become 34 = .ok (.iinc 2 1, 3) := by decide +kernel
theorem dX3_become_37 : decode cX3_become 37 = .ok (.goto (-24), 3) := by decide +kernel
theorem dX3_become_40 : decode cX3_become 40 = .ok (.aload_n 0, 1) := by decide +kernel
theorem dX3_become_41 : decode cX3_become 41 = .ok (.aload_n 1, 1) := by decide +kernel
theorem dX3_become_42 : decode cX3_become 42 = .ok (.getfield 26, 3) := by decide +kernel
theorem dX3_become_45 : decode cX3_become 45 = .ok (.putfield 26, 3) := by decide +kernel
theorem dX3_become_48 : decode cX3_become 48 = .ok (.aload_n 0, 1) := by decide +kernel
theorem dX3_become_49 : decode cX3_become 49 = .ok (.aload_n 1, 1) := by decide +kernel
theorem dX3_become_50 : decode cX3_become 50 = .ok (.getfield 30, 3) := by decide +kernel
theorem dX3_become_53 : decode cX3_become 53 = .ok (.putfield 30, 3) := by decide +kernel
theorem dX3_become_56 : decode cX3_become 56 = .ok (.return_, 1) := by decide +kernel
theorem dX4_init_0 : decode cX4_init 0 = .ok (.aload_n 0, 1) := by decide +kernel
theorem dX4_init_1 : decode cX4_init 1 = .ok (.invokespecial 3, 3) := by decide +kernel
theorem dX4_init_4 : decode cX4_init 4 = .ok (.aload_n 0, 1) := by decide +kernel
theorem dX4_init_5 : decode cX4_init 5 = .ok (.bipush 50, 2) := by decide +kernel
theorem dX4_init_7 : decode cX4_init 7 = .ok (.putfield 9, 3) := by decide +kernel
theorem dX4_init_10 : decode cX4_init 10 = .ok (.aload_n 0, 1) := by decide +kernel
theorem dX4_init_11 : decode cX4_init 11 = .ok (.iconst 5, 1) := by decide +kernel
theorem dX4_init_12 : decode cX4_init 12 = .ok (.newarray .int, 2) := by decide +kernel
theorem dX4_init_14 : decode cX4_init 14 = .ok (.putfield 15, 3) := by decide +kernel
theorem dX4_init_17 : decode cX4_init 17 = .ok (.aload_n 0, 1) := by decide +kernel
theorem dX4_init_18 : decode cX4_init 18 = .ok (.iconst 5, 1) := by decide +kernel
theorem dX4_init_19 : decode cX4_init 19 = .ok (.newarray .int, 2) := by decide +kernel
theorem dX4_init_21 : decode cX4_init 21 = .ok (.putfield 19, 3) := by decide +kernel
theorem dX4_init_24 : decode cX4_init 24 = .ok (.aload_n 0, 1) := by decide +kernel
theorem dX4_init_25 : decode cX4_init 25 = .ok (.iconst 5, 1) := by decide +kernel
theorem dX4_init_26 : decode cX4_init 26 = .ok (.newarray .int, 2) := by decide +kernel
theorem dX4_init_28 : decode cX4_init 28 = .ok (.putfield 22, 3) := by decide +kernel
theorem dX4_init_31 : decode cX4_init 31 = .ok (.aload_n 0, 1) := by decide +kernel
theorem dX4_init_32 : decode cX4_init 32 = .ok (.iconst 5, 1) := by decide +kernel
theorem dX4_init_33 : decode cX4_init 33 = .ok (.newarray .int, 2) := by decide +kernel
theorem dX4_init_35 : decode cX4_init 35 = .ok (.putfield 25, 3) := by decide +kernel
theorem dX4_init_38 : decode cX4_init 38 = .ok (.aload_n 0, 1) := by decide +kernel
theorem dX4_init_39 : decode cX4_init 39 = .ok (.iconst 5, 1) := by decide +kernel
theorem dX4_init_40 : decode cX4_init 40 = .ok (.newarray .int, 2) := by decide +kernel
theorem dX4_init_42 : decode cX4_init 42 = .ok (.putfield 28, 3) := by decide +kernel
theorem dX4_init_45 : decode cX4_init 45 = .ok (.return_, 1) := by decide +kernel
theorem dX4_empty_0 : decode cX4_empty 0 = .ok (.aload_n 0, 1) := by decide +kernel
theorem dX4_empty_1 : decode cX4_empty 1 = .ok (.iconst 0, 1) := by decide +kernel
theorem dX4_empty_2 : decode cX4_empty 2 = .ok (.putfield 31, 3) := by decide +kernel
theorem dX4_empty_5 : decode cX4_empty 5 = .ok (.aload_n 0, 1) := by decide +kernel
theorem dX4_empty_6 : decode cX4_empty 6 = .ok (.bipush 50, 2) := by decide +kernel
theorem dX4_empty_8 : decode cX4_empty 8 = .ok (.putfield 9, 3) := by decide +kernel
theorem dX4_empty_11 : decode cX4_empty 11 = .ok (.return_, 1) := by decide +kernel
theorem dX4_mustLead_0 : decode cX4_mustLead 0 = .ok (.aload_n 0, 1) := by decide +kernel
theorem dX4_mustLead_1 : decode cX4_mustLead 1 = .ok (.getfield 28, 3) := by decide +kernel
theorem dX4_mustLead_4 : decode cX4_mustLead 4 = .ok (.iload_n 1, 1) := by decide +kernel
theorem dX4_mustLead_5 : decode cX4_mustLead 5 = .ok (.iaload, 1) := by decide +kernel
theorem dX4_mustLead_6 : decode cX4_mustLead 6 = .ok (.iload_n 2, 1) := by decide +kernel
theorem dX4_mustLead_7 : decode cX4_mustLead 7 = .ok (.ishr, 1) := by decide +kernel
theorem dX4_mustLead_8 : decode cX4_mustLead 8 = .ok (.iconst 1, 1) := by decide +kernel
theorem dX4_mustLead_9 : decode cX4_mustLead 9 = .ok (.iand, 1) := by decide +kernel
theorem dX4_mustLead_10 : decode cX4_mustLead 10 = .ok (.iconst 1, 1) := by decide +kernel
theorem dX4_mustLead_11 : decode cX4_mustLead 11 = .ok (.if_icmp .ne 7, 3) := by decide +kernel
theorem dX4_mustLead_14 : decode cX4_mustLead 14 = .ok (.iconst 1, 1) := by decide +kernel
theorem dX4_mustLead_15 : decode cX4_mustLead 15 = .ok (.goto 4, 3) := by decide +kernel
theorem dX4_mustLead_18 : decode cX4_mustLead 18 = .ok (.iconst 0, 1) := by decide +kernel
theorem dX4_mustLead_19 : decode cX4_mustLead 19 = .ok (.ireturn, 1) := by decide +kernel
theorem dX4_allows_0 : decode cX4_allows 0 = .ok (.iconst 0, 1) := by decide +kernel
theorem dX4_allows_1 : decode cX4_allows 1 = .ok (.istore_n 2, 1) := by decide +kernel
theorem dX4_allows_2 : decode cX4_allows 2 = .ok (.iconst 0, 1) := by decide +kernel
theorem dX4_allows_3 : decode cX4_allows 3 = .ok (.istore_n 3, 1) := by decide +kernel
theorem dX4_allows_4 : decode cX4_allows 4 = .ok (.iload_n 3, 1) := by decide +kernel
theorem dX4_allows_5 : decode cX4_allows 5 = .ok (.aload_n 0, 1) := by decide +kernel
theorem dX4_allows_6 : decode cX4_allows 6 = .ok (.getfield 31, 3) := by decide +kernel
theorem dX4_allows_9 : decode cX4_allows 9 = .ok (.if_icmp .ge 32, 3) := by decide +kernel
theorem dX4_allows_12 : decode cX4_allows 12 = .ok (.aload_n 0, 1) := by decide +kernel
theorem dX4_allows_13 : decode cX4_allows 13 = .ok (.getfield 28, 3) := by decide +kernel
theorem dX4_allows_16 : decode cX4_allows 16 = .ok (.aload_n 1, 1) := by decide +kernel
theorem dX4_allows_17 : decode cX4_allows 17 = .ok (.iload_n 3, 1) := by decide +kernel
theorem dX4_allows_18 : decode cX4_allows 18 = .ok (.iaload, 1) := by decide +kernel
theorem dX4_allows_19 : decode cX4_allows 19 = .ok (.iaload, 1) := by decide +kernel
theorem dX4_allows_20 : decode cX4_allows 20 = .ok (.iload_n 2, 1) := by decide +kernel
theorem dX4_allows_21 : decode cX4_allows 21 = .ok (.iand, 1) := by decide +kernel
theorem dX4_allows_22 : decode cX4_allows 22 = .ok (.ifCond .eq 5, 3) := by decide +kernel
theorem dX4_allows_25 : decode cX4_allows 25 = .ok (.iconst 0, 1) := by decide +kernel
theorem dX4_allows_26 : decode cX4_allows 26 = .ok (.ireturn, 1) := by decide +kernel
theorem dX4_allows_27 : decode cX4_allows 27 = .ok (.iload_n 2, 1) := by decide +kernel
theorem dX4_allows_28 : decode cX4_allows 28 = .ok (.iconst 1, 1) := by decide +kernel
theorem dX4_allows_29 : decode cX4_allows 29 = .ok (.aload_n 1, 1) := by decide +kernel
theorem dX4_allows_30 : decode cX4_allows 30 = .ok (.iload_n 3, 1) := by decide +kernel
theorem dX4_allows_31 : decode cX4_allows 31 = .ok (.iaload, 1) := by decide +kernel
theorem dX4_allows_32 : decode cX4_allows 32 = .ok (.ishl, 1) := by decide +kernel
theorem dX4_allows_33 : decode cX4_allows 33 = .ok (.ior, 1) := by decide +kernel
theorem dX4_allows_34 : decode cX4_allows 34 = .ok (.istore_n 2, 1) := by decide +kernel
theorem dX4_allows_35 : decode cX4_allows 35 = .ok (.iinc 3 1, 3) := by decide +kernel
theorem dX4_allows_38 : decode cX4_allows 38 = .ok (.goto (-34), 3) := by decide +kernel
theorem dX4_allows_41 : decode cX4_allows 41 = .ok (.iconst 1, 1) := by decide +kernel
theorem dX4_allows_42 : decode cX4_allows 42 = .ok (.ireturn, 1) := by decide +kernel
theorem dX5_init_0 : decode cX5_init 0 = .ok (.aload_n 0, 1) := by decide +kernel
theorem dX5_init_1 : decode cX5_init 1 = .ok (.invokespecial 3, 3) := by decide +kernel
theorem dX5_init_4 : decode cX5_init 4 = .ok (.aload_n 0, 1) := by decide +kernel
theorem dX5_init_5 : decode cX5_init 5 = .ok (.sipush 150, 3) := by decide +kernel
theorem dX5_init_8 : decode cX5_init 8 = .ok (.newarray .int, 2) := by decide +kernel
theorem dX5_init_10 : decode cX5_init 10 = .ok (.putfield 9, 3) := by decide +kernel
theorem dX5_init_13 : decode cX5_init 13 = .ok (.return_, 1) := by decide +kernel
theorem dX5_add_0 : decode cX5_add 0 = .ok (.aload_n 0, 1) := by decide +kernel
theorem dX5_add_1 : decode cX5_add 1 = .ok (.getfield 15, 3) := by decide +kernel
theorem dX5_add_4 : decode cX5_add 4 = .ok (.sipush 150, 3) := by decide +kernel
theorem dX5_add_7 : decode cX5_add 7 = .ok (.if_icmp .lt 5, 3) := by decide +kernel
theorem dX5_add_10 : decode cX5_add 10 = .ok (.iconst 0, 1) := by decide +kernel
theorem dX5_add_11 : decode cX5_add 11 = .ok (.ireturn, 1) := by decide +kernel
theorem dX5_add_12 : decode cX5_add 12 = .ok (.aload_n 0, 1) := by decide +kernel
theorem dX5_add_13 : decode cX5_add 13 = .ok (.getfield 9, 3) := by decide +kernel
theorem dX5_add_16 : decode cX5_add 16 = .ok (.aload_n 0, 1) := by decide +kernel
theorem dX5_add_17 : decode cX5_add 17 = .ok (.getfield 15, 3) := by decide +kernel
theorem dX5_add_20 : decode cX5_add 20 = .ok (.iload_n 1, 1) := by decide +kernel
theorem dX5_add_21 : decode cX5_add 21 = .ok (.iastore, 1) := by decide +kernel
theorem dX5_add_22 : decode cX5_add 22 = .ok (.aload_n 0, 1) := by decide +kernel
theorem dX5_add_23 : decode cX5_add 23 = .ok (.dup, 1) := by decide +kernel
theorem dX5_add_24 : decode cX5_add 24 = .ok (.getfield 15, 3) := by decide +kernel
theorem dX5_add_27 : decode cX5_add 27 = .ok (.iconst 1, 1) := by decide +kernel
theorem dX5_add_28 : decode cX5_add 28 = .ok (.iadd, 1) := by decide +kernel
theorem dX5_add_29 : decode cX5_add 29 = .ok (.putfield 15, 3) := by decide +kernel
theorem dX5_add_32 : decode cX5_add 32 = .ok (.iconst 1, 1) := by decide +kernel
theorem dX5_add_33 : decode cX5_add 33 = .ok (.ireturn, 1) := by decide +kernel
theorem dX5_readInto_0 : decode cX5_readInto 0 = .ok (.aload_n 0, 1) := by decide +kernel
theorem dX5_readInto_1 : decode cX5_readInto 1 = .ok (.iconst 0, 1) := by decide +kernel
theorem dX5_readInto_2 : decode cX5_readInto 2 = .ok (.putfield 19, 3) := by decide +kernel
theorem dX5_readInto_5 : decode cX5_readInto 5 = .ok (.aload_n 0, 1) := by decide +kernel
theorem dX5_readInto_6 : decode cX5_readInto 6 = .ok (.iconst 0, 1) := by decide +kernel
theorem dX5_readInto_7 : decode cX5_readInto 7 = .ok (.putfield 22, 3) := by decide +kernel
theorem dX5_readInto_10 : decode cX5_readInto 10 = .ok (.iconst 0, 1) := by decide +kernel
theorem dX5_readInto_11 : decode cX5_readInto 11 = .ok (.istore_n 2, 1) := by decide +kernel
theorem dX5_readInto_12 : decode cX5_readInto 12 = .ok (.iload_n 2, 1) := by decide +kernel
theorem dX5_readInto_13 : decode cX5_readInto 13 = .ok (.sipush 150, 3) := by decide +kernel
theorem dX5_readInto_16 : decode cX5_readInto 16 = .ok (.if_icmp .gt 145, 3) := by decide +kernel
theorem dX5_readInto_19 : decode cX5_readInto 19 = .ok (.aload_n 0, 1) := by decide +kernel
theorem dX5_readInto_20 : decode cX5_readInto 20 = .ok (.invokevirtual 26, 3) := by decide +kernel
theorem dX5_readInto_23 : decode cX5_readInto 23 = .ok (.aload_n 0, 1) := by decide +kernel
theorem dX5_readInto_24 : decode cX5_readInto 24 = .ok (.getfield 29, 3) := by decide +kernel
theorem dX5_readInto_27 : decode cX5_readInto 27 = .ok (.ifCond .ne 5, 3) := by decide +kernel
theorem dX5_readInto_30 : decode cX5_readInto 30 = .ok (.iload_n 2, 1) := by decide +kernel
theorem dX5_readInto_31 : decode cX5_readInto 31 = .ok (.ireturn, 1) := by decide +kernel
theorem dX5_readInto_32 : decode cX5_readInto 32 = .ok (.iconst 0, 1) := by decide +kernel
theorem dX5_readInto_33 : decode cX5_readInto 33 = .ok (.istore_n 3, 1) := by decide +kernel
theorem dX5_readInto_34 : decode cX5_readInto 34 = .ok (.aload_n 0, 1) := by decide +kernel
theorem dX5_readInto_35 : decode cX5_readInto 35 = .ok (.getfield 29, 3) := by decide +kernel
theorem dX5_readInto_38 : decode cX5_readInto 38 = .ok (.iconst 1, 1) := by decide +kernel
theorem dX5_readInto_39 : decode cX5_readInto 39 = .ok (.if_icmp .ne 10, 3) := by decide +kernel
theorem dX5_readInto_42 : decode cX5_readInto 42 = .ok (.aload_n 0, 1) := by decide +kernel
theorem dX5_readInto_43 : decode cX5_readInto 43 = .ok (.getfield 32, 3) := by decide +kernel
theorem dX5_readInto_46 : decode cX5_readInto 46 = .ok (.goto 4, 3) := by decide +kernel
theorem dX5_readInto_49 : decode cX5_readInto 49 = .ok (.iconst 0, 1) := by decide +kernel
theorem dX5_readInto_50 : decode cX5_readInto 50 = .ok (.lookupswitch 92 #[(104, 59), (112, 68), (115, 34)], 34) := by decide +kernel
theorem dX5_readInto_84 : decode cX5_readInto 84 = .ok (.aload_n 1, 1) := by decide +kernel
theorem dX5_readInto_85 : decode cX5_readInto 85 = .ok (.getfield 35, 3) := by decide +kernel
theorem dX5_readInto_88 : decode cX5_readInto 88 = .ok (.iconst 5, 1) := by decide +kernel
theorem dX5_readInto_89 : decode cX5_readInto 89 = .ok (.if_icmp .ge 15, 3) := by decide +kernel
theorem dX5_readInto_92 : decode cX5_readInto 92 = .ok (.aload_n 0, 1) := by decide +kernel
theorem dX5_readInto_93 : decode cX5_readInto 93 = .ok (.aload_n 1, 1) := by decide +kernel
theorem dX5_readInto_94 : decode cX5_readInto 94 = .ok (.invokevirtual 40, 3) := by decide +kernel
theorem dX5_readInto_97 : decode cX5_readInto 97 = .ok (.ifCond .eq 7, 3) := by decide +kernel
theorem dX5_readInto_100 : decode cX5_readInto 100 = .ok (.iconst 1, 1) := by decide +kernel
theorem dX5_readInto_101 : decode cX5_readInto 101 = .ok (.goto 4, 3) := by decide +kernel
theorem dX5_readInto_104 : decode cX5_readInto 104 = .ok (.iconst 0, 1) := by decide +kernel
theorem dX5_readInto_105 : decode cX5_readInto 105 = .ok (.istore_n 3, 1) := by decide +kernel
theorem dX5_readInto_106 : decode cX5_readInto 106 = .ok (.goto 36, 3) := by decide +kernel
theorem dX5_readInto_109 : decode cX5_readInto 109 = .ok (.aload_n 0, 1) := by decide +kernel
theorem dX5_readInto_110 : decode cX5_readInto 110 = .ok (.aload_n 1, 1) := by decide +kernel
theorem dX5_readInto_111 : decode cX5_readInto 111 = .ok (.invokevirtual 44, 3) := by decide +kernel
theorem dX5_readInto_114 : decode cX5_readInto 114 = .ok (.istore_n 3, 1) := by decide +kernel
theorem dX5_readInto_115 : decode cX5_readInto 115 = .ok (.goto 27, 3) := by decide +kernel
theorem dX5_readInto_118 : decode cX5_readInto 118 = .ok (.aload_n 0, 1) := by decide +kernel
theorem dX5_readInto_119 : decode cX5_readInto 119 = .ok (.getfield 22, 3) := by decide +kernel
theorem dX5_readInto_122 : decode cX5_readInto 122 = .ok (.ifCond .ne 15, 3) := by decide +kernel
theorem dX5_readInto_125 : decode cX5_readInto 125 = .ok (.aload_n 0, 1) := by decide +kernel
theorem dX5_readInto_126 : decode cX5_readInto 126 = .ok (.aload_n 1, 1) := by decide +kernel
theorem dX5_readInto_127 : decode cX5_readInto 127 = .ok (.invokevirtual 47, 3) := by decide +kernel
theorem dX5_readInto_130 : decode cX5_readInto 130 = .ok (.ifCond .eq 7, 3) := by decide +kernel
theorem dX5_readInto_133 : decode cX5_readInto 133 = .ok (.iconst 1, 1) := by decide +kernel
theorem dX5_readInto_134 : decode cX5_readInto 134 = .ok (.goto 4, 3) := by decide +kernel
theorem dX5_readInto_137 : decode cX5_readInto 137 = .ok (.iconst 0, 1) := by decide +kernel
theorem dX5_readInto_138 : decode cX5_readInto 138 = .ok (.istore_n 3, 1) := by decide +kernel
theorem dX5_readInto_139 : decode cX5_readInto 139 = .ok (.goto 3, 3) := by decide +kernel
theorem dX5_readInto_142 : decode cX5_readInto 142 = .ok (.iload_n 3, 1) := by decide +kernel
theorem dX5_readInto_143 : decode cX5_readInto 143 = .ok (.ifCond .eq 10, 3) := by decide +kernel
theorem dX5_readInto_146 : decode cX5_readInto 146 = .ok (.aload_n 0, 1) := by decide +kernel
theorem dX5_readInto_147 : decode cX5_readInto 147 = .ok (.invokevirtual 50, 3) := by decide +kernel
theorem dX5_readInto_150 : decode cX5_readInto 150 = .ok (.ifCond .ne 5, 3) := by decide +kernel
theorem dX5_readInto_153 : decode cX5_readInto 153 = .ok (.iconst (-1), 1) := by decide +kernel
theorem dX5_readInto_154 : decode cX5_readInto 154 = .ok (.ireturn, 1) := by decide +kernel
theorem dX5_readInto_155 : decode cX5_readInto 155 = .ok (.iinc 2 1, 3) := by decide +kernel
theorem dX5_readInto_158 : decode cX5_readInto 158 = .ok (.goto (-146), 3) := by decide +kernel
theorem dX5_readInto_161 : decode cX5_readInto 161 = .ok (.iconst (-1), 1) := by decide +kernel
theorem dX5_readInto_162 : decode cX5_readInto 162 = .ok (.ireturn, 1) := by decide +kernel
theorem dX5_readStep_0 : decode cX5_readStep 0 = .ok (.aload_n 1, 1) := by decide +kernel
theorem dX5_readStep_1 : decode cX5_readStep 1 = .ok (.getfield 35, 3) := by decide +kernel
theorem dX5_readStep_4 : decode cX5_readStep 4 = .ok (.istore_n 2, 1) := by decide +kernel
theorem dX5_readStep_5 : decode cX5_readStep 5 = .ok (.aload_n 0, 1) := by decide +kernel
theorem dX5_readStep_6 : decode cX5_readStep 6 = .ok (.iconst 1, 1) := by decide +kernel
theorem dX5_readStep_7 : decode cX5_readStep 7 = .ok (.bipush 99, 2) := by decide +kernel
theorem dX5_readStep_9 : decode cX5_readStep 9 = .ok (.invokevirtual 54, 3) := by decide +kernel
theorem dX5_readStep_12 : decode cX5_readStep 12 = .ok (.ifCond .ne 5, 3) := by decide +kernel
theorem dX5_readStep_15 : decode cX5_readStep 15 = .ok (.iconst 0, 1) := by decide +kernel
theorem dX5_readStep_16 : decode cX5_readStep 16 = .ok (.ireturn, 1) := by decide +kernel
theorem dX5_readStep_17 : decode cX5_readStep 17 = .ok (.aload_n 1, 1) := by decide +kernel
theorem dX5_readStep_18 : decode cX5_readStep 18 = .ok (.getfield 58, 3) := by decide +kernel
theorem dX5_readStep_21 : decode cX5_readStep 21 = .ok (.iload_n 2, 1) := by decide +kernel
theorem dX5_readStep_22 : decode cX5_readStep 22 = .ok (.aload_n 0, 1) := by decide +kernel
theorem dX5_readStep_23 : decode cX5_readStep 23 = .ok (.getfield 32, 3) := by decide +kernel
theorem dX5_readStep_26 : decode cX5_readStep 26 = .ok (.iastore, 1) := by decide +kernel
theorem dX5_readStep_27 : decode cX5_readStep 27 = .ok (.aload_n 0, 1) := by decide +kernel
theorem dX5_readStep_28 : decode cX5_readStep 28 = .ok (.iconst 0, 1) := by decide +kernel
theorem dX5_readStep_29 : decode cX5_readStep 29 = .ok (.bipush 9, 2) := by decide +kernel
theorem dX5_readStep_31 : decode cX5_readStep 31 = .ok (.invokevirtual 54, 3) := by decide +kernel
theorem dX5_readStep_34 : decode cX5_readStep 34 = .ok (.ifCond .ne 5, 3) := by decide +kernel
theorem dX5_readStep_37 : decode cX5_readStep 37 = .ok (.iconst 0, 1) := by decide +kernel
theorem dX5_readStep_38 : decode cX5_readStep 38 = .ok (.ireturn, 1) := by decide +kernel
theorem dX5_readStep_39 : decode cX5_readStep 39 = .ok (.aload_n 1, 1) := by decide +kernel
theorem dX5_readStep_40 : decode cX5_readStep 40 = .ok (.getfield 61, 3) := by decide +kernel
theorem dX5_readStep_43 : decode cX5_readStep 43 = .ok (.iload_n 2, 1) := by decide +kernel
theorem dX5_readStep_44 : decode cX5_readStep 44 = .ok (.aload_n 0, 1) := by decide +kernel
theorem dX5_readStep_45 : decode cX5_readStep 45 = .ok (.getfield 32, 3) := by decide +kernel
theorem dX5_readStep_48 : decode cX5_readStep 48 = .ok (.iastore, 1) := by decide +kernel
theorem dX5_readStep_49 : decode cX5_readStep 49 = .ok (.aload_n 0, 1) := by decide +kernel
theorem dX5_readStep_50 : decode cX5_readStep 50 = .ok (.iconst 1, 1) := by decide +kernel
theorem dX5_readStep_51 : decode cX5_readStep 51 = .ok (.bipush 30, 2) := by decide +kernel
theorem dX5_readStep_53 : decode cX5_readStep 53 = .ok (.invokevirtual 54, 3) := by decide +kernel
theorem dX5_readStep_56 : decode cX5_readStep 56 = .ok (.ifCond .ne 5, 3) := by decide +kernel
theorem dX5_readStep_59 : decode cX5_readStep 59 = .ok (.iconst 0, 1) := by decide +kernel
theorem dX5_readStep_60 : decode cX5_readStep 60 = .ok (.ireturn, 1) := by decide +kernel
theorem dX5_readStep_61 : decode cX5_readStep 61 = .ok (.aload_n 1, 1) := by decide +kernel
theorem dX5_readStep_62 : decode cX5_readStep 62 = .ok (.getfield 64, 3) := by decide +kernel
theorem dX5_readStep_65 : decode cX5_readStep 65 = .ok (.iload_n 2, 1) := by decide +kernel
theorem dX5_readStep_66 : decode cX5_readStep 66 = .ok (.aload_n 0, 1) := by decide +kernel
theorem dX5_readStep_67 : decode cX5_readStep 67 = .ok (.getfield 32, 3) := by decide +kernel
theorem dX5_readStep_70 : decode cX5_readStep 70 = .ok (.iastore, 1) := by decide +kernel
theorem dX5_readStep_71 : decode cX5_readStep 71 = .ok (.aload_n 0, 1) := by decide +kernel
theorem dX5_readStep_72 : decode cX5_readStep 72 = .ok (.iconst 0, 1) := by decide +kernel
theorem dX5_readStep_73 : decode cX5_readStep 73 = .ok (.bipush 9, 2) := by decide +kernel
theorem dX5_readStep_75 : decode cX5_readStep 75 = .ok (.invokevirtual 54, 3) := by decide +kernel
theorem dX5_readStep_78 : decode cX5_readStep 78 = .ok (.ifCond .ne 5, 3) := by decide +kernel
theorem dX5_readStep_81 : decode cX5_readStep 81 = .ok (.iconst 0, 1) := by decide +kernel
theorem dX5_readStep_82 : decode cX5_readStep 82 = .ok (.ireturn, 1) := by decide +kernel
theorem dX5_readStep_83 : decode cX5_readStep 83 = .ok (.aload_n 1, 1) := by decide +kernel
theorem dX5_readStep_84 : decode cX5_readStep 84 = .ok (.getfield 67, 3) := by decide +kernel
theorem dX5_readStep_87 : decode cX5_readStep 87 = .ok (.iload_n 2, 1) := by decide +kernel
theorem dX5_readStep_88 : decode cX5_readStep 88 = .ok (.aload_n 0, 1) := by decide +kernel
theorem dX5_readStep_89 : decode cX5_readStep 89 = .ok (.getfield 32, 3) := by decide +kernel
theorem dX5_readStep_92 : decode cX5_readStep 92 = .ok (.iastore, 1) := by decide +kernel
theorem dX5_readStep_93 : decode cX5_readStep 93 = .ok (.aload_n 1, 1) := by decide +kernel
theorem dX5_readStep_94 : decode cX5_readStep 94 = .ok (.getfield 70, 3) := by decide +kernel
theorem dX5_readStep_97 : decode cX5_readStep 97 = .ok (.iload_n 2, 1) := by decide +kernel
theorem dX5_readStep_98 : decode cX5_readStep 98 = .ok (.iconst 0, 1) := by decide +kernel
theorem dX5_readStep_99 : decode cX5_readStep 99 = .ok (.iastore, 1) := by decide +kernel
theorem dX5_readStep_100 : decode cX5_readStep 100 = .ok (.aload_n 1, 1) := by decide +kernel
theorem dX5_readStep_101 : decode cX5_readStep 101 = .ok (.dup, 1) := by decide +kernel
theorem dX5_readStep_102 : decode cX5_readStep 102 = .ok (.getfield 35, 3) := by decide +kernel
theorem dX5_readStep_105 : decode cX5_readStep 105 = .ok (.iconst 1, 1) := by decide +kernel
theorem dX5_readStep_106 : decode cX5_readStep 106 = .ok (.iadd, 1) := by decide +kernel
theorem dX5_readStep_107 : decode cX5_readStep 107 = .ok (.putfield 35, 3) := by decide +kernel
theorem dX5_readStep_110 : decode cX5_readStep 110 = .ok (.iconst 1, 1) := by decide +kernel
theorem dX5_readStep_111 : decode cX5_readStep 111 = .ok (.ireturn, 1) := by decide +kernel
theorem dX5_readAhead_0 : decode cX5_readAhead 0 = .ok (.aload_n 0, 1) := by decide +kernel
theorem dX5_readAhead_1 : decode cX5_readAhead 1 = .ok (.iconst 0, 1) := by decide +kernel
theorem dX5_readAhead_2 : decode cX5_readAhead 2 = .ok (.aload_n 1, 1) := by decide +kernel
theorem dX5_readAhead_3 : decode cX5_readAhead 3 = .ok (.getfield 35, 3) := by decide +kernel
theorem dX5_readAhead_6 : decode cX5_readAhead 6 = .ok (.iconst 1, 1) := by decide +kernel
theorem dX5_readAhead_7 : decode cX5_readAhead 7 = .ok (.isub, 1) := by decide +kernel
theorem dX5_readAhead_8 : decode cX5_readAhead 8 = .ok (.invokevirtual 54, 3) := by decide +kernel
theorem dX5_readAhead_11 : decode cX5_readAhead 11 = .ok (.ifCond .ne 5, 3) := by decide +kernel
theorem dX5_readAhead_14 : decode cX5_readAhead 14 = .ok (.iconst 0, 1) := by decide +kernel
theorem dX5_readAhead_15 : decode cX5_readAhead 15 = .ok (.ireturn, 1) := by decide +kernel
theorem dX5_readAhead_16 : decode cX5_readAhead 16 = .ok (.aload_n 0, 1) := by decide +kernel
theorem dX5_readAhead_17 : decode cX5_readAhead 17 = .ok (.getfield 32, 3) := by decide +kernel
theorem dX5_readAhead_20 : decode cX5_readAhead 20 = .ok (.istore_n 2, 1) := by decide +kernel
theorem dX5_readAhead_21 : decode cX5_readAhead 21 = .ok (.aload_n 0, 1) := by decide +kernel
theorem dX5_readAhead_22 : decode cX5_readAhead 22 = .ok (.iload_n 2, 1) := by decide +kernel
theorem dX5_readAhead_23 : decode cX5_readAhead 23 = .ok (.iconst 1, 1) := by decide +kernel
theorem dX5_readAhead_24 : decode cX5_readAhead 24 = .ok (.iadd, 1) := by decide +kernel
theorem dX5_readAhead_25 : decode cX5_readAhead 25 = .ok (.aload_n 1, 1) := by decide +kernel
theorem dX5_readAhead_26 : decode cX5_readAhead 26 = .ok (.getfield 35, 3) := by decide +kernel
theorem dX5_readAhead_29 : decode cX5_readAhead 29 = .ok (.iconst 1, 1) := by decide +kernel
theorem dX5_readAhead_30 : decode cX5_readAhead 30 = .ok (.isub, 1) := by decide +kernel
theorem dX5_readAhead_31 : decode cX5_readAhead 31 = .ok (.invokevirtual 54, 3) := by decide +kernel
theorem dX5_readAhead_34 : decode cX5_readAhead 34 = .ok (.ifCond .ne 5, 3) := by decide +kernel
theorem dX5_readAhead_37 : decode cX5_readAhead 37 = .ok (.iconst 0, 1) := by decide +kernel
theorem dX5_readAhead_38 : decode cX5_readAhead 38 = .ok (.ireturn, 1) := by decide +kernel
theorem dX5_readAhead_39 : decode cX5_readAhead 39 = .ok (.aload_n 1, 1) := by decide +kernel
theorem dX5_readAhead_40 : decode cX5_readAhead 40 = .ok (.getfield 70, 3) := by decide +kernel
theorem dX5_readAhead_43 : decode cX5_readAhead 43 = .ok (.iload_n 2, 1) := by decide +kernel
theorem dX5_readAhead_44 : decode cX5_readAhead 44 = .ok (.dup2, 1) := by decide +kernel
theorem dX5_readAhead_45 : decode cX5_readAhead 45 = .ok (.iaload, 1) := by decide +kernel
theorem dX5_readAhead_46 : decode cX5_readAhead 46 = .ok (.iconst 1, 1) := by decide +kernel
theorem dX5_readAhead_47 : decode cX5_readAhead 47 = .ok (.aload_n 0, 1) := by decide +kernel
theorem dX5_readAhead_48 : decode cX5_readAhead 48 = .ok (.getfield 32, 3) := by decide +kernel
theorem dX5_readAhead_51 : decode cX5_readAhead 51 = .ok (.ishl, 1) := by decide +kernel
theorem dX5_readAhead_52 : decode cX5_readAhead 52 = .ok (.ior, 1) := by decide +kernel
theorem dX5_readAhead_53 : decode cX5_readAhead 53 = .ok (.iastore, 1) := by decide +kernel
theorem dX5_readAhead_54 : decode cX5_readAhead 54 = .ok (.iconst 1, 1) := by decide +kernel
theorem dX5_readAhead_55 : decode cX5_readAhead 55 = .ok (.ireturn, 1) := by decide +kernel
theorem dX5_readPrice_0 : decode cX5_readPrice 0 = .ok (.aload_n 0, 1) := by decide +kernel
theorem dX5_readPrice_1 : decode cX5_readPrice 1 = .ok (.iconst 0, 1) := by decide +kernel
theorem dX5_readPrice_2 : decode cX5_readPrice 2 = .ok (.bipush 99, 2) := by decide +kernel
theorem dX5_readPrice_4 : decode cX5_readPrice 4 = .ok (.invokevirtual 54, 3) := by decide +kernel
theorem dX5_readPrice_7 : decode cX5_readPrice 7 = .ok (.ifCond .ne 5, 3) := by decide +kernel
theorem dX5_readPrice_10 : decode cX5_readPrice 10 = .ok (.iconst 0, 1) := by decide +kernel
theorem dX5_readPrice_11 : decode cX5_readPrice 11 = .ok (.ireturn, 1) := by decide +kernel
theorem dX5_readPrice_12 : decode cX5_readPrice 12 = .ok (.aload_n 1, 1) := by decide +kernel
theorem dX5_readPrice_13 : decode cX5_readPrice 13 = .ok (.aload_n 0, 1) := by decide +kernel
theorem dX5_readPrice_14 : decode cX5_readPrice 14 = .ok (.getfield 32, 3) := by decide +kernel
theorem dX5_readPrice_17 : decode cX5_readPrice 17 = .ok (.putfield 73, 3) := by decide +kernel
theorem dX5_readPrice_20 : decode cX5_readPrice 20 = .ok (.aload_n 0, 1) := by decide +kernel
theorem dX5_readPrice_21 : decode cX5_readPrice 21 = .ok (.iconst 1, 1) := by decide +kernel
theorem dX5_readPrice_22 : decode cX5_readPrice 22 = .ok (.putfield 22, 3) := by decide +kernel
theorem dX5_readPrice_25 : decode cX5_readPrice 25 = .ok (.iconst 1, 1) := by decide +kernel
theorem dX5_readPrice_26 : decode cX5_readPrice 26 = .ok (.ireturn, 1) := by decide +kernel
theorem dX5_readEnd_0 : decode cX5_readEnd 0 = .ok (.aload_n 0, 1) := by decide +kernel
theorem dX5_readEnd_1 : decode cX5_readEnd 1 = .ok (.invokevirtual 26, 3) := by decide +kernel
theorem dX5_readEnd_4 : decode cX5_readEnd 4 = .ok (.aload_n 0, 1) := by decide +kernel
theorem dX5_readEnd_5 : decode cX5_readEnd 5 = .ok (.getfield 29, 3) := by decide +kernel
theorem dX5_readEnd_8 : decode cX5_readEnd 8 = .ok (.iconst 3, 1) := by decide +kernel
theorem dX5_readEnd_9 : decode cX5_readEnd 9 = .ok (.if_icmp .ne 7, 3) := by decide +kernel
theorem dX5_readEnd_12 : decode cX5_readEnd 12 = .ok (.iconst 1, 1) := by decide +kernel
theorem dX5_readEnd_13 : decode cX5_readEnd 13 = .ok (.goto 4, 3) := by decide +kernel
theorem dX5_readEnd_16 : decode cX5_readEnd 16 = .ok (.iconst 0, 1) := by decide +kernel
theorem dX5_readEnd_17 : decode cX5_readEnd 17 = .ok (.ireturn, 1) := by decide +kernel
theorem dX5_readNumber_0 : decode cX5_readNumber 0 = .ok (.aload_n 0, 1) := by decide +kernel
theorem dX5_readNumber_1 : decode cX5_readNumber 1 = .ok (.invokevirtual 26, 3) := by decide +kernel
theorem dX5_readNumber_4 : decode cX5_readNumber 4 = .ok (.aload_n 0, 1) := by decide +kernel
theorem dX5_readNumber_5 : decode cX5_readNumber 5 = .ok (.getfield 29, 3) := by decide +kernel
theorem dX5_readNumber_8 : decode cX5_readNumber 8 = .ok (.iconst 2, 1) := by decide +kernel
theorem dX5_readNumber_9 : decode cX5_readNumber 9 = .ok (.if_icmp .ne 23, 3) := by decide +kernel
theorem dX5_readNumber_12 : decode cX5_readNumber 12 = .ok (.aload_n 0, 1) := by decide +kernel
theorem dX5_readNumber_13 : decode cX5_readNumber 13 = .ok (.getfield 32, 3) := by decide +kernel
theorem dX5_readNumber_16 : decode cX5_readNumber 16 = .ok (.iload_n 1, 1) := by decide +kernel
theorem dX5_readNumber_17 : decode cX5_readNumber 17 = .ok (.if_icmp .lt 15, 3) := by decide +kernel
theorem dX5_readNumber_20 : decode cX5_readNumber 20 = .ok (.aload_n 0, 1) := by decide +kernel
theorem dX5_readNumber_21 : decode cX5_readNumber 21 = .ok (.getfield 32, 3) := by decide +kernel
theorem dX5_readNumber_24 : decode cX5_readNumber 24 = .ok (.iload_n 2, 1) := by decide +kernel
theorem dX5_readNumber_25 : decode cX5_readNumber 25 = .ok (.if_icmp .gt 7, 3) := by decide +kernel
theorem dX5_readNumber_28 : decode cX5_readNumber 28 = .ok (.iconst 1, 1) := by decide +kernel
theorem dX5_readNumber_29 : decode cX5_readNumber 29 = .ok (.goto 4, 3) := by decide +kernel
theorem dX5_readNumber_32 : decode cX5_readNumber 32 = .ok (.iconst 0, 1) := by decide +kernel
theorem dX5_readNumber_33 : decode cX5_readNumber 33 = .ok (.ireturn, 1) := by decide +kernel
theorem dX5_readToken_0 : decode cX5_readToken 0 = .ok (.aload_n 0, 1) := by decide +kernel
theorem dX5_readToken_1 : decode cX5_readToken 1 = .ok (.getfield 19, 3) := by decide +kernel
theorem dX5_readToken_4 : decode cX5_readToken 4 = .ok (.aload_n 0, 1) := by decide +kernel
theorem dX5_readToken_5 : decode cX5_readToken 5 = .ok (.getfield 15, 3) := by decide +kernel
theorem dX5_readToken_8 : decode cX5_readToken 8 = .ok (.if_icmp .ge 30, 3) := by decide +kernel
theorem dX5_readToken_11 : decode cX5_readToken 11 = .ok (.aload_n 0, 1) := by decide +kernel
theorem dX5_readToken_12 : decode cX5_readToken 12 = .ok (.getfield 9, 3) := by decide +kernel
theorem dX5_readToken_15 : decode cX5_readToken 15 = .ok (.aload_n 0, 1) := by decide +kernel
theorem dX5_readToken_16 : decode cX5_readToken 16 = .ok (.getfield 19, 3) := by decide +kernel
theorem dX5_readToken_19 : decode cX5_readToken 19 = .ok (.iaload, 1) := by decide +kernel
theorem dX5_readToken_20 : decode cX5_readToken 20 = .ok (.bipush 32, 2) := by decide +kernel
theorem dX5_readToken_22 : decode cX5_readToken 22 = .ok (.if_icmp .ne 16, 3) := by decide +kernel
theorem dX5_readToken_25 : decode cX5_readToken 25 = .ok (.aload_n 0, 1) := by decide +kernel
theorem dX5_readToken_26 : decode cX5_readToken 26 = .ok (.dup, 1) := by decide +kernel
theorem dX5_readToken_27 : decode cX5_readToken 27 = .ok (.getfield 19, 3) := by decide +kernel
theorem dX5_readToken_30 : decode cX5_readToken 30 = .ok (.iconst 1, 1) := by decide +kernel
theorem dX5_readToken_31 : decode cX5_readToken 31 = .ok (.iadd, 1) := by decide +kernel
theorem dX5_readToken_32 : decode cX5_readToken 32 = .ok (.putfield 19, 3) := by decide +kernel
theorem dX5_readToken_35 : decode cX5_readToken 35 = .ok (.goto (-35), 3) := by decide +kernel
theorem dX5_readToken_38 : decode cX5_readToken 38 = .ok (.aload_n 0, 1) := by decide +kernel
theorem dX5_readToken_39 : decode cX5_readToken 39 = .ok (.aload_n 0, 1) := by decide +kernel
theorem dX5_readToken_40 : decode cX5_readToken 40 = .ok (.getfield 19, 3) := by decide +kernel
theorem dX5_readToken_43 : decode cX5_readToken 43 = .ok (.putfield 76, 3) := by decide +kernel
theorem dX5_readToken_46 : decode cX5_readToken 46 = .ok (.aload_n 0, 1) := by decide +kernel
theorem dX5_readToken_47 : decode cX5_readToken 47 = .ok (.getfield 19, 3) := by decide +kernel
theorem dX5_readToken_50 : decode cX5_readToken 50 = .ok (.aload_n 0, 1) := by decide +kernel
theorem dX5_readToken_51 : decode cX5_readToken 51 = .ok (.getfield 15, 3) := by decide +kernel
theorem dX5_readToken_54 : decode cX5_readToken 54 = .ok (.if_icmp .lt 11, 3) := by decide +kernel
theorem dX5_readToken_57 : decode cX5_readToken 57 = .ok (.aload_n 0, 1) := by decide +kernel
theorem dX5_readToken_58 : decode cX5_readToken 58 = .ok (.iconst 0, 1) := by decide +kernel
theorem dX5_readToken_59 : decode cX5_readToken 59 = .ok (.putfield 29, 3) := by decide +kernel
theorem dX5_readToken_62 : decode cX5_readToken 62 = .ok (.goto 80, 3) := by decide +kernel
theorem dX5_readToken_65 : decode cX5_readToken 65 = .ok (.aload_n 0, 1) := by decide +kernel
theorem dX5_readToken_66 : decode cX5_readToken 66 = .ok (.getfield 9, 3) := by decide +kernel
theorem dX5_readToken_69 : decode cX5_readToken 69 = .ok (.aload_n 0, 1) := by decide +kernel
theorem dX5_readToken_70 : decode cX5_readToken 70 = .ok (.getfield 19, 3) := by decide +kernel
theorem dX5_readToken_73 : decode cX5_readToken 73 = .ok (.iaload, 1) := by decide +kernel
theorem dX5_readToken_74 : decode cX5_readToken 74 = .ok (.invokestatic 79, 3) := by decide +kernel
theorem dX5_readToken_77 : decode cX5_readToken 77 = .ok (.ifCond .eq 10, 3) := by decide +kernel
theorem dX5_readToken_80 : decode cX5_readToken 80 = .ok (.aload_n 0, 1) := by decide +kernel
theorem dX5_readToken_81 : decode cX5_readToken 81 = .ok (.invokevirtual 83, 3) := by decide +kernel
theorem dX5_readToken_84 : decode cX5_readToken 84 = .ok (.goto 58, 3) := by decide +kernel
theorem dX5_readToken_87 : decode cX5_readToken 87 = .ok (.aload_n 0, 1) := by decide +kernel
theorem dX5_readToken_88 : decode cX5_readToken 88 = .ok (.getfield 9, 3) := by decide +kernel
theorem dX5_readToken_91 : decode cX5_readToken 91 = .ok (.aload_n 0, 1) := by decide +kernel
theorem dX5_readToken_92 : decode cX5_readToken 92 = .ok (.getfield 19, 3) := by decide +kernel
theorem dX5_readToken_95 : decode cX5_readToken 95 = .ok (.iaload, 1) := by decide +kernel
theorem dX5_readToken_96 : decode cX5_readToken 96 = .ok (.invokestatic 86, 3) := by decide +kernel
theorem dX5_readToken_99 : decode cX5_readToken 99 = .ok (.ifCond .eq 10, 3) := by decide +kernel
theorem dX5_readToken_102 : decode cX5_readToken 102 = .ok (.aload_n 0, 1) := by decide +kernel
theorem dX5_readToken_103 : decode cX5_readToken 103 = .ok (.invokevirtual 89, 3) := by decide +kernel
theorem dX5_readToken_106 : decode cX5_readToken 106 = .ok (.goto 36, 3) := by decide +kernel
theorem dX5_readToken_109 : decode cX5_readToken 109 = .ok (.aload_n 0, 1) := by decide +kernel
theorem dX5_readToken_110 : decode cX5_readToken 110 = .ok (.aload_n 0, 1) := by decide +kernel
theorem dX5_readToken_111 : decode cX5_readToken 111 = .ok (.getfield 9, 3) := by decide +kernel
theorem dX5_readToken_114 : decode cX5_readToken 114 = .ok (.aload_n 0, 1) := by decide +kernel
theorem dX5_readToken_115 : decode cX5_readToken 115 = .ok (.getfield 19, 3) := by decide +kernel
theorem dX5_readToken_118 : decode cX5_readToken 118 = .ok (.iaload, 1) := by decide +kernel
theorem dX5_readToken_119 : decode cX5_readToken 119 = .ok (.bipush 59, 2) := by decide +kernel
theorem dX5_readToken_121 : decode cX5_readToken 121 = .ok (.if_icmp .ne 7, 3) := by decide +kernel
theorem dX5_readToken_124 : decode cX5_readToken 124 = .ok (.iconst 3, 1) := by decide +kernel
theorem dX5_readToken_125 : decode cX5_readToken 125 = .ok (.goto 4, 3) := by decide +kernel
theorem dX5_readToken_128 : decode cX5_readToken 128 = .ok (.iconst 4, 1) := by decide +kernel
theorem dX5_readToken_129 : decode cX5_readToken 129 = .ok (.putfield 29, 3) := by decide +kernel
theorem dX5_readToken_132 : decode cX5_readToken 132 = .ok (.aload_n 0, 1) := by decide +kernel
theorem dX5_readToken_133 : decode cX5_readToken 133 = .ok (.dup, 1) := by decide +kernel
theorem dX5_readToken_134 : decode cX5_readToken 134 = .ok (.getfield 19, 3) := by decide +kernel
theorem dX5_readToken_137 : decode cX5_readToken 137 = .ok (.iconst 1, 1) := by decide +kernel
theorem dX5_readToken_138 : decode cX5_readToken 138 = .ok (.iadd, 1) := by decide +kernel
theorem dX5_readToken_139 : decode cX5_readToken 139 = .ok (.putfield 19, 3) := by decide +kernel
theorem dX5_readToken_142 : decode cX5_readToken 142 = .ok (.return_, 1) := by decide +kernel
theorem dX5_takeLetters_0 : decode cX5_takeLetters 0 = .ok (.aload_n 0, 1) := by decide +kernel
theorem dX5_takeLetters_1 : decode cX5_takeLetters 1 = .ok (.iconst 1, 1) := by decide +kernel
theorem dX5_takeLetters_2 : decode cX5_takeLetters 2 = .ok (.putfield 29, 3) := by decide +kernel
theorem dX5_takeLetters_5 : decode cX5_takeLetters 5 = .ok (.aload_n 0, 1) := by decide +kernel
theorem dX5_takeLetters_6 : decode cX5_takeLetters 6 = .ok (.aload_n 0, 1) := by decide +kernel
theorem dX5_takeLetters_7 : decode cX5_takeLetters 7 = .ok (.getfield 9, 3) := by decide +kernel
theorem dX5_takeLetters_10 : decode cX5_takeLetters 10 = .ok (.aload_n 0, 1) := by decide +kernel
theorem dX5_takeLetters_11 : decode cX5_takeLetters 11 = .ok (.getfield 19, 3) := by decide +kernel
theorem dX5_takeLetters_14 : decode cX5_takeLetters 14 = .ok (.iaload, 1) := by decide +kernel
theorem dX5_takeLetters_15 : decode cX5_takeLetters 15 = .ok (.putfield 32, 3) := by decide +kernel
theorem dX5_takeLetters_18 : decode cX5_takeLetters 18 = .ok (.aload_n 0, 1) := by decide +kernel
theorem dX5_takeLetters_19 : decode cX5_takeLetters 19 = .ok (.dup, 1) := by decide +kernel
theorem dX5_takeLetters_20 : decode cX5_takeLetters 20 = .ok (.getfield 19, 3) := by decide +kernel
theorem dX5_takeLetters_23 : decode cX5_takeLetters 23 = .ok (.iconst 1, 1) := by decide +kernel
theorem dX5_takeLetters_24 : decode cX5_takeLetters 24 = .ok (.iadd, 1) := by decide +kernel
theorem dX5_takeLetters_25 : decode cX5_takeLetters 25 = .ok (.putfield 19, 3) := by decide +kernel
theorem dX5_takeLetters_28 : decode cX5_takeLetters 28 = .ok (.aload_n 0, 1) := by decide +kernel
theorem dX5_takeLetters_29 : decode cX5_takeLetters 29 = .ok (.getfield 19, 3) := by decide +kernel
theorem dX5_takeLetters_32 : decode cX5_takeLetters 32 = .ok (.aload_n 0, 1) := by decide +kernel
theorem dX5_takeLetters_33 : decode cX5_takeLetters 33 = .ok (.getfield 15, 3) := by decide +kernel
theorem dX5_takeLetters_36 : decode cX5_takeLetters 36 = .ok (.if_icmp .ge 36, 3) := by decide +kernel
theorem dX5_takeLetters_39 : decode cX5_takeLetters 39 = .ok (.aload_n 0, 1) := by decide +kernel
theorem dX5_takeLetters_40 : decode cX5_takeLetters 40 = .ok (.getfield 9, 3) := by decide +kernel
theorem dX5_takeLetters_43 : decode cX5_takeLetters 43 = .ok (.aload_n 0, 1) := by decide +kernel
theorem dX5_takeLetters_44 : decode cX5_takeLetters 44 = .ok (.getfield 19, 3) := by decide +kernel
theorem dX5_takeLetters_47 : decode cX5_takeLetters 47 = .ok (.iaload, 1) := by decide +kernel
theorem dX5_takeLetters_48 : decode cX5_takeLetters 48 = .ok (.invokestatic 79, 3) := by decide +kernel
theorem dX5_takeLetters_51 : decode cX5_takeLetters 51 = .ok (.ifCond .eq 21, 3) := by decide +kernel
theorem dX5_takeLetters_54 : decode cX5_takeLetters 54 = .ok (.aload_n 0, 1) := by decide +kernel
theorem dX5_takeLetters_55 : decode cX5_takeLetters 55 = .ok (.iconst 0, 1) := by decide +kernel
theorem dX5_takeLetters_56 : decode cX5_takeLetters 56 = .ok (.putfield 32, 3) := by decide +kernel
theorem dX5_takeLetters_59 : decode cX5_takeLetters 59 = .ok (.aload_n 0, 1) := by decide +kernel
theorem dX5_takeLetters_60 : decode cX5_takeLetters 60 = .ok (.dup, 1) := by decide +kernel
theorem dX5_takeLetters_61 : decode cX5_takeLetters 61 = .ok (.getfield 19, 3) := by decide +kernel
theorem dX5_takeLetters_64 : decode cX5_takeLetters 64 = .ok (.iconst 1, 1) := by decide +kernel
theorem dX5_takeLetters_65 : decode cX5_takeLetters 65 = .ok (.iadd, 1) := by decide +kernel
theorem dX5_takeLetters_66 : decode cX5_takeLetters 66 = .ok (.putfield 19, 3) := by decide +kernel
theorem dX5_takeLetters_69 : decode cX5_takeLetters 69 = .ok (.goto (-41), 3) := by decide +kernel
theorem dX5_takeLetters_72 : decode cX5_takeLetters 72 = .ok (.return_, 1) := by decide +kernel
theorem dX5_takeNumber_0 : decode cX5_takeNumber 0 = .ok (.aload_n 0, 1) := by decide +kernel
theorem dX5_takeNumber_1 : decode cX5_takeNumber 1 = .ok (.getfield 9, 3) := by decide +kernel
theorem dX5_takeNumber_4 : decode cX5_takeNumber 4 = .ok (.aload_n 0, 1) := by decide +kernel
theorem dX5_takeNumber_5 : decode cX5_takeNumber 5 = .ok (.getfield 19, 3) := by decide +kernel
theorem dX5_takeNumber_8 : decode cX5_takeNumber 8 = .ok (.iaload, 1) := by decide +kernel
theorem dX5_takeNumber_9 : decode cX5_takeNumber 9 = .ok (.bipush 48, 2) := by decide +kernel
theorem dX5_takeNumber_11 : decode cX5_takeNumber 11 = .ok (.if_icmp .ne 7, 3) := by decide +kernel
theorem dX5_takeNumber_14 : decode cX5_takeNumber 14 = .ok (.iconst 1, 1) := by decide +kernel
theorem dX5_takeNumber_15 : decode cX5_takeNumber 15 = .ok (.goto 4, 3) := by decide +kernel
theorem dX5_takeNumber_18 : decode cX5_takeNumber 18 = .ok (.iconst 0, 1) := by decide +kernel
theorem dX5_takeNumber_19 : decode cX5_takeNumber 19 = .ok (.istore_n 1, 1) := by decide +kernel
theorem dX5_takeNumber_20 : decode cX5_takeNumber 20 = .ok (.aload_n 0, 1) := by decide +kernel
theorem dX5_takeNumber_21 : decode cX5_takeNumber 21 = .ok (.iconst 0, 1) := by decide +kernel
theorem dX5_takeNumber_22 : decode cX5_takeNumber 22 = .ok (.putfield 32, 3) := by decide +kernel
theorem dX5_takeNumber_25 : decode cX5_takeNumber 25 = .ok (.aload_n 0, 1) := by decide +kernel
theorem dX5_takeNumber_26 : decode cX5_takeNumber 26 = .ok (.getfield 19, 3) := by decide +kernel
theorem dX5_takeNumber_29 : decode cX5_takeNumber 29 = .ok (.aload_n 0, 1) := by decide +kernel
theorem dX5_takeNumber_30 : decode cX5_takeNumber 30 = .ok (.getfield 15, 3) := by decide +kernel
theorem dX5_takeNumber_33 : decode cX5_takeNumber 33 = .ok (.if_icmp .ge 64, 3) := by decide +kernel
theorem dX5_takeNumber_36 : decode cX5_takeNumber 36 = .ok (.aload_n 0, 1) := by decide +kernel
theorem dX5_takeNumber_37 : decode cX5_takeNumber 37 = .ok (.getfield 9, 3) := by decide +kernel
theorem dX5_takeNumber_40 : decode cX5_takeNumber 40 = .ok (.aload_n 0, 1) := by decide +kernel
theorem dX5_takeNumber_41 : decode cX5_takeNumber 41 = .ok (.getfield 19, 3) := by decide +kernel
theorem dX5_takeNumber_44 : decode cX5_takeNumber 44 = .ok (.iaload, 1) := by decide +kernel
theorem dX5_takeNumber_45 : decode cX5_takeNumber 45 = .ok (.invokestatic 86, 3) := by decide +kernel
theorem dX5_takeNumber_48 : decode cX5_takeNumber 48 = .ok (.ifCond .eq 49, 3) := by decide +kernel
theorem dX5_takeNumber_51 : decode cX5_takeNumber 51 = .ok (.aload_n 0, 1) := by decide +kernel
theorem dX5_takeNumber_52 : decode cX5_takeNumber 52 = .ok (.getfield 32, 3) := by decide +kernel
theorem dX5_takeNumber_55 : decode cX5_takeNumber 55 = .ok (.bipush 99, 2) := by decide +kernel
theorem dX5_takeNumber_57 : decode cX5_takeNumber 57 = .ok (.if_icmp .gt 27, 3) := by decide +kernel
theorem dX5_takeNumber_60 : decode cX5_takeNumber 60 = .ok (.aload_n 0, 1) := by decide +kernel
theorem dX5_takeNumber_61 : decode cX5_takeNumber 61 = .ok (.aload_n 0, 1) := by decide +kernel
theorem dX5_takeNumber_62 : decode cX5_takeNumber 62 = .ok (.getfield 32, 3) := by decide +kernel
theorem dX5_takeNumber_65 : decode cX5_takeNumber 65 = .ok (.bipush 10, 2) := by decide +kernel
theorem dX5_takeNumber_67 : decode cX5_takeNumber 67 = .ok (.imul, 1) := by decide +kernel
theorem dX5_takeNumber_68 : decode cX5_takeNumber 68 = .ok (.aload_n 0, 1) := by decide +kernel
theorem dX5_takeNumber_69 : decode cX5_takeNumber 69 = .ok (.getfield 9, 3) := by decide +kernel
theorem dX5_takeNumber_72 : decode cX5_takeNumber 72 = .ok (.aload_n 0, 1) := by decide +kernel
theorem dX5_takeNumber_73 : decode cX5_takeNumber 73 = .ok (.getfield 19, 3) := by decide +kernel
theorem dX5_takeNumber_76 : decode cX5_takeNumber 76 = .ok (.iaload, 1) := by decide +kernel
theorem dX5_takeNumber_77 : decode cX5_takeNumber 77 = .ok (.iadd, 1) := by decide +kernel
theorem dX5_takeNumber_78 : decode cX5_takeNumber 78 = .ok (.bipush 48, 2) := by decide +kernel
theorem dX5_takeNumber_80 : decode cX5_takeNumber 80 = .ok (.isub, 1) := by decide +kernel
theorem dX5_takeNumber_81 : decode cX5_takeNumber 81 = .ok (.putfield 32, 3) := by decide +kernel
theorem dX5_takeNumber_84 : decode cX5_takeNumber 84 = .ok (.aload_n 0, 1) := by decide +kernel
theorem dX5_takeNumber_85 : decode cX5_takeNumber 85 = .ok (.dup, 1) := by decide +kernel
theorem dX5_takeNumber_86 : decode cX5_takeNumber 86 = .ok (.getfield 19, 3) := by decide +kernel
theorem dX5_takeNumber_89 : decode cX5_takeNumber 89 = .ok (.iconst 1, 1) := by decide +kernel
theorem dX5_takeNumber_90 : decode cX5_takeNumber 90 = .ok (.iadd, 1) := by decide +kernel
theorem dX5_takeNumber_91 : decode cX5_takeNumber 91 = .ok (.putfield 19, 3) := by decide +kernel
theorem dX5_takeNumber_94 : decode cX5_takeNumber 94 = .ok (.goto (-69), 3) := by decide +kernel
theorem dX5_takeNumber_97 : decode cX5_takeNumber 97 = .ok (.aload_n 0, 1) := by decide +kernel
theorem dX5_takeNumber_98 : decode cX5_takeNumber 98 = .ok (.getfield 19, 3) := by decide +kernel
theorem dX5_takeNumber_101 : decode cX5_takeNumber 101 = .ok (.aload_n 0, 1) := by decide +kernel
theorem dX5_takeNumber_102 : decode cX5_takeNumber 102 = .ok (.getfield 76, 3) := by decide +kernel
theorem dX5_takeNumber_105 : decode cX5_takeNumber 105 = .ok (.isub, 1) := by decide +kernel
theorem dX5_takeNumber_106 : decode cX5_takeNumber 106 = .ok (.iconst 1, 1) := by decide +kernel
theorem dX5_takeNumber_107 : decode cX5_takeNumber 107 = .ok (.if_icmp .le 7, 3) := by decide +kernel
theorem dX5_takeNumber_110 : decode cX5_takeNumber 110 = .ok (.iconst 1, 1) := by decide +kernel
theorem dX5_takeNumber_111 : decode cX5_takeNumber 111 = .ok (.goto 4, 3) := by decide +kernel
theorem dX5_takeNumber_114 : decode cX5_takeNumber 114 = .ok (.iconst 0, 1) := by decide +kernel
theorem dX5_takeNumber_115 : decode cX5_takeNumber 115 = .ok (.istore_n 2, 1) := by decide +kernel
theorem dX5_takeNumber_116 : decode cX5_takeNumber 116 = .ok (.aload_n 0, 1) := by decide +kernel
theorem dX5_takeNumber_117 : decode cX5_takeNumber 117 = .ok (.aload_n 0, 1) := by decide +kernel
theorem dX5_takeNumber_118 : decode cX5_takeNumber 118 = .ok (.getfield 32, 3) := by decide +kernel
theorem dX5_takeNumber_121 : decode cX5_takeNumber 121 = .ok (.bipush 99, 2) := by decide +kernel
theorem dX5_takeNumber_123 : decode cX5_takeNumber 123 = .ok (.if_icmp .gt 11, 3) := by decide +kernel
theorem dX5_takeNumber_126 : decode cX5_takeNumber 126 = .ok (.iload_n 1, 1) := by decide +kernel
theorem dX5_takeNumber_127 : decode cX5_takeNumber 127 = .ok (.ifCond .eq 11, 3) := by decide +kernel
theorem dX5_takeNumber_130 : decode cX5_takeNumber 130 = .ok (.iload_n 2, 1) := by decide +kernel
theorem dX5_takeNumber_131 : decode cX5_takeNumber 131 = .ok (.ifCond .eq 7, 3) := by decide +kernel
theorem dX5_takeNumber_134 : decode cX5_takeNumber 134 = .ok (.iconst 4, 1) := by decide +kernel
theorem dX5_takeNumber_135 : decode cX5_takeNumber 135 = .ok (.goto 4, 3) := by decide +kernel
theorem dX5_takeNumber_138 : decode cX5_takeNumber 138 = .ok (.iconst 2, 1) := by decide +kernel
theorem dX5_takeNumber_139 : decode cX5_takeNumber 139 = .ok (.putfield 29, 3) := by decide +kernel
theorem dX5_takeNumber_142 : decode cX5_takeNumber 142 = .ok (.return_, 1) := by decide +kernel
theorem dX5_isLetter_0 : decode cX5_isLetter 0 = .ok (.iload_n 0, 1) := by decide +kernel
theorem dX5_isLetter_1 : decode cX5_isLetter 1 = .ok (.bipush 97, 2) := by decide +kernel
theorem dX5_isLetter_3 : decode cX5_isLetter 3 = .ok (.if_icmp .lt 13, 3) := by decide +kernel
theorem dX5_isLetter_6 : decode cX5_isLetter 6 = .ok (.iload_n 0, 1) := by decide +kernel
theorem dX5_isLetter_7 : decode cX5_isLetter 7 = .ok (.bipush 122, 2) := by decide +kernel
theorem dX5_isLetter_9 : decode cX5_isLetter 9 = .ok (.if_icmp .gt 7, 3) := by decide +kernel
theorem dX5_isLetter_12 : decode cX5_isLetter 12 = .ok (.iconst 1, 1) := by decide +kernel
theorem dX5_isLetter_13 : decode cX5_isLetter 13 = .ok (.goto 4, 3) := by decide +kernel
theorem dX5_isLetter_16 : decode cX5_isLetter 16 = .ok (.iconst 0, 1) := by decide +kernel
theorem dX5_isLetter_17 : decode cX5_isLetter 17 = .ok (.ireturn, 1) := by decide +kernel
theorem dX5_isDigit_0 : decode cX5_isDigit 0 = .ok (.iload_n 0, 1) := by decide +kernel
theorem dX5_isDigit_1 : decode cX5_isDigit 1 = .ok (.bipush 48, 2) := by decide +kernel
theorem dX5_isDigit_3 : decode cX5_isDigit 3 = .ok (.if_icmp .lt 13, 3) := by decide +kernel
theorem dX5_isDigit_6 : decode cX5_isDigit 6 = .ok (.iload_n 0, 1) := by decide +kernel
theorem dX5_isDigit_7 : decode cX5_isDigit 7 = .ok (.bipush 57, 2) := by decide +kernel
theorem dX5_isDigit_9 : decode cX5_isDigit 9 = .ok (.if_icmp .gt 7, 3) := by decide +kernel
theorem dX5_isDigit_12 : decode cX5_isDigit 12 = .ok (.iconst 1, 1) := by decide +kernel
theorem dX5_isDigit_13 : decode cX5_isDigit 13 = .ok (.goto 4, 3) := by decide +kernel
theorem dX5_isDigit_16 : decode cX5_isDigit 16 = .ok (.iconst 0, 1) := by decide +kernel
theorem dX5_isDigit_17 : decode cX5_isDigit 17 = .ok (.ireturn, 1) := by decide +kernel
theorem dX6_init_0 : decode cX6_init 0 = .ok (.aload_n 0, 1) := by decide +kernel
theorem dX6_init_1 : decode cX6_init 1 = .ok (.invokespecial 3, 3) := by decide +kernel
theorem dX6_init_4 : decode cX6_init 4 = .ok (.aload_n 0, 1) := by decide +kernel
theorem dX6_init_5 : decode cX6_init 5 = .ok (.new 9, 3) := by decide +kernel
theorem dX6_init_8 : decode cX6_init 8 = .ok (.dup, 1) := by decide +kernel
theorem dX6_init_9 : decode cX6_init 9 = .ok (.invokespecial 11, 3) := by decide +kernel
theorem dX6_init_12 : decode cX6_init 12 = .ok (.putfield 12, 3) := by decide +kernel
theorem dX6_init_15 : decode cX6_init 15 = .ok (.aload_n 0, 1) := by decide +kernel
theorem dX6_init_16 : decode cX6_init 16 = .ok (.new 16, 3) := by decide +kernel
theorem dX6_init_19 : decode cX6_init 19 = .ok (.dup, 1) := by decide +kernel
theorem dX6_init_20 : decode cX6_init 20 = .ok (.invokespecial 18, 3) := by decide +kernel
theorem dX6_init_23 : decode cX6_init 23 = .ok (.putfield 19, 3) := by decide +kernel
theorem dX6_init_26 : decode cX6_init 26 = .ok (.aload_n 0, 1) := by decide +kernel
theorem dX6_init_27 : decode cX6_init 27 = .ok (.new 16, 3) := by decide +kernel
theorem dX6_init_30 : decode cX6_init 30 = .ok (.dup, 1) := by decide +kernel
theorem dX6_init_31 : decode cX6_init 31 = .ok (.invokespecial 18, 3) := by decide +kernel
theorem dX6_init_34 : decode cX6_init 34 = .ok (.putfield 23, 3) := by decide +kernel
theorem dX6_init_37 : decode cX6_init 37 = .ok (.aload_n 0, 1) := by decide +kernel
theorem dX6_init_38 : decode cX6_init 38 = .ok (.new 26, 3) := by decide +kernel
theorem dX6_init_41 : decode cX6_init 41 = .ok (.dup, 1) := by decide +kernel
theorem dX6_init_42 : decode cX6_init 42 = .ok (.invokespecial 28, 3) := by decide +kernel
theorem dX6_init_45 : decode cX6_init 45 = .ok (.putfield 29, 3) := by decide +kernel
theorem dX6_init_48 : decode cX6_init 48 = .ok (.aload_n 0, 1) := by decide +kernel
theorem dX6_init_49 : decode cX6_init 49 = .ok (.iconst 2, 1) := by decide +kernel
theorem dX6_init_50 : decode cX6_init 50 = .ok (.anewarray 26, 3) := by decide +kernel
theorem dX6_init_53 : decode cX6_init 53 = .ok (.dup, 1) := by decide +kernel
theorem dX6_init_54 : decode cX6_init 54 = .ok (.iconst 0, 1) := by decide +kernel
theorem dX6_init_55 : decode cX6_init 55 = .ok (.new 26, 3) := by decide +kernel
theorem dX6_init_58 : decode cX6_init 58 = .ok (.dup, 1) := by decide +kernel
theorem dX6_init_59 : decode cX6_init 59 = .ok (.invokespecial 28, 3) := by decide +kernel
theorem dX6_init_62 : decode cX6_init 62 = .ok (.aastore, 1) := by decide +kernel
theorem dX6_init_63 : decode cX6_init 63 = .ok (.dup, 1) := by decide +kernel
theorem dX6_init_64 : decode cX6_init 64 = .ok (.iconst 1, 1) := by decide +kernel
theorem dX6_init_65 : decode cX6_init 65 = .ok (.new 26, 3) := by decide +kernel
theorem dX6_init_68 : decode cX6_init 68 = .ok (.dup, 1) := by decide +kernel
theorem dX6_init_69 : decode cX6_init 69 = .ok (.invokespecial 28, 3) := by decide +kernel
theorem dX6_init_72 : decode cX6_init 72 = .ok (.aastore, 1) := by decide +kernel
theorem dX6_init_73 : decode cX6_init 73 = .ok (.putfield 33, 3) := by decide +kernel
theorem dX6_init_76 : decode cX6_init 76 = .ok (.aload_n 0, 1) := by decide +kernel
theorem dX6_init_77 : decode cX6_init 77 = .ok (.iconst 2, 1) := by decide +kernel
theorem dX6_init_78 : decode cX6_init 78 = .ok (.newarray .boolean, 2) := by decide +kernel
theorem dX6_init_80 : decode cX6_init 80 = .ok (.putfield 37, 3) := by decide +kernel
theorem dX6_init_83 : decode cX6_init 83 = .ok (.aload_n 0, 1) := by decide +kernel
theorem dX6_init_84 : decode cX6_init 84 = .ok (.bipush 6, 2) := by decide +kernel
theorem dX6_init_86 : decode cX6_init 86 = .ok (.newarray .int, 2) := by decide +kernel
theorem dX6_init_88 : decode cX6_init 88 = .ok (.putfield 41, 3) := by decide +kernel
theorem dX6_init_91 : decode cX6_init 91 = .ok (.aload_n 0, 1) := by decide +kernel
theorem dX6_init_92 : decode cX6_init 92 = .ok (.bipush 6, 2) := by decide +kernel
theorem dX6_init_94 : decode cX6_init 94 = .ok (.newarray .int, 2) := by decide +kernel
theorem dX6_init_96 : decode cX6_init 96 = .ok (.putfield 45, 3) := by decide +kernel
theorem dX6_init_99 : decode cX6_init 99 = .ok (.aload_n 0, 1) := by decide +kernel
theorem dX6_init_100 : decode cX6_init 100 = .ok (.new 48, 3) := by decide +kernel
theorem dX6_init_103 : decode cX6_init 103 = .ok (.dup, 1) := by decide +kernel
theorem dX6_init_104 : decode cX6_init 104 = .ok (.invokespecial 50, 3) := by decide +kernel
theorem dX6_init_107 : decode cX6_init 107 = .ok (.putfield 51, 3) := by decide +kernel
theorem dX6_init_110 : decode cX6_init 110 = .ok (.aload_n 0, 1) := by decide +kernel
theorem dX6_init_111 : decode cX6_init 111 = .ok (.new 55, 3) := by decide +kernel
theorem dX6_init_114 : decode cX6_init 114 = .ok (.dup, 1) := by decide +kernel
theorem dX6_init_115 : decode cX6_init 115 = .ok (.invokespecial 57, 3) := by decide +kernel
theorem dX6_init_118 : decode cX6_init 118 = .ok (.putfield 58, 3) := by decide +kernel
theorem dX6_init_121 : decode cX6_init 121 = .ok (.aload_n 0, 1) := by decide +kernel
theorem dX6_init_122 : decode cX6_init 122 = .ok (.iconst 5, 1) := by decide +kernel
theorem dX6_init_123 : decode cX6_init 123 = .ok (.newarray .int, 2) := by decide +kernel
theorem dX6_init_125 : decode cX6_init 125 = .ok (.putfield 62, 3) := by decide +kernel
theorem dX6_init_128 : decode cX6_init 128 = .ok (.aload_n 0, 1) := by decide +kernel
theorem dX6_init_129 : decode cX6_init 129 = .ok (.iconst 5, 1) := by decide +kernel
theorem dX6_init_130 : decode cX6_init 130 = .ok (.newarray .int, 2) := by decide +kernel
theorem dX6_init_132 : decode cX6_init 132 = .ok (.putfield 65, 3) := by decide +kernel
theorem dX6_init_135 : decode cX6_init 135 = .ok (.return_, 1) := by decide +kernel
theorem dX6_type_0 : decode cX6_type 0 = .ok (.iload_n 1, 1) := by decide +kernel
theorem dX6_type_1 : decode cX6_type 1 = .ok (.ifCond .lt 10, 3) := by decide +kernel
theorem dX6_type_4 : decode cX6_type 4 = .ok (.iload_n 1, 1) := by decide +kernel
theorem dX6_type_5 : decode cX6_type 5 = .ok (.sipush 255, 3) := by decide +kernel
theorem dX6_type_8 : decode cX6_type 8 = .ok (.if_icmp .le 5, 3) := by decide +kernel
theorem dX6_type_11 : decode cX6_type 11 = .ok (.iconst (-1), 1) := by decide +kernel
theorem dX6_type_12 : decode cX6_type 12 = .ok (.ireturn, 1) := by decide +kernel
theorem dX6_type_13 : decode cX6_type 13 = .ok (.aload_n 0, 1) := by decide +kernel
theorem dX6_type_14 : decode cX6_type 14 = .ok (.getfield 12, 3) := by decide +kernel
theorem dX6_type_17 : decode cX6_type 17 = .ok (.iload_n 1, 1) := by decide +kernel
theorem dX6_type_18 : decode cX6_type 18 = .ok (.invokevirtual 68, 3) := by decide +kernel
theorem dX6_type_21 : decode cX6_type 21 = .ok (.ifCond .eq 13, 3) := by decide +kernel
theorem dX6_type_24 : decode cX6_type 24 = .ok (.aload_n 0, 1) := by decide +kernel
theorem dX6_type_25 : decode cX6_type 25 = .ok (.getfield 12, 3) := by decide +kernel
theorem dX6_type_28 : decode cX6_type 28 = .ok (.getfield 72, 3) := by decide +kernel
theorem dX6_type_31 : decode cX6_type 31 = .ok (.goto 5, 3) := by decide +kernel
theorem dX6_type_34 : decode cX6_type 34 = .ok (.bipush (-3), 2) := by decide +kernel
theorem dX6_type_36 : decode cX6_type 36 = .ok (.ireturn, 1) := by decide +kernel
theorem dX6_clear_0 : decode cX6_clear 0 = .ok (.aload_n 0, 1) := by decide +kernel
theorem dX6_clear_1 : decode cX6_clear 1 = .ok (.getfield 12, 3) := by decide +kernel
theorem dX6_clear_4 : decode cX6_clear 4 = .ok (.getfield 72, 3) := by decide +kernel
theorem dX6_clear_7 : decode cX6_clear 7 = .ok (.istore_n 1, 1) := by decide +kernel
theorem dX6_clear_8 : decode cX6_clear 8 = .ok (.aload_n 0, 1) := by decide +kernel
theorem dX6_clear_9 : decode cX6_clear 9 = .ok (.getfield 12, 3) := by decide +kernel
theorem dX6_clear_12 : decode cX6_clear 12 = .ok (.iconst 0, 1) := by decide +kernel
theorem dX6_clear_13 : decode cX6_clear 13 = .ok (.putfield 72, 3) := by decide +kernel
theorem dX6_clear_16 : decode cX6_clear 16 = .ok (.iload_n 1, 1) := by decide +kernel
theorem dX6_clear_17 : decode cX6_clear 17 = .ok (.ireturn, 1) := by decide +kernel
theorem dX6_shop_0 : decode cX6_shop 0 = .ok (.aload_n 0, 1) := by decide +kernel
theorem dX6_shop_1 : decode cX6_shop 1 = .ok (.getfield 23, 3) := by decide +kernel
theorem dX6_shop_4 : decode cX6_shop 4 = .ok (.invokevirtual 76, 3) := by decide +kernel
theorem dX6_shop_7 : decode cX6_shop 7 = .ok (.aload_n 0, 1) := by decide +kernel
theorem dX6_shop_8 : decode cX6_shop 8 = .ok (.getfield 12, 3) := by decide +kernel
theorem dX6_shop_11 : decode cX6_shop 11 = .ok (.aload_n 0, 1) := by decide +kernel
theorem dX6_shop_12 : decode cX6_shop 12 = .ok (.getfield 23, 3) := by decide +kernel
theorem dX6_shop_15 : decode cX6_shop 15 = .ok (.invokevirtual 79, 3) := by decide +kernel
theorem dX6_shop_18 : decode cX6_shop 18 = .ok (.istore_n 1, 1) := by decide +kernel
theorem dX6_shop_19 : decode cX6_shop 19 = .ok (.iload_n 1, 1) := by decide +kernel
theorem dX6_shop_20 : decode cX6_shop 20 = .ok (.ifCond .ge 14, 3) := by decide +kernel
theorem dX6_shop_23 : decode cX6_shop 23 = .ok (.bipush (-10), 2) := by decide +kernel
theorem dX6_shop_25 : decode cX6_shop 25 = .ok (.aload_n 0, 1) := by decide +kernel
theorem dX6_shop_26 : decode cX6_shop 26 = .ok (.getfield 12, 3) := by decide +kernel
theorem dX6_shop_29 : decode cX6_shop 29 = .ok (.getfield 83, 3) := by decide +kernel
theorem dX6_shop_32 : decode cX6_shop 32 = .ok (.isub, 1) := by decide +kernel
theorem dX6_shop_33 : decode cX6_shop 33 = .ok (.ireturn, 1) := by decide +kernel
theorem dX6_shop_34 : decode cX6_shop 34 = .ok (.aload_n 0, 1) := by decide +kernel
theorem dX6_shop_35 : decode cX6_shop 35 = .ok (.getfield 19, 3) := by decide +kernel
theorem dX6_shop_38 : decode cX6_shop 38 = .ok (.astore_n 2, 1) := by decide +kernel
theorem dX6_shop_39 : decode cX6_shop 39 = .ok (.aload_n 0, 1) := by decide +kernel
theorem dX6_shop_40 : decode cX6_shop 40 = .ok (.aload_n 0, 1) := by decide +kernel
theorem dX6_shop_41 : decode cX6_shop 41 = .ok (.getfield 23, 3) := by decide +kernel
theorem dX6_shop_44 : decode cX6_shop 44 = .ok (.putfield 19, 3) := by decide +kernel
theorem dX6_shop_47 : decode cX6_shop 47 = .ok (.aload_n 0, 1) := by decide +kernel
theorem dX6_shop_48 : decode cX6_shop 48 = .ok (.aload_n 2, 1) := by decide +kernel
theorem dX6_shop_49 : decode cX6_shop 49 = .ok (.putfield 23, 3) := by decide +kernel
theorem dX6_shop_52 : decode cX6_shop 52 = .ok (.aload_n 0, 1) := by decide +kernel
theorem dX6_shop_53 : decode cX6_shop 53 = .ok (.getfield 12, 3) := by decide +kernel
theorem dX6_shop_56 : decode cX6_shop 56 = .ok (.iconst 0, 1) := by decide +kernel
theorem dX6_shop_57 : decode cX6_shop 57 = .ok (.putfield 72, 3) := by decide +kernel
theorem dX6_shop_60 : decode cX6_shop 60 = .ok (.aload_n 0, 1) := by decide +kernel
theorem dX6_shop_61 : decode cX6_shop 61 = .ok (.getfield 29, 3) := by decide +kernel
theorem dX6_shop_64 : decode cX6_shop 64 = .ok (.aload_n 0, 1) := by decide +kernel
theorem dX6_shop_65 : decode cX6_shop 65 = .ok (.getfield 19, 3) := by decide +kernel
theorem dX6_shop_68 : decode cX6_shop 68 = .ok (.invokevirtual 86, 3) := by decide +kernel
theorem dX6_shop_71 : decode cX6_shop 71 = .ok (.aload_n 0, 1) := by decide +kernel
theorem dX6_shop_72 : decode cX6_shop 72 = .ok (.iconst 0, 1) := by decide +kernel
theorem dX6_shop_73 : decode cX6_shop 73 = .ok (.putfield 90, 3) := by decide +kernel
theorem dX6_shop_76 : decode cX6_shop 76 = .ok (.iconst 0, 1) := by decide +kernel
theorem dX6_shop_77 : decode cX6_shop 77 = .ok (.istore_n 3, 1) := by decide +kernel
theorem dX6_shop_78 : decode cX6_shop 78 = .ok (.iload_n 3, 1) := by decide +kernel
theorem dX6_shop_79 : decode cX6_shop 79 = .ok (.iconst 2, 1) := by decide +kernel
theorem dX6_shop_80 : decode cX6_shop 80 = .ok (.if_icmp .ge 16, 3) := by decide +kernel
theorem dX6_shop_83 : decode cX6_shop 83 = .ok (.aload_n 0, 1) := by decide +kernel
theorem dX6_shop_84 : decode cX6_shop 84 = .ok (.getfield 37, 3) := by decide +kernel
theorem dX6_shop_87 : decode cX6_shop 87 = .ok (.iload_n 3, 1) := by decide +kernel
theorem dX6_shop_88 : decode cX6_shop 88 = .ok (.iconst 0, 1) := by decide +kernel
theorem dX6_shop_89 : decode cX6_shop 89 = .ok (.bastore, 1) := by decide +kernel
theorem dX6_shop_90 : decode cX6_shop 90 = .ok (.iinc 3 1, 3) := by decide +kernel
theorem dX6_shop_93 : decode cX6_shop 93 = .ok (.goto (-15), 3) := by decide +kernel
theorem dX6_shop_96 : decode cX6_shop 96 = .ok (.iload_n 1, 1) := by decide +kernel
theorem dX6_shop_97 : decode cX6_shop 97 = .ok (.ireturn, 1) := by decide +kernel
theorem dX6_step_0 : decode cX6_step 0 = .ok (.aload_n 0, 1) := by decide +kernel
theorem dX6_step_1 : decode cX6_step 1 = .ok (.iload_n 1, 1) := by decide +kernel
theorem dX6_step_2 : decode cX6_step 2 = .ok (.invokevirtual 93, 3) := by decide +kernel
theorem dX6_step_5 : decode cX6_step 5 = .ok (.ifCond .ne 5, 3) := by decide +kernel
theorem dX6_step_8 : decode cX6_step 8 = .ok (.iconst (-1), 1) := by decide +kernel
theorem dX6_step_9 : decode cX6_step 9 = .ok (.ireturn, 1) := by decide +kernel
theorem dX6_step_10 : decode cX6_step 10 = .ok (.aload_n 0, 1) := by decide +kernel
theorem dX6_step_11 : decode cX6_step 11 = .ok (.getfield 29, 3) := by decide +kernel
theorem dX6_step_14 : decode cX6_step 14 = .ok (.getfield 96, 3) := by decide +kernel
theorem dX6_step_17 : decode cX6_step 17 = .ok (.astore_n 3, 1) := by decide +kernel
theorem dX6_step_18 : decode cX6_step 18 = .ok (.iload_n 2, 1) := by decide +kernel
theorem dX6_step_19 : decode cX6_step 19 = .ok (.tableswitch 121 0 7 #[45, 55, 62, 72, 82, 91, 98, 111], 45) := by decide +kernel
theorem dX6_step_64 : decode cX6_step 64 = .ok (.aload_n 0, 1) := by decide +kernel
theorem dX6_step_65 : decode cX6_step 65 = .ok (.getfield 19, 3) := by decide +kernel
theorem dX6_step_68 : decode cX6_step 68 = .ok (.getfield 100, 3) := by decide +kernel
theorem dX6_step_71 : decode cX6_step 71 = .ok (.iload_n 1, 1) := by decide +kernel
theorem dX6_step_72 : decode cX6_step 72 = .ok (.iaload, 1) := by decide +kernel
theorem dX6_step_73 : decode cX6_step 73 = .ok (.ireturn, 1) := by decide +kernel
theorem dX6_step_74 : decode cX6_step 74 = .ok (.aload_n 3, 1) := by decide +kernel
theorem dX6_step_75 : decode cX6_step 75 = .ok (.getfield 103, 3) := by decide +kernel
theorem dX6_step_78 : decode cX6_step 78 = .ok (.iload_n 1, 1) := by decide +kernel
theorem dX6_step_79 : decode cX6_step 79 = .ok (.iaload, 1) := by decide +kernel
theorem dX6_step_80 : decode cX6_step 80 = .ok (.ireturn, 1) := by decide +kernel
theorem dX6_step_81 : decode cX6_step 81 = .ok (.aload_n 0, 1) := by decide +kernel
theorem dX6_step_82 : decode cX6_step 82 = .ok (.getfield 19, 3) := by decide +kernel
theorem dX6_step_85 : decode cX6_step 85 = .ok (.getfield 108, 3) := by decide +kernel
theorem dX6_step_88 : decode cX6_step 88 = .ok (.iload_n 1, 1) := by decide +kernel
theorem dX6_step_89 : decode cX6_step 89 = .ok (.iaload, 1) := by decide +kernel
theorem dX6_step_90 : decode cX6_step 90 = .ok (.ireturn, 1) := by decide +kernel
theorem dX6_step_91 : decode cX6_step 91 = .ok (.aload_n 0, 1) := by decide +kernel
theorem dX6_step_92 : decode cX6_step 92 = .ok (.getfield 19, 3) := by decide +kernel
theorem dX6_step_95 : decode cX6_step 95 = .ok (.getfield 111, 3) := by decide +kernel
theorem dX6_step_98 : decode cX6_step 98 = .ok (.iload_n 1, 1) := by decide +kernel
theorem dX6_step_99 : decode cX6_step 99 = .ok (.iaload, 1) := by decide +kernel
theorem dX6_step_100 : decode cX6_step 100 = .ok (.ireturn, 1) := by decide +kernel
theorem dX6_step_101 : decode cX6_step 101 = .ok (.aload_n 3, 1) := by decide +kernel
theorem dX6_step_102 : decode cX6_step 102 = .ok (.getfield 114, 3) := by decide +kernel
theorem dX6_step_105 : decode cX6_step 105 = .ok (.iload_n 1, 1) := by decide +kernel
theorem dX6_step_106 : decode cX6_step 106 = .ok (.ishr, 1) := by decide +kernel
theorem dX6_step_107 : decode cX6_step 107 = .ok (.iconst 1, 1) := by decide +kernel
theorem dX6_step_108 : decode cX6_step 108 = .ok (.iand, 1) := by decide +kernel
theorem dX6_step_109 : decode cX6_step 109 = .ok (.ireturn, 1) := by decide +kernel
theorem dX6_step_110 : decode cX6_step 110 = .ok (.aload_n 3, 1) := by decide +kernel
theorem dX6_step_111 : decode cX6_step 111 = .ok (.getfield 117, 3) := by decide +kernel
theorem dX6_step_114 : decode cX6_step 114 = .ok (.iload_n 1, 1) := by decide +kernel
theorem dX6_step_115 : decode cX6_step 115 = .ok (.iaload, 1) := by decide +kernel
theorem dX6_step_116 : decode cX6_step 116 = .ok (.ireturn, 1) := by decide +kernel
theorem dX6_step_117 : decode cX6_step 117 = .ok (.aload_n 3, 1) := by decide +kernel
theorem dX6_step_118 : decode cX6_step 118 = .ok (.iload_n 1, 1) := by decide +kernel
theorem dX6_step_119 : decode cX6_step 119 = .ok (.aload_n 0, 1) := by decide +kernel
theorem dX6_step_120 : decode cX6_step 120 = .ok (.getfield 19, 3) := by decide +kernel
theorem dX6_step_123 : decode cX6_step 123 = .ok (.getfield 120, 3) := by decide +kernel
theorem dX6_step_126 : decode cX6_step 126 = .ok (.invokevirtual 123, 3) := by decide +kernel
theorem dX6_step_129 : decode cX6_step 129 = .ok (.ireturn, 1) := by decide +kernel
theorem dX6_step_130 : decode cX6_step 130 = .ok (.aload_n 0, 1) := by decide +kernel
theorem dX6_step_131 : decode cX6_step 131 = .ok (.getfield 19, 3) := by decide +kernel
theorem dX6_step_134 : decode cX6_step 134 = .ok (.getfield 127, 3) := by decide +kernel
theorem dX6_step_137 : decode cX6_step 137 = .ok (.iload_n 1, 1) := by decide +kernel
theorem dX6_step_138 : decode cX6_step 138 = .ok (.iaload, 1) := by decide +kernel
theorem dX6_step_139 : decode cX6_step 139 = .ok (.ireturn, 1) := by decide +kernel
theorem dX6_step_140 : decode cX6_step 140 = .ok (.iconst (-1), 1) := by decide +kernel
theorem dX6_step_141 : decode cX6_step 141 = .ok (.ireturn, 1) := by decide +kernel
theorem dX6_line_0 : decode cX6_line 0 = .ok (.aload_n 0, 1) := by decide +kernel
theorem dX6_line_1 : decode cX6_line 1 = .ok (.iload_n 1, 1) := by decide +kernel
theorem dX6_line_2 : decode cX6_line 2 = .ok (.invokevirtual 93, 3) := by decide +kernel
theorem dX6_line_5 : decode cX6_line 5 = .ok (.ifCond .eq 18, 3) := by decide +kernel
theorem dX6_line_8 : decode cX6_line 8 = .ok (.aload_n 0, 1) := by decide +kernel
theorem dX6_line_9 : decode cX6_line 9 = .ok (.getfield 29, 3) := by decide +kernel
theorem dX6_line_12 : decode cX6_line 12 = .ok (.getfield 96, 3) := by decide +kernel
theorem dX6_line_15 : decode cX6_line 15 = .ok (.getfield 130, 3) := by decide +kernel
theorem dX6_line_18 : decode cX6_line 18 = .ok (.iload_n 1, 1) := by decide +kernel
theorem dX6_line_19 : decode cX6_line 19 = .ok (.iaload, 1) := by decide +kernel
theorem dX6_line_20 : decode cX6_line 20 = .ok (.goto 4, 3) := by decide +kernel
theorem dX6_line_23 : decode cX6_line 23 = .ok (.iconst (-1), 1) := by decide +kernel
theorem dX6_line_24 : decode cX6_line 24 = .ok (.ireturn, 1) := by decide +kernel
theorem dX6_makes_0 : decode cX6_makes 0 = .ok (.iload_n 1, 1) := by decide +kernel
theorem dX6_makes_1 : decode cX6_makes 1 = .ok (.invokestatic 133, 3) := by decide +kernel
theorem dX6_makes_4 : decode cX6_makes 4 = .ok (.ifCond .ne 5, 3) := by decide +kernel
theorem dX6_makes_7 : decode cX6_makes 7 = .ok (.iconst (-1), 1) := by decide +kernel
theorem dX6_makes_8 : decode cX6_makes 8 = .ok (.ireturn, 1) := by decide +kernel
theorem dX6_makes_9 : decode cX6_makes 9 = .ok (.aload_n 0, 1) := by decide +kernel
theorem dX6_makes_10 : decode cX6_makes 10 = .ok (.getfield 29, 3) := by decide +kernel
theorem dX6_makes_13 : decode cX6_makes 13 = .ok (.getfield 96, 3) := by decide +kernel
theorem dX6_makes_16 : decode cX6_makes 16 = .ok (.astore_n 2, 1) := by decide +kernel
theorem dX6_makes_17 : decode cX6_makes 17 = .ok (.aload_n 2, 1) := by decide +kernel
theorem dX6_makes_18 : decode cX6_makes 18 = .ok (.getfield 136, 3) := by decide +kernel
theorem dX6_makes_21 : decode cX6_makes 21 = .ok (.sipush 9999, 3) := by decide +kernel
theorem dX6_makes_24 : decode cX6_makes 24 = .ok (.if_icmp .lt 6, 3) := by decide +kernel
theorem dX6_makes_27 : decode cX6_makes 27 = .ok (.bipush (-2), 2) := by decide +kernel
theorem dX6_makes_29 : decode cX6_makes 29 = .ok (.ireturn, 1) := by decide +kernel
theorem dX6_makes_30 : decode cX6_makes 30 = .ok (.aload_n 0, 1) := by decide +kernel
theorem dX6_makes_31 : decode cX6_makes 31 = .ok (.getfield 29, 3) := by decide +kernel
theorem dX6_makes_34 : decode cX6_makes 34 = .ok (.invokevirtual 139, 3) := by decide +kernel
theorem dX6_makes_37 : decode cX6_makes 37 = .ok (.aload_n 0, 1) := by decide +kernel
theorem dX6_makes_38 : decode cX6_makes 38 = .ok (.getfield 51, 3) := by decide +kernel
theorem dX6_makes_41 : decode cX6_makes 41 = .ok (.aload_n 0, 1) := by decide +kernel
theorem dX6_makes_42 : decode cX6_makes 42 = .ok (.getfield 19, 3) := by decide +kernel
theorem dX6_makes_45 : decode cX6_makes 45 = .ok (.aload_n 2, 1) := by decide +kernel
theorem dX6_makes_46 : decode cX6_makes 46 = .ok (.aload_n 2, 1) := by decide +kernel
theorem dX6_makes_47 : decode cX6_makes 47 = .ok (.getfield 114, 3) := by decide +kernel
theorem dX6_makes_50 : decode cX6_makes 50 = .ok (.iload_n 1, 1) := by decide +kernel
theorem dX6_makes_51 : decode cX6_makes 51 = .ok (.invokevirtual 142, 3) := by decide +kernel
theorem dX6_makes_54 : decode cX6_makes 54 = .ok (.aload_n 2, 1) := by decide +kernel
theorem dX6_makes_55 : decode cX6_makes 55 = .ok (.aload_n 0, 1) := by decide +kernel
theorem dX6_makes_56 : decode cX6_makes 56 = .ok (.getfield 51, 3) := by decide +kernel
theorem dX6_makes_59 : decode cX6_makes 59 = .ok (.aload_n 0, 1) := by decide +kernel
theorem dX6_makes_60 : decode cX6_makes 60 = .ok (.getfield 19, 3) := by decide +kernel
theorem dX6_makes_63 : decode cX6_makes 63 = .ok (.getfield 146, 3) := by decide +kernel
theorem dX6_makes_66 : decode cX6_makes 66 = .ok (.invokevirtual 149, 3) := by decide +kernel
theorem dX6_makes_69 : decode cX6_makes 69 = .ok (.aload_n 0, 1) := by decide +kernel
theorem dX6_makes_70 : decode cX6_makes 70 = .ok (.getfield 51, 3) := by decide +kernel
theorem dX6_makes_73 : decode cX6_makes 73 = .ok (.invokevirtual 153, 3) := by decide +kernel
theorem dX6_makes_76 : decode cX6_makes 76 = .ok (.ireturn, 1) := by decide +kernel
theorem dX6_looks_0 : decode cX6_looks 0 = .ok (.aload_n 0, 1) := by decide +kernel
theorem dX6_looks_1 : decode cX6_looks 1 = .ok (.iload_n 1, 1) := by decide +kernel
theorem dX6_looks_2 : decode cX6_looks 2 = .ok (.invokevirtual 93, 3) := by decide +kernel
theorem dX6_looks_5 : decode cX6_looks 5 = .ok (.ifCond .eq 10, 3) := by decide +kernel
theorem dX6_looks_8 : decode cX6_looks 8 = .ok (.iload_n 2, 1) := by decide +kernel
theorem dX6_looks_9 : decode cX6_looks 9 = .ok (.invokestatic 157, 3) := by decide +kernel
theorem dX6_looks_12 : decode cX6_looks 12 = .ok (.ifCond .ne 5, 3) := by decide +kernel
theorem dX6_looks_15 : decode cX6_looks 15 = .ok (.iconst (-1), 1) := by decide +kernel
theorem dX6_looks_16 : decode cX6_looks 16 = .ok (.ireturn, 1) := by decide +kernel
theorem dX6_looks_17 : decode cX6_looks 17 = .ok (.aload_n 0, 1) := by decide +kernel
theorem dX6_looks_18 : decode cX6_looks 18 = .ok (.getfield 29, 3) := by decide +kernel
theorem dX6_looks_21 : decode cX6_looks 21 = .ok (.getfield 96, 3) := by decide +kernel
theorem dX6_looks_24 : decode cX6_looks 24 = .ok (.astore_n 3, 1) := by decide +kernel
theorem dX6_looks_25 : decode cX6_looks 25 = .ok (.aload_n 3, 1) := by decide +kernel
theorem dX6_looks_26 : decode cX6_looks 26 = .ok (.getfield 114, 3) := by decide +kernel
theorem dX6_looks_29 : decode cX6_looks 29 = .ok (.iload_n 1, 1) := by decide +kernel
theorem dX6_looks_30 : decode cX6_looks 30 = .ok (.ishr, 1) := by decide +kernel
theorem dX6_looks_31 : decode cX6_looks 31 = .ok (.iconst 1, 1) := by decide +kernel
theorem dX6_looks_32 : decode cX6_looks 32 = .ok (.iand, 1) := by decide +kernel
theorem dX6_looks_33 : decode cX6_looks 33 = .ok (.iload_n 2, 1) := by decide +kernel
theorem dX6_looks_34 : decode cX6_looks 34 = .ok (.if_icmp .ne 6, 3) := by decide +kernel
theorem dX6_looks_37 : decode cX6_looks 37 = .ok (.bipush (-2), 2) := by decide +kernel
theorem dX6_looks_39 : decode cX6_looks 39 = .ok (.ireturn, 1) := by decide +kernel
theorem dX6_looks_40 : decode cX6_looks 40 = .ok (.aload_n 0, 1) := by decide +kernel
theorem dX6_looks_41 : decode cX6_looks 41 = .ok (.getfield 29, 3) := by decide +kernel
theorem dX6_looks_44 : decode cX6_looks 44 = .ok (.invokevirtual 139, 3) := by decide +kernel
theorem dX6_looks_47 : decode cX6_looks 47 = .ok (.aload_n 3, 1) := by decide +kernel
theorem dX6_looks_48 : decode cX6_looks 48 = .ok (.dup, 1) := by decide +kernel
theorem dX6_looks_49 : decode cX6_looks 49 = .ok (.getfield 114, 3) := by decide +kernel
theorem dX6_looks_52 : decode cX6_looks 52 = .ok (.iconst 1, 1) := by decide +kernel
theorem dX6_looks_53 : decode cX6_looks 53 = .ok (.iload_n 1, 1) := by decide +kernel
theorem dX6_looks_54 : decode cX6_looks 54 = .ok (.ishl, 1) := by decide +kernel
theorem dX6_looks_55 : decode cX6_looks 55 = .ok (.ixor, 1) := by decide +kernel
theorem dX6_looks_56 : decode cX6_looks 56 = .ok (.putfield 114, 3) := by decide +kernel
theorem dX6_looks_59 : decode cX6_looks 59 = .ok (.aload_n 3, 1) := by decide +kernel
theorem dX6_looks_60 : decode cX6_looks 60 = .ok (.getfield 114, 3) := by decide +kernel
theorem dX6_looks_63 : decode cX6_looks 63 = .ok (.invokestatic 160, 3) := by decide +kernel
theorem dX6_looks_66 : decode cX6_looks 66 = .ok (.ireturn, 1) := by decide +kernel
theorem dX6_skill_0 : decode cX6_skill 0 = .ok (.aload_n 0, 1) := by decide +kernel
theorem dX6_skill_1 : decode cX6_skill 1 = .ok (.iload_n 1, 1) := by decide +kernel
theorem dX6_skill_2 : decode cX6_skill 2 = .ok (.invokevirtual 93, 3) := by decide +kernel
theorem dX6_skill_5 : decode cX6_skill 5 = .ok (.ifCond .eq 13, 3) := by decide +kernel
theorem dX6_skill_8 : decode cX6_skill 8 = .ok (.iload_n 2, 1) := by decide +kernel
theorem dX6_skill_9 : decode cX6_skill 9 = .ok (.ifCond .lt 9, 3) := by decide +kernel
theorem dX6_skill_12 : decode cX6_skill 12 = .ok (.iload_n 2, 1) := by decide +kernel
theorem dX6_skill_13 : decode cX6_skill 13 = .ok (.bipush 9, 2) := by decide +kernel
theorem dX6_skill_15 : decode cX6_skill 15 = .ok (.if_icmp .le 5, 3) := by decide +kernel
theorem dX6_skill_18 : decode cX6_skill 18 = .ok (.iconst (-1), 1) := by decide +kernel
theorem dX6_skill_19 : decode cX6_skill 19 = .ok (.ireturn, 1) := by decide +kernel
theorem dX6_skill_20 : decode cX6_skill 20 = .ok (.aload_n 0, 1) := by decide +kernel
theorem dX6_skill_21 : decode cX6_skill 21 = .ok (.getfield 29, 3) := by decide +kernel
theorem dX6_skill_24 : decode cX6_skill 24 = .ok (.invokevirtual 139, 3) := by decide +kernel
theorem dX6_skill_27 : decode cX6_skill 27 = .ok (.aload_n 0, 1) := by decide +kernel
theorem dX6_skill_28 : decode cX6_skill 28 = .ok (.getfield 29, 3) := by decide +kernel
theorem dX6_skill_31 : decode cX6_skill 31 = .ok (.getfield 96, 3) := by decide +kernel
theorem dX6_skill_34 : decode cX6_skill 34 = .ok (.getfield 103, 3) := by decide +kernel
theorem dX6_skill_37 : decode cX6_skill 37 = .ok (.iload_n 1, 1) := by decide +kernel
theorem dX6_skill_38 : decode cX6_skill 38 = .ok (.iaload, 1) := by decide +kernel
theorem dX6_skill_39 : decode cX6_skill 39 = .ok (.istore_n 3, 1) := by decide +kernel
theorem dX6_skill_40 : decode cX6_skill 40 = .ok (.aload_n 0, 1) := by decide +kernel
theorem dX6_skill_41 : decode cX6_skill 41 = .ok (.getfield 29, 3) := by decide +kernel
theorem dX6_skill_44 : decode cX6_skill 44 = .ok (.getfield 96, 3) := by decide +kernel
theorem dX6_skill_47 : decode cX6_skill 47 = .ok (.getfield 103, 3) := by decide +kernel
theorem dX6_skill_50 : decode cX6_skill 50 = .ok (.iload_n 1, 1) := by decide +kernel
theorem dX6_skill_51 : decode cX6_skill 51 = .ok (.iload_n 2, 1) := by decide +kernel
theorem dX6_skill_52 : decode cX6_skill 52 = .ok (.iastore, 1) := by decide +kernel
theorem dX6_skill_53 : decode cX6_skill 53 = .ok (.iload_n 3, 1) := by decide +kernel
theorem dX6_skill_54 : decode cX6_skill 54 = .ok (.ireturn, 1) := by decide +kernel
theorem dX6_moves_0 : decode cX6_moves 0 = .ok (.iload_n 1, 1) := by decide +kernel
theorem dX6_moves_1 : decode cX6_moves 1 = .ok (.ifCond .eq 11, 3) := by decide +kernel
theorem dX6_moves_4 : decode cX6_moves 4 = .ok (.aload_n 0, 1) := by decide +kernel
theorem dX6_moves_5 : decode cX6_moves 5 = .ok (.iload_n 1, 1) := by decide +kernel
theorem dX6_moves_6 : decode cX6_moves 6 = .ok (.invokevirtual 93, 3) := by decide +kernel
theorem dX6_moves_9 : decode cX6_moves 9 = .ok (.ifCond .ne 5, 3) := by decide +kernel
theorem dX6_moves_12 : decode cX6_moves 12 = .ok (.iconst (-1), 1) := by decide +kernel
theorem dX6_moves_13 : decode cX6_moves 13 = .ok (.ireturn, 1) := by decide +kernel
theorem dX6_moves_14 : decode cX6_moves 14 = .ok (.aload_n 0, 1) := by decide +kernel
theorem dX6_moves_15 : decode cX6_moves 15 = .ok (.getfield 29, 3) := by decide +kernel
theorem dX6_moves_18 : decode cX6_moves 18 = .ok (.getfield 96, 3) := by decide +kernel
theorem dX6_moves_21 : decode cX6_moves 21 = .ok (.getfield 130, 3) := by decide +kernel
theorem dX6_moves_24 : decode cX6_moves 24 = .ok (.astore_n 2, 1) := by decide +kernel
theorem dX6_moves_25 : decode cX6_moves 25 = .ok (.aload_n 2, 1) := by decide +kernel
theorem dX6_moves_26 : decode cX6_moves 26 = .ok (.iload_n 1, 1) := by decide +kernel
theorem dX6_moves_27 : decode cX6_moves 27 = .ok (.iconst 1, 1) := by decide +kernel
theorem dX6_moves_28 : decode cX6_moves 28 = .ok (.isub, 1) := by decide +kernel
theorem dX6_moves_29 : decode cX6_moves 29 = .ok (.iaload, 1) := by decide +kernel
theorem dX6_moves_30 : decode cX6_moves 30 = .ok (.istore_n 3, 1) := by decide +kernel
theorem dX6_moves_31 : decode cX6_moves 31 = .ok (.aload_n 0, 1) := by decide +kernel
theorem dX6_moves_32 : decode cX6_moves 32 = .ok (.getfield 19, 3) := by decide +kernel
theorem dX6_moves_35 : decode cX6_moves 35 = .ok (.iload_n 3, 1) := by decide +kernel
theorem dX6_moves_36 : decode cX6_moves 36 = .ok (.aload_n 2, 1) := by decide +kernel
theorem dX6_moves_37 : decode cX6_moves 37 = .ok (.iload_n 1, 1) := by decide +kernel
theorem dX6_moves_38 : decode cX6_moves 38 = .ok (.iaload, 1) := by decide +kernel
theorem dX6_moves_39 : decode cX6_moves 39 = .ok (.invokevirtual 166, 3) := by decide +kernel
theorem dX6_moves_42 : decode cX6_moves 42 = .ok (.ifCond .eq 6, 3) := by decide +kernel
theorem dX6_moves_45 : decode cX6_moves 45 = .ok (.bipush (-2), 2) := by decide +kernel
theorem dX6_moves_47 : decode cX6_moves 47 = .ok (.ireturn, 1) := by decide +kernel
theorem dX6_moves_48 : decode cX6_moves 48 = .ok (.aload_n 0, 1) := by decide +kernel
theorem dX6_moves_49 : decode cX6_moves 49 = .ok (.getfield 29, 3) := by decide +kernel
theorem dX6_moves_52 : decode cX6_moves 52 = .ok (.invokevirtual 139, 3) := by decide +kernel
theorem dX6_moves_55 : decode cX6_moves 55 = .ok (.aload_n 2, 1) := by decide +kernel
theorem dX6_moves_56 : decode cX6_moves 56 = .ok (.iload_n 1, 1) := by decide +kernel
theorem dX6_moves_57 : decode cX6_moves 57 = .ok (.iconst 1, 1) := by decide +kernel
theorem dX6_moves_58 : decode cX6_moves 58 = .ok (.isub, 1) := by decide +kernel
theorem dX6_moves_59 : decode cX6_moves 59 = .ok (.aload_n 2, 1) := by decide +kernel
theorem dX6_moves_60 : decode cX6_moves 60 = .ok (.iload_n 1, 1) := by decide +kernel
theorem dX6_moves_61 : decode cX6_moves 61 = .ok (.iaload, 1) := by decide +kernel
theorem dX6_moves_62 : decode cX6_moves 62 = .ok (.iastore, 1) := by decide +kernel
theorem dX6_moves_63 : decode cX6_moves 63 = .ok (.aload_n 2, 1) := by decide +kernel
theorem dX6_moves_64 : decode cX6_moves 64 = .ok (.iload_n 1, 1) := by decide +kernel
theorem dX6_moves_65 : decode cX6_moves 65 = .ok (.iload_n 3, 1) := by decide +kernel
theorem dX6_moves_66 : decode cX6_moves 66 = .ok (.iastore, 1) := by decide +kernel
theorem dX6_moves_67 : decode cX6_moves 67 = .ok (.iload_n 3, 1) := by decide +kernel
theorem dX6_moves_68 : decode cX6_moves 68 = .ok (.ireturn, 1) := by decide +kernel
theorem dX6_undo_0 : decode cX6_undo 0 = .ok (.aload_n 0, 1) := by decide +kernel
theorem dX6_undo_1 : decode cX6_undo 1 = .ok (.getfield 29, 3) := by decide +kernel
theorem dX6_undo_4 : decode cX6_undo 4 = .ok (.invokevirtual 170, 3) := by decide +kernel
theorem dX6_undo_7 : decode cX6_undo 7 = .ok (.ifCond .eq 13, 3) := by decide +kernel
theorem dX6_undo_10 : decode cX6_undo 10 = .ok (.aload_n 0, 1) := by decide +kernel
theorem dX6_undo_11 : decode cX6_undo 11 = .ok (.getfield 29, 3) := by decide +kernel
theorem dX6_undo_14 : decode cX6_undo 14 = .ok (.getfield 174, 3) := by decide +kernel
theorem dX6_undo_17 : decode cX6_undo 17 = .ok (.goto 5, 3) := by decide +kernel
theorem dX6_undo_20 : decode cX6_undo 20 = .ok (.bipush (-2), 2) := by decide +kernel
theorem dX6_undo_22 : decode cX6_undo 22 = .ok (.ireturn, 1) := by decide +kernel
theorem dX6_now_0 : decode cX6_now 0 = .ok (.aload_n 0, 1) := by decide +kernel
theorem dX6_now_1 : decode cX6_now 1 = .ok (.getfield 29, 3) := by decide +kernel
theorem dX6_now_4 : decode cX6_now 4 = .ok (.getfield 96, 3) := by decide +kernel
theorem dX6_now_7 : decode cX6_now 7 = .ok (.astore_n 2, 1) := by decide +kernel
theorem dX6_now_8 : decode cX6_now 8 = .ok (.iload_n 1, 1) := by decide +kernel
theorem dX6_now_9 : decode cX6_now 9 = .ok (.tableswitch 74 0 5 #[39, 44, 49, 54, 64, 69], 39) := by decide +kernel
theorem dX6_now_48 : decode cX6_now 48 = .ok (.aload_n 2, 1) := by decide +kernel
theorem dX6_now_49 : decode cX6_now 49 = .ok (.getfield 136, 3) := by decide +kernel
theorem dX6_now_52 : decode cX6_now 52 = .ok (.ireturn, 1) := by decide +kernel
theorem dX6_now_53 : decode cX6_now 53 = .ok (.aload_n 2, 1) := by decide +kernel
theorem dX6_now_54 : decode cX6_now 54 = .ok (.getfield 177, 3) := by decide +kernel
theorem dX6_now_57 : decode cX6_now 57 = .ok (.ireturn, 1) := by decide +kernel
theorem dX6_now_58 : decode cX6_now 58 = .ok (.aload_n 2, 1) := by decide +kernel
theorem dX6_now_59 : decode cX6_now 59 = .ok (.getfield 180, 3) := by decide +kernel
theorem dX6_now_62 : decode cX6_now 62 = .ok (.ireturn, 1) := by decide +kernel
theorem dX6_now_63 : decode cX6_now 63 = .ok (.aload_n 2, 1) := by decide +kernel
theorem dX6_now_64 : decode cX6_now 64 = .ok (.getfield 136, 3) := by decide +kernel
theorem dX6_now_67 : decode cX6_now 67 = .ok (.aload_n 2, 1) := by decide +kernel
theorem dX6_now_68 : decode cX6_now 68 = .ok (.getfield 177, 3) := by decide +kernel
theorem dX6_now_71 : decode cX6_now 71 = .ok (.isub, 1) := by decide +kernel
theorem dX6_now_72 : decode cX6_now 72 = .ok (.ireturn, 1) := by decide +kernel
theorem dX6_now_73 : decode cX6_now 73 = .ok (.aload_n 2, 1) := by decide +kernel
theorem dX6_now_74 : decode cX6_now 74 = .ok (.getfield 183, 3) := by decide +kernel
theorem dX6_now_77 : decode cX6_now 77 = .ok (.ireturn, 1) := by decide +kernel
theorem dX6_now_78 : decode cX6_now 78 = .ok (.aload_n 2, 1) := by decide +kernel
theorem dX6_now_79 : decode cX6_now 79 = .ok (.getfield 114, 3) := by decide +kernel
theorem dX6_now_82 : decode cX6_now 82 = .ok (.ireturn, 1) := by decide +kernel
theorem dX6_now_83 : decode cX6_now 83 = .ok (.iconst (-1), 1) := by decide +kernel
theorem dX6_now_84 : decode cX6_now 84 = .ok (.ireturn, 1) := by decide +kernel
theorem dX6_mean_0 : decode cX6_mean 0 = .ok (.iload_n 1, 1) := by decide +kernel
theorem dX6_mean_1 : decode cX6_mean 1 = .ok (.ifCond .lt 15, 3) := by decide +kernel
theorem dX6_mean_4 : decode cX6_mean 4 = .ok (.iload_n 1, 1) := by decide +kernel
theorem dX6_mean_5 : decode cX6_mean 5 = .ok (.iconst 3, 1) := by decide +kernel
theorem dX6_mean_6 : decode cX6_mean 6 = .ok (.if_icmp .gt 10, 3) := by decide +kernel
theorem dX6_mean_9 : decode cX6_mean 9 = .ok (.iload_n 2, 1) := by decide +kernel
theorem dX6_mean_10 : decode cX6_mean 10 = .ok (.invokestatic 157, 3) := by decide +kernel
theorem dX6_mean_13 : decode cX6_mean 13 = .ok (.ifCond .ne 7, 3) := by decide +kernel
theorem dX6_mean_16 : decode cX6_mean 16 = .ok (.ldc2_w 186, 3) := by decide +kernel
theorem dX6_mean_19 : decode cX6_mean 19 = .ok (.lreturn, 1) := by decide +kernel
theorem dX6_mean_20 : decode cX6_mean 20 = .ok (.aload_n 0, 1) := by decide +kernel
theorem dX6_mean_21 : decode cX6_mean 21 = .ok (.invokevirtual 188, 3) := by decide +kernel
theorem dX6_mean_24 : decode cX6_mean 24 = .ok (.iload_n 1, 1) := by decide +kernel
theorem dX6_mean_25 : decode cX6_mean 25 = .ok (.tableswitch 72 0 2 #[27, 42, 57], 27) := by decide +kernel
theorem dX6_mean_52 : decode cX6_mean 52 = .ok (.aload_n 0, 1) := by decide +kernel
theorem dX6_mean_53 : decode cX6_mean 53 = .ok (.getfield 58, 3) := by decide +kernel
theorem dX6_mean_56 : decode cX6_mean 56 = .ok (.getfield 191, 3) := by decide +kernel
theorem dX6_mean_59 : decode cX6_mean 59 = .ok (.ldc2_w 194, 3) := by decide +kernel
theorem dX6_mean_62 : decode cX6_mean 62 = .ok (.iload_n 2, 1) := by decide +kernel
theorem dX6_mean_63 : decode cX6_mean 63 = .ok (.invokestatic 196, 3) := by decide +kernel
theorem dX6_mean_66 : decode cX6_mean 66 = .ok (.lreturn, 1) := by decide +kernel
theorem dX6_mean_67 : decode cX6_mean 67 = .ok (.aload_n 0, 1) := by decide +kernel
theorem dX6_mean_68 : decode cX6_mean 68 = .ok (.getfield 58, 3) := by decide +kernel
theorem dX6_mean_71 : decode cX6_mean 71 = .ok (.getfield 200, 3) := by decide +kernel
theorem dX6_mean_74 : decode cX6_mean 74 = .ok (.ldc2_w 194, 3) := by decide +kernel
theorem dX6_mean_77 : decode cX6_mean 77 = .ok (.iload_n 2, 1) := by decide +kernel
theorem dX6_mean_78 : decode cX6_mean 78 = .ok (.invokestatic 196, 3) := by decide +kernel
theorem dX6_mean_81 : decode cX6_mean 81 = .ok (.lreturn, 1) := by decide +kernel
theorem dX6_mean_82 : decode cX6_mean 82 = .ok (.aload_n 0, 1) := by decide +kernel
theorem dX6_mean_83 : decode cX6_mean 83 = .ok (.getfield 58, 3) := by decide +kernel
theorem dX6_mean_86 : decode cX6_mean 86 = .ok (.getfield 203, 3) := by decide +kernel
theorem dX6_mean_89 : decode cX6_mean 89 = .ok (.ldc2_w 194, 3) := by decide +kernel
theorem dX6_mean_92 : decode cX6_mean 92 = .ok (.iload_n 2, 1) := by decide +kernel
theorem dX6_mean_93 : decode cX6_mean 93 = .ok (.invokestatic 196, 3) := by decide +kernel
theorem dX6_mean_96 : decode cX6_mean 96 = .ok (.lreturn, 1) := by decide +kernel
theorem dX6_mean_97 : decode cX6_mean 97 = .ok (.aload_n 0, 1) := by decide +kernel
theorem dX6_mean_98 : decode cX6_mean 98 = .ok (.getfield 58, 3) := by decide +kernel
theorem dX6_mean_101 : decode cX6_mean 101 = .ok (.getfield 191, 3) := by decide +kernel
theorem dX6_mean_104 : decode cX6_mean 104 = .ok (.aload_n 0, 1) := by decide +kernel
theorem dX6_mean_105 : decode cX6_mean 105 = .ok (.getfield 58, 3) := by decide +kernel
theorem dX6_mean_108 : decode cX6_mean 108 = .ok (.getfield 200, 3) := by decide +kernel
theorem dX6_mean_111 : decode cX6_mean 111 = .ok (.iload_n 2, 1) := by decide +kernel
theorem dX6_mean_112 : decode cX6_mean 112 = .ok (.invokestatic 196, 3) := by decide +kernel
theorem dX6_mean_115 : decode cX6_mean 115 = .ok (.lreturn, 1) := by decide +kernel
theorem dX6_lost_0 : decode cX6_lost 0 = .ok (.aload_n 0, 1) := by decide +kernel
theorem dX6_lost_1 : decode cX6_lost 1 = .ok (.iload_n 1, 1) := by decide +kernel
theorem dX6_lost_2 : decode cX6_lost 2 = .ok (.invokevirtual 93, 3) := by decide +kernel
theorem dX6_lost_5 : decode cX6_lost 5 = .ok (.ifCond .eq 10, 3) := by decide +kernel
theorem dX6_lost_8 : decode cX6_lost 8 = .ok (.iload_n 2, 1) := by decide +kernel
theorem dX6_lost_9 : decode cX6_lost 9 = .ok (.invokestatic 157, 3) := by decide +kernel
theorem dX6_lost_12 : decode cX6_lost 12 = .ok (.ifCond .ne 7, 3) := by decide +kernel
theorem dX6_lost_15 : decode cX6_lost 15 = .ok (.ldc2_w 186, 3) := by decide +kernel
theorem dX6_lost_18 : decode cX6_lost 18 = .ok (.lreturn, 1) := by decide +kernel
theorem dX6_lost_19 : decode cX6_lost 19 = .ok (.aload_n 0, 1) := by decide +kernel
theorem dX6_lost_20 : decode cX6_lost 20 = .ok (.invokevirtual 188, 3) := by decide +kernel
theorem dX6_lost_23 : decode cX6_lost 23 = .ok (.aload_n 0, 1) := by decide +kernel
theorem dX6_lost_24 : decode cX6_lost 24 = .ok (.getfield 58, 3) := by decide +kernel
theorem dX6_lost_27 : decode cX6_lost 27 = .ok (.getfield 206, 3) := by decide +kernel
theorem dX6_lost_30 : decode cX6_lost 30 = .ok (.iload_n 1, 1) := by decide +kernel
theorem dX6_lost_31 : decode cX6_lost 31 = .ok (.laload, 1) := by decide +kernel
theorem dX6_lost_32 : decode cX6_lost 32 = .ok (.ldc2_w 194, 3) := by decide +kernel
theorem dX6_lost_35 : decode cX6_lost 35 = .ok (.iload_n 2, 1) := by decide +kernel
theorem dX6_lost_36 : decode cX6_lost 36 = .ok (.invokestatic 196, 3) := by decide +kernel
theorem dX6_lost_39 : decode cX6_lost 39 = .ok (.lreturn, 1) := by decide +kernel
theorem dX6_paper_0 : decode cX6_paper 0 = .ok (.iload_n 1, 1) := by decide +kernel
theorem dX6_paper_1 : decode cX6_paper 1 = .ok (.iconst 1, 1) := by decide +kernel
theorem dX6_paper_2 : decode cX6_paper 2 = .ok (.if_icmp .lt 16, 3) := by decide +kernel
theorem dX6_paper_5 : decode cX6_paper 5 = .ok (.iload_n 1, 1) := by decide +kernel
theorem dX6_paper_6 : decode cX6_paper 6 = .ok (.bipush 99, 2) := by decide +kernel
theorem dX6_paper_8 : decode cX6_paper 8 = .ok (.if_icmp .gt 10, 3) := by decide +kernel
theorem dX6_paper_11 : decode cX6_paper 11 = .ok (.iload_n 2, 1) := by decide +kernel
theorem dX6_paper_12 : decode cX6_paper 12 = .ok (.invokestatic 157, 3) := by decide +kernel
theorem dX6_paper_15 : decode cX6_paper 15 = .ok (.ifCond .ne 7, 3) := by decide +kernel
theorem dX6_paper_18 : decode cX6_paper 18 = .ok (.ldc2_w 186, 3) := by decide +kernel
theorem dX6_paper_21 : decode cX6_paper 21 = .ok (.lreturn, 1) := by decide +kernel
theorem dX6_paper_22 : decode cX6_paper 22 = .ok (.aload_n 0, 1) := by decide +kernel
theorem dX6_paper_23 : decode cX6_paper 23 = .ok (.invokevirtual 188, 3) := by decide +kernel
theorem dX6_paper_26 : decode cX6_paper 26 = .ok (.aload_n 0, 1) := by decide +kernel
theorem dX6_paper_27 : decode cX6_paper 27 = .ok (.getfield 58, 3) := by decide +kernel
theorem dX6_paper_30 : decode cX6_paper 30 = .ok (.getfield 203, 3) := by decide +kernel
theorem dX6_paper_33 : decode cX6_paper 33 = .ok (.iload_n 1, 1) := by decide +kernel
theorem dX6_paper_34 : decode cX6_paper 34 = .ok (.i2l, 1) := by decide +kernel
theorem dX6_paper_35 : decode cX6_paper 35 = .ok (.lmul, 1) := by decide +kernel
theorem dX6_paper_36 : decode cX6_paper 36 = .ok (.aload_n 0, 1) := by decide +kernel
theorem dX6_paper_37 : decode cX6_paper 37 = .ok (.getfield 58, 3) := by decide +kernel
theorem dX6_paper_40 : decode cX6_paper 40 = .ok (.getfield 200, 3) := by decide +kernel
theorem dX6_paper_43 : decode cX6_paper 43 = .ok (.aload_n 0, 1) := by decide +kernel
theorem dX6_paper_44 : decode cX6_paper 44 = .ok (.getfield 58, 3) := by decide +kernel
theorem dX6_paper_47 : decode cX6_paper 47 = .ok (.getfield 203, 3) := by decide +kernel
theorem dX6_paper_50 : decode cX6_paper 50 = .ok (.ladd, 1) := by decide +kernel
theorem dX6_paper_51 : decode cX6_paper 51 = .ok (.iload_n 2, 1) := by decide +kernel
theorem dX6_paper_52 : decode cX6_paper 52 = .ok (.invokestatic 196, 3) := by decide +kernel
theorem dX6_paper_55 : decode cX6_paper 55 = .ok (.lreturn, 1) := by decide +kernel
theorem dX6_bestLooks_0 : decode cX6_bestLooks 0 = .ok (.iconst 0, 1) := by decide +kernel
theorem dX6_bestLooks_1 : decode cX6_bestLooks 1 = .ok (.istore_n 1, 1) := by decide +kernel
theorem dX6_bestLooks_2 : decode cX6_bestLooks 2 = .ok (.ldc2_w 210, 3) := by decide +kernel
theorem dX6_bestLooks_5 : decode cX6_bestLooks 5 = .ok (.lstore_n 2, 1) := by decide +kernel
theorem dX6_bestLooks_6 : decode cX6_bestLooks 6 = .ok (.iconst 0, 1) := by decide +kernel
theorem dX6_bestLooks_7 : decode cX6_bestLooks 7 = .ok (.istore 4, 2) := by decide +kernel
theorem dX6_bestLooks_9 : decode cX6_bestLooks 9 = .ok (.iload 4, 2) := by decide +kernel
theorem dX6_bestLooks_11 : decode cX6_bestLooks 11 = .ok (.iconst 1, 1) := by decide +kernel
theorem dX6_bestLooks_12 : decode cX6_bestLooks 12 = .ok (.aload_n 0, 1) := by decide +kernel
theorem dX6_bestLooks_13 : decode cX6_bestLooks 13 = .ok (.getfield 19, 3) := by decide +kernel
theorem dX6_bestLooks_16 : decode cX6_bestLooks 16 = .ok (.getfield 120, 3) := by decide +kernel
theorem dX6_bestLooks_19 : decode cX6_bestLooks 19 = .ok (.ishl, 1) := by decide +kernel
theorem dX6_bestLooks_20 : decode cX6_bestLooks 20 = .ok (.if_icmp .ge 62, 3) := by decide +kernel
theorem dX6_bestLooks_23 : decode cX6_bestLooks 23 = .ok (.aload_n 0, 1) := by decide +kernel
theorem dX6_bestLooks_24 : decode cX6_bestLooks 24 = .ok (.getfield 58, 3) := by decide +kernel
theorem dX6_bestLooks_27 : decode cX6_bestLooks 27 = .ok (.aload_n 0, 1) := by decide +kernel
theorem dX6_bestLooks_28 : decode cX6_bestLooks 28 = .ok (.getfield 19, 3) := by decide +kernel
theorem dX6_bestLooks_31 : decode cX6_bestLooks 31 = .ok (.aload_n 0, 1) := by decide +kernel
theorem dX6_bestLooks_32 : decode cX6_bestLooks 32 = .ok (.getfield 29, 3) := by decide +kernel
theorem dX6_bestLooks_35 : decode cX6_bestLooks 35 = .ok (.getfield 96, 3) := by decide +kernel
theorem dX6_bestLooks_38 : decode cX6_bestLooks 38 = .ok (.aload_n 0, 1) := by decide +kernel
theorem dX6_bestLooks_39 : decode cX6_bestLooks 39 = .ok (.getfield 29, 3) := by decide +kernel
theorem dX6_bestLooks_42 : decode cX6_bestLooks 42 = .ok (.getfield 96, 3) := by decide +kernel
theorem dX6_bestLooks_45 : decode cX6_bestLooks 45 = .ok (.getfield 130, 3) := by decide +kernel
theorem dX6_bestLooks_48 : decode cX6_bestLooks 48 = .ok (.iload 4, 2) := by decide +kernel
theorem dX6_bestLooks_50 : decode cX6_bestLooks 50 = .ok (.invokevirtual 212, 3) := by decide +kernel
theorem dX6_bestLooks_53 : decode cX6_bestLooks 53 = .ok (.aload_n 0, 1) := by decide +kernel
theorem dX6_bestLooks_54 : decode cX6_bestLooks 54 = .ok (.getfield 58, 3) := by decide +kernel
theorem dX6_bestLooks_57 : decode cX6_bestLooks 57 = .ok (.getfield 191, 3) := by decide +kernel
theorem dX6_bestLooks_60 : decode cX6_bestLooks 60 = .ok (.lload_n 2, 1) := by decide +kernel
theorem dX6_bestLooks_61 : decode cX6_bestLooks 61 = .ok (.lcmp, 1) := by decide +kernel
theorem dX6_bestLooks_62 : decode cX6_bestLooks 62 = .ok (.ifCond .ge 14, 3) := by decide +kernel
theorem dX6_bestLooks_65 : decode cX6_bestLooks 65 = .ok (.aload_n 0, 1) := by decide +kernel
theorem dX6_bestLooks_66 : decode cX6_bestLooks 66 = .ok (.getfield 58, 3) := by decide +kernel
theorem dX6_bestLooks_69 : decode cX6_bestLooks 69 = .ok (.getfield 191, 3) := by decide +kernel
theorem dX6_bestLooks_72 : decode cX6_bestLooks 72 = .ok (.lstore_n 2, 1) := by decide +kernel
theorem dX6_bestLooks_73 : decode cX6_bestLooks 73 = .ok (.iload 4, 2) := by decide +kernel
theorem dX6_bestLooks_75 : decode cX6_bestLooks 75 = .ok (.istore_n 1, 1) := by decide +kernel
theorem dX6_bestLooks_76 : decode cX6_bestLooks 76 = .ok (.iinc 4 1, 3) := by decide +kernel
theorem dX6_bestLooks_79 : decode cX6_bestLooks 79 = .ok (.goto (-70), 3) := by decide +kernel
theorem dX6_bestLooks_82 : decode cX6_bestLooks 82 = .ok (.iload_n 1, 1) := by decide +kernel
theorem dX6_bestLooks_83 : decode cX6_bestLooks 83 = .ok (.ireturn, 1) := by decide +kernel
theorem dX6_bestOrder_0 : decode cX6_bestOrder 0 = .ok (.aload_n 0, 1) := by decide +kernel
theorem dX6_bestOrder_1 : decode cX6_bestOrder 1 = .ok (.iload_n 1, 1) := by decide +kernel
theorem dX6_bestOrder_2 : decode cX6_bestOrder 2 = .ok (.invokevirtual 93, 3) := by decide +kernel
theorem dX6_bestOrder_5 : decode cX6_bestOrder 5 = .ok (.ifCond .ne 5, 3) := by decide +kernel
theorem dX6_bestOrder_8 : decode cX6_bestOrder 8 = .ok (.iconst (-1), 1) := by decide +kernel
theorem dX6_bestOrder_9 : decode cX6_bestOrder 9 = .ok (.ireturn, 1) := by decide +kernel
theorem dX6_bestOrder_10 : decode cX6_bestOrder 10 = .ok (.aload_n 0, 1) := by decide +kernel
theorem dX6_bestOrder_11 : decode cX6_bestOrder 11 = .ok (.invokevirtual 216, 3) := by decide +kernel
theorem dX6_bestOrder_14 : decode cX6_bestOrder 14 = .ok (.aload_n 0, 1) := by decide +kernel
theorem dX6_bestOrder_15 : decode cX6_bestOrder 15 = .ok (.getfield 65, 3) := by decide +kernel
theorem dX6_bestOrder_18 : decode cX6_bestOrder 18 = .ok (.iload_n 1, 1) := by decide +kernel
theorem dX6_bestOrder_19 : decode cX6_bestOrder 19 = .ok (.iaload, 1) := by decide +kernel
theorem dX6_bestOrder_20 : decode cX6_bestOrder 20 = .ok (.ireturn, 1) := by decide +kernel
theorem dX6_few_0 : decode cX6_few 0 = .ok (.iload_n 1, 1) := by decide +kernel
theorem dX6_few_1 : decode cX6_few 1 = .ok (.ifCond .lt 10, 3) := by decide +kernel
theorem dX6_few_4 : decode cX6_few 4 = .ok (.iload_n 1, 1) := by decide +kernel
theorem dX6_few_5 : decode cX6_few 5 = .ok (.sipush 250, 3) := by decide +kernel
theorem dX6_few_8 : decode cX6_few 8 = .ok (.if_icmp .le 5, 3) := by decide +kernel
theorem dX6_few_11 : decode cX6_few 11 = .ok (.iconst (-1), 1) := by decide +kernel
theorem dX6_few_12 : decode cX6_few 12 = .ok (.ireturn, 1) := by decide +kernel
theorem dX6_few_13 : decode cX6_few 13 = .ok (.bipush (-9), 2) := by decide +kernel
theorem dX6_few_15 : decode cX6_few 15 = .ok (.istore_n 2, 1) := by decide +kernel
theorem dX6_few_16 : decode cX6_few 16 = .ok (.bipush 6, 2) := by decide +kernel
theorem dX6_few_18 : decode cX6_few 18 = .ok (.istore_n 3, 1) := by decide +kernel
theorem dX6_few_19 : decode cX6_few 19 = .ok (.iconst 0, 1) := by decide +kernel
theorem dX6_few_20 : decode cX6_few 20 = .ok (.istore 4, 2) := by decide +kernel
theorem dX6_few_22 : decode cX6_few 22 = .ok (.iload 4, 2) := by decide +kernel
theorem dX6_few_24 : decode cX6_few 24 = .ok (.iconst 1, 1) := by decide +kernel
theorem dX6_few_25 : decode cX6_few 25 = .ok (.aload_n 0, 1) := by decide +kernel
theorem dX6_few_26 : decode cX6_few 26 = .ok (.getfield 19, 3) := by decide +kernel
theorem dX6_few_29 : decode cX6_few 29 = .ok (.getfield 120, 3) := by decide +kernel
theorem dX6_few_32 : decode cX6_few 32 = .ok (.ishl, 1) := by decide +kernel
theorem dX6_few_33 : decode cX6_few 33 = .ok (.if_icmp .ge 37, 3) := by decide +kernel
theorem dX6_few_36 : decode cX6_few 36 = .ok (.iload 4, 2) := by decide +kernel
theorem dX6_few_38 : decode cX6_few 38 = .ok (.invokestatic 160, 3) := by decide +kernel
theorem dX6_few_41 : decode cX6_few 41 = .ok (.iload_n 3, 1) := by decide +kernel
theorem dX6_few_42 : decode cX6_few 42 = .ok (.if_icmp .ge 22, 3) := by decide +kernel
theorem dX6_few_45 : decode cX6_few 45 = .ok (.aload_n 0, 1) := by decide +kernel
theorem dX6_few_46 : decode cX6_few 46 = .ok (.iload 4, 2) := by decide +kernel
theorem dX6_few_48 : decode cX6_few 48 = .ok (.iload_n 1, 1) := by decide +kernel
theorem dX6_few_49 : decode cX6_few 49 = .ok (.invokevirtual 219, 3) := by decide +kernel
theorem dX6_few_52 : decode cX6_few 52 = .ok (.ifCond .eq 12, 3) := by decide +kernel
theorem dX6_few_55 : decode cX6_few 55 = .ok (.iload 4, 2) := by decide +kernel
theorem dX6_few_57 : decode cX6_few 57 = .ok (.istore_n 2, 1) := by decide +kernel
theorem dX6_few_58 : decode cX6_few 58 = .ok (.iload 4, 2) := by decide +kernel
theorem dX6_few_60 : decode cX6_few 60 = .ok (.invokestatic 160, 3) := by decide +kernel
theorem dX6_few_63 : decode cX6_few 63 = .ok (.istore_n 3, 1) := by decide +kernel
theorem dX6_few_64 : decode cX6_few 64 = .ok (.iinc 4 1, 3) := by decide +kernel
theorem dX6_few_67 : decode cX6_few 67 = .ok (.goto (-45), 3) := by decide +kernel
theorem dX6_few_70 : decode cX6_few 70 = .ok (.iload_n 2, 1) := by decide +kernel
theorem dX6_few_71 : decode cX6_few 71 = .ok (.ireturn, 1) := by decide +kernel
theorem dX6_blame_0 : decode cX6_blame 0 = .ok (.aload_n 0, 1) := by decide +kernel
theorem dX6_blame_1 : decode cX6_blame 1 = .ok (.iload_n 1, 1) := by decide +kernel
theorem dX6_blame_2 : decode cX6_blame 2 = .ok (.invokevirtual 93, 3) := by decide +kernel
theorem dX6_blame_5 : decode cX6_blame 5 = .ok (.ifCond .eq 18, 3) := by decide +kernel
theorem dX6_blame_8 : decode cX6_blame 8 = .ok (.aload_n 0, 1) := by decide +kernel
theorem dX6_blame_9 : decode cX6_blame 9 = .ok (.iload_n 2, 1) := by decide +kernel
theorem dX6_blame_10 : decode cX6_blame 10 = .ok (.invokevirtual 93, 3) := by decide +kernel
theorem dX6_blame_13 : decode cX6_blame 13 = .ok (.ifCond .eq 10, 3) := by decide +kernel
theorem dX6_blame_16 : decode cX6_blame 16 = .ok (.iload_n 3, 1) := by decide +kernel
theorem dX6_blame_17 : decode cX6_blame 17 = .ok (.invokestatic 157, 3) := by decide +kernel
theorem dX6_blame_20 : decode cX6_blame 20 = .ok (.ifCond .ne 7, 3) := by decide +kernel
theorem dX6_blame_23 : decode cX6_blame 23 = .ok (.ldc2_w 186, 3) := by decide +kernel
theorem dX6_blame_26 : decode cX6_blame 26 = .ok (.lreturn, 1) := by decide +kernel
theorem dX6_blame_27 : decode cX6_blame 27 = .ok (.aload_n 0, 1) := by decide +kernel
theorem dX6_blame_28 : decode cX6_blame 28 = .ok (.iload_n 1, 1) := by decide +kernel
theorem dX6_blame_29 : decode cX6_blame 29 = .ok (.invokevirtual 222, 3) := by decide +kernel
theorem dX6_blame_32 : decode cX6_blame 32 = .ok (.ifCond .ne 7, 3) := by decide +kernel
theorem dX6_blame_35 : decode cX6_blame 35 = .ok (.ldc2_w 225, 3) := by decide +kernel
theorem dX6_blame_38 : decode cX6_blame 38 = .ok (.lreturn, 1) := by decide +kernel
theorem dX6_blame_39 : decode cX6_blame 39 = .ok (.iload_n 2, 1) := by decide +kernel
theorem dX6_blame_40 : decode cX6_blame 40 = .ok (.iload_n 1, 1) := by decide +kernel
theorem dX6_blame_41 : decode cX6_blame 41 = .ok (.if_icmp .le 7, 3) := by decide +kernel
theorem dX6_blame_44 : decode cX6_blame 44 = .ok (.lconst 0, 1) := by decide +kernel
theorem dX6_blame_45 : decode cX6_blame 45 = .ok (.goto 12, 3) := by decide +kernel
theorem dX6_blame_48 : decode cX6_blame 48 = .ok (.aload_n 0, 1) := by decide +kernel
theorem dX6_blame_49 : decode cX6_blame 49 = .ok (.getfield 58, 3) := by decide +kernel
theorem dX6_blame_52 : decode cX6_blame 52 = .ok (.getfield 227, 3) := by decide +kernel
theorem dX6_blame_55 : decode cX6_blame 55 = .ok (.iload_n 2, 1) := by decide +kernel
theorem dX6_blame_56 : decode cX6_blame 56 = .ok (.laload, 1) := by decide +kernel
theorem dX6_blame_57 : decode cX6_blame 57 = .ok (.aload_n 0, 1) := by decide +kernel
theorem dX6_blame_58 : decode cX6_blame 58 = .ok (.getfield 58, 3) := by decide +kernel
theorem dX6_blame_61 : decode cX6_blame 61 = .ok (.getfield 203, 3) := by decide +kernel
theorem dX6_blame_64 : decode cX6_blame 64 = .ok (.iload_n 3, 1) := by decide +kernel
theorem dX6_blame_65 : decode cX6_blame 65 = .ok (.invokestatic 196, 3) := by decide +kernel
theorem dX6_blame_68 : decode cX6_blame 68 = .ok (.lreturn, 1) := by decide +kernel
theorem dX6_first_0 : decode cX6_first 0 = .ok (.aload_n 0, 1) := by decide +kernel
theorem dX6_first_1 : decode cX6_first 1 = .ok (.iload_n 1, 1) := by decide +kernel
theorem dX6_first_2 : decode cX6_first 2 = .ok (.invokevirtual 93, 3) := by decide +kernel
theorem dX6_first_5 : decode cX6_first 5 = .ok (.ifCond .ne 5, 3) := by decide +kernel
theorem dX6_first_8 : decode cX6_first 8 = .ok (.iconst (-1), 1) := by decide +kernel
theorem dX6_first_9 : decode cX6_first 9 = .ok (.ireturn, 1) := by decide +kernel
theorem dX6_first_10 : decode cX6_first 10 = .ok (.aload_n 0, 1) := by decide +kernel
theorem dX6_first_11 : decode cX6_first 11 = .ok (.iload_n 1, 1) := by decide +kernel
theorem dX6_first_12 : decode cX6_first 12 = .ok (.invokevirtual 222, 3) := by decide +kernel
theorem dX6_first_15 : decode cX6_first 15 = .ok (.ifCond .ne 6, 3) := by decide +kernel
theorem dX6_first_18 : decode cX6_first 18 = .ok (.bipush (-9), 2) := by decide +kernel
theorem dX6_first_20 : decode cX6_first 20 = .ok (.ireturn, 1) := by decide +kernel
theorem dX6_first_21 : decode cX6_first 21 = .ok (.iconst 0, 1) := by decide +kernel
theorem dX6_first_22 : decode cX6_first 22 = .ok (.istore_n 2, 1) := by decide +kernel
theorem dX6_first_23 : decode cX6_first 23 = .ok (.iconst 1, 1) := by decide +kernel
theorem dX6_first_24 : decode cX6_first 24 = .ok (.istore_n 3, 1) := by decide +kernel
theorem dX6_first_25 : decode cX6_first 25 = .ok (.iload_n 3, 1) := by decide +kernel
theorem dX6_first_26 : decode cX6_first 26 = .ok (.iload_n 1, 1) := by decide +kernel
theorem dX6_first_27 : decode cX6_first 27 = .ok (.if_icmp .gt 33, 3) := by decide +kernel
theorem dX6_first_30 : decode cX6_first 30 = .ok (.aload_n 0, 1) := by decide +kernel
theorem dX6_first_31 : decode cX6_first 31 = .ok (.getfield 58, 3) := by decide +kernel
theorem dX6_first_34 : decode cX6_first 34 = .ok (.getfield 227, 3) := by decide +kernel
theorem dX6_first_37 : decode cX6_first 37 = .ok (.iload_n 3, 1) := by decide +kernel
theorem dX6_first_38 : decode cX6_first 38 = .ok (.laload, 1) := by decide +kernel
theorem dX6_first_39 : decode cX6_first 39 = .ok (.aload_n 0, 1) := by decide +kernel
theorem dX6_first_40 : decode cX6_first 40 = .ok (.getfield 58, 3) := by decide +kernel
theorem dX6_first_43 : decode cX6_first 43 = .ok (.getfield 227, 3) := by decide +kernel
theorem dX6_first_46 : decode cX6_first 46 = .ok (.iload_n 2, 1) := by decide +kernel
theorem dX6_first_47 : decode cX6_first 47 = .ok (.laload, 1) := by decide +kernel
theorem dX6_first_48 : decode cX6_first 48 = .ok (.lcmp, 1) := by decide +kernel
theorem dX6_first_49 : decode cX6_first 49 = .ok (.ifCond .le 5, 3) := by decide +kernel
theorem dX6_first_52 : decode cX6_first 52 = .ok (.iload_n 3, 1) := by decide +kernel
theorem dX6_first_53 : decode cX6_first 53 = .ok (.istore_n 2, 1) := by decide +kernel
theorem dX6_first_54 : decode cX6_first 54 = .ok (.iinc 3 1, 3) := by decide +kernel
theorem dX6_first_57 : decode cX6_first 57 = .ok (.goto (-32), 3) := by decide +kernel
theorem dX6_first_60 : decode cX6_first 60 = .ok (.iload_n 2, 1) := by decide +kernel
theorem dX6_first_61 : decode cX6_first 61 = .ok (.ireturn, 1) := by decide +kernel
theorem dX6_tells_0 : decode cX6_tells 0 = .ok (.iload_n 1, 1) := by decide +kernel
theorem dX6_tells_1 : decode cX6_tells 1 = .ok (.invokestatic 133, 3) := by decide +kernel
theorem dX6_tells_4 : decode cX6_tells 4 = .ok (.ifCond .eq 12, 3) := by decide +kernel
theorem dX6_tells_7 : decode cX6_tells 7 = .ok (.iload_n 2, 1) := by decide +kernel
theorem dX6_tells_8 : decode cX6_tells 8 = .ok (.ifCond .lt 8, 3) := by decide +kernel
theorem dX6_tells_11 : decode cX6_tells 11 = .ok (.iload_n 2, 1) := by decide +kernel
theorem dX6_tells_12 : decode cX6_tells 12 = .ok (.iconst 2, 1) := by decide +kernel
theorem dX6_tells_13 : decode cX6_tells 13 = .ok (.if_icmp .le 5, 3) := by decide +kernel
theorem dX6_tells_16 : decode cX6_tells 16 = .ok (.iconst (-1), 1) := by decide +kernel
theorem dX6_tells_17 : decode cX6_tells 17 = .ok (.ireturn, 1) := by decide +kernel
theorem dX6_tells_18 : decode cX6_tells 18 = .ok (.aload_n 0, 1) := by decide +kernel
theorem dX6_tells_19 : decode cX6_tells 19 = .ok (.getfield 90, 3) := by decide +kernel
theorem dX6_tells_22 : decode cX6_tells 22 = .ok (.bipush 6, 2) := by decide +kernel
theorem dX6_tells_24 : decode cX6_tells 24 = .ok (.if_icmp .lt 6, 3) := by decide +kernel
theorem dX6_tells_27 : decode cX6_tells 27 = .ok (.bipush (-3), 2) := by decide +kernel
theorem dX6_tells_29 : decode cX6_tells 29 = .ok (.ireturn, 1) := by decide +kernel
theorem dX6_tells_30 : decode cX6_tells 30 = .ok (.aload_n 0, 1) := by decide +kernel
theorem dX6_tells_31 : decode cX6_tells 31 = .ok (.getfield 41, 3) := by decide +kernel
theorem dX6_tells_34 : decode cX6_tells 34 = .ok (.aload_n 0, 1) := by decide +kernel
theorem dX6_tells_35 : decode cX6_tells 35 = .ok (.getfield 90, 3) := by decide +kernel
theorem dX6_tells_38 : decode cX6_tells 38 = .ok (.iload_n 1, 1) := by decide +kernel
theorem dX6_tells_39 : decode cX6_tells 39 = .ok (.iastore, 1) := by decide +kernel
theorem dX6_tells_40 : decode cX6_tells 40 = .ok (.aload_n 0, 1) := by decide +kernel
theorem dX6_tells_41 : decode cX6_tells 41 = .ok (.getfield 45, 3) := by decide +kernel
theorem dX6_tells_44 : decode cX6_tells 44 = .ok (.aload_n 0, 1) := by decide +kernel
theorem dX6_tells_45 : decode cX6_tells 45 = .ok (.getfield 90, 3) := by decide +kernel
theorem dX6_tells_48 : decode cX6_tells 48 = .ok (.iload_n 2, 1) := by decide +kernel
theorem dX6_tells_49 : decode cX6_tells 49 = .ok (.iastore, 1) := by decide +kernel
theorem dX6_tells_50 : decode cX6_tells 50 = .ok (.aload_n 0, 1) := by decide +kernel
theorem dX6_tells_51 : decode cX6_tells 51 = .ok (.dup, 1) := by decide +kernel
theorem dX6_tells_52 : decode cX6_tells 52 = .ok (.getfield 90, 3) := by decide +kernel
theorem dX6_tells_55 : decode cX6_tells 55 = .ok (.iconst 1, 1) := by decide +kernel
theorem dX6_tells_56 : decode cX6_tells 56 = .ok (.iadd, 1) := by decide +kernel
theorem dX6_tells_57 : decode cX6_tells 57 = .ok (.putfield 90, 3) := by decide +kernel
theorem dX6_tells_60 : decode cX6_tells 60 = .ok (.aload_n 0, 1) := by decide +kernel
theorem dX6_tells_61 : decode cX6_tells 61 = .ok (.getfield 90, 3) := by decide +kernel
theorem dX6_tells_64 : decode cX6_tells 64 = .ok (.ireturn, 1) := by decide +kernel
theorem dX6_forget_0 : decode cX6_forget 0 = .ok (.aload_n 0, 1) := by decide +kernel
theorem dX6_forget_1 : decode cX6_forget 1 = .ok (.getfield 90, 3) := by decide +kernel
theorem dX6_forget_4 : decode cX6_forget 4 = .ok (.istore_n 1, 1) := by decide +kernel
theorem dX6_forget_5 : decode cX6_forget 5 = .ok (.aload_n 0, 1) := by decide +kernel
theorem dX6_forget_6 : decode cX6_forget 6 = .ok (.iconst 0, 1) := by decide +kernel
theorem dX6_forget_7 : decode cX6_forget 7 = .ok (.putfield 90, 3) := by decide +kernel
theorem dX6_forget_10 : decode cX6_forget 10 = .ok (.iload_n 1, 1) := by decide +kernel
theorem dX6_forget_11 : decode cX6_forget 11 = .ok (.ireturn, 1) := by decide +kernel
theorem dX6_who_0 : decode cX6_who 0 = .ok (.iload_n 1, 1) := by decide +kernel
theorem dX6_who_1 : decode cX6_who 1 = .ok (.ifCond .lt 8, 3) := by decide +kernel
theorem dX6_who_4 : decode cX6_who 4 = .ok (.iload_n 1, 1) := by decide +kernel
theorem dX6_who_5 : decode cX6_who 5 = .ok (.iconst 2, 1) := by decide +kernel
theorem dX6_who_6 : decode cX6_who 6 = .ok (.if_icmp .le 5, 3) := by decide +kernel
theorem dX6_who_9 : decode cX6_who 9 = .ok (.iconst (-1), 1) := by decide +kernel
theorem dX6_who_10 : decode cX6_who 10 = .ok (.ireturn, 1) := by decide +kernel
theorem dX6_who_11 : decode cX6_who 11 = .ok (.iconst 0, 1) := by decide +kernel
theorem dX6_who_12 : decode cX6_who 12 = .ok (.istore_n 2, 1) := by decide +kernel
theorem dX6_who_13 : decode cX6_who 13 = .ok (.bipush (-9), 2) := by decide +kernel
theorem dX6_who_15 : decode cX6_who 15 = .ok (.istore_n 3, 1) := by decide +kernel
theorem dX6_who_16 : decode cX6_who 16 = .ok (.bipush (-9), 2) := by decide +kernel
theorem dX6_who_18 : decode cX6_who 18 = .ok (.istore 4, 2) := by decide +kernel
theorem dX6_who_20 : decode cX6_who 20 = .ok (.iconst 0, 1) := by decide +kernel
theorem dX6_who_21 : decode cX6_who 21 = .ok (.istore 5, 2) := by decide +kernel
theorem dX6_who_23 : decode cX6_who 23 = .ok (.iload 5, 2) := by decide +kernel
theorem dX6_who_25 : decode cX6_who 25 = .ok (.iconst 1, 1) := by decide +kernel
theorem dX6_who_26 : decode cX6_who 26 = .ok (.aload_n 0, 1) := by decide +kernel
theorem dX6_who_27 : decode cX6_who 27 = .ok (.getfield 19, 3) := by decide +kernel
theorem dX6_who_30 : decode cX6_who 30 = .ok (.getfield 120, 3) := by decide +kernel
theorem dX6_who_33 : decode cX6_who 33 = .ok (.ishl, 1) := by decide +kernel
theorem dX6_who_34 : decode cX6_who 34 = .ok (.if_icmp .ge 48, 3) := by decide +kernel
theorem dX6_who_37 : decode cX6_who 37 = .ok (.aload_n 0, 1) := by decide +kernel
theorem dX6_who_38 : decode cX6_who 38 = .ok (.iload 5, 2) := by decide +kernel
theorem dX6_who_40 : decode cX6_who 40 = .ok (.invokevirtual 230, 3) := by decide +kernel
theorem dX6_who_43 : decode cX6_who 43 = .ok (.ifCond .eq 33, 3) := by decide +kernel
theorem dX6_who_46 : decode cX6_who 46 = .ok (.iload_n 2, 1) := by decide +kernel
theorem dX6_who_47 : decode cX6_who 47 = .ok (.ifCond .ne 8, 3) := by decide +kernel
theorem dX6_who_50 : decode cX6_who 50 = .ok (.iload 5, 2) := by decide +kernel
theorem dX6_who_52 : decode cX6_who 52 = .ok (.goto 4, 3) := by decide +kernel
theorem dX6_who_55 : decode cX6_who 55 = .ok (.iload_n 3, 1) := by decide +kernel
theorem dX6_who_56 : decode cX6_who 56 = .ok (.istore_n 3, 1) := by decide +kernel
theorem dX6_who_57 : decode cX6_who 57 = .ok (.iload_n 2, 1) := by decide +kernel
theorem dX6_who_58 : decode cX6_who 58 = .ok (.ifCond .ne 8, 3) := by decide +kernel
theorem dX6_who_61 : decode cX6_who 61 = .ok (.iload 5, 2) := by decide +kernel
theorem dX6_who_63 : decode cX6_who 63 = .ok (.goto 8, 3) := by decide +kernel
theorem dX6_who_66 : decode cX6_who 66 = .ok (.iload 4, 2) := by decide +kernel
theorem dX6_who_68 : decode cX6_who 68 = .ok (.iload 5, 2) := by decide +kernel
theorem dX6_who_70 : decode cX6_who 70 = .ok (.iand, 1) := by decide +kernel
theorem dX6_who_71 : decode cX6_who 71 = .ok (.istore 4, 2) := by decide +kernel
theorem dX6_who_73 : decode cX6_who 73 = .ok (.iinc 2 1, 3) := by decide +kernel
theorem dX6_who_76 : decode cX6_who 76 = .ok (.iinc 5 1, 3) := by decide +kernel
theorem dX6_who_79 : decode cX6_who 79 = .ok (.goto (-56), 3) := by decide +kernel
theorem dX6_who_82 : decode cX6_who 82 = .ok (.iload_n 1, 1) := by decide +kernel
theorem dX6_who_83 : decode cX6_who 83 = .ok (.ifCond .ne 7, 3) := by decide +kernel
theorem dX6_who_86 : decode cX6_who 86 = .ok (.iload_n 2, 1) := by decide +kernel
theorem dX6_who_87 : decode cX6_who 87 = .ok (.goto 14, 3) := by decide +kernel
theorem dX6_who_90 : decode cX6_who 90 = .ok (.iload_n 1, 1) := by decide +kernel
theorem dX6_who_91 : decode cX6_who 91 = .ok (.iconst 1, 1) := by decide +kernel
theorem dX6_who_92 : decode cX6_who 92 = .ok (.if_icmp .ne 7, 3) := by decide +kernel
theorem dX6_who_95 : decode cX6_who 95 = .ok (.iload_n 3, 1) := by decide +kernel
theorem dX6_who_96 : decode cX6_who 96 = .ok (.goto 5, 3) := by decide +kernel
theorem dX6_who_99 : decode cX6_who 99 = .ok (.iload 4, 2) := by decide +kernel
theorem dX6_who_101 : decode cX6_who 101 = .ok (.ireturn, 1) := by decide +kernel
theorem dX6_mark_0 : decode cX6_mark 0 = .ok (.aload_n 0, 1) := by decide +kernel
theorem dX6_mark_1 : decode cX6_mark 1 = .ok (.iload_n 2, 1) := by decide +kernel
theorem dX6_mark_2 : decode cX6_mark 2 = .ok (.invokevirtual 93, 3) := by decide +kernel
theorem dX6_mark_5 : decode cX6_mark 5 = .ok (.ifCond .ne 6, 3) := by decide +kernel
theorem dX6_mark_8 : decode cX6_mark 8 = .ok (.ldc 233, 2) := by decide +kernel
theorem dX6_mark_10 : decode cX6_mark 10 = .ok (.ireturn, 1) := by decide +kernel
theorem dX6_mark_11 : decode cX6_mark 11 = .ok (.iload_n 1, 1) := by decide +kernel
theorem dX6_mark_12 : decode cX6_mark 12 = .ok (.tableswitch 76 0 5 #[40, 46, 52, 58, 64, 70], 40) := by decide +kernel
theorem dX6_mark_52 : decode cX6_mark 52 = .ok (.aload_n 0, 1) := by decide +kernel
theorem dX6_mark_53 : decode cX6_mark 53 = .ok (.iload_n 2, 1) := by decide +kernel
theorem dX6_mark_54 : decode cX6_mark 54 = .ok (.invokevirtual 234, 3) := by decide +kernel
theorem dX6_mark_57 : decode cX6_mark 57 = .ok (.ireturn, 1) := by decide +kernel
theorem dX6_mark_58 : decode cX6_mark 58 = .ok (.aload_n 0, 1) := by decide +kernel
theorem dX6_mark_59 : decode cX6_mark 59 = .ok (.iload_n 2, 1) := by decide +kernel
theorem dX6_mark_60 : decode cX6_mark 60 = .ok (.invokevirtual 237, 3) := by decide +kernel
theorem dX6_mark_63 : decode cX6_mark 63 = .ok (.ireturn, 1) := by decide +kernel
theorem dX6_mark_64 : decode cX6_mark 64 = .ok (.aload_n 0, 1) := by decide +kernel
theorem dX6_mark_65 : decode cX6_mark 65 = .ok (.iload_n 2, 1) := by decide +kernel
theorem dX6_mark_66 : decode cX6_mark 66 = .ok (.invokevirtual 240, 3) := by decide +kernel
theorem dX6_mark_69 : decode cX6_mark 69 = .ok (.ireturn, 1) := by decide +kernel
theorem dX6_mark_70 : decode cX6_mark 70 = .ok (.aload_n 0, 1) := by decide +kernel
theorem dX6_mark_71 : decode cX6_mark 71 = .ok (.iload_n 2, 1) := by decide +kernel
theorem dX6_mark_72 : decode cX6_mark 72 = .ok (.invokevirtual 243, 3) := by decide +kernel
theorem dX6_mark_75 : decode cX6_mark 75 = .ok (.ireturn, 1) := by decide +kernel
theorem dX6_mark_76 : decode cX6_mark 76 = .ok (.aload_n 0, 1) := by decide +kernel
theorem dX6_mark_77 : decode cX6_mark 77 = .ok (.iload_n 2, 1) := by decide +kernel
theorem dX6_mark_78 : decode cX6_mark 78 = .ok (.invokevirtual 246, 3) := by decide +kernel
theorem dX6_mark_81 : decode cX6_mark 81 = .ok (.ireturn, 1) := by decide +kernel
theorem dX6_mark_82 : decode cX6_mark 82 = .ok (.aload_n 0, 1) := by decide +kernel
theorem dX6_mark_83 : decode cX6_mark 83 = .ok (.iload_n 2, 1) := by decide +kernel
theorem dX6_mark_84 : decode cX6_mark 84 = .ok (.invokevirtual 249, 3) := by decide +kernel
theorem dX6_mark_87 : decode cX6_mark 87 = .ok (.ireturn, 1) := by decide +kernel
theorem dX6_mark_88 : decode cX6_mark 88 = .ok (.ldc 233, 2) := by decide +kernel
theorem dX6_mark_90 : decode cX6_mark 90 = .ok (.ireturn, 1) := by decide +kernel
theorem dX6_keep_0 : decode cX6_keep 0 = .ok (.iload_n 1, 1) := by decide +kernel
theorem dX6_keep_1 : decode cX6_keep 1 = .ok (.invokestatic 252, 3) := by decide +kernel
theorem dX6_keep_4 : decode cX6_keep 4 = .ok (.ifCond .ne 5, 3) := by decide +kernel
theorem dX6_keep_7 : decode cX6_keep 7 = .ok (.iconst (-1), 1) := by decide +kernel
theorem dX6_keep_8 : decode cX6_keep 8 = .ok (.ireturn, 1) := by decide +kernel
theorem dX6_keep_9 : decode cX6_keep 9 = .ok (.aload_n 0, 1) := by decide +kernel
