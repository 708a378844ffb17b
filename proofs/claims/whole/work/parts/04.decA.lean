theorem dX0_init_0 : decode cX0_init 0 = .ok (.aload_n 0, 1) := by decide +kernel
theorem dX0_init_1 : decode cX0_init 1 = .ok (.invokespecial 3, 3) := by decide +kernel
theorem dX0_init_4 : decode cX0_init 4 = .ok (.aload_n 0, 1) := by decide +kernel
theorem dX0_init_5 : decode cX0_init 5 = .ok (.iconst 3, 1) := by decide +kernel
theorem dX0_init_6 : decode cX0_init 6 = .ok (.newarray .int, 2) := by decide +kernel
theorem dX0_init_8 : decode cX0_init 8 = .ok (.putfield 9, 3) := by decide +kernel
theorem dX0_init_11 : decode cX0_init 11 = .ok (.aload_n 0, 1) := by decide +kernel
theorem dX0_init_12 : decode cX0_init 12 = .ok (.iconst 3, 1) := by decide +kernel
theorem dX0_init_13 : decode cX0_init 13 = .ok (.newarray .int, 2) := by decide +kernel
theorem dX0_init_15 : decode cX0_init 15 = .ok (.putfield 15, 3) := by decide +kernel
theorem dX0_init_18 : decode cX0_init 18 = .ok (.aload_n 0, 1) := by decide +kernel
theorem dX0_init_19 : decode cX0_init 19 = .ok (.aload_n 1, 1) := by decide +kernel
theorem dX0_init_20 : decode cX0_init 20 = .ok (.putfield 18, 3) := by decide +kernel
theorem dX0_init_23 : decode cX0_init 23 = .ok (.return_, 1) := by decide +kernel
theorem dX0_find_0 : decode cX0_find 0 = .ok (.iconst 0, 1) := by decide +kernel
theorem dX0_find_1 : decode cX0_find 1 = .ok (.istore 5, 2) := by decide +kernel
theorem dX0_find_3 : decode cX0_find 3 = .ok (.iload 5, 2) := by decide +kernel
theorem dX0_find_5 : decode cX0_find 5 = .ok (.bipush 72, 2) := by decide +kernel
theorem dX0_find_7 : decode cX0_find 7 = .ok (.if_icmp .ge 22, 3) := by decide +kernel
theorem dX0_find_10 : decode cX0_find 10 = .ok (.aload_n 0, 1) := by decide +kernel
theorem dX0_find_11 : decode cX0_find 11 = .ok (.getfield 18, 3) := by decide +kernel
theorem dX0_find_14 : decode cX0_find 14 = .ok (.aload_n 1, 1) := by decide +kernel
theorem dX0_find_15 : decode cX0_find 15 = .ok (.iload 5, 2) := by decide +kernel
theorem dX0_find_17 : decode cX0_find 17 = .ok (.iload_n 3, 1) := by decide +kernel
theorem dX0_find_18 : decode cX0_find 18 = .ok (.iload 4, 2) := by decide +kernel
theorem dX0_find_20 : decode cX0_find 20 = .ok (.invokevirtual 22, 3) := by decide +kernel
theorem dX0_find_23 : decode cX0_find 23 = .ok (.iinc 5 1, 3) := by decide +kernel
theorem dX0_find_26 : decode cX0_find 26 = .ok (.goto (-23), 3) := by decide +kernel
theorem dX0_find_29 : decode cX0_find 29 = .ok (.aload_n 0, 1) := by decide +kernel
theorem dX0_find_30 : decode cX0_find 30 = .ok (.iload_n 2, 1) := by decide +kernel
theorem dX0_find_31 : decode cX0_find 31 = .ok (.putfield 28, 3) := by decide +kernel
theorem dX0_find_34 : decode cX0_find 34 = .ok (.aload_n 0, 1) := by decide +kernel
theorem dX0_find_35 : decode cX0_find 35 = .ok (.ldc 34, 2) := by decide +kernel
theorem dX0_find_37 : decode cX0_find 37 = .ok (.putfield 35, 3) := by decide +kernel
theorem dX0_find_40 : decode cX0_find 40 = .ok (.aload_n 0, 1) := by decide +kernel
theorem dX0_find_41 : decode cX0_find 41 = .ok (.iconst 0, 1) := by decide +kernel
theorem dX0_find_42 : decode cX0_find 42 = .ok (.iconst 0, 1) := by decide +kernel
theorem dX0_find_43 : decode cX0_find 43 = .ok (.iconst 0, 1) := by decide +kernel
theorem dX0_find_44 : decode cX0_find 44 = .ok (.invokevirtual 38, 3) := by decide +kernel
theorem dX0_find_47 : decode cX0_find 47 = .ok (.aload_n 0, 1) := by decide +kernel
theorem dX0_find_48 : decode cX0_find 48 = .ok (.getfield 35, 3) := by decide +kernel
theorem dX0_find_51 : decode cX0_find 51 = .ok (.ldc 34, 2) := by decide +kernel
theorem dX0_find_53 : decode cX0_find 53 = .ok (.if_icmp .eq 7, 3) := by decide +kernel
theorem dX0_find_56 : decode cX0_find 56 = .ok (.iconst 1, 1) := by decide +kernel
theorem dX0_find_57 : decode cX0_find 57 = .ok (.goto 4, 3) := by decide +kernel
theorem dX0_find_60 : decode cX0_find 60 = .ok (.iconst 0, 1) := by decide +kernel
theorem dX0_find_61 : decode cX0_find 61 = .ok (.ireturn, 1) := by decide +kernel
theorem dX0_leastFlour_0 : decode cX0_leastFlour 0 = .ok (.aload_n 0, 1) := by decide +kernel
theorem dX0_leastFlour_1 : decode cX0_leastFlour 1 = .ok (.getfield 35, 3) := by decide +kernel
theorem dX0_leastFlour_4 : decode cX0_leastFlour 4 = .ok (.ireturn, 1) := by decide +kernel
theorem dX0_signAt_0 : decode cX0_signAt 0 = .ok (.aload_n 0, 1) := by decide +kernel
theorem dX0_signAt_1 : decode cX0_signAt 1 = .ok (.getfield 15, 3) := by decide +kernel
theorem dX0_signAt_4 : decode cX0_signAt 4 = .ok (.iload_n 1, 1) := by decide +kernel
theorem dX0_signAt_5 : decode cX0_signAt 5 = .ok (.invokestatic 42, 3) := by decide +kernel
theorem dX0_signAt_8 : decode cX0_signAt 8 = .ok (.ireturn, 1) := by decide +kernel
theorem dX0_extend_0 : decode cX0_extend 0 = .ok (.iload_n 1, 1) := by decide +kernel
theorem dX0_extend_1 : decode cX0_extend 1 = .ok (.ifCond .lt 20, 3) := by decide +kernel
theorem dX0_extend_4 : decode cX0_extend 4 = .ok (.iload_n 1, 1) := by decide +kernel
theorem dX0_extend_5 : decode cX0_extend 5 = .ok (.aload_n 0, 1) := by decide +kernel
theorem dX0_extend_6 : decode cX0_extend 6 = .ok (.getfield 28, 3) := by decide +kernel
theorem dX0_extend_9 : decode cX0_extend 9 = .ok (.if_icmp .ge 12, 3) := by decide +kernel
theorem dX0_extend_12 : decode cX0_extend 12 = .ok (.iload_n 1, 1) := by decide +kernel
theorem dX0_extend_13 : decode cX0_extend 13 = .ok (.aload_n 0, 1) := by decide +kernel
theorem dX0_extend_14 : decode cX0_extend 14 = .ok (.getfield 9, 3) := by decide +kernel
theorem dX0_extend_17 : decode cX0_extend 17 = .ok (.arraylength, 1) := by decide +kernel
theorem dX0_extend_18 : decode cX0_extend 18 = .ok (.if_icmp .lt 23, 3) := by decide +kernel
theorem dX0_extend_21 : decode cX0_extend 21 = .ok (.aload_n 0, 1) := by decide +kernel
theorem dX0_extend_22 : decode cX0_extend 22 = .ok (.getfield 9, 3) := by decide +kernel
theorem dX0_extend_25 : decode cX0_extend 25 = .ok (.iconst 0, 1) := by decide +kernel
theorem dX0_extend_26 : decode cX0_extend 26 = .ok (.aload_n 0, 1) := by decide +kernel
theorem dX0_extend_27 : decode cX0_extend 27 = .ok (.getfield 15, 3) := by decide +kernel
theorem dX0_extend_30 : decode cX0_extend 30 = .ok (.iconst 0, 1) := by decide +kernel
theorem dX0_extend_31 : decode cX0_extend 31 = .ok (.iconst 3, 1) := by decide +kernel
theorem dX0_extend_32 : decode cX0_extend 32 = .ok (.invokestatic 46, 3) := by decide +kernel
theorem dX0_extend_35 : decode cX0_extend 35 = .ok (.aload_n 0, 1) := by decide +kernel
theorem dX0_extend_36 : decode cX0_extend 36 = .ok (.iload_n 3, 1) := by decide +kernel
theorem dX0_extend_37 : decode cX0_extend 37 = .ok (.putfield 35, 3) := by decide +kernel
theorem dX0_extend_40 : decode cX0_extend 40 = .ok (.return_, 1) := by decide +kernel
theorem dX0_extend_41 : decode cX0_extend 41 = .ok (.iload_n 2, 1) := by decide +kernel
theorem dX0_extend_42 : decode cX0_extend 42 = .ok (.istore 4, 2) := by decide +kernel
theorem dX0_extend_44 : decode cX0_extend 44 = .ok (.iload 4, 2) := by decide +kernel
theorem dX0_extend_46 : decode cX0_extend 46 = .ok (.bipush 72, 2) := by decide +kernel
theorem dX0_extend_48 : decode cX0_extend 48 = .ok (.if_icmp .ge 58, 3) := by decide +kernel
theorem dX0_extend_51 : decode cX0_extend 51 = .ok (.iload_n 3, 1) := by decide +kernel
theorem dX0_extend_52 : decode cX0_extend 52 = .ok (.iload 4, 2) := by decide +kernel
theorem dX0_extend_54 : decode cX0_extend 54 = .ok (.invokestatic 52, 3) := by decide +kernel
theorem dX0_extend_57 : decode cX0_extend 57 = .ok (.iadd, 1) := by decide +kernel
theorem dX0_extend_58 : decode cX0_extend 58 = .ok (.istore 5, 2) := by decide +kernel
theorem dX0_extend_60 : decode cX0_extend 60 = .ok (.iload 5, 2) := by decide +kernel
theorem dX0_extend_62 : decode cX0_extend 62 = .ok (.aload_n 0, 1) := by decide +kernel
theorem dX0_extend_63 : decode cX0_extend 63 = .ok (.getfield 35, 3) := by decide +kernel
theorem dX0_extend_66 : decode cX0_extend 66 = .ok (.if_icmp .ge 34, 3) := by decide +kernel
theorem dX0_extend_69 : decode cX0_extend 69 = .ok (.aload_n 0, 1) := by decide +kernel
theorem dX0_extend_70 : decode cX0_extend 70 = .ok (.iload 4, 2) := by decide +kernel
theorem dX0_extend_72 : decode cX0_extend 72 = .ok (.iload_n 1, 1) := by decide +kernel
theorem dX0_extend_73 : decode cX0_extend 73 = .ok (.invokevirtual 58, 3) := by decide +kernel
theorem dX0_extend_76 : decode cX0_extend 76 = .ok (.ifCond .eq 24, 3) := by decide +kernel
theorem dX0_extend_79 : decode cX0_extend 79 = .ok (.aload_n 0, 1) := by decide +kernel
theorem dX0_extend_80 : decode cX0_extend 80 = .ok (.getfield 9, 3) := by decide +kernel
theorem dX0_extend_83 : decode cX0_extend 83 = .ok (.iload_n 1, 1) := by decide +kernel
theorem dX0_extend_84 : decode cX0_extend 84 = .ok (.iload 4, 2) := by decide +kernel
theorem dX0_extend_86 : decode cX0_extend 86 = .ok (.iastore, 1) := by decide +kernel
theorem dX0_extend_87 : decode cX0_extend 87 = .ok (.aload_n 0, 1) := by decide +kernel
theorem dX0_extend_88 : decode cX0_extend 88 = .ok (.iload_n 1, 1) := by decide +kernel
theorem dX0_extend_89 : decode cX0_extend 89 = .ok (.iconst 1, 1) := by decide +kernel
theorem dX0_extend_90 : decode cX0_extend 90 = .ok (.iadd, 1) := by decide +kernel
theorem dX0_extend_91 : decode cX0_extend 91 = .ok (.iload 4, 2) := by decide +kernel
theorem dX0_extend_93 : decode cX0_extend 93 = .ok (.iconst 1, 1) := by decide +kernel
theorem dX0_extend_94 : decode cX0_extend 94 = .ok (.iadd, 1) := by decide +kernel
theorem dX0_extend_95 : decode cX0_extend 95 = .ok (.iload 5, 2) := by decide +kernel
theorem dX0_extend_97 : decode cX0_extend 97 = .ok (.invokevirtual 38, 3) := by decide +kernel
theorem dX0_extend_100 : decode cX0_extend 100 = .ok (.iinc 4 1, 3) := by decide +kernel
theorem dX0_extend_103 : decode cX0_extend 103 = .ok (.goto (-59), 3) := by decide +kernel
theorem dX0_extend_106 : decode cX0_extend 106 = .ok (.return_, 1) := by decide +kernel
theorem dX0_staysApart_0 : decode cX0_staysApart 0 = .ok (.iconst 0, 1) := by decide +kernel
theorem dX0_staysApart_1 : decode cX0_staysApart 1 = .ok (.istore_n 3, 1) := by decide +kernel
theorem dX0_staysApart_2 : decode cX0_staysApart 2 = .ok (.iload_n 3, 1) := by decide +kernel
theorem dX0_staysApart_3 : decode cX0_staysApart 3 = .ok (.iload_n 2, 1) := by decide +kernel
theorem dX0_staysApart_4 : decode cX0_staysApart 4 = .ok (.if_icmp .ge 30, 3) := by decide +kernel
theorem dX0_staysApart_7 : decode cX0_staysApart 7 = .ok (.aload_n 0, 1) := by decide +kernel
theorem dX0_staysApart_8 : decode cX0_staysApart 8 = .ok (.getfield 18, 3) := by decide +kernel
theorem dX0_staysApart_11 : decode cX0_staysApart 11 = .ok (.iload_n 1, 1) := by decide +kernel
theorem dX0_staysApart_12 : decode cX0_staysApart 12 = .ok (.aload_n 0, 1) := by decide +kernel
theorem dX0_staysApart_13 : decode cX0_staysApart 13 = .ok (.getfield 9, 3) := by decide +kernel
theorem dX0_staysApart_16 : decode cX0_staysApart 16 = .ok (.iload_n 3, 1) := by decide +kernel
theorem dX0_staysApart_17 : decode cX0_staysApart 17 = .ok (.invokestatic 42, 3) := by decide +kernel
theorem dX0_staysApart_20 : decode cX0_staysApart 20 = .ok (.invokevirtual 62, 3) := by decide +kernel
theorem dX0_staysApart_23 : decode cX0_staysApart 23 = .ok (.ifCond .eq 5, 3) := by decide +kernel
theorem dX0_staysApart_26 : decode cX0_staysApart 26 = .ok (.iconst 0, 1) := by decide +kernel
theorem dX0_staysApart_27 : decode cX0_staysApart 27 = .ok (.ireturn, 1) := by decide +kernel
theorem dX0_staysApart_28 : decode cX0_staysApart 28 = .ok (.iinc 3 1, 3) := by decide +kernel
theorem dX0_staysApart_31 : decode cX0_staysApart 31 = .ok (.goto (-29), 3) := by decide +kernel
theorem dX0_staysApart_34 : decode cX0_staysApart 34 = .ok (.iconst 1, 1) := by decide +kernel
theorem dX0_staysApart_35 : decode cX0_staysApart 35 = .ok (.ireturn, 1) := by decide +kernel
theorem dX1_init_0 : decode cX1_init 0 = .ok (.aload_n 0, 1) := by decide +kernel
theorem dX1_init_1 : decode cX1_init 1 = .ok (.invokespecial 3, 3) := by decide +kernel
theorem dX1_init_4 : decode cX1_init 4 = .ok (.aload_n 0, 1) := by decide +kernel
theorem dX1_init_5 : decode cX1_init 5 = .ok (.bipush 42, 2) := by decide +kernel
theorem dX1_init_7 : decode cX1_init 7 = .ok (.newarray .int, 2) := by decide +kernel
theorem dX1_init_9 : decode cX1_init 9 = .ok (.putfield 9, 3) := by decide +kernel
theorem dX1_init_12 : decode cX1_init 12 = .ok (.return_, 1) := by decide +kernel
theorem dX1_size_0 : decode cX1_size 0 = .ok (.aload_n 0, 1) := by decide +kernel
theorem dX1_size_1 : decode cX1_size 1 = .ok (.getfield 9, 3) := by decide +kernel
theorem dX1_size_4 : decode cX1_size 4 = .ok (.bipush 40, 2) := by decide +kernel
theorem dX1_size_6 : decode cX1_size 6 = .ok (.iaload, 1) := by decide +kernel
theorem dX1_size_7 : decode cX1_size 7 = .ok (.ireturn, 1) := by decide +kernel
theorem dX1_flour_0 : decode cX1_flour 0 = .ok (.aload_n 0, 1) := by decide +kernel
theorem dX1_flour_1 : decode cX1_flour 1 = .ok (.getfield 9, 3) := by decide +kernel
theorem dX1_flour_4 : decode cX1_flour 4 = .ok (.bipush 41, 2) := by decide +kernel
theorem dX1_flour_6 : decode cX1_flour 6 = .ok (.iaload, 1) := by decide +kernel
theorem dX1_flour_7 : decode cX1_flour 7 = .ok (.ireturn, 1) := by decide +kernel
theorem dX1_isFull_0 : decode cX1_isFull 0 = .ok (.aload_n 0, 1) := by decide +kernel
theorem dX1_isFull_1 : decode cX1_isFull 1 = .ok (.invokevirtual 13, 3) := by decide +kernel
theorem dX1_isFull_4 : decode cX1_isFull 4 = .ok (.bipush 8, 2) := by decide +kernel
theorem dX1_isFull_6 : decode cX1_isFull 6 = .ok (.if_icmp .lt 7, 3) := by decide +kernel
theorem dX1_isFull_9 : decode cX1_isFull 9 = .ok (.iconst 1, 1) := by decide +kernel
theorem dX1_isFull_10 : decode cX1_isFull 10 = .ok (.goto 4, 3) := by decide +kernel
theorem dX1_isFull_13 : decode cX1_isFull 13 = .ok (.iconst 0, 1) := by decide +kernel
theorem dX1_isFull_14 : decode cX1_isFull 14 = .ok (.ireturn, 1) := by decide +kernel
theorem dX1_holds_0 : decode cX1_holds 0 = .ok (.iload_n 1, 1) := by decide +kernel
theorem dX1_holds_1 : decode cX1_holds 1 = .ok (.iconst 0, 1) := by decide +kernel
theorem dX1_holds_2 : decode cX1_holds 2 = .ok (.aload_n 0, 1) := by decide +kernel
theorem dX1_holds_3 : decode cX1_holds 3 = .ok (.invokevirtual 13, 3) := by decide +kernel
theorem dX1_holds_6 : decode cX1_holds 6 = .ok (.iconst 1, 1) := by decide +kernel
theorem dX1_holds_7 : decode cX1_holds 7 = .ok (.isub, 1) := by decide +kernel
theorem dX1_holds_8 : decode cX1_holds 8 = .ok (.invokestatic 17, 3) := by decide +kernel
theorem dX1_holds_11 : decode cX1_holds 11 = .ok (.ifCond .eq 13, 3) := by decide +kernel
theorem dX1_holds_14 : decode cX1_holds 14 = .ok (.iload_n 1, 1) := by decide +kernel
theorem dX1_holds_15 : decode cX1_holds 15 = .ok (.bipush 8, 2) := by decide +kernel
theorem dX1_holds_17 : decode cX1_holds 17 = .ok (.if_icmp .ge 7, 3) := by decide +kernel
theorem dX1_holds_20 : decode cX1_holds 20 = .ok (.iconst 1, 1) := by decide +kernel
theorem dX1_holds_21 : decode cX1_holds 21 = .ok (.goto 4, 3) := by decide +kernel
theorem dX1_holds_24 : decode cX1_holds 24 = .ok (.iconst 0, 1) := by decide +kernel
theorem dX1_holds_25 : decode cX1_holds 25 = .ok (.ireturn, 1) := by decide +kernel
theorem dX1_part_0 : decode cX1_part 0 = .ok (.aload_n 0, 1) := by decide +kernel
theorem dX1_part_1 : decode cX1_part 1 = .ok (.iload_n 1, 1) := by decide +kernel
theorem dX1_part_2 : decode cX1_part 2 = .ok (.invokevirtual 23, 3) := by decide +kernel
theorem dX1_part_5 : decode cX1_part 5 = .ok (.ifCond .eq 27, 3) := by decide +kernel
theorem dX1_part_8 : decode cX1_part 8 = .ok (.iload_n 2, 1) := by decide +kernel
theorem dX1_part_9 : decode cX1_part 9 = .ok (.iconst 0, 1) := by decide +kernel
theorem dX1_part_10 : decode cX1_part 10 = .ok (.iconst 4, 1) := by decide +kernel
theorem dX1_part_11 : decode cX1_part 11 = .ok (.invokestatic 17, 3) := by decide +kernel
theorem dX1_part_14 : decode cX1_part 14 = .ok (.ifCond .eq 18, 3) := by decide +kernel
theorem dX1_part_17 : decode cX1_part 17 = .ok (.aload_n 0, 1) := by decide +kernel
theorem dX1_part_18 : decode cX1_part 18 = .ok (.getfield 9, 3) := by decide +kernel
theorem dX1_part_21 : decode cX1_part 21 = .ok (.iload_n 1, 1) := by decide +kernel
theorem dX1_part_22 : decode cX1_part 22 = .ok (.iconst 5, 1) := by decide +kernel
theorem dX1_part_23 : decode cX1_part 23 = .ok (.imul, 1) := by decide +kernel
theorem dX1_part_24 : decode cX1_part 24 = .ok (.iload_n 2, 1) := by decide +kernel
theorem dX1_part_25 : decode cX1_part 25 = .ok (.iadd, 1) := by decide +kernel
theorem dX1_part_26 : decode cX1_part 26 = .ok (.invokestatic 27, 3) := by decide +kernel
theorem dX1_part_29 : decode cX1_part 29 = .ok (.goto 4, 3) := by decide +kernel
theorem dX1_part_32 : decode cX1_part 32 = .ok (.iconst 0, 1) := by decide +kernel
theorem dX1_part_33 : decode cX1_part 33 = .ok (.ireturn, 1) := by decide +kernel
theorem dX1_clear_0 : decode cX1_clear 0 = .ok (.aload_n 0, 1) := by decide +kernel
theorem dX1_clear_1 : decode cX1_clear 1 = .ok (.getfield 9, 3) := by decide +kernel
theorem dX1_clear_4 : decode cX1_clear 4 = .ok (.bipush 40, 2) := by decide +kernel
theorem dX1_clear_6 : decode cX1_clear 6 = .ok (.iconst 0, 1) := by decide +kernel
theorem dX1_clear_7 : decode cX1_clear 7 = .ok (.iastore, 1) := by decide +kernel
theorem dX1_clear_8 : decode cX1_clear 8 = .ok (.aload_n 0, 1) := by decide +kernel
theorem dX1_clear_9 : decode cX1_clear 9 = .ok (.getfield 9, 3) := by decide +kernel
theorem dX1_clear_12 : decode cX1_clear 12 = .ok (.bipush 41, 2) := by decide +kernel
theorem dX1_clear_14 : decode cX1_clear 14 = .ok (.iconst 0, 1) := by decide +kernel
theorem dX1_clear_15 : decode cX1_clear 15 = .ok (.iastore, 1) := by decide +kernel
theorem dX1_clear_16 : decode cX1_clear 16 = .ok (.return_, 1) := by decide +kernel
theorem dX1_useFlour_0 : decode cX1_useFlour 0 = .ok (.aload_n 0, 1) := by decide +kernel
theorem dX1_useFlour_1 : decode cX1_useFlour 1 = .ok (.getfield 9, 3) := by decide +kernel
theorem dX1_useFlour_4 : decode cX1_useFlour 4 = .ok (.bipush 41, 2) := by decide +kernel
theorem dX1_useFlour_6 : decode cX1_useFlour 6 = .ok (.dup2, 1) := by decide +kernel
theorem dX1_useFlour_7 : decode cX1_useFlour 7 = .ok (.iaload, 1) := by decide +kernel
theorem dX1_useFlour_8 : decode cX1_useFlour 8 = .ok (.iload_n 1, 1) := by decide +kernel
theorem dX1_useFlour_9 : decode cX1_useFlour 9 = .ok (.iadd, 1) := by decide +kernel
theorem dX1_useFlour_10 : decode cX1_useFlour 10 = .ok (.iastore, 1) := by decide +kernel
theorem dX1_useFlour_11 : decode cX1_useFlour 11 = .ok (.return_, 1) := by decide +kernel
theorem dX1_add_0 : decode cX1_add 0 = .ok (.aload_n 0, 1) := by decide +kernel
theorem dX1_add_1 : decode cX1_add 1 = .ok (.invokevirtual 31, 3) := by decide +kernel
theorem dX1_add_4 : decode cX1_add 4 = .ok (.ifCond .eq 4, 3) := by decide +kernel
theorem dX1_add_7 : decode cX1_add 7 = .ok (.return_, 1) := by decide +kernel
theorem dX1_add_8 : decode cX1_add 8 = .ok (.aload_n 0, 1) := by decide +kernel
theorem dX1_add_9 : decode cX1_add 9 = .ok (.invokevirtual 13, 3) := by decide +kernel
theorem dX1_add_12 : decode cX1_add 12 = .ok (.istore 4, 2) := by decide +kernel
theorem dX1_add_14 : decode cX1_add 14 = .ok (.aload_n 0, 1) := by decide +kernel
theorem dX1_add_15 : decode cX1_add 15 = .ok (.getfield 9, 3) := by decide +kernel
theorem dX1_add_18 : decode cX1_add 18 = .ok (.bipush 40, 2) := by decide +kernel
theorem dX1_add_20 : decode cX1_add 20 = .ok (.iload 4, 2) := by decide +kernel
theorem dX1_add_22 : decode cX1_add 22 = .ok (.iconst 1, 1) := by decide +kernel
theorem dX1_add_23 : decode cX1_add 23 = .ok (.iadd, 1) := by decide +kernel
theorem dX1_add_24 : decode cX1_add 24 = .ok (.iastore, 1) := by decide +kernel
theorem dX1_add_25 : decode cX1_add 25 = .ok (.aload_n 0, 1) := by decide +kernel
theorem dX1_add_26 : decode cX1_add 26 = .ok (.iload 4, 2) := by decide +kernel
theorem dX1_add_28 : decode cX1_add 28 = .ok (.iconst 0, 1) := by decide +kernel
theorem dX1_add_29 : decode cX1_add 29 = .ok (.iload_n 1, 1) := by decide +kernel
theorem dX1_add_30 : decode cX1_add 30 = .ok (.invokevirtual 35, 3) := by decide +kernel
theorem dX1_add_33 : decode cX1_add 33 = .ok (.aload_n 0, 1) := by decide +kernel
theorem dX1_add_34 : decode cX1_add 34 = .ok (.iload 4, 2) := by decide +kernel
theorem dX1_add_36 : decode cX1_add 36 = .ok (.iconst 1, 1) := by decide +kernel
theorem dX1_add_37 : decode cX1_add 37 = .ok (.iload_n 2, 1) := by decide +kernel
theorem dX1_add_38 : decode cX1_add 38 = .ok (.invokevirtual 35, 3) := by decide +kernel
theorem dX1_add_41 : decode cX1_add 41 = .ok (.aload_n 0, 1) := by decide +kernel
theorem dX1_add_42 : decode cX1_add 42 = .ok (.iload 4, 2) := by decide +kernel
theorem dX1_add_44 : decode cX1_add 44 = .ok (.iconst 2, 1) := by decide +kernel
theorem dX1_add_45 : decode cX1_add 45 = .ok (.iconst 0, 1) := by decide +kernel
theorem dX1_add_46 : decode cX1_add 46 = .ok (.invokevirtual 35, 3) := by decide +kernel
theorem dX1_add_49 : decode cX1_add 49 = .ok (.aload_n 0, 1) := by decide +kernel
theorem dX1_add_50 : decode cX1_add 50 = .ok (.iload 4, 2) := by decide +kernel
theorem dX1_add_52 : decode cX1_add 52 = .ok (.iconst 3, 1) := by decide +kernel
theorem dX1_add_53 : decode cX1_add 53 = .ok (.iconst 0, 1) := by decide +kernel
theorem dX1_add_54 : decode cX1_add 54 = .ok (.invokevirtual 35, 3) := by decide +kernel
theorem dX1_add_57 : decode cX1_add 57 = .ok (.aload_n 0, 1) := by decide +kernel
theorem dX1_add_58 : decode cX1_add 58 = .ok (.iload 4, 2) := by decide +kernel
theorem dX1_add_60 : decode cX1_add 60 = .ok (.iconst 4, 1) := by decide +kernel
theorem dX1_add_61 : decode cX1_add 61 = .ok (.iload_n 3, 1) := by decide +kernel
theorem dX1_add_62 : decode cX1_add 62 = .ok (.invokevirtual 35, 3) := by decide +kernel
theorem dX1_add_65 : decode cX1_add 65 = .ok (.return_, 1) := by decide +kernel
theorem dX1_addBite_0 : decode cX1_addBite 0 = .ok (.aload_n 0, 1) := by decide +kernel
theorem dX1_addBite_1 : decode cX1_addBite 1 = .ok (.iload_n 1, 1) := by decide +kernel
theorem dX1_addBite_2 : decode cX1_addBite 2 = .ok (.iconst 3, 1) := by decide +kernel
theorem dX1_addBite_3 : decode cX1_addBite 3 = .ok (.aload_n 0, 1) := by decide +kernel
theorem dX1_addBite_4 : decode cX1_addBite 4 = .ok (.iload_n 1, 1) := by decide +kernel
theorem dX1_addBite_5 : decode cX1_addBite 5 = .ok (.iconst 3, 1) := by decide +kernel
theorem dX1_addBite_6 : decode cX1_addBite 6 = .ok (.invokevirtual 39, 3) := by decide +kernel
theorem dX1_addBite_9 : decode cX1_addBite 9 = .ok (.iconst 1, 1) := by decide +kernel
theorem dX1_addBite_10 : decode cX1_addBite 10 = .ok (.iadd, 1) := by decide +kernel
theorem dX1_addBite_11 : decode cX1_addBite 11 = .ok (.invokevirtual 35, 3) := by decide +kernel
theorem dX1_addBite_14 : decode cX1_addBite 14 = .ok (.return_, 1) := by decide +kernel
theorem dX1_passDay_0 : decode cX1_passDay 0 = .ok (.iconst 0, 1) := by decide +kernel
theorem dX1_passDay_1 : decode cX1_passDay 1 = .ok (.istore_n 1, 1) := by decide +kernel
theorem dX1_passDay_2 : decode cX1_passDay 2 = .ok (.iload_n 1, 1) := by decide +kernel
theorem dX1_passDay_3 : decode cX1_passDay 3 = .ok (.aload_n 0, 1) := by decide +kernel
theorem dX1_passDay_4 : decode cX1_passDay 4 = .ok (.invokevirtual 13, 3) := by decide +kernel
theorem dX1_passDay_7 : decode cX1_passDay 7 = .ok (.if_icmp .ge 23, 3) := by decide +kernel
theorem dX1_passDay_10 : decode cX1_passDay 10 = .ok (.aload_n 0, 1) := by decide +kernel
theorem dX1_passDay_11 : decode cX1_passDay 11 = .ok (.iload_n 1, 1) := by decide +kernel
theorem dX1_passDay_12 : decode cX1_passDay 12 = .ok (.iconst 2, 1) := by decide +kernel
theorem dX1_passDay_13 : decode cX1_passDay 13 = .ok (.aload_n 0, 1) := by decide +kernel
theorem dX1_passDay_14 : decode cX1_passDay 14 = .ok (.iload_n 1, 1) := by decide +kernel
theorem dX1_passDay_15 : decode cX1_passDay 15 = .ok (.iconst 2, 1) := by decide +kernel
theorem dX1_passDay_16 : decode cX1_passDay 16 = .ok (.invokevirtual 39, 3) := by decide +kernel
theorem dX1_passDay_19 : decode cX1_passDay 19 = .ok (.iconst 1, 1) := by decide +kernel
theorem dX1_passDay_20 : decode cX1_passDay 20 = .ok (.iadd, 1) := by decide +kernel
theorem dX1_passDay_21 : decode cX1_passDay 21 = .ok (.invokevirtual 35, 3) := by decide +kernel
theorem dX1_passDay_24 : decode cX1_passDay 24 = .ok (.iinc 1 1, 3) := by decide +kernel
theorem dX1_passDay_27 : decode cX1_passDay 27 = .ok (.goto (-25), 3) := by decide +kernel
theorem dX1_passDay_30 : decode cX1_passDay 30 = .ok (.return_, 1) := by decide +kernel
theorem dX1_remove_0 : decode cX1_remove 0 = .ok (.aload_n 0, 1) := by decide +kernel
theorem dX1_remove_1 : decode cX1_remove 1 = .ok (.iload_n 1, 1) := by decide +kernel
theorem dX1_remove_2 : decode cX1_remove 2 = .ok (.invokevirtual 23, 3) := by decide +kernel
theorem dX1_remove_5 : decode cX1_remove 5 = .ok (.ifCond .ne 4, 3) := by decide +kernel
theorem dX1_remove_8 : decode cX1_remove 8 = .ok (.return_, 1) := by decide +kernel
theorem dX1_remove_9 : decode cX1_remove 9 = .ok (.iload_n 1, 1) := by decide +kernel
theorem dX1_remove_10 : decode cX1_remove 10 = .ok (.iconst 1, 1) := by decide +kernel
theorem dX1_remove_11 : decode cX1_remove 11 = .ok (.iadd, 1) := by decide +kernel
theorem dX1_remove_12 : decode cX1_remove 12 = .ok (.istore_n 2, 1) := by decide +kernel
theorem dX1_remove_13 : decode cX1_remove 13 = .ok (.iload_n 2, 1) := by decide +kernel
theorem dX1_remove_14 : decode cX1_remove 14 = .ok (.aload_n 0, 1) := by decide +kernel
theorem dX1_remove_15 : decode cX1_remove 15 = .ok (.invokevirtual 13, 3) := by decide +kernel
theorem dX1_remove_18 : decode cX1_remove 18 = .ok (.if_icmp .ge 36, 3) := by decide +kernel
theorem dX1_remove_21 : decode cX1_remove 21 = .ok (.iconst 0, 1) := by decide +kernel
theorem dX1_remove_22 : decode cX1_remove 22 = .ok (.istore_n 3, 1) := by decide +kernel
theorem dX1_remove_23 : decode cX1_remove 23 = .ok (.iload_n 3, 1) := by decide +kernel
theorem dX1_remove_24 : decode cX1_remove 24 = .ok (.iconst 5, 1) := by decide +kernel
theorem dX1_remove_25 : decode cX1_remove 25 = .ok (.if_icmp .ge 23, 3) := by decide +kernel
theorem dX1_remove_28 : decode cX1_remove 28 = .ok (.aload_n 0, 1) := by decide +kernel
theorem dX1_remove_29 : decode cX1_remove 29 = .ok (.iload_n 2, 1) := by decide +kernel
theorem dX1_remove_30 : decode cX1_remove 30 = .ok (.iconst 1, 1) := by decide +kernel
theorem dX1_remove_31 : decode cX1_remove 31 = .ok (.isub, 1) := by decide +kernel
theorem dX1_remove_32 : decode cX1_remove 32 = .ok (.iload_n 3, 1) := by decide +kernel
theorem dX1_remove_33 : decode cX1_remove 33 = .ok (.aload_n 0, 1) := by decide +kernel
theorem dX1_remove_34 : decode cX1_remove 34 = .ok (.iload_n 2, 1) := by decide +kernel
theorem dX1_remove_35 : decode cX1_remove 35 = .ok (.iload_n 3, 1) := by decide +kernel
theorem dX1_remove_36 : decode cX1_remove 36 = .ok (.invokevirtual 39, 3) := by decide +kernel
theorem dX1_remove_39 : decode cX1_remove 39 = .ok (.invokevirtual 35, 3) := by decide +kernel
theorem dX1_remove_42 : decode cX1_remove 42 = .ok (.iinc 3 1, 3) := by decide +kernel
theorem dX1_remove_45 : decode cX1_remove 45 = .ok (.goto (-22), 3) := by decide +kernel
theorem dX1_remove_48 : decode cX1_remove 48 = .ok (.iinc 2 1, 3) := by decide +kernel
theorem dX1_remove_51 : decode cX1_remove 51 = .ok (.goto (-38), 3) := by decide +kernel
theorem dX1_remove_54 : decode cX1_remove 54 = .ok (.aload_n 0, 1) := by decide +kernel
theorem dX1_remove_55 : decode cX1_remove 55 = .ok (.getfield 9, 3) := by decide +kernel
theorem dX1_remove_58 : decode cX1_remove 58 = .ok (.bipush 40, 2) := by decide +kernel
theorem dX1_remove_60 : decode cX1_remove 60 = .ok (.aload_n 0, 1) := by decide +kernel
theorem dX1_remove_61 : decode cX1_remove 61 = .ok (.invokevirtual 13, 3) := by decide +kernel
theorem dX1_remove_64 : decode cX1_remove 64 = .ok (.iconst 1, 1) := by decide +kernel
theorem dX1_remove_65 : decode cX1_remove 65 = .ok (.isub, 1) := by decide +kernel
theorem dX1_remove_66 : decode cX1_remove 66 = .ok (.iastore, 1) := by decide +kernel
theorem dX1_remove_67 : decode cX1_remove 67 = .ok (.return_, 1) := by decide +kernel
theorem dX1_copyTo_0 : decode cX1_copyTo 0 = .ok (.iload_n 2, 1) := by decide +kernel
theorem dX1_copyTo_1 : decode cX1_copyTo 1 = .ok (.iconst 0, 1) := by decide +kernel
theorem dX1_copyTo_2 : decode cX1_copyTo 2 = .ok (.aload_n 1, 1) := by decide +kernel
theorem dX1_copyTo_3 : decode cX1_copyTo 3 = .ok (.arraylength, 1) := by decide +kernel
theorem dX1_copyTo_4 : decode cX1_copyTo 4 = .ok (.bipush 42, 2) := by decide +kernel
theorem dX1_copyTo_6 : decode cX1_copyTo 6 = .ok (.isub, 1) := by decide +kernel
theorem dX1_copyTo_7 : decode cX1_copyTo 7 = .ok (.invokestatic 17, 3) := by decide +kernel
theorem dX1_copyTo_10 : decode cX1_copyTo 10 = .ok (.ifCond .eq 15, 3) := by decide +kernel
theorem dX1_copyTo_13 : decode cX1_copyTo 13 = .ok (.aload_n 0, 1) := by decide +kernel
theorem dX1_copyTo_14 : decode cX1_copyTo 14 = .ok (.getfield 9, 3) := by decide +kernel
theorem dX1_copyTo_17 : decode cX1_copyTo 17 = .ok (.iconst 0, 1) := by decide +kernel
theorem dX1_copyTo_18 : decode cX1_copyTo 18 = .ok (.aload_n 1, 1) := by decide +kernel
theorem dX1_copyTo_19 : decode cX1_copyTo 19 = .ok (.iload_n 2, 1) := by decide +kernel
theorem dX1_copyTo_20 : decode cX1_copyTo 20 = .ok (.bipush 42, 2) := by decide +kernel
theorem dX1_copyTo_22 : decode cX1_copyTo 22 = .ok (.invokestatic 43, 3) := by decide +kernel
theorem dX1_copyTo_25 : decode cX1_copyTo 25 = .ok (.return_, 1) := by decide +kernel
theorem dX1_copyFrom_0 : decode cX1_copyFrom 0 = .ok (.iload_n 2, 1) := by decide +kernel
theorem dX1_copyFrom_1 : decode cX1_copyFrom 1 = .ok (.iconst 0, 1) := by decide +kernel
theorem dX1_copyFrom_2 : decode cX1_copyFrom 2 = .ok (.aload_n 1, 1) := by decide +kernel
theorem dX1_copyFrom_3 : decode cX1_copyFrom 3 = .ok (.arraylength, 1) := by decide +kernel
theorem dX1_copyFrom_4 : decode cX1_copyFrom 4 = .ok (.bipush 42, 2) := by decide +kernel
theorem dX1_copyFrom_6 : decode cX1_copyFrom 6 = .ok (.isub, 1) := by decide +kernel
theorem dX1_copyFrom_7 : decode cX1_copyFrom 7 = .ok (.invokestatic 17, 3) := by decide +kernel
theorem dX1_copyFrom_10 : decode cX1_copyFrom 10 = .ok (.ifCond .eq 15, 3) := by decide +kernel
theorem dX1_copyFrom_13 : decode cX1_copyFrom 13 = .ok (.aload_n 1, 1) := by decide +kernel
theorem dX1_copyFrom_14 : decode cX1_copyFrom 14 = .ok (.iload_n 2, 1) := by decide +kernel
theorem dX1_copyFrom_15 : decode cX1_copyFrom 15 = .ok (.aload_n 0, 1) := by decide +kernel
theorem dX1_copyFrom_16 : decode cX1_copyFrom 16 = .ok (.getfield 9, 3) := by decide +kernel
theorem dX1_copyFrom_19 : decode cX1_copyFrom 19 = .ok (.iconst 0, 1) := by decide +kernel
theorem dX1_copyFrom_20 : decode cX1_copyFrom 20 = .ok (.bipush 42, 2) := by decide +kernel
theorem dX1_copyFrom_22 : decode cX1_copyFrom 22 = .ok (.invokestatic 43, 3) := by decide +kernel
theorem dX1_copyFrom_25 : decode cX1_copyFrom 25 = .ok (.return_, 1) := by decide +kernel
theorem dX1_change_0 : decode cX1_change 0 = .ok (.aload_n 0, 1) := by decide +kernel
theorem dX1_change_1 : decode cX1_change 1 = .ok (.iload_n 1, 1) := by decide +kernel
theorem dX1_change_2 : decode cX1_change 2 = .ok (.invokevirtual 23, 3) := by decide +kernel
theorem dX1_change_5 : decode cX1_change 5 = .ok (.ifCond .eq 23, 3) := by decide +kernel
theorem dX1_change_8 : decode cX1_change 8 = .ok (.iload_n 2, 1) := by decide +kernel
theorem dX1_change_9 : decode cX1_change 9 = .ok (.iconst 0, 1) := by decide +kernel
theorem dX1_change_10 : decode cX1_change 10 = .ok (.iconst 4, 1) := by decide +kernel
theorem dX1_change_11 : decode cX1_change 11 = .ok (.invokestatic 17, 3) := by decide +kernel
theorem dX1_change_14 : decode cX1_change 14 = .ok (.ifCond .eq 14, 3) := by decide +kernel
theorem dX1_change_17 : decode cX1_change 17 = .ok (.aload_n 0, 1) := by decide +kernel
theorem dX1_change_18 : decode cX1_change 18 = .ok (.getfield 9, 3) := by decide +kernel
theorem dX1_change_21 : decode cX1_change 21 = .ok (.iload_n 1, 1) := by decide +kernel
theorem dX1_change_22 : decode cX1_change 22 = .ok (.iconst 5, 1) := by decide +kernel
theorem dX1_change_23 : decode cX1_change 23 = .ok (.imul, 1) := by decide +kernel
theorem dX1_change_24 : decode cX1_change 24 = .ok (.iload_n 2, 1) := by decide +kernel
theorem dX1_change_25 : decode cX1_change 25 = .ok (.iadd, 1) := by decide +kernel
theorem dX1_change_26 : decode cX1_change 26 = .ok (.iload_n 3, 1) := by decide +kernel
theorem dX1_change_27 : decode cX1_change 27 = .ok (.iastore, 1) := by decide +kernel
theorem dX1_change_28 : decode cX1_change 28 = .ok (.return_, 1) := by decide +kernel
theorem dX2_power_0 : decode cX2_power 0 = .ok (.lconst 1, 1) := by decide +kernel
theorem dX2_power_1 : decode cX2_power 1 = .ok (.lstore_n 3, 1) := by decide +kernel
theorem dX2_power_2 : decode cX2_power 2 = .ok (.iconst 0, 1) := by decide +kernel
theorem dX2_power_3 : decode cX2_power 3 = .ok (.istore 5, 2) := by decide +kernel
theorem dX2_power_5 : decode cX2_power 5 = .ok (.iload 5, 2) := by decide +kernel
theorem dX2_power_7 : decode cX2_power 7 = .ok (.iload_n 2, 1) := by decide +kernel
theorem dX2_power_8 : decode cX2_power 8 = .ok (.if_icmp .ge 13, 3) := by decide +kernel
theorem dX2_power_11 : decode cX2_power 11 = .ok (.lload_n 3, 1) := by decide +kernel
theorem dX2_power_12 : decode cX2_power 12 = .ok (.lload_n 0, 1) := by decide +kernel
theorem dX2_power_13 : decode cX2_power 13 = .ok (.lmul, 1) := by decide +kernel
theorem dX2_power_14 : decode cX2_power 14 = .ok (.lstore_n 3, 1) := by decide +kernel
theorem dX2_power_15 : decode cX2_power 15 = .ok (.iinc 5 1, 3) := by decide +kernel
theorem dX2_power_18 : decode cX2_power 18 = .ok (.goto (-13), 3) := by decide +kernel
theorem dX2_power_21 : decode cX2_power 21 = .ok (.lload_n 3, 1) := by decide +kernel
theorem dX2_power_22 : decode cX2_power 22 = .ok (.lreturn, 1) := by decide +kernel
theorem dX2_choose_0 : decode cX2_choose 0 = .ok (.lconst 1, 1) := by decide +kernel
theorem dX2_choose_1 : decode cX2_choose 1 = .ok (.lstore_n 2, 1) := by decide +kernel
theorem dX2_choose_2 : decode cX2_choose 2 = .ok (.iconst 0, 1) := by decide +kernel
theorem dX2_choose_3 : decode cX2_choose 3 = .ok (.istore 4, 2) := by decide +kernel
theorem dX2_choose_5 : decode cX2_choose 5 = .ok (.iload 4, 2) := by decide +kernel
theorem dX2_choose_7 : decode cX2_choose 7 = .ok (.iload_n 1, 1) := by decide +kernel
theorem dX2_choose_8 : decode cX2_choose 8 = .ok (.if_icmp .ge 23, 3) := by decide +kernel
theorem dX2_choose_11 : decode cX2_choose 11 = .ok (.lload_n 2, 1) := by decide +kernel
theorem dX2_choose_12 : decode cX2_choose 12 = .ok (.iload_n 0, 1) := by decide +kernel
theorem dX2_choose_13 : decode cX2_choose 13 = .ok (.iload 4, 2) := by decide +kernel
theorem dX2_choose_15 : decode cX2_choose 15 = .ok (.isub, 1) := by decide +kernel
theorem dX2_choose_16 : decode cX2_choose 16 = .ok (.i2l, 1) := by decide +kernel
theorem dX2_choose_17 : decode cX2_choose 17 = .ok (.lmul, 1) := by decide +kernel
theorem dX2_choose_18 : decode cX2_choose 18 = .ok (.iload 4, 2) := by decide +kernel
theorem dX2_choose_20 : decode cX2_choose 20 = .ok (.iconst 1, 1) := by decide +kernel
theorem dX2_choose_21 : decode cX2_choose 21 = .ok (.iadd, 1) := by decide +kernel
theorem dX2_choose_22 : decode cX2_choose 22 = .ok (.i2l, 1) := by decide +kernel
theorem dX2_choose_23 : decode cX2_choose 23 = .ok (.ldiv, 1) := by decide +kernel
theorem dX2_choose_24 : decode cX2_choose 24 = .ok (.lstore_n 2, 1) := by decide +kernel
theorem dX2_choose_25 : decode cX2_choose 25 = .ok (.iinc 4 1, 3) := by decide +kernel
theorem dX2_choose_28 : decode cX2_choose 28 = .ok (.goto (-23), 3) := by decide +kernel
theorem dX2_choose_31 : decode cX2_choose 31 = .ok (.lload_n 2, 1) := by decide +kernel
theorem dX2_choose_32 : decode cX2_choose 32 = .ok (.lreturn, 1) := by decide +kernel
theorem dX2_lowest_0 : decode cX2_lowest 0 = .ok (.lload_n 0, 1) := by decide +kernel
theorem dX2_lowest_1 : decode cX2_lowest 1 = .ok (.lload_n 2, 1) := by decide +kernel
theorem dX2_lowest_2 : decode cX2_lowest 2 = .ok (.invokestatic 7, 3) := by decide +kernel
theorem dX2_lowest_5 : decode cX2_lowest 5 = .ok (.lstore 5, 2) := by decide +kernel
theorem dX2_lowest_7 : decode cX2_lowest 7 = .ok (.iload 4, 2) := by decide +kernel
theorem dX2_lowest_9 : decode cX2_lowest 9 = .ok (.ifCond .ne 7, 3) := by decide +kernel
theorem dX2_lowest_12 : decode cX2_lowest 12 = .ok (.lload_n 0, 1) := by decide +kernel
theorem dX2_lowest_13 : decode cX2_lowest 13 = .ok (.goto 4, 3) := by decide +kernel
theorem dX2_lowest_16 : decode cX2_lowest 16 = .ok (.lload_n 2, 1) := by decide +kernel
theorem dX2_lowest_17 : decode cX2_lowest 17 = .ok (.lstore 7, 2) := by decide +kernel
theorem dX2_lowest_19 : decode cX2_lowest 19 = .ok (.lload 5, 2) := by decide +kernel
theorem dX2_lowest_21 : decode cX2_lowest 21 = .ok (.lconst 0, 1) := by decide +kernel
theorem dX2_lowest_22 : decode cX2_lowest 22 = .ok (.lcmp, 1) := by decide +kernel
theorem dX2_lowest_23 : decode cX2_lowest 23 = .ok (.ifCond .le 11, 3) := by decide +kernel
theorem dX2_lowest_26 : decode cX2_lowest 26 = .ok (.lload 7, 2) := by decide +kernel
theorem dX2_lowest_28 : decode cX2_lowest 28 = .ok (.lload 5, 2) := by decide +kernel
theorem dX2_lowest_30 : decode cX2_lowest 30 = .ok (.ldiv, 1) := by decide +kernel
theorem dX2_lowest_31 : decode cX2_lowest 31 = .ok (.goto 5, 3) := by decide +kernel
theorem dX2_lowest_34 : decode cX2_lowest 34 = .ok (.lload 7, 2) := by decide +kernel
theorem dX2_lowest_36 : decode cX2_lowest 36 = .ok (.lreturn, 1) := by decide +kernel
theorem dX2_commonDivisor_0 : decode cX2_commonDivisor 0 = .ok (.lload_n 0, 1) := by decide +kernel
theorem dX2_commonDivisor_1 : decode cX2_commonDivisor 1 = .ok (.lstore 4, 2) := by decide +kernel
theorem dX2_commonDivisor_3 : decode cX2_commonDivisor 3 = .ok (.lload_n 2, 1) := by decide +kernel
theorem dX2_commonDivisor_4 : decode cX2_commonDivisor 4 = .ok (.lstore 6, 2) := by decide +kernel
theorem dX2_commonDivisor_6 : decode cX2_commonDivisor 6 = .ok (.iconst 0, 1) := by decide +kernel
theorem dX2_commonDivisor_7 : decode cX2_commonDivisor 7 = .ok (.istore 8, 2) := by decide +kernel
theorem dX2_commonDivisor_9 : decode cX2_commonDivisor 9 = .ok (.iload 8, 2) := by decide +kernel
theorem dX2_commonDivisor_11 : decode cX2_commonDivisor 11 = .ok (.bipush 100, 2) := by decide +kernel
theorem dX2_commonDivisor_13 : decode cX2_commonDivisor 13 = .ok (.if_icmp .ge 31, 3) := by decide +kernel
theorem dX2_commonDivisor_16 : decode cX2_commonDivisor 16 = .ok (.lload 6, 2) := by decide +kernel
theorem dX2_commonDivisor_18 : decode cX2_commonDivisor 18 = .ok (.lconst 0, 1) := by decide +kernel
theorem dX2_commonDivisor_19 : decode cX2_commonDivisor 19 = .ok (.lcmp, 1) := by decide +kernel
theorem dX2_commonDivisor_20 : decode cX2_commonDivisor 20 = .ok (.ifCond .eq 24, 3) := by decide +kernel
theorem dX2_commonDivisor_23 : decode cX2_commonDivisor 23 = .ok (.lload 4, 2) := by decide +kernel
theorem dX2_commonDivisor_25 : decode cX2_commonDivisor 25 = .ok (.lload 6, 2) := by decide +kernel
theorem dX2_commonDivisor_27 : decode cX2_commonDivisor 27 = .ok (.lrem, 1) := by decide +kernel
theorem dX2_commonDivisor_28 : decode cX2_commonDivisor 28 = .ok (.lstore 9, 2) := by decide +kernel
theorem dX2_commonDivisor_30 : decode cX2_commonDivisor 30 = .ok (.lload 6, 2) := by decide +kernel
theorem dX2_commonDivisor_32 : decode cX2_commonDivisor 32 = .ok (.lstore 4, 2) := by decide +kernel
theorem dX2_commonDivisor_34 : decode cX2_commonDivisor 34 = .ok (.lload 9, 2) := by decide +kernel
theorem dX2_commonDivisor_36 : decode cX2_commonDivisor 36 = .ok (.lstore 6, 2) := by decide +kernel
theorem dX2_commonDivisor_38 : decode cX2_commonDivisor 38 = .ok (.iinc 8 1, 3) := by decide +kernel
theorem dX2_commonDivisor_41 : decode cX2_commonDivisor 41 = .ok (.goto (-32), 3) := by decide +kernel
theorem dX2_commonDivisor_44 : decode cX2_commonDivisor 44 = .ok (.lload 4, 2) := by decide +kernel
theorem dX2_commonDivisor_46 : decode cX2_commonDivisor 46 = .ok (.lreturn, 1) := by decide +kernel
theorem dX3_init_0 : decode cX3_init 0 = .ok (.aload_n 0, 1) := by decide +kernel
theorem dX3_init_1 : decode cX3_init 1 = .ok (.invokespecial 3, 3) := by decide +kernel
theorem dX3_init_4 : decode cX3_init 4 = .ok (.aload_n 0, 1) := by decide +kernel
theorem dX3_init_5 : decode cX3_init 5 = .ok (.bipush 72, 2) := by decide +kernel
theorem dX3_init_7 : decode cX3_init 7 = .ok (.newarray .long, 2) := by decide +kernel
theorem dX3_init_9 : decode cX3_init 9 = .ok (.putfield 9, 3) := by decide +kernel
theorem dX3_init_12 : decode cX3_init 12 = .ok (.aload_n 0, 1) := by decide +kernel
theorem dX3_init_13 : decode cX3_init 13 = .ok (.bipush 72, 2) := by decide +kernel
theorem dX3_init_15 : decode cX3_init 15 = .ok (.newarray .long, 2) := by decide +kernel
theorem dX3_init_17 : decode cX3_init 17 = .ok (.putfield 15, 3) := by decide +kernel
theorem dX3_init_20 : decode cX3_init 20 = .ok (.return_, 1) := by decide +kernel
theorem dX3_fill_0 : decode cX3_fill 0 = .ok (.iload_n 2, 1) := by decide +kernel
theorem dX3_fill_1 : decode cX3_fill 1 = .ok (.invokestatic 18, 3) := by decide +kernel
theorem dX3_fill_4 : decode cX3_fill 4 = .ok (.ifCond .ne 4, 3) := by decide +kernel
theorem dX3_fill_7 : decode cX3_fill 7 = .ok (.return_, 1) := by decide +kernel
theorem dX3_fill_8 : decode cX3_fill 8 = .ok (.aload_n 0, 1) := by decide +kernel
theorem dX3_fill_9 : decode cX3_fill 9 = .ok (.getfield 9, 3) := by decide +kernel
theorem dX3_fill_12 : decode cX3_fill 12 = .ok (.iload_n 2, 1) := by decide +kernel
theorem dX3_fill_13 : decode cX3_fill 13 = .ok (.lconst 0, 1) := by decide +kernel
theorem dX3_fill_14 : decode cX3_fill 14 = .ok (.lastore, 1) := by decide +kernel
theorem dX3_fill_15 : decode cX3_fill 15 = .ok (.aload_n 0, 1) := by decide +kernel
theorem dX3_fill_16 : decode cX3_fill 16 = .ok (.getfield 15, 3) := by decide +kernel
theorem dX3_fill_19 : decode cX3_fill 19 = .ok (.iload_n 2, 1) := by decide +kernel
theorem dX3_fill_20 : decode cX3_fill 20 = .ok (.lconst 0, 1) := by decide +kernel
theorem dX3_fill_21 : decode cX3_fill 21 = .ok (.lastore, 1) := by decide +kernel
theorem dX3_fill_22 : decode cX3_fill 22 = .ok (.bipush (-4), 2) := by decide +kernel
theorem dX3_fill_24 : decode cX3_fill 24 = .ok (.istore 5, 2) := by decide +kernel
theorem dX3_fill_26 : decode cX3_fill 26 = .ok (.iconst 0, 1) := by decide +kernel
theorem dX3_fill_27 : decode cX3_fill 27 = .ok (.istore 6, 2) := by decide +kernel
theorem dX3_fill_29 : decode cX3_fill 29 = .ok (.iload 6, 2) := by decide +kernel
theorem dX3_fill_31 : decode cX3_fill 31 = .ok (.iload_n 3, 1) := by decide +kernel
theorem dX3_fill_32 : decode cX3_fill 32 = .ok (.if_icmp .gt 38, 3) := by decide +kernel
theorem dX3_fill_35 : decode cX3_fill 35 = .ok (.aload_n 1, 1) := by decide +kernel
theorem dX3_fill_36 : decode cX3_fill 36 = .ok (.iload_n 2, 1) := by decide +kernel
theorem dX3_fill_37 : decode cX3_fill 37 = .ok (.iload 6, 2) := by decide +kernel
theorem dX3_fill_39 : decode cX3_fill 39 = .ok (.invokevirtual 22, 3) := by decide +kernel
theorem dX3_fill_42 : decode cX3_fill 42 = .ok (.istore 7, 2) := by decide +kernel
theorem dX3_fill_44 : decode cX3_fill 44 = .ok (.iload 7, 2) := by decide +kernel
theorem dX3_fill_46 : decode cX3_fill 46 = .ok (.iload 5, 2) := by decide +kernel
theorem dX3_fill_48 : decode cX3_fill 48 = .ok (.if_icmp .eq 16, 3) := by decide +kernel
theorem dX3_fill_51 : decode cX3_fill 51 = .ok (.aload_n 0, 1) := by decide +kernel
theorem dX3_fill_52 : decode cX3_fill 52 = .ok (.iload_n 2, 1) := by decide +kernel
theorem dX3_fill_53 : decode cX3_fill 53 = .ok (.iload 7, 2) := by decide +kernel
theorem dX3_fill_55 : decode cX3_fill 55 = .ok (.iload 4, 2) := by decide +kernel
theorem dX3_fill_57 : decode cX3_fill 57 = .ok (.invokevirtual 28, 3) := by decide +kernel
theorem dX3_fill_60 : decode cX3_fill 60 = .ok (.iload 7, 2) := by decide +kernel
theorem dX3_fill_62 : decode cX3_fill 62 = .ok (.istore 5, 2) := by decide +kernel
theorem dX3_fill_64 : decode cX3_fill 64 = .ok (.iinc 6 1, 3) := by decide +kernel
theorem dX3_fill_67 : decode cX3_fill 67 = .ok (.goto (-38), 3) := by decide +kernel
theorem dX3_fill_70 : decode cX3_fill 70 = .ok (.return_, 1) := by decide +kernel
theorem dX3_markBitten_0 : decode cX3_markBitten 0 = .ok (.iload_n 2, 1) := by decide +kernel
theorem dX3_markBitten_1 : decode cX3_markBitten 1 = .ok (.istore 4, 2) := by decide +kernel
theorem dX3_markBitten_3 : decode cX3_markBitten 3 = .ok (.aload_n 0, 1) := by decide +kernel
theorem dX3_markBitten_4 : decode cX3_markBitten 4 = .ok (.iload_n 1, 1) := by decide +kernel
theorem dX3_markBitten_5 : decode cX3_markBitten 5 = .ok (.iload 4, 2) := by decide +kernel
theorem dX3_markBitten_7 : decode cX3_markBitten 7 = .ok (.invokevirtual 32, 3) := by decide +kernel
theorem dX3_markBitten_10 : decode cX3_markBitten 10 = .ok (.iconst 0, 1) := by decide +kernel
theorem dX3_markBitten_11 : decode cX3_markBitten 11 = .ok (.istore 5, 2) := by decide +kernel
theorem dX3_markBitten_13 : decode cX3_markBitten 13 = .ok (.iload 5, 2) := by decide +kernel
theorem dX3_markBitten_15 : decode cX3_markBitten 15 = .ok (.iload_n 3, 1) := by decide +kernel
theorem dX3_markBitten_16 : decode cX3_markBitten 16 = .ok (.if_icmp .ge 23, 3) := by decide +kernel
theorem dX3_markBitten_19 : decode cX3_markBitten 19 = .ok (.iload 4, 2) := by decide +kernel
theorem dX3_markBitten_21 : decode cX3_markBitten 21 = .ok (.invokestatic 36, 3) := by decide +kernel
theorem dX3_markBitten_24 : decode cX3_markBitten 24 = .ok (.istore 4, 2) := by decide +kernel
theorem dX3_markBitten_26 : decode cX3_markBitten 26 = .ok (.aload_n 0, 1) := by decide +kernel
theorem dX3_markBitten_27 : decode cX3_markBitten 27 = .ok (.iload_n 1, 1) := by decide +kernel
theorem dX3_markBitten_28 : decode cX3_markBitten 28 = .ok (.iload 4, 2) := by decide +kernel
theorem dX3_markBitten_30 : decode cX3_markBitten 30 = .ok (.invokevirtual 32, 3) := by decide +kernel
theorem dX3_markBitten_33 : decode cX3_markBitten 33 = .ok (.iinc 5 1, 3) := by decide +kernel
theorem dX3_markBitten_36 : decode cX3_markBitten 36 = .ok (.goto (-23), 3) := by decide +kernel
theorem dX3_markBitten_39 : decode cX3_markBitten 39 = .ok (.return_, 1) := by decide +kernel
theorem dX3_sizeOf_0 : decode cX3_sizeOf 0 = .ok (.iload_n 1, 1) := by decide +kernel
theorem dX3_sizeOf_1 : decode cX3_sizeOf 1 = .ok (.invokestatic 18, 3) := by decide +kernel
theorem dX3_sizeOf_4 : decode cX3_sizeOf 4 = .ok (.ifCond .eq 25, 3) := by decide +kernel
theorem dX3_sizeOf_7 : decode cX3_sizeOf 7 = .ok (.aload_n 0, 1) := by decide +kernel
theorem dX3_sizeOf_8 : decode cX3_sizeOf 8 = .ok (.getfield 9, 3) := by decide +kernel
theorem dX3_sizeOf_11 : decode cX3_sizeOf 11 = .ok (.iload_n 1, 1) := by decide +kernel
theorem dX3_sizeOf_12 : decode cX3_sizeOf 12 = .ok (.laload, 1) := by decide +kernel
theorem dX3_sizeOf_13 : decode cX3_sizeOf 13 = .ok (.invokestatic 42, 3) := by decide +kernel
theorem dX3_sizeOf_16 : decode cX3_sizeOf 16 = .ok (.aload_n 0, 1) := by decide +kernel
theorem dX3_sizeOf_17 : decode cX3_sizeOf 17 = .ok (.getfield 15, 3) := by decide +kernel
theorem dX3_sizeOf_20 : decode cX3_sizeOf 20 = .ok (.iload_n 1, 1) := by decide +kernel
theorem dX3_sizeOf_21 : decode cX3_sizeOf 21 = .ok (.laload, 1) := by decide +kernel
theorem dX3_sizeOf_22 : decode cX3_sizeOf 22 = .ok (.invokestatic 42, 3) := by decide +kernel
theorem dX3_sizeOf_25 : decode cX3_sizeOf 25 = .ok (.iadd, 1) := by decide +kernel
theorem dX3_sizeOf_26 : decode cX3_sizeOf 26 = .ok (.goto 4, 3) := by decide +kernel
theorem dX3_sizeOf_29 : decode cX3_sizeOf 29 = .ok (.iconst 0, 1) := by decide +kernel
theorem dX3_sizeOf_30 : decode cX3_sizeOf 30 = .ok (.ireturn, 1) := by decide +kernel
theorem dX3_holds_0 : decode cX3_holds 0 = .ok (.iload_n 1, 1) := by decide +kernel
theorem dX3_holds_1 : decode cX3_holds 1 = .ok (.invokestatic 18, 3) := by decide +kernel
theorem dX3_holds_4 : decode cX3_holds 4 = .ok (.ifCond .eq 10, 3) := by decide +kernel
theorem dX3_holds_7 : decode cX3_holds 7 = .ok (.iload_n 2, 1) := by decide +kernel
theorem dX3_holds_8 : decode cX3_holds 8 = .ok (.invokestatic 18, 3) := by decide +kernel
theorem dX3_holds_11 : decode cX3_holds 11 = .ok (.ifCond .ne 5, 3) := by decide +kernel
theorem dX3_holds_14 : decode cX3_holds 14 = .ok (.iconst 0, 1) := by decide +kernel
theorem dX3_holds_15 : decode cX3_holds 15 = .ok (.ireturn, 1) := by decide +kernel
theorem dX3_holds_16 : decode cX3_holds 16 = .ok (.iload_n 2, 1) := by decide +kernel
theorem dX3_holds_17 : decode cX3_holds 17 = .ok (.bipush 64, 2) := by decide +kernel
theorem dX3_holds_19 : decode cX3_holds 19 = .ok (.if_icmp .ge 12, 3) := by decide +kernel
theorem dX3_holds_22 : decode cX3_holds 22 = .ok (.aload_n 0, 1) := by decide +kernel
theorem dX3_holds_23 : decode cX3_holds 23 = .ok (.getfield 9, 3) := by decide +kernel
theorem dX3_holds_26 : decode cX3_holds 26 = .ok (.iload_n 1, 1) := by decide +kernel
theorem dX3_holds_27 : decode cX3_holds 27 = .ok (.laload, 1) := by decide +kernel
theorem dX3_holds_28 : decode cX3_holds 28 = .ok (.goto 9, 3) := by decide +kernel
theorem dX3_holds_31 : decode cX3_holds 31 = .ok (.aload_n 0, 1) := by decide +kernel
theorem dX3_holds_32 : decode cX3_holds 32 = .ok (.getfield 15, 3) := by decide +kernel
theorem dX3_holds_35 : decode cX3_holds 35 = .ok (.iload_n 1, 1) := by decide +kernel
theorem dX3_holds_36 : decode cX3_holds 36 = .ok (.laload, 1) := by decide +kernel
theorem dX3_holds_37 : decode cX3_holds 37 = .ok (.lstore_n 3, 1) := by decide +kernel
theorem dX3_holds_38 : decode cX3_holds 38 = .ok (.lload_n 3, 1) := by decide +kernel
theorem dX3_holds_39 : decode cX3_holds 39 = .ok (.iload_n 2, 1) := by decide +kernel
theorem dX3_holds_40 : decode cX3_holds 40 = .ok (.bipush 63, 2) := by decide +kernel
theorem dX3_holds_42 : decode cX3_holds 42 = .ok (.iand, 1) := by decide +kernel
theorem dX3_holds_43 : decode cX3_holds 43 = .ok (.lushr, 1) := by decide +kernel
theorem dX3_holds_44 : decode cX3_holds 44 = .ok (.lconst 1, 1) := by decide +kernel
theorem dX3_holds_45 : decode cX3_holds 45 = .ok (.land, 1) := by decide +kernel
theorem dX3_holds_46 : decode cX3_holds 46 = .ok (.lconst 1, 1) := by decide +kernel
theorem dX3_holds_47 : decode cX3_holds 47 = .ok (.lcmp, 1) := by decide +kernel
theorem dX3_holds_48 : decode cX3_holds 48 = .ok (.ifCond .ne 7, 3) := by decide +kernel
theorem dX3_holds_51 : decode cX3_holds 51 = .ok (.iconst 1, 1) := by decide +kernel
theorem dX3_holds_52 : decode cX3_holds 52 = .ok (.goto 4, 3) := by decide +kernel
theorem dX3_holds_55 : decode cX3_holds 55 = .ok (.iconst 0, 1) := by decide +kernel
theorem dX3_holds_56 : decode cX3_holds 56 = .ok (.ireturn, 1) := by decide +kernel
theorem dX3_meet_0 : decode cX3_meet 0 = .ok (.iload_n 1, 1) := by decide +kernel
theorem dX3_meet_1 : decode cX3_meet 1 = .ok (.invokestatic 18, 3) := by decide +kernel
theorem dX3_meet_4 : decode cX3_meet 4 = .ok (.ifCond .eq 50, 3) := by decide +kernel
theorem dX3_meet_7 : decode cX3_meet 7 = .ok (.iload_n 2, 1) := by decide +kernel
theorem dX3_meet_8 : decode cX3_meet 8 = .ok (.invokestatic 18, 3) := by decide +kernel
theorem dX3_meet_11 : decode cX3_meet 11 = .ok (.ifCond .eq 43, 3) := by decide +kernel
theorem dX3_meet_14 : decode cX3_meet 14 = .ok (.aload_n 0, 1) := by decide +kernel
theorem dX3_meet_15 : decode cX3_meet 15 = .ok (.getfield 9, 3) := by decide +kernel
theorem dX3_meet_18 : decode cX3_meet 18 = .ok (.iload_n 1, 1) := by decide +kernel
theorem dX3_meet_19 : decode cX3_meet 19 = .ok (.laload, 1) := by decide +kernel
theorem dX3_meet_20 : decode cX3_meet 20 = .ok (.aload_n 0, 1) := by decide +kernel
theorem dX3_meet_21 : decode cX3_meet 21 = .ok (.getfield 9, 3) := by decide +kernel
theorem dX3_meet_24 : decode cX3_meet 24 = .ok (.iload_n 2, 1) := by decide +kernel
theorem dX3_meet_25 : decode cX3_meet 25 = .ok (.laload, 1) := by decide +kernel
theorem dX3_meet_26 : decode cX3_meet 26 = .ok (.land, 1) := by decide +kernel
theorem dX3_meet_27 : decode cX3_meet 27 = .ok (.lconst 0, 1) := by decide +kernel
theorem dX3_meet_28 : decode cX3_meet 28 = .ok (.lcmp, 1) := by decide +kernel
theorem dX3_meet_29 : decode cX3_meet 29 = .ok (.ifCond .ne 21, 3) := by decide +kernel
theorem dX3_meet_32 : decode cX3_meet 32 = .ok (.aload_n 0, 1) := by decide +kernel
theorem dX3_meet_33 : decode cX3_meet 33 = .ok (.getfield 15, 3) := by decide +kernel
theorem dX3_meet_36 : decode cX3_meet 36 = .ok (.iload_n 1, 1) := by decide +kernel
theorem dX3_meet_37 : decode cX3_meet 37 = .ok (.laload, 1) := by decide +kernel
theorem dX3_meet_38 : decode cX3_meet 38 = .ok (.aload_n 0, 1) := by decide +kernel
theorem dX3_meet_39 : decode cX3_meet 39 = .ok (.getfield 15, 3) := by decide +kernel
theorem dX3_meet_42 : decode cX3_meet 42 = .ok (.iload_n 2, 1) := by decide +kernel
theorem dX3_meet_43 : decode cX3_meet 43 = .ok (.laload, 1) := by decide +kernel
theorem dX3_meet_44 : decode cX3_meet 44 = .ok (.land, 1) := by decide +kernel
theorem dX3_meet_45 : decode cX3_meet 45 = .ok (.lconst 0, 1) := by decide +kernel
theorem dX3_meet_46 : decode cX3_meet 46 = .ok (.lcmp, 1) := by decide +kernel
theorem dX3_meet_47 : decode cX3_meet 47 = .ok (.ifCond .eq 7, 3) := by decide +kernel
theorem dX3_meet_50 : decode cX3_meet 50 = .ok (.iconst 1, 1) := by decide +kernel
theorem dX3_meet_51 : decode cX3_meet 51 = .ok (.goto 4, 3) := by decide +kernel
theorem dX3_meet_54 : decode cX3_meet 54 = .ok (.iconst 0, 1) := by decide +kernel
theorem dX3_meet_55 : decode cX3_meet 55 = .ok (.ireturn, 1) := by decide +kernel
theorem dX3_mark_0 : decode cX3_mark 0 = .ok (.iload_n 1, 1) := by decide +kernel
theorem dX3_mark_1 : decode cX3_mark 1 = .ok (.invokestatic 18, 3) := by decide +kernel
theorem dX3_mark_4 : decode cX3_mark 4 = .ok (.ifCond .ne 4, 3) := by decide +kernel
theorem dX3_mark_7 : decode cX3_mark 7 = .ok (.return_, 1) := by decide +kernel
theorem dX3_mark_8 : decode cX3_mark 8 = .ok (.iload_n 2, 1) := by decide +kernel
theorem dX3_mark_9 : decode cX3_mark 9 = .ok (.bipush 64, 2) := by decide +kernel
theorem dX3_mark_11 : decode cX3_mark 11 = .ok (.if_icmp .ge 18, 3) := by decide +kernel
theorem dX3_mark_14 : decode cX3_mark 14 = .ok (.aload_n 0, 1) := by decide +kernel
theorem dX3_mark_15 : decode cX3_mark 15 = .ok (.getfield 9, 3) := by decide +kernel
theorem dX3_mark_18 : decode cX3_mark 18 = .ok (.iload_n 1, 1) := by decide +kernel
theorem dX3_mark_19 : decode cX3_mark 19 = .ok (.dup2, 1) := by decide +kernel
theorem dX3_mark_20 : decode cX3_mark 20 = .ok (.laload, 1) := by decide +kernel
theorem dX3_mark_21 : decode cX3_mark 21 = .ok (.lconst 1, 1) := by decide +kernel
theorem dX3_mark_22 : decode cX3_mark 22 = .ok (.iload_n 2, 1) := by decide +kernel
theorem dX3_mark_23 : decode cX3_mark 23 = .ok (.lshl, 1) := by decide +kernel
theorem dX3_mark_24 : decode cX3_mark 24 = .ok (.lor, 1) := by decide +kernel
theorem dX3_mark_25 : decode cX3_mark 25 = .ok (.lastore, 1) := by decide +kernel
theorem dX3_mark_26 : decode cX3_mark 26 = .ok (.goto 18, 3) := by decide +kernel
theorem dX3_mark_29 : decode cX3_mark 29 = .ok (.aload_n 0, 1) := by decide +kernel
theorem dX3_mark_30 : decode cX3_mark 30 = .ok (.getfield 15, 3) := by decide +kernel
theorem dX3_mark_33 : decode cX3_mark 33 = .ok (.iload_n 1, 1) := by decide +kernel
theorem dX3_mark_34 : decode cX3_mark 34 = .ok (.dup2, 1) := by decide +kernel
theorem dX3_mark_35 : decode cX3_mark 35 = .ok (.laload, 1) := by decide +kernel
theorem dX3_mark_36 : decode cX3_mark 36 = .ok (.lconst 1, 1) := by decide +kernel
theorem dX3_mark_37 : decode cX3_mark 37 = .ok (.iload_n 2, 1) := by decide +kernel
theorem dX3_mark_38 : decode cX3_mark 38 = .ok (.bipush 64, 2) := by decide +kernel
theorem dX3_mark_40 : decode cX3_mark 40 = .ok (.isub, 1) := by decide +kernel
theorem dX3_mark_41 : decode cX3_mark 41 = .ok (.lshl, 1) := by decide +kernel
theorem dX3_mark_42 : decode cX3_mark 42 = .ok (.lor, 1) := by decide +kernel
theorem dX3_mark_43 : decode cX3_mark 43 = .ok (.lastore, 1) := by decide +kernel
theorem dX3_mark_44 : decode cX3_mark 44 = .ok (.return_, 1) := by decide +kernel
theorem dX4_init_0 : decode cX4_init 0 = .ok (.aload_n 0, 1) := by decide +kernel
theorem dX4_init_1 : decode cX4_init 1 = .ok (.invokespecial 3, 3) := by decide +kernel
theorem dX4_init_4 : decode cX4_init 4 = .ok (.aload_n 0, 1) := by decide +kernel
theorem dX4_init_5 : decode cX4_init 5 = .ok (.iconst 4, 1) := by decide +kernel
theorem dX4_init_6 : decode cX4_init 6 = .ok (.newarray .int, 2) := by decide +kernel
theorem dX4_init_8 : decode cX4_init 8 = .ok (.putfield 9, 3) := by decide +kernel
theorem dX4_init_11 : decode cX4_init 11 = .ok (.return_, 1) := by decide +kernel
theorem dX4_firstFault_0 : decode cX4_firstFault 0 = .ok (.aload_n 2, 1) := by decide +kernel
theorem dX4_firstFault_1 : decode cX4_firstFault 1 = .ok (.invokevirtual 15, 3) := by decide +kernel
theorem dX4_firstFault_4 : decode cX4_firstFault 4 = .ok (.aload_n 0, 1) := by decide +kernel
theorem dX4_firstFault_5 : decode cX4_firstFault 5 = .ok (.iconst 0, 1) := by decide +kernel
theorem dX4_firstFault_6 : decode cX4_firstFault 6 = .ok (.putfield 20, 3) := by decide +kernel
theorem dX4_firstFault_9 : decode cX4_firstFault 9 = .ok (.iconst 0, 1) := by decide +kernel
theorem dX4_firstFault_10 : decode cX4_firstFault 10 = .ok (.istore_n 3, 1) := by decide +kernel
theorem dX4_firstFault_11 : decode cX4_firstFault 11 = .ok (.iload_n 3, 1) := by decide +kernel
theorem dX4_firstFault_12 : decode cX4_firstFault 12 = .ok (.sipush 300, 3) := by decide +kernel
theorem dX4_firstFault_15 : decode cX4_firstFault 15 = .ok (.if_icmp .ge 38, 3) := by decide +kernel
theorem dX4_firstFault_18 : decode cX4_firstFault 18 = .ok (.aload_n 0, 1) := by decide +kernel
theorem dX4_firstFault_19 : decode cX4_firstFault 19 = .ok (.getfield 20, 3) := by decide +kernel
theorem dX4_firstFault_22 : decode cX4_firstFault 22 = .ok (.aload_n 1, 1) := by decide +kernel
theorem dX4_firstFault_23 : decode cX4_firstFault 23 = .ok (.invokevirtual 26, 3) := by decide +kernel
theorem dX4_firstFault_26 : decode cX4_firstFault 26 = .ok (.if_icmp .ge 27, 3) := by decide +kernel
theorem dX4_firstFault_29 : decode cX4_firstFault 29 = .ok (.aload_n 0, 1) := by decide +kernel
theorem dX4_firstFault_30 : decode cX4_firstFault 30 = .ok (.getfield 20, 3) := by decide +kernel
theorem dX4_firstFault_33 : decode cX4_firstFault 33 = .ok (.istore 4, 2) := by decide +kernel
theorem dX4_firstFault_35 : decode cX4_firstFault 35 = .ok (.aload_n 0, 1) := by decide +kernel
theorem dX4_firstFault_36 : decode cX4_firstFault 36 = .ok (.aload_n 1, 1) := by decide +kernel
theorem dX4_firstFault_37 : decode cX4_firstFault 37 = .ok (.aload_n 2, 1) := by decide +kernel
theorem dX4_firstFault_38 : decode cX4_firstFault 38 = .ok (.invokevirtual 30, 3) := by decide +kernel
theorem dX4_firstFault_41 : decode cX4_firstFault 41 = .ok (.ifCond .ne 6, 3) := by decide +kernel
theorem dX4_firstFault_44 : decode cX4_firstFault 44 = .ok (.iload 4, 2) := by decide +kernel
theorem dX4_firstFault_46 : decode cX4_firstFault 46 = .ok (.ireturn, 1) := by decide +kernel
theorem dX4_firstFault_47 : decode cX4_firstFault 47 = .ok (.iinc 3 1, 3) := by decide +kernel
theorem dX4_firstFault_50 : decode cX4_firstFault 50 = .ok (.goto (-39), 3) := by decide +kernel
theorem dX4_firstFault_53 : decode cX4_firstFault 53 = .ok (.bipush (-4), 2) := by decide +kernel
theorem dX4_firstFault_55 : decode cX4_firstFault 55 = .ok (.ireturn, 1) := by decide +kernel
theorem dX4_readItem_0 : decode cX4_readItem 0 = .ok (.aload_n 1, 1) := by decide +kernel
theorem dX4_readItem_1 : decode cX4_readItem 1 = .ok (.aload_n 0, 1) := by decide +kernel
theorem dX4_readItem_2 : decode cX4_readItem 2 = .ok (.getfield 20, 3) := by decide +kernel
theorem dX4_readItem_5 : decode cX4_readItem 5 = .ok (.invokevirtual 34, 3) := by decide +kernel
theorem dX4_readItem_8 : decode cX4_readItem 8 = .ok (.istore_n 3, 1) := by decide +kernel
theorem dX4_readItem_9 : decode cX4_readItem 9 = .ok (.aload_n 0, 1) := by decide +kernel
theorem dX4_readItem_10 : decode cX4_readItem 10 = .ok (.dup, 1) := by decide +kernel
theorem dX4_readItem_11 : decode cX4_readItem 11 = .ok (.getfield 20, 3) := by decide +kernel
theorem dX4_readItem_14 : decode cX4_readItem 14 = .ok (.iconst 1, 1) := by decide +kernel
theorem dX4_readItem_15 : decode cX4_readItem 15 = .ok (.iadd, 1) := by decide +kernel
theorem dX4_readItem_16 : decode cX4_readItem 16 = .ok (.putfield 20, 3) := by decide +kernel
theorem dX4_readItem_19 : decode cX4_readItem 19 = .ok (.iload_n 3, 1) := by decide +kernel
theorem dX4_readItem_20 : decode cX4_readItem 20 = .ok (.lookupswitch 186 #[(98, 90), (99, 124), (107, 158), (119, 44)], 44) := by decide +kernel
theorem dX4_readItem_64 : decode cX4_readItem 64 = .ok (.aload_n 0, 1) := by decide +kernel
theorem dX4_readItem_65 : decode cX4_readItem 65 = .ok (.aload_n 1, 1) := by decide +kernel
theorem dX4_readItem_66 : decode cX4_readItem 66 = .ok (.iconst 4, 1) := by decide +kernel
theorem dX4_readItem_67 : decode cX4_readItem 67 = .ok (.invokevirtual 38, 3) := by decide +kernel
theorem dX4_readItem_70 : decode cX4_readItem 70 = .ok (.ifCond .eq 38, 3) := by decide +kernel
theorem dX4_readItem_73 : decode cX4_readItem 73 = .ok (.aload_n 2, 1) := by decide +kernel
theorem dX4_readItem_74 : decode cX4_readItem 74 = .ok (.aload_n 0, 1) := by decide +kernel
theorem dX4_readItem_75 : decode cX4_readItem 75 = .ok (.getfield 9, 3) := by decide +kernel
theorem dX4_readItem_78 : decode cX4_readItem 78 = .ok (.iconst 0, 1) := by decide +kernel
theorem dX4_readItem_79 : decode cX4_readItem 79 = .ok (.iaload, 1) := by decide +kernel
theorem dX4_readItem_80 : decode cX4_readItem 80 = .ok (.aload_n 0, 1) := by decide +kernel
theorem dX4_readItem_81 : decode cX4_readItem 81 = .ok (.getfield 9, 3) := by decide +kernel
theorem dX4_readItem_84 : decode cX4_readItem 84 = .ok (.iconst 1, 1) := by decide +kernel
theorem dX4_readItem_85 : decode cX4_readItem 85 = .ok (.iaload, 1) := by decide +kernel
theorem dX4_readItem_86 : decode cX4_readItem 86 = .ok (.aload_n 0, 1) := by decide +kernel
theorem dX4_readItem_87 : decode cX4_readItem 87 = .ok (.getfield 9, 3) := by decide +kernel
theorem dX4_readItem_90 : decode cX4_readItem 90 = .ok (.iconst 2, 1) := by decide +kernel
theorem dX4_readItem_91 : decode cX4_readItem 91 = .ok (.iaload, 1) := by decide +kernel
theorem dX4_readItem_92 : decode cX4_readItem 92 = .ok (.aload_n 0, 1) := by decide +kernel
theorem dX4_readItem_93 : decode cX4_readItem 93 = .ok (.getfield 9, 3) := by decide +kernel
theorem dX4_readItem_96 : decode cX4_readItem 96 = .ok (.iconst 3, 1) := by decide +kernel
theorem dX4_readItem_97 : decode cX4_readItem 97 = .ok (.iaload, 1) := by decide +kernel
theorem dX4_readItem_98 : decode cX4_readItem 98 = .ok (.invokevirtual 42, 3) := by decide +kernel
theorem dX4_readItem_101 : decode cX4_readItem 101 = .ok (.ifCond .eq 7, 3) := by decide +kernel
theorem dX4_readItem_104 : decode cX4_readItem 104 = .ok (.iconst 1, 1) := by decide +kernel
theorem dX4_readItem_105 : decode cX4_readItem 105 = .ok (.goto 4, 3) := by decide +kernel
theorem dX4_readItem_108 : decode cX4_readItem 108 = .ok (.iconst 0, 1) := by decide +kernel
theorem dX4_readItem_109 : decode cX4_readItem 109 = .ok (.ireturn, 1) := by decide +kernel
theorem dX4_readItem_110 : decode cX4_readItem 110 = .ok (.aload_n 0, 1) := by decide +kernel
theorem dX4_readItem_111 : decode cX4_readItem 111 = .ok (.aload_n 1, 1) := by decide +kernel
theorem dX4_readItem_112 : decode cX4_readItem 112 = .ok (.iconst 2, 1) := by decide +kernel
theorem dX4_readItem_113 : decode cX4_readItem 113 = .ok (.invokevirtual 38, 3) := by decide +kernel
theorem dX4_readItem_116 : decode cX4_readItem 116 = .ok (.ifCond .eq 26, 3) := by decide +kernel
theorem dX4_readItem_119 : decode cX4_readItem 119 = .ok (.aload_n 2, 1) := by decide +kernel
theorem dX4_readItem_120 : decode cX4_readItem 120 = .ok (.aload_n 0, 1) := by decide +kernel
theorem dX4_readItem_121 : decode cX4_readItem 121 = .ok (.getfield 9, 3) := by decide +kernel
theorem dX4_readItem_124 : decode cX4_readItem 124 = .ok (.iconst 0, 1) := by decide +kernel
theorem dX4_readItem_125 : decode cX4_readItem 125 = .ok (.iaload, 1) := by decide +kernel
theorem dX4_readItem_126 : decode cX4_readItem 126 = .ok (.aload_n 0, 1) := by decide +kernel
theorem dX4_readItem_127 : decode cX4_readItem 127 = .ok (.getfield 9, 3) := by decide +kernel
theorem dX4_readItem_130 : decode cX4_readItem 130 = .ok (.iconst 1, 1) := by decide +kernel
theorem dX4_readItem_131 : decode cX4_readItem 131 = .ok (.iaload, 1) := by decide +kernel
theorem dX4_readItem_132 : decode cX4_readItem 132 = .ok (.invokevirtual 46, 3) := by decide +kernel
theorem dX4_readItem_135 : decode cX4_readItem 135 = .ok (.ifCond .eq 7, 3) := by decide +kernel
theorem dX4_readItem_138 : decode cX4_readItem 138 = .ok (.iconst 1, 1) := by decide +kernel
theorem dX4_readItem_139 : decode cX4_readItem 139 = .ok (.goto 4, 3) := by decide +kernel
theorem dX4_readItem_142 : decode cX4_readItem 142 = .ok (.iconst 0, 1) := by decide +kernel
theorem dX4_readItem_143 : decode cX4_readItem 143 = .ok (.ireturn, 1) := by decide +kernel
theorem dX4_readItem_144 : decode cX4_readItem 144 = .ok (.aload_n 0, 1) := by decide +kernel
theorem dX4_readItem_145 : decode cX4_readItem 145 = .ok (.aload_n 1, 1) := by decide +kernel
theorem dX4_readItem_146 : decode cX4_readItem 146 = .ok (.iconst 2, 1) := by decide +kernel
theorem dX4_readItem_147 : decode cX4_readItem 147 = .ok (.invokevirtual 38, 3) := by decide +kernel
theorem dX4_readItem_150 : decode cX4_readItem 150 = .ok (.ifCond .eq 26, 3) := by decide +kernel
theorem dX4_readItem_153 : decode cX4_readItem 153 = .ok (.aload_n 2, 1) := by decide +kernel
theorem dX4_readItem_154 : decode cX4_readItem 154 = .ok (.aload_n 0, 1) := by decide +kernel
theorem dX4_readItem_155 : decode cX4_readItem 155 = .ok (.getfield 9, 3) := by decide +kernel
theorem dX4_readItem_158 : decode cX4_readItem 158 = .ok (.iconst 0, 1) := by decide +kernel
theorem dX4_readItem_159 : decode cX4_readItem 159 = .ok (.iaload, 1) := by decide +kernel
theorem dX4_readItem_160 : decode cX4_readItem 160 = .ok (.aload_n 0, 1) := by decide +kernel
theorem dX4_readItem_161 : decode cX4_readItem 161 = .ok (.getfield 9, 3) := by decide +kernel
theorem dX4_readItem_164 : decode cX4_readItem 164 = .ok (.iconst 1, 1) := by decide +kernel
theorem dX4_readItem_165 : decode cX4_readItem 165 = .ok (.iaload, 1) := by decide +kernel
theorem dX4_readItem_166 : decode cX4_readItem 166 = .ok (.invokevirtual 50, 3) := by decide +kernel
theorem dX4_readItem_169 : decode cX4_readItem 169 = .ok (.ifCond .eq 7, 3) := by decide +kernel
theorem dX4_readItem_172 : decode cX4_readItem 172 = .ok (.iconst 1, 1) := by decide +kernel
theorem dX4_readItem_173 : decode cX4_readItem 173 = .ok (.goto 4, 3) := by decide +kernel
theorem dX4_readItem_176 : decode cX4_readItem 176 = .ok (.iconst 0, 1) := by decide +kernel
theorem dX4_readItem_177 : decode cX4_readItem 177 = .ok (.ireturn, 1) := by decide +kernel
theorem dX4_readItem_178 : decode cX4_readItem 178 = .ok (.aload_n 0, 1) := by decide +kernel
theorem dX4_readItem_179 : decode cX4_readItem 179 = .ok (.aload_n 1, 1) := by decide +kernel
theorem dX4_readItem_180 : decode cX4_readItem 180 = .ok (.iconst 1, 1) := by decide +kernel
theorem dX4_readItem_181 : decode cX4_readItem 181 = .ok (.invokevirtual 38, 3) := by decide +kernel
theorem dX4_readItem_184 : decode cX4_readItem 184 = .ok (.ifCond .eq 20, 3) := by decide +kernel
theorem dX4_readItem_187 : decode cX4_readItem 187 = .ok (.aload_n 2, 1) := by decide +kernel
theorem dX4_readItem_188 : decode cX4_readItem 188 = .ok (.aload_n 0, 1) := by decide +kernel
theorem dX4_readItem_189 : decode cX4_readItem 189 = .ok (.getfield 9, 3) := by decide +kernel
theorem dX4_readItem_192 : decode cX4_readItem 192 = .ok (.iconst 0, 1) := by decide +kernel
theorem dX4_readItem_193 : decode cX4_readItem 193 = .ok (.iaload, 1) := by decide +kernel
theorem dX4_readItem_194 : decode cX4_readItem 194 = .ok (.invokevirtual 53, 3) := by decide +kernel
theorem dX4_readItem_197 : decode cX4_readItem 197 = .ok (.ifCond .eq 7, 3) := by decide +kernel
theorem dX4_readItem_200 : decode cX4_readItem 200 = .ok (.iconst 1, 1) := by decide +kernel
theorem dX4_readItem_201 : decode cX4_readItem 201 = .ok (.goto 4, 3) := by decide +kernel
theorem dX4_readItem_204 : decode cX4_readItem 204 = .ok (.iconst 0, 1) := by decide +kernel
theorem dX4_readItem_205 : decode cX4_readItem 205 = .ok (.ireturn, 1) := by decide +kernel
theorem dX4_readItem_206 : decode cX4_readItem 206 = .ok (.iconst 0, 1) := by decide +kernel
theorem dX4_readItem_207 : decode cX4_readItem 207 = .ok (.ireturn, 1) := by decide +kernel
theorem dX4_readNumbers_0 : decode cX4_readNumbers 0 = .ok (.iconst 0, 1) := by decide +kernel
theorem dX4_readNumbers_1 : decode cX4_readNumbers 1 = .ok (.istore_n 3, 1) := by decide +kernel
theorem dX4_readNumbers_2 : decode cX4_readNumbers 2 = .ok (.iload_n 3, 1) := by decide +kernel
theorem dX4_readNumbers_3 : decode cX4_readNumbers 3 = .ok (.iload_n 2, 1) := by decide +kernel
theorem dX4_readNumbers_4 : decode cX4_readNumbers 4 = .ok (.if_icmp .ge 81, 3) := by decide +kernel
theorem dX4_readNumbers_7 : decode cX4_readNumbers 7 = .ok (.iload_n 3, 1) := by decide +kernel
theorem dX4_readNumbers_8 : decode cX4_readNumbers 8 = .ok (.aload_n 0, 1) := by decide +kernel
theorem dX4_readNumbers_9 : decode cX4_readNumbers 9 = .ok (.getfield 9, 3) := by decide +kernel
theorem dX4_readNumbers_12 : decode cX4_readNumbers 12 = .ok (.arraylength, 1) := by decide +kernel
theorem dX4_readNumbers_13 : decode cX4_readNumbers 13 = .ok (.if_icmp .ge 72, 3) := by decide +kernel
theorem dX4_readNumbers_16 : decode cX4_readNumbers 16 = .ok (.aload_n 0, 1) := by decide +kernel
theorem dX4_readNumbers_17 : decode cX4_readNumbers 17 = .ok (.aload_n 1, 1) := by decide +kernel
theorem dX4_readNumbers_18 : decode cX4_readNumbers 18 = .ok (.invokevirtual 57, 3) := by decide +kernel
theorem dX4_readNumbers_21 : decode cX4_readNumbers 21 = .ok (.istore 4, 2) := by decide +kernel
theorem dX4_readNumbers_23 : decode cX4_readNumbers 23 = .ok (.aload_n 1, 1) := by decide +kernel
theorem dX4_readNumbers_24 : decode cX4_readNumbers 24 = .ok (.aload_n 0, 1) := by decide +kernel
theorem dX4_readNumbers_25 : decode cX4_readNumbers 25 = .ok (.getfield 20, 3) := by decide +kernel
theorem dX4_readNumbers_28 : decode cX4_readNumbers 28 = .ok (.invokevirtual 34, 3) := by decide +kernel
theorem dX4_readNumbers_31 : decode cX4_readNumbers 31 = .ok (.istore 5, 2) := by decide +kernel
theorem dX4_readNumbers_33 : decode cX4_readNumbers 33 = .ok (.aload_n 0, 1) := by decide +kernel
theorem dX4_readNumbers_34 : decode cX4_readNumbers 34 = .ok (.dup, 1) := by decide +kernel
theorem dX4_readNumbers_35 : decode cX4_readNumbers 35 = .ok (.getfield 20, 3) := by decide +kernel
theorem dX4_readNumbers_38 : decode cX4_readNumbers 38 = .ok (.iconst 1, 1) := by decide +kernel
theorem dX4_readNumbers_39 : decode cX4_readNumbers 39 = .ok (.iadd, 1) := by decide +kernel
theorem dX4_readNumbers_40 : decode cX4_readNumbers 40 = .ok (.putfield 20, 3) := by decide +kernel
theorem dX4_readNumbers_43 : decode cX4_readNumbers 43 = .ok (.iload 4, 2) := by decide +kernel
theorem dX4_readNumbers_45 : decode cX4_readNumbers 45 = .ok (.bipush (-4), 2) := by decide +kernel
theorem dX4_readNumbers_47 : decode cX4_readNumbers 47 = .ok (.if_icmp .eq 22, 3) := by decide +kernel
theorem dX4_readNumbers_50 : decode cX4_readNumbers 50 = .ok (.iload 5, 2) := by decide +kernel
theorem dX4_readNumbers_52 : decode cX4_readNumbers 52 = .ok (.iload_n 3, 1) := by decide +kernel
theorem dX4_readNumbers_53 : decode cX4_readNumbers 53 = .ok (.iload_n 2, 1) := by decide +kernel
theorem dX4_readNumbers_54 : decode cX4_readNumbers 54 = .ok (.iconst 1, 1) := by decide +kernel
theorem dX4_readNumbers_55 : decode cX4_readNumbers 55 = .ok (.isub, 1) := by decide +kernel
theorem dX4_readNumbers_56 : decode cX4_readNumbers 56 = .ok (.if_icmp .ne 8, 3) := by decide +kernel
theorem dX4_readNumbers_59 : decode cX4_readNumbers 59 = .ok (.bipush 59, 2) := by decide +kernel
theorem dX4_readNumbers_61 : decode cX4_readNumbers 61 = .ok (.goto 5, 3) := by decide +kernel
theorem dX4_readNumbers_64 : decode cX4_readNumbers 64 = .ok (.bipush 44, 2) := by decide +kernel
theorem dX4_readNumbers_66 : decode cX4_readNumbers 66 = .ok (.if_icmp .eq 5, 3) := by decide +kernel
theorem dX4_readNumbers_69 : decode cX4_readNumbers 69 = .ok (.iconst 0, 1) := by decide +kernel
theorem dX4_readNumbers_70 : decode cX4_readNumbers 70 = .ok (.ireturn, 1) := by decide +kernel
theorem dX4_readNumbers_71 : decode cX4_readNumbers 71 = .ok (.aload_n 0, 1) := by decide +kernel
theorem dX4_readNumbers_72 : decode cX4_readNumbers 72 = .ok (.getfield 9, 3) := by decide +kernel
theorem dX4_readNumbers_75 : decode cX4_readNumbers 75 = .ok (.iload_n 3, 1) := by decide +kernel
theorem dX4_readNumbers_76 : decode cX4_readNumbers 76 = .ok (.iload 4, 2) := by decide +kernel
theorem dX4_readNumbers_78 : decode cX4_readNumbers 78 = .ok (.iastore, 1) := by decide +kernel
theorem dX4_readNumbers_79 : decode cX4_readNumbers 79 = .ok (.iinc 3 1, 3) := by decide +kernel
theorem dX4_readNumbers_82 : decode cX4_readNumbers 82 = .ok (.goto (-80), 3) := by decide +kernel
theorem dX4_readNumbers_85 : decode cX4_readNumbers 85 = .ok (.iconst 1, 1) := by decide +kernel
theorem dX4_readNumbers_86 : decode cX4_readNumbers 86 = .ok (.ireturn, 1) := by decide +kernel
theorem dX4_readNumber_0 : decode cX4_readNumber 0 = .ok (.aload_n 1, 1) := by decide +kernel
theorem dX4_readNumber_1 : decode cX4_readNumber 1 = .ok (.aload_n 0, 1) := by decide +kernel
theorem dX4_readNumber_2 : decode cX4_readNumber 2 = .ok (.getfield 20, 3) := by decide +kernel
theorem dX4_readNumber_5 : decode cX4_readNumber 5 = .ok (.invokevirtual 34, 3) := by decide +kernel
theorem dX4_readNumber_8 : decode cX4_readNumber 8 = .ok (.istore_n 2, 1) := by decide +kernel
theorem dX4_readNumber_9 : decode cX4_readNumber 9 = .ok (.iload_n 2, 1) := by decide +kernel
theorem dX4_readNumber_10 : decode cX4_readNumber 10 = .ok (.invokestatic 61, 3) := by decide +kernel
theorem dX4_readNumber_13 : decode cX4_readNumber 13 = .ok (.ifCond .ne 6, 3) := by decide +kernel
theorem dX4_readNumber_16 : decode cX4_readNumber 16 = .ok (.bipush (-4), 2) := by decide +kernel
theorem dX4_readNumber_18 : decode cX4_readNumber 18 = .ok (.ireturn, 1) := by decide +kernel
theorem dX4_readNumber_19 : decode cX4_readNumber 19 = .ok (.aload_n 0, 1) := by decide +kernel
theorem dX4_readNumber_20 : decode cX4_readNumber 20 = .ok (.dup, 1) := by decide +kernel
theorem dX4_readNumber_21 : decode cX4_readNumber 21 = .ok (.getfield 20, 3) := by decide +kernel
theorem dX4_readNumber_24 : decode cX4_readNumber 24 = .ok (.iconst 1, 1) := by decide +kernel
theorem dX4_readNumber_25 : decode cX4_readNumber 25 = .ok (.iadd, 1) := by decide +kernel
theorem dX4_readNumber_26 : decode cX4_readNumber 26 = .ok (.putfield 20, 3) := by decide +kernel
theorem dX4_readNumber_29 : decode cX4_readNumber 29 = .ok (.aload_n 1, 1) := by decide +kernel
theorem dX4_readNumber_30 : decode cX4_readNumber 30 = .ok (.aload_n 0, 1) := by decide +kernel
theorem dX4_readNumber_31 : decode cX4_readNumber 31 = .ok (.getfield 20, 3) := by decide +kernel
theorem dX4_readNumber_34 : decode cX4_readNumber 34 = .ok (.invokevirtual 34, 3) := by decide +kernel
theorem dX4_readNumber_37 : decode cX4_readNumber 37 = .ok (.istore_n 3, 1) := by decide +kernel
theorem dX4_readNumber_38 : decode cX4_readNumber 38 = .ok (.iload_n 3, 1) := by decide +kernel
theorem dX4_readNumber_39 : decode cX4_readNumber 39 = .ok (.invokestatic 61, 3) := by decide +kernel
theorem dX4_readNumber_42 : decode cX4_readNumber 42 = .ok (.ifCond .ne 8, 3) := by decide +kernel
theorem dX4_readNumber_45 : decode cX4_readNumber 45 = .ok (.iload_n 2, 1) := by decide +kernel
theorem dX4_readNumber_46 : decode cX4_readNumber 46 = .ok (.bipush 48, 2) := by decide +kernel
theorem dX4_readNumber_48 : decode cX4_readNumber 48 = .ok (.isub, 1) := by decide +kernel
theorem dX4_readNumber_49 : decode cX4_readNumber 49 = .ok (.ireturn, 1) := by decide +kernel
theorem dX4_readNumber_50 : decode cX4_readNumber 50 = .ok (.aload_n 0, 1) := by decide +kernel
theorem dX4_readNumber_51 : decode cX4_readNumber 51 = .ok (.dup, 1) := by decide +kernel
theorem dX4_readNumber_52 : decode cX4_readNumber 52 = .ok (.getfield 20, 3) := by decide +kernel
theorem dX4_readNumber_55 : decode cX4_readNumber 55 = .ok (.iconst 1, 1) := by decide +kernel
theorem dX4_readNumber_56 : decode cX4_readNumber 56 = .ok (.iadd, 1) := by decide +kernel
theorem dX4_readNumber_57 : decode cX4_readNumber 57 = .ok (.putfield 20, 3) := by decide +kernel
theorem dX4_readNumber_60 : decode cX4_readNumber 60 = .ok (.bipush 10, 2) := by decide +kernel
theorem dX4_readNumber_62 : decode cX4_readNumber 62 = .ok (.iload_n 2, 1) := by decide +kernel
theorem dX4_readNumber_63 : decode cX4_readNumber 63 = .ok (.bipush 48, 2) := by decide +kernel
theorem dX4_readNumber_65 : decode cX4_readNumber 65 = .ok (.isub, 1) := by decide +kernel
theorem dX4_readNumber_66 : decode cX4_readNumber 66 = .ok (.imul, 1) := by decide +kernel
theorem dX4_readNumber_67 : decode cX4_readNumber 67 = .ok (.iload_n 3, 1) := by decide +kernel
theorem dX4_readNumber_68 : decode cX4_readNumber 68 = .ok (.iadd, 1) := by decide +kernel
theorem dX4_readNumber_69 : decode cX4_readNumber 69 = .ok (.bipush 48, 2) := by decide +kernel
theorem dX4_readNumber_71 : decode cX4_readNumber 71 = .ok (.isub, 1) := by decide +kernel
theorem dX4_readNumber_72 : decode cX4_readNumber 72 = .ok (.ireturn, 1) := by decide +kernel
theorem dX4_isFigure_0 : decode cX4_isFigure 0 = .ok (.iload_n 0, 1) := by decide +kernel
theorem dX4_isFigure_1 : decode cX4_isFigure 1 = .ok (.bipush 48, 2) := by decide +kernel
theorem dX4_isFigure_3 : decode cX4_isFigure 3 = .ok (.bipush 57, 2) := by decide +kernel
theorem dX4_isFigure_5 : decode cX4_isFigure 5 = .ok (.invokestatic 64, 3) := by decide +kernel
theorem dX4_isFigure_8 : decode cX4_isFigure 8 = .ok (.ireturn, 1) := by decide +kernel
theorem dX5_init_0 : decode cX5_init 0 = .ok (.aload_n 0, 1) := by decide +kernel
theorem dX5_init_1 : decode cX5_init 1 = .ok (.invokespecial 1, 3) := by decide +kernel
theorem dX5_init_4 : decode cX5_init 4 = .ok (.aload_n 0, 1) := by decide +kernel
theorem dX5_init_5 : decode cX5_init 5 = .ok (.iload_n 1, 1) := by decide +kernel
theorem dX5_init_6 : decode cX5_init 6 = .ok (.iconst 1, 1) := by decide +kernel
theorem dX5_init_7 : decode cX5_init 7 = .ok (.invokestatic 7, 3) := by decide +kernel
theorem dX5_init_10 : decode cX5_init 10 = .ok (.putfield 13, 3) := by decide +kernel
theorem dX5_init_13 : decode cX5_init 13 = .ok (.aload_n 0, 1) := by decide +kernel
theorem dX5_init_14 : decode cX5_init 14 = .ok (.aload_n 0, 1) := by decide +kernel
theorem dX5_init_15 : decode cX5_init 15 = .ok (.getfield 13, 3) := by decide +kernel
theorem dX5_init_18 : decode cX5_init 18 = .ok (.bipush 42, 2) := by decide +kernel
theorem dX5_init_20 : decode cX5_init 20 = .ok (.imul, 1) := by decide +kernel
theorem dX5_init_21 : decode cX5_init 21 = .ok (.newarray .int, 2) := by decide +kernel
theorem dX5_init_23 : decode cX5_init 23 = .ok (.putfield 21, 3) := by decide +kernel
theorem dX5_init_26 : decode cX5_init 26 = .ok (.return_, 1) := by decide +kernel
theorem dX5_size_0 : decode cX5_size 0 = .ok (.aload_n 0, 1) := by decide +kernel
theorem dX5_size_1 : decode cX5_size 1 = .ok (.getfield 25, 3) := by decide +kernel
theorem dX5_size_4 : decode cX5_size 4 = .ok (.ireturn, 1) := by decide +kernel
theorem dX5_isFull_0 : decode cX5_isFull 0 = .ok (.aload_n 0, 1) := by decide +kernel
theorem dX5_isFull_1 : decode cX5_isFull 1 = .ok (.getfield 25, 3) := by decide +kernel
theorem dX5_isFull_4 : decode cX5_isFull 4 = .ok (.aload_n 0, 1) := by decide +kernel
theorem dX5_isFull_5 : decode cX5_isFull 5 = .ok (.getfield 13, 3) := by decide +kernel
theorem dX5_isFull_8 : decode cX5_isFull 8 = .ok (.if_icmp .lt 7, 3) := by decide +kernel
theorem dX5_isFull_11 : decode cX5_isFull 11 = .ok (.iconst 1, 1) := by decide +kernel
theorem dX5_isFull_12 : decode cX5_isFull 12 = .ok (.goto 4, 3) := by decide +kernel
theorem dX5_isFull_15 : decode cX5_isFull 15 = .ok (.iconst 0, 1) := by decide +kernel
theorem dX5_isFull_16 : decode cX5_isFull 16 = .ok (.ireturn, 1) := by decide +kernel
theorem dX5_clear_0 : decode cX5_clear 0 = .ok (.aload_n 0, 1) := by decide +kernel
theorem dX5_clear_1 : decode cX5_clear 1 = .ok (.iconst 0, 1) := by decide +kernel
theorem dX5_clear_2 : decode cX5_clear 2 = .ok (.putfield 25, 3) := by decide +kernel
theorem dX5_clear_5 : decode cX5_clear 5 = .ok (.return_, 1) := by decide +kernel
theorem dX5_push_0 : decode cX5_push 0 = .ok (.aload_n 0, 1) := by decide +kernel
theorem dX5_push_1 : decode cX5_push 1 = .ok (.invokevirtual 28, 3) := by decide +kernel
theorem dX5_push_4 : decode cX5_push 4 = .ok (.ifCond .eq 7, 3) := by decide +kernel
theorem dX5_push_7 : decode cX5_push 7 = .ok (.aload_n 0, 1) := by decide +kernel
theorem dX5_push_8 : decode cX5_push 8 = .ok (.invokevirtual 32, 3) := by decide +kernel
theorem dX5_push_11 : decode cX5_push 11 = .ok (.aload_n 1, 1) := by decide +kernel
theorem dX5_push_12 : decode cX5_push 12 = .ok (.aload_n 0, 1) := by decide +kernel
theorem dX5_push_13 : decode cX5_push 13 = .ok (.getfield 21, 3) := by decide +kernel
theorem dX5_push_16 : decode cX5_push 16 = .ok (.aload_n 0, 1) := by decide +kernel
theorem dX5_push_17 : decode cX5_push 17 = .ok (.getfield 25, 3) := by decide +kernel
theorem dX5_push_20 : decode cX5_push 20 = .ok (.bipush 42, 2) := by decide +kernel
theorem dX5_push_22 : decode cX5_push 22 = .ok (.imul, 1) := by decide +kernel
theorem dX5_push_23 : decode cX5_push 23 = .ok (.invokevirtual 35, 3) := by decide +kernel
theorem dX5_push_26 : decode cX5_push 26 = .ok (.aload_n 0, 1) := by decide +kernel
theorem dX5_push_27 : decode cX5_push 27 = .ok (.dup, 1) := by decide +kernel
theorem dX5_push_28 : decode cX5_push 28 = .ok (.getfield 25, 3) := by decide +kernel
theorem dX5_push_31 : decode cX5_push 31 = .ok (.iconst 1, 1) := by decide +kernel
theorem dX5_push_32 : decode cX5_push 32 = .ok (.iadd, 1) := by decide +kernel
theorem dX5_push_33 : decode cX5_push 33 = .ok (.putfield 25, 3) := by decide +kernel
theorem dX5_push_36 : decode cX5_push 36 = .ok (.return_, 1) := by decide +kernel
theorem dX5_popInto_0 : decode cX5_popInto 0 = .ok (.aload_n 0, 1) := by decide +kernel
theorem dX5_popInto_1 : decode cX5_popInto 1 = .ok (.getfield 25, 3) := by decide +kernel
theorem dX5_popInto_4 : decode cX5_popInto 4 = .ok (.ifCond .le 28, 3) := by decide +kernel
theorem dX5_popInto_7 : decode cX5_popInto 7 = .ok (.aload_n 0, 1) := by decide +kernel
theorem dX5_popInto_8 : decode cX5_popInto 8 = .ok (.dup, 1) := by decide +kernel
theorem dX5_popInto_9 : decode cX5_popInto 9 = .ok (.getfield 25, 3) := by decide +kernel
theorem dX5_popInto_12 : decode cX5_popInto 12 = .ok (.iconst 1, 1) := by decide +kernel
theorem dX5_popInto_13 : decode cX5_popInto 13 = .ok (.isub, 1) := by decide +kernel
theorem dX5_popInto_14 : decode cX5_popInto 14 = .ok (.putfield 25, 3) := by decide +kernel
theorem dX5_popInto_17 : decode cX5_popInto 17 = .ok (.aload_n 1, 1) := by decide +kernel
theorem dX5_popInto_18 : decode cX5_popInto 18 = .ok (.aload_n 0, 1) := by decide +kernel
theorem dX5_popInto_19 : decode cX5_popInto 19 = .ok (.getfield 21, 3) := by decide +kernel
theorem dX5_popInto_22 : decode cX5_popInto 22 = .ok (.aload_n 0, 1) := by decide +kernel
theorem dX5_popInto_23 : decode cX5_popInto 23 = .ok (.getfield 25, 3) := by decide +kernel
theorem dX5_popInto_26 : decode cX5_popInto 26 = .ok (.bipush 42, 2) := by decide +kernel
theorem dX5_popInto_28 : decode cX5_popInto 28 = .ok (.imul, 1) := by decide +kernel
theorem dX5_popInto_29 : decode cX5_popInto 29 = .ok (.invokevirtual 39, 3) := by decide +kernel
theorem dX5_popInto_32 : decode cX5_popInto 32 = .ok (.return_, 1) := by decide +kernel
theorem dX5_dropOldest_0 : decode cX5_dropOldest 0 = .ok (.aload_n 0, 1) := by decide +kernel
theorem dX5_dropOldest_1 : decode cX5_dropOldest 1 = .ok (.getfield 21, 3) := by decide +kernel
theorem dX5_dropOldest_4 : decode cX5_dropOldest 4 = .ok (.arraylength, 1) := by decide +kernel
theorem dX5_dropOldest_5 : decode cX5_dropOldest 5 = .ok (.bipush 42, 2) := by decide +kernel
theorem dX5_dropOldest_7 : decode cX5_dropOldest 7 = .ok (.isub, 1) := by decide +kernel
theorem dX5_dropOldest_8 : decode cX5_dropOldest 8 = .ok (.istore_n 1, 1) := by decide +kernel
theorem dX5_dropOldest_9 : decode cX5_dropOldest 9 = .ok (.iload_n 1, 1) := by decide +kernel
theorem dX5_dropOldest_10 : decode cX5_dropOldest 10 = .ok (.ifCond .lt 18, 3) := by decide +kernel
theorem dX5_dropOldest_13 : decode cX5_dropOldest 13 = .ok (.aload_n 0, 1) := by decide +kernel
theorem dX5_dropOldest_14 : decode cX5_dropOldest 14 = .ok (.getfield 21, 3) := by decide +kernel
theorem dX5_dropOldest_17 : decode cX5_dropOldest 17 = .ok (.bipush 42, 2) := by decide +kernel
theorem dX5_dropOldest_19 : decode cX5_dropOldest 19 = .ok (.aload_n 0, 1) := by decide +kernel
theorem dX5_dropOldest_20 : decode cX5_dropOldest 20 = .ok (.getfield 21, 3) := by decide +kernel
theorem dX5_dropOldest_23 : decode cX5_dropOldest 23 = .ok (.iconst 0, 1) := by decide +kernel
theorem dX5_dropOldest_24 : decode cX5_dropOldest 24 = .ok (.iload_n 1, 1) := by decide +kernel
theorem dX5_dropOldest_25 : decode cX5_dropOldest 25 = .ok (.invokestatic 42, 3) := by decide +kernel
theorem dX5_dropOldest_28 : decode cX5_dropOldest 28 = .ok (.aload_n 0, 1) := by decide +kernel
theorem dX5_dropOldest_29 : decode cX5_dropOldest 29 = .ok (.dup, 1) := by decide +kernel
theorem dX5_dropOldest_30 : decode cX5_dropOldest 30 = .ok (.getfield 25, 3) := by decide +kernel
theorem dX5_dropOldest_33 : decode cX5_dropOldest 33 = .ok (.iconst 1, 1) := by decide +kernel
theorem dX5_dropOldest_34 : decode cX5_dropOldest 34 = .ok (.isub, 1) := by decide +kernel
theorem dX5_dropOldest_35 : decode cX5_dropOldest 35 = .ok (.putfield 25, 3) := by decide +kernel
theorem dX5_dropOldest_38 : decode cX5_dropOldest 38 = .ok (.return_, 1) := by decide +kernel
theorem dX6_of_0 : decode cX6_of 0 = .ok (.iload_n 0, 1) := by decide +kernel
theorem dX6_of_1 : decode cX6_of 1 = .ok (.bipush 6, 2) := by decide +kernel
theorem dX6_of_3 : decode cX6_of 3 = .ok (.iload_n 1, 1) := by decide +kernel
theorem dX6_of_4 : decode cX6_of 4 = .ok (.imul, 1) := by decide +kernel
theorem dX6_of_5 : decode cX6_of 5 = .ok (.iadd, 1) := by decide +kernel
theorem dX6_of_6 : decode cX6_of 6 = .ok (.bipush 24, 2) := by decide +kernel
theorem dX6_of_8 : decode cX6_of 8 = .ok (.iload_n 2, 1) := by decide +kernel
theorem dX6_of_9 : decode cX6_of 9 = .ok (.imul, 1) := by decide +kernel
theorem dX6_of_10 : decode cX6_of 10 = .ok (.iadd, 1) := by decide +kernel
theorem dX6_of_11 : decode cX6_of 11 = .ok (.ireturn, 1) := by decide +kernel
theorem dX6_seeds_0 : decode cX6_seeds 0 = .ok (.iload_n 0, 1) := by decide +kernel
theorem dX6_seeds_1 : decode cX6_seeds 1 = .ok (.bipush 6, 2) := by decide +kernel
theorem dX6_seeds_3 : decode cX6_seeds 3 = .ok (.irem, 1) := by decide +kernel
theorem dX6_seeds_4 : decode cX6_seeds 4 = .ok (.ireturn, 1) := by decide +kernel
theorem dX6_cuts_0 : decode cX6_cuts 0 = .ok (.iload_n 0, 1) := by decide +kernel
theorem dX6_cuts_1 : decode cX6_cuts 1 = .ok (.bipush 6, 2) := by decide +kernel
theorem dX6_cuts_3 : decode cX6_cuts 3 = .ok (.idiv, 1) := by decide +kernel
theorem dX6_cuts_4 : decode cX6_cuts 4 = .ok (.iconst 4, 1) := by decide +kernel
theorem dX6_cuts_5 : decode cX6_cuts 5 = .ok (.irem, 1) := by decide +kernel
theorem dX6_cuts_6 : decode cX6_cuts 6 = .ok (.ireturn, 1) := by decide +kernel
theorem dX6_filling_0 : decode cX6_filling 0 = .ok (.iload_n 0, 1) := by decide +kernel
theorem dX6_filling_1 : decode cX6_filling 1 = .ok (.bipush 24, 2) := by decide +kernel
theorem dX6_filling_3 : decode cX6_filling 3 = .ok (.idiv, 1) := by decide +kernel
theorem dX6_filling_4 : decode cX6_filling 4 = .ok (.ireturn, 1) := by decide +kernel
theorem dX6_flour_0 : decode cX6_flour 0 = .ok (.iconst 1, 1) := by decide +kernel
theorem dX6_flour_1 : decode cX6_flour 1 = .ok (.iload_n 0, 1) := by decide +kernel
theorem dX6_flour_2 : decode cX6_flour 2 = .ok (.invokestatic 7, 3) := by decide +kernel
theorem dX6_flour_5 : decode cX6_flour 5 = .ok (.iadd, 1) := by decide +kernel
theorem dX6_flour_6 : decode cX6_flour 6 = .ok (.iconst 2, 1) := by decide +kernel
theorem dX6_flour_7 : decode cX6_flour 7 = .ok (.iload_n 0, 1) := by decide +kernel
theorem dX6_flour_8 : decode cX6_flour 8 = .ok (.invokestatic 13, 3) := by decide +kernel
theorem dX6_flour_11 : decode cX6_flour 11 = .ok (.imul, 1) := by decide +kernel
theorem dX6_flour_12 : decode cX6_flour 12 = .ok (.iadd, 1) := by decide +kernel
theorem dX6_flour_13 : decode cX6_flour 13 = .ok (.iconst 3, 1) := by decide +kernel
theorem dX6_flour_14 : decode cX6_flour 14 = .ok (.iload_n 0, 1) := by decide +kernel
theorem dX6_flour_15 : decode cX6_flour 15 = .ok (.invokestatic 16, 3) := by decide +kernel
theorem dX6_flour_18 : decode cX6_flour 18 = .ok (.imul, 1) := by decide +kernel
theorem dX6_flour_19 : decode cX6_flour 19 = .ok (.iadd, 1) := by decide +kernel
theorem dX6_flour_20 : decode cX6_flour 20 = .ok (.ireturn, 1) := by decide +kernel
theorem dX6_bitten_0 : decode cX6_bitten 0 = .ok (.iload_n 0, 1) := by decide +kernel
theorem dX6_bitten_1 : decode cX6_bitten 1 = .ok (.invokestatic 16, 3) := by decide +kernel
theorem dX6_bitten_4 : decode cX6_bitten 4 = .ok (.ifCond .le 16, 3) := by decide +kernel
theorem dX6_bitten_7 : decode cX6_bitten 7 = .ok (.iload_n 0, 1) := by decide +kernel
theorem dX6_bitten_8 : decode cX6_bitten 8 = .ok (.invokestatic 7, 3) := by decide +kernel
theorem dX6_bitten_11 : decode cX6_bitten 11 = .ok (.iload_n 0, 1) := by decide +kernel
theorem dX6_bitten_12 : decode cX6_bitten 12 = .ok (.invokestatic 13, 3) := by decide +kernel
theorem dX6_bitten_15 : decode cX6_bitten 15 = .ok (.iconst 0, 1) := by decide +kernel
theorem dX6_bitten_16 : decode cX6_bitten 16 = .ok (.invokestatic 19, 3) := by decide +kernel
theorem dX6_bitten_19 : decode cX6_bitten 19 = .ok (.ireturn, 1) := by decide +kernel
theorem dX6_bitten_20 : decode cX6_bitten 20 = .ok (.iload_n 0, 1) := by decide +kernel
theorem dX6_bitten_21 : decode cX6_bitten 21 = .ok (.invokestatic 7, 3) := by decide +kernel
theorem dX6_bitten_24 : decode cX6_bitten 24 = .ok (.ifCond .le 15, 3) := by decide +kernel
theorem dX6_bitten_27 : decode cX6_bitten 27 = .ok (.iconst 0, 1) := by decide +kernel
theorem dX6_bitten_28 : decode cX6_bitten 28 = .ok (.iload_n 0, 1) := by decide +kernel
theorem dX6_bitten_29 : decode cX6_bitten 29 = .ok (.invokestatic 13, 3) := by decide +kernel
theorem dX6_bitten_32 : decode cX6_bitten 32 = .ok (.iconst 0, 1) := by decide +kernel
theorem dX6_bitten_33 : decode cX6_bitten 33 = .ok (.invokestatic 19, 3) := by decide +kernel
theorem dX6_bitten_36 : decode cX6_bitten 36 = .ok (.goto 4, 3) := by decide +kernel
theorem dX6_bitten_39 : decode cX6_bitten 39 = .ok (.iconst 0, 1) := by decide +kernel
theorem dX6_bitten_40 : decode cX6_bitten 40 = .ok (.ireturn, 1) := by decide +kernel
theorem dX7_init_0 : decode cX7_init 0 = .ok (.aload_n 0, 1) := by decide +kernel
theorem dX7_init_1 : decode cX7_init 1 = .ok (.invokespecial 1, 3) := by decide +kernel
theorem dX7_init_4 : decode cX7_init 4 = .ok (.aload_n 0, 1) := by decide +kernel
theorem dX7_init_5 : decode cX7_init 5 = .ok (.sipush 300, 3) := by decide +kernel
theorem dX7_init_8 : decode cX7_init 8 = .ok (.newarray .byte, 2) := by decide +kernel
theorem dX7_init_10 : decode cX7_init 10 = .ok (.putfield 9, 3) := by decide +kernel
theorem dX7_init_13 : decode cX7_init 13 = .ok (.return_, 1) := by decide +kernel
theorem dX7_length_0 : decode cX7_length 0 = .ok (.aload_n 0, 1) := by decide +kernel
theorem dX7_length_1 : decode cX7_length 1 = .ok (.getfield 13, 3) := by decide +kernel
theorem dX7_length_4 : decode cX7_length 4 = .ok (.ireturn, 1) := by decide +kernel
theorem dX7_clear_0 : decode cX7_clear 0 = .ok (.aload_n 0, 1) := by decide +kernel
theorem dX7_clear_1 : decode cX7_clear 1 = .ok (.iconst 0, 1) := by decide +kernel
theorem dX7_clear_2 : decode cX7_clear 2 = .ok (.putfield 13, 3) := by decide +kernel
theorem dX7_clear_5 : decode cX7_clear 5 = .ok (.return_, 1) := by decide +kernel
theorem dX7_hasRoom_0 : decode cX7_hasRoom 0 = .ok (.aload_n 0, 1) := by decide +kernel
theorem dX7_hasRoom_1 : decode cX7_hasRoom 1 = .ok (.getfield 13, 3) := by decide +kernel
theorem dX7_hasRoom_4 : decode cX7_hasRoom 4 = .ok (.iload_n 1, 1) := by decide +kernel
theorem dX7_hasRoom_5 : decode cX7_hasRoom 5 = .ok (.iadd, 1) := by decide +kernel
theorem dX7_hasRoom_6 : decode cX7_hasRoom 6 = .ok (.sipush 300, 3) := by decide +kernel
theorem dX7_hasRoom_9 : decode cX7_hasRoom 9 = .ok (.if_icmp .gt 7, 3) := by decide +kernel
theorem dX7_hasRoom_12 : decode cX7_hasRoom 12 = .ok (.iconst 1, 1) := by decide +kernel
theorem dX7_hasRoom_13 : decode cX7_hasRoom 13 = .ok (.goto 4, 3) := by decide +kernel
theorem dX7_hasRoom_16 : decode cX7_hasRoom 16 = .ok (.iconst 0, 1) := by decide +kernel
theorem dX7_hasRoom_17 : decode cX7_hasRoom 17 = .ok (.ireturn, 1) := by decide +kernel
theorem dX7_append_0 : decode cX7_append 0 = .ok (.iload_n 1, 1) := by decide +kernel
theorem dX7_append_1 : decode cX7_append 1 = .ok (.iconst 1, 1) := by decide +kernel
theorem dX7_append_2 : decode cX7_append 2 = .ok (.isub, 1) := by decide +kernel
theorem dX7_append_3 : decode cX7_append 3 = .ok (.istore 4, 2) := by decide +kernel
theorem dX7_append_5 : decode cX7_append 5 = .ok (.iload 4, 2) := by decide +kernel
theorem dX7_append_7 : decode cX7_append 7 = .ok (.ifCond .lt 56, 3) := by decide +kernel
theorem dX7_append_10 : decode cX7_append 10 = .ok (.aload_n 0, 1) := by decide +kernel
theorem dX7_append_11 : decode cX7_append 11 = .ok (.getfield 13, 3) := by decide +kernel
theorem dX7_append_14 : decode cX7_append 14 = .ok (.ifCond .lt 43, 3) := by decide +kernel
theorem dX7_append_17 : decode cX7_append 17 = .ok (.aload_n 0, 1) := by decide +kernel
theorem dX7_append_18 : decode cX7_append 18 = .ok (.getfield 13, 3) := by decide +kernel
theorem dX7_append_21 : decode cX7_append 21 = .ok (.aload_n 0, 1) := by decide +kernel
theorem dX7_append_22 : decode cX7_append 22 = .ok (.getfield 9, 3) := by decide +kernel
theorem dX7_append_25 : decode cX7_append 25 = .ok (.arraylength, 1) := by decide +kernel
theorem dX7_append_26 : decode cX7_append 26 = .ok (.if_icmp .ge 31, 3) := by decide +kernel
theorem dX7_append_29 : decode cX7_append 29 = .ok (.aload_n 0, 1) := by decide +kernel
theorem dX7_append_30 : decode cX7_append 30 = .ok (.getfield 9, 3) := by decide +kernel
theorem dX7_append_33 : decode cX7_append 33 = .ok (.aload_n 0, 1) := by decide +kernel
theorem dX7_append_34 : decode cX7_append 34 = .ok (.getfield 13, 3) := by decide +kernel
theorem dX7_append_37 : decode cX7_append 37 = .ok (.lload_n 2, 1) := by decide +kernel
theorem dX7_append_38 : decode cX7_append 38 = .ok (.bipush 8, 2) := by decide +kernel
theorem dX7_append_40 : decode cX7_append 40 = .ok (.iload 4, 2) := by decide +kernel
theorem dX7_append_42 : decode cX7_append 42 = .ok (.imul, 1) := by decide +kernel
theorem dX7_append_43 : decode cX7_append 43 = .ok (.lushr, 1) := by decide +kernel
theorem dX7_append_44 : decode cX7_append 44 = .ok (.l2i, 1) := by decide +kernel
theorem dX7_append_45 : decode cX7_append 45 = .ok (.i2b, 1) := by decide +kernel
theorem dX7_append_46 : decode cX7_append 46 = .ok (.bastore, 1) := by decide +kernel
theorem dX7_append_47 : decode cX7_append 47 = .ok (.aload_n 0, 1) := by decide +kernel
theorem dX7_append_48 : decode cX7_append 48 = .ok (.dup, 1) := by decide +kernel
theorem dX7_append_49 : decode cX7_append 49 = .ok (.getfield 13, 3) := by decide +kernel
theorem dX7_append_52 : decode cX7_append 52 = .ok (.iconst 1, 1) := by decide +kernel
theorem dX7_append_53 : decode cX7_append 53 = .ok (.iadd, 1) := by decide +kernel
theorem dX7_append_54 : decode cX7_append 54 = .ok (.putfield 13, 3) := by decide +kernel
theorem dX7_append_57 : decode cX7_append 57 = .ok (.iinc 4 (-1), 3) := by decide +kernel
theorem dX7_append_60 : decode cX7_append 60 = .ok (.goto (-55), 3) := by decide +kernel
theorem dX7_append_63 : decode cX7_append 63 = .ok (.return_, 1) := by decide +kernel
theorem dX7_byteAt_0 : decode cX7_byteAt 0 = .ok (.iload_n 1, 1) := by decide +kernel
theorem dX7_byteAt_1 : decode cX7_byteAt 1 = .ok (.ifCond .lt 33, 3) := by decide +kernel
theorem dX7_byteAt_4 : decode cX7_byteAt 4 = .ok (.iload_n 1, 1) := by decide +kernel
theorem dX7_byteAt_5 : decode cX7_byteAt 5 = .ok (.aload_n 0, 1) := by decide +kernel
theorem dX7_byteAt_6 : decode cX7_byteAt 6 = .ok (.getfield 13, 3) := by decide +kernel
theorem dX7_byteAt_9 : decode cX7_byteAt 9 = .ok (.if_icmp .ge 25, 3) := by decide +kernel
theorem dX7_byteAt_12 : decode cX7_byteAt 12 = .ok (.iload_n 1, 1) := by decide +kernel
theorem dX7_byteAt_13 : decode cX7_byteAt 13 = .ok (.aload_n 0, 1) := by decide +kernel
theorem dX7_byteAt_14 : decode cX7_byteAt 14 = .ok (.getfield 9, 3) := by decide +kernel
theorem dX7_byteAt_17 : decode cX7_byteAt 17 = .ok (.arraylength, 1) := by decide +kernel
theorem dX7_byteAt_18 : decode cX7_byteAt 18 = .ok (.if_icmp .ge 16, 3) := by decide +kernel
theorem dX7_byteAt_21 : decode cX7_byteAt 21 = .ok (.aload_n 0, 1) := by decide +kernel
theorem dX7_byteAt_22 : decode cX7_byteAt 22 = .ok (.getfield 9, 3) := by decide +kernel
theorem dX7_byteAt_25 : decode cX7_byteAt 25 = .ok (.iload_n 1, 1) := by decide +kernel
theorem dX7_byteAt_26 : decode cX7_byteAt 26 = .ok (.baload, 1) := by decide +kernel
theorem dX7_byteAt_27 : decode cX7_byteAt 27 = .ok (.sipush 255, 3) := by decide +kernel
theorem dX7_byteAt_30 : decode cX7_byteAt 30 = .ok (.iand, 1) := by decide +kernel
theorem dX7_byteAt_31 : decode cX7_byteAt 31 = .ok (.goto 4, 3) := by decide +kernel
theorem dX7_byteAt_34 : decode cX7_byteAt 34 = .ok (.iconst (-1), 1) := by decide +kernel
theorem dX7_byteAt_35 : decode cX7_byteAt 35 = .ok (.ireturn, 1) := by decide +kernel
theorem dX8_init_0 : decode cX8_init 0 = .ok (.aload_n 0, 1) := by decide +kernel
theorem dX8_init_1 : decode cX8_init 1 = .ok (.invokespecial 3, 3) := by decide +kernel
theorem dX8_init_4 : decode cX8_init 4 = .ok (.aload_n 0, 1) := by decide +kernel
theorem dX8_init_5 : decode cX8_init 5 = .ok (.bipush 8, 2) := by decide +kernel
theorem dX8_init_7 : decode cX8_init 7 = .ok (.newarray .int, 2) := by decide +kernel
theorem dX8_init_9 : decode cX8_init 9 = .ok (.putfield 11, 3) := by decide +kernel
theorem dX8_init_12 : decode cX8_init 12 = .ok (.aload_n 0, 1) := by decide +kernel
theorem dX8_init_13 : decode cX8_init 13 = .ok (.bipush 8, 2) := by decide +kernel
theorem dX8_init_15 : decode cX8_init 15 = .ok (.newarray .int, 2) := by decide +kernel
theorem dX8_init_17 : decode cX8_init 17 = .ok (.putfield 15, 3) := by decide +kernel
theorem dX8_init_20 : decode cX8_init 20 = .ok (.aload_n 0, 1) := by decide +kernel
theorem dX8_init_21 : decode cX8_init 21 = .ok (.iconst 5, 1) := by decide +kernel
theorem dX8_init_22 : decode cX8_init 22 = .ok (.newarray .int, 2) := by decide +kernel
theorem dX8_init_24 : decode cX8_init 24 = .ok (.putfield 18, 3) := by decide +kernel
theorem dX8_init_27 : decode cX8_init 27 = .ok (.aload_n 0, 1) := by decide +kernel
theorem dX8_init_28 : decode cX8_init 28 = .ok (.iconst 5, 1) := by decide +kernel
theorem dX8_init_29 : decode cX8_init 29 = .ok (.newarray .int, 2) := by decide +kernel
theorem dX8_init_31 : decode cX8_init 31 = .ok (.putfield 21, 3) := by decide +kernel
theorem dX8_init_34 : decode cX8_init 34 = .ok (.aload_n 0, 1) := by decide +kernel
theorem dX8_init_35 : decode cX8_init 35 = .ok (.iconst 5, 1) := by decide +kernel
theorem dX8_init_36 : decode cX8_init 36 = .ok (.newarray .int, 2) := by decide +kernel
theorem dX8_init_38 : decode cX8_init 38 = .ok (.putfield 24, 3) := by decide +kernel
theorem dX8_init_41 : decode cX8_init 41 = .ok (.aload_n 0, 1) := by decide +kernel
theorem dX8_init_42 : decode cX8_init 42 = .ok (.iconst 2, 1) := by decide +kernel
theorem dX8_init_43 : decode cX8_init 43 = .ok (.putfield 27, 3) := by decide +kernel
theorem dX8_init_46 : decode cX8_init 46 = .ok (.aload_n 0, 1) := by decide +kernel
theorem dX8_init_47 : decode cX8_init 47 = .ok (.iconst 3, 1) := by decide +kernel
theorem dX8_init_48 : decode cX8_init 48 = .ok (.putfield 31, 3) := by decide +kernel
theorem dX8_init_51 : decode cX8_init 51 = .ok (.return_, 1) := by decide +kernel
theorem dX8_clear_0 : decode cX8_clear 0 = .ok (.aload_n 0, 1) := by decide +kernel
theorem dX8_clear_1 : decode cX8_clear 1 = .ok (.iconst 0, 1) := by decide +kernel
theorem dX8_clear_2 : decode cX8_clear 2 = .ok (.putfield 34, 3) := by decide +kernel
theorem dX8_clear_5 : decode cX8_clear 5 = .ok (.aload_n 0, 1) := by decide +kernel
theorem dX8_clear_6 : decode cX8_clear 6 = .ok (.iconst 0, 1) := by decide +kernel
theorem dX8_clear_7 : decode cX8_clear 7 = .ok (.putfield 37, 3) := by decide +kernel
theorem dX8_clear_10 : decode cX8_clear 10 = .ok (.aload_n 0, 1) := by decide +kernel
theorem dX8_clear_11 : decode cX8_clear 11 = .ok (.iconst 0, 1) := by decide +kernel
theorem dX8_clear_12 : decode cX8_clear 12 = .ok (.putfield 40, 3) := by decide +kernel
theorem dX8_clear_15 : decode cX8_clear 15 = .ok (.aload_n 0, 1) := by decide +kernel
theorem dX8_clear_16 : decode cX8_clear 16 = .ok (.iconst 2, 1) := by decide +kernel
theorem dX8_clear_17 : decode cX8_clear 17 = .ok (.putfield 27, 3) := by decide +kernel
theorem dX8_clear_20 : decode cX8_clear 20 = .ok (.aload_n 0, 1) := by decide +kernel
theorem dX8_clear_21 : decode cX8_clear 21 = .ok (.iconst 3, 1) := by decide +kernel
theorem dX8_clear_22 : decode cX8_clear 22 = .ok (.putfield 31, 3) := by decide +kernel
theorem dX8_clear_25 : decode cX8_clear 25 = .ok (.return_, 1) := by decide +kernel
theorem dX8_addWord_0 : decode cX8_addWord 0 = .ok (.iload_n 1, 1) := by decide +kernel
theorem dX8_addWord_1 : decode cX8_addWord 1 = .ok (.iconst 0, 1) := by decide +kernel
theorem dX8_addWord_2 : decode cX8_addWord 2 = .ok (.iconst 5, 1) := by decide +kernel
theorem dX8_addWord_3 : decode cX8_addWord 3 = .ok (.invokestatic 43, 3) := by decide +kernel
theorem dX8_addWord_6 : decode cX8_addWord 6 = .ok (.ifCond .eq 21, 3) := by decide +kernel
theorem dX8_addWord_9 : decode cX8_addWord 9 = .ok (.iload_n 2, 1) := by decide +kernel
theorem dX8_addWord_10 : decode cX8_addWord 10 = .ok (.iconst 0, 1) := by decide +kernel
theorem dX8_addWord_11 : decode cX8_addWord 11 = .ok (.iconst 3, 1) := by decide +kernel
theorem dX8_addWord_12 : decode cX8_addWord 12 = .ok (.invokestatic 43, 3) := by decide +kernel
theorem dX8_addWord_15 : decode cX8_addWord 15 = .ok (.ifCond .eq 12, 3) := by decide +kernel
theorem dX8_addWord_18 : decode cX8_addWord 18 = .ok (.iload_n 3, 1) := by decide +kernel
theorem dX8_addWord_19 : decode cX8_addWord 19 = .ok (.iconst 0, 1) := by decide +kernel
theorem dX8_addWord_20 : decode cX8_addWord 20 = .ok (.iconst 2, 1) := by decide +kernel
theorem dX8_addWord_21 : decode cX8_addWord 21 = .ok (.invokestatic 43, 3) := by decide +kernel
theorem dX8_addWord_24 : decode cX8_addWord 24 = .ok (.ifCond .ne 5, 3) := by decide +kernel
theorem dX8_addWord_27 : decode cX8_addWord 27 = .ok (.iconst 0, 1) := by decide +kernel
theorem dX8_addWord_28 : decode cX8_addWord 28 = .ok (.ireturn, 1) := by decide +kernel
theorem dX8_addWord_29 : decode cX8_addWord 29 = .ok (.iload_n 1, 1) := by decide +kernel
theorem dX8_addWord_30 : decode cX8_addWord 30 = .ok (.iload_n 2, 1) := by decide +kernel
theorem dX8_addWord_31 : decode cX8_addWord 31 = .ok (.iload_n 3, 1) := by decide +kernel
theorem dX8_addWord_32 : decode cX8_addWord 32 = .ok (.invokestatic 47, 3) := by decide +kernel
theorem dX8_addWord_35 : decode cX8_addWord 35 = .ok (.istore 5, 2) := by decide +kernel
theorem dX8_addWord_37 : decode cX8_addWord 37 = .ok (.iload 4, 2) := by decide +kernel
theorem dX8_addWord_39 : decode cX8_addWord 39 = .ok (.iconst 0, 1) := by decide +kernel
theorem dX8_addWord_40 : decode cX8_addWord 40 = .ok (.bipush 99, 2) := by decide +kernel
theorem dX8_addWord_42 : decode cX8_addWord 42 = .ok (.invokestatic 43, 3) := by decide +kernel
theorem dX8_addWord_45 : decode cX8_addWord 45 = .ok (.ifCond .eq 27, 3) := by decide +kernel
theorem dX8_addWord_48 : decode cX8_addWord 48 = .ok (.aload_n 0, 1) := by decide +kernel
theorem dX8_addWord_49 : decode cX8_addWord 49 = .ok (.getfield 34, 3) := by decide +kernel
theorem dX8_addWord_52 : decode cX8_addWord 52 = .ok (.iconst 0, 1) := by decide +kernel
theorem dX8_addWord_53 : decode cX8_addWord 53 = .ok (.bipush 7, 2) := by decide +kernel
theorem dX8_addWord_55 : decode cX8_addWord 55 = .ok (.invokestatic 43, 3) := by decide +kernel
theorem dX8_addWord_58 : decode cX8_addWord 58 = .ok (.ifCond .eq 14, 3) := by decide +kernel
theorem dX8_addWord_61 : decode cX8_addWord 61 = .ok (.aload_n 0, 1) := by decide +kernel
theorem dX8_addWord_62 : decode cX8_addWord 62 = .ok (.iload 5, 2) := by decide +kernel
theorem dX8_addWord_64 : decode cX8_addWord 64 = .ok (.invokevirtual 53, 3) := by decide +kernel
theorem dX8_addWord_67 : decode cX8_addWord 67 = .ok (.bipush (-4), 2) := by decide +kernel
theorem dX8_addWord_69 : decode cX8_addWord 69 = .ok (.if_icmp .eq 5, 3) := by decide +kernel
theorem dX8_addWord_72 : decode cX8_addWord 72 = .ok (.iconst 0, 1) := by decide +kernel
theorem dX8_addWord_73 : decode cX8_addWord 73 = .ok (.ireturn, 1) := by decide +kernel
theorem dX8_addWord_74 : decode cX8_addWord 74 = .ok (.aload_n 0, 1) := by decide +kernel
theorem dX8_addWord_75 : decode cX8_addWord 75 = .ok (.getfield 11, 3) := by decide +kernel
theorem dX8_addWord_78 : decode cX8_addWord 78 = .ok (.aload_n 0, 1) := by decide +kernel
theorem dX8_addWord_79 : decode cX8_addWord 79 = .ok (.getfield 34, 3) := by decide +kernel
theorem dX8_addWord_82 : decode cX8_addWord 82 = .ok (.iload 5, 2) := by decide +kernel
theorem dX8_addWord_84 : decode cX8_addWord 84 = .ok (.iastore, 1) := by decide +kernel
theorem dX8_addWord_85 : decode cX8_addWord 85 = .ok (.aload_n 0, 1) := by decide +kernel
theorem dX8_addWord_86 : decode cX8_addWord 86 = .ok (.getfield 15, 3) := by decide +kernel
theorem dX8_addWord_89 : decode cX8_addWord 89 = .ok (.aload_n 0, 1) := by decide +kernel
theorem dX8_addWord_90 : decode cX8_addWord 90 = .ok (.getfield 34, 3) := by decide +kernel
theorem dX8_addWord_93 : decode cX8_addWord 93 = .ok (.iload 4, 2) := by decide +kernel
theorem dX8_addWord_95 : decode cX8_addWord 95 = .ok (.iastore, 1) := by decide +kernel
theorem dX8_addWord_96 : decode cX8_addWord 96 = .ok (.aload_n 0, 1) := by decide +kernel
theorem dX8_addWord_97 : decode cX8_addWord 97 = .ok (.dup, 1) := by decide +kernel
theorem dX8_addWord_98 : decode cX8_addWord 98 = .ok (.getfield 34, 3) := by decide +kernel
theorem dX8_addWord_101 : decode cX8_addWord 101 = .ok (.iconst 1, 1) := by decide +kernel
theorem dX8_addWord_102 : decode cX8_addWord 102 = .ok (.iadd, 1) := by decide +kernel
theorem dX8_addWord_103 : decode cX8_addWord 103 = .ok (.putfield 34, 3) := by decide +kernel
theorem dX8_addWord_106 : decode cX8_addWord 106 = .ok (.iconst 1, 1) := by decide +kernel
theorem dX8_addWord_107 : decode cX8_addWord 107 = .ok (.ireturn, 1) := by decide +kernel
theorem dX8_setLosses_0 : decode cX8_setLosses 0 = .ok (.iload_n 1, 1) := by decide +kernel
theorem dX8_setLosses_1 : decode cX8_setLosses 1 = .ok (.iconst 1, 1) := by decide +kernel
theorem dX8_setLosses_2 : decode cX8_setLosses 2 = .ok (.bipush 9, 2) := by decide +kernel
theorem dX8_setLosses_4 : decode cX8_setLosses 4 = .ok (.invokestatic 43, 3) := by decide +kernel
theorem dX8_setLosses_7 : decode cX8_setLosses 7 = .ok (.ifCond .eq 13, 3) := by decide +kernel
theorem dX8_setLosses_10 : decode cX8_setLosses 10 = .ok (.iload_n 2, 1) := by decide +kernel
theorem dX8_setLosses_11 : decode cX8_setLosses 11 = .ok (.iconst 1, 1) := by decide +kernel
theorem dX8_setLosses_12 : decode cX8_setLosses 12 = .ok (.bipush 9, 2) := by decide +kernel
theorem dX8_setLosses_14 : decode cX8_setLosses 14 = .ok (.invokestatic 43, 3) := by decide +kernel
theorem dX8_setLosses_17 : decode cX8_setLosses 17 = .ok (.ifCond .ne 5, 3) := by decide +kernel
theorem dX8_setLosses_20 : decode cX8_setLosses 20 = .ok (.iconst 0, 1) := by decide +kernel
theorem dX8_setLosses_21 : decode cX8_setLosses 21 = .ok (.ireturn, 1) := by decide +kernel
theorem dX8_setLosses_22 : decode cX8_setLosses 22 = .ok (.aload_n 0, 1) := by decide +kernel
theorem dX8_setLosses_23 : decode cX8_setLosses 23 = .ok (.iload_n 1, 1) := by decide +kernel
theorem dX8_setLosses_24 : decode cX8_setLosses 24 = .ok (.putfield 27, 3) := by decide +kernel
theorem dX8_setLosses_27 : decode cX8_setLosses 27 = .ok (.aload_n 0, 1) := by decide +kernel
theorem dX8_setLosses_28 : decode cX8_setLosses 28 = .ok (.iload_n 2, 1) := by decide +kernel
theorem dX8_setLosses_29 : decode cX8_setLosses 29 = .ok (.putfield 31, 3) := by decide +kernel
theorem dX8_setLosses_32 : decode cX8_setLosses 32 = .ok (.iconst 1, 1) := by decide +kernel
theorem dX8_setLosses_33 : decode cX8_setLosses 33 = .ok (.ireturn, 1) := by decide +kernel
theorem dX8_addCarrier_0 : decode cX8_addCarrier 0 = .ok (.iload_n 1, 1) := by decide +kernel
theorem dX8_addCarrier_1 : decode cX8_addCarrier 1 = .ok (.iconst 0, 1) := by decide +kernel
theorem dX8_addCarrier_2 : decode cX8_addCarrier 2 = .ok (.bipush 9, 2) := by decide +kernel
theorem dX8_addCarrier_4 : decode cX8_addCarrier 4 = .ok (.invokestatic 43, 3) := by decide +kernel
theorem dX8_addCarrier_7 : decode cX8_addCarrier 7 = .ok (.ifCond .eq 25, 3) := by decide +kernel
theorem dX8_addCarrier_10 : decode cX8_addCarrier 10 = .ok (.iload_n 2, 1) := by decide +kernel
theorem dX8_addCarrier_11 : decode cX8_addCarrier 11 = .ok (.iconst 1, 1) := by decide +kernel
theorem dX8_addCarrier_12 : decode cX8_addCarrier 12 = .ok (.bipush 6, 2) := by decide +kernel
theorem dX8_addCarrier_14 : decode cX8_addCarrier 14 = .ok (.invokestatic 43, 3) := by decide +kernel
theorem dX8_addCarrier_17 : decode cX8_addCarrier 17 = .ok (.ifCond .eq 15, 3) := by decide +kernel
theorem dX8_addCarrier_20 : decode cX8_addCarrier 20 = .ok (.aload_n 0, 1) := by decide +kernel
theorem dX8_addCarrier_21 : decode cX8_addCarrier 21 = .ok (.getfield 37, 3) := by decide +kernel
theorem dX8_addCarrier_24 : decode cX8_addCarrier 24 = .ok (.iconst 0, 1) := by decide +kernel
theorem dX8_addCarrier_25 : decode cX8_addCarrier 25 = .ok (.iconst 4, 1) := by decide +kernel
theorem dX8_addCarrier_26 : decode cX8_addCarrier 26 = .ok (.invokestatic 43, 3) := by decide +kernel
theorem dX8_addCarrier_29 : decode cX8_addCarrier 29 = .ok (.ifCond .ne 5, 3) := by decide +kernel
theorem dX8_addCarrier_32 : decode cX8_addCarrier 32 = .ok (.iconst 0, 1) := by decide +kernel
theorem dX8_addCarrier_33 : decode cX8_addCarrier 33 = .ok (.ireturn, 1) := by decide +kernel
theorem dX8_addCarrier_34 : decode cX8_addCarrier 34 = .ok (.aload_n 0, 1) := by decide +kernel
theorem dX8_addCarrier_35 : decode cX8_addCarrier 35 = .ok (.getfield 18, 3) := by decide +kernel
theorem dX8_addCarrier_38 : decode cX8_addCarrier 38 = .ok (.aload_n 0, 1) := by decide +kernel
theorem dX8_addCarrier_39 : decode cX8_addCarrier 39 = .ok (.getfield 37, 3) := by decide +kernel
theorem dX8_addCarrier_42 : decode cX8_addCarrier 42 = .ok (.iload_n 1, 1) := by decide +kernel
theorem dX8_addCarrier_43 : decode cX8_addCarrier 43 = .ok (.iastore, 1) := by decide +kernel
theorem dX8_addCarrier_44 : decode cX8_addCarrier 44 = .ok (.aload_n 0, 1) := by decide +kernel
theorem dX8_addCarrier_45 : decode cX8_addCarrier 45 = .ok (.getfield 21, 3) := by decide +kernel
theorem dX8_addCarrier_48 : decode cX8_addCarrier 48 = .ok (.aload_n 0, 1) := by decide +kernel
theorem dX8_addCarrier_49 : decode cX8_addCarrier 49 = .ok (.getfield 37, 3) := by decide +kernel
theorem dX8_addCarrier_52 : decode cX8_addCarrier 52 = .ok (.iload_n 2, 1) := by decide +kernel
theorem dX8_addCarrier_53 : decode cX8_addCarrier 53 = .ok (.iastore, 1) := by decide +kernel
theorem dX8_addCarrier_54 : decode cX8_addCarrier 54 = .ok (.aload_n 0, 1) := by decide +kernel
theorem dX8_addCarrier_55 : decode cX8_addCarrier 55 = .ok (.dup, 1) := by decide +kernel
theorem dX8_addCarrier_56 : decode cX8_addCarrier 56 = .ok (.getfield 37, 3) := by decide +kernel
theorem dX8_addCarrier_59 : decode cX8_addCarrier 59 = .ok (.iconst 1, 1) := by decide +kernel
theorem dX8_addCarrier_60 : decode cX8_addCarrier 60 = .ok (.iadd, 1) := by decide +kernel
theorem dX8_addCarrier_61 : decode cX8_addCarrier 61 = .ok (.putfield 37, 3) := by decide +kernel
theorem dX8_addCarrier_64 : decode cX8_addCarrier 64 = .ok (.iconst 1, 1) := by decide +kernel
theorem dX8_addCarrier_65 : decode cX8_addCarrier 65 = .ok (.ireturn, 1) := by decide +kernel
theorem dX8_addBaker_0 : decode cX8_addBaker 0 = .ok (.iload_n 1, 1) := by decide +kernel
theorem dX8_addBaker_1 : decode cX8_addBaker 1 = .ok (.iconst 0, 1) := by decide +kernel
theorem dX8_addBaker_2 : decode cX8_addBaker 2 = .ok (.bipush 63, 2) := by decide +kernel
theorem dX8_addBaker_4 : decode cX8_addBaker 4 = .ok (.invokestatic 43, 3) := by decide +kernel
theorem dX8_addBaker_7 : decode cX8_addBaker 7 = .ok (.ifCond .eq 15, 3) := by decide +kernel
theorem dX8_addBaker_10 : decode cX8_addBaker 10 = .ok (.aload_n 0, 1) := by decide +kernel
theorem dX8_addBaker_11 : decode cX8_addBaker 11 = .ok (.getfield 40, 3) := by decide +kernel
theorem dX8_addBaker_14 : decode cX8_addBaker 14 = .ok (.iconst 0, 1) := by decide +kernel
theorem dX8_addBaker_15 : decode cX8_addBaker 15 = .ok (.iconst 4, 1) := by decide +kernel
theorem dX8_addBaker_16 : decode cX8_addBaker 16 = .ok (.invokestatic 43, 3) := by decide +kernel
theorem dX8_addBaker_19 : decode cX8_addBaker 19 = .ok (.ifCond .ne 5, 3) := by decide +kernel
theorem dX8_addBaker_22 : decode cX8_addBaker 22 = .ok (.iconst 0, 1) := by decide +kernel
theorem dX8_addBaker_23 : decode cX8_addBaker 23 = .ok (.ireturn, 1) := by decide +kernel
theorem dX8_addBaker_24 : decode cX8_addBaker 24 = .ok (.aload_n 0, 1) := by decide +kernel
theorem dX8_addBaker_25 : decode cX8_addBaker 25 = .ok (.getfield 24, 3) := by decide +kernel
theorem dX8_addBaker_28 : decode cX8_addBaker 28 = .ok (.aload_n 0, 1) := by decide +kernel
theorem dX8_addBaker_29 : decode cX8_addBaker 29 = .ok (.getfield 40, 3) := by decide +kernel
theorem dX8_addBaker_32 : decode cX8_addBaker 32 = .ok (.iload_n 1, 1) := by decide +kernel
theorem dX8_addBaker_33 : decode cX8_addBaker 33 = .ok (.iastore, 1) := by decide +kernel
theorem dX8_addBaker_34 : decode cX8_addBaker 34 = .ok (.aload_n 0, 1) := by decide +kernel
theorem dX8_addBaker_35 : decode cX8_addBaker 35 = .ok (.dup, 1) := by decide +kernel
theorem dX8_addBaker_36 : decode cX8_addBaker 36 = .ok (.getfield 40, 3) := by decide +kernel
theorem dX8_addBaker_39 : decode cX8_addBaker 39 = .ok (.iconst 1, 1) := by decide +kernel
theorem dX8_addBaker_40 : decode cX8_addBaker 40 = .ok (.iadd, 1) := by decide +kernel
theorem dX8_addBaker_41 : decode cX8_addBaker 41 = .ok (.putfield 40, 3) := by decide +kernel
theorem dX8_addBaker_44 : decode cX8_addBaker 44 = .ok (.iconst 1, 1) := by decide +kernel
theorem dX8_addBaker_45 : decode cX8_addBaker 45 = .ok (.ireturn, 1) := by decide +kernel
theorem dX8_words_0 : decode cX8_words 0 = .ok (.aload_n 0, 1) := by decide +kernel
theorem dX8_words_1 : decode cX8_words 1 = .ok (.getfield 34, 3) := by decide +kernel
theorem dX8_words_4 : decode cX8_words 4 = .ok (.ireturn, 1) := by decide +kernel
theorem dX8_carriers_0 : decode cX8_carriers 0 = .ok (.aload_n 0, 1) := by decide +kernel
theorem dX8_carriers_1 : decode cX8_carriers 1 = .ok (.getfield 37, 3) := by decide +kernel
theorem dX8_carriers_4 : decode cX8_carriers 4 = .ok (.ireturn, 1) := by decide +kernel
theorem dX8_bakers_0 : decode cX8_bakers 0 = .ok (.aload_n 0, 1) := by decide +kernel
theorem dX8_bakers_1 : decode cX8_bakers 1 = .ok (.getfield 40, 3) := by decide +kernel
theorem dX8_bakers_4 : decode cX8_bakers 4 = .ok (.ireturn, 1) := by decide +kernel
theorem dX8_signOf_0 : decode cX8_signOf 0 = .ok (.aload_n 0, 1) := by decide +kernel
theorem dX8_signOf_1 : decode cX8_signOf 1 = .ok (.getfield 11, 3) := by decide +kernel
theorem dX8_signOf_4 : decode cX8_signOf 4 = .ok (.iload_n 1, 1) := by decide +kernel
theorem dX8_signOf_5 : decode cX8_signOf 5 = .ok (.invokestatic 57, 3) := by decide +kernel
theorem dX8_signOf_8 : decode cX8_signOf 8 = .ok (.ireturn, 1) := by decide +kernel
theorem dX8_worthOf_0 : decode cX8_worthOf 0 = .ok (.aload_n 0, 1) := by decide +kernel
theorem dX8_worthOf_1 : decode cX8_worthOf 1 = .ok (.getfield 15, 3) := by decide +kernel
theorem dX8_worthOf_4 : decode cX8_worthOf 4 = .ok (.iload_n 1, 1) := by decide +kernel
theorem dX8_worthOf_5 : decode cX8_worthOf 5 = .ok (.invokestatic 57, 3) := by decide +kernel
theorem dX8_worthOf_8 : decode cX8_worthOf 8 = .ok (.ireturn, 1) := by decide +kernel
theorem dX8_milesOf_0 : decode cX8_milesOf 0 = .ok (.aload_n 0, 1) := by decide +kernel
theorem dX8_milesOf_1 : decode cX8_milesOf 1 = .ok (.getfield 21, 3) := by decide +kernel
theorem dX8_milesOf_4 : decode cX8_milesOf 4 = .ok (.iload_n 1, 1) := by decide +kernel
theorem dX8_milesOf_5 : decode cX8_milesOf 5 = .ok (.invokestatic 57, 3) := by decide +kernel
theorem dX8_milesOf_8 : decode cX8_milesOf 8 = .ok (.ireturn, 1) := by decide +kernel
theorem dX8_readAs_0 : decode cX8_readAs 0 = .ok (.iconst 0, 1) := by decide +kernel
theorem dX8_readAs_1 : decode cX8_readAs 1 = .ok (.istore_n 2, 1) := by decide +kernel
theorem dX8_readAs_2 : decode cX8_readAs 2 = .ok (.iload_n 2, 1) := by decide +kernel
theorem dX8_readAs_3 : decode cX8_readAs 3 = .ok (.aload_n 0, 1) := by decide +kernel
theorem dX8_readAs_4 : decode cX8_readAs 4 = .ok (.getfield 34, 3) := by decide +kernel
theorem dX8_readAs_7 : decode cX8_readAs 7 = .ok (.if_icmp .ge 20, 3) := by decide +kernel
theorem dX8_readAs_10 : decode cX8_readAs 10 = .ok (.aload_n 0, 1) := by decide +kernel
theorem dX8_readAs_11 : decode cX8_readAs 11 = .ok (.iload_n 2, 1) := by decide +kernel
theorem dX8_readAs_12 : decode cX8_readAs 12 = .ok (.invokevirtual 61, 3) := by decide +kernel
theorem dX8_readAs_15 : decode cX8_readAs 15 = .ok (.iload_n 1, 1) := by decide +kernel
theorem dX8_readAs_16 : decode cX8_readAs 16 = .ok (.if_icmp .ne 5, 3) := by decide +kernel
theorem dX8_readAs_19 : decode cX8_readAs 19 = .ok (.iload_n 2, 1) := by decide +kernel
theorem dX8_readAs_20 : decode cX8_readAs 20 = .ok (.ireturn, 1) := by decide +kernel
theorem dX8_readAs_21 : decode cX8_readAs 21 = .ok (.iinc 2 1, 3) := by decide +kernel
theorem dX8_readAs_24 : decode cX8_readAs 24 = .ok (.goto (-22), 3) := by decide +kernel
theorem dX8_readAs_27 : decode cX8_readAs 27 = .ok (.bipush (-4), 2) := by decide +kernel
theorem dX8_readAs_29 : decode cX8_readAs 29 = .ok (.ireturn, 1) := by decide +kernel
theorem dX8_aged_0 : decode cX8_aged 0 = .ok (.aload_n 0, 1) := by decide +kernel
theorem dX8_aged_1 : decode cX8_aged 1 = .ok (.getfield 27, 3) := by decide +kernel
theorem dX8_aged_4 : decode cX8_aged 4 = .ok (.ifCond .le 17, 3) := by decide +kernel
theorem dX8_aged_7 : decode cX8_aged 7 = .ok (.iload_n 1, 1) := by decide +kernel
theorem dX8_aged_8 : decode cX8_aged 8 = .ok (.invokestatic 64, 3) := by decide +kernel
theorem dX8_aged_11 : decode cX8_aged 11 = .ok (.iload_n 2, 1) := by decide +kernel
theorem dX8_aged_12 : decode cX8_aged 12 = .ok (.aload_n 0, 1) := by decide +kernel
theorem dX8_aged_13 : decode cX8_aged 13 = .ok (.getfield 27, 3) := by decide +kernel
theorem dX8_aged_16 : decode cX8_aged 16 = .ok (.idiv, 1) := by decide +kernel
theorem dX8_aged_17 : decode cX8_aged 17 = .ok (.isub, 1) := by decide +kernel
theorem dX8_aged_18 : decode cX8_aged 18 = .ok (.goto 4, 3) := by decide +kernel
theorem dX8_aged_21 : decode cX8_aged 21 = .ok (.iconst 0, 1) := by decide +kernel
theorem dX8_aged_22 : decode cX8_aged 22 = .ok (.istore_n 3, 1) := by decide +kernel
theorem dX8_aged_23 : decode cX8_aged 23 = .ok (.aload_n 0, 1) := by decide +kernel
theorem dX8_aged_24 : decode cX8_aged 24 = .ok (.getfield 31, 3) := by decide +kernel
theorem dX8_aged_27 : decode cX8_aged 27 = .ok (.ifCond .le 17, 3) := by decide +kernel
theorem dX8_aged_30 : decode cX8_aged 30 = .ok (.iload_n 1, 1) := by decide +kernel
theorem dX8_aged_31 : decode cX8_aged 31 = .ok (.invokestatic 67, 3) := by decide +kernel
theorem dX8_aged_34 : decode cX8_aged 34 = .ok (.iload_n 2, 1) := by decide +kernel
theorem dX8_aged_35 : decode cX8_aged 35 = .ok (.aload_n 0, 1) := by decide +kernel
theorem dX8_aged_36 : decode cX8_aged 36 = .ok (.getfield 31, 3) := by decide +kernel
theorem dX8_aged_39 : decode cX8_aged 39 = .ok (.idiv, 1) := by decide +kernel
theorem dX8_aged_40 : decode cX8_aged 40 = .ok (.iadd, 1) := by decide +kernel
theorem dX8_aged_41 : decode cX8_aged 41 = .ok (.goto 4, 3) := by decide +kernel
theorem dX8_aged_44 : decode cX8_aged 44 = .ok (.iconst 0, 1) := by decide +kernel
theorem dX8_aged_45 : decode cX8_aged 45 = .ok (.istore 4, 2) := by decide +kernel
theorem dX8_aged_47 : decode cX8_aged 47 = .ok (.iload_n 3, 1) := by decide +kernel
theorem dX8_aged_48 : decode cX8_aged 48 = .ok (.iconst 0, 1) := by decide +kernel
theorem dX8_aged_49 : decode cX8_aged 49 = .ok (.invokestatic 70, 3) := by decide +kernel
theorem dX8_aged_52 : decode cX8_aged 52 = .ok (.iload 4, 2) := by decide +kernel
theorem dX8_aged_54 : decode cX8_aged 54 = .ok (.iconst 3, 1) := by decide +kernel
theorem dX8_aged_55 : decode cX8_aged 55 = .ok (.invokestatic 76, 3) := by decide +kernel
theorem dX8_aged_58 : decode cX8_aged 58 = .ok (.iload_n 1, 1) := by decide +kernel
theorem dX8_aged_59 : decode cX8_aged 59 = .ok (.invokestatic 79, 3) := by decide +kernel
theorem dX8_aged_62 : decode cX8_aged 62 = .ok (.invokestatic 47, 3) := by decide +kernel
theorem dX8_aged_65 : decode cX8_aged 65 = .ok (.ireturn, 1) := by decide +kernel
theorem dX8_turned_0 : decode cX8_turned 0 = .ok (.aload_n 0, 1) := by decide +kernel
theorem dX8_turned_1 : decode cX8_turned 1 = .ok (.iload_n 1, 1) := by decide +kernel
theorem dX8_turned_2 : decode cX8_turned 2 = .ok (.iload_n 2, 1) := by decide +kernel
theorem dX8_turned_3 : decode cX8_turned 3 = .ok (.invokevirtual 82, 3) := by decide +kernel
theorem dX8_turned_6 : decode cX8_turned 6 = .ok (.istore 4, 2) := by decide +kernel
theorem dX8_turned_8 : decode cX8_turned 8 = .ok (.iconst 0, 1) := by decide +kernel
theorem dX8_turned_9 : decode cX8_turned 9 = .ok (.istore 5, 2) := by decide +kernel
theorem dX8_turned_11 : decode cX8_turned 11 = .ok (.iload 5, 2) := by decide +kernel
theorem dX8_turned_13 : decode cX8_turned 13 = .ok (.iload_n 3, 1) := by decide +kernel
theorem dX8_turned_14 : decode cX8_turned 14 = .ok (.if_icmp .ge 16, 3) := by decide +kernel
theorem dX8_turned_17 : decode cX8_turned 17 = .ok (.iload 4, 2) := by decide +kernel
theorem dX8_turned_19 : decode cX8_turned 19 = .ok (.invokestatic 85, 3) := by decide +kernel
theorem dX8_turned_22 : decode cX8_turned 22 = .ok (.istore 4, 2) := by decide +kernel
theorem dX8_turned_24 : decode cX8_turned 24 = .ok (.iinc 5 1, 3) := by decide +kernel
theorem dX8_turned_27 : decode cX8_turned 27 = .ok (.goto (-16), 3) := by decide +kernel
theorem dX8_turned_30 : decode cX8_turned 30 = .ok (.iload 4, 2) := by decide +kernel
theorem dX8_turned_32 : decode cX8_turned 32 = .ok (.ireturn, 1) := by decide +kernel
theorem dX8_waysRead_0 : decode cX8_waysRead 0 = .ok (.aload_n 0, 1) := by decide +kernel
theorem dX8_waysRead_1 : decode cX8_waysRead 1 = .ok (.iload_n 2, 1) := by decide +kernel
theorem dX8_waysRead_2 : decode cX8_waysRead 2 = .ok (.invokevirtual 88, 3) := by decide +kernel
theorem dX8_waysRead_5 : decode cX8_waysRead 5 = .ok (.istore 4, 2) := by decide +kernel
theorem dX8_waysRead_7 : decode cX8_waysRead 7 = .ok (.aload_n 0, 1) := by decide +kernel
theorem dX8_waysRead_8 : decode cX8_waysRead 8 = .ok (.getfield 18, 3) := by decide +kernel
theorem dX8_waysRead_11 : decode cX8_waysRead 11 = .ok (.iload_n 2, 1) := by decide +kernel
theorem dX8_waysRead_12 : decode cX8_waysRead 12 = .ok (.invokestatic 57, 3) := by decide +kernel
theorem dX8_waysRead_15 : decode cX8_waysRead 15 = .ok (.istore 5, 2) := by decide +kernel
theorem dX8_waysRead_17 : decode cX8_waysRead 17 = .ok (.lconst 0, 1) := by decide +kernel
theorem dX8_waysRead_18 : decode cX8_waysRead 18 = .ok (.lstore 6, 2) := by decide +kernel
theorem dX8_waysRead_20 : decode cX8_waysRead 20 = .ok (.iconst 0, 1) := by decide +kernel
theorem dX8_waysRead_21 : decode cX8_waysRead 21 = .ok (.istore 8, 2) := by decide +kernel
theorem dX8_waysRead_23 : decode cX8_waysRead 23 = .ok (.iload 8, 2) := by decide +kernel
theorem dX8_waysRead_25 : decode cX8_waysRead 25 = .ok (.iload 4, 2) := by decide +kernel
theorem dX8_waysRead_27 : decode cX8_waysRead 27 = .ok (.if_icmp .gt 65, 3) := by decide +kernel
theorem dX8_waysRead_30 : decode cX8_waysRead 30 = .ok (.aload_n 0, 1) := by decide +kernel
theorem dX8_waysRead_31 : decode cX8_waysRead 31 = .ok (.aload_n 0, 1) := by decide +kernel
theorem dX8_waysRead_32 : decode cX8_waysRead 32 = .ok (.iload_n 1, 1) := by decide +kernel
theorem dX8_waysRead_33 : decode cX8_waysRead 33 = .ok (.invokevirtual 61, 3) := by decide +kernel
theorem dX8_waysRead_36 : decode cX8_waysRead 36 = .ok (.iload_n 3, 1) := by decide +kernel
theorem dX8_waysRead_37 : decode cX8_waysRead 37 = .ok (.iload 8, 2) := by decide +kernel
theorem dX8_waysRead_39 : decode cX8_waysRead 39 = .ok (.invokevirtual 91, 3) := by decide +kernel
theorem dX8_waysRead_42 : decode cX8_waysRead 42 = .ok (.aload_n 0, 1) := by decide +kernel
theorem dX8_waysRead_43 : decode cX8_waysRead 43 = .ok (.iload_n 1, 1) := by decide +kernel
theorem dX8_waysRead_44 : decode cX8_waysRead 44 = .ok (.invokevirtual 61, 3) := by decide +kernel
theorem dX8_waysRead_47 : decode cX8_waysRead 47 = .ok (.if_icmp .ne 39, 3) := by decide +kernel
theorem dX8_waysRead_50 : decode cX8_waysRead 50 = .ok (.lload 6, 2) := by decide +kernel
theorem dX8_waysRead_52 : decode cX8_waysRead 52 = .ok (.iload 4, 2) := by decide +kernel
theorem dX8_waysRead_54 : decode cX8_waysRead 54 = .ok (.iload 8, 2) := by decide +kernel
theorem dX8_waysRead_56 : decode cX8_waysRead 56 = .ok (.invokestatic 94, 3) := by decide +kernel
theorem dX8_waysRead_59 : decode cX8_waysRead 59 = .ok (.iload 5, 2) := by decide +kernel
theorem dX8_waysRead_61 : decode cX8_waysRead 61 = .ok (.i2l, 1) := by decide +kernel
theorem dX8_waysRead_62 : decode cX8_waysRead 62 = .ok (.iload 8, 2) := by decide +kernel
theorem dX8_waysRead_64 : decode cX8_waysRead 64 = .ok (.invokestatic 100, 3) := by decide +kernel
theorem dX8_waysRead_67 : decode cX8_waysRead 67 = .ok (.lmul, 1) := by decide +kernel
theorem dX8_waysRead_68 : decode cX8_waysRead 68 = .ok (.bipush 10, 2) := by decide +kernel
theorem dX8_waysRead_70 : decode cX8_waysRead 70 = .ok (.iload 5, 2) := by decide +kernel
theorem dX8_waysRead_72 : decode cX8_waysRead 72 = .ok (.isub, 1) := by decide +kernel
theorem dX8_waysRead_73 : decode cX8_waysRead 73 = .ok (.i2l, 1) := by decide +kernel
theorem dX8_waysRead_74 : decode cX8_waysRead 74 = .ok (.iload 4, 2) := by decide +kernel
theorem dX8_waysRead_76 : decode cX8_waysRead 76 = .ok (.iload 8, 2) := by decide +kernel
theorem dX8_waysRead_78 : decode cX8_waysRead 78 = .ok (.isub, 1) := by decide +kernel
theorem dX8_waysRead_79 : decode cX8_waysRead 79 = .ok (.invokestatic 100, 3) := by decide +kernel
theorem dX8_waysRead_82 : decode cX8_waysRead 82 = .ok (.lmul, 1) := by decide +kernel
theorem dX8_waysRead_83 : decode cX8_waysRead 83 = .ok (.ladd, 1) := by decide +kernel
theorem dX8_waysRead_84 : decode cX8_waysRead 84 = .ok (.lstore 6, 2) := by decide +kernel
theorem dX8_waysRead_86 : decode cX8_waysRead 86 = .ok (.iinc 8 1, 3) := by decide +kernel
theorem dX8_waysRead_89 : decode cX8_waysRead 89 = .ok (.goto (-66), 3) := by decide +kernel
theorem dX8_waysRead_92 : decode cX8_waysRead 92 = .ok (.lload 6, 2) := by decide +kernel
theorem dX8_waysRead_94 : decode cX8_waysRead 94 = .ok (.lreturn, 1) := by decide +kernel
theorem dX8_worthOfSet_0 : decode cX8_worthOfSet 0 = .ok (.iconst 0, 1) := by decide +kernel
theorem dX8_worthOfSet_1 : decode cX8_worthOfSet 1 = .ok (.istore_n 2, 1) := by decide +kernel
theorem dX8_worthOfSet_2 : decode cX8_worthOfSet 2 = .ok (.iconst 0, 1) := by decide +kernel
theorem dX8_worthOfSet_3 : decode cX8_worthOfSet 3 = .ok (.istore_n 3, 1) := by decide +kernel
theorem dX8_worthOfSet_4 : decode cX8_worthOfSet 4 = .ok (.iload_n 3, 1) := by decide +kernel
theorem dX8_worthOfSet_5 : decode cX8_worthOfSet 5 = .ok (.aload_n 0, 1) := by decide +kernel
theorem dX8_worthOfSet_6 : decode cX8_worthOfSet 6 = .ok (.getfield 34, 3) := by decide +kernel
theorem dX8_worthOfSet_9 : decode cX8_worthOfSet 9 = .ok (.if_icmp .ge 23, 3) := by decide +kernel
theorem dX8_worthOfSet_12 : decode cX8_worthOfSet 12 = .ok (.iload_n 2, 1) := by decide +kernel
theorem dX8_worthOfSet_13 : decode cX8_worthOfSet 13 = .ok (.iload_n 1, 1) := by decide +kernel
theorem dX8_worthOfSet_14 : decode cX8_worthOfSet 14 = .ok (.iload_n 3, 1) := by decide +kernel
theorem dX8_worthOfSet_15 : decode cX8_worthOfSet 15 = .ok (.ishr, 1) := by decide +kernel
theorem dX8_worthOfSet_16 : decode cX8_worthOfSet 16 = .ok (.iconst 1, 1) := by decide +kernel
theorem dX8_worthOfSet_17 : decode cX8_worthOfSet 17 = .ok (.iand, 1) := by decide +kernel
theorem dX8_worthOfSet_18 : decode cX8_worthOfSet 18 = .ok (.aload_n 0, 1) := by decide +kernel
theorem dX8_worthOfSet_19 : decode cX8_worthOfSet 19 = .ok (.iload_n 3, 1) := by decide +kernel
theorem dX8_worthOfSet_20 : decode cX8_worthOfSet 20 = .ok (.invokevirtual 104, 3) := by decide +kernel
theorem dX8_worthOfSet_23 : decode cX8_worthOfSet 23 = .ok (.imul, 1) := by decide +kernel
theorem dX8_worthOfSet_24 : decode cX8_worthOfSet 24 = .ok (.iadd, 1) := by decide +kernel
theorem dX8_worthOfSet_25 : decode cX8_worthOfSet 25 = .ok (.istore_n 2, 1) := by decide +kernel
theorem dX8_worthOfSet_26 : decode cX8_worthOfSet 26 = .ok (.iinc 3 1, 3) := by decide +kernel
theorem dX8_worthOfSet_29 : decode cX8_worthOfSet 29 = .ok (.goto (-25), 3) := by decide +kernel
theorem dX8_worthOfSet_32 : decode cX8_worthOfSet 32 = .ok (.iload_n 2, 1) := by decide +kernel
theorem dX8_worthOfSet_33 : decode cX8_worthOfSet 33 = .ok (.ireturn, 1) := by decide +kernel
theorem dX8_flourOfSet_0 : decode cX8_flourOfSet 0 = .ok (.iconst 0, 1) := by decide +kernel
theorem dX8_flourOfSet_1 : decode cX8_flourOfSet 1 = .ok (.istore_n 2, 1) := by decide +kernel
theorem dX8_flourOfSet_2 : decode cX8_flourOfSet 2 = .ok (.iconst 0, 1) := by decide +kernel
theorem dX8_flourOfSet_3 : decode cX8_flourOfSet 3 = .ok (.istore_n 3, 1) := by decide +kernel
theorem dX8_flourOfSet_4 : decode cX8_flourOfSet 4 = .ok (.iload_n 3, 1) := by decide +kernel
theorem dX8_flourOfSet_5 : decode cX8_flourOfSet 5 = .ok (.aload_n 0, 1) := by decide +kernel
theorem dX8_flourOfSet_6 : decode cX8_flourOfSet 6 = .ok (.getfield 34, 3) := by decide +kernel
theorem dX8_flourOfSet_9 : decode cX8_flourOfSet 9 = .ok (.if_icmp .ge 26, 3) := by decide +kernel
theorem dX8_flourOfSet_12 : decode cX8_flourOfSet 12 = .ok (.iload_n 2, 1) := by decide +kernel
theorem dX8_flourOfSet_13 : decode cX8_flourOfSet 13 = .ok (.iload_n 1, 1) := by decide +kernel
theorem dX8_flourOfSet_14 : decode cX8_flourOfSet 14 = .ok (.iload_n 3, 1) := by decide +kernel
theorem dX8_flourOfSet_15 : decode cX8_flourOfSet 15 = .ok (.ishr, 1) := by decide +kernel
theorem dX8_flourOfSet_16 : decode cX8_flourOfSet 16 = .ok (.iconst 1, 1) := by decide +kernel
theorem dX8_flourOfSet_17 : decode cX8_flourOfSet 17 = .ok (.iand, 1) := by decide +kernel
theorem dX8_flourOfSet_18 : decode cX8_flourOfSet 18 = .ok (.aload_n 0, 1) := by decide +kernel
theorem dX8_flourOfSet_19 : decode cX8_flourOfSet 19 = .ok (.iload_n 3, 1) := by decide +kernel
theorem dX8_flourOfSet_20 : decode cX8_flourOfSet 20 = .ok (.invokevirtual 61, 3) := by decide +kernel
theorem dX8_flourOfSet_23 : decode cX8_flourOfSet 23 = .ok (.invokestatic 107, 3) := by decide +kernel
theorem dX8_flourOfSet_26 : decode cX8_flourOfSet 26 = .ok (.imul, 1) := by decide +kernel
theorem dX8_flourOfSet_27 : decode cX8_flourOfSet 27 = .ok (.iadd, 1) := by decide +kernel
theorem dX8_flourOfSet_28 : decode cX8_flourOfSet 28 = .ok (.istore_n 2, 1) := by decide +kernel
theorem dX8_flourOfSet_29 : decode cX8_flourOfSet 29 = .ok (.iinc 3 1, 3) := by decide +kernel
theorem dX8_flourOfSet_32 : decode cX8_flourOfSet 32 = .ok (.goto (-28), 3) := by decide +kernel
theorem dX8_flourOfSet_35 : decode cX8_flourOfSet 35 = .ok (.iload_n 2, 1) := by decide +kernel
theorem dX8_flourOfSet_36 : decode cX8_flourOfSet 36 = .ok (.ireturn, 1) := by decide +kernel
theorem dX8_bakersKnowing_0 : decode cX8_bakersKnowing 0 = .ok (.iconst 0, 1) := by decide +kernel
theorem dX8_bakersKnowing_1 : decode cX8_bakersKnowing 1 = .ok (.istore_n 2, 1) := by decide +kernel
theorem dX8_bakersKnowing_2 : decode cX8_bakersKnowing 2 = .ok (.iconst 0, 1) := by decide +kernel
theorem dX8_bakersKnowing_3 : decode cX8_bakersKnowing 3 = .ok (.istore_n 3, 1) := by decide +kernel
theorem dX8_bakersKnowing_4 : decode cX8_bakersKnowing 4 = .ok (.iload_n 3, 1) := by decide +kernel
theorem dX8_bakersKnowing_5 : decode cX8_bakersKnowing 5 = .ok (.aload_n 0, 1) := by decide +kernel
theorem dX8_bakersKnowing_6 : decode cX8_bakersKnowing 6 = .ok (.getfield 40, 3) := by decide +kernel
theorem dX8_bakersKnowing_9 : decode cX8_bakersKnowing 9 = .ok (.if_icmp .ge 29, 3) := by decide +kernel
theorem dX8_bakersKnowing_12 : decode cX8_bakersKnowing 12 = .ok (.aload_n 0, 1) := by decide +kernel
theorem dX8_bakersKnowing_13 : decode cX8_bakersKnowing 13 = .ok (.getfield 24, 3) := by decide +kernel
theorem dX8_bakersKnowing_16 : decode cX8_bakersKnowing 16 = .ok (.iload_n 3, 1) := by decide +kernel
theorem dX8_bakersKnowing_17 : decode cX8_bakersKnowing 17 = .ok (.invokestatic 57, 3) := by decide +kernel
theorem dX8_bakersKnowing_20 : decode cX8_bakersKnowing 20 = .ok (.iload_n 1, 1) := by decide +kernel
theorem dX8_bakersKnowing_21 : decode cX8_bakersKnowing 21 = .ok (.iand, 1) := by decide +kernel
theorem dX8_bakersKnowing_22 : decode cX8_bakersKnowing 22 = .ok (.iload_n 1, 1) := by decide +kernel
theorem dX8_bakersKnowing_23 : decode cX8_bakersKnowing 23 = .ok (.if_icmp .ne 9, 3) := by decide +kernel
theorem dX8_bakersKnowing_26 : decode cX8_bakersKnowing 26 = .ok (.iload_n 2, 1) := by decide +kernel
theorem dX8_bakersKnowing_27 : decode cX8_bakersKnowing 27 = .ok (.iconst 1, 1) := by decide +kernel
theorem dX8_bakersKnowing_28 : decode cX8_bakersKnowing 28 = .ok (.iload_n 3, 1) := by decide +kernel
theorem dX8_bakersKnowing_29 : decode cX8_bakersKnowing 29 = .ok (.ishl, 1) := by decide +kernel
theorem dX8_bakersKnowing_30 : decode cX8_bakersKnowing 30 = .ok (.ior, 1) := by decide +kernel
theorem dX8_bakersKnowing_31 : decode cX8_bakersKnowing 31 = .ok (.istore_n 2, 1) := by decide +kernel
theorem dX8_bakersKnowing_32 : decode cX8_bakersKnowing 32 = .ok (.iinc 3 1, 3) := by decide +kernel
theorem dX8_bakersKnowing_35 : decode cX8_bakersKnowing 35 = .ok (.goto (-31), 3) := by decide +kernel
theorem dX8_bakersKnowing_38 : decode cX8_bakersKnowing 38 = .ok (.iload_n 2, 1) := by decide +kernel
theorem dX8_bakersKnowing_39 : decode cX8_bakersKnowing 39 = .ok (.ireturn, 1) := by decide +kernel
theorem dJ6_numberOfTrailingZeros_0f7a4_0 : decode cJ6_numberOfTrailingZeros_0f7a4 0 = .ok (.iload_n 0, 1) := by decide +kernel
theorem dJ6_numberOfTrailingZeros_0f7a4_1 : decode cJ6_numberOfTrailingZeros_0f7a4 1 = .ok (.iconst (-1), 1) := by decide +kernel
theorem dJ6_numberOfTrailingZeros_0f7a4_2 : decode cJ6_numberOfTrailingZeros_0f7a4 2 = .ok (.ixor, 1) := by decide +kernel
theorem dJ6_numberOfTrailingZeros_0f7a4_3 : decode cJ6_numberOfTrailingZeros_0f7a4 3 = .ok (.iload_n 0, 1) := by decide +kernel
theorem dJ6_numberOfTrailingZeros_0f7a4_4 : decode cJ6_numberOfTrailingZeros_0f7a4 4 = .ok (.iconst 1, 1) := by decide +kernel
theorem dJ6_numberOfTrailingZeros_0f7a4_5 : decode cJ6_numberOfTrailingZeros_0f7a4 5 = .ok (.isub, 1) := by decide +kernel
theorem dJ6_numberOfTrailingZeros_0f7a4_6 : decode cJ6_numberOfTrailingZeros_0f7a4 6 = .ok (.iand, 1) := by decide +kernel
theorem dJ6_numberOfTrailingZeros_0f7a4_7 : decode cJ6_numberOfTrailingZeros_0f7a4 7 = .ok (.istore_n 0, 1) := by decide +kernel
theorem dJ6_numberOfTrailingZeros_0f7a4_8 : decode cJ6_numberOfTrailingZeros_0f7a4 8 = .ok (.iload_n 0, 1) := by decide +kernel
theorem dJ6_numberOfTrailingZeros_0f7a4_9 : decode cJ6_numberOfTrailingZeros_0f7a4 9 = .ok (.ifCond .gt 8, 3) := by decide +kernel
theorem dJ6_numberOfTrailingZeros_0f7a4_12 : decode cJ6_numberOfTrailingZeros_0f7a4 12 = .ok (.iload_n 0, 1) := by decide +kernel
theorem dJ6_numberOfTrailingZeros_0f7a4_13 : decode cJ6_numberOfTrailingZeros_0f7a4 13 = .ok (.bipush 32, 2) := by decide +kernel
theorem dJ6_numberOfTrailingZeros_0f7a4_15 : decode cJ6_numberOfTrailingZeros_0f7a4 15 = .ok (.iand, 1) := by decide +kernel
theorem dJ6_numberOfTrailingZeros_0f7a4_16 : decode cJ6_numberOfTrailingZeros_0f7a4 16 = .ok (.ireturn, 1) := by decide +kernel
theorem dJ6_numberOfTrailingZeros_0f7a4_17 : decode cJ6_numberOfTrailingZeros_0f7a4 17 = .ok (.iconst 1, 1) := by decide +kernel
theorem dJ6_numberOfTrailingZeros_0f7a4_18 : decode cJ6_numberOfTrailingZeros_0f7a4 18 = .ok (.istore_n 1, 1) := by decide +kernel
theorem dJ6_numberOfTrailingZeros_0f7a4_19 : decode cJ6_numberOfTrailingZeros_0f7a4 19 = .ok (.iload_n 0, 1) := by decide +kernel
theorem dJ6_numberOfTrailingZeros_0f7a4_20 : decode cJ6_numberOfTrailingZeros_0f7a4 20 = .ok (.ldc_w 264, 3) := by decide +kernel
theorem dJ6_numberOfTrailingZeros_0f7a4_23 : decode cJ6_numberOfTrailingZeros_0f7a4 23 = .ok (.if_icmp .le 11, 3) := by decide +kernel
theorem dJ6_numberOfTrailingZeros_0f7a4_26 : decode cJ6_numberOfTrailingZeros_0f7a4 26 = .ok (.iinc 1 16, 3) := by decide +kernel
theorem dJ6_numberOfTrailingZeros_0f7a4_29 : decode cJ6_numberOfTrailingZeros_0f7a4 29 = .ok (.iload_n 0, 1) := by decide +kernel
theorem dJ6_numberOfTrailingZeros_0f7a4_30 : decode cJ6_numberOfTrailingZeros_0f7a4 30 = .ok (.bipush 16, 2) := by decide +kernel
theorem dJ6_numberOfTrailingZeros_0f7a4_32 : decode cJ6_numberOfTrailingZeros_0f7a4 32 = .ok (.iushr, 1) := by decide +kernel
theorem dJ6_numberOfTrailingZeros_0f7a4_33 : decode cJ6_numberOfTrailingZeros_0f7a4 33 = .ok (.istore_n 0, 1) := by decide +kernel
theorem dJ6_numberOfTrailingZeros_0f7a4_34 : decode cJ6_numberOfTrailingZeros_0f7a4 34 = .ok (.iload_n 0, 1) := by decide +kernel
theorem dJ6_numberOfTrailingZeros_0f7a4_35 : decode cJ6_numberOfTrailingZeros_0f7a4 35 = .ok (.sipush 256, 3) := by decide +kernel
theorem dJ6_numberOfTrailingZeros_0f7a4_38 : decode cJ6_numberOfTrailingZeros_0f7a4 38 = .ok (.if_icmp .le 11, 3) := by decide +kernel
theorem dJ6_numberOfTrailingZeros_0f7a4_41 : decode cJ6_numberOfTrailingZeros_0f7a4 41 = .ok (.iinc 1 8, 3) := by decide +kernel
theorem dJ6_numberOfTrailingZeros_0f7a4_44 : decode cJ6_numberOfTrailingZeros_0f7a4 44 = .ok (.iload_n 0, 1) := by decide +kernel
theorem dJ6_numberOfTrailingZeros_0f7a4_45 : decode cJ6_numberOfTrailingZeros_0f7a4 45 = .ok (.bipush 8, 2) := by decide +kernel
theorem dJ6_numberOfTrailingZeros_0f7a4_47 : decode cJ6_numberOfTrailingZeros_0f7a4 47 = .ok (.iushr, 1) := by decide +kernel
theorem dJ6_numberOfTrailingZeros_0f7a4_48 : decode cJ6_numberOfTrailingZeros_0f7a4 48 = .ok (.istore_n 0, 1) := by decide +kernel
theorem dJ6_numberOfTrailingZeros_0f7a4_49 : decode cJ6_numberOfTrailingZeros_0f7a4 49 = .ok (.iload_n 0, 1) := by decide +kernel
theorem dJ6_numberOfTrailingZeros_0f7a4_50 : decode cJ6_numberOfTrailingZeros_0f7a4 50 = .ok (.bipush 16, 2) := by decide +kernel
theorem dJ6_numberOfTrailingZeros_0f7a4_52 : decode cJ6_numberOfTrailingZeros_0f7a4 52 = .ok (.if_icmp .le 10, 3) := by decide +kernel
theorem dJ6_numberOfTrailingZeros_0f7a4_55 : decode cJ6_numberOfTrailingZeros_0f7a4 55 = .ok (.iinc 1 4, 3) := by decide +kernel
theorem dJ6_numberOfTrailingZeros_0f7a4_58 : decode cJ6_numberOfTrailingZeros_0f7a4 58 = .ok (.iload_n 0, 1) := by decide +kernel
theorem dJ6_numberOfTrailingZeros_0f7a4_59 : decode cJ6_numberOfTrailingZeros_0f7a4 59 = .ok (.iconst 4, 1) := by decide +kernel
theorem dJ6_numberOfTrailingZeros_0f7a4_60 : decode cJ6_numberOfTrailingZeros_0f7a4 60 = .ok (.iushr, 1) := by decide +kernel
theorem dJ6_numberOfTrailingZeros_0f7a4_61 : decode cJ6_numberOfTrailingZeros_0f7a4 61 = .ok (.istore_n 0, 1) := by decide +kernel
theorem dJ6_numberOfTrailingZeros_0f7a4_62 : decode cJ6_numberOfTrailingZeros_0f7a4 62 = .ok (.iload_n 0, 1) := by decide +kernel
theorem dJ6_numberOfTrailingZeros_0f7a4_63 : decode cJ6_numberOfTrailingZeros_0f7a4 63 = .ok (.iconst 4, 1) := by decide +kernel
theorem dJ6_numberOfTrailingZeros_0f7a4_64 : decode cJ6_numberOfTrailingZeros_0f7a4 64 = .ok (.if_icmp .le 10, 3) := by decide +kernel
theorem dJ6_numberOfTrailingZeros_0f7a4_67 : decode cJ6_numberOfTrailingZeros_0f7a4 67 = .ok (.iinc 1 2, 3) := by decide +kernel
theorem dJ6_numberOfTrailingZeros_0f7a4_70 : decode cJ6_numberOfTrailingZeros_0f7a4 70 = .ok (.iload_n 0, 1) := by decide +kernel
theorem dJ6_numberOfTrailingZeros_0f7a4_71 : decode cJ6_numberOfTrailingZeros_0f7a4 71 = .ok (.iconst 2, 1) := by decide +kernel
theorem dJ6_numberOfTrailingZeros_0f7a4_72 : decode cJ6_numberOfTrailingZeros_0f7a4 72 = .ok (.iushr, 1) := by decide +kernel
theorem dJ6_numberOfTrailingZeros_0f7a4_73 : decode cJ6_numberOfTrailingZeros_0f7a4 73 = .ok (.istore_n 0, 1) := by decide +kernel
theorem dJ6_numberOfTrailingZeros_0f7a4_74 : decode cJ6_numberOfTrailingZeros_0f7a4 74 = .ok (.iload_n 1, 1) := by decide +kernel
theorem dJ6_numberOfTrailingZeros_0f7a4_75 : decode cJ6_numberOfTrailingZeros_0f7a4 75 = .ok (.iload_n 0, 1) := by decide +kernel
theorem dJ6_numberOfTrailingZeros_0f7a4_76 : decode cJ6_numberOfTrailingZeros_0f7a4 76 = .ok (.iconst 1, 1) := by decide +kernel
theorem dJ6_numberOfTrailingZeros_0f7a4_77 : decode cJ6_numberOfTrailingZeros_0f7a4 77 = .ok (.iushr, 1) := by decide +kernel
theorem dJ6_numberOfTrailingZeros_0f7a4_78 : decode cJ6_numberOfTrailingZeros_0f7a4 78 = .ok (.iadd, 1) := by decide +kernel
theorem dJ6_numberOfTrailingZeros_0f7a4_79 : decode cJ6_numberOfTrailingZeros_0f7a4 79 = .ok (.ireturn, 1) := by decide +kernel
theorem dJ6_bitCount_0f7a4_0 : decode cJ6_bitCount_0f7a4 0 = .ok (.iload_n 0, 1) := by decide +kernel
theorem dJ6_bitCount_0f7a4_1 : decode cJ6_bitCount_0f7a4 1 = .ok (.iload_n 0, 1) := by decide +kernel
theorem dJ6_bitCount_0f7a4_2 : decode cJ6_bitCount_0f7a4 2 = .ok (.iconst 1, 1) := by decide +kernel
theorem dJ6_bitCount_0f7a4_3 : decode cJ6_bitCount_0f7a4 3 = .ok (.iushr, 1) := by decide +kernel
theorem dJ6_bitCount_0f7a4_4 : decode cJ6_bitCount_0f7a4 4 = .ok (.ldc_w 265, 3) := by decide +kernel
theorem dJ6_bitCount_0f7a4_7 : decode cJ6_bitCount_0f7a4 7 = .ok (.iand, 1) := by decide +kernel
theorem dJ6_bitCount_0f7a4_8 : decode cJ6_bitCount_0f7a4 8 = .ok (.isub, 1) := by decide +kernel
theorem dJ6_bitCount_0f7a4_9 : decode cJ6_bitCount_0f7a4 9 = .ok (.istore_n 0, 1) := by decide +kernel
theorem dJ6_bitCount_0f7a4_10 : decode cJ6_bitCount_0f7a4 10 = .ok (.iload_n 0, 1) := by decide +kernel
theorem dJ6_bitCount_0f7a4_11 : decode cJ6_bitCount_0f7a4 11 = .ok (.ldc_w 266, 3) := by decide +kernel
theorem dJ6_bitCount_0f7a4_14 : decode cJ6_bitCount_0f7a4 14 = .ok (.iand, 1) := by decide +kernel
theorem dJ6_bitCount_0f7a4_15 : decode cJ6_bitCount_0f7a4 15 = .ok (.iload_n 0, 1) := by decide +kernel
theorem dJ6_bitCount_0f7a4_16 : decode cJ6_bitCount_0f7a4 16 = .ok (.iconst 2, 1) := by decide +kernel
theorem dJ6_bitCount_0f7a4_17 : decode cJ6_bitCount_0f7a4 17 = .ok (.iushr, 1) := by decide +kernel
theorem dJ6_bitCount_0f7a4_18 : decode cJ6_bitCount_0f7a4 18 = .ok (.ldc_w 266, 3) := by decide +kernel
theorem dJ6_bitCount_0f7a4_21 : decode cJ6_bitCount_0f7a4 21 = .ok (.iand, 1) := by decide +kernel
theorem dJ6_bitCount_0f7a4_22 : decode cJ6_bitCount_0f7a4 22 = .ok (.iadd, 1) := by decide +kernel
theorem dJ6_bitCount_0f7a4_23 : decode cJ6_bitCount_0f7a4 23 = .ok (.istore_n 0, 1) := by decide +kernel
theorem dJ6_bitCount_0f7a4_24 : decode cJ6_bitCount_0f7a4 24 = .ok (.iload_n 0, 1) := by decide +kernel
theorem dJ6_bitCount_0f7a4_25 : decode cJ6_bitCount_0f7a4 25 = .ok (.iload_n 0, 1) := by decide +kernel
theorem dJ6_bitCount_0f7a4_26 : decode cJ6_bitCount_0f7a4 26 = .ok (.iconst 4, 1) := by decide +kernel
theorem dJ6_bitCount_0f7a4_27 : decode cJ6_bitCount_0f7a4 27 = .ok (.iushr, 1) := by decide +kernel
theorem dJ6_bitCount_0f7a4_28 : decode cJ6_bitCount_0f7a4 28 = .ok (.iadd, 1) := by decide +kernel
theorem dJ6_bitCount_0f7a4_29 : decode cJ6_bitCount_0f7a4 29 = .ok (.ldc_w 267, 3) := by decide +kernel
theorem dJ6_bitCount_0f7a4_32 : decode cJ6_bitCount_0f7a4 32 = .ok (.iand, 1) := by decide +kernel
theorem dJ6_bitCount_0f7a4_33 : decode cJ6_bitCount_0f7a4 33 = .ok (.istore_n 0, 1) := by decide +kernel
theorem dJ6_bitCount_0f7a4_34 : decode cJ6_bitCount_0f7a4 34 = .ok (.iload_n 0, 1) := by decide +kernel
theorem dJ6_bitCount_0f7a4_35 : decode cJ6_bitCount_0f7a4 35 = .ok (.iload_n 0, 1) := by decide +kernel
theorem dJ6_bitCount_0f7a4_36 : decode cJ6_bitCount_0f7a4 36 = .ok (.bipush 8, 2) := by decide +kernel
theorem dJ6_bitCount_0f7a4_38 : decode cJ6_bitCount_0f7a4 38 = .ok (.iushr, 1) := by decide +kernel
theorem dJ6_bitCount_0f7a4_39 : decode cJ6_bitCount_0f7a4 39 = .ok (.iadd, 1) := by decide +kernel
theorem dJ6_bitCount_0f7a4_40 : decode cJ6_bitCount_0f7a4 40 = .ok (.istore_n 0, 1) := by decide +kernel
theorem dJ6_bitCount_0f7a4_41 : decode cJ6_bitCount_0f7a4 41 = .ok (.iload_n 0, 1) := by decide +kernel
theorem dJ6_bitCount_0f7a4_42 : decode cJ6_bitCount_0f7a4 42 = .ok (.iload_n 0, 1) := by decide +kernel
theorem dJ6_bitCount_0f7a4_43 : decode cJ6_bitCount_0f7a4 43 = .ok (.bipush 16, 2) := by decide +kernel
theorem dJ6_bitCount_0f7a4_45 : decode cJ6_bitCount_0f7a4 45 = .ok (.iushr, 1) := by decide +kernel
theorem dJ6_bitCount_0f7a4_46 : decode cJ6_bitCount_0f7a4 46 = .ok (.iadd, 1) := by decide +kernel
theorem dJ6_bitCount_0f7a4_47 : decode cJ6_bitCount_0f7a4 47 = .ok (.istore_n 0, 1) := by decide +kernel
theorem dJ6_bitCount_0f7a4_48 : decode cJ6_bitCount_0f7a4 48 = .ok (.iload_n 0, 1) := by decide +kernel
theorem dJ6_bitCount_0f7a4_49 : decode cJ6_bitCount_0f7a4 49 = .ok (.bipush 63, 2) := by decide +kernel
theorem dJ6_bitCount_0f7a4_51 : decode cJ6_bitCount_0f7a4 51 = .ok (.iand, 1) := by decide +kernel
theorem dJ6_bitCount_0f7a4_52 : decode cJ6_bitCount_0f7a4 52 = .ok (.ireturn, 1) := by decide +kernel
theorem dJ13_bitCount_95d88_0 : decode cJ13_bitCount_95d88 0 = .ok (.lload_n 0, 1) := by decide +kernel
theorem dJ13_bitCount_95d88_1 : decode cJ13_bitCount_95d88 1 = .ok (.lload_n 0, 1) := by decide +kernel
theorem dJ13_bitCount_95d88_2 : decode cJ13_bitCount_95d88 2 = .ok (.iconst 1, 1) := by decide +kernel
theorem dJ13_bitCount_95d88_3 : decode cJ13_bitCount_95d88 3 = .ok (.lushr, 1) := by decide +kernel
theorem dJ13_bitCount_95d88_4 : decode cJ13_bitCount_95d88 4 = .ok (.ldc2_w 314, 3) := by decide +kernel
theorem dJ13_bitCount_95d88_7 : decode cJ13_bitCount_95d88 7 = .ok (.land, 1) := by decide +kernel
theorem dJ13_bitCount_95d88_8 : decode cJ13_bitCount_95d88 8 = .ok (.lsub, 1) := by decide +kernel
theorem dJ13_bitCount_95d88_9 : decode cJ13_bitCount_95d88 9 = .ok (.lstore_n 0, 1) := by decide +kernel
theorem dJ13_bitCount_95d88_10 : decode cJ13_bitCount_95d88 10 = .ok (.lload_n 0, 1) := by decide +kernel
theorem dJ13_bitCount_95d88_11 : decode cJ13_bitCount_95d88 11 = .ok (.ldc2_w 316, 3) := by decide +kernel
theorem dJ13_bitCount_95d88_14 : decode cJ13_bitCount_95d88 14 = .ok (.land, 1) := by decide +kernel
theorem dJ13_bitCount_95d88_15 : decode cJ13_bitCount_95d88 15 = .ok (.lload_n 0, 1) := by decide +kernel
theorem dJ13_bitCount_95d88_16 : decode cJ13_bitCount_95d88 16 = .ok (.iconst 2, 1) := by decide +kernel
theorem dJ13_bitCount_95d88_17 : decode cJ13_bitCount_95d88 17 = .ok (.lushr, 1) := by decide +kernel
theorem dJ13_bitCount_95d88_18 : decode cJ13_bitCount_95d88 18 = .ok (.ldc2_w 316, 3) := by decide +kernel
theorem dJ13_bitCount_95d88_21 : decode cJ13_bitCount_95d88 21 = .ok (.land, 1) := by decide +kernel
theorem dJ13_bitCount_95d88_22 : decode cJ13_bitCount_95d88 22 = .ok (.ladd, 1) := by decide +kernel
theorem dJ13_bitCount_95d88_23 : decode cJ13_bitCount_95d88 23 = .ok (.lstore_n 0, 1) := by decide +kernel
theorem dJ13_bitCount_95d88_24 : decode cJ13_bitCount_95d88 24 = .ok (.lload_n 0, 1) := by decide +kernel
theorem dJ13_bitCount_95d88_25 : decode cJ13_bitCount_95d88 25 = .ok (.lload_n 0, 1) := by decide +kernel
theorem dJ13_bitCount_95d88_26 : decode cJ13_bitCount_95d88 26 = .ok (.iconst 4, 1) := by decide +kernel
theorem dJ13_bitCount_95d88_27 : decode cJ13_bitCount_95d88 27 = .ok (.lushr, 1) := by decide +kernel
theorem dJ13_bitCount_95d88_28 : decode cJ13_bitCount_95d88 28 = .ok (.ladd, 1) := by decide +kernel
theorem dJ13_bitCount_95d88_29 : decode cJ13_bitCount_95d88 29 = .ok (.ldc2_w 318, 3) := by decide +kernel
theorem dJ13_bitCount_95d88_32 : decode cJ13_bitCount_95d88 32 = .ok (.land, 1) := by decide +kernel
theorem dJ13_bitCount_95d88_33 : decode cJ13_bitCount_95d88 33 = .ok (.lstore_n 0, 1) := by decide +kernel
theorem dJ13_bitCount_95d88_34 : decode cJ13_bitCount_95d88 34 = .ok (.lload_n 0, 1) := by decide +kernel
theorem dJ13_bitCount_95d88_35 : decode cJ13_bitCount_95d88 35 = .ok (.lload_n 0, 1) := by decide +kernel
theorem dJ13_bitCount_95d88_36 : decode cJ13_bitCount_95d88 36 = .ok (.bipush 8, 2) := by decide +kernel
theorem dJ13_bitCount_95d88_38 : decode cJ13_bitCount_95d88 38 = .ok (.lushr, 1) := by decide +kernel
theorem dJ13_bitCount_95d88_39 : decode cJ13_bitCount_95d88 39 = .ok (.ladd, 1) := by decide +kernel
theorem dJ13_bitCount_95d88_40 : decode cJ13_bitCount_95d88 40 = .ok (.lstore_n 0, 1) := by decide +kernel
theorem dJ13_bitCount_95d88_41 : decode cJ13_bitCount_95d88 41 = .ok (.lload_n 0, 1) := by decide +kernel
theorem dJ13_bitCount_95d88_42 : decode cJ13_bitCount_95d88 42 = .ok (.lload_n 0, 1) := by decide +kernel
theorem dJ13_bitCount_95d88_43 : decode cJ13_bitCount_95d88 43 = .ok (.bipush 16, 2) := by decide +kernel
theorem dJ13_bitCount_95d88_45 : decode cJ13_bitCount_95d88 45 = .ok (.lushr, 1) := by decide +kernel
theorem dJ13_bitCount_95d88_46 : decode cJ13_bitCount_95d88 46 = .ok (.ladd, 1) := by decide +kernel
theorem dJ13_bitCount_95d88_47 : decode cJ13_bitCount_95d88 47 = .ok (.lstore_n 0, 1) := by decide +kernel
theorem dJ13_bitCount_95d88_48 : decode cJ13_bitCount_95d88 48 = .ok (.lload_n 0, 1) := by decide +kernel
theorem dJ13_bitCount_95d88_49 : decode cJ13_bitCount_95d88 49 = .ok (.lload_n 0, 1) := by decide +kernel
theorem dJ13_bitCount_95d88_50 : decode cJ13_bitCount_95d88 50 = .ok (.bipush 32, 2) := by decide +kernel
theorem dJ13_bitCount_95d88_52 : decode cJ13_bitCount_95d88 52 = .ok (.lushr, 1) := by decide +kernel
theorem dJ13_bitCount_95d88_53 : decode cJ13_bitCount_95d88 53 = .ok (.ladd, 1) := by decide +kernel
theorem dJ13_bitCount_95d88_54 : decode cJ13_bitCount_95d88 54 = .ok (.lstore_n 0, 1) := by decide +kernel
theorem dJ13_bitCount_95d88_55 : decode cJ13_bitCount_95d88 55 = .ok (.lload_n 0, 1) := by decide +kernel
theorem dJ13_bitCount_95d88_56 : decode cJ13_bitCount_95d88 56 = .ok (.l2i, 1) := by decide +kernel
theorem dJ13_bitCount_95d88_57 : decode cJ13_bitCount_95d88 57 = .ok (.bipush 127, 2) := by decide +kernel
theorem dJ13_bitCount_95d88_59 : decode cJ13_bitCount_95d88 59 = .ok (.iand, 1) := by decide +kernel
theorem dJ13_bitCount_95d88_60 : decode cJ13_bitCount_95d88 60 = .ok (.ireturn, 1) := by decide +kernel
theorem dJ9_max_7cf53_0 : decode cJ9_max_7cf53 0 = .ok (.iload_n 0, 1) := by decide +kernel
theorem dJ9_max_7cf53_1 : decode cJ9_max_7cf53 1 = .ok (.iload_n 1, 1) := by decide +kernel
theorem dJ9_max_7cf53_2 : decode cJ9_max_7cf53 2 = .ok (.if_icmp .lt 7, 3) := by decide +kernel
theorem dJ9_max_7cf53_5 : decode cJ9_max_7cf53 5 = .ok (.iload_n 0, 1) := by decide +kernel
theorem dJ9_max_7cf53_6 : decode cJ9_max_7cf53 6 = .ok (.goto 4, 3) := by decide +kernel
theorem dJ9_max_7cf53_9 : decode cJ9_max_7cf53 9 = .ok (.iload_n 1, 1) := by decide +kernel
theorem dJ9_max_7cf53_10 : decode cJ9_max_7cf53 10 = .ok (.ireturn, 1) := by decide +kernel
theorem dJ9_min_7cf53_0 : decode cJ9_min_7cf53 0 = .ok (.iload_n 0, 1) := by decide +kernel
theorem dJ9_min_7cf53_1 : decode cJ9_min_7cf53 1 = .ok (.iload_n 1, 1) := by decide +kernel
theorem dJ9_min_7cf53_2 : decode cJ9_min_7cf53 2 = .ok (.if_icmp .gt 7, 3) := by decide +kernel
theorem dJ9_min_7cf53_5 : decode cJ9_min_7cf53 5 = .ok (.iload_n 0, 1) := by decide +kernel
theorem dJ9_min_7cf53_6 : decode cJ9_min_7cf53 6 = .ok (.goto 4, 3) := by decide +kernel
theorem dJ9_min_7cf53_9 : decode cJ9_min_7cf53 9 = .ok (.iload_n 1, 1) := by decide +kernel
theorem dJ9_min_7cf53_10 : decode cJ9_min_7cf53 10 = .ok (.ireturn, 1) := by decide +kernel
